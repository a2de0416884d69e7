/-! the walks of the methods, 4 -/
set_option maxRecDepth 100000 in
theorem e4_readParts : ∀ q ∈ ([(0, .iload_n 1, 1), (1, .ifCond .ne 11, 3), (4, .aload_n 0, 1), (5, .iconst 0, 1), (6, .bipush 99, 2), (8, .invokevirtual 161, 3), (11, .ireturn, 1), (12, .iload_n 1, 1), (13, .iconst 1, 1), (14, .if_icmp .ne 12, 3), (17, .aload_n 0, 1), (18, .iconst 0, 1), (19, .sipush 999, 3), (22, .invokevirtual 161, 3), (25, .ireturn, 1), (26, .aload_n 0, 1), (27, .iconst 1, 1), (28, .invokevirtual 158, 3), (31, .ifCond .ne 5, 3), (34, .iconst 0, 1), (35, .ireturn, 1), (36, .iload_n 1, 1), (37, .tableswitch 359 2 11 #[55, 359, 101, 136, 169, 195, 241, 265, 304, 350], 55), (92, .aload_n 0, 1), (93, .bipush 14, 2), (95, .invokevirtual 152, 3), (98, .ifCond .eq 38, 3), (101, .aload_n 0, 1), (102, .iconst 0, 1), (103, .sipush 1500, 3), (106, .invokevirtual 161, 3), (109, .ifCond .eq 27, 3), (112, .aload_n 0, 1), (113, .bipush 15, 2), (115, .invokevirtual 152, 3), (118, .ifCond .eq 18, 3), (121, .aload_n 0, 1), (122, .iconst 0, 1), (123, .sipush 1500, 3), (126, .invokevirtual 161, 3), (129, .ifCond .eq 7, 3), (132, .iconst 1, 1), (133, .goto 4, 3), (136, .iconst 0, 1), (137, .ireturn, 1), (138, .aload_n 0, 1), (139, .iconst 1, 1), (140, .bipush 8, 2), (142, .invokevirtual 161, 3), (145, .ifCond .eq 26, 3), (148, .aload_n 0, 1), (149, .bipush 47, 2), (151, .invokevirtual 152, 3), (154, .ifCond .eq 17, 3), (157, .aload_n 0, 1), (158, .iconst 1, 1), (159, .bipush 8, 2), (161, .invokevirtual 161, 3), (164, .ifCond .eq 7, 3), (167, .iconst 1, 1), (168, .goto 4, 3), (171, .iconst 0, 1), (172, .ireturn, 1), (173, .aload_n 0, 1), (174, .iconst 2, 1), (175, .invokevirtual 158, 3), (178, .ifCond .eq 26, 3), (181, .aload_n 0, 1), (182, .bipush 16, 2), (184, .invokevirtual 152, 3), (187, .ifCond .eq 17, 3), (190, .aload_n 0, 1), (191, .iconst 0, 1), (192, .bipush 40, 2), (194, .invokevirtual 161, 3), (197, .ifCond .eq 7, 3), (200, .iconst 1, 1), (201, .goto 4, 3), (204, .iconst 0, 1), (205, .ireturn, 1), (206, .aload_n 0, 1), (207, .bipush 17, 2), (209, .invokevirtual 152, 3), (212, .ifCond .eq 18, 3), (215, .aload_n 0, 1), (216, .iconst 0, 1), (217, .sipush 1500, 3), (220, .invokevirtual 161, 3), (223, .ifCond .eq 7, 3), (226, .iconst 1, 1), (227, .goto 4, 3), (230, .iconst 0, 1), (231, .ireturn, 1), (232, .aload_n 0, 1), (233, .bipush 18, 2), (235, .invokevirtual 152, 3), (238, .ifCond .eq 38, 3), (241, .aload_n 0, 1), (242, .iconst 1, 1), (243, .sipush 500, 3), (246, .invokevirtual 161, 3), (249, .ifCond .eq 27, 3), (252, .aload_n 0, 1), (253, .bipush 19, 2), (255, .invokevirtual 152, 3), (258, .ifCond .eq 18, 3), (261, .aload_n 0, 1), (262, .iconst 0, 1), (263, .sipush 255, 3), (266, .invokevirtual 161, 3), (269, .ifCond .eq 7, 3), (272, .iconst 1, 1), (273, .goto 4, 3), (276, .iconst 0, 1), (277, .ireturn, 1), (278, .aload_n 0, 1), (279, .bipush 20, 2), (281, .invokevirtual 152, 3), (284, .ifCond .eq 16, 3), (287, .aload_n 0, 1), (288, .iconst 0, 1), (289, .iconst 3, 1), (290, .invokevirtual 161, 3), (293, .ifCond .eq 7, 3), (296, .iconst 1, 1), (297, .goto 4, 3), (300, .iconst 0, 1), (301, .ireturn, 1), (302, .aload_n 0, 1), (303, .iconst 0, 1), (304, .sipush 128, 3), (307, .invokevirtual 161, 3), (310, .ifCond .eq 29, 3), (313, .aload_n 0, 1), (314, .iconst 0, 1), (315, .sipush 128, 3), (318, .invokevirtual 161, 3), (321, .ifCond .eq 18, 3), (324, .aload_n 0, 1), (325, .iconst 0, 1), (326, .sipush 128, 3), (329, .invokevirtual 161, 3), (332, .ifCond .eq 7, 3), (335, .iconst 1, 1), (336, .goto 4, 3), (339, .iconst 0, 1), (340, .ireturn, 1), (341, .aload_n 0, 1), (342, .bipush 21, 2), (344, .invokevirtual 152, 3), (347, .ifCond .eq 38, 3), (350, .aload_n 0, 1), (351, .iconst 0, 1), (352, .sipush 1500, 3), (355, .invokevirtual 161, 3), (358, .ifCond .eq 27, 3), (361, .aload_n 0, 1), (362, .bipush 22, 2), (364, .invokevirtual 152, 3), (367, .ifCond .eq 18, 3), (370, .aload_n 0, 1), (371, .iconst 0, 1), (372, .sipush 1500, 3), (375, .invokevirtual 161, 3), (378, .ifCond .eq 7, 3), (381, .iconst 1, 1), (382, .goto 4, 3), (385, .iconst 0, 1), (386, .ireturn, 1), (387, .aload_n 0, 1), (388, .iconst 0, 1), (389, .sipush 128, 3), (392, .invokevirtual 161, 3), (395, .ireturn, 1), (396, .iconst 1, 1), (397, .ireturn, 1)] : List (Nat × Instr × Nat)), decode cX4_readParts q.1 = .ok q.2 := by decide +kernel
set_option maxHeartbeats 4000000 in
set_option maxRecDepth 20000 in
theorem s4_readParts {Y : m_Y Bool} (S : m_Std Y RX4 cX4_readParts) (E : m_End Y cX4_readParts .ireturn (fun r => [m_i (m_b2i r)])) {F : Nat} (hF : m_Rm Y F) (hFn : 3 ≤ F) (hN : Y.2.2.2.1 = 2) (v0 v1 : Int) (h : m_H) : m_Sim Y 0 [(0, m_r v0), (1, m_i v1)] [] h (t4_readParts v0 v1 h) := by
  unfold t4_readParts
  refine ms_iload_n (pc := 0) S 1 rfl rfl (m_dec e4_readParts 0 rfl) ?_
  refine ms_if_ne (pc := 1) S (m_dec e4_readParts 1 rfl) rfl (fun q1 => ?_) (fun q1 => ?_)
  · refine ms_aload_n (pc := 4) S 0 rfl rfl (m_dec e4_readParts 2 rfl) ?_
    refine ms_iconst (pc := 5) S (m_dec e4_readParts 3 rfl) ?_
    refine ms_bipush (pc := 6) S (m_dec e4_readParts 4 rfl) rfl ?_
    refine ms_grd fun g2 => ?_
    refine ms_callVz (pc := 8) S hF (vals := [m_i 0, m_i 99]) (st := []) (hc := vw_4) (hci := by decide) (hcy := rfl) (ht := g2) (hC := (k4_passNumber _ _ v0 0 99 h)) (hM := lm_X4_161) (hfr := (Nat.le_trans (by decide) hFn)) (hstk := rfl) (hcat := Nat.le_of_ble_eq_true rfl) (hd := (m_dec e4_readParts 5 rfl)) (k1 := fun r4 h3 => ?_)
    exact ms_ret (pc := 11) E (m_dec e4_readParts 6 rfl) rfl
  · refine ms_iload_n (pc := 12) S 1 rfl rfl (m_dec e4_readParts 7 rfl) ?_
    refine ms_iconst (pc := 13) S (m_dec e4_readParts 8 rfl) ?_
    refine ms_icmp_ne (pc := 14) S (m_dec e4_readParts 9 rfl) rfl (fun q5 => ?_) (fun q5 => ?_)
    · refine ms_aload_n (pc := 17) S 0 rfl rfl (m_dec e4_readParts 10 rfl) ?_
      refine ms_iconst (pc := 18) S (m_dec e4_readParts 11 rfl) ?_
      refine ms_sipush (pc := 19) S (m_dec e4_readParts 12 rfl) rfl ?_
      refine ms_grd fun g6 => ?_
      refine ms_callVz (pc := 22) S hF (vals := [m_i 0, m_i 999]) (st := []) (hc := vw_4) (hci := by decide) (hcy := rfl) (ht := g6) (hC := (k4_passNumber _ _ v0 0 999 h)) (hM := lm_X4_161) (hfr := (Nat.le_trans (by decide) hFn)) (hstk := rfl) (hcat := Nat.le_of_ble_eq_true rfl) (hd := (m_dec e4_readParts 13 rfl)) (k1 := fun r8 h7 => ?_)
      exact ms_ret (pc := 25) E (m_dec e4_readParts 14 rfl) rfl
    · refine ms_aload_n (pc := 26) S 0 rfl rfl (m_dec e4_readParts 15 rfl) ?_
      refine ms_iconst (pc := 27) S (m_dec e4_readParts 16 rfl) ?_
      refine ms_grd fun g9 => ?_
      refine ms_callVz (pc := 28) S hF (vals := [m_i 1]) (st := []) (hc := vw_4) (hci := by decide) (hcy := rfl) (ht := g9) (hC := (k4_passRow _ _ v0 1 h)) (hM := lm_X4_158) (hfr := (Nat.le_trans (by decide) hFn)) (hstk := rfl) (hcat := Nat.le_of_ble_eq_true rfl) (hd := (m_dec e4_readParts 17 rfl)) (k1 := fun r11 h10 => ?_)
      refine ms_ifb_ne (pc := 31) S (m_dec e4_readParts 18 rfl) rfl (fun q12 => ?_) (fun q12 => ?_)
      · refine ms_iload_n (pc := 36) S 1 rfl rfl (m_dec e4_readParts 21 rfl) ?_
        refine ms_ite (fun q13 => ?_) (fun q13 => ?_)
        · refine ms_swIn (pc := 37) S (m_dec e4_readParts 22 rfl) 2 q13 (by decide) (by decide) rfl rfl ?_
          refine ms_aload_n (pc := 92) S 0 rfl rfl (m_dec e4_readParts 23 rfl) ?_
          refine ms_bipush (pc := 93) S (m_dec e4_readParts 24 rfl) rfl ?_
          refine ms_grd fun g14 => ?_
          refine ms_callVz (pc := 95) S hF (vals := [m_i 14]) (st := []) (hc := vw_4) (hci := by decide) (hcy := rfl) (ht := g14) (hC := (k4_pass _ _ v0 14 h10)) (hM := lm_X4_152) (hfr := (Nat.le_trans (by decide) hFn)) (hstk := rfl) (hcat := Nat.le_of_ble_eq_true rfl) (hd := (m_dec e4_readParts 25 rfl)) (k1 := fun r16 h15 => ?_)
          refine ms_ifb_eq (pc := 98) S (m_dec e4_readParts 26 rfl) rfl (fun q17 => ?_) (fun q17 => ?_)
          · refine ms_aload_n (pc := 101) S 0 rfl rfl (m_dec e4_readParts 27 rfl) ?_
            refine ms_iconst (pc := 102) S (m_dec e4_readParts 28 rfl) ?_
            refine ms_sipush (pc := 103) S (m_dec e4_readParts 29 rfl) rfl ?_
            refine ms_grd fun g18 => ?_
            refine ms_callVz (pc := 106) S hF (vals := [m_i 0, m_i 1500]) (st := []) (hc := vw_4) (hci := by decide) (hcy := rfl) (ht := g18) (hC := (k4_passNumber _ _ v0 0 1500 h15)) (hM := lm_X4_161) (hfr := (Nat.le_trans (by decide) hFn)) (hstk := rfl) (hcat := Nat.le_of_ble_eq_true rfl) (hd := (m_dec e4_readParts 30 rfl)) (k1 := fun r20 h19 => ?_)
            refine ms_ifb_eq (pc := 109) S (m_dec e4_readParts 31 rfl) rfl (fun q21 => ?_) (fun q21 => ?_)
            · refine ms_aload_n (pc := 112) S 0 rfl rfl (m_dec e4_readParts 32 rfl) ?_
              refine ms_bipush (pc := 113) S (m_dec e4_readParts 33 rfl) rfl ?_
              refine ms_grd fun g22 => ?_
              refine ms_callVz (pc := 115) S hF (vals := [m_i 15]) (st := []) (hc := vw_4) (hci := by decide) (hcy := rfl) (ht := g22) (hC := (k4_pass _ _ v0 15 h19)) (hM := lm_X4_152) (hfr := (Nat.le_trans (by decide) hFn)) (hstk := rfl) (hcat := Nat.le_of_ble_eq_true rfl) (hd := (m_dec e4_readParts 34 rfl)) (k1 := fun r24 h23 => ?_)
              refine ms_ifb_eq (pc := 118) S (m_dec e4_readParts 35 rfl) rfl (fun q25 => ?_) (fun q25 => ?_)
              · refine ms_aload_n (pc := 121) S 0 rfl rfl (m_dec e4_readParts 36 rfl) ?_
                refine ms_iconst (pc := 122) S (m_dec e4_readParts 37 rfl) ?_
                refine ms_sipush (pc := 123) S (m_dec e4_readParts 38 rfl) rfl ?_
                refine ms_grd fun g26 => ?_
                refine ms_callVz (pc := 126) S hF (vals := [m_i 0, m_i 1500]) (st := []) (hc := vw_4) (hci := by decide) (hcy := rfl) (ht := g26) (hC := (k4_passNumber _ _ v0 0 1500 h23)) (hM := lm_X4_161) (hfr := (Nat.le_trans (by decide) hFn)) (hstk := rfl) (hcat := Nat.le_of_ble_eq_true rfl) (hd := (m_dec e4_readParts 39 rfl)) (k1 := fun r28 h27 => ?_)
                refine ms_ifb_eq (pc := 129) S (m_dec e4_readParts 40 rfl) rfl (fun q29 => ?_) (fun q29 => ?_)
                · refine ms_iconst (pc := 132) S (m_dec e4_readParts 41 rfl) ?_
                  refine ms_goto (pc := 133) S (m_dec e4_readParts 42 rfl) rfl ?_
                  exact ms_ret (pc := 137) E (m_dec e4_readParts 44 rfl) rfl
                · refine ms_iconst (pc := 136) S (m_dec e4_readParts 43 rfl) ?_
                  exact ms_ret (pc := 137) E (m_dec e4_readParts 44 rfl) rfl
              · refine ms_iconst (pc := 136) S (m_dec e4_readParts 43 rfl) ?_
                exact ms_ret (pc := 137) E (m_dec e4_readParts 44 rfl) rfl
            · refine ms_iconst (pc := 136) S (m_dec e4_readParts 43 rfl) ?_
              exact ms_ret (pc := 137) E (m_dec e4_readParts 44 rfl) rfl
          · refine ms_iconst (pc := 136) S (m_dec e4_readParts 43 rfl) ?_
            exact ms_ret (pc := 137) E (m_dec e4_readParts 44 rfl) rfl
        · refine ms_ite (fun q30 => ?_) (fun q30 => ?_)
          · refine ms_swIn (pc := 37) S (m_dec e4_readParts 22 rfl) 3 q30 (by decide) (by decide) rfl rfl ?_
            refine ms_iconst (pc := 396) S (m_dec e4_readParts 174 rfl) ?_
            exact ms_ret (pc := 397) E (m_dec e4_readParts 175 rfl) rfl
          · refine ms_ite (fun q31 => ?_) (fun q31 => ?_)
            · refine ms_swIn (pc := 37) S (m_dec e4_readParts 22 rfl) 4 q31 (by decide) (by decide) rfl rfl ?_
              refine ms_aload_n (pc := 138) S 0 rfl rfl (m_dec e4_readParts 45 rfl) ?_
              refine ms_iconst (pc := 139) S (m_dec e4_readParts 46 rfl) ?_
              refine ms_bipush (pc := 140) S (m_dec e4_readParts 47 rfl) rfl ?_
              refine ms_grd fun g32 => ?_
              refine ms_callVz (pc := 142) S hF (vals := [m_i 1, m_i 8]) (st := []) (hc := vw_4) (hci := by decide) (hcy := rfl) (ht := g32) (hC := (k4_passNumber _ _ v0 1 8 h10)) (hM := lm_X4_161) (hfr := (Nat.le_trans (by decide) hFn)) (hstk := rfl) (hcat := Nat.le_of_ble_eq_true rfl) (hd := (m_dec e4_readParts 48 rfl)) (k1 := fun r34 h33 => ?_)
              refine ms_ifb_eq (pc := 145) S (m_dec e4_readParts 49 rfl) rfl (fun q35 => ?_) (fun q35 => ?_)
              · refine ms_aload_n (pc := 148) S 0 rfl rfl (m_dec e4_readParts 50 rfl) ?_
                refine ms_bipush (pc := 149) S (m_dec e4_readParts 51 rfl) rfl ?_
                refine ms_grd fun g36 => ?_
                refine ms_callVz (pc := 151) S hF (vals := [m_i 47]) (st := []) (hc := vw_4) (hci := by decide) (hcy := rfl) (ht := g36) (hC := (k4_pass _ _ v0 47 h33)) (hM := lm_X4_152) (hfr := (Nat.le_trans (by decide) hFn)) (hstk := rfl) (hcat := Nat.le_of_ble_eq_true rfl) (hd := (m_dec e4_readParts 52 rfl)) (k1 := fun r38 h37 => ?_)
                refine ms_ifb_eq (pc := 154) S (m_dec e4_readParts 53 rfl) rfl (fun q39 => ?_) (fun q39 => ?_)
                · refine ms_aload_n (pc := 157) S 0 rfl rfl (m_dec e4_readParts 54 rfl) ?_
                  refine ms_iconst (pc := 158) S (m_dec e4_readParts 55 rfl) ?_
                  refine ms_bipush (pc := 159) S (m_dec e4_readParts 56 rfl) rfl ?_
                  refine ms_grd fun g40 => ?_
                  refine ms_callVz (pc := 161) S hF (vals := [m_i 1, m_i 8]) (st := []) (hc := vw_4) (hci := by decide) (hcy := rfl) (ht := g40) (hC := (k4_passNumber _ _ v0 1 8 h37)) (hM := lm_X4_161) (hfr := (Nat.le_trans (by decide) hFn)) (hstk := rfl) (hcat := Nat.le_of_ble_eq_true rfl) (hd := (m_dec e4_readParts 57 rfl)) (k1 := fun r42 h41 => ?_)
                  refine ms_ifb_eq (pc := 164) S (m_dec e4_readParts 58 rfl) rfl (fun q43 => ?_) (fun q43 => ?_)
                  · refine ms_iconst (pc := 167) S (m_dec e4_readParts 59 rfl) ?_
                    refine ms_goto (pc := 168) S (m_dec e4_readParts 60 rfl) rfl ?_
                    exact ms_ret (pc := 172) E (m_dec e4_readParts 62 rfl) rfl
                  · refine ms_iconst (pc := 171) S (m_dec e4_readParts 61 rfl) ?_
                    exact ms_ret (pc := 172) E (m_dec e4_readParts 62 rfl) rfl
                · refine ms_iconst (pc := 171) S (m_dec e4_readParts 61 rfl) ?_
                  exact ms_ret (pc := 172) E (m_dec e4_readParts 62 rfl) rfl
              · refine ms_iconst (pc := 171) S (m_dec e4_readParts 61 rfl) ?_
                exact ms_ret (pc := 172) E (m_dec e4_readParts 62 rfl) rfl
            · refine ms_ite (fun q44 => ?_) (fun q44 => ?_)
              · refine ms_swIn (pc := 37) S (m_dec e4_readParts 22 rfl) 5 q44 (by decide) (by decide) rfl rfl ?_
                refine ms_aload_n (pc := 173) S 0 rfl rfl (m_dec e4_readParts 63 rfl) ?_
                refine ms_iconst (pc := 174) S (m_dec e4_readParts 64 rfl) ?_
                refine ms_grd fun g45 => ?_
                refine ms_callVz (pc := 175) S hF (vals := [m_i 2]) (st := []) (hc := vw_4) (hci := by decide) (hcy := rfl) (ht := g45) (hC := (k4_passRow _ _ v0 2 h10)) (hM := lm_X4_158) (hfr := (Nat.le_trans (by decide) hFn)) (hstk := rfl) (hcat := Nat.le_of_ble_eq_true rfl) (hd := (m_dec e4_readParts 65 rfl)) (k1 := fun r47 h46 => ?_)
                refine ms_ifb_eq (pc := 178) S (m_dec e4_readParts 66 rfl) rfl (fun q48 => ?_) (fun q48 => ?_)
                · refine ms_aload_n (pc := 181) S 0 rfl rfl (m_dec e4_readParts 67 rfl) ?_
                  refine ms_bipush (pc := 182) S (m_dec e4_readParts 68 rfl) rfl ?_
                  refine ms_grd fun g49 => ?_
                  refine ms_callVz (pc := 184) S hF (vals := [m_i 16]) (st := []) (hc := vw_4) (hci := by decide) (hcy := rfl) (ht := g49) (hC := (k4_pass _ _ v0 16 h46)) (hM := lm_X4_152) (hfr := (Nat.le_trans (by decide) hFn)) (hstk := rfl) (hcat := Nat.le_of_ble_eq_true rfl) (hd := (m_dec e4_readParts 69 rfl)) (k1 := fun r51 h50 => ?_)
                  refine ms_ifb_eq (pc := 187) S (m_dec e4_readParts 70 rfl) rfl (fun q52 => ?_) (fun q52 => ?_)
                  · refine ms_aload_n (pc := 190) S 0 rfl rfl (m_dec e4_readParts 71 rfl) ?_
                    refine ms_iconst (pc := 191) S (m_dec e4_readParts 72 rfl) ?_
                    refine ms_bipush (pc := 192) S (m_dec e4_readParts 73 rfl) rfl ?_
                    refine ms_grd fun g53 => ?_
                    refine ms_callVz (pc := 194) S hF (vals := [m_i 0, m_i 40]) (st := []) (hc := vw_4) (hci := by decide) (hcy := rfl) (ht := g53) (hC := (k4_passNumber _ _ v0 0 40 h50)) (hM := lm_X4_161) (hfr := (Nat.le_trans (by decide) hFn)) (hstk := rfl) (hcat := Nat.le_of_ble_eq_true rfl) (hd := (m_dec e4_readParts 74 rfl)) (k1 := fun r55 h54 => ?_)
                    refine ms_ifb_eq (pc := 197) S (m_dec e4_readParts 75 rfl) rfl (fun q56 => ?_) (fun q56 => ?_)
                    · refine ms_iconst (pc := 200) S (m_dec e4_readParts 76 rfl) ?_
                      refine ms_goto (pc := 201) S (m_dec e4_readParts 77 rfl) rfl ?_
                      exact ms_ret (pc := 205) E (m_dec e4_readParts 79 rfl) rfl
                    · refine ms_iconst (pc := 204) S (m_dec e4_readParts 78 rfl) ?_
                      exact ms_ret (pc := 205) E (m_dec e4_readParts 79 rfl) rfl
                  · refine ms_iconst (pc := 204) S (m_dec e4_readParts 78 rfl) ?_
                    exact ms_ret (pc := 205) E (m_dec e4_readParts 79 rfl) rfl
                · refine ms_iconst (pc := 204) S (m_dec e4_readParts 78 rfl) ?_
                  exact ms_ret (pc := 205) E (m_dec e4_readParts 79 rfl) rfl
              · refine ms_ite (fun q57 => ?_) (fun q57 => ?_)
                · refine ms_swIn (pc := 37) S (m_dec e4_readParts 22 rfl) 6 q57 (by decide) (by decide) rfl rfl ?_
                  refine ms_aload_n (pc := 206) S 0 rfl rfl (m_dec e4_readParts 80 rfl) ?_
                  refine ms_bipush (pc := 207) S (m_dec e4_readParts 81 rfl) rfl ?_
                  refine ms_grd fun g58 => ?_
                  refine ms_callVz (pc := 209) S hF (vals := [m_i 17]) (st := []) (hc := vw_4) (hci := by decide) (hcy := rfl) (ht := g58) (hC := (k4_pass _ _ v0 17 h10)) (hM := lm_X4_152) (hfr := (Nat.le_trans (by decide) hFn)) (hstk := rfl) (hcat := Nat.le_of_ble_eq_true rfl) (hd := (m_dec e4_readParts 82 rfl)) (k1 := fun r60 h59 => ?_)
                  refine ms_ifb_eq (pc := 212) S (m_dec e4_readParts 83 rfl) rfl (fun q61 => ?_) (fun q61 => ?_)
                  · refine ms_aload_n (pc := 215) S 0 rfl rfl (m_dec e4_readParts 84 rfl) ?_
                    refine ms_iconst (pc := 216) S (m_dec e4_readParts 85 rfl) ?_
                    refine ms_sipush (pc := 217) S (m_dec e4_readParts 86 rfl) rfl ?_
                    refine ms_grd fun g62 => ?_
                    refine ms_callVz (pc := 220) S hF (vals := [m_i 0, m_i 1500]) (st := []) (hc := vw_4) (hci := by decide) (hcy := rfl) (ht := g62) (hC := (k4_passNumber _ _ v0 0 1500 h59)) (hM := lm_X4_161) (hfr := (Nat.le_trans (by decide) hFn)) (hstk := rfl) (hcat := Nat.le_of_ble_eq_true rfl) (hd := (m_dec e4_readParts 87 rfl)) (k1 := fun r64 h63 => ?_)
                    refine ms_ifb_eq (pc := 223) S (m_dec e4_readParts 88 rfl) rfl (fun q65 => ?_) (fun q65 => ?_)
                    · refine ms_iconst (pc := 226) S (m_dec e4_readParts 89 rfl) ?_
                      refine ms_goto (pc := 227) S (m_dec e4_readParts 90 rfl) rfl ?_
                      exact ms_ret (pc := 231) E (m_dec e4_readParts 92 rfl) rfl
                    · refine ms_iconst (pc := 230) S (m_dec e4_readParts 91 rfl) ?_
                      exact ms_ret (pc := 231) E (m_dec e4_readParts 92 rfl) rfl
                  · refine ms_iconst (pc := 230) S (m_dec e4_readParts 91 rfl) ?_
                    exact ms_ret (pc := 231) E (m_dec e4_readParts 92 rfl) rfl
                · refine ms_ite (fun q66 => ?_) (fun q66 => ?_)
                  · refine ms_swIn (pc := 37) S (m_dec e4_readParts 22 rfl) 7 q66 (by decide) (by decide) rfl rfl ?_
                    refine ms_aload_n (pc := 232) S 0 rfl rfl (m_dec e4_readParts 93 rfl) ?_
                    refine ms_bipush (pc := 233) S (m_dec e4_readParts 94 rfl) rfl ?_
                    refine ms_grd fun g67 => ?_
                    refine ms_callVz (pc := 235) S hF (vals := [m_i 18]) (st := []) (hc := vw_4) (hci := by decide) (hcy := rfl) (ht := g67) (hC := (k4_pass _ _ v0 18 h10)) (hM := lm_X4_152) (hfr := (Nat.le_trans (by decide) hFn)) (hstk := rfl) (hcat := Nat.le_of_ble_eq_true rfl) (hd := (m_dec e4_readParts 95 rfl)) (k1 := fun r69 h68 => ?_)
                    refine ms_ifb_eq (pc := 238) S (m_dec e4_readParts 96 rfl) rfl (fun q70 => ?_) (fun q70 => ?_)
                    · refine ms_aload_n (pc := 241) S 0 rfl rfl (m_dec e4_readParts 97 rfl) ?_
                      refine ms_iconst (pc := 242) S (m_dec e4_readParts 98 rfl) ?_
                      refine ms_sipush (pc := 243) S (m_dec e4_readParts 99 rfl) rfl ?_
                      refine ms_grd fun g71 => ?_
                      refine ms_callVz (pc := 246) S hF (vals := [m_i 1, m_i 500]) (st := []) (hc := vw_4) (hci := by decide) (hcy := rfl) (ht := g71) (hC := (k4_passNumber _ _ v0 1 500 h68)) (hM := lm_X4_161) (hfr := (Nat.le_trans (by decide) hFn)) (hstk := rfl) (hcat := Nat.le_of_ble_eq_true rfl) (hd := (m_dec e4_readParts 100 rfl)) (k1 := fun r73 h72 => ?_)
                      refine ms_ifb_eq (pc := 249) S (m_dec e4_readParts 101 rfl) rfl (fun q74 => ?_) (fun q74 => ?_)
                      · refine ms_aload_n (pc := 252) S 0 rfl rfl (m_dec e4_readParts 102 rfl) ?_
                        refine ms_bipush (pc := 253) S (m_dec e4_readParts 103 rfl) rfl ?_
                        refine ms_grd fun g75 => ?_
                        refine ms_callVz (pc := 255) S hF (vals := [m_i 19]) (st := []) (hc := vw_4) (hci := by decide) (hcy := rfl) (ht := g75) (hC := (k4_pass _ _ v0 19 h72)) (hM := lm_X4_152) (hfr := (Nat.le_trans (by decide) hFn)) (hstk := rfl) (hcat := Nat.le_of_ble_eq_true rfl) (hd := (m_dec e4_readParts 104 rfl)) (k1 := fun r77 h76 => ?_)
                        refine ms_ifb_eq (pc := 258) S (m_dec e4_readParts 105 rfl) rfl (fun q78 => ?_) (fun q78 => ?_)
                        · refine ms_aload_n (pc := 261) S 0 rfl rfl (m_dec e4_readParts 106 rfl) ?_
                          refine ms_iconst (pc := 262) S (m_dec e4_readParts 107 rfl) ?_
                          refine ms_sipush (pc := 263) S (m_dec e4_readParts 108 rfl) rfl ?_
                          refine ms_grd fun g79 => ?_
                          refine ms_callVz (pc := 266) S hF (vals := [m_i 0, m_i 255]) (st := []) (hc := vw_4) (hci := by decide) (hcy := rfl) (ht := g79) (hC := (k4_passNumber _ _ v0 0 255 h76)) (hM := lm_X4_161) (hfr := (Nat.le_trans (by decide) hFn)) (hstk := rfl) (hcat := Nat.le_of_ble_eq_true rfl) (hd := (m_dec e4_readParts 109 rfl)) (k1 := fun r81 h80 => ?_)
                          refine ms_ifb_eq (pc := 269) S (m_dec e4_readParts 110 rfl) rfl (fun q82 => ?_) (fun q82 => ?_)
                          · refine ms_iconst (pc := 272) S (m_dec e4_readParts 111 rfl) ?_
                            refine ms_goto (pc := 273) S (m_dec e4_readParts 112 rfl) rfl ?_
                            exact ms_ret (pc := 277) E (m_dec e4_readParts 114 rfl) rfl
                          · refine ms_iconst (pc := 276) S (m_dec e4_readParts 113 rfl) ?_
                            exact ms_ret (pc := 277) E (m_dec e4_readParts 114 rfl) rfl
                        · refine ms_iconst (pc := 276) S (m_dec e4_readParts 113 rfl) ?_
                          exact ms_ret (pc := 277) E (m_dec e4_readParts 114 rfl) rfl
                      · refine ms_iconst (pc := 276) S (m_dec e4_readParts 113 rfl) ?_
                        exact ms_ret (pc := 277) E (m_dec e4_readParts 114 rfl) rfl
                    · refine ms_iconst (pc := 276) S (m_dec e4_readParts 113 rfl) ?_
                      exact ms_ret (pc := 277) E (m_dec e4_readParts 114 rfl) rfl
                  · refine ms_ite (fun q83 => ?_) (fun q83 => ?_)
                    · refine ms_swIn (pc := 37) S (m_dec e4_readParts 22 rfl) 8 q83 (by decide) (by decide) rfl rfl ?_
                      refine ms_aload_n (pc := 278) S 0 rfl rfl (m_dec e4_readParts 115 rfl) ?_
                      refine ms_bipush (pc := 279) S (m_dec e4_readParts 116 rfl) rfl ?_
                      refine ms_grd fun g84 => ?_
                      refine ms_callVz (pc := 281) S hF (vals := [m_i 20]) (st := []) (hc := vw_4) (hci := by decide) (hcy := rfl) (ht := g84) (hC := (k4_pass _ _ v0 20 h10)) (hM := lm_X4_152) (hfr := (Nat.le_trans (by decide) hFn)) (hstk := rfl) (hcat := Nat.le_of_ble_eq_true rfl) (hd := (m_dec e4_readParts 117 rfl)) (k1 := fun r86 h85 => ?_)
                      refine ms_ifb_eq (pc := 284) S (m_dec e4_readParts 118 rfl) rfl (fun q87 => ?_) (fun q87 => ?_)
                      · refine ms_aload_n (pc := 287) S 0 rfl rfl (m_dec e4_readParts 119 rfl) ?_
                        refine ms_iconst (pc := 288) S (m_dec e4_readParts 120 rfl) ?_
                        refine ms_iconst (pc := 289) S (m_dec e4_readParts 121 rfl) ?_
                        refine ms_grd fun g88 => ?_
                        refine ms_callVz (pc := 290) S hF (vals := [m_i 0, m_i 3]) (st := []) (hc := vw_4) (hci := by decide) (hcy := rfl) (ht := g88) (hC := (k4_passNumber _ _ v0 0 3 h85)) (hM := lm_X4_161) (hfr := (Nat.le_trans (by decide) hFn)) (hstk := rfl) (hcat := Nat.le_of_ble_eq_true rfl) (hd := (m_dec e4_readParts 122 rfl)) (k1 := fun r90 h89 => ?_)
                        refine ms_ifb_eq (pc := 293) S (m_dec e4_readParts 123 rfl) rfl (fun q91 => ?_) (fun q91 => ?_)
                        · refine ms_iconst (pc := 296) S (m_dec e4_readParts 124 rfl) ?_
                          refine ms_goto (pc := 297) S (m_dec e4_readParts 125 rfl) rfl ?_
                          exact ms_ret (pc := 301) E (m_dec e4_readParts 127 rfl) rfl
                        · refine ms_iconst (pc := 300) S (m_dec e4_readParts 126 rfl) ?_
                          exact ms_ret (pc := 301) E (m_dec e4_readParts 127 rfl) rfl
                      · refine ms_iconst (pc := 300) S (m_dec e4_readParts 126 rfl) ?_
                        exact ms_ret (pc := 301) E (m_dec e4_readParts 127 rfl) rfl
                    · refine ms_ite (fun q92 => ?_) (fun q92 => ?_)
                      · refine ms_swIn (pc := 37) S (m_dec e4_readParts 22 rfl) 9 q92 (by decide) (by decide) rfl rfl ?_
                        refine ms_aload_n (pc := 302) S 0 rfl rfl (m_dec e4_readParts 128 rfl) ?_
                        refine ms_iconst (pc := 303) S (m_dec e4_readParts 129 rfl) ?_
                        refine ms_sipush (pc := 304) S (m_dec e4_readParts 130 rfl) rfl ?_
                        refine ms_grd fun g93 => ?_
                        refine ms_callVz (pc := 307) S hF (vals := [m_i 0, m_i 128]) (st := []) (hc := vw_4) (hci := by decide) (hcy := rfl) (ht := g93) (hC := (k4_passNumber _ _ v0 0 128 h10)) (hM := lm_X4_161) (hfr := (Nat.le_trans (by decide) hFn)) (hstk := rfl) (hcat := Nat.le_of_ble_eq_true rfl) (hd := (m_dec e4_readParts 131 rfl)) (k1 := fun r95 h94 => ?_)
                        refine ms_ifb_eq (pc := 310) S (m_dec e4_readParts 132 rfl) rfl (fun q96 => ?_) (fun q96 => ?_)
                        · refine ms_aload_n (pc := 313) S 0 rfl rfl (m_dec e4_readParts 133 rfl) ?_
                          refine ms_iconst (pc := 314) S (m_dec e4_readParts 134 rfl) ?_
                          refine ms_sipush (pc := 315) S (m_dec e4_readParts 135 rfl) rfl ?_
                          refine ms_grd fun g97 => ?_
                          refine ms_callVz (pc := 318) S hF (vals := [m_i 0, m_i 128]) (st := []) (hc := vw_4) (hci := by decide) (hcy := rfl) (ht := g97) (hC := (k4_passNumber _ _ v0 0 128 h94)) (hM := lm_X4_161) (hfr := (Nat.le_trans (by decide) hFn)) (hstk := rfl) (hcat := Nat.le_of_ble_eq_true rfl) (hd := (m_dec e4_readParts 136 rfl)) (k1 := fun r99 h98 => ?_)
                          refine ms_ifb_eq (pc := 321) S (m_dec e4_readParts 137 rfl) rfl (fun q100 => ?_) (fun q100 => ?_)
                          · refine ms_aload_n (pc := 324) S 0 rfl rfl (m_dec e4_readParts 138 rfl) ?_
                            refine ms_iconst (pc := 325) S (m_dec e4_readParts 139 rfl) ?_
                            refine ms_sipush (pc := 326) S (m_dec e4_readParts 140 rfl) rfl ?_
                            refine ms_grd fun g101 => ?_
                            refine ms_callVz (pc := 329) S hF (vals := [m_i 0, m_i 128]) (st := []) (hc := vw_4) (hci := by decide) (hcy := rfl) (ht := g101) (hC := (k4_passNumber _ _ v0 0 128 h98)) (hM := lm_X4_161) (hfr := (Nat.le_trans (by decide) hFn)) (hstk := rfl) (hcat := Nat.le_of_ble_eq_true rfl) (hd := (m_dec e4_readParts 141 rfl)) (k1 := fun r103 h102 => ?_)
                            refine ms_ifb_eq (pc := 332) S (m_dec e4_readParts 142 rfl) rfl (fun q104 => ?_) (fun q104 => ?_)
                            · refine ms_iconst (pc := 335) S (m_dec e4_readParts 143 rfl) ?_
                              refine ms_goto (pc := 336) S (m_dec e4_readParts 144 rfl) rfl ?_
                              exact ms_ret (pc := 340) E (m_dec e4_readParts 146 rfl) rfl
                            · refine ms_iconst (pc := 339) S (m_dec e4_readParts 145 rfl) ?_
                              exact ms_ret (pc := 340) E (m_dec e4_readParts 146 rfl) rfl
                          · refine ms_iconst (pc := 339) S (m_dec e4_readParts 145 rfl) ?_
                            exact ms_ret (pc := 340) E (m_dec e4_readParts 146 rfl) rfl
                        · refine ms_iconst (pc := 339) S (m_dec e4_readParts 145 rfl) ?_
                          exact ms_ret (pc := 340) E (m_dec e4_readParts 146 rfl) rfl
                      · refine ms_ite (fun q105 => ?_) (fun q105 => ?_)
                        · refine ms_swIn (pc := 37) S (m_dec e4_readParts 22 rfl) 10 q105 (by decide) (by decide) rfl rfl ?_
                          refine ms_aload_n (pc := 341) S 0 rfl rfl (m_dec e4_readParts 147 rfl) ?_
                          refine ms_bipush (pc := 342) S (m_dec e4_readParts 148 rfl) rfl ?_
                          refine ms_grd fun g106 => ?_
                          refine ms_callVz (pc := 344) S hF (vals := [m_i 21]) (st := []) (hc := vw_4) (hci := by decide) (hcy := rfl) (ht := g106) (hC := (k4_pass _ _ v0 21 h10)) (hM := lm_X4_152) (hfr := (Nat.le_trans (by decide) hFn)) (hstk := rfl) (hcat := Nat.le_of_ble_eq_true rfl) (hd := (m_dec e4_readParts 149 rfl)) (k1 := fun r108 h107 => ?_)
                          refine ms_ifb_eq (pc := 347) S (m_dec e4_readParts 150 rfl) rfl (fun q109 => ?_) (fun q109 => ?_)
                          · refine ms_aload_n (pc := 350) S 0 rfl rfl (m_dec e4_readParts 151 rfl) ?_
                            refine ms_iconst (pc := 351) S (m_dec e4_readParts 152 rfl) ?_
                            refine ms_sipush (pc := 352) S (m_dec e4_readParts 153 rfl) rfl ?_
                            refine ms_grd fun g110 => ?_
                            refine ms_callVz (pc := 355) S hF (vals := [m_i 0, m_i 1500]) (st := []) (hc := vw_4) (hci := by decide) (hcy := rfl) (ht := g110) (hC := (k4_passNumber _ _ v0 0 1500 h107)) (hM := lm_X4_161) (hfr := (Nat.le_trans (by decide) hFn)) (hstk := rfl) (hcat := Nat.le_of_ble_eq_true rfl) (hd := (m_dec e4_readParts 154 rfl)) (k1 := fun r112 h111 => ?_)
                            refine ms_ifb_eq (pc := 358) S (m_dec e4_readParts 155 rfl) rfl (fun q113 => ?_) (fun q113 => ?_)
                            · refine ms_aload_n (pc := 361) S 0 rfl rfl (m_dec e4_readParts 156 rfl) ?_
                              refine ms_bipush (pc := 362) S (m_dec e4_readParts 157 rfl) rfl ?_
                              refine ms_grd fun g114 => ?_
                              refine ms_callVz (pc := 364) S hF (vals := [m_i 22]) (st := []) (hc := vw_4) (hci := by decide) (hcy := rfl) (ht := g114) (hC := (k4_pass _ _ v0 22 h111)) (hM := lm_X4_152) (hfr := (Nat.le_trans (by decide) hFn)) (hstk := rfl) (hcat := Nat.le_of_ble_eq_true rfl) (hd := (m_dec e4_readParts 158 rfl)) (k1 := fun r116 h115 => ?_)
                              refine ms_ifb_eq (pc := 367) S (m_dec e4_readParts 159 rfl) rfl (fun q117 => ?_) (fun q117 => ?_)
                              · refine ms_aload_n (pc := 370) S 0 rfl rfl (m_dec e4_readParts 160 rfl) ?_
                                refine ms_iconst (pc := 371) S (m_dec e4_readParts 161 rfl) ?_
                                refine ms_sipush (pc := 372) S (m_dec e4_readParts 162 rfl) rfl ?_
                                refine ms_grd fun g118 => ?_
                                refine ms_callVz (pc := 375) S hF (vals := [m_i 0, m_i 1500]) (st := []) (hc := vw_4) (hci := by decide) (hcy := rfl) (ht := g118) (hC := (k4_passNumber _ _ v0 0 1500 h115)) (hM := lm_X4_161) (hfr := (Nat.le_trans (by decide) hFn)) (hstk := rfl) (hcat := Nat.le_of_ble_eq_true rfl) (hd := (m_dec e4_readParts 163 rfl)) (k1 := fun r120 h119 => ?_)
                                refine ms_ifb_eq (pc := 378) S (m_dec e4_readParts 164 rfl) rfl (fun q121 => ?_) (fun q121 => ?_)
                                · refine ms_iconst (pc := 381) S (m_dec e4_readParts 165 rfl) ?_
                                  refine ms_goto (pc := 382) S (m_dec e4_readParts 166 rfl) rfl ?_
                                  exact ms_ret (pc := 386) E (m_dec e4_readParts 168 rfl) rfl
                                · refine ms_iconst (pc := 385) S (m_dec e4_readParts 167 rfl) ?_
                                  exact ms_ret (pc := 386) E (m_dec e4_readParts 168 rfl) rfl
                              · refine ms_iconst (pc := 385) S (m_dec e4_readParts 167 rfl) ?_
                                exact ms_ret (pc := 386) E (m_dec e4_readParts 168 rfl) rfl
                            · refine ms_iconst (pc := 385) S (m_dec e4_readParts 167 rfl) ?_
                              exact ms_ret (pc := 386) E (m_dec e4_readParts 168 rfl) rfl
                          · refine ms_iconst (pc := 385) S (m_dec e4_readParts 167 rfl) ?_
                            exact ms_ret (pc := 386) E (m_dec e4_readParts 168 rfl) rfl
                        · refine ms_ite (fun q122 => ?_) (fun q122 => ?_)
                          · refine ms_swIn (pc := 37) S (m_dec e4_readParts 22 rfl) 11 q122 (by decide) (by decide) rfl rfl ?_
                            refine ms_aload_n (pc := 387) S 0 rfl rfl (m_dec e4_readParts 169 rfl) ?_
                            refine ms_iconst (pc := 388) S (m_dec e4_readParts 170 rfl) ?_
                            refine ms_sipush (pc := 389) S (m_dec e4_readParts 171 rfl) rfl ?_
                            refine ms_grd fun g123 => ?_
                            refine ms_callVz (pc := 392) S hF (vals := [m_i 0, m_i 128]) (st := []) (hc := vw_4) (hci := by decide) (hcy := rfl) (ht := g123) (hC := (k4_passNumber _ _ v0 0 128 h10)) (hM := lm_X4_161) (hfr := (Nat.le_trans (by decide) hFn)) (hstk := rfl) (hcat := Nat.le_of_ble_eq_true rfl) (hd := (m_dec e4_readParts 172 rfl)) (k1 := fun r125 h124 => ?_)
                            exact ms_ret (pc := 395) E (m_dec e4_readParts 173 rfl) rfl
                          · refine ms_swOut (pc := 37) (a := v1) S (m_dec e4_readParts 22 rfl) (by omega) rfl ?_
                            refine ms_iconst (pc := 396) S (m_dec e4_readParts 174 rfl) ?_
                            exact ms_ret (pc := 397) E (m_dec e4_readParts 175 rfl) rfl
      · refine ms_iconst (pc := 34) S (m_dec e4_readParts 19 rfl) ?_
        exact ms_ret (pc := 35) E (m_dec e4_readParts 20 rfl) rfl
theorem k4_readParts (l : Launch) (d : m_D) (v0 v1 : Int) (h : m_H) : m_Con l d yX4_readParts cX4_readParts 2 (some .boolean) 3 (fun r => [m_i (m_b2i r)]) [m_r v0, m_i v1] h (t4_readParts v0 v1 h) :=
  m_con2 (by decide +kernel) (Nat.le_of_ble_eq_true rfl) (fun Y hN hRm hr hI S hfin => s4_readParts S (m_end_z S hr hfin) hRm (Nat.le_refl _) hN v0 v1 h)
set_option maxRecDepth 100000 in
theorem e4_readMaking : ∀ q ∈ ([(0, .aload_n 0, 1), (1, .getfield 29, 3), (4, .getfield 50, 3), (7, .bipush 40, 2), (9, .if_icmp .ge 20, 3), (12, .aload_n 0, 1), (13, .invokevirtual 53, 3), (16, .bipush 24, 2), (18, .if_icmp .ne 11, 3), (21, .aload_n 0, 1), (22, .invokevirtual 149, 3), (25, .iconst (-1), 1), (26, .if_icmp .eq 5, 3), (29, .iconst 0, 1), (30, .ireturn, 1), (31, .aload_n 0, 1), (32, .invokevirtual 136, 3), (35, .istore_n 1, 1), (36, .aload_n 0, 1), (37, .dup, 1), (38, .getfield 47, 3), (41, .iconst 1, 1), (42, .iadd, 1), (43, .putfield 47, 3), (46, .aload_n 0, 1), (47, .bipush 61, 2), (49, .invokevirtual 152, 3), (52, .ifCond .ne 5, 3), (55, .iconst 0, 1), (56, .ireturn, 1), (57, .aload_n 0, 1), (58, .invokevirtual 53, 3), (61, .istore_n 2, 1), (62, .iload_n 2, 1), (63, .ifCond .lt 9, 3), (66, .iload_n 2, 1), (67, .bipush 11, 2), (69, .if_icmp .le 5, 3), (72, .iconst 0, 1), (73, .ireturn, 1), (74, .aload_n 0, 1), (75, .dup, 1), (76, .getfield 47, 3), (79, .iconst 1, 1), (80, .iadd, 1), (81, .putfield 47, 3), (84, .aload_n 0, 1), (85, .iload_n 2, 1), (86, .iload_n 1, 1), (87, .invokevirtual 155, 3), (90, .aload_n 0, 1), (91, .iload_n 2, 1), (92, .invokevirtual 167, 3), (95, .ifCond .eq 14, 3), (98, .aload_n 0, 1), (99, .invokevirtual 164, 3), (102, .ifCond .eq 7, 3), (105, .iconst 1, 1), (106, .goto 4, 3), (109, .iconst 0, 1), (110, .ireturn, 1)] : List (Nat × Instr × Nat)), decode cX4_readMaking q.1 = .ok q.2 := by decide +kernel
set_option maxHeartbeats 4000000 in
set_option maxRecDepth 20000 in
theorem s4_readMaking {Y : m_Y Bool} (S : m_Std Y RX4 cX4_readMaking) (E : m_End Y cX4_readMaking .ireturn (fun r => [m_i (m_b2i r)])) {F : Nat} (hF : m_Rm Y F) (hFn : 4 ≤ F) (hN : Y.2.2.2.1 = 3) (v0 : Int) (h : m_H) : m_Sim Y 0 [(0, m_r v0)] [] h (t4_readMaking v0 h) := by
  unfold t4_readMaking
  refine ms_aload_n (pc := 0) S 0 rfl rfl (m_dec e4_readMaking 0 rfl) ?_
  refine ms_grd fun g1 => ?_
  refine ms_getf (pc := 1) S lf_X4_29 rfl (m_dec e4_readMaking 1 rfl) g1 ?_
  refine ms_grd fun g2 => ?_
  refine ms_getf (pc := 4) S lf_X4_50 rfl (m_dec e4_readMaking 2 rfl) g2 ?_
  refine ms_bipush (pc := 7) S (m_dec e4_readMaking 3 rfl) rfl ?_
  refine ms_icmp_ge (pc := 9) S (m_dec e4_readMaking 4 rfl) rfl (fun q3 => ?_) (fun q3 => ?_)
  · refine ms_aload_n (pc := 12) S 0 rfl rfl (m_dec e4_readMaking 5 rfl) ?_
    refine ms_callVi (pc := 13) S hF (vals := []) (st := []) (hc := vw_4) (hci := by decide) (hcy := rfl) (ht := g1) (hC := (k4_kind _ _ v0 h)) (hM := lm_X4_53) (hfr := (Nat.le_trans (by decide) hFn)) (hstk := rfl) (hcat := Nat.le_of_ble_eq_true rfl) (hd := (m_dec e4_readMaking 6 rfl)) (k1 := fun r5 h4 => ?_)
    refine ms_bipush (pc := 16) S (m_dec e4_readMaking 7 rfl) rfl ?_
    refine ms_icmp_ne (pc := 18) S (m_dec e4_readMaking 8 rfl) rfl (fun q6 => ?_) (fun q6 => ?_)
    · refine ms_aload_n (pc := 21) S 0 rfl rfl (m_dec e4_readMaking 9 rfl) ?_
      refine ms_grd fun g7 => ?_
      refine ms_callVi (pc := 22) S hF (vals := []) (st := []) (hc := vw_4) (hci := by decide) (hcy := rfl) (ht := g7) (hC := (k4_namedOrder _ _ v0 h4)) (hM := lm_X4_149) (hfr := (Nat.le_trans (by decide) hFn)) (hstk := rfl) (hcat := Nat.le_of_ble_eq_true rfl) (hd := (m_dec e4_readMaking 10 rfl)) (k1 := fun r9 h8 => ?_)
      refine ms_iconst (pc := 25) S (m_dec e4_readMaking 11 rfl) ?_
      refine ms_icmp_eq (pc := 26) S (m_dec e4_readMaking 12 rfl) rfl (fun q10 => ?_) (fun q10 => ?_)
      · refine ms_aload_n (pc := 31) S 0 rfl rfl (m_dec e4_readMaking 15 rfl) ?_
        refine ms_grd fun g11 => ?_
        refine ms_callVi (pc := 32) S hF (vals := []) (st := []) (hc := vw_4) (hci := by decide) (hcy := rfl) (ht := g11) (hC := (k4_value _ _ v0 h8)) (hM := lm_X4_136) (hfr := (Nat.le_trans (by decide) hFn)) (hstk := rfl) (hcat := Nat.le_of_ble_eq_true rfl) (hd := (m_dec e4_readMaking 16 rfl)) (k1 := fun r13 h12 => ?_)
        refine ms_istore_n (pc := 35) S (L' := [(0, m_r v0), (1, m_i r13)]) [1, 0] rfl rfl (m_lt hN rfl) (m_dec e4_readMaking 17 rfl) ?_
        refine ms_aload_n (pc := 36) S 0 rfl rfl (m_dec e4_readMaking 18 rfl) ?_
        refine ms_dup (pc := 37) S rfl (m_dec e4_readMaking 19 rfl) ?_
        refine ms_grd fun g14 => ?_
        refine ms_getf (pc := 38) S lf_X4_47 rfl (m_dec e4_readMaking 20 rfl) g14 ?_
        refine ms_iconst (pc := 41) S (m_dec e4_readMaking 21 rfl) ?_
        refine ms_iadd (pc := 42) S (m_dec e4_readMaking 22 rfl) ?_
        refine ms_putf (pc := 43) S lp_X4_47 (fun z => by cases z) rfl (fun d => m_fitI d _) (m_dec e4_readMaking 23 rfl) g14 (fun h15 => ?_)
        refine ms_aload_n (pc := 46) S 0 rfl rfl (m_dec e4_readMaking 24 rfl) ?_
        refine ms_bipush (pc := 47) S (m_dec e4_readMaking 25 rfl) rfl ?_
        refine ms_grd fun g16 => ?_
        refine ms_callVz (pc := 49) S hF (vals := [m_i 61]) (st := []) (hc := vw_4) (hci := by decide) (hcy := rfl) (ht := g16) (hC := (k4_pass _ _ v0 61 h15)) (hM := lm_X4_152) (hfr := (Nat.le_trans (by decide) hFn)) (hstk := rfl) (hcat := Nat.le_of_ble_eq_true rfl) (hd := (m_dec e4_readMaking 26 rfl)) (k1 := fun r18 h17 => ?_)
        refine ms_ifb_ne (pc := 52) S (m_dec e4_readMaking 27 rfl) rfl (fun q19 => ?_) (fun q19 => ?_)
        · refine ms_aload_n (pc := 57) S 0 rfl rfl (m_dec e4_readMaking 30 rfl) ?_
          refine ms_grd fun g20 => ?_
          refine ms_callVi (pc := 58) S hF (vals := []) (st := []) (hc := vw_4) (hci := by decide) (hcy := rfl) (ht := g20) (hC := (k4_kind _ _ v0 h17)) (hM := lm_X4_53) (hfr := (Nat.le_trans (by decide) hFn)) (hstk := rfl) (hcat := Nat.le_of_ble_eq_true rfl) (hd := (m_dec e4_readMaking 31 rfl)) (k1 := fun r22 h21 => ?_)
          refine ms_istore_n (pc := 61) S (L' := [(0, m_r v0), (1, m_i r13), (2, m_i r22)]) [1, 2, 0] rfl rfl (m_lt hN rfl) (m_dec e4_readMaking 32 rfl) ?_
          refine ms_iload_n (pc := 62) S 2 rfl rfl (m_dec e4_readMaking 33 rfl) ?_
          refine ms_if_lt (pc := 63) S (m_dec e4_readMaking 34 rfl) rfl (fun q23 => ?_) (fun q23 => ?_)
          · refine ms_iconst (pc := 72) S (m_dec e4_readMaking 38 rfl) ?_
            exact ms_ret (pc := 73) E (m_dec e4_readMaking 39 rfl) rfl
          · refine ms_iload_n (pc := 66) S 2 rfl rfl (m_dec e4_readMaking 35 rfl) ?_
            refine ms_bipush (pc := 67) S (m_dec e4_readMaking 36 rfl) rfl ?_
            refine ms_icmp_le (pc := 69) S (m_dec e4_readMaking 37 rfl) rfl (fun q24 => ?_) (fun q24 => ?_)
            · refine ms_iconst (pc := 72) S (m_dec e4_readMaking 38 rfl) ?_
              exact ms_ret (pc := 73) E (m_dec e4_readMaking 39 rfl) rfl
            · refine ms_aload_n (pc := 74) S 0 rfl rfl (m_dec e4_readMaking 40 rfl) ?_
              refine ms_dup (pc := 75) S rfl (m_dec e4_readMaking 41 rfl) ?_
              refine ms_grd fun g25 => ?_
              refine ms_getf (pc := 76) S lf_X4_47 rfl (m_dec e4_readMaking 42 rfl) g25 ?_
              refine ms_iconst (pc := 79) S (m_dec e4_readMaking 43 rfl) ?_
              refine ms_iadd (pc := 80) S (m_dec e4_readMaking 44 rfl) ?_
              refine ms_putf (pc := 81) S lp_X4_47 (fun z => by cases z) rfl (fun d => m_fitI d _) (m_dec e4_readMaking 45 rfl) g25 (fun h26 => ?_)
              refine ms_aload_n (pc := 84) S 0 rfl rfl (m_dec e4_readMaking 46 rfl) ?_
              refine ms_iload_n (pc := 85) S 2 rfl rfl (m_dec e4_readMaking 47 rfl) ?_
              refine ms_iload_n (pc := 86) S 1 rfl rfl (m_dec e4_readMaking 48 rfl) ?_
              refine ms_grd fun g27 => ?_
              refine ms_callVv (pc := 87) S hF (vals := [m_i r22, m_i r13]) (st := []) (hc := vw_4) (hci := by decide) (hcy := rfl) (ht := g27) (hC := (k4_beginOrder _ _ v0 r22 r13 h26)) (hM := lm_X4_155) (hfr := (Nat.le_trans (by decide) hFn)) (hstk := rfl) (hcat := Nat.le_of_ble_eq_true rfl) (hd := (m_dec e4_readMaking 49 rfl)) (k1 := fun h28 => ?_)
              refine ms_aload_n (pc := 90) S 0 rfl rfl (m_dec e4_readMaking 50 rfl) ?_
              refine ms_iload_n (pc := 91) S 2 rfl rfl (m_dec e4_readMaking 51 rfl) ?_
              refine ms_grd fun g30 => ?_
              refine ms_callVz (pc := 92) S hF (vals := [m_i r22]) (st := []) (hc := vw_4) (hci := by decide) (hcy := rfl) (ht := g30) (hC := (k4_readParts _ _ v0 r22 h28)) (hM := lm_X4_167) (hfr := (Nat.le_trans (by decide) hFn)) (hstk := rfl) (hcat := Nat.le_of_ble_eq_true rfl) (hd := (m_dec e4_readMaking 52 rfl)) (k1 := fun r32 h31 => ?_)
              refine ms_ifb_eq (pc := 95) S (m_dec e4_readMaking 53 rfl) rfl (fun q33 => ?_) (fun q33 => ?_)
              · refine ms_aload_n (pc := 98) S 0 rfl rfl (m_dec e4_readMaking 54 rfl) ?_
                refine ms_grd fun g34 => ?_
                refine ms_callVz (pc := 99) S hF (vals := []) (st := []) (hc := vw_4) (hci := by decide) (hcy := rfl) (ht := g34) (hC := (k4_endOrder _ _ v0 h31)) (hM := lm_X4_164) (hfr := (Nat.le_trans (by decide) hFn)) (hstk := rfl) (hcat := Nat.le_of_ble_eq_true rfl) (hd := (m_dec e4_readMaking 55 rfl)) (k1 := fun r36 h35 => ?_)
                refine ms_ifb_eq (pc := 102) S (m_dec e4_readMaking 56 rfl) rfl (fun q37 => ?_) (fun q37 => ?_)
                · refine ms_iconst (pc := 105) S (m_dec e4_readMaking 57 rfl) ?_
                  refine ms_goto (pc := 106) S (m_dec e4_readMaking 58 rfl) rfl ?_
                  exact ms_ret (pc := 110) E (m_dec e4_readMaking 60 rfl) rfl
                · refine ms_iconst (pc := 109) S (m_dec e4_readMaking 59 rfl) ?_
                  exact ms_ret (pc := 110) E (m_dec e4_readMaking 60 rfl) rfl
              · refine ms_iconst (pc := 109) S (m_dec e4_readMaking 59 rfl) ?_
                exact ms_ret (pc := 110) E (m_dec e4_readMaking 60 rfl) rfl
        · refine ms_iconst (pc := 55) S (m_dec e4_readMaking 28 rfl) ?_
          exact ms_ret (pc := 56) E (m_dec e4_readMaking 29 rfl) rfl
      · refine ms_iconst (pc := 29) S (m_dec e4_readMaking 13 rfl) ?_
        exact ms_ret (pc := 30) E (m_dec e4_readMaking 14 rfl) rfl
    · refine ms_iconst (pc := 29) S (m_dec e4_readMaking 13 rfl) ?_
      exact ms_ret (pc := 30) E (m_dec e4_readMaking 14 rfl) rfl
  · refine ms_iconst (pc := 29) S (m_dec e4_readMaking 13 rfl) ?_
    exact ms_ret (pc := 30) E (m_dec e4_readMaking 14 rfl) rfl
theorem k4_readMaking (l : Launch) (d : m_D) (v0 : Int) (h : m_H) : m_Con l d yX4_readMaking cX4_readMaking 3 (some .boolean) 4 (fun r => [m_i (m_b2i r)]) [m_r v0] h (t4_readMaking v0 h) :=
  m_con2 (by decide +kernel) (Nat.le_of_ble_eq_true rfl) (fun Y hN hRm hr hI S hfin => s4_readMaking S (m_end_z S hr hfin) hRm (Nat.le_refl _) hN v0 h)
set_option maxRecDepth 100000 in
theorem e4_firstFault : ∀ q ∈ ([(0, .aload_n 0, 1), (1, .invokevirtual 44, 3), (4, .aload_n 0, 1), (5, .iconst 0, 1), (6, .putfield 47, 3), (9, .aload_n 0, 1), (10, .getfield 29, 3), (13, .iconst 0, 1), (14, .putfield 50, 3), (17, .iconst 0, 1), (18, .istore_n 1, 1), (19, .iload_n 1, 1), (20, .sipush 1200, 3), (23, .if_icmp .ge 77, 3), (26, .aload_n 0, 1), (27, .invokevirtual 53, 3), (30, .bipush 27, 2), (32, .if_icmp .eq 68, 3), (35, .aload_n 0, 1), (36, .invokevirtual 53, 3), (39, .bipush 13, 2), (41, .if_icmp .ne 10, 3), (44, .aload_n 0, 1), (45, .invokevirtual 57, 3), (48, .goto 25, 3), (51, .aload_n 0, 1), (52, .invokevirtual 53, 3), (55, .bipush 12, 2), (57, .if_icmp .ne 12, 3), (60, .aload_n 0, 1), (61, .iconst 1, 1), (62, .iconst 0, 1), (63, .invokevirtual 61, 3), (66, .goto 7, 3), (69, .aload_n 0, 1), (70, .invokevirtual 65, 3), (73, .istore_n 2, 1), (74, .iload_n 2, 1), (75, .ifCond .ne 19, 3), (78, .aload_n 0, 1), (79, .getfield 15, 3), (82, .aload_n 0, 1), (83, .getfield 47, 3), (86, .aload_n 0, 1), (87, .getfield 40, 3), (90, .invokestatic 68, 3), (93, .ireturn, 1), (94, .iinc 1 1, 3), (97, .goto (-78), 3), (100, .iconst (-1), 1), (101, .ireturn, 1)] : List (Nat × Instr × Nat)), decode cX4_firstFault q.1 = .ok q.2 := by decide +kernel
set_option maxHeartbeats 4000000 in
set_option maxRecDepth 20000 in
theorem s4_firstFault_c19 {Y : m_Y Int} (S : m_Std Y RX4 cX4_firstFault) (E : m_End Y cX4_firstFault .ireturn (fun r => [m_i r])) {F : Nat} (hF : m_Rm Y F) (hFn : 9 ≤ F) (hN : Y.2.2.2.1 = 3) : ∀ (v0 v1 : Int) (h : m_H), m_Sim Y 19 [(0, m_r v0), (1, m_i v1)] [] h (t4_firstFault_c19 v0 v1 h) := by
  intro v0 v1 h
  refine ms_all fun r e => ?_
  refine t4_firstFault_c19.partial_correctness v0 (motive := fun v1 h r => m_Sim Y 19 [(0, m_r v0), (1, m_i v1)] [] h (some r)) ?_ v1 h r e
  intro f ih v1 h r e
  have ih : ∀ (v1 : Int) (h : m_H), m_Sim Y 19 [(0, m_r v0), (1, m_i v1)] [] h (f v1 h ) := fun v1 h  => ms_all fun r e => ih v1 h r e
  refine ms_use ?_ e
  clear e r
  refine ms_iload_n (pc := 19) S 1 rfl rfl (m_dec e4_firstFault 11 rfl) ?_
  refine ms_sipush (pc := 20) S (m_dec e4_firstFault 12 rfl) rfl ?_
  refine ms_icmp_ge (pc := 23) S (m_dec e4_firstFault 13 rfl) rfl (fun q1 => ?_) (fun q1 => ?_)
  · refine ms_aload_n (pc := 26) S 0 rfl rfl (m_dec e4_firstFault 14 rfl) ?_
    refine ms_grd fun g2 => ?_
    refine ms_callVi (pc := 27) S hF (vals := []) (st := []) (hc := vw_4) (hci := by decide) (hcy := rfl) (ht := g2) (hC := (k4_kind _ _ v0 h)) (hM := lm_X4_53) (hfr := (Nat.le_trans (by decide) hFn)) (hstk := rfl) (hcat := Nat.le_of_ble_eq_true rfl) (hd := (m_dec e4_firstFault 15 rfl)) (k1 := fun r4 h3 => ?_)
    refine ms_bipush (pc := 30) S (m_dec e4_firstFault 16 rfl) rfl ?_
    refine ms_icmp_eq (pc := 32) S (m_dec e4_firstFault 17 rfl) rfl (fun q5 => ?_) (fun q5 => ?_)
    · refine ms_iconst (pc := 100) S (m_dec e4_firstFault 49 rfl) ?_
      exact ms_ret (pc := 101) E (m_dec e4_firstFault 50 rfl) rfl
    · refine ms_aload_n (pc := 35) S 0 rfl rfl (m_dec e4_firstFault 18 rfl) ?_
      refine ms_grd fun g6 => ?_
      refine ms_callVi (pc := 36) S hF (vals := []) (st := []) (hc := vw_4) (hci := by decide) (hcy := rfl) (ht := g6) (hC := (k4_kind _ _ v0 h3)) (hM := lm_X4_53) (hfr := (Nat.le_trans (by decide) hFn)) (hstk := rfl) (hcat := Nat.le_of_ble_eq_true rfl) (hd := (m_dec e4_firstFault 19 rfl)) (k1 := fun r8 h7 => ?_)
      refine ms_bipush (pc := 39) S (m_dec e4_firstFault 20 rfl) rfl ?_
      refine ms_icmp_ne (pc := 41) S (m_dec e4_firstFault 21 rfl) rfl (fun q9 => ?_) (fun q9 => ?_)
      · refine ms_aload_n (pc := 44) S 0 rfl rfl (m_dec e4_firstFault 22 rfl) ?_
        refine ms_grd fun g10 => ?_
        refine ms_callVz (pc := 45) S hF (vals := []) (st := []) (hc := vw_4) (hci := by decide) (hcy := rfl) (ht := g10) (hC := (k4_readAgain _ _ v0 h7)) (hM := lm_X4_57) (hfr := (Nat.le_trans (by decide) hFn)) (hstk := rfl) (hcat := Nat.le_of_ble_eq_true rfl) (hd := (m_dec e4_firstFault 23 rfl)) (k1 := fun r12 h11 => ?_)
        refine ms_goto (pc := 48) S (m_dec e4_firstFault 24 rfl) rfl ?_
        refine ms_nm (st := fun x13 => [m_i x13]) fun x13 => ?_
        refine ms_istore_n (pc := 73) S (L' := [(0, m_r v0), (1, m_i v1), (2, m_i x13)]) [1, 2, 0] rfl rfl (m_lt hN rfl) (m_dec e4_firstFault 36 rfl) ?_
        refine ms_iload_n (pc := 74) S 2 rfl rfl (m_dec e4_firstFault 37 rfl) ?_
        refine ms_if_ne (pc := 75) S (m_dec e4_firstFault 38 rfl) rfl (fun q14 => ?_) (fun q14 => ?_)
        · refine ms_aload_n (pc := 78) S 0 rfl rfl (m_dec e4_firstFault 39 rfl) ?_
          refine ms_grd fun g15 => ?_
          refine ms_getf (pc := 79) S lf_X4_15 rfl (m_dec e4_firstFault 40 rfl) g15 ?_
          refine ms_aload_n (pc := 82) S 0 rfl rfl (m_dec e4_firstFault 41 rfl) ?_
          refine ms_getf (pc := 83) S lf_X4_47 rfl (m_dec e4_firstFault 42 rfl) g15 ?_
          refine ms_aload_n (pc := 86) S 0 rfl rfl (m_dec e4_firstFault 43 rfl) ?_
          refine ms_getf (pc := 87) S lf_X4_40 rfl (m_dec e4_firstFault 44 rfl) g15 ?_
          refine ms_callSi (pc := 90) S hF (vals := [m_r (m_g h11 v0 2), m_i (m_g h11 v0 7), m_i (m_g h11 v0 1)]) (st := [])  (hC := (k10_entry _ _ (m_g h11 v0 2) (m_g h11 v0 7) (m_g h11 v0 1) h11)) (hM := lm_X4_68) (hfr := (Nat.le_trans (by decide) hFn)) (hstk := rfl) (hcat := Nat.le_of_ble_eq_true rfl) (hd := (m_dec e4_firstFault 45 rfl)) (k1 := fun r17 h16 => ?_)
          exact ms_ret (pc := 93) E (m_dec e4_firstFault 46 rfl) rfl
        · refine ms_iinc (pc := 94) S (L' := [(0, m_r v0), (1, m_i (v1 + 1))]) 1 rfl [1, 0] rfl (m_lt hN rfl) (m_dec e4_firstFault 47 rfl) ?_
          refine ms_goto (pc := 97) S (m_dec e4_firstFault 48 rfl) rfl ?_
          exact ih (v1 + 1) h11
      · refine ms_aload_n (pc := 51) S 0 rfl rfl (m_dec e4_firstFault 25 rfl) ?_
        refine ms_grd fun g18 => ?_
        refine ms_callVi (pc := 52) S hF (vals := []) (st := []) (hc := vw_4) (hci := by decide) (hcy := rfl) (ht := g18) (hC := (k4_kind _ _ v0 h7)) (hM := lm_X4_53) (hfr := (Nat.le_trans (by decide) hFn)) (hstk := rfl) (hcat := Nat.le_of_ble_eq_true rfl) (hd := (m_dec e4_firstFault 26 rfl)) (k1 := fun r20 h19 => ?_)
        refine ms_bipush (pc := 55) S (m_dec e4_firstFault 27 rfl) rfl ?_
        refine ms_icmp_ne (pc := 57) S (m_dec e4_firstFault 28 rfl) rfl (fun q21 => ?_) (fun q21 => ?_)
        · refine ms_aload_n (pc := 60) S 0 rfl rfl (m_dec e4_firstFault 29 rfl) ?_
          refine ms_iconst (pc := 61) S (m_dec e4_firstFault 30 rfl) ?_
          refine ms_iconst (pc := 62) S (m_dec e4_firstFault 31 rfl) ?_
          refine ms_grd fun g22 => ?_
          refine ms_callVz (pc := 63) S hF (vals := [m_i 1, m_i 0]) (st := []) (hc := vw_4) (hci := by decide) (hcy := rfl) (ht := g22) (hC := (k4_readPut _ _ v0 1 0 h19)) (hM := lm_X4_61) (hfr := (Nat.le_trans (by decide) hFn)) (hstk := rfl) (hcat := Nat.le_of_ble_eq_true rfl) (hd := (m_dec e4_firstFault 32 rfl)) (k1 := fun r24 h23 => ?_)
          refine ms_goto (pc := 66) S (m_dec e4_firstFault 33 rfl) rfl ?_
          refine ms_nm (st := fun x25 => [m_i x25]) fun x25 => ?_
          refine ms_istore_n (pc := 73) S (L' := [(0, m_r v0), (1, m_i v1), (2, m_i x25)]) [1, 2, 0] rfl rfl (m_lt hN rfl) (m_dec e4_firstFault 36 rfl) ?_
          refine ms_iload_n (pc := 74) S 2 rfl rfl (m_dec e4_firstFault 37 rfl) ?_
          refine ms_if_ne (pc := 75) S (m_dec e4_firstFault 38 rfl) rfl (fun q26 => ?_) (fun q26 => ?_)
          · refine ms_aload_n (pc := 78) S 0 rfl rfl (m_dec e4_firstFault 39 rfl) ?_
            refine ms_grd fun g27 => ?_
            refine ms_getf (pc := 79) S lf_X4_15 rfl (m_dec e4_firstFault 40 rfl) g27 ?_
            refine ms_aload_n (pc := 82) S 0 rfl rfl (m_dec e4_firstFault 41 rfl) ?_
            refine ms_getf (pc := 83) S lf_X4_47 rfl (m_dec e4_firstFault 42 rfl) g27 ?_
            refine ms_aload_n (pc := 86) S 0 rfl rfl (m_dec e4_firstFault 43 rfl) ?_
            refine ms_getf (pc := 87) S lf_X4_40 rfl (m_dec e4_firstFault 44 rfl) g27 ?_
            refine ms_callSi (pc := 90) S hF (vals := [m_r (m_g h23 v0 2), m_i (m_g h23 v0 7), m_i (m_g h23 v0 1)]) (st := [])  (hC := (k10_entry _ _ (m_g h23 v0 2) (m_g h23 v0 7) (m_g h23 v0 1) h23)) (hM := lm_X4_68) (hfr := (Nat.le_trans (by decide) hFn)) (hstk := rfl) (hcat := Nat.le_of_ble_eq_true rfl) (hd := (m_dec e4_firstFault 45 rfl)) (k1 := fun r29 h28 => ?_)
            exact ms_ret (pc := 93) E (m_dec e4_firstFault 46 rfl) rfl
          · refine ms_iinc (pc := 94) S (L' := [(0, m_r v0), (1, m_i (v1 + 1))]) 1 rfl [1, 0] rfl (m_lt hN rfl) (m_dec e4_firstFault 47 rfl) ?_
            refine ms_goto (pc := 97) S (m_dec e4_firstFault 48 rfl) rfl ?_
            exact ih (v1 + 1) h23
        · refine ms_aload_n (pc := 69) S 0 rfl rfl (m_dec e4_firstFault 34 rfl) ?_
          refine ms_grd fun g30 => ?_
          refine ms_callVz (pc := 70) S hF (vals := []) (st := []) (hc := vw_4) (hci := by decide) (hcy := rfl) (ht := g30) (hC := (k4_readMaking _ _ v0 h19)) (hM := lm_X4_65) (hfr := (Nat.le_trans (by decide) hFn)) (hstk := rfl) (hcat := Nat.le_of_ble_eq_true rfl) (hd := (m_dec e4_firstFault 35 rfl)) (k1 := fun r32 h31 => ?_)
          refine ms_nm (st := fun x33 => [m_i x33]) fun x33 => ?_
          refine ms_istore_n (pc := 73) S (L' := [(0, m_r v0), (1, m_i v1), (2, m_i x33)]) [1, 2, 0] rfl rfl (m_lt hN rfl) (m_dec e4_firstFault 36 rfl) ?_
          refine ms_iload_n (pc := 74) S 2 rfl rfl (m_dec e4_firstFault 37 rfl) ?_
          refine ms_if_ne (pc := 75) S (m_dec e4_firstFault 38 rfl) rfl (fun q34 => ?_) (fun q34 => ?_)
          · refine ms_aload_n (pc := 78) S 0 rfl rfl (m_dec e4_firstFault 39 rfl) ?_
            refine ms_grd fun g35 => ?_
            refine ms_getf (pc := 79) S lf_X4_15 rfl (m_dec e4_firstFault 40 rfl) g35 ?_
            refine ms_aload_n (pc := 82) S 0 rfl rfl (m_dec e4_firstFault 41 rfl) ?_
            refine ms_getf (pc := 83) S lf_X4_47 rfl (m_dec e4_firstFault 42 rfl) g35 ?_
            refine ms_aload_n (pc := 86) S 0 rfl rfl (m_dec e4_firstFault 43 rfl) ?_
            refine ms_getf (pc := 87) S lf_X4_40 rfl (m_dec e4_firstFault 44 rfl) g35 ?_
            refine ms_callSi (pc := 90) S hF (vals := [m_r (m_g h31 v0 2), m_i (m_g h31 v0 7), m_i (m_g h31 v0 1)]) (st := [])  (hC := (k10_entry _ _ (m_g h31 v0 2) (m_g h31 v0 7) (m_g h31 v0 1) h31)) (hM := lm_X4_68) (hfr := (Nat.le_trans (by decide) hFn)) (hstk := rfl) (hcat := Nat.le_of_ble_eq_true rfl) (hd := (m_dec e4_firstFault 45 rfl)) (k1 := fun r37 h36 => ?_)
            exact ms_ret (pc := 93) E (m_dec e4_firstFault 46 rfl) rfl
          · refine ms_iinc (pc := 94) S (L' := [(0, m_r v0), (1, m_i (v1 + 1))]) 1 rfl [1, 0] rfl (m_lt hN rfl) (m_dec e4_firstFault 47 rfl) ?_
            refine ms_goto (pc := 97) S (m_dec e4_firstFault 48 rfl) rfl ?_
            exact ih (v1 + 1) h31
  · refine ms_iconst (pc := 100) S (m_dec e4_firstFault 49 rfl) ?_
    exact ms_ret (pc := 101) E (m_dec e4_firstFault 50 rfl) rfl
set_option maxHeartbeats 4000000 in
set_option maxRecDepth 20000 in
theorem s4_firstFault {Y : m_Y Int} (S : m_Std Y RX4 cX4_firstFault) (E : m_End Y cX4_firstFault .ireturn (fun r => [m_i r])) {F : Nat} (hF : m_Rm Y F) (hFn : 9 ≤ F) (hN : Y.2.2.2.1 = 3) (v0 : Int) (h : m_H) : m_Sim Y 0 [(0, m_r v0)] [] h (t4_firstFault v0 h) := by
  unfold t4_firstFault
  refine ms_aload_n (pc := 0) S 0 rfl rfl (m_dec e4_firstFault 0 rfl) ?_
  refine ms_grd fun g1 => ?_
  refine ms_callVv (pc := 1) S hF (vals := []) (st := []) (hc := vw_4) (hci := by decide) (hcy := rfl) (ht := g1) (hC := (k4_readTokens _ _ v0 h)) (hM := lm_X4_44) (hfr := (Nat.le_trans (by decide) hFn)) (hstk := rfl) (hcat := Nat.le_of_ble_eq_true rfl) (hd := (m_dec e4_firstFault 1 rfl)) (k1 := fun h2 => ?_)
  refine ms_aload_n (pc := 4) S 0 rfl rfl (m_dec e4_firstFault 2 rfl) ?_
  refine ms_iconst (pc := 5) S (m_dec e4_firstFault 3 rfl) ?_
  refine ms_grd fun g4 => ?_
  refine ms_putf (pc := 6) S lp_X4_47 (fun z => by cases z) rfl (fun d => m_fitI d _) (m_dec e4_firstFault 4 rfl) g4 (fun h5 => ?_)
  refine ms_aload_n (pc := 9) S 0 rfl rfl (m_dec e4_firstFault 5 rfl) ?_
  refine ms_grd fun g6 => ?_
  refine ms_getf (pc := 10) S lf_X4_29 rfl (m_dec e4_firstFault 6 rfl) g6 ?_
  refine ms_iconst (pc := 13) S (m_dec e4_firstFault 7 rfl) ?_
  refine ms_grd fun g7 => ?_
  refine ms_putf (pc := 14) S lp_X4_50 (fun z => by cases z) rfl (fun d => m_fitI d _) (m_dec e4_firstFault 8 rfl) g7 (fun h8 => ?_)
  refine ms_iconst (pc := 17) S (m_dec e4_firstFault 9 rfl) ?_
  refine ms_istore_n (pc := 18) S (L' := [(0, m_r v0), (1, m_i 0)]) [1, 0] rfl rfl (m_lt hN rfl) (m_dec e4_firstFault 10 rfl) ?_
  exact s4_firstFault_c19 S E hF hFn hN v0 0 h8
theorem k4_firstFault (l : Launch) (d : m_D) (v0 : Int) (h : m_H) : m_Con l d yX4_firstFault cX4_firstFault 3 (some .int) 9 (fun r => [m_i r]) [m_r v0] h (t4_firstFault v0 h) :=
  m_con2 (by decide +kernel) (Nat.le_of_ble_eq_true rfl) (fun Y hN hRm hr hI S hfin => s4_firstFault S (m_end_i S hr hfin) hRm (Nat.le_refl _) hN v0 h)
set_option maxRecDepth 100000 in
theorem eJ7_copyOf_59c91 : ∀ q ∈ ([(0, .iload_n 1, 1), (1, .aload_n 0, 1), (2, .arraylength, 1), (3, .if_icmp .ne 11, 3), (6, .aload_n 0, 1), (7, .invokevirtual 316, 3), (10, .checkcast 317, 3), (13, .areturn, 1), (14, .iload_n 1, 1), (15, .newarray .int, 2), (17, .astore_n 2, 1), (18, .aload_n 0, 1), (19, .iconst 0, 1), (20, .aload_n 2, 1), (21, .iconst 0, 1), (22, .aload_n 0, 1), (23, .arraylength, 1), (24, .iload_n 1, 1), (25, .invokestatic 304, 3), (28, .invokestatic 150, 3), (31, .aload_n 2, 1), (32, .areturn, 1)] : List (Nat × Instr × Nat)), decode cJ7_copyOf_59c91 q.1 = .ok q.2 := by decide +kernel
set_option maxHeartbeats 4000000 in
set_option maxRecDepth 20000 in
theorem sJ7_copyOf_59c91 {Y : m_Y Int} (S : m_Std Y RJ7 cJ7_copyOf_59c91) (E : m_End Y cJ7_copyOf_59c91 .areturn (fun r => [m_r r])) {F : Nat} (hF : m_Rm Y F) (hFn : 1 ≤ F) (hN : Y.2.2.2.1 = 3) (v0 v1 : Int) (h : m_H) : m_Sim Y 0 [(0, m_r v0), (1, m_i v1)] [] h (tJ7_copyOf_59c91 v0 v1 h) := by
  unfold tJ7_copyOf_59c91
  refine ms_iload_n (pc := 0) S 1 rfl rfl (m_dec eJ7_copyOf_59c91 0 rfl) ?_
  refine ms_aload_n (pc := 1) S 0 rfl rfl (m_dec eJ7_copyOf_59c91 1 rfl) ?_
  refine ms_grd fun g1 => ?_
  refine ms_alen (pc := 2) S g1 (m_dec eJ7_copyOf_59c91 2 rfl) ?_
  refine ms_icmp_ne (pc := 3) S (m_dec eJ7_copyOf_59c91 3 rfl) rfl (fun q2 => ?_) (fun q2 => ?_)
  · refine ms_aload_n (pc := 6) S 0 rfl rfl (m_dec eJ7_copyOf_59c91 4 rfl) ?_
    refine ms_grd fun g3 => ?_
    refine ms_clone (pc := 7) S hF (Nat.le_trans (by decide) hFn) (Nat.le_of_ble_eq_true rfl) g3 (m_dec eJ7_copyOf_59c91 5 rfl) (fun h4 => ?_)
    refine ms_grd fun g5 => ?_
    refine ms_castI (pc := 10) S g5 (m_dec eJ7_copyOf_59c91 6 rfl) ?_
    exact ms_ret (pc := 13) E (m_dec eJ7_copyOf_59c91 7 rfl) rfl
  · refine ms_iload_n (pc := 14) S 1 rfl rfl (m_dec eJ7_copyOf_59c91 8 rfl) ?_
    refine ms_grd fun g6 => ?_
    refine ms_newa (pc := 15) S 20 (ty := .int) rfl (by decide) (fun _ => rfl) (fun _ => rfl) (by decide) (fun _ _ z => z) w_208 g6 (m_dec eJ7_copyOf_59c91 9 rfl) (fun h7 => ?_)
    refine ms_nm (st := fun x8 => [m_r x8]) fun x8 => ?_
    refine ms_astore_n (pc := 17) S (L' := [(0, m_r v0), (1, m_i v1), (2, m_r x8)]) [1, 2, 0] rfl rfl (m_lt hN rfl) (m_dec eJ7_copyOf_59c91 10 rfl) ?_
    refine ms_aload_n (pc := 18) S 0 rfl rfl (m_dec eJ7_copyOf_59c91 11 rfl) ?_
    refine ms_iconst (pc := 19) S (m_dec eJ7_copyOf_59c91 12 rfl) ?_
    refine ms_aload_n (pc := 20) S 2 rfl rfl (m_dec eJ7_copyOf_59c91 13 rfl) ?_
    refine ms_iconst (pc := 21) S (m_dec eJ7_copyOf_59c91 14 rfl) ?_
    refine ms_aload_n (pc := 22) S 0 rfl rfl (m_dec eJ7_copyOf_59c91 15 rfl) ?_
    refine ms_grd fun g9 => ?_
    refine ms_alen (pc := 23) S g9 (m_dec eJ7_copyOf_59c91 16 rfl) ?_
    refine ms_iload_n (pc := 24) S 1 rfl rfl (m_dec eJ7_copyOf_59c91 17 rfl) ?_
    refine ms_mmin (pc := 25) S hF (Nat.le_trans (by decide) hFn) ⟨w_1014, w_498, w_136, w_499⟩ (Nat.le_of_ble_eq_true rfl) (m_dec eJ7_copyOf_59c91 18 rfl) ?_
    refine ms_grd fun g10 => ?_
    refine ms_copy (pc := 28) S hF (Nat.le_trans (by decide) hFn) ⟨w_1015, w_489, w_488, w_137⟩ (Nat.le_of_ble_eq_true rfl) g10 (m_dec eJ7_copyOf_59c91 19 rfl) (fun h11 => ?_)
    refine ms_aload_n (pc := 31) S 2 rfl rfl (m_dec eJ7_copyOf_59c91 20 rfl) ?_
    exact ms_ret (pc := 32) E (m_dec eJ7_copyOf_59c91 21 rfl) rfl
theorem kJ7_copyOf_59c91 (l : Launch) (d : m_D) (v0 v1 : Int) (h : m_H) : m_Con l d yJ7_copyOf_59c91 cJ7_copyOf_59c91 3 (some (.array .int)) 1 (fun r => [m_r r]) [m_r v0, m_i v1] h (tJ7_copyOf_59c91 v0 v1 h) :=
  m_con2 (by decide +kernel) (Nat.le_of_ble_eq_true rfl) (fun Y hN hRm hr hI S hfin => sJ7_copyOf_59c91 S (m_end_a S (by first | exact Or.inl ⟨_, rfl⟩ | exact Or.inr ⟨_, rfl⟩) hr hfin) hRm (Nat.le_refl _) hN v0 v1 h)
set_option maxRecDepth 100000 in
theorem e4_written : ∀ q ∈ ([(0, .new 24, 3), (3, .dup, 1), (4, .aload_n 0, 1), (5, .getfield 29, 3), (8, .getfield 72, 3), (11, .aload_n 0, 1), (12, .getfield 29, 3), (15, .getfield 50, 3), (18, .bipush 8, 2), (20, .imul, 1), (21, .invokestatic 75, 3), (24, .aload_n 0, 1), (25, .getfield 29, 3), (28, .getfield 50, 3), (31, .invokespecial 26, 3), (34, .areturn, 1)] : List (Nat × Instr × Nat)), decode cX4_written q.1 = .ok q.2 := by decide +kernel
set_option maxHeartbeats 4000000 in
set_option maxRecDepth 20000 in
theorem s4_written {Y : m_Y Int} (S : m_Std Y RX4 cX4_written) (E : m_End Y cX4_written .areturn (fun r => [m_r r])) {F : Nat} (hF : m_Rm Y F) (hFn : 2 ≤ F) (hN : Y.2.2.2.1 = 1) (v0 : Int) (h : m_H) : m_Sim Y 0 [(0, m_r v0)] [] h (t4_written v0 h) := by
  unfold t4_written
  refine ms_new (pc := 0) S ln_X4_24 rfl (m_dec e4_written 0 rfl) (fun h1 => ?_)
  refine ms_dup (pc := 3) S rfl (m_dec e4_written 1 rfl) ?_
  refine ms_aload_n (pc := 4) S 0 rfl rfl (m_dec e4_written 2 rfl) ?_
  refine ms_grd fun g2 => ?_
  refine ms_getf (pc := 5) S lf_X4_29 rfl (m_dec e4_written 3 rfl) g2 ?_
  refine ms_grd fun g3 => ?_
  refine ms_getf (pc := 8) S lf_X4_72 rfl (m_dec e4_written 4 rfl) g3 ?_
  refine ms_aload_n (pc := 11) S 0 rfl rfl (m_dec e4_written 5 rfl) ?_
  refine ms_getf (pc := 12) S lf_X4_29 rfl (m_dec e4_written 6 rfl) g2 ?_
  refine ms_getf (pc := 15) S lf_X4_50 rfl (m_dec e4_written 7 rfl) g3 ?_
  refine ms_bipush (pc := 18) S (m_dec e4_written 8 rfl) rfl ?_
  refine ms_imul (pc := 20) S (m_dec e4_written 9 rfl) ?_
  refine ms_callSa (pc := 21) S hF (vals := [m_r (m_g h1 (m_g h1 v0 8) 0), m_i ((m_g h1 (m_g h1 v0 8) 1) * 8)]) (st := [m_r (m_n h), m_r (m_n h)])  (hC := (kJ7_copyOf_59c91 _ _ (m_g h1 (m_g h1 v0 8) 0) ((m_g h1 (m_g h1 v0 8) 1) * 8) h1)) (hM := lm_X4_75) (hfr := (Nat.le_trans (by decide) hFn)) (hstk := rfl) (hcat := Nat.le_of_ble_eq_true rfl) (hd := (m_dec e4_written 10 rfl)) (k1 := fun r5 h4 => ?_)
  refine ms_aload_n (pc := 24) S 0 rfl rfl (m_dec e4_written 11 rfl) ?_
  refine ms_grd fun g6 => ?_
  refine ms_getf (pc := 25) S lf_X4_29 rfl (m_dec e4_written 12 rfl) g6 ?_
  refine ms_grd fun g7 => ?_
  refine ms_getf (pc := 28) S lf_X4_50 rfl (m_dec e4_written 13 rfl) g7 ?_
  refine ms_grd fun g8 => ?_
  refine ms_callIv (pc := 31) S hF (vals := [m_r r5, m_i (m_g h4 (m_g h4 v0 8) 1)]) (st := [m_r (m_n h)]) (ht := g8) (hC := (k6_init _ _ (m_n h) r5 (m_g h4 (m_g h4 v0 8) 1) h4)) (hM := lm_X4_26) (hfr := (Nat.le_trans (by decide) hFn)) (hstk := rfl) (hcat := Nat.le_of_ble_eq_true rfl) (hd := (m_dec e4_written 14 rfl)) (k1 := fun h9 => ?_)
  exact ms_ret (pc := 34) E (m_dec e4_written 15 rfl) rfl
theorem k4_written (l : Launch) (d : m_D) (v0 : Int) (h : m_H) : m_Con l d yX4_written cX4_written 1 (some (.object "TapeStudio$Score")) 2 (fun r => [m_r r]) [m_r v0] h (t4_written v0 h) :=
  m_con2 (by decide +kernel) (Nat.le_of_ble_eq_true rfl) (fun Y hN hRm hr hI S hfin => s4_written S (m_end_a S (by first | exact Or.inl ⟨_, rfl⟩ | exact Or.inr ⟨_, rfl⟩) hr hfin) hRm (Nat.le_refl _) hN v0 h)
set_option maxRecDepth 100000 in
theorem e5_add : ∀ q ∈ ([(0, .aload_n 0, 1), (1, .aload_n 0, 1), (2, .getfield 13, 3), (5, .iconst 1, 1), (6, .iadd, 1), (7, .invokevirtual 31, 3), (10, .aload_n 0, 1), (11, .aload_n 0, 1), (12, .getfield 13, 3), (15, .iconst 1, 1), (16, .isub, 1), (17, .iload_n 1, 1), (18, .invokevirtual 27, 3), (21, .return_, 1)] : List (Nat × Instr × Nat)), decode cX5_add q.1 = .ok q.2 := by decide +kernel
set_option maxHeartbeats 4000000 in
set_option maxRecDepth 20000 in
theorem s5_add {Y : m_Y Unit} (S : m_Std Y RX5 cX5_add) (E : m_End Y cX5_add .return_ (fun _ => [])) {F : Nat} (hF : m_Rm Y F) (hFn : 3 ≤ F) (hN : Y.2.2.2.1 = 2) (v0 v1 : Int) (h : m_H) : m_Sim Y 0 [(0, m_r v0), (1, m_i v1)] [] h (t5_add v0 v1 h) := by
  unfold t5_add
  refine ms_aload_n (pc := 0) S 0 rfl rfl (m_dec e5_add 0 rfl) ?_
  refine ms_aload_n (pc := 1) S 0 rfl rfl (m_dec e5_add 1 rfl) ?_
  refine ms_grd fun g1 => ?_
  refine ms_getf (pc := 2) S lf_X5_13 rfl (m_dec e5_add 2 rfl) g1 ?_
  refine ms_iconst (pc := 5) S (m_dec e5_add 3 rfl) ?_
  refine ms_iadd (pc := 6) S (m_dec e5_add 4 rfl) ?_
  refine ms_callVv (pc := 7) S hF (vals := [m_i ((m_g h v0 1) + 1)]) (st := []) (hc := vw_5) (hci := by decide) (hcy := rfl) (ht := g1) (hC := (k5_resize _ _ v0 ((m_g h v0 1) + 1) h)) (hM := lm_X5_31) (hfr := (Nat.le_trans (by decide) hFn)) (hstk := rfl) (hcat := Nat.le_of_ble_eq_true rfl) (hd := (m_dec e5_add 5 rfl)) (k1 := fun h2 => ?_)
  refine ms_aload_n (pc := 10) S 0 rfl rfl (m_dec e5_add 6 rfl) ?_
  refine ms_aload_n (pc := 11) S 0 rfl rfl (m_dec e5_add 7 rfl) ?_
  refine ms_grd fun g4 => ?_
  refine ms_getf (pc := 12) S lf_X5_13 rfl (m_dec e5_add 8 rfl) g4 ?_
  refine ms_iconst (pc := 15) S (m_dec e5_add 9 rfl) ?_
  refine ms_isub (pc := 16) S (m_dec e5_add 10 rfl) ?_
  refine ms_iload_n (pc := 17) S 1 rfl rfl (m_dec e5_add 11 rfl) ?_
  refine ms_callVv (pc := 18) S hF (vals := [m_i ((m_g h2 v0 1) - 1), m_i v1]) (st := []) (hc := vw_5) (hci := by decide) (hcy := rfl) (ht := g4) (hC := (k5_set _ _ v0 ((m_g h2 v0 1) - 1) v1 h2)) (hM := lm_X5_27) (hfr := (Nat.le_trans (by decide) hFn)) (hstk := rfl) (hcat := Nat.le_of_ble_eq_true rfl) (hd := (m_dec e5_add 12 rfl)) (k1 := fun h5 => ?_)
  exact ms_ret (pc := 21) E (m_dec e5_add 13 rfl) rfl
theorem k5_add (l : Launch) (d : m_D) (v0 v1 : Int) (h : m_H) : m_Con l d yX5_add cX5_add 2 none 3 (fun _ => []) [m_r v0, m_i v1] h (t5_add v0 v1 h) :=
  m_con2 (by decide +kernel) (Nat.le_of_ble_eq_true rfl) (fun Y hN hRm hr hI S hfin => s5_add S (m_end_v S hr hfin) hRm (Nat.le_refl _) hN v0 v1 h)
set_option maxRecDepth 100000 in
theorem e5_dropFirst : ∀ q ∈ ([(0, .iload_n 1, 1), (1, .istore_n 2, 1), (2, .iload_n 2, 1), (3, .aload_n 0, 1), (4, .getfield 13, 3), (7, .if_icmp .ge 21, 3), (10, .aload_n 0, 1), (11, .iload_n 2, 1), (12, .iload_n 1, 1), (13, .isub, 1), (14, .aload_n 0, 1), (15, .iload_n 2, 1), (16, .invokevirtual 23, 3), (19, .invokevirtual 27, 3), (22, .iinc 2 1, 3), (25, .goto (-23), 3), (28, .aload_n 0, 1), (29, .aload_n 0, 1), (30, .getfield 13, 3), (33, .iload_n 1, 1), (34, .isub, 1), (35, .invokevirtual 31, 3), (38, .return_, 1)] : List (Nat × Instr × Nat)), decode cX5_dropFirst q.1 = .ok q.2 := by decide +kernel
set_option maxHeartbeats 4000000 in
set_option maxRecDepth 20000 in
theorem s5_dropFirst_c2 {Y : m_Y Unit} (S : m_Std Y RX5 cX5_dropFirst) (E : m_End Y cX5_dropFirst .return_ (fun _ => [])) {F : Nat} (hF : m_Rm Y F) (hFn : 3 ≤ F) (hN : Y.2.2.2.1 = 3) : ∀ (v0 v1 v2 : Int) (h : m_H), m_Sim Y 2 [(0, m_r v0), (1, m_i v1), (2, m_i v2)] [] h (t5_dropFirst_c2 v0 v1 v2 h) := by
  intro v0 v1 v2 h
  refine ms_all fun r e => ?_
  refine t5_dropFirst_c2.partial_correctness v0 v1 (motive := fun v2 h r => m_Sim Y 2 [(0, m_r v0), (1, m_i v1), (2, m_i v2)] [] h (some r)) ?_ v2 h r e
  intro f ih v2 h r e
  have ih : ∀ (v2 : Int) (h : m_H), m_Sim Y 2 [(0, m_r v0), (1, m_i v1), (2, m_i v2)] [] h (f v2 h ) := fun v2 h  => ms_all fun r e => ih v2 h r e
  refine ms_use ?_ e
  clear e r
  refine ms_iload_n (pc := 2) S 2 rfl rfl (m_dec e5_dropFirst 2 rfl) ?_
  refine ms_aload_n (pc := 3) S 0 rfl rfl (m_dec e5_dropFirst 3 rfl) ?_
  refine ms_grd fun g1 => ?_
  refine ms_getf (pc := 4) S lf_X5_13 rfl (m_dec e5_dropFirst 4 rfl) g1 ?_
  refine ms_icmp_ge (pc := 7) S (m_dec e5_dropFirst 5 rfl) rfl (fun q2 => ?_) (fun q2 => ?_)
  · refine ms_aload_n (pc := 10) S 0 rfl rfl (m_dec e5_dropFirst 6 rfl) ?_
    refine ms_iload_n (pc := 11) S 2 rfl rfl (m_dec e5_dropFirst 7 rfl) ?_
    refine ms_iload_n (pc := 12) S 1 rfl rfl (m_dec e5_dropFirst 8 rfl) ?_
    refine ms_isub (pc := 13) S (m_dec e5_dropFirst 9 rfl) ?_
    refine ms_aload_n (pc := 14) S 0 rfl rfl (m_dec e5_dropFirst 10 rfl) ?_
    refine ms_iload_n (pc := 15) S 2 rfl rfl (m_dec e5_dropFirst 11 rfl) ?_
    refine ms_callVi (pc := 16) S hF (vals := [m_i v2]) (st := [m_i (v2 - v1), m_r v0]) (hc := vw_5) (hci := by decide) (hcy := rfl) (ht := g1) (hC := (k5_get _ _ v0 v2 h)) (hM := lm_X5_23) (hfr := (Nat.le_trans (by decide) hFn)) (hstk := rfl) (hcat := Nat.le_of_ble_eq_true rfl) (hd := (m_dec e5_dropFirst 12 rfl)) (k1 := fun r4 h3 => ?_)
    refine ms_grd fun g5 => ?_
    refine ms_callVv (pc := 19) S hF (vals := [m_i (v2 - v1), m_i r4]) (st := []) (hc := vw_5) (hci := by decide) (hcy := rfl) (ht := g5) (hC := (k5_set _ _ v0 (v2 - v1) r4 h3)) (hM := lm_X5_27) (hfr := (Nat.le_trans (by decide) hFn)) (hstk := rfl) (hcat := Nat.le_of_ble_eq_true rfl) (hd := (m_dec e5_dropFirst 13 rfl)) (k1 := fun h6 => ?_)
    refine ms_iinc (pc := 22) S (L' := [(0, m_r v0), (1, m_i v1), (2, m_i (v2 + 1))]) 2 rfl [1, 2, 0] rfl (m_lt hN rfl) (m_dec e5_dropFirst 14 rfl) ?_
    refine ms_goto (pc := 25) S (m_dec e5_dropFirst 15 rfl) rfl ?_
    exact ih (v2 + 1) h6
  · refine ms_aload_n (pc := 28) S 0 rfl rfl (m_dec e5_dropFirst 16 rfl) ?_
    refine ms_aload_n (pc := 29) S 0 rfl rfl (m_dec e5_dropFirst 17 rfl) ?_
    refine ms_getf (pc := 30) S lf_X5_13 rfl (m_dec e5_dropFirst 18 rfl) g1 ?_
    refine ms_iload_n (pc := 33) S 1 rfl rfl (m_dec e5_dropFirst 19 rfl) ?_
    refine ms_isub (pc := 34) S (m_dec e5_dropFirst 20 rfl) ?_
    refine ms_callVv (pc := 35) S hF (vals := [m_i ((m_g h v0 1) - v1)]) (st := []) (hc := vw_5) (hci := by decide) (hcy := rfl) (ht := g1) (hC := (k5_resize _ _ v0 ((m_g h v0 1) - v1) h)) (hM := lm_X5_31) (hfr := (Nat.le_trans (by decide) hFn)) (hstk := rfl) (hcat := Nat.le_of_ble_eq_true rfl) (hd := (m_dec e5_dropFirst 21 rfl)) (k1 := fun h8 => ?_)
    exact ms_ret (pc := 38) E (m_dec e5_dropFirst 22 rfl) rfl
set_option maxHeartbeats 4000000 in
set_option maxRecDepth 20000 in
theorem s5_dropFirst {Y : m_Y Unit} (S : m_Std Y RX5 cX5_dropFirst) (E : m_End Y cX5_dropFirst .return_ (fun _ => [])) {F : Nat} (hF : m_Rm Y F) (hFn : 3 ≤ F) (hN : Y.2.2.2.1 = 3) (v0 v1 : Int) (h : m_H) : m_Sim Y 0 [(0, m_r v0), (1, m_i v1)] [] h (t5_dropFirst v0 v1 h) := by
  unfold t5_dropFirst
  refine ms_iload_n (pc := 0) S 1 rfl rfl (m_dec e5_dropFirst 0 rfl) ?_
  refine ms_istore_n (pc := 1) S (L' := [(0, m_r v0), (1, m_i v1), (2, m_i v1)]) [1, 2, 0] rfl rfl (m_lt hN rfl) (m_dec e5_dropFirst 1 rfl) ?_
  exact s5_dropFirst_c2 S E hF hFn hN v0 v1 v1 h
theorem k5_dropFirst (l : Launch) (d : m_D) (v0 v1 : Int) (h : m_H) : m_Con l d yX5_dropFirst cX5_dropFirst 3 none 3 (fun _ => []) [m_r v0, m_i v1] h (t5_dropFirst v0 v1 h) :=
  m_con2 (by decide +kernel) (Nat.le_of_ble_eq_true rfl) (fun Y hN hRm hr hI S hfin => s5_dropFirst S (m_end_v S hr hfin) hRm (Nat.le_refl _) hN v0 v1 h)
set_option maxRecDepth 100000 in
theorem e6_isBench : ∀ q ∈ ([(0, .aload_n 0, 1), (1, .iload_n 1, 1), (2, .iconst 0, 1), (3, .invokevirtual 22, 3), (6, .istore_n 2, 1), (7, .iload_n 2, 1), (8, .iconst 2, 1), (9, .if_icmp .eq 19, 3), (12, .iload_n 2, 1), (13, .iconst 3, 1), (14, .if_icmp .eq 14, 3), (17, .iload_n 2, 1), (18, .iconst 5, 1), (19, .if_icmp .eq 9, 3), (22, .iload_n 2, 1), (23, .bipush 6, 2), (25, .if_icmp .ne 7, 3), (28, .iconst 1, 1), (29, .goto 4, 3), (32, .iconst 0, 1), (33, .ireturn, 1)] : List (Nat × Instr × Nat)), decode cX6_isBench q.1 = .ok q.2 := by decide +kernel
set_option maxHeartbeats 4000000 in
set_option maxRecDepth 20000 in
theorem s6_isBench {Y : m_Y Bool} (S : m_Std Y RX6 cX6_isBench) (E : m_End Y cX6_isBench .ireturn (fun r => [m_i (m_b2i r)])) {F : Nat} (hF : m_Rm Y F) (hFn : 1 ≤ F) (hN : Y.2.2.2.1 = 3) (v0 v1 : Int) (h : m_H) : m_Sim Y 0 [(0, m_r v0), (1, m_i v1)] [] h (t6_isBench v0 v1 h) := by
  unfold t6_isBench
  refine ms_aload_n (pc := 0) S 0 rfl rfl (m_dec e6_isBench 0 rfl) ?_
  refine ms_iload_n (pc := 1) S 1 rfl rfl (m_dec e6_isBench 1 rfl) ?_
  refine ms_iconst (pc := 2) S (m_dec e6_isBench 2 rfl) ?_
  refine ms_grd fun g1 => ?_
  refine ms_callVi (pc := 3) S hF (vals := [m_i v1, m_i 0]) (st := []) (hc := vw_6) (hci := by decide) (hcy := rfl) (ht := g1) (hC := (k6_cell _ _ v0 v1 0 h)) (hM := lm_X6_22) (hfr := (Nat.le_trans (by decide) hFn)) (hstk := rfl) (hcat := Nat.le_of_ble_eq_true rfl) (hd := (m_dec e6_isBench 3 rfl)) (k1 := fun r3 h2 => ?_)
  refine ms_istore_n (pc := 6) S (L' := [(2, m_i r3)]) [0] rfl rfl (m_lt hN rfl) (m_dec e6_isBench 4 rfl) ?_
  refine ms_iload_n (pc := 7) S 0 rfl rfl (m_dec e6_isBench 5 rfl) ?_
  refine ms_iconst (pc := 8) S (m_dec e6_isBench 6 rfl) ?_
  refine ms_icmp_eq (pc := 9) S (m_dec e6_isBench 7 rfl) rfl (fun q4 => ?_) (fun q4 => ?_)
  · refine ms_iconst (pc := 28) S (m_dec e6_isBench 17 rfl) ?_
    refine ms_goto (pc := 29) S (m_dec e6_isBench 18 rfl) rfl ?_
    exact ms_ret (pc := 33) E (m_dec e6_isBench 20 rfl) rfl
  · refine ms_iload_n (pc := 12) S 0 rfl rfl (m_dec e6_isBench 8 rfl) ?_
    refine ms_iconst (pc := 13) S (m_dec e6_isBench 9 rfl) ?_
    refine ms_icmp_eq (pc := 14) S (m_dec e6_isBench 10 rfl) rfl (fun q5 => ?_) (fun q5 => ?_)
    · refine ms_iconst (pc := 28) S (m_dec e6_isBench 17 rfl) ?_
      refine ms_goto (pc := 29) S (m_dec e6_isBench 18 rfl) rfl ?_
      exact ms_ret (pc := 33) E (m_dec e6_isBench 20 rfl) rfl
    · refine ms_iload_n (pc := 17) S 0 rfl rfl (m_dec e6_isBench 11 rfl) ?_
      refine ms_iconst (pc := 18) S (m_dec e6_isBench 12 rfl) ?_
      refine ms_icmp_eq (pc := 19) S (m_dec e6_isBench 13 rfl) rfl (fun q6 => ?_) (fun q6 => ?_)
      · refine ms_iconst (pc := 28) S (m_dec e6_isBench 17 rfl) ?_
        refine ms_goto (pc := 29) S (m_dec e6_isBench 18 rfl) rfl ?_
        exact ms_ret (pc := 33) E (m_dec e6_isBench 20 rfl) rfl
      · refine ms_iload_n (pc := 22) S 0 rfl rfl (m_dec e6_isBench 14 rfl) ?_
        refine ms_bipush (pc := 23) S (m_dec e6_isBench 15 rfl) rfl ?_
        refine ms_icmp_ne (pc := 25) S (m_dec e6_isBench 16 rfl) rfl (fun q7 => ?_) (fun q7 => ?_)
        · refine ms_iconst (pc := 28) S (m_dec e6_isBench 17 rfl) ?_
          refine ms_goto (pc := 29) S (m_dec e6_isBench 18 rfl) rfl ?_
          exact ms_ret (pc := 33) E (m_dec e6_isBench 20 rfl) rfl
        · refine ms_iconst (pc := 32) S (m_dec e6_isBench 19 rfl) ?_
          exact ms_ret (pc := 33) E (m_dec e6_isBench 20 rfl) rfl
theorem k6_isBench (l : Launch) (d : m_D) (v0 v1 : Int) (h : m_H) : m_Con l d yX6_isBench cX6_isBench 3 (some .boolean) 1 (fun r => [m_i (m_b2i r)]) [m_r v0, m_i v1] h (t6_isBench v0 v1 h) :=
  m_con2 (by decide +kernel) (Nat.le_of_ble_eq_true rfl) (fun Y hN hRm hr hI S hfin => s6_isBench S (m_end_z S hr hfin) hRm (Nat.le_refl _) hN v0 v1 h)
set_option maxRecDepth 100000 in
theorem e7_init : ∀ q ∈ ([(0, .aload_n 0, 1), (1, .invokespecial 3, 3), (4, .aload_n 0, 1), (5, .bipush 100, 2), (7, .anewarray 9, 3), (10, .putfield 11, 3), (13, .aload_n 0, 1), (14, .iconst 4, 1), (15, .anewarray 17, 3), (18, .putfield 19, 3), (21, .aload_n 0, 1), (22, .bipush 100, 2), (24, .newarray .int, 2), (26, .putfield 23, 3), (29, .aload_n 0, 1), (30, .bipush 100, 2), (32, .newarray .int, 2), (34, .putfield 27, 3), (37, .aload_n 0, 1), (38, .bipush 100, 2), (40, .newarray .int, 2), (42, .putfield 30, 3), (45, .return_, 1)] : List (Nat × Instr × Nat)), decode cX7_init q.1 = .ok q.2 := by decide +kernel
set_option maxHeartbeats 4000000 in
set_option maxRecDepth 20000 in
theorem s7_init {Y : m_Y Unit} (S : m_Std Y RX7 cX7_init) (E : m_End Y cX7_init .return_ (fun _ => [])) {F : Nat} (hF : m_Rm Y F) (hFn : 1 ≤ F) (hN : Y.2.2.2.1 = 1) (hI : Y.2.2.2.2.2 → Y.2.1.2.2.2.2.2.2.2.2.1.name = "<init>") (v0 : Int) (h : m_H) : m_Sim Y 0 [(0, m_r v0)] [] h (t7_init v0 h) := by
  unfold t7_init
  refine ms_aload_n (pc := 0) S 0 rfl rfl (m_dec e7_init 0 rfl) ?_
  refine ms_grd fun g1 => ?_
  refine ms_obj (pc := 1) S hF (Nat.le_trans (by decide) hFn) lo_X7_3 g1 (Nat.le_of_ble_eq_true rfl) (m_dec e7_init 1 rfl) ?_
  refine ms_aload_n (pc := 4) S 0 rfl rfl (m_dec e7_init 2 rfl) ?_
  refine ms_bipush (pc := 5) S (m_dec e7_init 3 rfl) rfl ?_
  refine ms_anew (pc := 7) S 24 (by decide) (fun _ => rfl) ⟨w_159, w_160⟩ (by decide) (m_dec e7_init 4 rfl) (fun h2 => ?_)
  refine ms_grd fun g3 => ?_
  refine ms_putf (pc := 10) S lp_X7_11 (fun _ hf => hI hf) rfl (fun d => m_fitA _ d _) (m_dec e7_init 5 rfl) g3 (fun h4 => ?_)
  refine ms_aload_n (pc := 13) S 0 rfl rfl (m_dec e7_init 6 rfl) ?_
  refine ms_iconst (pc := 14) S (m_dec e7_init 7 rfl) ?_
  refine ms_anew (pc := 15) S 25 (by decide) (fun _ => rfl) ⟨w_161, w_162⟩ (by decide) (m_dec e7_init 8 rfl) (fun h5 => ?_)
  refine ms_grd fun g6 => ?_
  refine ms_putf (pc := 18) S lp_X7_19 (fun _ hf => hI hf) rfl (fun d => m_fitA _ d _) (m_dec e7_init 9 rfl) g6 (fun h7 => ?_)
  refine ms_aload_n (pc := 21) S 0 rfl rfl (m_dec e7_init 10 rfl) ?_
  refine ms_bipush (pc := 22) S (m_dec e7_init 11 rfl) rfl ?_
  refine ms_newa (pc := 24) S 20 (ty := .int) rfl (by decide) (fun _ => rfl) (fun _ => rfl) (by decide) (fun _ _ z => z) w_208 (by decide) (m_dec e7_init 12 rfl) (fun h8 => ?_)
  refine ms_grd fun g9 => ?_
  refine ms_putf (pc := 26) S lp_X7_23 (fun _ hf => hI hf) rfl (fun d => m_fitA _ d _) (m_dec e7_init 13 rfl) g9 (fun h10 => ?_)
  refine ms_aload_n (pc := 29) S 0 rfl rfl (m_dec e7_init 14 rfl) ?_
  refine ms_bipush (pc := 30) S (m_dec e7_init 15 rfl) rfl ?_
  refine ms_newa (pc := 32) S 20 (ty := .int) rfl (by decide) (fun _ => rfl) (fun _ => rfl) (by decide) (fun _ _ z => z) w_208 (by decide) (m_dec e7_init 16 rfl) (fun h11 => ?_)
  refine ms_grd fun g12 => ?_
  refine ms_putf (pc := 34) S lp_X7_27 (fun _ hf => hI hf) rfl (fun d => m_fitA _ d _) (m_dec e7_init 17 rfl) g12 (fun h13 => ?_)
  refine ms_aload_n (pc := 37) S 0 rfl rfl (m_dec e7_init 18 rfl) ?_
  refine ms_bipush (pc := 38) S (m_dec e7_init 19 rfl) rfl ?_
  refine ms_newa (pc := 40) S 20 (ty := .int) rfl (by decide) (fun _ => rfl) (fun _ => rfl) (by decide) (fun _ _ z => z) w_208 (by decide) (m_dec e7_init 20 rfl) (fun h14 => ?_)
  refine ms_grd fun g15 => ?_
  refine ms_putf (pc := 42) S lp_X7_30 (fun _ hf => hI hf) rfl (fun d => m_fitA _ d _) (m_dec e7_init 21 rfl) g15 (fun h16 => ?_)
  exact ms_ret (pc := 45) E (m_dec e7_init 22 rfl) rfl
theorem k7_init (l : Launch) (d : m_D) (v0 : Int) (h : m_H) : m_Con l d yX7_init cX7_init 1 none 1 (fun _ => []) [m_r v0] h (t7_init v0 h) :=
  m_con2 (by decide +kernel) (Nat.le_of_ble_eq_true rfl) (fun Y hN hRm hr hI S hfin => s7_init S (m_end_v S hr hfin) hRm (Nat.le_refl _) hN hI v0 h)
set_option maxRecDepth 100000 in
theorem e7_countThere : ∀ q ∈ ([(0, .iconst 0, 1), (1, .istore_n 1, 1), (2, .iconst 0, 1), (3, .istore_n 2, 1), (4, .iload_n 2, 1), (5, .aload_n 0, 1), (6, .getfield 33, 3), (9, .if_icmp .ge 20, 3), (12, .aload_n 0, 1), (13, .iload_n 2, 1), (14, .invokevirtual 47, 3), (17, .ifnull 6, 3), (20, .iinc 1 1, 3), (23, .iinc 2 1, 3), (26, .goto (-22), 3), (29, .iload_n 1, 1), (30, .ireturn, 1)] : List (Nat × Instr × Nat)), decode cX7_countThere q.1 = .ok q.2 := by decide +kernel
set_option maxHeartbeats 4000000 in
set_option maxRecDepth 20000 in
theorem s7_countThere_c4 {Y : m_Y Int} (S : m_Std Y RX7 cX7_countThere) (E : m_End Y cX7_countThere .ireturn (fun r => [m_i r])) {F : Nat} (hF : m_Rm Y F) (hFn : 2 ≤ F) (hN : Y.2.2.2.1 = 3) : ∀ (v0 v1 v2 : Int) (h : m_H), m_Sim Y 4 [(0, m_r v0), (1, m_i v1), (2, m_i v2)] [] h (t7_countThere_c4 v0 v1 v2 h) := by
  intro v0 v1 v2 h
  refine ms_all fun r e => ?_
  refine t7_countThere_c4.partial_correctness v0 (motive := fun v1 v2 h r => m_Sim Y 4 [(0, m_r v0), (1, m_i v1), (2, m_i v2)] [] h (some r)) ?_ v1 v2 h r e
  intro f ih v1 v2 h r e
  have ih : ∀ (v1 v2 : Int) (h : m_H), m_Sim Y 4 [(0, m_r v0), (1, m_i v1), (2, m_i v2)] [] h (f v1 v2 h ) := fun v1 v2 h  => ms_all fun r e => ih v1 v2 h r e
  refine ms_use ?_ e
  clear e r
  refine ms_iload_n (pc := 4) S 2 rfl rfl (m_dec e7_countThere 4 rfl) ?_
  refine ms_aload_n (pc := 5) S 0 rfl rfl (m_dec e7_countThere 5 rfl) ?_
  refine ms_grd fun g1 => ?_
  refine ms_getf (pc := 6) S lf_X7_33 rfl (m_dec e7_countThere 6 rfl) g1 ?_
  refine ms_icmp_ge (pc := 9) S (m_dec e7_countThere 7 rfl) rfl (fun q2 => ?_) (fun q2 => ?_)
  · refine ms_aload_n (pc := 12) S 0 rfl rfl (m_dec e7_countThere 8 rfl) ?_
    refine ms_iload_n (pc := 13) S 2 rfl rfl (m_dec e7_countThere 9 rfl) ?_
    refine ms_callVa (pc := 14) S hF (vals := [m_i v2]) (st := []) (hc := vw_7) (hci := by decide) (hcy := rfl) (ht := g1) (hC := (k7_there _ _ v0 v2 h)) (hM := lm_X7_47) (hfr := (Nat.le_trans (by decide) hFn)) (hstk := rfl) (hcat := Nat.le_of_ble_eq_true rfl) (hd := (m_dec e7_countThere 10 rfl)) (k1 := fun r4 h3 => ?_)
    refine ms_ifnull (pc := 17) S (m_dec e7_countThere 11 rfl) rfl (fun q5 => ?_) (fun q5 => ?_)
    · refine ms_iinc (pc := 23) S (L' := [(0, m_r v0), (1, m_i v1), (2, m_i (v2 + 1))]) 2 rfl [1, 2, 0] rfl (m_lt hN rfl) (m_dec e7_countThere 13 rfl) ?_
      refine ms_goto (pc := 26) S (m_dec e7_countThere 14 rfl) rfl ?_
      exact ih v1 (v2 + 1) h3
    · refine ms_iinc (pc := 20) S (L' := [(0, m_r v0), (1, m_i (v1 + 1)), (2, m_i v2)]) 1 rfl [1, 0, 2] rfl (m_lt hN rfl) (m_dec e7_countThere 12 rfl) ?_
      refine ms_iinc (pc := 23) S (L' := [(0, m_r v0), (1, m_i (v1 + 1)), (2, m_i (v2 + 1))]) 2 rfl [1, 2, 0] rfl (m_lt hN rfl) (m_dec e7_countThere 13 rfl) ?_
      refine ms_goto (pc := 26) S (m_dec e7_countThere 14 rfl) rfl ?_
      exact ih (v1 + 1) (v2 + 1) h3
  · refine ms_iload_n (pc := 29) S 1 rfl rfl (m_dec e7_countThere 15 rfl) ?_
    exact ms_ret (pc := 30) E (m_dec e7_countThere 16 rfl) rfl
set_option maxHeartbeats 4000000 in
set_option maxRecDepth 20000 in
theorem s7_countThere {Y : m_Y Int} (S : m_Std Y RX7 cX7_countThere) (E : m_End Y cX7_countThere .ireturn (fun r => [m_i r])) {F : Nat} (hF : m_Rm Y F) (hFn : 2 ≤ F) (hN : Y.2.2.2.1 = 3) (v0 : Int) (h : m_H) : m_Sim Y 0 [(0, m_r v0)] [] h (t7_countThere v0 h) := by
  unfold t7_countThere
  refine ms_iconst (pc := 0) S (m_dec e7_countThere 0 rfl) ?_
  refine ms_istore_n (pc := 1) S (L' := [(0, m_r v0), (1, m_i 0)]) [1, 0] rfl rfl (m_lt hN rfl) (m_dec e7_countThere 1 rfl) ?_
  refine ms_iconst (pc := 2) S (m_dec e7_countThere 2 rfl) ?_
  refine ms_istore_n (pc := 3) S (L' := [(0, m_r v0), (1, m_i 0), (2, m_i 0)]) [1, 2, 0] rfl rfl (m_lt hN rfl) (m_dec e7_countThere 3 rfl) ?_
  exact s7_countThere_c4 S E hF hFn hN v0 0 0 h
theorem k7_countThere (l : Launch) (d : m_D) (v0 : Int) (h : m_H) : m_Con l d yX7_countThere cX7_countThere 3 (some .int) 2 (fun r => [m_i r]) [m_r v0] h (t7_countThere v0 h) :=
  m_con2 (by decide +kernel) (Nat.le_of_ble_eq_true rfl) (fun Y hN hRm hr hI S hfin => s7_countThere S (m_end_i S hr hfin) hRm (Nat.le_refl _) hN v0 h)
set_option maxRecDepth 100000 in
theorem e7_hasRoom : ∀ q ∈ ([(0, .aload_n 0, 1), (1, .getfield 33, 3), (4, .iload_n 1, 1), (5, .iadd, 1), (6, .bipush 100, 2), (8, .if_icmp .gt 19, 3), (11, .aload_n 0, 1), (12, .getfield 50, 3), (15, .iload_n 2, 1), (16, .iadd, 1), (17, .sipush 20000, 3), (20, .if_icmp .gt 7, 3), (23, .iconst 1, 1), (24, .goto 4, 3), (27, .iconst 0, 1), (28, .ireturn, 1)] : List (Nat × Instr × Nat)), decode cX7_hasRoom q.1 = .ok q.2 := by decide +kernel
set_option maxHeartbeats 4000000 in
set_option maxRecDepth 20000 in
theorem s7_hasRoom {Y : m_Y Bool} (S : m_Std Y RX7 cX7_hasRoom) (E : m_End Y cX7_hasRoom .ireturn (fun r => [m_i (m_b2i r)])) {F : Nat} (hF : m_Rm Y F) (hFn : 0 ≤ F) (hN : Y.2.2.2.1 = 3) (v0 v1 v2 : Int) (h : m_H) : m_Sim Y 0 [(0, m_r v0), (1, m_i v1), (2, m_i v2)] [] h (t7_hasRoom v0 v1 v2 h) := by
  unfold t7_hasRoom
  refine ms_aload_n (pc := 0) S 0 rfl rfl (m_dec e7_hasRoom 0 rfl) ?_
  refine ms_grd fun g1 => ?_
  refine ms_getf (pc := 1) S lf_X7_33 rfl (m_dec e7_hasRoom 1 rfl) g1 ?_
  refine ms_iload_n (pc := 4) S 1 rfl rfl (m_dec e7_hasRoom 2 rfl) ?_
  refine ms_iadd (pc := 5) S (m_dec e7_hasRoom 3 rfl) ?_
  refine ms_bipush (pc := 6) S (m_dec e7_hasRoom 4 rfl) rfl ?_
  refine ms_icmp_gt (pc := 8) S (m_dec e7_hasRoom 5 rfl) rfl (fun q2 => ?_) (fun q2 => ?_)
  · refine ms_iconst (pc := 27) S (m_dec e7_hasRoom 14 rfl) ?_
    exact ms_ret (pc := 28) E (m_dec e7_hasRoom 15 rfl) rfl
  · refine ms_aload_n (pc := 11) S 0 rfl rfl (m_dec e7_hasRoom 6 rfl) ?_
    refine ms_getf (pc := 12) S lf_X7_50 rfl (m_dec e7_hasRoom 7 rfl) g1 ?_
    refine ms_iload_n (pc := 15) S 2 rfl rfl (m_dec e7_hasRoom 8 rfl) ?_
    refine ms_iadd (pc := 16) S (m_dec e7_hasRoom 9 rfl) ?_
    refine ms_sipush (pc := 17) S (m_dec e7_hasRoom 10 rfl) rfl ?_
    refine ms_icmp_gt (pc := 20) S (m_dec e7_hasRoom 11 rfl) rfl (fun q3 => ?_) (fun q3 => ?_)
    · refine ms_iconst (pc := 27) S (m_dec e7_hasRoom 14 rfl) ?_
      exact ms_ret (pc := 28) E (m_dec e7_hasRoom 15 rfl) rfl
    · refine ms_iconst (pc := 23) S (m_dec e7_hasRoom 12 rfl) ?_
      refine ms_goto (pc := 24) S (m_dec e7_hasRoom 13 rfl) rfl ?_
      exact ms_ret (pc := 28) E (m_dec e7_hasRoom 15 rfl) rfl
theorem k7_hasRoom (l : Launch) (d : m_D) (v0 v1 v2 : Int) (h : m_H) : m_Con l d yX7_hasRoom cX7_hasRoom 3 (some .boolean) 0 (fun r => [m_i (m_b2i r)]) [m_r v0, m_i v1, m_i v2] h (t7_hasRoom v0 v1 v2 h) :=
  m_con2 (by decide +kernel) (Nat.le_of_ble_eq_true rfl) (fun Y hN hRm hr hI S hfin => s7_hasRoom S (m_end_z S hr hfin) hRm (Nat.le_refl _) hN v0 v1 v2 h)
set_option maxRecDepth 100000 in
theorem e8_init : ∀ q ∈ ([(0, .aload_n 0, 1), (1, .invokespecial 3, 3), (4, .aload_n 0, 1), (5, .new 9, 3), (8, .dup, 1), (9, .invokespecial 11, 3), (12, .putfield 12, 3), (15, .aload_n 0, 1), (16, .iconst 0, 1), (17, .putfield 18, 3), (20, .aload_n 0, 1), (21, .iconst (-1), 1), (22, .putfield 22, 3), (25, .aload_n 0, 1), (26, .iconst (-1), 1), (27, .putfield 25, 3), (30, .aload_n 0, 1), (31, .iconst (-1), 1), (32, .putfield 28, 3), (35, .aload_n 0, 1), (36, .iload_n 1, 1), (37, .putfield 31, 3), (40, .aload_n 0, 1), (41, .iload_n 2, 1), (42, .putfield 34, 3), (45, .aload_n 0, 1), (46, .iload_n 3, 1), (47, .putfield 37, 3), (50, .return_, 1)] : List (Nat × Instr × Nat)), decode cX8_init q.1 = .ok q.2 := by decide +kernel
set_option maxHeartbeats 4000000 in
set_option maxRecDepth 20000 in
theorem s8_init {Y : m_Y Unit} (S : m_Std Y RX8 cX8_init) (E : m_End Y cX8_init .return_ (fun _ => [])) {F : Nat} (hF : m_Rm Y F) (hFn : 2 ≤ F) (hN : Y.2.2.2.1 = 4) (hI : Y.2.2.2.2.2 → Y.2.1.2.2.2.2.2.2.2.2.1.name = "<init>") (v0 v1 v2 v3 : Int) (h : m_H) : m_Sim Y 0 [(0, m_r v0), (1, m_i v1), (2, m_i v2), (3, m_i v3)] [] h (t8_init v0 v1 v2 v3 h) := by
  unfold t8_init
  refine ms_aload_n (pc := 0) S 0 rfl rfl (m_dec e8_init 0 rfl) ?_
  refine ms_grd fun g1 => ?_
  refine ms_obj (pc := 1) S hF (Nat.le_trans (by decide) hFn) lo_X8_3 g1 (Nat.le_of_ble_eq_true rfl) (m_dec e8_init 1 rfl) ?_
  refine ms_aload_n (pc := 4) S 0 rfl rfl (m_dec e8_init 2 rfl) ?_
  refine ms_new (pc := 5) S ln_X8_9 rfl (m_dec e8_init 3 rfl) (fun h2 => ?_)
  refine ms_dup (pc := 8) S rfl (m_dec e8_init 4 rfl) ?_
  refine ms_grd fun g3 => ?_
  refine ms_callIv (pc := 9) S hF (vals := []) (st := [m_r (m_n h), m_r v0]) (ht := g3) (hC := (k5_init _ _ (m_n h) h2)) (hM := lm_X8_11) (hfr := (Nat.le_trans (by decide) hFn)) (hstk := rfl) (hcat := Nat.le_of_ble_eq_true rfl) (hd := (m_dec e8_init 5 rfl)) (k1 := fun h4 => ?_)
  refine ms_grd fun g6 => ?_
  refine ms_putf (pc := 12) S lp_X8_12 (fun _ hf => hI hf) rfl (fun d => m_fitO _ d _) (m_dec e8_init 6 rfl) g6 (fun h7 => ?_)
  refine ms_aload_n (pc := 15) S 0 rfl rfl (m_dec e8_init 7 rfl) ?_
  refine ms_iconst (pc := 16) S (m_dec e8_init 8 rfl) ?_
  refine ms_grd fun g8 => ?_
  refine ms_putf (pc := 17) S lp_X8_18 (fun z => by cases z) rfl (fun d => m_fitI d _) (m_dec e8_init 9 rfl) g8 (fun h9 => ?_)
  refine ms_aload_n (pc := 20) S 0 rfl rfl (m_dec e8_init 10 rfl) ?_
  refine ms_iconst (pc := 21) S (m_dec e8_init 11 rfl) ?_
  refine ms_grd fun g10 => ?_
  refine ms_putf (pc := 22) S lp_X8_22 (fun z => by cases z) rfl (fun d => m_fitI d _) (m_dec e8_init 12 rfl) g10 (fun h11 => ?_)
  refine ms_aload_n (pc := 25) S 0 rfl rfl (m_dec e8_init 13 rfl) ?_
  refine ms_iconst (pc := 26) S (m_dec e8_init 14 rfl) ?_
  refine ms_grd fun g12 => ?_
  refine ms_putf (pc := 27) S lp_X8_25 (fun z => by cases z) rfl (fun d => m_fitI d _) (m_dec e8_init 15 rfl) g12 (fun h13 => ?_)
  refine ms_aload_n (pc := 30) S 0 rfl rfl (m_dec e8_init 16 rfl) ?_
  refine ms_iconst (pc := 31) S (m_dec e8_init 17 rfl) ?_
  refine ms_grd fun g14 => ?_
  refine ms_putf (pc := 32) S lp_X8_28 (fun z => by cases z) rfl (fun d => m_fitI d _) (m_dec e8_init 18 rfl) g14 (fun h15 => ?_)
  refine ms_aload_n (pc := 35) S 0 rfl rfl (m_dec e8_init 19 rfl) ?_
  refine ms_iload_n (pc := 36) S 1 rfl rfl (m_dec e8_init 20 rfl) ?_
  refine ms_grd fun g16 => ?_
  refine ms_putf (pc := 37) S lp_X8_31 (fun _ hf => hI hf) rfl (fun d => m_fitI d _) (m_dec e8_init 21 rfl) g16 (fun h17 => ?_)
  refine ms_aload_n (pc := 40) S 0 rfl rfl (m_dec e8_init 22 rfl) ?_
  refine ms_iload_n (pc := 41) S 2 rfl rfl (m_dec e8_init 23 rfl) ?_
  refine ms_grd fun g18 => ?_
  refine ms_putf (pc := 42) S lp_X8_34 (fun _ hf => hI hf) rfl (fun d => m_fitI d _) (m_dec e8_init 24 rfl) g18 (fun h19 => ?_)
  refine ms_aload_n (pc := 45) S 0 rfl rfl (m_dec e8_init 25 rfl) ?_
  refine ms_iload_n (pc := 46) S 3 rfl rfl (m_dec e8_init 26 rfl) ?_
  refine ms_grd fun g20 => ?_
  refine ms_putf (pc := 47) S lp_X8_37 (fun _ hf => hI hf) rfl (fun d => m_fitI d _) (m_dec e8_init 27 rfl) g20 (fun h21 => ?_)
  exact ms_ret (pc := 50) E (m_dec e8_init 28 rfl) rfl
theorem k8_init (l : Launch) (d : m_D) (v0 v1 v2 v3 : Int) (h : m_H) : m_Con l d yX8_init cX8_init 4 none 2 (fun _ => []) [m_r v0, m_i v1, m_i v2, m_i v3] h (t8_init v0 v1 v2 v3 h) :=
  m_con2 (by decide +kernel) (Nat.le_of_ble_eq_true rfl) (fun Y hN hRm hr hI S hfin => s8_init S (m_end_v S hr hfin) hRm (Nat.le_refl _) hN hI v0 v1 v2 v3 h)
set_option maxRecDepth 100000 in
theorem e7_begin : ∀ q ∈ ([(0, .new 9, 3), (3, .dup, 1), (4, .aload_n 0, 1), (5, .getfield 33, 3), (8, .iload_n 1, 1), (9, .aload_n 0, 1), (10, .getfield 53, 3), (13, .invokespecial 56, 3), (16, .astore_n 3, 1), (17, .aload_n 3, 1), (18, .getfield 59, 3), (21, .iload_n 2, 1), (22, .invokevirtual 63, 3), (25, .aload_n 0, 1), (26, .getfield 33, 3), (29, .aload_n 0, 1), (30, .getfield 11, 3), (33, .arraylength, 1), (34, .if_icmp .ge 23, 3), (37, .aload_n 0, 1), (38, .getfield 11, 3), (41, .aload_n 0, 1), (42, .getfield 33, 3), (45, .aload_n 3, 1), (46, .aastore, 1), (47, .aload_n 0, 1), (48, .dup, 1), (49, .getfield 33, 3), (52, .iconst 1, 1), (53, .iadd, 1), (54, .putfield 33, 3), (57, .aload_n 0, 1), (58, .dup, 1), (59, .getfield 50, 3), (62, .iload_n 2, 1), (63, .iadd, 1), (64, .putfield 50, 3), (67, .aload_n 0, 1), (68, .dup, 1), (69, .getfield 69, 3), (72, .iconst 1, 1), (73, .iadd, 1), (74, .putfield 69, 3), (77, .aload_n 3, 1), (78, .areturn, 1)] : List (Nat × Instr × Nat)), decode cX7_begin q.1 = .ok q.2 := by decide +kernel
set_option maxHeartbeats 4000000 in
set_option maxRecDepth 20000 in
theorem s7_begin_c57 {Y : m_Y Int} (S : m_Std Y RX7 cX7_begin) (E : m_End Y cX7_begin .areturn (fun r => [m_r r])) {F : Nat} (hF : m_Rm Y F) (hFn : 3 ≤ F) (hN : Y.2.2.2.1 = 4) (v0 v2 v3 : Int) (h : m_H) : m_Sim Y 57 [(0, m_r v0), (2, m_i v2), (3, m_r v3)] [] h (t7_begin_c57 v0 v2 v3 h) := by
  unfold t7_begin_c57
  refine ms_aload_n (pc := 57) S 0 rfl rfl (m_dec e7_begin 31 rfl) ?_
  refine ms_dup (pc := 58) S rfl (m_dec e7_begin 32 rfl) ?_
  refine ms_grd fun g1 => ?_
  refine ms_getf (pc := 59) S lf_X7_50 rfl (m_dec e7_begin 33 rfl) g1 ?_
  refine ms_iload_n (pc := 62) S 1 rfl rfl (m_dec e7_begin 34 rfl) ?_
  refine ms_iadd (pc := 63) S (m_dec e7_begin 35 rfl) ?_
  refine ms_putf (pc := 64) S lp_X7_50 (fun z => by cases z) rfl (fun d => m_fitI d _) (m_dec e7_begin 36 rfl) g1 (fun h2 => ?_)
  refine ms_aload_n (pc := 67) S 0 rfl rfl (m_dec e7_begin 37 rfl) ?_
  refine ms_dup (pc := 68) S rfl (m_dec e7_begin 38 rfl) ?_
  refine ms_grd fun g3 => ?_
  refine ms_getf (pc := 69) S lf_X7_69 rfl (m_dec e7_begin 39 rfl) g3 ?_
  refine ms_iconst (pc := 72) S (m_dec e7_begin 40 rfl) ?_
  refine ms_iadd (pc := 73) S (m_dec e7_begin 41 rfl) ?_
  refine ms_putf (pc := 74) S lp_X7_69 (fun z => by cases z) rfl (fun d => m_fitI d _) (m_dec e7_begin 42 rfl) g3 (fun h4 => ?_)
  refine ms_aload_n (pc := 77) S 2 rfl rfl (m_dec e7_begin 43 rfl) ?_
  exact ms_ret (pc := 78) E (m_dec e7_begin 44 rfl) rfl
set_option maxHeartbeats 4000000 in
set_option maxRecDepth 20000 in
theorem s7_begin {Y : m_Y Int} (S : m_Std Y RX7 cX7_begin) (E : m_End Y cX7_begin .areturn (fun r => [m_r r])) {F : Nat} (hF : m_Rm Y F) (hFn : 3 ≤ F) (hN : Y.2.2.2.1 = 4) (v0 v1 v2 : Int) (h : m_H) : m_Sim Y 0 [(0, m_r v0), (1, m_i v1), (2, m_i v2)] [] h (t7_begin v0 v1 v2 h) := by
  unfold t7_begin
  refine ms_new (pc := 0) S ln_X7_9 rfl (m_dec e7_begin 0 rfl) (fun h1 => ?_)
  refine ms_dup (pc := 3) S rfl (m_dec e7_begin 1 rfl) ?_
  refine ms_aload_n (pc := 4) S 0 rfl rfl (m_dec e7_begin 2 rfl) ?_
  refine ms_grd fun g2 => ?_
  refine ms_getf (pc := 5) S lf_X7_33 rfl (m_dec e7_begin 3 rfl) g2 ?_
  refine ms_iload_n (pc := 8) S 1 rfl rfl (m_dec e7_begin 4 rfl) ?_
  refine ms_aload_n (pc := 9) S 0 rfl rfl (m_dec e7_begin 5 rfl) ?_
  refine ms_getf (pc := 10) S lf_X7_53 rfl (m_dec e7_begin 6 rfl) g2 ?_
  refine ms_grd fun g3 => ?_
  refine ms_callIv (pc := 13) S hF (vals := [m_i (m_g h1 v0 1), m_i v1, m_i (m_g h1 v0 3)]) (st := [m_r (m_n h)]) (ht := g3) (hC := (k8_init _ _ (m_n h) (m_g h1 v0 1) v1 (m_g h1 v0 3) h1)) (hM := lm_X7_56) (hfr := (Nat.le_trans (by decide) hFn)) (hstk := rfl) (hcat := Nat.le_of_ble_eq_true rfl) (hd := (m_dec e7_begin 7 rfl)) (k1 := fun h4 => ?_)
  refine ms_nm (st := fun x6 => [m_r x6]) fun x6 => ?_
  refine ms_astore_n (pc := 16) S (L' := [(0, m_r v0), (2, m_i v2), (3, m_r x6)]) [1, 3, 0] rfl rfl (m_lt hN rfl) (m_dec e7_begin 8 rfl) ?_
  refine ms_aload_n (pc := 17) S 2 rfl rfl (m_dec e7_begin 9 rfl) ?_
  refine ms_grd fun g7 => ?_
  refine ms_getf (pc := 18) S lf_X7_59 rfl (m_dec e7_begin 10 rfl) g7 ?_
  refine ms_iload_n (pc := 21) S 1 rfl rfl (m_dec e7_begin 11 rfl) ?_
  refine ms_grd fun g8 => ?_
  refine ms_callVv (pc := 22) S hF (vals := [m_i v2]) (st := []) (hc := vw_5) (hci := by decide) (hcy := rfl) (ht := g8) (hC := (k5_resize _ _ (m_g h4 x6 3) v2 h4)) (hM := lm_X7_63) (hfr := (Nat.le_trans (by decide) hFn)) (hstk := rfl) (hcat := Nat.le_of_ble_eq_true rfl) (hd := (m_dec e7_begin 12 rfl)) (k1 := fun h9 => ?_)
  refine ms_aload_n (pc := 25) S 0 rfl rfl (m_dec e7_begin 13 rfl) ?_
  refine ms_grd fun g11 => ?_
  refine ms_getf (pc := 26) S lf_X7_33 rfl (m_dec e7_begin 14 rfl) g11 ?_
  refine ms_aload_n (pc := 29) S 0 rfl rfl (m_dec e7_begin 15 rfl) ?_
  refine ms_getf (pc := 30) S lf_X7_11 rfl (m_dec e7_begin 16 rfl) g11 ?_
  refine ms_grd fun g12 => ?_
  refine ms_alen (pc := 33) S g12 (m_dec e7_begin 17 rfl) ?_
  refine ms_icmp_ge (pc := 34) S (m_dec e7_begin 18 rfl) rfl (fun q13 => ?_) (fun q13 => ?_)
  · refine ms_aload_n (pc := 37) S 0 rfl rfl (m_dec e7_begin 19 rfl) ?_
    refine ms_getf (pc := 38) S lf_X7_11 rfl (m_dec e7_begin 20 rfl) g11 ?_
    refine ms_aload_n (pc := 41) S 0 rfl rfl (m_dec e7_begin 21 rfl) ?_
    refine ms_getf (pc := 42) S lf_X7_33 rfl (m_dec e7_begin 22 rfl) g11 ?_
    refine ms_aload_n (pc := 45) S 2 rfl rfl (m_dec e7_begin 23 rfl) ?_
    refine ms_grd fun g14 => ?_
    refine ms_aast (pc := 46) S 24 8 (by decide) vw_8 (by decide) (fun _ => rfl) g14 (m_dec e7_begin 24 rfl) (fun h15 => ?_)
    refine ms_aload_n (pc := 47) S 0 rfl rfl (m_dec e7_begin 25 rfl) ?_
    refine ms_dup (pc := 48) S rfl (m_dec e7_begin 26 rfl) ?_
    refine ms_grd fun g16 => ?_
    refine ms_getf (pc := 49) S lf_X7_33 rfl (m_dec e7_begin 27 rfl) g16 ?_
    refine ms_iconst (pc := 52) S (m_dec e7_begin 28 rfl) ?_
    refine ms_iadd (pc := 53) S (m_dec e7_begin 29 rfl) ?_
    refine ms_putf (pc := 54) S lp_X7_33 (fun z => by cases z) rfl (fun d => m_fitI d _) (m_dec e7_begin 30 rfl) g16 (fun h17 => ?_)
    exact s7_begin_c57 S E hF hFn hN v0 v2 x6 h17
  · exact s7_begin_c57 S E hF hFn hN v0 v2 x6 h9
theorem k7_begin (l : Launch) (d : m_D) (v0 v1 v2 : Int) (h : m_H) : m_Con l d yX7_begin cX7_begin 4 (some (.object "TapeStudio$Strip")) 3 (fun r => [m_r r]) [m_r v0, m_i v1, m_i v2] h (t7_begin v0 v1 v2 h) :=
  m_con2 (by decide +kernel) (Nat.le_of_ble_eq_true rfl) (fun Y hN hRm hr hI S hfin => s7_begin S (m_end_a S (by first | exact Or.inl ⟨_, rfl⟩ | exact Or.inr ⟨_, rfl⟩) hr hfin) hRm (Nat.le_refl _) hN v0 v1 v2 h)
set_option maxRecDepth 100000 in
theorem e8_ageAs : ∀ q ∈ ([(0, .aload_n 0, 1), (1, .aload_n 0, 1), (2, .getfield 44, 3), (5, .aload_n 1, 1), (6, .getfield 44, 3), (9, .invokestatic 56, 3), (12, .putfield 44, 3), (15, .aload_n 0, 1), (16, .aload_n 0, 1), (17, .getfield 47, 3), (20, .aload_n 1, 1), (21, .getfield 47, 3), (24, .invokestatic 56, 3), (27, .putfield 47, 3), (30, .aload_n 0, 1), (31, .aload_n 0, 1), (32, .getfield 50, 3), (35, .aload_n 1, 1), (36, .getfield 50, 3), (39, .invokestatic 56, 3), (42, .putfield 50, 3), (45, .return_, 1)] : List (Nat × Instr × Nat)), decode cX8_ageAs q.1 = .ok q.2 := by decide +kernel
set_option maxHeartbeats 4000000 in
set_option maxRecDepth 20000 in
theorem s8_ageAs {Y : m_Y Unit} (S : m_Std Y RX8 cX8_ageAs) (E : m_End Y cX8_ageAs .return_ (fun _ => [])) {F : Nat} (hF : m_Rm Y F) (hFn : 1 ≤ F) (hN : Y.2.2.2.1 = 2) (v0 v1 : Int) (h : m_H) : m_Sim Y 0 [(0, m_r v0), (1, m_r v1)] [] h (t8_ageAs v0 v1 h) := by
  unfold t8_ageAs
  refine ms_aload_n (pc := 0) S 0 rfl rfl (m_dec e8_ageAs 0 rfl) ?_
  refine ms_aload_n (pc := 1) S 0 rfl rfl (m_dec e8_ageAs 1 rfl) ?_
  refine ms_grd fun g1 => ?_
  refine ms_getf (pc := 2) S lf_X8_44 rfl (m_dec e8_ageAs 2 rfl) g1 ?_
  refine ms_aload_n (pc := 5) S 1 rfl rfl (m_dec e8_ageAs 3 rfl) ?_
  refine ms_grd fun g2 => ?_
  refine ms_getf (pc := 6) S lf_X8_44 rfl (m_dec e8_ageAs 4 rfl) g2 ?_
  refine ms_mmax (pc := 9) S hF (Nat.le_trans (by decide) hFn) ⟨w_634, w_485, w_136, w_486⟩ (Nat.le_of_ble_eq_true rfl) (m_dec e8_ageAs 5 rfl) ?_
  refine ms_putf (pc := 12) S lp_X8_44 (fun z => by cases z) rfl (fun d => m_fitI d _) (m_dec e8_ageAs 6 rfl) g1 (fun h3 => ?_)
  refine ms_aload_n (pc := 15) S 0 rfl rfl (m_dec e8_ageAs 7 rfl) ?_
  refine ms_aload_n (pc := 16) S 0 rfl rfl (m_dec e8_ageAs 8 rfl) ?_
  refine ms_grd fun g4 => ?_
  refine ms_getf (pc := 17) S lf_X8_47 rfl (m_dec e8_ageAs 9 rfl) g4 ?_
  refine ms_aload_n (pc := 20) S 1 rfl rfl (m_dec e8_ageAs 10 rfl) ?_
  refine ms_grd fun g5 => ?_
  refine ms_getf (pc := 21) S lf_X8_47 rfl (m_dec e8_ageAs 11 rfl) g5 ?_
  refine ms_mmax (pc := 24) S hF (Nat.le_trans (by decide) hFn) ⟨w_634, w_485, w_136, w_486⟩ (Nat.le_of_ble_eq_true rfl) (m_dec e8_ageAs 12 rfl) ?_
  refine ms_putf (pc := 27) S lp_X8_47 (fun z => by cases z) rfl (fun d => m_fitI d _) (m_dec e8_ageAs 13 rfl) g4 (fun h6 => ?_)
  refine ms_aload_n (pc := 30) S 0 rfl rfl (m_dec e8_ageAs 14 rfl) ?_
  refine ms_aload_n (pc := 31) S 0 rfl rfl (m_dec e8_ageAs 15 rfl) ?_
  refine ms_grd fun g7 => ?_
  refine ms_getf (pc := 32) S lf_X8_50 rfl (m_dec e8_ageAs 16 rfl) g7 ?_
  refine ms_aload_n (pc := 35) S 1 rfl rfl (m_dec e8_ageAs 17 rfl) ?_
  refine ms_grd fun g8 => ?_
  refine ms_getf (pc := 36) S lf_X8_50 rfl (m_dec e8_ageAs 18 rfl) g8 ?_
  refine ms_mmax (pc := 39) S hF (Nat.le_trans (by decide) hFn) ⟨w_634, w_485, w_136, w_486⟩ (Nat.le_of_ble_eq_true rfl) (m_dec e8_ageAs 19 rfl) ?_
  refine ms_putf (pc := 42) S lp_X8_50 (fun z => by cases z) rfl (fun d => m_fitI d _) (m_dec e8_ageAs 20 rfl) g7 (fun h9 => ?_)
  exact ms_ret (pc := 45) E (m_dec e8_ageAs 21 rfl) rfl
theorem k8_ageAs (l : Launch) (d : m_D) (v0 v1 : Int) (h : m_H) : m_Con l d yX8_ageAs cX8_ageAs 2 none 1 (fun _ => []) [m_r v0, m_r v1] h (t8_ageAs v0 v1 h) :=
  m_con2 (by decide +kernel) (Nat.le_of_ble_eq_true rfl) (fun Y hN hRm hr hI S hfin => s8_ageAs S (m_end_v S hr hfin) hRm (Nat.le_refl _) hN v0 v1 h)
set_option maxRecDepth 100000 in
theorem e7_beginOf : ∀ q ∈ ([(0, .aload_n 0, 1), (1, .iload_n 1, 1), (2, .iload_n 2, 1), (3, .invokevirtual 72, 3), (6, .astore 4, 2), (8, .aload 4, 2), (10, .aload_n 3, 1), (11, .getfield 76, 3), (14, .putfield 79, 3), (17, .aload 4, 2), (19, .aload_n 3, 1), (20, .invokevirtual 82, 3), (23, .aload 4, 2), (25, .areturn, 1)] : List (Nat × Instr × Nat)), decode cX7_beginOf q.1 = .ok q.2 := by decide +kernel
set_option maxHeartbeats 4000000 in
set_option maxRecDepth 20000 in
theorem s7_beginOf {Y : m_Y Int} (S : m_Std Y RX7 cX7_beginOf) (E : m_End Y cX7_beginOf .areturn (fun r => [m_r r])) {F : Nat} (hF : m_Rm Y F) (hFn : 4 ≤ F) (hN : Y.2.2.2.1 = 5) (v0 v1 v2 v3 : Int) (h : m_H) : m_Sim Y 0 [(0, m_r v0), (1, m_i v1), (2, m_i v2), (3, m_r v3)] [] h (t7_beginOf v0 v1 v2 v3 h) := by
  unfold t7_beginOf
  refine ms_aload_n (pc := 0) S 0 rfl rfl (m_dec e7_beginOf 0 rfl) ?_
  refine ms_iload_n (pc := 1) S 1 rfl rfl (m_dec e7_beginOf 1 rfl) ?_
  refine ms_iload_n (pc := 2) S 2 rfl rfl (m_dec e7_beginOf 2 rfl) ?_
  refine ms_grd fun g1 => ?_
  refine ms_callVa (pc := 3) S hF (vals := [m_i v1, m_i v2]) (st := []) (hc := vw_7) (hci := by decide) (hcy := rfl) (ht := g1) (hC := (k7_begin _ _ v0 v1 v2 h)) (hM := lm_X7_72) (hfr := (Nat.le_trans (by decide) hFn)) (hstk := rfl) (hcat := Nat.le_of_ble_eq_true rfl) (hd := (m_dec e7_beginOf 3 rfl)) (k1 := fun r3 h2 => ?_)
  refine ms_astore (pc := 6) S (L' := [(3, m_r v3), (4, m_r r3)]) [4, 0] rfl (m_lt hN rfl) (m_dec e7_beginOf 4 rfl) ?_
  refine ms_aload (pc := 8) S 1 rfl (m_dec e7_beginOf 5 rfl) ?_
  refine ms_aload_n (pc := 10) S 0 rfl rfl (m_dec e7_beginOf 6 rfl) ?_
  refine ms_grd fun g4 => ?_
  refine ms_getf (pc := 11) S lf_X7_76 rfl (m_dec e7_beginOf 7 rfl) g4 ?_
  refine ms_grd fun g5 => ?_
  refine ms_putf (pc := 14) S lp_X7_79 (fun z => by cases z) rfl (fun d => m_fitI d _) (m_dec e7_beginOf 8 rfl) g5 (fun h6 => ?_)
  refine ms_aload (pc := 17) S 1 rfl (m_dec e7_beginOf 9 rfl) ?_
  refine ms_aload_n (pc := 19) S 0 rfl rfl (m_dec e7_beginOf 10 rfl) ?_
  refine ms_grd fun g7 => ?_
  refine ms_callVv (pc := 20) S hF (vals := [m_r v3]) (st := []) (hc := vw_8) (hci := by decide) (hcy := rfl) (ht := g7) (hC := (k8_ageAs _ _ r3 v3 h6)) (hM := lm_X7_82) (hfr := (Nat.le_trans (by decide) hFn)) (hstk := rfl) (hcat := Nat.le_of_ble_eq_true rfl) (hd := (m_dec e7_beginOf 11 rfl)) (k1 := fun h8 => ?_)
  refine ms_aload (pc := 23) S 1 rfl (m_dec e7_beginOf 12 rfl) ?_
  exact ms_ret (pc := 25) E (m_dec e7_beginOf 13 rfl) rfl
theorem k7_beginOf (l : Launch) (d : m_D) (v0 v1 v2 v3 : Int) (h : m_H) : m_Con l d yX7_beginOf cX7_beginOf 5 (some (.object "TapeStudio$Strip")) 4 (fun r => [m_r r]) [m_r v0, m_i v1, m_i v2, m_r v3] h (t7_beginOf v0 v1 v2 v3 h) :=
  m_con2 (by decide +kernel) (Nat.le_of_ble_eq_true rfl) (fun Y hN hRm hr hI S hfin => s7_beginOf S (m_end_a S (by first | exact Or.inl ⟨_, rfl⟩ | exact Or.inr ⟨_, rfl⟩) hr hfin) hRm (Nat.le_refl _) hN v0 v1 v2 v3 h)
set_option maxRecDepth 100000 in
theorem e7_takeAway : ∀ q ∈ ([(0, .aload_n 1, 1), (1, .iload_n 2, 1), (2, .putfield 41, 3), (5, .aload_n 1, 1), (6, .iconst (-1), 1), (7, .putfield 86, 3), (10, .aload_n 0, 1), (11, .dup, 1), (12, .getfield 69, 3), (15, .iconst 1, 1), (16, .iadd, 1), (17, .putfield 69, 3), (20, .return_, 1)] : List (Nat × Instr × Nat)), decode cX7_takeAway q.1 = .ok q.2 := by decide +kernel
set_option maxHeartbeats 4000000 in
set_option maxRecDepth 20000 in
theorem s7_takeAway {Y : m_Y Unit} (S : m_Std Y RX7 cX7_takeAway) (E : m_End Y cX7_takeAway .return_ (fun _ => [])) {F : Nat} (hF : m_Rm Y F) (hFn : 0 ≤ F) (hN : Y.2.2.2.1 = 3) (v0 v1 v2 : Int) (h : m_H) : m_Sim Y 0 [(0, m_r v0), (1, m_r v1), (2, m_i v2)] [] h (t7_takeAway v0 v1 v2 h) := by
  unfold t7_takeAway
  refine ms_aload_n (pc := 0) S 1 rfl rfl (m_dec e7_takeAway 0 rfl) ?_
  refine ms_iload_n (pc := 1) S 2 rfl rfl (m_dec e7_takeAway 1 rfl) ?_
  refine ms_grd fun g1 => ?_
  refine ms_putf (pc := 2) S lp_X7_41 (fun z => by cases z) rfl (fun d => m_fitI d _) (m_dec e7_takeAway 2 rfl) g1 (fun h2 => ?_)
  refine ms_aload_n (pc := 5) S 1 rfl rfl (m_dec e7_takeAway 3 rfl) ?_
  refine ms_iconst (pc := 6) S (m_dec e7_takeAway 4 rfl) ?_
  refine ms_grd fun g3 => ?_
  refine ms_putf (pc := 7) S lp_X7_86 (fun z => by cases z) rfl (fun d => m_fitI d _) (m_dec e7_takeAway 5 rfl) g3 (fun h4 => ?_)
  refine ms_aload_n (pc := 10) S 0 rfl rfl (m_dec e7_takeAway 6 rfl) ?_
  refine ms_dup (pc := 11) S rfl (m_dec e7_takeAway 7 rfl) ?_
  refine ms_grd fun g5 => ?_
  refine ms_getf (pc := 12) S lf_X7_69 rfl (m_dec e7_takeAway 8 rfl) g5 ?_
  refine ms_iconst (pc := 15) S (m_dec e7_takeAway 9 rfl) ?_
  refine ms_iadd (pc := 16) S (m_dec e7_takeAway 10 rfl) ?_
  refine ms_putf (pc := 17) S lp_X7_69 (fun z => by cases z) rfl (fun d => m_fitI d _) (m_dec e7_takeAway 11 rfl) g5 (fun h6 => ?_)
  exact ms_ret (pc := 20) E (m_dec e7_takeAway 12 rfl) rfl
theorem k7_takeAway (l : Launch) (d : m_D) (v0 v1 v2 : Int) (h : m_H) : m_Con l d yX7_takeAway cX7_takeAway 3 none 0 (fun _ => []) [m_r v0, m_r v1, m_i v2] h (t7_takeAway v0 v1 v2 h) :=
  m_con2 (by decide +kernel) (Nat.le_of_ble_eq_true rfl) (fun Y hN hRm hr hI S hfin => s7_takeAway S (m_end_v S hr hfin) hRm (Nat.le_refl _) hN v0 v1 v2 h)
set_option maxRecDepth 100000 in
theorem e7_layStrip : ∀ q ∈ ([(0, .aload_n 0, 1), (1, .iconst 0, 1), (2, .iload_n 2, 1), (3, .invokevirtual 72, 3), (6, .astore_n 3, 1), (7, .aload_n 3, 1), (8, .getfield 59, 3), (11, .aload_n 1, 1), (12, .iconst 0, 1), (13, .iload_n 2, 1), (14, .invokevirtual 89, 3), (17, .aload_n 3, 1), (18, .getfield 76, 3), (21, .ireturn, 1)] : List (Nat × Instr × Nat)), decode cX7_layStrip q.1 = .ok q.2 := by decide +kernel
set_option maxHeartbeats 4000000 in
set_option maxRecDepth 20000 in
theorem s7_layStrip {Y : m_Y Int} (S : m_Std Y RX7 cX7_layStrip) (E : m_End Y cX7_layStrip .ireturn (fun r => [m_i r])) {F : Nat} (hF : m_Rm Y F) (hFn : 4 ≤ F) (hN : Y.2.2.2.1 = 4) (v0 v1 v2 : Int) (h : m_H) : m_Sim Y 0 [(0, m_r v0), (1, m_r v1), (2, m_i v2)] [] h (t7_layStrip v0 v1 v2 h) := by
  unfold t7_layStrip
  refine ms_aload_n (pc := 0) S 0 rfl rfl (m_dec e7_layStrip 0 rfl) ?_
  refine ms_iconst (pc := 1) S (m_dec e7_layStrip 1 rfl) ?_
  refine ms_iload_n (pc := 2) S 2 rfl rfl (m_dec e7_layStrip 2 rfl) ?_
  refine ms_grd fun g1 => ?_
  refine ms_callVa (pc := 3) S hF (vals := [m_i 0, m_i v2]) (st := []) (hc := vw_7) (hci := by decide) (hcy := rfl) (ht := g1) (hC := (k7_begin _ _ v0 0 v2 h)) (hM := lm_X7_72) (hfr := (Nat.le_trans (by decide) hFn)) (hstk := rfl) (hcat := Nat.le_of_ble_eq_true rfl) (hd := (m_dec e7_layStrip 3 rfl)) (k1 := fun r3 h2 => ?_)
  refine ms_astore_n (pc := 6) S (L' := [(1, m_r v1), (2, m_i v2), (3, m_r r3)]) [2, 3, 0] rfl rfl (m_lt hN rfl) (m_dec e7_layStrip 4 rfl) ?_
  refine ms_aload_n (pc := 7) S 2 rfl rfl (m_dec e7_layStrip 5 rfl) ?_
  refine ms_grd fun g4 => ?_
  refine ms_getf (pc := 8) S lf_X7_59 rfl (m_dec e7_layStrip 6 rfl) g4 ?_
  refine ms_aload_n (pc := 11) S 0 rfl rfl (m_dec e7_layStrip 7 rfl) ?_
  refine ms_iconst (pc := 12) S (m_dec e7_layStrip 8 rfl) ?_
  refine ms_iload_n (pc := 13) S 1 rfl rfl (m_dec e7_layStrip 9 rfl) ?_
  refine ms_grd fun g5 => ?_
  refine ms_callVv (pc := 14) S hF (vals := [m_r v1, m_i 0, m_i v2]) (st := []) (hc := vw_5) (hci := by decide) (hcy := rfl) (ht := g5) (hC := (k5_fillPart _ _ (m_g h2 r3 3) v1 0 v2 h2)) (hM := lm_X7_89) (hfr := (Nat.le_trans (by decide) hFn)) (hstk := rfl) (hcat := Nat.le_of_ble_eq_true rfl) (hd := (m_dec e7_layStrip 10 rfl)) (k1 := fun h6 => ?_)
  refine ms_aload_n (pc := 17) S 2 rfl rfl (m_dec e7_layStrip 11 rfl) ?_
  refine ms_grd fun g8 => ?_
  refine ms_getf (pc := 18) S lf_X7_76 rfl (m_dec e7_layStrip 12 rfl) g8 ?_
  exact ms_ret (pc := 21) E (m_dec e7_layStrip 13 rfl) rfl
theorem k7_layStrip (l : Launch) (d : m_D) (v0 v1 v2 : Int) (h : m_H) : m_Con l d yX7_layStrip cX7_layStrip 4 (some .int) 4 (fun r => [m_i r]) [m_r v0, m_r v1, m_i v2] h (t7_layStrip v0 v1 v2 h) :=
  m_con2 (by decide +kernel) (Nat.le_of_ble_eq_true rfl) (fun Y hN hRm hr hI S hfin => s7_layStrip S (m_end_i S hr hfin) hRm (Nat.le_refl _) hN v0 v1 v2 h)
set_option maxRecDepth 100000 in
theorem e7_addPart : ∀ q ∈ ([(0, .aload_n 0, 1), (1, .iconst 1, 1), (2, .iload_n 3, 1), (3, .aload_n 1, 1), (4, .invokevirtual 112, 3), (7, .astore 4, 2), (9, .aload 4, 2), (11, .getfield 59, 3), (14, .aload_n 1, 1), (15, .getfield 59, 3), (18, .iload_n 2, 1), (19, .iload_n 3, 1), (20, .invokevirtual 89, 3), (23, .aload 4, 2), (25, .iload_n 2, 1), (26, .putfield 116, 3), (29, .aload 4, 2), (31, .getfield 76, 3), (34, .ireturn, 1)] : List (Nat × Instr × Nat)), decode cX7_addPart q.1 = .ok q.2 := by decide +kernel
set_option maxHeartbeats 4000000 in
set_option maxRecDepth 20000 in
theorem s7_addPart {Y : m_Y Int} (S : m_Std Y RX7 cX7_addPart) (E : m_End Y cX7_addPart .ireturn (fun r => [m_i r])) {F : Nat} (hF : m_Rm Y F) (hFn : 5 ≤ F) (hN : Y.2.2.2.1 = 5) (v0 v1 v2 v3 : Int) (h : m_H) : m_Sim Y 0 [(0, m_r v0), (1, m_r v1), (2, m_i v2), (3, m_i v3)] [] h (t7_addPart v0 v1 v2 v3 h) := by
  unfold t7_addPart
  refine ms_aload_n (pc := 0) S 0 rfl rfl (m_dec e7_addPart 0 rfl) ?_
  refine ms_iconst (pc := 1) S (m_dec e7_addPart 1 rfl) ?_
  refine ms_iload_n (pc := 2) S 3 rfl rfl (m_dec e7_addPart 2 rfl) ?_
  refine ms_aload_n (pc := 3) S 1 rfl rfl (m_dec e7_addPart 3 rfl) ?_
  refine ms_grd fun g1 => ?_
  refine ms_callVa (pc := 4) S hF (vals := [m_i 1, m_i v3, m_r v1]) (st := []) (hc := vw_7) (hci := by decide) (hcy := rfl) (ht := g1) (hC := (k7_beginOf _ _ v0 1 v3 v1 h)) (hM := lm_X7_112) (hfr := (Nat.le_trans (by decide) hFn)) (hstk := rfl) (hcat := Nat.le_of_ble_eq_true rfl) (hd := (m_dec e7_addPart 4 rfl)) (k1 := fun r3 h2 => ?_)
  refine ms_astore (pc := 7) S (L' := [(1, m_r v1), (2, m_i v2), (3, m_i v3), (4, m_r r3)]) [2, 3, 4, 0] rfl (m_lt hN rfl) (m_dec e7_addPart 5 rfl) ?_
  refine ms_aload (pc := 9) S 3 rfl (m_dec e7_addPart 6 rfl) ?_
  refine ms_grd fun g4 => ?_
  refine ms_getf (pc := 11) S lf_X7_59 rfl (m_dec e7_addPart 7 rfl) g4 ?_
  refine ms_aload_n (pc := 14) S 0 rfl rfl (m_dec e7_addPart 8 rfl) ?_
  refine ms_grd fun g5 => ?_
  refine ms_getf (pc := 15) S lf_X7_59 rfl (m_dec e7_addPart 9 rfl) g5 ?_
  refine ms_iload_n (pc := 18) S 1 rfl rfl (m_dec e7_addPart 10 rfl) ?_
  refine ms_iload_n (pc := 19) S 2 rfl rfl (m_dec e7_addPart 11 rfl) ?_
  refine ms_grd fun g6 => ?_
  refine ms_callVv (pc := 20) S hF (vals := [m_r (m_g h2 v1 3), m_i v2, m_i v3]) (st := []) (hc := vw_5) (hci := by decide) (hcy := rfl) (ht := g6) (hC := (k5_fillPart _ _ (m_g h2 r3 3) (m_g h2 v1 3) v2 v3 h2)) (hM := lm_X7_89) (hfr := (Nat.le_trans (by decide) hFn)) (hstk := rfl) (hcat := Nat.le_of_ble_eq_true rfl) (hd := (m_dec e7_addPart 12 rfl)) (k1 := fun h7 => ?_)
  refine ms_aload (pc := 23) S 3 rfl (m_dec e7_addPart 13 rfl) ?_
  refine ms_iload_n (pc := 25) S 1 rfl rfl (m_dec e7_addPart 14 rfl) ?_
  refine ms_grd fun g9 => ?_
  refine ms_putf (pc := 26) S lp_X7_116 (fun z => by cases z) rfl (fun d => m_fitI d _) (m_dec e7_addPart 15 rfl) g9 (fun h10 => ?_)
  refine ms_aload (pc := 29) S 3 rfl (m_dec e7_addPart 16 rfl) ?_
  refine ms_grd fun g11 => ?_
  refine ms_getf (pc := 31) S lf_X7_76 rfl (m_dec e7_addPart 17 rfl) g11 ?_
  exact ms_ret (pc := 34) E (m_dec e7_addPart 18 rfl) rfl
theorem k7_addPart (l : Launch) (d : m_D) (v0 v1 v2 v3 : Int) (h : m_H) : m_Con l d yX7_addPart cX7_addPart 5 (some .int) 5 (fun r => [m_i r]) [m_r v0, m_r v1, m_i v2, m_i v3] h (t7_addPart v0 v1 v2 v3 h) :=
  m_con2 (by decide +kernel) (Nat.le_of_ble_eq_true rfl) (fun Y hN hRm hr hI S hfin => s7_addPart S (m_end_i S hr hfin) hRm (Nat.le_refl _) hN v0 v1 v2 v3 h)
set_option maxRecDepth 100000 in
theorem e7_cutAt : ∀ q ∈ ([(0, .aload_n 0, 1), (1, .iload_n 1, 1), (2, .invokevirtual 47, 3), (5, .astore_n 3, 1), (6, .aload_n 3, 1), (7, .ifnull 19, 3), (10, .iload_n 2, 1), (11, .iconst 1, 1), (12, .if_icmp .lt 14, 3), (15, .iload_n 2, 1), (16, .aload_n 3, 1), (17, .getfield 59, 3), (20, .invokevirtual 93, 3), (23, .if_icmp .lt 5, 3), (26, .iconst (-1), 1), (27, .ireturn, 1), (28, .iload_n 2, 1), (29, .aload_n 0, 1), (30, .getfield 97, 3), (33, .iadd, 1), (34, .istore 4, 2), (36, .aload_n 3, 1), (37, .getfield 59, 3), (40, .invokevirtual 93, 3), (43, .iload 4, 2), (45, .isub, 1), (46, .istore 5, 2), (48, .iload 5, 2), (50, .iconst 1, 1), (51, .if_icmp .lt 15, 3), (54, .aload_n 0, 1), (55, .iconst 2, 1), (56, .iload_n 2, 1), (57, .iload 5, 2), (59, .iadd, 1), (60, .invokevirtual 100, 3), (63, .ifCond .ne 5, 3), (66, .iconst (-1), 1), (67, .ireturn, 1), (68, .aload_n 0, 1), (69, .aload_n 3, 1), (70, .iconst 0, 1), (71, .iload_n 2, 1), (72, .invokevirtual 104, 3), (75, .istore 6, 2), (77, .aload_n 0, 1), (78, .aload_n 3, 1), (79, .iload 4, 2), (81, .iload 5, 2), (83, .invokevirtual 104, 3), (86, .pop, 1), (87, .aload_n 0, 1), (88, .aload_n 3, 1), (89, .iconst 1, 1), (90, .invokevirtual 108, 3), (93, .iload 6, 2), (95, .ireturn, 1)] : List (Nat × Instr × Nat)), decode cX7_cutAt q.1 = .ok q.2 := by decide +kernel
set_option maxHeartbeats 4000000 in
set_option maxRecDepth 20000 in
theorem s7_cutAt {Y : m_Y Int} (S : m_Std Y RX7 cX7_cutAt) (E : m_End Y cX7_cutAt .ireturn (fun r => [m_i r])) {F : Nat} (hF : m_Rm Y F) (hFn : 6 ≤ F) (hN : Y.2.2.2.1 = 7) (v0 v1 v2 : Int) (h : m_H) : m_Sim Y 0 [(0, m_r v0), (1, m_i v1), (2, m_i v2)] [] h (t7_cutAt v0 v1 v2 h) := by
  unfold t7_cutAt
  refine ms_aload_n (pc := 0) S 0 rfl rfl (m_dec e7_cutAt 0 rfl) ?_
  refine ms_iload_n (pc := 1) S 1 rfl rfl (m_dec e7_cutAt 1 rfl) ?_
  refine ms_grd fun g1 => ?_
  refine ms_callVa (pc := 2) S hF (vals := [m_i v1]) (st := []) (hc := vw_7) (hci := by decide) (hcy := rfl) (ht := g1) (hC := (k7_there _ _ v0 v1 h)) (hM := lm_X7_47) (hfr := (Nat.le_trans (by decide) hFn)) (hstk := rfl) (hcat := Nat.le_of_ble_eq_true rfl) (hd := (m_dec e7_cutAt 2 rfl)) (k1 := fun r3 h2 => ?_)
  refine ms_astore_n (pc := 5) S (L' := [(0, m_r v0), (2, m_i v2), (3, m_r r3)]) [1, 3, 0] rfl rfl (m_lt hN rfl) (m_dec e7_cutAt 3 rfl) ?_
  refine ms_aload_n (pc := 6) S 2 rfl rfl (m_dec e7_cutAt 4 rfl) ?_
  refine ms_ifnull (pc := 7) S (m_dec e7_cutAt 5 rfl) rfl (fun q4 => ?_) (fun q4 => ?_)
  · refine ms_iconst (pc := 26) S (m_dec e7_cutAt 14 rfl) ?_
    exact ms_ret (pc := 27) E (m_dec e7_cutAt 15 rfl) rfl
  · refine ms_iload_n (pc := 10) S 1 rfl rfl (m_dec e7_cutAt 6 rfl) ?_
    refine ms_iconst (pc := 11) S (m_dec e7_cutAt 7 rfl) ?_
    refine ms_icmp_lt (pc := 12) S (m_dec e7_cutAt 8 rfl) rfl (fun q5 => ?_) (fun q5 => ?_)
    · refine ms_iconst (pc := 26) S (m_dec e7_cutAt 14 rfl) ?_
      exact ms_ret (pc := 27) E (m_dec e7_cutAt 15 rfl) rfl
    · refine ms_iload_n (pc := 15) S 1 rfl rfl (m_dec e7_cutAt 9 rfl) ?_
      refine ms_aload_n (pc := 16) S 2 rfl rfl (m_dec e7_cutAt 10 rfl) ?_
      refine ms_grd fun g6 => ?_
      refine ms_getf (pc := 17) S lf_X7_59 rfl (m_dec e7_cutAt 11 rfl) g6 ?_
      refine ms_grd fun g7 => ?_
      refine ms_callVi (pc := 20) S hF (vals := []) (st := [m_i v2]) (hc := vw_5) (hci := by decide) (hcy := rfl) (ht := g7) (hC := (k5_size _ _ (m_g h2 r3 3) h2)) (hM := lm_X7_93) (hfr := (Nat.le_trans (by decide) hFn)) (hstk := rfl) (hcat := Nat.le_of_ble_eq_true rfl) (hd := (m_dec e7_cutAt 12 rfl)) (k1 := fun r9 h8 => ?_)
      refine ms_icmp_lt (pc := 23) S (m_dec e7_cutAt 13 rfl) rfl (fun q10 => ?_) (fun q10 => ?_)
      · refine ms_iload_n (pc := 28) S 1 rfl rfl (m_dec e7_cutAt 16 rfl) ?_
        refine ms_aload_n (pc := 29) S 0 rfl rfl (m_dec e7_cutAt 17 rfl) ?_
        refine ms_grd fun g11 => ?_
        refine ms_getf (pc := 30) S lf_X7_97 rfl (m_dec e7_cutAt 18 rfl) g11 ?_
        refine ms_iadd (pc := 33) S (m_dec e7_cutAt 19 rfl) ?_
        refine ms_nm (st := fun x12 => [m_i x12]) fun x12 => ?_
        refine ms_istore (pc := 34) S (L' := [(0, m_r v0), (2, m_i v2), (3, m_r r3), (4, m_i x12)]) [1, 2, 3, 0] rfl (m_lt hN rfl) (m_dec e7_cutAt 20 rfl) ?_
        refine ms_aload_n (pc := 36) S 2 rfl rfl (m_dec e7_cutAt 21 rfl) ?_
        refine ms_grd fun g13 => ?_
        refine ms_getf (pc := 37) S lf_X7_59 rfl (m_dec e7_cutAt 22 rfl) g13 ?_
        refine ms_grd fun g14 => ?_
        refine ms_callVi (pc := 40) S hF (vals := []) (st := []) (hc := vw_5) (hci := by decide) (hcy := rfl) (ht := g14) (hC := (k5_size _ _ (m_g h8 r3 3) h8)) (hM := lm_X7_93) (hfr := (Nat.le_trans (by decide) hFn)) (hstk := rfl) (hcat := Nat.le_of_ble_eq_true rfl) (hd := (m_dec e7_cutAt 23 rfl)) (k1 := fun r16 h15 => ?_)
        refine ms_iload (pc := 43) S 3 rfl (m_dec e7_cutAt 24 rfl) ?_
        refine ms_isub (pc := 45) S (m_dec e7_cutAt 25 rfl) ?_
        refine ms_nm (st := fun x17 => [m_i x17]) fun x17 => ?_
        refine ms_istore (pc := 46) S (L' := [(0, m_r v0), (2, m_i v2), (3, m_r r3), (4, m_i x12), (5, m_i x17)]) [1, 2, 3, 4, 0] rfl (m_lt hN rfl) (m_dec e7_cutAt 26 rfl) ?_
        refine ms_iload (pc := 48) S 4 rfl (m_dec e7_cutAt 27 rfl) ?_
        refine ms_iconst (pc := 50) S (m_dec e7_cutAt 28 rfl) ?_
        refine ms_icmp_lt (pc := 51) S (m_dec e7_cutAt 29 rfl) rfl (fun q18 => ?_) (fun q18 => ?_)
        · refine ms_iconst (pc := 66) S (m_dec e7_cutAt 37 rfl) ?_
          exact ms_ret (pc := 67) E (m_dec e7_cutAt 38 rfl) rfl
        · refine ms_aload_n (pc := 54) S 0 rfl rfl (m_dec e7_cutAt 30 rfl) ?_
          refine ms_iconst (pc := 55) S (m_dec e7_cutAt 31 rfl) ?_
          refine ms_iload_n (pc := 56) S 1 rfl rfl (m_dec e7_cutAt 32 rfl) ?_
          refine ms_iload (pc := 57) S 4 rfl (m_dec e7_cutAt 33 rfl) ?_
          refine ms_iadd (pc := 59) S (m_dec e7_cutAt 34 rfl) ?_
          refine ms_grd fun g19 => ?_
          refine ms_callVz (pc := 60) S hF (vals := [m_i 2, m_i (v2 + x17)]) (st := []) (hc := vw_7) (hci := by decide) (hcy := rfl) (ht := g19) (hC := (k7_hasRoom _ _ v0 2 (v2 + x17) h15)) (hM := lm_X7_100) (hfr := (Nat.le_trans (by decide) hFn)) (hstk := rfl) (hcat := Nat.le_of_ble_eq_true rfl) (hd := (m_dec e7_cutAt 35 rfl)) (k1 := fun r21 h20 => ?_)
          refine ms_ifb_ne (pc := 63) S (m_dec e7_cutAt 36 rfl) rfl (fun q22 => ?_) (fun q22 => ?_)
          · refine ms_aload_n (pc := 68) S 0 rfl rfl (m_dec e7_cutAt 39 rfl) ?_
            refine ms_aload_n (pc := 69) S 2 rfl rfl (m_dec e7_cutAt 40 rfl) ?_
            refine ms_iconst (pc := 70) S (m_dec e7_cutAt 41 rfl) ?_
            refine ms_iload_n (pc := 71) S 1 rfl rfl (m_dec e7_cutAt 42 rfl) ?_
            refine ms_grd fun g23 => ?_
            refine ms_callVi (pc := 72) S hF (vals := [m_r r3, m_i 0, m_i v2]) (st := []) (hc := vw_7) (hci := by decide) (hcy := rfl) (ht := g23) (hC := (k7_addPart _ _ v0 r3 0 v2 h20)) (hM := lm_X7_104) (hfr := (Nat.le_trans (by decide) hFn)) (hstk := rfl) (hcat := Nat.le_of_ble_eq_true rfl) (hd := (m_dec e7_cutAt 43 rfl)) (k1 := fun r25 h24 => ?_)
            refine ms_istore (pc := 75) S (L' := [(0, m_r v0), (3, m_r r3), (4, m_i x12), (5, m_i x17), (6, m_i r25)]) [1, 3, 4, 5, 0] rfl (m_lt hN rfl) (m_dec e7_cutAt 44 rfl) ?_
            refine ms_aload_n (pc := 77) S 0 rfl rfl (m_dec e7_cutAt 45 rfl) ?_
            refine ms_aload_n (pc := 78) S 1 rfl rfl (m_dec e7_cutAt 46 rfl) ?_
            refine ms_iload (pc := 79) S 2 rfl (m_dec e7_cutAt 47 rfl) ?_
            refine ms_iload (pc := 81) S 3 rfl (m_dec e7_cutAt 48 rfl) ?_
            refine ms_grd fun g26 => ?_
            refine ms_callVi (pc := 83) S hF (vals := [m_r r3, m_i x12, m_i x17]) (st := []) (hc := vw_7) (hci := by decide) (hcy := rfl) (ht := g26) (hC := (k7_addPart _ _ v0 r3 x12 x17 h24)) (hM := lm_X7_104) (hfr := (Nat.le_trans (by decide) hFn)) (hstk := rfl) (hcat := Nat.le_of_ble_eq_true rfl) (hd := (m_dec e7_cutAt 49 rfl)) (k1 := fun r28 h27 => ?_)
            refine ms_pop (pc := 86) S rfl (m_dec e7_cutAt 50 rfl) ?_
            refine ms_aload_n (pc := 87) S 0 rfl rfl (m_dec e7_cutAt 51 rfl) ?_
            refine ms_aload_n (pc := 88) S 1 rfl rfl (m_dec e7_cutAt 52 rfl) ?_
            refine ms_iconst (pc := 89) S (m_dec e7_cutAt 53 rfl) ?_
            refine ms_grd fun g29 => ?_
            refine ms_callVv (pc := 90) S hF (vals := [m_r r3, m_i 1]) (st := []) (hc := vw_7) (hci := by decide) (hcy := rfl) (ht := g29) (hC := (k7_takeAway _ _ v0 r3 1 h27)) (hM := lm_X7_108) (hfr := (Nat.le_trans (by decide) hFn)) (hstk := rfl) (hcat := Nat.le_of_ble_eq_true rfl) (hd := (m_dec e7_cutAt 54 rfl)) (k1 := fun h30 => ?_)
            refine ms_iload (pc := 93) S 4 rfl (m_dec e7_cutAt 55 rfl) ?_
            exact ms_ret (pc := 95) E (m_dec e7_cutAt 56 rfl) rfl
          · refine ms_iconst (pc := 66) S (m_dec e7_cutAt 37 rfl) ?_
            exact ms_ret (pc := 67) E (m_dec e7_cutAt 38 rfl) rfl
      · refine ms_iconst (pc := 26) S (m_dec e7_cutAt 14 rfl) ?_
        exact ms_ret (pc := 27) E (m_dec e7_cutAt 15 rfl) rfl
theorem k7_cutAt (l : Launch) (d : m_D) (v0 v1 v2 : Int) (h : m_H) : m_Con l d yX7_cutAt cX7_cutAt 7 (some .int) 6 (fun r => [m_i r]) [m_r v0, m_i v1, m_i v2] h (t7_cutAt v0 v1 v2 h) :=
  m_con2 (by decide +kernel) (Nat.le_of_ble_eq_true rfl) (fun Y hN hRm hr hI S hfin => s7_cutAt S (m_end_i S hr hfin) hRm (Nat.le_refl _) hN v0 v1 v2 h)
set_option maxRecDepth 100000 in
theorem e7_freeStrip : ∀ q ∈ ([(0, .aload_n 0, 1), (1, .iload_n 1, 1), (2, .invokevirtual 47, 3), (5, .astore_n 2, 1), (6, .aload_n 2, 1), (7, .ifnull 11, 3), (10, .aload_n 2, 1), (11, .getfield 118, 3), (14, .iconst 3, 1), (15, .if_icmp .ne 7, 3), (18, .aconst_null, 1), (19, .goto 4, 3), (22, .aload_n 2, 1), (23, .areturn, 1)] : List (Nat × Instr × Nat)), decode cX7_freeStrip q.1 = .ok q.2 := by decide +kernel
set_option maxHeartbeats 4000000 in
set_option maxRecDepth 20000 in
theorem s7_freeStrip {Y : m_Y Int} (S : m_Std Y RX7 cX7_freeStrip) (E : m_End Y cX7_freeStrip .areturn (fun r => [m_r r])) {F : Nat} (hF : m_Rm Y F) (hFn : 2 ≤ F) (hN : Y.2.2.2.1 = 3) (v0 v1 : Int) (h : m_H) : m_Sim Y 0 [(0, m_r v0), (1, m_i v1)] [] h (t7_freeStrip v0 v1 h) := by
  unfold t7_freeStrip
  refine ms_aload_n (pc := 0) S 0 rfl rfl (m_dec e7_freeStrip 0 rfl) ?_
  refine ms_iload_n (pc := 1) S 1 rfl rfl (m_dec e7_freeStrip 1 rfl) ?_
  refine ms_grd fun g1 => ?_
  refine ms_callVa (pc := 2) S hF (vals := [m_i v1]) (st := []) (hc := vw_7) (hci := by decide) (hcy := rfl) (ht := g1) (hC := (k7_there _ _ v0 v1 h)) (hM := lm_X7_47) (hfr := (Nat.le_trans (by decide) hFn)) (hstk := rfl) (hcat := Nat.le_of_ble_eq_true rfl) (hd := (m_dec e7_freeStrip 2 rfl)) (k1 := fun r3 h2 => ?_)
  refine ms_astore_n (pc := 5) S (L' := [(2, m_r r3)]) [0] rfl rfl (m_lt hN rfl) (m_dec e7_freeStrip 3 rfl) ?_
  refine ms_aload_n (pc := 6) S 0 rfl rfl (m_dec e7_freeStrip 4 rfl) ?_
  refine ms_ifnull (pc := 7) S (m_dec e7_freeStrip 5 rfl) rfl (fun q4 => ?_) (fun q4 => ?_)
  · refine ms_null (pc := 18) S (m_dec e7_freeStrip 10 rfl) ?_
    refine ms_goto (pc := 19) S (m_dec e7_freeStrip 11 rfl) rfl ?_
    exact ms_ret (pc := 23) E (m_dec e7_freeStrip 13 rfl) rfl
  · refine ms_aload_n (pc := 10) S 0 rfl rfl (m_dec e7_freeStrip 6 rfl) ?_
    refine ms_grd fun g5 => ?_
    refine ms_getf (pc := 11) S lf_X7_118 rfl (m_dec e7_freeStrip 7 rfl) g5 ?_
    refine ms_iconst (pc := 14) S (m_dec e7_freeStrip 8 rfl) ?_
    refine ms_icmp_ne (pc := 15) S (m_dec e7_freeStrip 9 rfl) rfl (fun q6 => ?_) (fun q6 => ?_)
    · refine ms_null (pc := 18) S (m_dec e7_freeStrip 10 rfl) ?_
      refine ms_goto (pc := 19) S (m_dec e7_freeStrip 11 rfl) rfl ?_
      exact ms_ret (pc := 23) E (m_dec e7_freeStrip 13 rfl) rfl
    · refine ms_aload_n (pc := 22) S 0 rfl rfl (m_dec e7_freeStrip 12 rfl) ?_
      exact ms_ret (pc := 23) E (m_dec e7_freeStrip 13 rfl) rfl
theorem k7_freeStrip (l : Launch) (d : m_D) (v0 v1 : Int) (h : m_H) : m_Con l d yX7_freeStrip cX7_freeStrip 3 (some (.object "TapeStudio$Strip")) 2 (fun r => [m_r r]) [m_r v0, m_i v1] h (t7_freeStrip v0 v1 h) :=
  m_con2 (by decide +kernel) (Nat.le_of_ble_eq_true rfl) (fun Y hN hRm hr hI S hfin => s7_freeStrip S (m_end_a S (by first | exact Or.inl ⟨_, rfl⟩ | exact Or.inr ⟨_, rfl⟩) hr hfin) hRm (Nat.le_refl _) hN v0 v1 h)
set_option maxRecDepth 100000 in
theorem e7_turnedOf : ∀ q ∈ ([(0, .aload_n 0, 1), (1, .iload_n 1, 1), (2, .invokevirtual 121, 3), (5, .astore_n 2, 1), (6, .aload_n 2, 1), (7, .ifnull 18, 3), (10, .aload_n 0, 1), (11, .iconst 1, 1), (12, .aload_n 2, 1), (13, .getfield 59, 3), (16, .invokevirtual 93, 3), (19, .invokevirtual 100, 3), (22, .ifCond .ne 5, 3), (25, .iconst (-1), 1), (26, .ireturn, 1), (27, .aload_n 0, 1), (28, .iconst 2, 1), (29, .aload_n 2, 1), (30, .getfield 59, 3), (33, .invokevirtual 93, 3), (36, .aload_n 2, 1), (37, .invokevirtual 112, 3), (40, .astore_n 3, 1), (41, .aload_n 3, 1), (42, .getfield 59, 3), (45, .aload_n 2, 1), (46, .getfield 59, 3), (49, .invokevirtual 124, 3), (52, .aload_n 0, 1), (53, .aload_n 2, 1), (54, .iconst 1, 1), (55, .invokevirtual 108, 3), (58, .aload_n 3, 1), (59, .getfield 76, 3), (62, .ireturn, 1)] : List (Nat × Instr × Nat)), decode cX7_turnedOf q.1 = .ok q.2 := by decide +kernel
set_option maxHeartbeats 4000000 in
set_option maxRecDepth 20000 in
theorem s7_turnedOf {Y : m_Y Int} (S : m_Std Y RX7 cX7_turnedOf) (E : m_End Y cX7_turnedOf .ireturn (fun r => [m_i r])) {F : Nat} (hF : m_Rm Y F) (hFn : 5 ≤ F) (hN : Y.2.2.2.1 = 4) (v0 v1 : Int) (h : m_H) : m_Sim Y 0 [(0, m_r v0), (1, m_i v1)] [] h (t7_turnedOf v0 v1 h) := by
  unfold t7_turnedOf
  refine ms_aload_n (pc := 0) S 0 rfl rfl (m_dec e7_turnedOf 0 rfl) ?_
  refine ms_iload_n (pc := 1) S 1 rfl rfl (m_dec e7_turnedOf 1 rfl) ?_
  refine ms_grd fun g1 => ?_
  refine ms_callVa (pc := 2) S hF (vals := [m_i v1]) (st := []) (hc := vw_7) (hci := by decide) (hcy := rfl) (ht := g1) (hC := (k7_freeStrip _ _ v0 v1 h)) (hM := lm_X7_121) (hfr := (Nat.le_trans (by decide) hFn)) (hstk := rfl) (hcat := Nat.le_of_ble_eq_true rfl) (hd := (m_dec e7_turnedOf 2 rfl)) (k1 := fun r3 h2 => ?_)
  refine ms_astore_n (pc := 5) S (L' := [(0, m_r v0), (2, m_r r3)]) [1, 0] rfl rfl (m_lt hN rfl) (m_dec e7_turnedOf 3 rfl) ?_
  refine ms_aload_n (pc := 6) S 1 rfl rfl (m_dec e7_turnedOf 4 rfl) ?_
  refine ms_ifnull (pc := 7) S (m_dec e7_turnedOf 5 rfl) rfl (fun q4 => ?_) (fun q4 => ?_)
  · refine ms_iconst (pc := 25) S (m_dec e7_turnedOf 13 rfl) ?_
    exact ms_ret (pc := 26) E (m_dec e7_turnedOf 14 rfl) rfl
  · refine ms_aload_n (pc := 10) S 0 rfl rfl (m_dec e7_turnedOf 6 rfl) ?_
    refine ms_iconst (pc := 11) S (m_dec e7_turnedOf 7 rfl) ?_
    refine ms_aload_n (pc := 12) S 1 rfl rfl (m_dec e7_turnedOf 8 rfl) ?_
    refine ms_grd fun g5 => ?_
    refine ms_getf (pc := 13) S lf_X7_59 rfl (m_dec e7_turnedOf 9 rfl) g5 ?_
    refine ms_grd fun g6 => ?_
    refine ms_callVi (pc := 16) S hF (vals := []) (st := [m_i 1, m_r v0]) (hc := vw_5) (hci := by decide) (hcy := rfl) (ht := g6) (hC := (k5_size _ _ (m_g h2 r3 3) h2)) (hM := lm_X7_93) (hfr := (Nat.le_trans (by decide) hFn)) (hstk := rfl) (hcat := Nat.le_of_ble_eq_true rfl) (hd := (m_dec e7_turnedOf 10 rfl)) (k1 := fun r8 h7 => ?_)
    refine ms_grd fun g9 => ?_
    refine ms_callVz (pc := 19) S hF (vals := [m_i 1, m_i r8]) (st := []) (hc := vw_7) (hci := by decide) (hcy := rfl) (ht := g9) (hC := (k7_hasRoom _ _ v0 1 r8 h7)) (hM := lm_X7_100) (hfr := (Nat.le_trans (by decide) hFn)) (hstk := rfl) (hcat := Nat.le_of_ble_eq_true rfl) (hd := (m_dec e7_turnedOf 11 rfl)) (k1 := fun r11 h10 => ?_)
    refine ms_ifb_ne (pc := 22) S (m_dec e7_turnedOf 12 rfl) rfl (fun q12 => ?_) (fun q12 => ?_)
    · refine ms_aload_n (pc := 27) S 0 rfl rfl (m_dec e7_turnedOf 15 rfl) ?_
      refine ms_iconst (pc := 28) S (m_dec e7_turnedOf 16 rfl) ?_
      refine ms_aload_n (pc := 29) S 1 rfl rfl (m_dec e7_turnedOf 17 rfl) ?_
      refine ms_grd fun g13 => ?_
      refine ms_getf (pc := 30) S lf_X7_59 rfl (m_dec e7_turnedOf 18 rfl) g13 ?_
      refine ms_grd fun g14 => ?_
      refine ms_callVi (pc := 33) S hF (vals := []) (st := [m_i 2, m_r v0]) (hc := vw_5) (hci := by decide) (hcy := rfl) (ht := g14) (hC := (k5_size _ _ (m_g h10 r3 3) h10)) (hM := lm_X7_93) (hfr := (Nat.le_trans (by decide) hFn)) (hstk := rfl) (hcat := Nat.le_of_ble_eq_true rfl) (hd := (m_dec e7_turnedOf 19 rfl)) (k1 := fun r16 h15 => ?_)
      refine ms_aload_n (pc := 36) S 1 rfl rfl (m_dec e7_turnedOf 20 rfl) ?_
      refine ms_grd fun g17 => ?_
      refine ms_callVa (pc := 37) S hF (vals := [m_i 2, m_i r16, m_r r3]) (st := []) (hc := vw_7) (hci := by decide) (hcy := rfl) (ht := g17) (hC := (k7_beginOf _ _ v0 2 r16 r3 h15)) (hM := lm_X7_112) (hfr := (Nat.le_trans (by decide) hFn)) (hstk := rfl) (hcat := Nat.le_of_ble_eq_true rfl) (hd := (m_dec e7_turnedOf 21 rfl)) (k1 := fun r19 h18 => ?_)
      refine ms_astore_n (pc := 40) S (L' := [(0, m_r v0), (2, m_r r3), (3, m_r r19)]) [1, 2, 0] rfl rfl (m_lt hN rfl) (m_dec e7_turnedOf 22 rfl) ?_
      refine ms_aload_n (pc := 41) S 2 rfl rfl (m_dec e7_turnedOf 23 rfl) ?_
      refine ms_grd fun g20 => ?_
      refine ms_getf (pc := 42) S lf_X7_59 rfl (m_dec e7_turnedOf 24 rfl) g20 ?_
      refine ms_aload_n (pc := 45) S 1 rfl rfl (m_dec e7_turnedOf 25 rfl) ?_
      refine ms_grd fun g21 => ?_
      refine ms_getf (pc := 46) S lf_X7_59 rfl (m_dec e7_turnedOf 26 rfl) g21 ?_
      refine ms_grd fun g22 => ?_
      refine ms_callVv (pc := 49) S hF (vals := [m_r (m_g h18 r3 3)]) (st := []) (hc := vw_5) (hci := by decide) (hcy := rfl) (ht := g22) (hC := (k5_fillTurned _ _ (m_g h18 r19 3) (m_g h18 r3 3) h18)) (hM := lm_X7_124) (hfr := (Nat.le_trans (by decide) hFn)) (hstk := rfl) (hcat := Nat.le_of_ble_eq_true rfl) (hd := (m_dec e7_turnedOf 27 rfl)) (k1 := fun h23 => ?_)
      refine ms_aload_n (pc := 52) S 0 rfl rfl (m_dec e7_turnedOf 28 rfl) ?_
      refine ms_aload_n (pc := 53) S 1 rfl rfl (m_dec e7_turnedOf 29 rfl) ?_
      refine ms_iconst (pc := 54) S (m_dec e7_turnedOf 30 rfl) ?_
      refine ms_grd fun g25 => ?_
      refine ms_callVv (pc := 55) S hF (vals := [m_r r3, m_i 1]) (st := []) (hc := vw_7) (hci := by decide) (hcy := rfl) (ht := g25) (hC := (k7_takeAway _ _ v0 r3 1 h23)) (hM := lm_X7_108) (hfr := (Nat.le_trans (by decide) hFn)) (hstk := rfl) (hcat := Nat.le_of_ble_eq_true rfl) (hd := (m_dec e7_turnedOf 31 rfl)) (k1 := fun h26 => ?_)
      refine ms_aload_n (pc := 58) S 2 rfl rfl (m_dec e7_turnedOf 32 rfl) ?_
      refine ms_grd fun g28 => ?_
      refine ms_getf (pc := 59) S lf_X7_76 rfl (m_dec e7_turnedOf 33 rfl) g28 ?_
      exact ms_ret (pc := 62) E (m_dec e7_turnedOf 34 rfl) rfl
    · refine ms_iconst (pc := 25) S (m_dec e7_turnedOf 13 rfl) ?_
      exact ms_ret (pc := 26) E (m_dec e7_turnedOf 14 rfl) rfl
theorem k7_turnedOf (l : Launch) (d : m_D) (v0 v1 : Int) (h : m_H) : m_Con l d yX7_turnedOf cX7_turnedOf 4 (some .int) 5 (fun r => [m_i r]) [m_r v0, m_i v1] h (t7_turnedOf v0 v1 h) :=
  m_con2 (by decide +kernel) (Nat.le_of_ble_eq_true rfl) (fun Y hN hRm hr hI S hfin => s7_turnedOf S (m_end_i S hr hfin) hRm (Nat.le_refl _) hN v0 v1 h)
set_option maxRecDepth 100000 in
theorem e7_loopOf : ∀ q ∈ ([(0, .aload_n 0, 1), (1, .iload_n 1, 1), (2, .invokevirtual 121, 3), (5, .astore_n 2, 1), (6, .aload_n 2, 1), (7, .ifnull 18, 3), (10, .aload_n 0, 1), (11, .iconst 1, 1), (12, .aload_n 2, 1), (13, .getfield 59, 3), (16, .invokevirtual 93, 3), (19, .invokevirtual 100, 3), (22, .ifCond .ne 5, 3), (25, .iconst (-1), 1), (26, .ireturn, 1), (27, .aload_n 0, 1), (28, .iconst 3, 1), (29, .aload_n 2, 1), (30, .getfield 59, 3), (33, .invokevirtual 93, 3), (36, .aload_n 2, 1), (37, .invokevirtual 112, 3), (40, .astore_n 3, 1), (41, .aload_n 3, 1), (42, .getfield 59, 3), (45, .aload_n 2, 1), (46, .getfield 59, 3), (49, .iconst 0, 1), (50, .aload_n 2, 1), (51, .getfield 59, 3), (54, .invokevirtual 93, 3), (57, .invokevirtual 89, 3), (60, .aload_n 0, 1), (61, .aload_n 2, 1), (62, .iconst 1, 1), (63, .invokevirtual 108, 3), (66, .aload_n 3, 1), (67, .getfield 76, 3), (70, .ireturn, 1)] : List (Nat × Instr × Nat)), decode cX7_loopOf q.1 = .ok q.2 := by decide +kernel
set_option maxHeartbeats 4000000 in
set_option maxRecDepth 20000 in
theorem s7_loopOf {Y : m_Y Int} (S : m_Std Y RX7 cX7_loopOf) (E : m_End Y cX7_loopOf .ireturn (fun r => [m_i r])) {F : Nat} (hF : m_Rm Y F) (hFn : 5 ≤ F) (hN : Y.2.2.2.1 = 4) (v0 v1 : Int) (h : m_H) : m_Sim Y 0 [(0, m_r v0), (1, m_i v1)] [] h (t7_loopOf v0 v1 h) := by
  unfold t7_loopOf
  refine ms_aload_n (pc := 0) S 0 rfl rfl (m_dec e7_loopOf 0 rfl) ?_
  refine ms_iload_n (pc := 1) S 1 rfl rfl (m_dec e7_loopOf 1 rfl) ?_
  refine ms_grd fun g1 => ?_
  refine ms_callVa (pc := 2) S hF (vals := [m_i v1]) (st := []) (hc := vw_7) (hci := by decide) (hcy := rfl) (ht := g1) (hC := (k7_freeStrip _ _ v0 v1 h)) (hM := lm_X7_121) (hfr := (Nat.le_trans (by decide) hFn)) (hstk := rfl) (hcat := Nat.le_of_ble_eq_true rfl) (hd := (m_dec e7_loopOf 2 rfl)) (k1 := fun r3 h2 => ?_)
  refine ms_astore_n (pc := 5) S (L' := [(0, m_r v0), (2, m_r r3)]) [1, 0] rfl rfl (m_lt hN rfl) (m_dec e7_loopOf 3 rfl) ?_
  refine ms_aload_n (pc := 6) S 1 rfl rfl (m_dec e7_loopOf 4 rfl) ?_
  refine ms_ifnull (pc := 7) S (m_dec e7_loopOf 5 rfl) rfl (fun q4 => ?_) (fun q4 => ?_)
  · refine ms_iconst (pc := 25) S (m_dec e7_loopOf 13 rfl) ?_
    exact ms_ret (pc := 26) E (m_dec e7_loopOf 14 rfl) rfl
  · refine ms_aload_n (pc := 10) S 0 rfl rfl (m_dec e7_loopOf 6 rfl) ?_
    refine ms_iconst (pc := 11) S (m_dec e7_loopOf 7 rfl) ?_
    refine ms_aload_n (pc := 12) S 1 rfl rfl (m_dec e7_loopOf 8 rfl) ?_
    refine ms_grd fun g5 => ?_
    refine ms_getf (pc := 13) S lf_X7_59 rfl (m_dec e7_loopOf 9 rfl) g5 ?_
    refine ms_grd fun g6 => ?_
    refine ms_callVi (pc := 16) S hF (vals := []) (st := [m_i 1, m_r v0]) (hc := vw_5) (hci := by decide) (hcy := rfl) (ht := g6) (hC := (k5_size _ _ (m_g h2 r3 3) h2)) (hM := lm_X7_93) (hfr := (Nat.le_trans (by decide) hFn)) (hstk := rfl) (hcat := Nat.le_of_ble_eq_true rfl) (hd := (m_dec e7_loopOf 10 rfl)) (k1 := fun r8 h7 => ?_)
    refine ms_grd fun g9 => ?_
    refine ms_callVz (pc := 19) S hF (vals := [m_i 1, m_i r8]) (st := []) (hc := vw_7) (hci := by decide) (hcy := rfl) (ht := g9) (hC := (k7_hasRoom _ _ v0 1 r8 h7)) (hM := lm_X7_100) (hfr := (Nat.le_trans (by decide) hFn)) (hstk := rfl) (hcat := Nat.le_of_ble_eq_true rfl) (hd := (m_dec e7_loopOf 11 rfl)) (k1 := fun r11 h10 => ?_)
    refine ms_ifb_ne (pc := 22) S (m_dec e7_loopOf 12 rfl) rfl (fun q12 => ?_) (fun q12 => ?_)
    · refine ms_aload_n (pc := 27) S 0 rfl rfl (m_dec e7_loopOf 15 rfl) ?_
      refine ms_iconst (pc := 28) S (m_dec e7_loopOf 16 rfl) ?_
      refine ms_aload_n (pc := 29) S 1 rfl rfl (m_dec e7_loopOf 17 rfl) ?_
      refine ms_grd fun g13 => ?_
      refine ms_getf (pc := 30) S lf_X7_59 rfl (m_dec e7_loopOf 18 rfl) g13 ?_
      refine ms_grd fun g14 => ?_
      refine ms_callVi (pc := 33) S hF (vals := []) (st := [m_i 3, m_r v0]) (hc := vw_5) (hci := by decide) (hcy := rfl) (ht := g14) (hC := (k5_size _ _ (m_g h10 r3 3) h10)) (hM := lm_X7_93) (hfr := (Nat.le_trans (by decide) hFn)) (hstk := rfl) (hcat := Nat.le_of_ble_eq_true rfl) (hd := (m_dec e7_loopOf 19 rfl)) (k1 := fun r16 h15 => ?_)
      refine ms_aload_n (pc := 36) S 1 rfl rfl (m_dec e7_loopOf 20 rfl) ?_
      refine ms_grd fun g17 => ?_
      refine ms_callVa (pc := 37) S hF (vals := [m_i 3, m_i r16, m_r r3]) (st := []) (hc := vw_7) (hci := by decide) (hcy := rfl) (ht := g17) (hC := (k7_beginOf _ _ v0 3 r16 r3 h15)) (hM := lm_X7_112) (hfr := (Nat.le_trans (by decide) hFn)) (hstk := rfl) (hcat := Nat.le_of_ble_eq_true rfl) (hd := (m_dec e7_loopOf 21 rfl)) (k1 := fun r19 h18 => ?_)
      refine ms_astore_n (pc := 40) S (L' := [(0, m_r v0), (2, m_r r3), (3, m_r r19)]) [1, 2, 0] rfl rfl (m_lt hN rfl) (m_dec e7_loopOf 22 rfl) ?_
      refine ms_aload_n (pc := 41) S 2 rfl rfl (m_dec e7_loopOf 23 rfl) ?_
      refine ms_grd fun g20 => ?_
      refine ms_getf (pc := 42) S lf_X7_59 rfl (m_dec e7_loopOf 24 rfl) g20 ?_
      refine ms_aload_n (pc := 45) S 1 rfl rfl (m_dec e7_loopOf 25 rfl) ?_
      refine ms_grd fun g21 => ?_
      refine ms_getf (pc := 46) S lf_X7_59 rfl (m_dec e7_loopOf 26 rfl) g21 ?_
      refine ms_iconst (pc := 49) S (m_dec e7_loopOf 27 rfl) ?_
      refine ms_aload_n (pc := 50) S 1 rfl rfl (m_dec e7_loopOf 28 rfl) ?_
      refine ms_getf (pc := 51) S lf_X7_59 rfl (m_dec e7_loopOf 29 rfl) g21 ?_
      refine ms_grd fun g22 => ?_
      refine ms_callVi (pc := 54) S hF (vals := []) (st := [m_i 0, m_r (m_g h18 r3 3), m_r (m_g h18 r19 3)]) (hc := vw_5) (hci := by decide) (hcy := rfl) (ht := g22) (hC := (k5_size _ _ (m_g h18 r3 3) h18)) (hM := lm_X7_93) (hfr := (Nat.le_trans (by decide) hFn)) (hstk := rfl) (hcat := Nat.le_of_ble_eq_true rfl) (hd := (m_dec e7_loopOf 30 rfl)) (k1 := fun r24 h23 => ?_)
      refine ms_grd fun g25 => ?_
      refine ms_callVv (pc := 57) S hF (vals := [m_r (m_g h18 r3 3), m_i 0, m_i r24]) (st := []) (hc := vw_5) (hci := by decide) (hcy := rfl) (ht := g25) (hC := (k5_fillPart _ _ (m_g h18 r19 3) (m_g h18 r3 3) 0 r24 h23)) (hM := lm_X7_89) (hfr := (Nat.le_trans (by decide) hFn)) (hstk := rfl) (hcat := Nat.le_of_ble_eq_true rfl) (hd := (m_dec e7_loopOf 31 rfl)) (k1 := fun h26 => ?_)
      refine ms_aload_n (pc := 60) S 0 rfl rfl (m_dec e7_loopOf 32 rfl) ?_
      refine ms_aload_n (pc := 61) S 1 rfl rfl (m_dec e7_loopOf 33 rfl) ?_
      refine ms_iconst (pc := 62) S (m_dec e7_loopOf 34 rfl) ?_
      refine ms_grd fun g28 => ?_
      refine ms_callVv (pc := 63) S hF (vals := [m_r r3, m_i 1]) (st := []) (hc := vw_7) (hci := by decide) (hcy := rfl) (ht := g28) (hC := (k7_takeAway _ _ v0 r3 1 h26)) (hM := lm_X7_108) (hfr := (Nat.le_trans (by decide) hFn)) (hstk := rfl) (hcat := Nat.le_of_ble_eq_true rfl) (hd := (m_dec e7_loopOf 35 rfl)) (k1 := fun h29 => ?_)
      refine ms_aload_n (pc := 66) S 2 rfl rfl (m_dec e7_loopOf 36 rfl) ?_
      refine ms_grd fun g31 => ?_
      refine ms_getf (pc := 67) S lf_X7_76 rfl (m_dec e7_loopOf 37 rfl) g31 ?_
      exact ms_ret (pc := 70) E (m_dec e7_loopOf 38 rfl) rfl
    · refine ms_iconst (pc := 25) S (m_dec e7_loopOf 13 rfl) ?_
      exact ms_ret (pc := 26) E (m_dec e7_loopOf 14 rfl) rfl
theorem k7_loopOf (l : Launch) (d : m_D) (v0 v1 : Int) (h : m_H) : m_Con l d yX7_loopOf cX7_loopOf 4 (some .int) 5 (fun r => [m_i r]) [m_r v0, m_i v1] h (t7_loopOf v0 v1 h) :=
  m_con2 (by decide +kernel) (Nat.le_of_ble_eq_true rfl) (fun Y hN hRm hr hI S hfin => s7_loopOf S (m_end_i S hr hfin) hRm (Nat.le_refl _) hN v0 v1 h)
set_option maxRecDepth 100000 in
theorem e7_joinedOf : ∀ q ∈ ([(0, .aload_n 0, 1), (1, .iload_n 1, 1), (2, .invokevirtual 121, 3), (5, .astore 4, 2), (7, .aload_n 0, 1), (8, .iload_n 2, 1), (9, .invokevirtual 121, 3), (12, .astore 5, 2), (14, .aload 4, 2), (16, .ifnull 48, 3), (19, .aload 5, 2), (21, .ifnull 43, 3), (24, .aload 4, 2), (26, .aload 5, 2), (28, .if_acmp .eq 36, 3), (31, .iload_n 3, 1), (32, .ifCond .lt 32, 3), (35, .iload_n 3, 1), (36, .bipush 20, 2), (38, .if_icmp .gt 26, 3), (41, .iload_n 3, 1), (42, .aload 4, 2), (44, .getfield 59, 3), (47, .invokevirtual 93, 3), (50, .aload 5, 2), (52, .getfield 59, 3), (55, .invokevirtual 93, 3), (58, .invokestatic 128, 3), (61, .if_icmp .le 5, 3), (64, .iconst (-1), 1), (65, .ireturn, 1), (66, .aload 4, 2), (68, .getfield 59, 3), (71, .aload 5, 2), (73, .getfield 59, 3), (76, .iload_n 3, 1), (77, .invokestatic 134, 3), (80, .istore 6, 2), (82, .iload 6, 2), (84, .sipush 300, 3), (87, .if_icmp .gt 13, 3), (90, .aload_n 0, 1), (91, .iconst 1, 1), (92, .iload 6, 2), (94, .invokevirtual 100, 3), (97, .ifCond .ne 5, 3), (100, .iconst (-1), 1), (101, .ireturn, 1), (102, .aload_n 0, 1), (103, .iconst 4, 1), (104, .iload 6, 2), (106, .aload 4, 2), (108, .invokevirtual 112, 3), (111, .astore 7, 2), (113, .aload 7, 2), (115, .aload 5, 2), (117, .getfield 76, 3), (120, .putfield 138, 3), (123, .aload 7, 2), (125, .aload 5, 2), (127, .invokevirtual 82, 3), (130, .aload 7, 2), (132, .getfield 59, 3), (135, .aload 4, 2), (137, .getfield 59, 3), (140, .aload 5, 2), (142, .getfield 59, 3), (145, .iload_n 3, 1), (146, .invokevirtual 141, 3), (149, .aload_n 0, 1), (150, .aload 4, 2), (152, .iconst 1, 1), (153, .invokevirtual 108, 3), (156, .aload_n 0, 1), (157, .aload 5, 2), (159, .iconst 1, 1), (160, .invokevirtual 108, 3), (163, .aload 7, 2), (165, .getfield 76, 3), (168, .ireturn, 1)] : List (Nat × Instr × Nat)), decode cX7_joinedOf q.1 = .ok q.2 := by decide +kernel
set_option maxHeartbeats 4000000 in
set_option maxRecDepth 20000 in
theorem s7_joinedOf {Y : m_Y Int} (S : m_Std Y RX7 cX7_joinedOf) (E : m_End Y cX7_joinedOf .ireturn (fun r => [m_i r])) {F : Nat} (hF : m_Rm Y F) (hFn : 5 ≤ F) (hN : Y.2.2.2.1 = 8) (v0 v1 v2 v3 : Int) (h : m_H) : m_Sim Y 0 [(0, m_r v0), (1, m_i v1), (2, m_i v2), (3, m_i v3)] [] h (t7_joinedOf v0 v1 v2 v3 h) := by
  unfold t7_joinedOf
  refine ms_aload_n (pc := 0) S 0 rfl rfl (m_dec e7_joinedOf 0 rfl) ?_
  refine ms_iload_n (pc := 1) S 1 rfl rfl (m_dec e7_joinedOf 1 rfl) ?_
  refine ms_grd fun g1 => ?_
  refine ms_callVa (pc := 2) S hF (vals := [m_i v1]) (st := []) (hc := vw_7) (hci := by decide) (hcy := rfl) (ht := g1) (hC := (k7_freeStrip _ _ v0 v1 h)) (hM := lm_X7_121) (hfr := (Nat.le_trans (by decide) hFn)) (hstk := rfl) (hcat := Nat.le_of_ble_eq_true rfl) (hd := (m_dec e7_joinedOf 2 rfl)) (k1 := fun r3 h2 => ?_)
  refine ms_astore (pc := 5) S (L' := [(0, m_r v0), (2, m_i v2), (3, m_i v3), (4, m_r r3)]) [1, 3, 4, 0] rfl (m_lt hN rfl) (m_dec e7_joinedOf 3 rfl) ?_
  refine ms_aload_n (pc := 7) S 0 rfl rfl (m_dec e7_joinedOf 4 rfl) ?_
  refine ms_iload_n (pc := 8) S 1 rfl rfl (m_dec e7_joinedOf 5 rfl) ?_
  refine ms_grd fun g4 => ?_
  refine ms_callVa (pc := 9) S hF (vals := [m_i v2]) (st := []) (hc := vw_7) (hci := by decide) (hcy := rfl) (ht := g4) (hC := (k7_freeStrip _ _ v0 v2 h2)) (hM := lm_X7_121) (hfr := (Nat.le_trans (by decide) hFn)) (hstk := rfl) (hcat := Nat.le_of_ble_eq_true rfl) (hd := (m_dec e7_joinedOf 6 rfl)) (k1 := fun r6 h5 => ?_)
  refine ms_astore (pc := 12) S (L' := [(0, m_r v0), (3, m_i v3), (4, m_r r3), (5, m_r r6)]) [1, 3, 4, 0] rfl (m_lt hN rfl) (m_dec e7_joinedOf 7 rfl) ?_
  refine ms_aload (pc := 14) S 2 rfl (m_dec e7_joinedOf 8 rfl) ?_
  refine ms_ifnull (pc := 16) S (m_dec e7_joinedOf 9 rfl) rfl (fun q7 => ?_) (fun q7 => ?_)
  · refine ms_iconst (pc := 64) S (m_dec e7_joinedOf 29 rfl) ?_
    exact ms_ret (pc := 65) E (m_dec e7_joinedOf 30 rfl) rfl
  · refine ms_aload (pc := 19) S 3 rfl (m_dec e7_joinedOf 10 rfl) ?_
    refine ms_ifnull (pc := 21) S (m_dec e7_joinedOf 11 rfl) rfl (fun q8 => ?_) (fun q8 => ?_)
    · refine ms_iconst (pc := 64) S (m_dec e7_joinedOf 29 rfl) ?_
      exact ms_ret (pc := 65) E (m_dec e7_joinedOf 30 rfl) rfl
    · refine ms_aload (pc := 24) S 2 rfl (m_dec e7_joinedOf 12 rfl) ?_
      refine ms_aload (pc := 26) S 3 rfl (m_dec e7_joinedOf 13 rfl) ?_
      refine ms_grd fun g9 => ?_
      refine ms_acmp_eq (pc := 28) S g9 (m_dec e7_joinedOf 14 rfl) rfl (fun q10 => ?_) (fun q10 => ?_)
      · refine ms_iconst (pc := 64) S (m_dec e7_joinedOf 29 rfl) ?_
        exact ms_ret (pc := 65) E (m_dec e7_joinedOf 30 rfl) rfl
      · refine ms_iload_n (pc := 31) S 1 rfl rfl (m_dec e7_joinedOf 15 rfl) ?_
        refine ms_if_lt (pc := 32) S (m_dec e7_joinedOf 16 rfl) rfl (fun q11 => ?_) (fun q11 => ?_)
        · refine ms_iconst (pc := 64) S (m_dec e7_joinedOf 29 rfl) ?_
          exact ms_ret (pc := 65) E (m_dec e7_joinedOf 30 rfl) rfl
        · refine ms_iload_n (pc := 35) S 1 rfl rfl (m_dec e7_joinedOf 17 rfl) ?_
          refine ms_bipush (pc := 36) S (m_dec e7_joinedOf 18 rfl) rfl ?_
          refine ms_icmp_gt (pc := 38) S (m_dec e7_joinedOf 19 rfl) rfl (fun q12 => ?_) (fun q12 => ?_)
          · refine ms_iconst (pc := 64) S (m_dec e7_joinedOf 29 rfl) ?_
            exact ms_ret (pc := 65) E (m_dec e7_joinedOf 30 rfl) rfl
          · refine ms_iload_n (pc := 41) S 1 rfl rfl (m_dec e7_joinedOf 20 rfl) ?_
            refine ms_aload (pc := 42) S 2 rfl (m_dec e7_joinedOf 21 rfl) ?_
            refine ms_grd fun g13 => ?_
            refine ms_getf (pc := 44) S lf_X7_59 rfl (m_dec e7_joinedOf 22 rfl) g13 ?_
            refine ms_grd fun g14 => ?_
            refine ms_callVi (pc := 47) S hF (vals := []) (st := [m_i v3]) (hc := vw_5) (hci := by decide) (hcy := rfl) (ht := g14) (hC := (k5_size _ _ (m_g h5 r3 3) h5)) (hM := lm_X7_93) (hfr := (Nat.le_trans (by decide) hFn)) (hstk := rfl) (hcat := Nat.le_of_ble_eq_true rfl) (hd := (m_dec e7_joinedOf 23 rfl)) (k1 := fun r16 h15 => ?_)
            refine ms_aload (pc := 50) S 3 rfl (m_dec e7_joinedOf 24 rfl) ?_
            refine ms_grd fun g17 => ?_
            refine ms_getf (pc := 52) S lf_X7_59 rfl (m_dec e7_joinedOf 25 rfl) g17 ?_
            refine ms_grd fun g18 => ?_
            refine ms_callVi (pc := 55) S hF (vals := []) (st := [m_i r16, m_i v3]) (hc := vw_5) (hci := by decide) (hcy := rfl) (ht := g18) (hC := (k5_size _ _ (m_g h15 r6 3) h15)) (hM := lm_X7_93) (hfr := (Nat.le_trans (by decide) hFn)) (hstk := rfl) (hcat := Nat.le_of_ble_eq_true rfl) (hd := (m_dec e7_joinedOf 26 rfl)) (k1 := fun r20 h19 => ?_)
            refine ms_mmin (pc := 58) S hF (Nat.le_trans (by decide) hFn) ⟨w_680, w_498, w_136, w_499⟩ (Nat.le_of_ble_eq_true rfl) (m_dec e7_joinedOf 27 rfl) ?_
            refine ms_icmp_le (pc := 61) S (m_dec e7_joinedOf 28 rfl) rfl (fun q21 => ?_) (fun q21 => ?_)
            · refine ms_iconst (pc := 64) S (m_dec e7_joinedOf 29 rfl) ?_
              exact ms_ret (pc := 65) E (m_dec e7_joinedOf 30 rfl) rfl
            · refine ms_aload (pc := 66) S 2 rfl (m_dec e7_joinedOf 31 rfl) ?_
              refine ms_grd fun g22 => ?_
              refine ms_getf (pc := 68) S lf_X7_59 rfl (m_dec e7_joinedOf 32 rfl) g22 ?_
              refine ms_aload (pc := 71) S 3 rfl (m_dec e7_joinedOf 33 rfl) ?_
              refine ms_grd fun g23 => ?_
              refine ms_getf (pc := 73) S lf_X7_59 rfl (m_dec e7_joinedOf 34 rfl) g23 ?_
              refine ms_iload_n (pc := 76) S 1 rfl rfl (m_dec e7_joinedOf 35 rfl) ?_
              refine ms_callSi (pc := 77) S hF (vals := [m_r (m_g h19 r3 3), m_r (m_g h19 r6 3), m_i v3]) (st := [])  (hC := (k5_joinedSize _ _ (m_g h19 r3 3) (m_g h19 r6 3) v3 h19)) (hM := lm_X7_134) (hfr := (Nat.le_trans (by decide) hFn)) (hstk := rfl) (hcat := Nat.le_of_ble_eq_true rfl) (hd := (m_dec e7_joinedOf 36 rfl)) (k1 := fun r25 h24 => ?_)
              refine ms_istore (pc := 80) S (L' := [(0, m_r v0), (3, m_i v3), (4, m_r r3), (5, m_r r6), (6, m_i r25)]) [1, 2, 3, 4, 0] rfl (m_lt hN rfl) (m_dec e7_joinedOf 37 rfl) ?_
              refine ms_iload (pc := 82) S 4 rfl (m_dec e7_joinedOf 38 rfl) ?_
              refine ms_sipush (pc := 84) S (m_dec e7_joinedOf 39 rfl) rfl ?_
              refine ms_icmp_gt (pc := 87) S (m_dec e7_joinedOf 40 rfl) rfl (fun q26 => ?_) (fun q26 => ?_)
              · refine ms_iconst (pc := 100) S (m_dec e7_joinedOf 46 rfl) ?_
                exact ms_ret (pc := 101) E (m_dec e7_joinedOf 47 rfl) rfl
              · refine ms_aload_n (pc := 90) S 0 rfl rfl (m_dec e7_joinedOf 41 rfl) ?_
                refine ms_iconst (pc := 91) S (m_dec e7_joinedOf 42 rfl) ?_
                refine ms_iload (pc := 92) S 4 rfl (m_dec e7_joinedOf 43 rfl) ?_
                refine ms_grd fun g27 => ?_
                refine ms_callVz (pc := 94) S hF (vals := [m_i 1, m_i r25]) (st := []) (hc := vw_7) (hci := by decide) (hcy := rfl) (ht := g27) (hC := (k7_hasRoom _ _ v0 1 r25 h24)) (hM := lm_X7_100) (hfr := (Nat.le_trans (by decide) hFn)) (hstk := rfl) (hcat := Nat.le_of_ble_eq_true rfl) (hd := (m_dec e7_joinedOf 44 rfl)) (k1 := fun r29 h28 => ?_)
                refine ms_ifb_ne (pc := 97) S (m_dec e7_joinedOf 45 rfl) rfl (fun q30 => ?_) (fun q30 => ?_)
                · refine ms_aload_n (pc := 102) S 0 rfl rfl (m_dec e7_joinedOf 48 rfl) ?_
                  refine ms_iconst (pc := 103) S (m_dec e7_joinedOf 49 rfl) ?_
                  refine ms_iload (pc := 104) S 4 rfl (m_dec e7_joinedOf 50 rfl) ?_
                  refine ms_aload (pc := 106) S 2 rfl (m_dec e7_joinedOf 51 rfl) ?_
                  refine ms_grd fun g31 => ?_
                  refine ms_callVa (pc := 108) S hF (vals := [m_i 4, m_i r25, m_r r3]) (st := []) (hc := vw_7) (hci := by decide) (hcy := rfl) (ht := g31) (hC := (k7_beginOf _ _ v0 4 r25 r3 h28)) (hM := lm_X7_112) (hfr := (Nat.le_trans (by decide) hFn)) (hstk := rfl) (hcat := Nat.le_of_ble_eq_true rfl) (hd := (m_dec e7_joinedOf 52 rfl)) (k1 := fun r33 h32 => ?_)
                  refine ms_astore (pc := 111) S (L' := [(0, m_r v0), (3, m_i v3), (4, m_r r3), (5, m_r r6), (7, m_r r33)]) [1, 2, 3, 4, 0] rfl (m_lt hN rfl) (m_dec e7_joinedOf 53 rfl) ?_
                  refine ms_aload (pc := 113) S 4 rfl (m_dec e7_joinedOf 54 rfl) ?_
                  refine ms_aload (pc := 115) S 3 rfl (m_dec e7_joinedOf 55 rfl) ?_
                  refine ms_grd fun g34 => ?_
                  refine ms_getf (pc := 117) S lf_X7_76 rfl (m_dec e7_joinedOf 56 rfl) g34 ?_
                  refine ms_grd fun g35 => ?_
                  refine ms_putf (pc := 120) S lp_X7_138 (fun z => by cases z) rfl (fun d => m_fitI d _) (m_dec e7_joinedOf 57 rfl) g35 (fun h36 => ?_)
                  refine ms_aload (pc := 123) S 4 rfl (m_dec e7_joinedOf 58 rfl) ?_
                  refine ms_aload (pc := 125) S 3 rfl (m_dec e7_joinedOf 59 rfl) ?_
                  refine ms_grd fun g37 => ?_
                  refine ms_callVv (pc := 127) S hF (vals := [m_r r6]) (st := []) (hc := vw_8) (hci := by decide) (hcy := rfl) (ht := g37) (hC := (k8_ageAs _ _ r33 r6 h36)) (hM := lm_X7_82) (hfr := (Nat.le_trans (by decide) hFn)) (hstk := rfl) (hcat := Nat.le_of_ble_eq_true rfl) (hd := (m_dec e7_joinedOf 60 rfl)) (k1 := fun h38 => ?_)
                  refine ms_aload (pc := 130) S 4 rfl (m_dec e7_joinedOf 61 rfl) ?_
                  refine ms_grd fun g40 => ?_
                  refine ms_getf (pc := 132) S lf_X7_59 rfl (m_dec e7_joinedOf 62 rfl) g40 ?_
                  refine ms_aload (pc := 135) S 2 rfl (m_dec e7_joinedOf 63 rfl) ?_
                  refine ms_grd fun g41 => ?_
                  refine ms_getf (pc := 137) S lf_X7_59 rfl (m_dec e7_joinedOf 64 rfl) g41 ?_
                  refine ms_aload (pc := 140) S 3 rfl (m_dec e7_joinedOf 65 rfl) ?_
                  refine ms_grd fun g42 => ?_
                  refine ms_getf (pc := 142) S lf_X7_59 rfl (m_dec e7_joinedOf 66 rfl) g42 ?_
                  refine ms_iload_n (pc := 145) S 1 rfl rfl (m_dec e7_joinedOf 67 rfl) ?_
                  refine ms_grd fun g43 => ?_
                  refine ms_callVv (pc := 146) S hF (vals := [m_r (m_g h38 r3 3), m_r (m_g h38 r6 3), m_i v3]) (st := []) (hc := vw_5) (hci := by decide) (hcy := rfl) (ht := g43) (hC := (k5_fillJoined _ _ (m_g h38 r33 3) (m_g h38 r3 3) (m_g h38 r6 3) v3 h38)) (hM := lm_X7_141) (hfr := (Nat.le_trans (by decide) hFn)) (hstk := rfl) (hcat := Nat.le_of_ble_eq_true rfl) (hd := (m_dec e7_joinedOf 68 rfl)) (k1 := fun h44 => ?_)
                  refine ms_aload_n (pc := 149) S 0 rfl rfl (m_dec e7_joinedOf 69 rfl) ?_
                  refine ms_aload (pc := 150) S 2 rfl (m_dec e7_joinedOf 70 rfl) ?_
                  refine ms_iconst (pc := 152) S (m_dec e7_joinedOf 71 rfl) ?_
                  refine ms_grd fun g46 => ?_
                  refine ms_callVv (pc := 153) S hF (vals := [m_r r3, m_i 1]) (st := []) (hc := vw_7) (hci := by decide) (hcy := rfl) (ht := g46) (hC := (k7_takeAway _ _ v0 r3 1 h44)) (hM := lm_X7_108) (hfr := (Nat.le_trans (by decide) hFn)) (hstk := rfl) (hcat := Nat.le_of_ble_eq_true rfl) (hd := (m_dec e7_joinedOf 72 rfl)) (k1 := fun h47 => ?_)
                  refine ms_aload_n (pc := 156) S 0 rfl rfl (m_dec e7_joinedOf 73 rfl) ?_
                  refine ms_aload (pc := 157) S 3 rfl (m_dec e7_joinedOf 74 rfl) ?_
                  refine ms_iconst (pc := 159) S (m_dec e7_joinedOf 75 rfl) ?_
                  refine ms_grd fun g49 => ?_
                  refine ms_callVv (pc := 160) S hF (vals := [m_r r6, m_i 1]) (st := []) (hc := vw_7) (hci := by decide) (hcy := rfl) (ht := g49) (hC := (k7_takeAway _ _ v0 r6 1 h47)) (hM := lm_X7_108) (hfr := (Nat.le_trans (by decide) hFn)) (hstk := rfl) (hcat := Nat.le_of_ble_eq_true rfl) (hd := (m_dec e7_joinedOf 76 rfl)) (k1 := fun h50 => ?_)
                  refine ms_aload (pc := 163) S 4 rfl (m_dec e7_joinedOf 77 rfl) ?_
                  refine ms_grd fun g52 => ?_
                  refine ms_getf (pc := 165) S lf_X7_76 rfl (m_dec e7_joinedOf 78 rfl) g52 ?_
                  exact ms_ret (pc := 168) E (m_dec e7_joinedOf 79 rfl) rfl
                · refine ms_iconst (pc := 100) S (m_dec e7_joinedOf 46 rfl) ?_
                  exact ms_ret (pc := 101) E (m_dec e7_joinedOf 47 rfl) rfl
theorem k7_joinedOf (l : Launch) (d : m_D) (v0 v1 v2 v3 : Int) (h : m_H) : m_Con l d yX7_joinedOf cX7_joinedOf 8 (some .int) 5 (fun r => [m_i r]) [m_r v0, m_i v1, m_i v2, m_i v3] h (t7_joinedOf v0 v1 v2 v3 h) :=
  m_con2 (by decide +kernel) (Nat.le_of_ble_eq_true rfl) (fun Y hN hRm hr hI S hfin => s7_joinedOf S (m_end_i S hr hfin) hRm (Nat.le_refl _) hN v0 v1 v2 v3 h)
set_option maxRecDepth 100000 in
theorem e7_addMachine : ∀ q ∈ ([(0, .iload_n 1, 1), (1, .sipush 1000, 3), (4, .idiv, 1), (5, .bipush 50, 2), (7, .isub, 1), (8, .istore 4, 2), (10, .iload_n 1, 1), (11, .sipush 1000, 3), (14, .irem, 1), (15, .istore 5, 2), (17, .iload_n 1, 1), (18, .ifCond .lt 51, 3), (21, .iload 4, 2), (23, .bipush 50, 2), (25, .if_icmp .gt 44, 3), (28, .iload 5, 2), (30, .sipush 128, 3), (33, .if_icmp .gt 36, 3), (36, .iload_n 2, 1), (37, .ifCond .lt 32, 3), (40, .iload_n 2, 1), (41, .bipush 100, 2), (43, .if_icmp .gt 26, 3), (46, .iload_n 3, 1), (47, .ifCond .lt 22, 3), (50, .iload_n 3, 1), (51, .sipush 200, 3), (54, .if_icmp .gt 15, 3), (57, .aload_n 0, 1), (58, .getfield 44, 3), (61, .aload_n 0, 1), (62, .getfield 19, 3), (65, .arraylength, 1), (66, .if_icmp .lt 5, 3), (69, .iconst (-1), 1), (70, .ireturn, 1), (71, .aload_n 0, 1), (72, .getfield 19, 3), (75, .aload_n 0, 1), (76, .getfield 44, 3), (79, .new 17, 3), (82, .dup, 1), (83, .iload 4, 2), (85, .iload 5, 2), (87, .iload_n 2, 1), (88, .iload_n 3, 1), (89, .invokespecial 145, 3), (92, .aastore, 1), (93, .aload_n 0, 1), (94, .dup, 1), (95, .getfield 44, 3), (98, .iconst 1, 1), (99, .iadd, 1), (100, .putfield 44, 3), (103, .aload_n 0, 1), (104, .getfield 44, 3), (107, .iconst 1, 1), (108, .isub, 1), (109, .ireturn, 1)] : List (Nat × Instr × Nat)), decode cX7_addMachine q.1 = .ok q.2 := by decide +kernel
set_option maxHeartbeats 4000000 in
set_option maxRecDepth 20000 in
theorem s7_addMachine {Y : m_Y Int} (S : m_Std Y RX7 cX7_addMachine) (E : m_End Y cX7_addMachine .ireturn (fun r => [m_i r])) {F : Nat} (hF : m_Rm Y F) (hFn : 2 ≤ F) (hN : Y.2.2.2.1 = 6) (v0 v1 v2 v3 : Int) (h : m_H) : m_Sim Y 0 [(0, m_r v0), (1, m_i v1), (2, m_i v2), (3, m_i v3)] [] h (t7_addMachine v0 v1 v2 v3 h) := by
  unfold t7_addMachine
  refine ms_iload_n (pc := 0) S 1 rfl rfl (m_dec e7_addMachine 0 rfl) ?_
  refine ms_sipush (pc := 1) S (m_dec e7_addMachine 1 rfl) rfl ?_
  refine ms_idivN (pc := 4) S (by decide) (m_dec e7_addMachine 2 rfl) ?_
  refine ms_bipush (pc := 5) S (m_dec e7_addMachine 3 rfl) rfl ?_
  refine ms_isub (pc := 7) S (m_dec e7_addMachine 4 rfl) ?_
  refine ms_nm (st := fun x1 => [m_i x1]) fun x1 => ?_
  refine ms_istore (pc := 8) S (L' := [(0, m_r v0), (1, m_i v1), (2, m_i v2), (3, m_i v3), (4, m_i x1)]) [1, 2, 3, 4, 0] rfl (m_lt hN rfl) (m_dec e7_addMachine 5 rfl) ?_
  refine ms_iload_n (pc := 10) S 1 rfl rfl (m_dec e7_addMachine 6 rfl) ?_
  refine ms_sipush (pc := 11) S (m_dec e7_addMachine 7 rfl) rfl ?_
  refine ms_iremN (pc := 14) S (by decide) (m_dec e7_addMachine 8 rfl) ?_
  refine ms_nm (st := fun x2 => [m_i x2]) fun x2 => ?_
  refine ms_istore (pc := 15) S (L' := [(0, m_r v0), (1, m_i v1), (2, m_i v2), (3, m_i v3), (4, m_i x1), (5, m_i x2)]) [1, 2, 3, 4, 5, 0] rfl (m_lt hN rfl) (m_dec e7_addMachine 9 rfl) ?_
  refine ms_iload_n (pc := 17) S 1 rfl rfl (m_dec e7_addMachine 10 rfl) ?_
  refine ms_if_lt (pc := 18) S (m_dec e7_addMachine 11 rfl) rfl (fun q3 => ?_) (fun q3 => ?_)
  · refine ms_iconst (pc := 69) S (m_dec e7_addMachine 34 rfl) ?_
    exact ms_ret (pc := 70) E (m_dec e7_addMachine 35 rfl) rfl
  · refine ms_iload (pc := 21) S 4 rfl (m_dec e7_addMachine 12 rfl) ?_
    refine ms_bipush (pc := 23) S (m_dec e7_addMachine 13 rfl) rfl ?_
    refine ms_icmp_gt (pc := 25) S (m_dec e7_addMachine 14 rfl) rfl (fun q4 => ?_) (fun q4 => ?_)
    · refine ms_iconst (pc := 69) S (m_dec e7_addMachine 34 rfl) ?_
      exact ms_ret (pc := 70) E (m_dec e7_addMachine 35 rfl) rfl
    · refine ms_iload (pc := 28) S 5 rfl (m_dec e7_addMachine 15 rfl) ?_
      refine ms_sipush (pc := 30) S (m_dec e7_addMachine 16 rfl) rfl ?_
      refine ms_icmp_gt (pc := 33) S (m_dec e7_addMachine 17 rfl) rfl (fun q5 => ?_) (fun q5 => ?_)
      · refine ms_iconst (pc := 69) S (m_dec e7_addMachine 34 rfl) ?_
        exact ms_ret (pc := 70) E (m_dec e7_addMachine 35 rfl) rfl
      · refine ms_iload_n (pc := 36) S 2 rfl rfl (m_dec e7_addMachine 18 rfl) ?_
        refine ms_if_lt (pc := 37) S (m_dec e7_addMachine 19 rfl) rfl (fun q6 => ?_) (fun q6 => ?_)
        · refine ms_iconst (pc := 69) S (m_dec e7_addMachine 34 rfl) ?_
          exact ms_ret (pc := 70) E (m_dec e7_addMachine 35 rfl) rfl
        · refine ms_iload_n (pc := 40) S 2 rfl rfl (m_dec e7_addMachine 20 rfl) ?_
          refine ms_bipush (pc := 41) S (m_dec e7_addMachine 21 rfl) rfl ?_
          refine ms_icmp_gt (pc := 43) S (m_dec e7_addMachine 22 rfl) rfl (fun q7 => ?_) (fun q7 => ?_)
          · refine ms_iconst (pc := 69) S (m_dec e7_addMachine 34 rfl) ?_
            exact ms_ret (pc := 70) E (m_dec e7_addMachine 35 rfl) rfl
          · refine ms_iload_n (pc := 46) S 3 rfl rfl (m_dec e7_addMachine 23 rfl) ?_
            refine ms_if_lt (pc := 47) S (m_dec e7_addMachine 24 rfl) rfl (fun q8 => ?_) (fun q8 => ?_)
            · refine ms_iconst (pc := 69) S (m_dec e7_addMachine 34 rfl) ?_
              exact ms_ret (pc := 70) E (m_dec e7_addMachine 35 rfl) rfl
            · refine ms_iload_n (pc := 50) S 3 rfl rfl (m_dec e7_addMachine 25 rfl) ?_
              refine ms_sipush (pc := 51) S (m_dec e7_addMachine 26 rfl) rfl ?_
              refine ms_icmp_gt (pc := 54) S (m_dec e7_addMachine 27 rfl) rfl (fun q9 => ?_) (fun q9 => ?_)
              · refine ms_iconst (pc := 69) S (m_dec e7_addMachine 34 rfl) ?_
                exact ms_ret (pc := 70) E (m_dec e7_addMachine 35 rfl) rfl
              · refine ms_aload_n (pc := 57) S 0 rfl rfl (m_dec e7_addMachine 28 rfl) ?_
                refine ms_grd fun g10 => ?_
                refine ms_getf (pc := 58) S lf_X7_44 rfl (m_dec e7_addMachine 29 rfl) g10 ?_
                refine ms_aload_n (pc := 61) S 0 rfl rfl (m_dec e7_addMachine 30 rfl) ?_
                refine ms_getf (pc := 62) S lf_X7_19 rfl (m_dec e7_addMachine 31 rfl) g10 ?_
                refine ms_grd fun g11 => ?_
                refine ms_alen (pc := 65) S g11 (m_dec e7_addMachine 32 rfl) ?_
                refine ms_icmp_lt (pc := 66) S (m_dec e7_addMachine 33 rfl) rfl (fun q12 => ?_) (fun q12 => ?_)
                · refine ms_aload_n (pc := 71) S 0 rfl rfl (m_dec e7_addMachine 36 rfl) ?_
                  refine ms_getf (pc := 72) S lf_X7_19 rfl (m_dec e7_addMachine 37 rfl) g10 ?_
                  refine ms_aload_n (pc := 75) S 0 rfl rfl (m_dec e7_addMachine 38 rfl) ?_
                  refine ms_getf (pc := 76) S lf_X7_44 rfl (m_dec e7_addMachine 39 rfl) g10 ?_
                  refine ms_new (pc := 79) S ln_X7_17 rfl (m_dec e7_addMachine 40 rfl) (fun h13 => ?_)
                  refine ms_dup (pc := 82) S rfl (m_dec e7_addMachine 41 rfl) ?_
                  refine ms_iload (pc := 83) S 4 rfl (m_dec e7_addMachine 42 rfl) ?_
                  refine ms_iload (pc := 85) S 5 rfl (m_dec e7_addMachine 43 rfl) ?_
                  refine ms_iload_n (pc := 87) S 2 rfl rfl (m_dec e7_addMachine 44 rfl) ?_
                  refine ms_iload_n (pc := 88) S 3 rfl rfl (m_dec e7_addMachine 45 rfl) ?_
                  refine ms_grd fun g14 => ?_
                  refine ms_callIv (pc := 89) S hF (vals := [m_i x1, m_i x2, m_i v2, m_i v3]) (st := [m_r (m_n h), m_i (m_g h v0 6), m_r (m_g h v0 5)]) (ht := g14) (hC := (k0_init _ _ (m_n h) x1 x2 v2 v3 h13)) (hM := lm_X7_145) (hfr := (Nat.le_trans (by decide) hFn)) (hstk := rfl) (hcat := Nat.le_of_ble_eq_true rfl) (hd := (m_dec e7_addMachine 46 rfl)) (k1 := fun h15 => ?_)
                  refine ms_grd fun g17 => ?_
                  refine ms_aast (pc := 92) S 25 0 (by decide) vw_0 (by decide) (fun _ => rfl) g17 (m_dec e7_addMachine 47 rfl) (fun h18 => ?_)
                  refine ms_aload_n (pc := 93) S 0 rfl rfl (m_dec e7_addMachine 48 rfl) ?_
                  refine ms_dup (pc := 94) S rfl (m_dec e7_addMachine 49 rfl) ?_
                  refine ms_grd fun g19 => ?_
                  refine ms_getf (pc := 95) S lf_X7_44 rfl (m_dec e7_addMachine 50 rfl) g19 ?_
                  refine ms_iconst (pc := 98) S (m_dec e7_addMachine 51 rfl) ?_
                  refine ms_iadd (pc := 99) S (m_dec e7_addMachine 52 rfl) ?_
                  refine ms_putf (pc := 100) S lp_X7_44 (fun z => by cases z) rfl (fun d => m_fitI d _) (m_dec e7_addMachine 53 rfl) g19 (fun h20 => ?_)
                  refine ms_aload_n (pc := 103) S 0 rfl rfl (m_dec e7_addMachine 54 rfl) ?_
                  refine ms_grd fun g21 => ?_
                  refine ms_getf (pc := 104) S lf_X7_44 rfl (m_dec e7_addMachine 55 rfl) g21 ?_
                  refine ms_iconst (pc := 107) S (m_dec e7_addMachine 56 rfl) ?_
                  refine ms_isub (pc := 108) S (m_dec e7_addMachine 57 rfl) ?_
                  exact ms_ret (pc := 109) E (m_dec e7_addMachine 58 rfl) rfl
                · refine ms_iconst (pc := 69) S (m_dec e7_addMachine 34 rfl) ?_
                  exact ms_ret (pc := 70) E (m_dec e7_addMachine 35 rfl) rfl
theorem k7_addMachine (l : Launch) (d : m_D) (v0 v1 v2 v3 : Int) (h : m_H) : m_Con l d yX7_addMachine cX7_addMachine 6 (some .int) 2 (fun r => [m_i r]) [m_r v0, m_i v1, m_i v2, m_i v3] h (t7_addMachine v0 v1 v2 v3 h) :=
  m_con2 (by decide +kernel) (Nat.le_of_ble_eq_true rfl) (fun Y hN hRm hr hI S hfin => s7_addMachine S (m_end_i S hr hfin) hRm (Nat.le_refl _) hN v0 v1 v2 v3 h)
set_option maxRecDepth 100000 in
theorem e7_canPlay : ∀ q ∈ ([(0, .aload_n 1, 1), (1, .ifnull 17, 3), (4, .aload_n 2, 1), (5, .ifnull 13, 3), (8, .aload_n 1, 1), (9, .getfield 148, 3), (12, .sipush 1000, 3), (15, .if_icmp .lt 5, 3), (18, .iconst 0, 1), (19, .ireturn, 1), (20, .aload_n 1, 1), (21, .getfield 59, 3), (24, .iload_n 3, 1), (25, .iload 4, 2), (27, .invokevirtual 151, 3), (30, .istore 5, 2), (32, .iload 5, 2), (34, .iconst 1, 1), (35, .if_icmp .lt 25, 3), (38, .iload 5, 2), (40, .sipush 300, 3), (43, .if_icmp .gt 17, 3), (46, .aload_n 0, 1), (47, .iconst 1, 1), (48, .iload 5, 2), (50, .invokevirtual 100, 3), (53, .ifCond .eq 7, 3), (56, .iconst 1, 1), (57, .goto 4, 3), (60, .iconst 0, 1), (61, .ireturn, 1)] : List (Nat × Instr × Nat)), decode cX7_canPlay q.1 = .ok q.2 := by decide +kernel
set_option maxHeartbeats 4000000 in
set_option maxRecDepth 20000 in
theorem s7_canPlay {Y : m_Y Bool} (S : m_Std Y RX7 cX7_canPlay) (E : m_End Y cX7_canPlay .ireturn (fun r => [m_i (m_b2i r)])) {F : Nat} (hF : m_Rm Y F) (hFn : 1 ≤ F) (hN : Y.2.2.2.1 = 6) (v0 v1 v2 v3 v4 : Int) (h : m_H) : m_Sim Y 0 [(0, m_r v0), (1, m_r v1), (2, m_r v2), (3, m_i v3), (4, m_i v4)] [] h (t7_canPlay v0 v1 v2 v3 v4 h) := by
  unfold t7_canPlay
  refine ms_aload_n (pc := 0) S 1 rfl rfl (m_dec e7_canPlay 0 rfl) ?_
  refine ms_ifnull (pc := 1) S (m_dec e7_canPlay 1 rfl) rfl (fun q1 => ?_) (fun q1 => ?_)
  · refine ms_iconst (pc := 18) S (m_dec e7_canPlay 8 rfl) ?_
    exact ms_ret (pc := 19) E (m_dec e7_canPlay 9 rfl) rfl
  · refine ms_aload_n (pc := 4) S 2 rfl rfl (m_dec e7_canPlay 2 rfl) ?_
    refine ms_ifnull (pc := 5) S (m_dec e7_canPlay 3 rfl) rfl (fun q2 => ?_) (fun q2 => ?_)
    · refine ms_iconst (pc := 18) S (m_dec e7_canPlay 8 rfl) ?_
      exact ms_ret (pc := 19) E (m_dec e7_canPlay 9 rfl) rfl
    · refine ms_aload_n (pc := 8) S 1 rfl rfl (m_dec e7_canPlay 4 rfl) ?_
      refine ms_grd fun g3 => ?_
      refine ms_getf (pc := 9) S lf_X7_148 rfl (m_dec e7_canPlay 5 rfl) g3 ?_
      refine ms_sipush (pc := 12) S (m_dec e7_canPlay 6 rfl) rfl ?_
      refine ms_icmp_lt (pc := 15) S (m_dec e7_canPlay 7 rfl) rfl (fun q4 => ?_) (fun q4 => ?_)
      · refine ms_aload_n (pc := 20) S 1 rfl rfl (m_dec e7_canPlay 10 rfl) ?_
        refine ms_getf (pc := 21) S lf_X7_59 rfl (m_dec e7_canPlay 11 rfl) g3 ?_
        refine ms_iload_n (pc := 24) S 3 rfl rfl (m_dec e7_canPlay 12 rfl) ?_
        refine ms_iload (pc := 25) S 4 rfl (m_dec e7_canPlay 13 rfl) ?_
        refine ms_grd fun g5 => ?_
        refine ms_callVi (pc := 27) S hF (vals := [m_i v3, m_i v4]) (st := []) (hc := vw_5) (hci := by decide) (hcy := rfl) (ht := g5) (hC := (k5_playedSize _ _ (m_g h v1 3) v3 v4 h)) (hM := lm_X7_151) (hfr := (Nat.le_trans (by decide) hFn)) (hstk := rfl) (hcat := Nat.le_of_ble_eq_true rfl) (hd := (m_dec e7_canPlay 14 rfl)) (k1 := fun r7 h6 => ?_)
        refine ms_istore (pc := 30) S (L' := [(0, m_r v0), (5, m_i r7)]) [1, 0] rfl (m_lt hN rfl) (m_dec e7_canPlay 15 rfl) ?_
        refine ms_iload (pc := 32) S 1 rfl (m_dec e7_canPlay 16 rfl) ?_
        refine ms_iconst (pc := 34) S (m_dec e7_canPlay 17 rfl) ?_
        refine ms_icmp_lt (pc := 35) S (m_dec e7_canPlay 18 rfl) rfl (fun q8 => ?_) (fun q8 => ?_)
        · refine ms_iconst (pc := 60) S (m_dec e7_canPlay 29 rfl) ?_
          exact ms_ret (pc := 61) E (m_dec e7_canPlay 30 rfl) rfl
        · refine ms_iload (pc := 38) S 1 rfl (m_dec e7_canPlay 19 rfl) ?_
          refine ms_sipush (pc := 40) S (m_dec e7_canPlay 20 rfl) rfl ?_
          refine ms_icmp_gt (pc := 43) S (m_dec e7_canPlay 21 rfl) rfl (fun q9 => ?_) (fun q9 => ?_)
          · refine ms_iconst (pc := 60) S (m_dec e7_canPlay 29 rfl) ?_
            exact ms_ret (pc := 61) E (m_dec e7_canPlay 30 rfl) rfl
          · refine ms_aload_n (pc := 46) S 0 rfl rfl (m_dec e7_canPlay 22 rfl) ?_
            refine ms_iconst (pc := 47) S (m_dec e7_canPlay 23 rfl) ?_
            refine ms_iload (pc := 48) S 1 rfl (m_dec e7_canPlay 24 rfl) ?_
            refine ms_grd fun g10 => ?_
            refine ms_callVz (pc := 50) S hF (vals := [m_i 1, m_i r7]) (st := []) (hc := vw_7) (hci := by decide) (hcy := rfl) (ht := g10) (hC := (k7_hasRoom _ _ v0 1 r7 h6)) (hM := lm_X7_100) (hfr := (Nat.le_trans (by decide) hFn)) (hstk := rfl) (hcat := Nat.le_of_ble_eq_true rfl) (hd := (m_dec e7_canPlay 25 rfl)) (k1 := fun r12 h11 => ?_)
            refine ms_ifb_eq (pc := 53) S (m_dec e7_canPlay 26 rfl) rfl (fun q13 => ?_) (fun q13 => ?_)
            · refine ms_iconst (pc := 56) S (m_dec e7_canPlay 27 rfl) ?_
              refine ms_goto (pc := 57) S (m_dec e7_canPlay 28 rfl) rfl ?_
              exact ms_ret (pc := 61) E (m_dec e7_canPlay 30 rfl) rfl
            · refine ms_iconst (pc := 60) S (m_dec e7_canPlay 29 rfl) ?_
              exact ms_ret (pc := 61) E (m_dec e7_canPlay 30 rfl) rfl
      · refine ms_iconst (pc := 18) S (m_dec e7_canPlay 8 rfl) ?_
        exact ms_ret (pc := 19) E (m_dec e7_canPlay 9 rfl) rfl
theorem k7_canPlay (l : Launch) (d : m_D) (v0 v1 v2 v3 v4 : Int) (h : m_H) : m_Con l d yX7_canPlay cX7_canPlay 6 (some .boolean) 1 (fun r => [m_i (m_b2i r)]) [m_r v0, m_r v1, m_r v2, m_i v3, m_i v4] h (t7_canPlay v0 v1 v2 v3 v4 h) :=
  m_con2 (by decide +kernel) (Nat.le_of_ble_eq_true rfl) (fun Y hN hRm hr hI S hfin => s7_canPlay S (m_end_z S hr hfin) hRm (Nat.le_refl _) hN v0 v1 v2 v3 v4 h)
set_option maxRecDepth 100000 in
theorem e7_played : ∀ q ∈ ([(0, .aload_n 0, 1), (1, .iload_n 1, 1), (2, .aload_n 2, 1), (3, .getfield 59, 3), (6, .iload 4, 2), (8, .iload 5, 2), (10, .invokevirtual 151, 3), (13, .invokevirtual 72, 3), (16, .astore 6, 2), (18, .aload 6, 2), (20, .aload_n 2, 1), (21, .getfield 76, 3), (24, .putfield 79, 3), (27, .aload 6, 2), (29, .aload_n 2, 1), (30, .getfield 154, 3), (33, .iconst 1, 1), (34, .iadd, 1), (35, .putfield 154, 3), (38, .aload 6, 2), (40, .sipush 1000, 3), (43, .aload_n 2, 1), (44, .getfield 157, 3), (47, .aload_n 3, 1), (48, .getfield 160, 3), (51, .iadd, 1), (52, .invokestatic 128, 3), (55, .putfield 157, 3), (58, .aload 6, 2), (60, .getfield 59, 3), (63, .aload_n 2, 1), (64, .getfield 59, 3), (67, .iload 4, 2), (69, .iload 5, 2), (71, .invokevirtual 161, 3), (74, .aload_n 2, 1), (75, .sipush 1000, 3), (78, .aload_n 2, 1), (79, .getfield 148, 3), (82, .aload_n 3, 1), (83, .getfield 164, 3), (86, .iadd, 1), (87, .invokestatic 128, 3), (90, .putfield 148, 3), (93, .aload 6, 2), (95, .areturn, 1)] : List (Nat × Instr × Nat)), decode cX7_played q.1 = .ok q.2 := by decide +kernel
set_option maxHeartbeats 4000000 in
set_option maxRecDepth 20000 in
theorem s7_played {Y : m_Y Int} (S : m_Std Y RX7 cX7_played) (E : m_End Y cX7_played .areturn (fun r => [m_r r])) {F : Nat} (hF : m_Rm Y F) (hFn : 4 ≤ F) (hN : Y.2.2.2.1 = 7) (v0 v1 v2 v3 v4 v5 : Int) (h : m_H) : m_Sim Y 0 [(0, m_r v0), (1, m_i v1), (2, m_r v2), (3, m_r v3), (4, m_i v4), (5, m_i v5)] [] h (t7_played v0 v1 v2 v3 v4 v5 h) := by
  unfold t7_played
  refine ms_aload_n (pc := 0) S 0 rfl rfl (m_dec e7_played 0 rfl) ?_
  refine ms_iload_n (pc := 1) S 1 rfl rfl (m_dec e7_played 1 rfl) ?_
  refine ms_aload_n (pc := 2) S 2 rfl rfl (m_dec e7_played 2 rfl) ?_
  refine ms_grd fun g1 => ?_
  refine ms_getf (pc := 3) S lf_X7_59 rfl (m_dec e7_played 3 rfl) g1 ?_
  refine ms_iload (pc := 6) S 4 rfl (m_dec e7_played 4 rfl) ?_
  refine ms_iload (pc := 8) S 5 rfl (m_dec e7_played 5 rfl) ?_
  refine ms_grd fun g2 => ?_
  refine ms_callVi (pc := 10) S hF (vals := [m_i v4, m_i v5]) (st := [m_i v1, m_r v0]) (hc := vw_5) (hci := by decide) (hcy := rfl) (ht := g2) (hC := (k5_playedSize _ _ (m_g h v2 3) v4 v5 h)) (hM := lm_X7_151) (hfr := (Nat.le_trans (by decide) hFn)) (hstk := rfl) (hcat := Nat.le_of_ble_eq_true rfl) (hd := (m_dec e7_played 6 rfl)) (k1 := fun r4 h3 => ?_)
  refine ms_grd fun g5 => ?_
  refine ms_callVa (pc := 13) S hF (vals := [m_i v1, m_i r4]) (st := []) (hc := vw_7) (hci := by decide) (hcy := rfl) (ht := g5) (hC := (k7_begin _ _ v0 v1 r4 h3)) (hM := lm_X7_72) (hfr := (Nat.le_trans (by decide) hFn)) (hstk := rfl) (hcat := Nat.le_of_ble_eq_true rfl) (hd := (m_dec e7_played 7 rfl)) (k1 := fun r7 h6 => ?_)
  refine ms_astore (pc := 16) S (L' := [(2, m_r v2), (3, m_r v3), (4, m_i v4), (5, m_i v5), (6, m_r r7)]) [3, 4, 5, 6, 0] rfl (m_lt hN rfl) (m_dec e7_played 8 rfl) ?_
  refine ms_aload (pc := 18) S 4 rfl (m_dec e7_played 9 rfl) ?_
  refine ms_aload_n (pc := 20) S 0 rfl rfl (m_dec e7_played 10 rfl) ?_
  refine ms_grd fun g8 => ?_
  refine ms_getf (pc := 21) S lf_X7_76 rfl (m_dec e7_played 11 rfl) g8 ?_
  refine ms_grd fun g9 => ?_
  refine ms_putf (pc := 24) S lp_X7_79 (fun z => by cases z) rfl (fun d => m_fitI d _) (m_dec e7_played 12 rfl) g9 (fun h10 => ?_)
  refine ms_aload (pc := 27) S 4 rfl (m_dec e7_played 13 rfl) ?_
  refine ms_aload_n (pc := 29) S 0 rfl rfl (m_dec e7_played 14 rfl) ?_
  refine ms_grd fun g11 => ?_
  refine ms_getf (pc := 30) S lf_X7_154 rfl (m_dec e7_played 15 rfl) g11 ?_
  refine ms_iconst (pc := 33) S (m_dec e7_played 16 rfl) ?_
  refine ms_iadd (pc := 34) S (m_dec e7_played 17 rfl) ?_
  refine ms_grd fun g12 => ?_
  refine ms_putf (pc := 35) S lp_X7_154 (fun z => by cases z) rfl (fun d => m_fitI d _) (m_dec e7_played 18 rfl) g12 (fun h13 => ?_)
  refine ms_aload (pc := 38) S 4 rfl (m_dec e7_played 19 rfl) ?_
  refine ms_sipush (pc := 40) S (m_dec e7_played 20 rfl) rfl ?_
  refine ms_aload_n (pc := 43) S 0 rfl rfl (m_dec e7_played 21 rfl) ?_
  refine ms_grd fun g14 => ?_
  refine ms_getf (pc := 44) S lf_X7_157 rfl (m_dec e7_played 22 rfl) g14 ?_
  refine ms_aload_n (pc := 47) S 1 rfl rfl (m_dec e7_played 23 rfl) ?_
  refine ms_grd fun g15 => ?_
  refine ms_getf (pc := 48) S lf_X7_160 rfl (m_dec e7_played 24 rfl) g15 ?_
  refine ms_iadd (pc := 51) S (m_dec e7_played 25 rfl) ?_
  refine ms_mmin (pc := 52) S hF (Nat.le_trans (by decide) hFn) ⟨w_680, w_498, w_136, w_499⟩ (Nat.le_of_ble_eq_true rfl) (m_dec e7_played 26 rfl) ?_
  refine ms_grd fun g16 => ?_
  refine ms_putf (pc := 55) S lp_X7_157 (fun z => by cases z) rfl (fun d => m_fitI d _) (m_dec e7_played 27 rfl) g16 (fun h17 => ?_)
  refine ms_aload (pc := 58) S 4 rfl (m_dec e7_played 28 rfl) ?_
  refine ms_grd fun g18 => ?_
  refine ms_getf (pc := 60) S lf_X7_59 rfl (m_dec e7_played 29 rfl) g18 ?_
  refine ms_aload_n (pc := 63) S 0 rfl rfl (m_dec e7_played 30 rfl) ?_
  refine ms_grd fun g19 => ?_
  refine ms_getf (pc := 64) S lf_X7_59 rfl (m_dec e7_played 31 rfl) g19 ?_
  refine ms_iload (pc := 67) S 2 rfl (m_dec e7_played 32 rfl) ?_
  refine ms_iload (pc := 69) S 3 rfl (m_dec e7_played 33 rfl) ?_
  refine ms_grd fun g20 => ?_
  refine ms_callVv (pc := 71) S hF (vals := [m_r (m_g h17 v2 3), m_i v4, m_i v5]) (st := []) (hc := vw_5) (hci := by decide) (hcy := rfl) (ht := g20) (hC := (k5_fillPlayed _ _ (m_g h17 r7 3) (m_g h17 v2 3) v4 v5 h17)) (hM := lm_X7_161) (hfr := (Nat.le_trans (by decide) hFn)) (hstk := rfl) (hcat := Nat.le_of_ble_eq_true rfl) (hd := (m_dec e7_played 34 rfl)) (k1 := fun h21 => ?_)
  refine ms_aload_n (pc := 74) S 0 rfl rfl (m_dec e7_played 35 rfl) ?_
  refine ms_sipush (pc := 75) S (m_dec e7_played 36 rfl) rfl ?_
  refine ms_aload_n (pc := 78) S 0 rfl rfl (m_dec e7_played 37 rfl) ?_
  refine ms_grd fun g23 => ?_
  refine ms_getf (pc := 79) S lf_X7_148 rfl (m_dec e7_played 38 rfl) g23 ?_
  refine ms_aload_n (pc := 82) S 1 rfl rfl (m_dec e7_played 39 rfl) ?_
  refine ms_grd fun g24 => ?_
  refine ms_getf (pc := 83) S lf_X7_164 rfl (m_dec e7_played 40 rfl) g24 ?_
  refine ms_iadd (pc := 86) S (m_dec e7_played 41 rfl) ?_
  refine ms_mmin (pc := 87) S hF (Nat.le_trans (by decide) hFn) ⟨w_680, w_498, w_136, w_499⟩ (Nat.le_of_ble_eq_true rfl) (m_dec e7_played 42 rfl) ?_
  refine ms_putf (pc := 90) S lp_X7_148 (fun z => by cases z) rfl (fun d => m_fitI d _) (m_dec e7_played 43 rfl) g23 (fun h25 => ?_)
  refine ms_aload (pc := 93) S 4 rfl (m_dec e7_played 44 rfl) ?_
  exact ms_ret (pc := 95) E (m_dec e7_played 45 rfl) rfl
theorem k7_played (l : Launch) (d : m_D) (v0 v1 v2 v3 v4 v5 : Int) (h : m_H) : m_Con l d yX7_played cX7_played 7 (some (.object "TapeStudio$Strip")) 4 (fun r => [m_r r]) [m_r v0, m_i v1, m_r v2, m_r v3, m_i v4, m_i v5] h (t7_played v0 v1 v2 v3 v4 v5 h) :=
  m_con2 (by decide +kernel) (Nat.le_of_ble_eq_true rfl) (fun Y hN hRm hr hI S hfin => s7_played S (m_end_a S (by first | exact Or.inl ⟨_, rfl⟩ | exact Or.inr ⟨_, rfl⟩) hr hfin) hRm (Nat.le_refl _) hN v0 v1 v2 v3 v4 v5 h)
set_option maxRecDepth 100000 in
theorem e7_copiedOf : ∀ q ∈ ([(0, .aload_n 0, 1), (1, .iload_n 1, 1), (2, .invokevirtual 121, 3), (5, .astore_n 3, 1), (6, .aload_n 0, 1), (7, .iload_n 2, 1), (8, .invokevirtual 167, 3), (11, .astore 4, 2), (13, .aload 4, 2), (15, .ifnull 21, 3), (18, .aload_n 0, 1), (19, .aload_n 3, 1), (20, .aload 4, 2), (22, .aload 4, 2), (24, .invokevirtual 171, 3), (27, .sipush 1000, 3), (30, .invokevirtual 174, 3), (33, .ifCond .ne 5, 3), (36, .iconst (-1), 1), (37, .ireturn, 1), (38, .aload_n 0, 1), (39, .iconst 5, 1), (40, .aload_n 3, 1), (41, .aload 4, 2), (43, .aload 4, 2), (45, .invokevirtual 171, 3), (48, .sipush 1000, 3), (51, .invokevirtual 178, 3), (54, .astore 5, 2), (56, .aload 5, 2), (58, .getfield 59, 3), (61, .aload 4, 2), (63, .getfield 182, 3), (66, .invokevirtual 185, 3), (69, .aload 5, 2), (71, .getfield 76, 3), (74, .ireturn, 1)] : List (Nat × Instr × Nat)), decode cX7_copiedOf q.1 = .ok q.2 := by decide +kernel
set_option maxHeartbeats 4000000 in
set_option maxRecDepth 20000 in
theorem s7_copiedOf {Y : m_Y Int} (S : m_Std Y RX7 cX7_copiedOf) (E : m_End Y cX7_copiedOf .ireturn (fun r => [m_i r])) {F : Nat} (hF : m_Rm Y F) (hFn : 5 ≤ F) (hN : Y.2.2.2.1 = 6) (v0 v1 v2 : Int) (h : m_H) : m_Sim Y 0 [(0, m_r v0), (1, m_i v1), (2, m_i v2)] [] h (t7_copiedOf v0 v1 v2 h) := by
  unfold t7_copiedOf
  refine ms_aload_n (pc := 0) S 0 rfl rfl (m_dec e7_copiedOf 0 rfl) ?_
  refine ms_iload_n (pc := 1) S 1 rfl rfl (m_dec e7_copiedOf 1 rfl) ?_
  refine ms_grd fun g1 => ?_
  refine ms_callVa (pc := 2) S hF (vals := [m_i v1]) (st := []) (hc := vw_7) (hci := by decide) (hcy := rfl) (ht := g1) (hC := (k7_freeStrip _ _ v0 v1 h)) (hM := lm_X7_121) (hfr := (Nat.le_trans (by decide) hFn)) (hstk := rfl) (hcat := Nat.le_of_ble_eq_true rfl) (hd := (m_dec e7_copiedOf 2 rfl)) (k1 := fun r3 h2 => ?_)
  refine ms_astore_n (pc := 5) S (L' := [(0, m_r v0), (2, m_i v2), (3, m_r r3)]) [1, 3, 0] rfl rfl (m_lt hN rfl) (m_dec e7_copiedOf 3 rfl) ?_
  refine ms_aload_n (pc := 6) S 0 rfl rfl (m_dec e7_copiedOf 4 rfl) ?_
  refine ms_iload_n (pc := 7) S 1 rfl rfl (m_dec e7_copiedOf 5 rfl) ?_
  refine ms_grd fun g4 => ?_
  refine ms_callVa (pc := 8) S hF (vals := [m_i v2]) (st := []) (hc := vw_7) (hci := by decide) (hcy := rfl) (ht := g4) (hC := (k7_machineOf _ _ v0 v2 h2)) (hM := lm_X7_167) (hfr := (Nat.le_trans (by decide) hFn)) (hstk := rfl) (hcat := Nat.le_of_ble_eq_true rfl) (hd := (m_dec e7_copiedOf 6 rfl)) (k1 := fun r6 h5 => ?_)
  refine ms_astore (pc := 11) S (L' := [(0, m_r v0), (3, m_r r3), (4, m_r r6)]) [1, 3, 0] rfl (m_lt hN rfl) (m_dec e7_copiedOf 7 rfl) ?_
  refine ms_aload (pc := 13) S 2 rfl (m_dec e7_copiedOf 8 rfl) ?_
  refine ms_ifnull (pc := 15) S (m_dec e7_copiedOf 9 rfl) rfl (fun q7 => ?_) (fun q7 => ?_)
  · refine ms_iconst (pc := 36) S (m_dec e7_copiedOf 18 rfl) ?_
    exact ms_ret (pc := 37) E (m_dec e7_copiedOf 19 rfl) rfl
  · refine ms_aload_n (pc := 18) S 0 rfl rfl (m_dec e7_copiedOf 10 rfl) ?_
    refine ms_aload_n (pc := 19) S 1 rfl rfl (m_dec e7_copiedOf 11 rfl) ?_
    refine ms_aload (pc := 20) S 2 rfl (m_dec e7_copiedOf 12 rfl) ?_
    refine ms_aload (pc := 22) S 2 rfl (m_dec e7_copiedOf 13 rfl) ?_
    refine ms_grd fun g8 => ?_
    refine ms_callVi (pc := 24) S hF (vals := []) (st := [m_r r6, m_r r3, m_r v0]) (hc := vw_0) (hci := by decide) (hcy := rfl) (ht := g8) (hC := (k0_copyPace _ _ r6 h5)) (hM := lm_X7_171) (hfr := (Nat.le_trans (by decide) hFn)) (hstk := rfl) (hcat := Nat.le_of_ble_eq_true rfl) (hd := (m_dec e7_copiedOf 14 rfl)) (k1 := fun r10 h9 => ?_)
    refine ms_sipush (pc := 27) S (m_dec e7_copiedOf 15 rfl) rfl ?_
    refine ms_grd fun g11 => ?_
    refine ms_callVz (pc := 30) S hF (vals := [m_r r3, m_r r6, m_i r10, m_i 1000]) (st := []) (hc := vw_7) (hci := by decide) (hcy := rfl) (ht := g11) (hC := (k7_canPlay _ _ v0 r3 r6 r10 1000 h9)) (hM := lm_X7_174) (hfr := (Nat.le_trans (by decide) hFn)) (hstk := rfl) (hcat := Nat.le_of_ble_eq_true rfl) (hd := (m_dec e7_copiedOf 16 rfl)) (k1 := fun r13 h12 => ?_)
    refine ms_ifb_ne (pc := 33) S (m_dec e7_copiedOf 17 rfl) rfl (fun q14 => ?_) (fun q14 => ?_)
    · refine ms_aload_n (pc := 38) S 0 rfl rfl (m_dec e7_copiedOf 20 rfl) ?_
      refine ms_iconst (pc := 39) S (m_dec e7_copiedOf 21 rfl) ?_
      refine ms_aload_n (pc := 40) S 1 rfl rfl (m_dec e7_copiedOf 22 rfl) ?_
      refine ms_aload (pc := 41) S 2 rfl (m_dec e7_copiedOf 23 rfl) ?_
      refine ms_aload (pc := 43) S 2 rfl (m_dec e7_copiedOf 24 rfl) ?_
      refine ms_grd fun g15 => ?_
      refine ms_callVi (pc := 45) S hF (vals := []) (st := [m_r r6, m_r r3, m_i 5, m_r v0]) (hc := vw_0) (hci := by decide) (hcy := rfl) (ht := g15) (hC := (k0_copyPace _ _ r6 h12)) (hM := lm_X7_171) (hfr := (Nat.le_trans (by decide) hFn)) (hstk := rfl) (hcat := Nat.le_of_ble_eq_true rfl) (hd := (m_dec e7_copiedOf 25 rfl)) (k1 := fun r17 h16 => ?_)
      refine ms_sipush (pc := 48) S (m_dec e7_copiedOf 26 rfl) rfl ?_
      refine ms_grd fun g18 => ?_
      refine ms_callVa (pc := 51) S hF (vals := [m_i 5, m_r r3, m_r r6, m_i r17, m_i 1000]) (st := []) (hc := vw_7) (hci := by decide) (hcy := rfl) (ht := g18) (hC := (k7_played _ _ v0 5 r3 r6 r17 1000 h16)) (hM := lm_X7_178) (hfr := (Nat.le_trans (by decide) hFn)) (hstk := rfl) (hcat := Nat.le_of_ble_eq_true rfl) (hd := (m_dec e7_copiedOf 27 rfl)) (k1 := fun r20 h19 => ?_)
      refine ms_astore (pc := 54) S (L' := [(4, m_r r6), (5, m_r r20)]) [3, 0] rfl (m_lt hN rfl) (m_dec e7_copiedOf 28 rfl) ?_
      refine ms_aload (pc := 56) S 1 rfl (m_dec e7_copiedOf 29 rfl) ?_
      refine ms_grd fun g21 => ?_
      refine ms_getf (pc := 58) S lf_X7_59 rfl (m_dec e7_copiedOf 30 rfl) g21 ?_
      refine ms_aload (pc := 61) S 0 rfl (m_dec e7_copiedOf 31 rfl) ?_
      refine ms_grd fun g22 => ?_
      refine ms_getf (pc := 63) S lf_X7_182 rfl (m_dec e7_copiedOf 32 rfl) g22 ?_
      refine ms_grd fun g23 => ?_
      refine ms_callVv (pc := 66) S hF (vals := [m_i (m_g h19 r6 1)]) (st := []) (hc := vw_5) (hci := by decide) (hcy := rfl) (ht := g23) (hC := (k5_level _ _ (m_g h19 r20 3) (m_g h19 r6 1) h19)) (hM := lm_X7_185) (hfr := (Nat.le_trans (by decide) hFn)) (hstk := rfl) (hcat := Nat.le_of_ble_eq_true rfl) (hd := (m_dec e7_copiedOf 33 rfl)) (k1 := fun h24 => ?_)
      refine ms_aload (pc := 69) S 1 rfl (m_dec e7_copiedOf 34 rfl) ?_
      refine ms_grd fun g26 => ?_
      refine ms_getf (pc := 71) S lf_X7_76 rfl (m_dec e7_copiedOf 35 rfl) g26 ?_
      exact ms_ret (pc := 74) E (m_dec e7_copiedOf 36 rfl) rfl
    · refine ms_iconst (pc := 36) S (m_dec e7_copiedOf 18 rfl) ?_
      exact ms_ret (pc := 37) E (m_dec e7_copiedOf 19 rfl) rfl
theorem k7_copiedOf (l : Launch) (d : m_D) (v0 v1 v2 : Int) (h : m_H) : m_Con l d yX7_copiedOf cX7_copiedOf 6 (some .int) 5 (fun r => [m_i r]) [m_r v0, m_i v1, m_i v2] h (t7_copiedOf v0 v1 v2 h) :=
  m_con2 (by decide +kernel) (Nat.le_of_ble_eq_true rfl) (fun Y hN hRm hr hI S hfin => s7_copiedOf S (m_end_i S hr hfin) hRm (Nat.le_refl _) hN v0 v1 v2 h)
set_option maxRecDepth 100000 in
theorem e7_speededOf : ∀ q ∈ ([(0, .aload_n 0, 1), (1, .iload_n 1, 1), (2, .invokevirtual 121, 3), (5, .astore 5, 2), (7, .aload_n 0, 1), (8, .iload_n 2, 1), (9, .invokevirtual 167, 3), (12, .astore 6, 2), (14, .iload_n 3, 1), (15, .iconst 1, 1), (16, .if_icmp .lt 36, 3), (19, .iload_n 3, 1), (20, .bipush 8, 2), (22, .if_icmp .gt 30, 3), (25, .iload 4, 2), (27, .iconst 1, 1), (28, .if_icmp .lt 24, 3), (31, .iload 4, 2), (33, .bipush 8, 2), (35, .if_icmp .gt 17, 3), (38, .aload_n 0, 1), (39, .aload 5, 2), (41, .aload 6, 2), (43, .iload_n 3, 1), (44, .iload 4, 2), (46, .invokevirtual 174, 3), (49, .ifCond .ne 5, 3), (52, .iconst (-1), 1), (53, .ireturn, 1), (54, .aload_n 0, 1), (55, .bipush 6, 2), (57, .aload 5, 2), (59, .aload 6, 2), (61, .iload_n 3, 1), (62, .iload 4, 2), (64, .invokevirtual 178, 3), (67, .getfield 76, 3), (70, .ireturn, 1)] : List (Nat × Instr × Nat)), decode cX7_speededOf q.1 = .ok q.2 := by decide +kernel
set_option maxHeartbeats 4000000 in
set_option maxRecDepth 20000 in
theorem s7_speededOf {Y : m_Y Int} (S : m_Std Y RX7 cX7_speededOf) (E : m_End Y cX7_speededOf .ireturn (fun r => [m_i r])) {F : Nat} (hF : m_Rm Y F) (hFn : 5 ≤ F) (hN : Y.2.2.2.1 = 7) (v0 v1 v2 v3 v4 : Int) (h : m_H) : m_Sim Y 0 [(0, m_r v0), (1, m_i v1), (2, m_i v2), (3, m_i v3), (4, m_i v4)] [] h (t7_speededOf v0 v1 v2 v3 v4 h) := by
  unfold t7_speededOf
  refine ms_aload_n (pc := 0) S 0 rfl rfl (m_dec e7_speededOf 0 rfl) ?_
  refine ms_iload_n (pc := 1) S 1 rfl rfl (m_dec e7_speededOf 1 rfl) ?_
  refine ms_grd fun g1 => ?_
  refine ms_callVa (pc := 2) S hF (vals := [m_i v1]) (st := []) (hc := vw_7) (hci := by decide) (hcy := rfl) (ht := g1) (hC := (k7_freeStrip _ _ v0 v1 h)) (hM := lm_X7_121) (hfr := (Nat.le_trans (by decide) hFn)) (hstk := rfl) (hcat := Nat.le_of_ble_eq_true rfl) (hd := (m_dec e7_speededOf 2 rfl)) (k1 := fun r3 h2 => ?_)
  refine ms_astore (pc := 5) S (L' := [(0, m_r v0), (2, m_i v2), (3, m_i v3), (4, m_i v4), (5, m_r r3)]) [1, 3, 4, 5, 0] rfl (m_lt hN rfl) (m_dec e7_speededOf 3 rfl) ?_
  refine ms_aload_n (pc := 7) S 0 rfl rfl (m_dec e7_speededOf 4 rfl) ?_
  refine ms_iload_n (pc := 8) S 1 rfl rfl (m_dec e7_speededOf 5 rfl) ?_
  refine ms_grd fun g4 => ?_
  refine ms_callVa (pc := 9) S hF (vals := [m_i v2]) (st := []) (hc := vw_7) (hci := by decide) (hcy := rfl) (ht := g4) (hC := (k7_machineOf _ _ v0 v2 h2)) (hM := lm_X7_167) (hfr := (Nat.le_trans (by decide) hFn)) (hstk := rfl) (hcat := Nat.le_of_ble_eq_true rfl) (hd := (m_dec e7_speededOf 6 rfl)) (k1 := fun r6 h5 => ?_)
  refine ms_astore (pc := 12) S (L' := [(0, m_r v0), (3, m_i v3), (4, m_i v4), (5, m_r r3), (6, m_r r6)]) [1, 3, 4, 5, 0] rfl (m_lt hN rfl) (m_dec e7_speededOf 7 rfl) ?_
  refine ms_iload_n (pc := 14) S 1 rfl rfl (m_dec e7_speededOf 8 rfl) ?_
  refine ms_iconst (pc := 15) S (m_dec e7_speededOf 9 rfl) ?_
  refine ms_icmp_lt (pc := 16) S (m_dec e7_speededOf 10 rfl) rfl (fun q7 => ?_) (fun q7 => ?_)
  · refine ms_iconst (pc := 52) S (m_dec e7_speededOf 27 rfl) ?_
    exact ms_ret (pc := 53) E (m_dec e7_speededOf 28 rfl) rfl
  · refine ms_iload_n (pc := 19) S 1 rfl rfl (m_dec e7_speededOf 11 rfl) ?_
    refine ms_bipush (pc := 20) S (m_dec e7_speededOf 12 rfl) rfl ?_
    refine ms_icmp_gt (pc := 22) S (m_dec e7_speededOf 13 rfl) rfl (fun q8 => ?_) (fun q8 => ?_)
    · refine ms_iconst (pc := 52) S (m_dec e7_speededOf 27 rfl) ?_
      exact ms_ret (pc := 53) E (m_dec e7_speededOf 28 rfl) rfl
    · refine ms_iload (pc := 25) S 2 rfl (m_dec e7_speededOf 14 rfl) ?_
      refine ms_iconst (pc := 27) S (m_dec e7_speededOf 15 rfl) ?_
      refine ms_icmp_lt (pc := 28) S (m_dec e7_speededOf 16 rfl) rfl (fun q9 => ?_) (fun q9 => ?_)
      · refine ms_iconst (pc := 52) S (m_dec e7_speededOf 27 rfl) ?_
        exact ms_ret (pc := 53) E (m_dec e7_speededOf 28 rfl) rfl
      · refine ms_iload (pc := 31) S 2 rfl (m_dec e7_speededOf 17 rfl) ?_
        refine ms_bipush (pc := 33) S (m_dec e7_speededOf 18 rfl) rfl ?_
        refine ms_icmp_gt (pc := 35) S (m_dec e7_speededOf 19 rfl) rfl (fun q10 => ?_) (fun q10 => ?_)
        · refine ms_iconst (pc := 52) S (m_dec e7_speededOf 27 rfl) ?_
          exact ms_ret (pc := 53) E (m_dec e7_speededOf 28 rfl) rfl
        · refine ms_aload_n (pc := 38) S 0 rfl rfl (m_dec e7_speededOf 20 rfl) ?_
          refine ms_aload (pc := 39) S 3 rfl (m_dec e7_speededOf 21 rfl) ?_
          refine ms_aload (pc := 41) S 4 rfl (m_dec e7_speededOf 22 rfl) ?_
          refine ms_iload_n (pc := 43) S 1 rfl rfl (m_dec e7_speededOf 23 rfl) ?_
          refine ms_iload (pc := 44) S 2 rfl (m_dec e7_speededOf 24 rfl) ?_
          refine ms_grd fun g11 => ?_
          refine ms_callVz (pc := 46) S hF (vals := [m_r r3, m_r r6, m_i v3, m_i v4]) (st := []) (hc := vw_7) (hci := by decide) (hcy := rfl) (ht := g11) (hC := (k7_canPlay _ _ v0 r3 r6 v3 v4 h5)) (hM := lm_X7_174) (hfr := (Nat.le_trans (by decide) hFn)) (hstk := rfl) (hcat := Nat.le_of_ble_eq_true rfl) (hd := (m_dec e7_speededOf 25 rfl)) (k1 := fun r13 h12 => ?_)
          refine ms_ifb_ne (pc := 49) S (m_dec e7_speededOf 26 rfl) rfl (fun q14 => ?_) (fun q14 => ?_)
          · refine ms_aload_n (pc := 54) S 0 rfl rfl (m_dec e7_speededOf 29 rfl) ?_
            refine ms_bipush (pc := 55) S (m_dec e7_speededOf 30 rfl) rfl ?_
            refine ms_aload (pc := 57) S 3 rfl (m_dec e7_speededOf 31 rfl) ?_
            refine ms_aload (pc := 59) S 4 rfl (m_dec e7_speededOf 32 rfl) ?_
            refine ms_iload_n (pc := 61) S 1 rfl rfl (m_dec e7_speededOf 33 rfl) ?_
            refine ms_iload (pc := 62) S 2 rfl (m_dec e7_speededOf 34 rfl) ?_
            refine ms_grd fun g15 => ?_
            refine ms_callVa (pc := 64) S hF (vals := [m_i 6, m_r r3, m_r r6, m_i v3, m_i v4]) (st := []) (hc := vw_7) (hci := by decide) (hcy := rfl) (ht := g15) (hC := (k7_played _ _ v0 6 r3 r6 v3 v4 h12)) (hM := lm_X7_178) (hfr := (Nat.le_trans (by decide) hFn)) (hstk := rfl) (hcat := Nat.le_of_ble_eq_true rfl) (hd := (m_dec e7_speededOf 35 rfl)) (k1 := fun r17 h16 => ?_)
            refine ms_grd fun g18 => ?_
            refine ms_getf (pc := 67) S lf_X7_76 rfl (m_dec e7_speededOf 36 rfl) g18 ?_
            exact ms_ret (pc := 70) E (m_dec e7_speededOf 37 rfl) rfl
          · refine ms_iconst (pc := 52) S (m_dec e7_speededOf 27 rfl) ?_
            exact ms_ret (pc := 53) E (m_dec e7_speededOf 28 rfl) rfl
theorem k7_speededOf (l : Launch) (d : m_D) (v0 v1 v2 v3 v4 : Int) (h : m_H) : m_Con l d yX7_speededOf cX7_speededOf 7 (some .int) 5 (fun r => [m_i r]) [m_r v0, m_i v1, m_i v2, m_i v3, m_i v4] h (t7_speededOf v0 v1 v2 v3 v4 h) :=
  m_con2 (by decide +kernel) (Nat.le_of_ble_eq_true rfl) (fun Y hN hRm hr hI S hfin => s7_speededOf S (m_end_i S hr hfin) hRm (Nat.le_refl _) hN v0 v1 v2 v3 v4 h)
set_option maxRecDepth 100000 in
theorem e7_hangingOn : ∀ q ∈ ([(0, .iconst 0, 1), (1, .istore_n 2, 1), (2, .iload_n 2, 1), (3, .aload_n 0, 1), (4, .getfield 33, 3), (7, .if_icmp .ge 34, 3), (10, .iload_n 1, 1), (11, .iconst (-1), 1), (12, .if_icmp .eq 29, 3), (15, .aload_n 0, 1), (16, .iload_n 2, 1), (17, .invokevirtual 47, 3), (20, .astore_n 3, 1), (21, .aload_n 3, 1), (22, .ifnull 13, 3), (25, .aload_n 3, 1), (26, .getfield 86, 3), (29, .iload_n 1, 1), (30, .if_icmp .ne 5, 3), (33, .iload_n 2, 1), (34, .ireturn, 1), (35, .iinc 2 1, 3), (38, .goto (-36), 3), (41, .iconst (-1), 1), (42, .ireturn, 1)] : List (Nat × Instr × Nat)), decode cX7_hangingOn q.1 = .ok q.2 := by decide +kernel
set_option maxHeartbeats 4000000 in
set_option maxRecDepth 20000 in
theorem s7_hangingOn_c2 {Y : m_Y Int} (S : m_Std Y RX7 cX7_hangingOn) (E : m_End Y cX7_hangingOn .ireturn (fun r => [m_i r])) {F : Nat} (hF : m_Rm Y F) (hFn : 2 ≤ F) (hN : Y.2.2.2.1 = 4) : ∀ (v0 v1 v2 : Int) (h : m_H), m_Sim Y 2 [(0, m_r v0), (1, m_i v1), (2, m_i v2)] [] h (t7_hangingOn_c2 v0 v1 v2 h) := by
  intro v0 v1 v2 h
  refine ms_all fun r e => ?_
  refine t7_hangingOn_c2.partial_correctness v0 v1 (motive := fun v2 h r => m_Sim Y 2 [(0, m_r v0), (1, m_i v1), (2, m_i v2)] [] h (some r)) ?_ v2 h r e
  intro f ih v2 h r e
  have ih : ∀ (v2 : Int) (h : m_H), m_Sim Y 2 [(0, m_r v0), (1, m_i v1), (2, m_i v2)] [] h (f v2 h ) := fun v2 h  => ms_all fun r e => ih v2 h r e
  refine ms_use ?_ e
  clear e r
  refine ms_iload_n (pc := 2) S 2 rfl rfl (m_dec e7_hangingOn 2 rfl) ?_
  refine ms_aload_n (pc := 3) S 0 rfl rfl (m_dec e7_hangingOn 3 rfl) ?_
  refine ms_grd fun g1 => ?_
  refine ms_getf (pc := 4) S lf_X7_33 rfl (m_dec e7_hangingOn 4 rfl) g1 ?_
  refine ms_icmp_ge (pc := 7) S (m_dec e7_hangingOn 5 rfl) rfl (fun q2 => ?_) (fun q2 => ?_)
  · refine ms_iload_n (pc := 10) S 1 rfl rfl (m_dec e7_hangingOn 6 rfl) ?_
    refine ms_iconst (pc := 11) S (m_dec e7_hangingOn 7 rfl) ?_
    refine ms_icmp_eq (pc := 12) S (m_dec e7_hangingOn 8 rfl) rfl (fun q3 => ?_) (fun q3 => ?_)
    · refine ms_iconst (pc := 41) S (m_dec e7_hangingOn 23 rfl) ?_
      exact ms_ret (pc := 42) E (m_dec e7_hangingOn 24 rfl) rfl
    · refine ms_aload_n (pc := 15) S 0 rfl rfl (m_dec e7_hangingOn 9 rfl) ?_
      refine ms_iload_n (pc := 16) S 2 rfl rfl (m_dec e7_hangingOn 10 rfl) ?_
      refine ms_callVa (pc := 17) S hF (vals := [m_i v2]) (st := []) (hc := vw_7) (hci := by decide) (hcy := rfl) (ht := g1) (hC := (k7_there _ _ v0 v2 h)) (hM := lm_X7_47) (hfr := (Nat.le_trans (by decide) hFn)) (hstk := rfl) (hcat := Nat.le_of_ble_eq_true rfl) (hd := (m_dec e7_hangingOn 11 rfl)) (k1 := fun r5 h4 => ?_)
      refine ms_astore_n (pc := 20) S (L' := [(0, m_r v0), (1, m_i v1), (2, m_i v2), (3, m_r r5)]) [1, 2, 3, 0] rfl rfl (m_lt hN rfl) (m_dec e7_hangingOn 12 rfl) ?_
      refine ms_aload_n (pc := 21) S 3 rfl rfl (m_dec e7_hangingOn 13 rfl) ?_
      refine ms_ifnull (pc := 22) S (m_dec e7_hangingOn 14 rfl) rfl (fun q6 => ?_) (fun q6 => ?_)
      · refine ms_iinc (pc := 35) S (L' := [(0, m_r v0), (1, m_i v1), (2, m_i (v2 + 1))]) 2 rfl [1, 2, 0] rfl (m_lt hN rfl) (m_dec e7_hangingOn 21 rfl) ?_
        refine ms_goto (pc := 38) S (m_dec e7_hangingOn 22 rfl) rfl ?_
        exact ih (v2 + 1) h4
      · refine ms_aload_n (pc := 25) S 3 rfl rfl (m_dec e7_hangingOn 15 rfl) ?_
        refine ms_grd fun g7 => ?_
        refine ms_getf (pc := 26) S lf_X7_86 rfl (m_dec e7_hangingOn 16 rfl) g7 ?_
        refine ms_iload_n (pc := 29) S 1 rfl rfl (m_dec e7_hangingOn 17 rfl) ?_
        refine ms_icmp_ne (pc := 30) S (m_dec e7_hangingOn 18 rfl) rfl (fun q8 => ?_) (fun q8 => ?_)
        · refine ms_iload_n (pc := 33) S 2 rfl rfl (m_dec e7_hangingOn 19 rfl) ?_
          exact ms_ret (pc := 34) E (m_dec e7_hangingOn 20 rfl) rfl
        · refine ms_iinc (pc := 35) S (L' := [(0, m_r v0), (1, m_i v1), (2, m_i (v2 + 1))]) 2 rfl [1, 2, 0] rfl (m_lt hN rfl) (m_dec e7_hangingOn 21 rfl) ?_
          refine ms_goto (pc := 38) S (m_dec e7_hangingOn 22 rfl) rfl ?_
          exact ih (v2 + 1) h4
  · refine ms_iconst (pc := 41) S (m_dec e7_hangingOn 23 rfl) ?_
    exact ms_ret (pc := 42) E (m_dec e7_hangingOn 24 rfl) rfl
set_option maxHeartbeats 4000000 in
set_option maxRecDepth 20000 in
theorem s7_hangingOn {Y : m_Y Int} (S : m_Std Y RX7 cX7_hangingOn) (E : m_End Y cX7_hangingOn .ireturn (fun r => [m_i r])) {F : Nat} (hF : m_Rm Y F) (hFn : 2 ≤ F) (hN : Y.2.2.2.1 = 4) (v0 v1 : Int) (h : m_H) : m_Sim Y 0 [(0, m_r v0), (1, m_i v1)] [] h (t7_hangingOn v0 v1 h) := by
  unfold t7_hangingOn
  refine ms_iconst (pc := 0) S (m_dec e7_hangingOn 0 rfl) ?_
  refine ms_istore_n (pc := 1) S (L' := [(0, m_r v0), (1, m_i v1), (2, m_i 0)]) [1, 2, 0] rfl rfl (m_lt hN rfl) (m_dec e7_hangingOn 1 rfl) ?_
  exact s7_hangingOn_c2 S E hF hFn hN v0 v1 0 h
theorem k7_hangingOn (l : Launch) (d : m_D) (v0 v1 : Int) (h : m_H) : m_Con l d yX7_hangingOn cX7_hangingOn 4 (some .int) 2 (fun r => [m_i r]) [m_r v0, m_i v1] h (t7_hangingOn v0 v1 h) :=
  m_con2 (by decide +kernel) (Nat.le_of_ble_eq_true rfl) (fun Y hN hRm hr hI S hfin => s7_hangingOn S (m_end_i S hr hfin) hRm (Nat.le_refl _) hN v0 v1 h)
set_option maxRecDepth 100000 in
theorem e7_readMark : ∀ q ∈ ([(0, .aload_n 0, 1), (1, .iload_n 1, 1), (2, .invokevirtual 37, 3), (5, .ifnull 23, 3), (8, .iload_n 2, 1), (9, .ifCond .lt 19, 3), (12, .iload_n 2, 1), (13, .sipush 999, 3), (16, .if_icmp .gt 12, 3), (19, .aload_n 0, 1), (20, .getfield 187, 3), (23, .bipush 100, 2), (25, .if_icmp .lt 5, 3), (28, .iconst 0, 1), (29, .ireturn, 1), (30, .aload_n 0, 1), (31, .getfield 23, 3), (34, .aload_n 0, 1), (35, .getfield 187, 3), (38, .iload_n 1, 1), (39, .invokestatic 190, 3), (42, .aload_n 0, 1), (43, .getfield 27, 3), (46, .aload_n 0, 1), (47, .getfield 187, 3), (50, .iload_n 2, 1), (51, .invokestatic 190, 3), (54, .aload_n 0, 1), (55, .getfield 30, 3), (58, .aload_n 0, 1), (59, .getfield 187, 3), (62, .aload_n 0, 1), (63, .getfield 53, 3), (66, .invokestatic 190, 3), (69, .aload_n 0, 1), (70, .dup, 1), (71, .getfield 187, 3), (74, .iconst 1, 1), (75, .iadd, 1), (76, .putfield 187, 3), (79, .iconst 1, 1), (80, .ireturn, 1)] : List (Nat × Instr × Nat)), decode cX7_readMark q.1 = .ok q.2 := by decide +kernel
set_option maxHeartbeats 4000000 in
set_option maxRecDepth 20000 in
theorem s7_readMark {Y : m_Y Bool} (S : m_Std Y RX7 cX7_readMark) (E : m_End Y cX7_readMark .ireturn (fun r => [m_i (m_b2i r)])) {F : Nat} (hF : m_Rm Y F) (hFn : 1 ≤ F) (hN : Y.2.2.2.1 = 3) (v0 v1 v2 : Int) (h : m_H) : m_Sim Y 0 [(0, m_r v0), (1, m_i v1), (2, m_i v2)] [] h (t7_readMark v0 v1 v2 h) := by
  unfold t7_readMark
  refine ms_aload_n (pc := 0) S 0 rfl rfl (m_dec e7_readMark 0 rfl) ?_
  refine ms_iload_n (pc := 1) S 1 rfl rfl (m_dec e7_readMark 1 rfl) ?_
  refine ms_grd fun g1 => ?_
  refine ms_callVa (pc := 2) S hF (vals := [m_i v1]) (st := []) (hc := vw_7) (hci := by decide) (hcy := rfl) (ht := g1) (hC := (k7_known _ _ v0 v1 h)) (hM := lm_X7_37) (hfr := (Nat.le_trans (by decide) hFn)) (hstk := rfl) (hcat := Nat.le_of_ble_eq_true rfl) (hd := (m_dec e7_readMark 2 rfl)) (k1 := fun r3 h2 => ?_)
  refine ms_ifnull (pc := 5) S (m_dec e7_readMark 3 rfl) rfl (fun q4 => ?_) (fun q4 => ?_)
  · refine ms_iconst (pc := 28) S (m_dec e7_readMark 13 rfl) ?_
    exact ms_ret (pc := 29) E (m_dec e7_readMark 14 rfl) rfl
  · refine ms_iload_n (pc := 8) S 2 rfl rfl (m_dec e7_readMark 4 rfl) ?_
    refine ms_if_lt (pc := 9) S (m_dec e7_readMark 5 rfl) rfl (fun q5 => ?_) (fun q5 => ?_)
    · refine ms_iconst (pc := 28) S (m_dec e7_readMark 13 rfl) ?_
      exact ms_ret (pc := 29) E (m_dec e7_readMark 14 rfl) rfl
    · refine ms_iload_n (pc := 12) S 2 rfl rfl (m_dec e7_readMark 6 rfl) ?_
      refine ms_sipush (pc := 13) S (m_dec e7_readMark 7 rfl) rfl ?_
      refine ms_icmp_gt (pc := 16) S (m_dec e7_readMark 8 rfl) rfl (fun q6 => ?_) (fun q6 => ?_)
      · refine ms_iconst (pc := 28) S (m_dec e7_readMark 13 rfl) ?_
        exact ms_ret (pc := 29) E (m_dec e7_readMark 14 rfl) rfl
      · refine ms_aload_n (pc := 19) S 0 rfl rfl (m_dec e7_readMark 9 rfl) ?_
        refine ms_grd fun g7 => ?_
        refine ms_getf (pc := 20) S lf_X7_187 rfl (m_dec e7_readMark 10 rfl) g7 ?_
        refine ms_bipush (pc := 23) S (m_dec e7_readMark 11 rfl) rfl ?_
        refine ms_icmp_lt (pc := 25) S (m_dec e7_readMark 12 rfl) rfl (fun q8 => ?_) (fun q8 => ?_)
        · refine ms_aload_n (pc := 30) S 0 rfl rfl (m_dec e7_readMark 15 rfl) ?_
          refine ms_getf (pc := 31) S lf_X7_23 rfl (m_dec e7_readMark 16 rfl) g7 ?_
          refine ms_aload_n (pc := 34) S 0 rfl rfl (m_dec e7_readMark 17 rfl) ?_
          refine ms_getf (pc := 35) S lf_X7_187 rfl (m_dec e7_readMark 18 rfl) g7 ?_
          refine ms_iload_n (pc := 38) S 1 rfl rfl (m_dec e7_readMark 19 rfl) ?_
          refine ms_callSv (pc := 39) S hF (vals := [m_r (m_g h2 v0 7), m_i (m_g h2 v0 10), m_i v1]) (st := [])  (hC := (k10_setEntry _ _ (m_g h2 v0 7) (m_g h2 v0 10) v1 h2)) (hM := lm_X7_190) (hfr := (Nat.le_trans (by decide) hFn)) (hstk := rfl) (hcat := Nat.le_of_ble_eq_true rfl) (hd := (m_dec e7_readMark 20 rfl)) (k1 := fun h9 => ?_)
          refine ms_aload_n (pc := 42) S 0 rfl rfl (m_dec e7_readMark 21 rfl) ?_
          refine ms_grd fun g11 => ?_
          refine ms_getf (pc := 43) S lf_X7_27 rfl (m_dec e7_readMark 22 rfl) g11 ?_
          refine ms_aload_n (pc := 46) S 0 rfl rfl (m_dec e7_readMark 23 rfl) ?_
          refine ms_getf (pc := 47) S lf_X7_187 rfl (m_dec e7_readMark 24 rfl) g11 ?_
          refine ms_iload_n (pc := 50) S 2 rfl rfl (m_dec e7_readMark 25 rfl) ?_
          refine ms_callSv (pc := 51) S hF (vals := [m_r (m_g h9 v0 8), m_i (m_g h9 v0 10), m_i v2]) (st := [])  (hC := (k10_setEntry _ _ (m_g h9 v0 8) (m_g h9 v0 10) v2 h9)) (hM := lm_X7_190) (hfr := (Nat.le_trans (by decide) hFn)) (hstk := rfl) (hcat := Nat.le_of_ble_eq_true rfl) (hd := (m_dec e7_readMark 26 rfl)) (k1 := fun h12 => ?_)
          refine ms_aload_n (pc := 54) S 0 rfl rfl (m_dec e7_readMark 27 rfl) ?_
          refine ms_grd fun g14 => ?_
          refine ms_getf (pc := 55) S lf_X7_30 rfl (m_dec e7_readMark 28 rfl) g14 ?_
          refine ms_aload_n (pc := 58) S 0 rfl rfl (m_dec e7_readMark 29 rfl) ?_
          refine ms_getf (pc := 59) S lf_X7_187 rfl (m_dec e7_readMark 30 rfl) g14 ?_
          refine ms_aload_n (pc := 62) S 0 rfl rfl (m_dec e7_readMark 31 rfl) ?_
          refine ms_getf (pc := 63) S lf_X7_53 rfl (m_dec e7_readMark 32 rfl) g14 ?_
          refine ms_callSv (pc := 66) S hF (vals := [m_r (m_g h12 v0 9), m_i (m_g h12 v0 10), m_i (m_g h12 v0 3)]) (st := [])  (hC := (k10_setEntry _ _ (m_g h12 v0 9) (m_g h12 v0 10) (m_g h12 v0 3) h12)) (hM := lm_X7_190) (hfr := (Nat.le_trans (by decide) hFn)) (hstk := rfl) (hcat := Nat.le_of_ble_eq_true rfl) (hd := (m_dec e7_readMark 33 rfl)) (k1 := fun h15 => ?_)
          refine ms_aload_n (pc := 69) S 0 rfl rfl (m_dec e7_readMark 34 rfl) ?_
          refine ms_dup (pc := 70) S rfl (m_dec e7_readMark 35 rfl) ?_
          refine ms_grd fun g17 => ?_
          refine ms_getf (pc := 71) S lf_X7_187 rfl (m_dec e7_readMark 36 rfl) g17 ?_
          refine ms_iconst (pc := 74) S (m_dec e7_readMark 37 rfl) ?_
          refine ms_iadd (pc := 75) S (m_dec e7_readMark 38 rfl) ?_
          refine ms_putf (pc := 76) S lp_X7_187 (fun z => by cases z) rfl (fun d => m_fitI d _) (m_dec e7_readMark 39 rfl) g17 (fun h18 => ?_)
          refine ms_iconst (pc := 79) S (m_dec e7_readMark 40 rfl) ?_
          exact ms_ret (pc := 80) E (m_dec e7_readMark 41 rfl) rfl
        · refine ms_iconst (pc := 28) S (m_dec e7_readMark 13 rfl) ?_
          exact ms_ret (pc := 29) E (m_dec e7_readMark 14 rfl) rfl
theorem k7_readMark (l : Launch) (d : m_D) (v0 v1 v2 : Int) (h : m_H) : m_Con l d yX7_readMark cX7_readMark 3 (some .boolean) 1 (fun r => [m_i (m_b2i r)]) [m_r v0, m_i v1, m_i v2] h (t7_readMark v0 v1 v2 h) :=
  m_con2 (by decide +kernel) (Nat.le_of_ble_eq_true rfl) (fun Y hN hRm hr hI S hfin => s7_readMark S (m_end_z S hr hfin) hRm (Nat.le_refl _) hN v0 v1 v2 h)
set_option maxRecDepth 100000 in
theorem e8_fact : ∀ q ∈ ([(0, .iload_n 1, 1), (1, .tableswitch 117 0 10 #[59, 64, 69, 77, 82, 87, 92, 97, 102, 107, 112], 59), (60, .aload_n 0, 1), (61, .getfield 34, 3), (64, .ireturn, 1), (65, .aload_n 0, 1), (66, .getfield 18, 3), (69, .ireturn, 1), (70, .aload_n 0, 1), (71, .getfield 12, 3), (74, .invokevirtual 40, 3), (77, .ireturn, 1), (78, .aload_n 0, 1), (79, .getfield 44, 3), (82, .ireturn, 1), (83, .aload_n 0, 1), (84, .getfield 47, 3), (87, .ireturn, 1), (88, .aload_n 0, 1), (89, .getfield 50, 3), (92, .ireturn, 1), (93, .aload_n 0, 1), (94, .getfield 22, 3), (97, .ireturn, 1), (98, .aload_n 0, 1), (99, .getfield 37, 3), (102, .ireturn, 1), (103, .aload_n 0, 1), (104, .getfield 25, 3), (107, .ireturn, 1), (108, .aload_n 0, 1), (109, .getfield 28, 3), (112, .ireturn, 1), (113, .aload_n 0, 1), (114, .getfield 53, 3), (117, .ireturn, 1), (118, .iconst (-1), 1), (119, .ireturn, 1)] : List (Nat × Instr × Nat)), decode cX8_fact q.1 = .ok q.2 := by decide +kernel
set_option maxHeartbeats 4000000 in
set_option maxRecDepth 20000 in
theorem s8_fact {Y : m_Y Int} (S : m_Std Y RX8 cX8_fact) (E : m_End Y cX8_fact .ireturn (fun r => [m_i r])) {F : Nat} (hF : m_Rm Y F) (hFn : 1 ≤ F) (hN : Y.2.2.2.1 = 2) (v0 v1 : Int) (h : m_H) : m_Sim Y 0 [(0, m_r v0), (1, m_i v1)] [] h (t8_fact v0 v1 h) := by
  unfold t8_fact
  refine ms_iload_n (pc := 0) S 1 rfl rfl (m_dec e8_fact 0 rfl) ?_
  refine ms_ite (fun q1 => ?_) (fun q1 => ?_)
  · refine ms_swIn (pc := 1) S (m_dec e8_fact 1 rfl) 0 q1 (by decide) (by decide) rfl rfl ?_
    refine ms_aload_n (pc := 60) S 0 rfl rfl (m_dec e8_fact 2 rfl) ?_
    refine ms_grd fun g2 => ?_
    refine ms_getf (pc := 61) S lf_X8_34 rfl (m_dec e8_fact 3 rfl) g2 ?_
    exact ms_ret (pc := 64) E (m_dec e8_fact 4 rfl) rfl
  · refine ms_ite (fun q3 => ?_) (fun q3 => ?_)
    · refine ms_swIn (pc := 1) S (m_dec e8_fact 1 rfl) 1 q3 (by decide) (by decide) rfl rfl ?_
      refine ms_aload_n (pc := 65) S 0 rfl rfl (m_dec e8_fact 5 rfl) ?_
      refine ms_grd fun g4 => ?_
      refine ms_getf (pc := 66) S lf_X8_18 rfl (m_dec e8_fact 6 rfl) g4 ?_
      exact ms_ret (pc := 69) E (m_dec e8_fact 7 rfl) rfl
    · refine ms_ite (fun q5 => ?_) (fun q5 => ?_)
      · refine ms_swIn (pc := 1) S (m_dec e8_fact 1 rfl) 2 q5 (by decide) (by decide) rfl rfl ?_
        refine ms_aload_n (pc := 70) S 0 rfl rfl (m_dec e8_fact 8 rfl) ?_
        refine ms_grd fun g6 => ?_
        refine ms_getf (pc := 71) S lf_X8_12 rfl (m_dec e8_fact 9 rfl) g6 ?_
        refine ms_grd fun g7 => ?_
        refine ms_callVi (pc := 74) S hF (vals := []) (st := []) (hc := vw_5) (hci := by decide) (hcy := rfl) (ht := g7) (hC := (k5_size _ _ (m_g h v0 3) h)) (hM := lm_X8_40) (hfr := (Nat.le_trans (by decide) hFn)) (hstk := rfl) (hcat := Nat.le_of_ble_eq_true rfl) (hd := (m_dec e8_fact 10 rfl)) (k1 := fun r9 h8 => ?_)
        exact ms_ret (pc := 77) E (m_dec e8_fact 11 rfl) rfl
      · refine ms_ite (fun q10 => ?_) (fun q10 => ?_)
        · refine ms_swIn (pc := 1) S (m_dec e8_fact 1 rfl) 3 q10 (by decide) (by decide) rfl rfl ?_
          refine ms_aload_n (pc := 78) S 0 rfl rfl (m_dec e8_fact 12 rfl) ?_
          refine ms_grd fun g11 => ?_
          refine ms_getf (pc := 79) S lf_X8_44 rfl (m_dec e8_fact 13 rfl) g11 ?_
          exact ms_ret (pc := 82) E (m_dec e8_fact 14 rfl) rfl
        · refine ms_ite (fun q12 => ?_) (fun q12 => ?_)
          · refine ms_swIn (pc := 1) S (m_dec e8_fact 1 rfl) 4 q12 (by decide) (by decide) rfl rfl ?_
            refine ms_aload_n (pc := 83) S 0 rfl rfl (m_dec e8_fact 15 rfl) ?_
            refine ms_grd fun g13 => ?_
            refine ms_getf (pc := 84) S lf_X8_47 rfl (m_dec e8_fact 16 rfl) g13 ?_
            exact ms_ret (pc := 87) E (m_dec e8_fact 17 rfl) rfl
          · refine ms_ite (fun q14 => ?_) (fun q14 => ?_)
            · refine ms_swIn (pc := 1) S (m_dec e8_fact 1 rfl) 5 q14 (by decide) (by decide) rfl rfl ?_
              refine ms_aload_n (pc := 88) S 0 rfl rfl (m_dec e8_fact 18 rfl) ?_
              refine ms_grd fun g15 => ?_
              refine ms_getf (pc := 89) S lf_X8_50 rfl (m_dec e8_fact 19 rfl) g15 ?_
              exact ms_ret (pc := 92) E (m_dec e8_fact 20 rfl) rfl
            · refine ms_ite (fun q16 => ?_) (fun q16 => ?_)
              · refine ms_swIn (pc := 1) S (m_dec e8_fact 1 rfl) 6 q16 (by decide) (by decide) rfl rfl ?_
                refine ms_aload_n (pc := 93) S 0 rfl rfl (m_dec e8_fact 21 rfl) ?_
                refine ms_grd fun g17 => ?_
                refine ms_getf (pc := 94) S lf_X8_22 rfl (m_dec e8_fact 22 rfl) g17 ?_
                exact ms_ret (pc := 97) E (m_dec e8_fact 23 rfl) rfl
              · refine ms_ite (fun q18 => ?_) (fun q18 => ?_)
                · refine ms_swIn (pc := 1) S (m_dec e8_fact 1 rfl) 7 q18 (by decide) (by decide) rfl rfl ?_
                  refine ms_aload_n (pc := 98) S 0 rfl rfl (m_dec e8_fact 24 rfl) ?_
                  refine ms_grd fun g19 => ?_
                  refine ms_getf (pc := 99) S lf_X8_37 rfl (m_dec e8_fact 25 rfl) g19 ?_
                  exact ms_ret (pc := 102) E (m_dec e8_fact 26 rfl) rfl
                · refine ms_ite (fun q20 => ?_) (fun q20 => ?_)
                  · refine ms_swIn (pc := 1) S (m_dec e8_fact 1 rfl) 8 q20 (by decide) (by decide) rfl rfl ?_
                    refine ms_aload_n (pc := 103) S 0 rfl rfl (m_dec e8_fact 27 rfl) ?_
                    refine ms_grd fun g21 => ?_
                    refine ms_getf (pc := 104) S lf_X8_25 rfl (m_dec e8_fact 28 rfl) g21 ?_
                    exact ms_ret (pc := 107) E (m_dec e8_fact 29 rfl) rfl
                  · refine ms_ite (fun q22 => ?_) (fun q22 => ?_)
                    · refine ms_swIn (pc := 1) S (m_dec e8_fact 1 rfl) 9 q22 (by decide) (by decide) rfl rfl ?_
                      refine ms_aload_n (pc := 108) S 0 rfl rfl (m_dec e8_fact 30 rfl) ?_
                      refine ms_grd fun g23 => ?_
                      refine ms_getf (pc := 109) S lf_X8_28 rfl (m_dec e8_fact 31 rfl) g23 ?_
                      exact ms_ret (pc := 112) E (m_dec e8_fact 32 rfl) rfl
                    · refine ms_ite (fun q24 => ?_) (fun q24 => ?_)
                      · refine ms_swIn (pc := 1) S (m_dec e8_fact 1 rfl) 10 q24 (by decide) (by decide) rfl rfl ?_
                        refine ms_aload_n (pc := 113) S 0 rfl rfl (m_dec e8_fact 33 rfl) ?_
                        refine ms_grd fun g25 => ?_
                        refine ms_getf (pc := 114) S lf_X8_53 rfl (m_dec e8_fact 34 rfl) g25 ?_
                        exact ms_ret (pc := 117) E (m_dec e8_fact 35 rfl) rfl
                      · refine ms_swOut (pc := 1) (a := v1) S (m_dec e8_fact 1 rfl) (by omega) rfl ?_
                        refine ms_iconst (pc := 118) S (m_dec e8_fact 36 rfl) ?_
                        exact ms_ret (pc := 119) E (m_dec e8_fact 37 rfl) rfl
theorem k8_fact (l : Launch) (d : m_D) (v0 v1 : Int) (h : m_H) : m_Con l d yX8_fact cX8_fact 2 (some .int) 1 (fun r => [m_i r]) [m_r v0, m_i v1] h (t8_fact v0 v1 h) :=
  m_con2 (by decide +kernel) (Nat.le_of_ble_eq_true rfl) (fun Y hN hRm hr hI S hfin => s8_fact S (m_end_i S hr hfin) hRm (Nat.le_refl _) hN v0 v1 h)
set_option maxRecDepth 100000 in
theorem e9_init : ∀ q ∈ ([(0, .aload_n 0, 1), (1, .invokespecial 3, 3), (4, .aload_n 0, 1), (5, .bipush 9, 2), (7, .newarray .int, 2), (9, .putfield 9, 3), (12, .aload_n 0, 1), (13, .bipush 9, 2), (15, .newarray .int, 2), (17, .putfield 15, 3), (20, .aload_n 0, 1), (21, .bipush 40, 2), (23, .newarray .int, 2), (25, .putfield 18, 3), (28, .aload_n 0, 1), (29, .sipush 512, 3), (32, .newarray .int, 2), (34, .putfield 21, 3), (37, .return_, 1)] : List (Nat × Instr × Nat)), decode cX9_init q.1 = .ok q.2 := by decide +kernel
set_option maxHeartbeats 4000000 in
set_option maxRecDepth 20000 in
theorem s9_init {Y : m_Y Unit} (S : m_Std Y RX9 cX9_init) (E : m_End Y cX9_init .return_ (fun _ => [])) {F : Nat} (hF : m_Rm Y F) (hFn : 1 ≤ F) (hN : Y.2.2.2.1 = 1) (hI : Y.2.2.2.2.2 → Y.2.1.2.2.2.2.2.2.2.2.1.name = "<init>") (v0 : Int) (h : m_H) : m_Sim Y 0 [(0, m_r v0)] [] h (t9_init v0 h) := by
  unfold t9_init
  refine ms_aload_n (pc := 0) S 0 rfl rfl (m_dec e9_init 0 rfl) ?_
  refine ms_grd fun g1 => ?_
  refine ms_obj (pc := 1) S hF (Nat.le_trans (by decide) hFn) lo_X9_3 g1 (Nat.le_of_ble_eq_true rfl) (m_dec e9_init 1 rfl) ?_
  refine ms_aload_n (pc := 4) S 0 rfl rfl (m_dec e9_init 2 rfl) ?_
  refine ms_bipush (pc := 5) S (m_dec e9_init 3 rfl) rfl ?_
  refine ms_newa (pc := 7) S 20 (ty := .int) rfl (by decide) (fun _ => rfl) (fun _ => rfl) (by decide) (fun _ _ z => z) w_208 (by decide) (m_dec e9_init 4 rfl) (fun h2 => ?_)
  refine ms_grd fun g3 => ?_
  refine ms_putf (pc := 9) S lp_X9_9 (fun _ hf => hI hf) rfl (fun d => m_fitA _ d _) (m_dec e9_init 5 rfl) g3 (fun h4 => ?_)
  refine ms_aload_n (pc := 12) S 0 rfl rfl (m_dec e9_init 6 rfl) ?_
  refine ms_bipush (pc := 13) S (m_dec e9_init 7 rfl) rfl ?_
  refine ms_newa (pc := 15) S 20 (ty := .int) rfl (by decide) (fun _ => rfl) (fun _ => rfl) (by decide) (fun _ _ z => z) w_208 (by decide) (m_dec e9_init 8 rfl) (fun h5 => ?_)
  refine ms_grd fun g6 => ?_
  refine ms_putf (pc := 17) S lp_X9_15 (fun _ hf => hI hf) rfl (fun d => m_fitA _ d _) (m_dec e9_init 9 rfl) g6 (fun h7 => ?_)
  refine ms_aload_n (pc := 20) S 0 rfl rfl (m_dec e9_init 10 rfl) ?_
  refine ms_bipush (pc := 21) S (m_dec e9_init 11 rfl) rfl ?_
  refine ms_newa (pc := 23) S 20 (ty := .int) rfl (by decide) (fun _ => rfl) (fun _ => rfl) (by decide) (fun _ _ z => z) w_208 (by decide) (m_dec e9_init 12 rfl) (fun h8 => ?_)
  refine ms_grd fun g9 => ?_
  refine ms_putf (pc := 25) S lp_X9_18 (fun _ hf => hI hf) rfl (fun d => m_fitA _ d _) (m_dec e9_init 13 rfl) g9 (fun h10 => ?_)
  refine ms_aload_n (pc := 28) S 0 rfl rfl (m_dec e9_init 14 rfl) ?_
  refine ms_sipush (pc := 29) S (m_dec e9_init 15 rfl) rfl ?_
  refine ms_newa (pc := 32) S 20 (ty := .int) rfl (by decide) (fun _ => rfl) (fun _ => rfl) (by decide) (fun _ _ z => z) w_208 (by decide) (m_dec e9_init 16 rfl) (fun h11 => ?_)
  refine ms_grd fun g12 => ?_
  refine ms_putf (pc := 34) S lp_X9_21 (fun _ hf => hI hf) rfl (fun d => m_fitA _ d _) (m_dec e9_init 17 rfl) g12 (fun h13 => ?_)
  exact ms_ret (pc := 37) E (m_dec e9_init 18 rfl) rfl
theorem k9_init (l : Launch) (d : m_D) (v0 : Int) (h : m_H) : m_Con l d yX9_init cX9_init 1 none 1 (fun _ => []) [m_r v0] h (t9_init v0 h) :=
  m_con2 (by decide +kernel) (Nat.le_of_ble_eq_true rfl) (fun Y hN hRm hr hI S hfin => s9_init S (m_end_v S hr hfin) hRm (Nat.le_refl _) hN hI v0 h)
set_option maxRecDepth 100000 in
theorem e9_stepBit : ∀ q ∈ ([(0, .aload_n 0, 1), (1, .getfield 18, 3), (4, .iload_n 1, 1), (5, .iconst (-1), 1), (6, .invokestatic 53, 3), (9, .istore_n 2, 1), (10, .iload_n 2, 1), (11, .iconst (-1), 1), (12, .if_icmp .ne 7, 3), (15, .iconst 0, 1), (16, .goto 6, 3), (19, .iconst 1, 1), (20, .iload_n 2, 1), (21, .ishl, 1), (22, .ireturn, 1)] : List (Nat × Instr × Nat)), decode cX9_stepBit q.1 = .ok q.2 := by decide +kernel
set_option maxHeartbeats 4000000 in
set_option maxRecDepth 20000 in
theorem s9_stepBit {Y : m_Y Int} (S : m_Std Y RX9 cX9_stepBit) (E : m_End Y cX9_stepBit .ireturn (fun r => [m_i r])) {F : Nat} (hF : m_Rm Y F) (hFn : 1 ≤ F) (hN : Y.2.2.2.1 = 3) (v0 v1 : Int) (h : m_H) : m_Sim Y 0 [(0, m_r v0), (1, m_i v1)] [] h (t9_stepBit v0 v1 h) := by
  unfold t9_stepBit
  refine ms_aload_n (pc := 0) S 0 rfl rfl (m_dec e9_stepBit 0 rfl) ?_
  refine ms_grd fun g1 => ?_
  refine ms_getf (pc := 1) S lf_X9_18 rfl (m_dec e9_stepBit 1 rfl) g1 ?_
  refine ms_iload_n (pc := 4) S 1 rfl rfl (m_dec e9_stepBit 2 rfl) ?_
  refine ms_iconst (pc := 5) S (m_dec e9_stepBit 3 rfl) ?_
  refine ms_callSi (pc := 6) S hF (vals := [m_r (m_g h v0 2), m_i v1, m_i (-1)]) (st := [])  (hC := (k10_entry _ _ (m_g h v0 2) v1 (-1) h)) (hM := lm_X9_53) (hfr := (Nat.le_trans (by decide) hFn)) (hstk := rfl) (hcat := Nat.le_of_ble_eq_true rfl) (hd := (m_dec e9_stepBit 4 rfl)) (k1 := fun r3 h2 => ?_)
  refine ms_istore_n (pc := 9) S (L' := [(2, m_i r3)]) [0] rfl rfl (m_lt hN rfl) (m_dec e9_stepBit 5 rfl) ?_
  refine ms_iload_n (pc := 10) S 0 rfl rfl (m_dec e9_stepBit 6 rfl) ?_
  refine ms_iconst (pc := 11) S (m_dec e9_stepBit 7 rfl) ?_
  refine ms_icmp_ne (pc := 12) S (m_dec e9_stepBit 8 rfl) rfl (fun q4 => ?_) (fun q4 => ?_)
  · refine ms_iconst (pc := 15) S (m_dec e9_stepBit 9 rfl) ?_
    refine ms_goto (pc := 16) S (m_dec e9_stepBit 10 rfl) rfl ?_
    exact ms_ret (pc := 22) E (m_dec e9_stepBit 14 rfl) rfl
  · refine ms_iconst (pc := 19) S (m_dec e9_stepBit 11 rfl) ?_
    refine ms_iload_n (pc := 20) S 0 rfl rfl (m_dec e9_stepBit 12 rfl) ?_
    refine ms_ishl (pc := 21) S (m_dec e9_stepBit 13 rfl) ?_
    exact ms_ret (pc := 22) E (m_dec e9_stepBit 14 rfl) rfl
theorem k9_stepBit (l : Launch) (d : m_D) (v0 v1 : Int) (h : m_H) : m_Con l d yX9_stepBit cX9_stepBit 3 (some .int) 1 (fun r => [m_i r]) [m_r v0, m_i v1] h (t9_stepBit v0 v1 h) :=
  m_con2 (by decide +kernel) (Nat.le_of_ble_eq_true rfl) (fun Y hN hRm hr hI S hfin => s9_stepBit S (m_end_i S hr hfin) hRm (Nat.le_refl _) hN v0 v1 h)
