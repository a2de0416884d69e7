/-! the walks of the methods, 8 -/
set_option maxRecDepth 100000 in
theorem e11_numbers : ∀ q ∈ ([(0, .iload_n 2, 1), (1, .tableswitch 439 0 11 #[63, 82, 102, 439, 151, 192, 217, 243, 292, 316, 370, 419], 63), (64, .aload_n 0, 1), (65, .getfield 98, 3), (68, .bipush 8, 2), (70, .aaload, 1), (71, .iload_n 1, 1), (72, .aload_n 0, 1), (73, .iconst 0, 1), (74, .bipush 99, 2), (76, .invokevirtual 425, 3), (79, .iastore, 1), (80, .goto 360, 3), (83, .aload_n 0, 1), (84, .getfield 98, 3), (87, .bipush 8, 2), (89, .aaload, 1), (90, .iload_n 1, 1), (91, .aload_n 0, 1), (92, .iconst 0, 1), (93, .sipush 999, 3), (96, .invokevirtual 425, 3), (99, .iastore, 1), (100, .goto 340, 3), (103, .aload_n 0, 1), (104, .ldc 152, 2), (106, .invokevirtual 418, 3), (109, .aload_n 0, 1), (110, .getfield 98, 3), (113, .bipush 8, 2), (115, .aaload, 1), (116, .iload_n 1, 1), (117, .aload_n 0, 1), (118, .iconst 0, 1), (119, .sipush 1500, 3), (122, .invokevirtual 425, 3), (125, .iastore, 1), (126, .aload_n 0, 1), (127, .ldc 153, 2), (129, .invokevirtual 418, 3), (132, .aload_n 0, 1), (133, .getfield 101, 3), (136, .bipush 8, 2), (138, .aaload, 1), (139, .iload_n 1, 1), (140, .aload_n 0, 1), (141, .iconst 0, 1), (142, .sipush 1500, 3), (145, .invokevirtual 425, 3), (148, .iastore, 1), (149, .goto 291, 3), (152, .aload_n 0, 1), (153, .getfield 98, 3), (156, .bipush 8, 2), (158, .aaload, 1), (159, .iload_n 1, 1), (160, .aload_n 0, 1), (161, .iconst 1, 1), (162, .bipush 8, 2), (164, .invokevirtual 425, 3), (167, .iastore, 1), (168, .aload_n 0, 1), (169, .bipush 47, 2), (171, .invokevirtual 428, 3), (174, .aload_n 0, 1), (175, .getfield 101, 3), (178, .bipush 8, 2), (180, .aaload, 1), (181, .iload_n 1, 1), (182, .aload_n 0, 1), (183, .iconst 1, 1), (184, .bipush 8, 2), (186, .invokevirtual 425, 3), (189, .iastore, 1), (190, .goto 250, 3), (193, .aload_n 0, 1), (194, .ldc 155, 2), (196, .invokevirtual 418, 3), (199, .aload_n 0, 1), (200, .getfield 98, 3), (203, .bipush 8, 2), (205, .aaload, 1), (206, .iload_n 1, 1), (207, .aload_n 0, 1), (208, .iconst 0, 1), (209, .bipush 40, 2), (211, .invokevirtual 425, 3), (214, .iastore, 1), (215, .goto 225, 3), (218, .aload_n 0, 1), (219, .ldc 157, 2), (221, .invokevirtual 418, 3), (224, .aload_n 0, 1), (225, .getfield 98, 3), (228, .bipush 8, 2), (230, .aaload, 1), (231, .iload_n 1, 1), (232, .aload_n 0, 1), (233, .iconst 0, 1), (234, .sipush 1500, 3), (237, .invokevirtual 425, 3), (240, .iastore, 1), (241, .goto 199, 3), (244, .aload_n 0, 1), (245, .ldc 159, 2), (247, .invokevirtual 418, 3), (250, .aload_n 0, 1), (251, .getfield 98, 3), (254, .bipush 8, 2), (256, .aaload, 1), (257, .iload_n 1, 1), (258, .aload_n 0, 1), (259, .iconst 1, 1), (260, .sipush 500, 3), (263, .invokevirtual 425, 3), (266, .iastore, 1), (267, .aload_n 0, 1), (268, .ldc 161, 2), (270, .invokevirtual 418, 3), (273, .aload_n 0, 1), (274, .getfield 101, 3), (277, .bipush 8, 2), (279, .aaload, 1), (280, .iload_n 1, 1), (281, .aload_n 0, 1), (282, .iconst 0, 1), (283, .sipush 255, 3), (286, .invokevirtual 425, 3), (289, .iastore, 1), (290, .goto 150, 3), (293, .aload_n 0, 1), (294, .ldc 163, 2), (296, .invokevirtual 418, 3), (299, .aload_n 0, 1), (300, .getfield 98, 3), (303, .bipush 8, 2), (305, .aaload, 1), (306, .iload_n 1, 1), (307, .aload_n 0, 1), (308, .iconst 0, 1), (309, .iconst 3, 1), (310, .invokevirtual 425, 3), (313, .iastore, 1), (314, .goto 126, 3), (317, .aload_n 0, 1), (318, .getfield 98, 3), (321, .bipush 8, 2), (323, .aaload, 1), (324, .iload_n 1, 1), (325, .aload_n 0, 1), (326, .iconst 0, 1), (327, .sipush 128, 3), (330, .invokevirtual 425, 3), (333, .iastore, 1), (334, .aload_n 0, 1), (335, .getfield 101, 3), (338, .bipush 8, 2), (340, .aaload, 1), (341, .iload_n 1, 1), (342, .aload_n 0, 1), (343, .iconst 0, 1), (344, .sipush 128, 3), (347, .invokevirtual 425, 3), (350, .iastore, 1), (351, .aload_n 0, 1), (352, .getfield 104, 3), (355, .bipush 8, 2), (357, .aaload, 1), (358, .iload_n 1, 1), (359, .aload_n 0, 1), (360, .iconst 0, 1), (361, .sipush 128, 3), (364, .invokevirtual 425, 3), (367, .iastore, 1), (368, .goto 72, 3), (371, .aload_n 0, 1), (372, .ldc 165, 2), (374, .invokevirtual 418, 3), (377, .aload_n 0, 1), (378, .getfield 98, 3), (381, .bipush 8, 2), (383, .aaload, 1), (384, .iload_n 1, 1), (385, .aload_n 0, 1), (386, .iconst 0, 1), (387, .sipush 1500, 3), (390, .invokevirtual 425, 3), (393, .iastore, 1), (394, .aload_n 0, 1), (395, .ldc 167, 2), (397, .invokevirtual 418, 3), (400, .aload_n 0, 1), (401, .getfield 101, 3), (404, .bipush 8, 2), (406, .aaload, 1), (407, .iload_n 1, 1), (408, .aload_n 0, 1), (409, .iconst 0, 1), (410, .sipush 1500, 3), (413, .invokevirtual 425, 3), (416, .iastore, 1), (417, .goto 23, 3), (420, .aload_n 0, 1), (421, .getfield 98, 3), (424, .bipush 8, 2), (426, .aaload, 1), (427, .iload_n 1, 1), (428, .aload_n 0, 1), (429, .iconst 0, 1), (430, .sipush 128, 3), (433, .invokevirtual 425, 3), (436, .iastore, 1), (437, .goto 3, 3), (440, .return_, 1)] : List (Nat × Instr × Nat)), decode cX11_numbers q.1 = .ok q.2 := by decide +kernel
set_option maxHeartbeats 4000000 in
set_option maxRecDepth 20000 in
theorem s11_numbers {Y : m_Y Unit} (S : m_Std Y RX11 cX11_numbers) (E : m_End Y cX11_numbers .return_ (fun _ => [])) {F : Nat} (hF : m_Rm Y F) (hFn : 8 ≤ F) (hN : Y.2.2.2.1 = 3) (v0 v1 v2 : Int) (h : m_H) : m_Sim Y 0 [(0, m_r v0), (1, m_i v1), (2, m_i v2)] [] h (t11_numbers v0 v1 v2 h) := by
  unfold t11_numbers
  refine ms_iload_n (pc := 0) S 2 rfl rfl (m_dec e11_numbers 0 rfl) ?_
  refine ms_ite (fun q1 => ?_) (fun q1 => ?_)
  · refine ms_swIn (pc := 1) S (m_dec e11_numbers 1 rfl) 0 q1 (by decide) (by decide) rfl rfl ?_
    refine ms_aload_n (pc := 64) S 0 rfl rfl (m_dec e11_numbers 2 rfl) ?_
    refine ms_grd fun g2 => ?_
    refine ms_getf (pc := 65) S lf_X11_98 rfl (m_dec e11_numbers 3 rfl) g2 ?_
    refine ms_bipush (pc := 68) S (m_dec e11_numbers 4 rfl) rfl ?_
    refine ms_grd fun g3 => ?_
    refine ms_aald (pc := 70) S 29 (by decide) (fun _ => rfl) rfl g3 (m_dec e11_numbers 5 rfl) ?_
    refine ms_iload_n (pc := 71) S 1 rfl rfl (m_dec e11_numbers 6 rfl) ?_
    refine ms_aload_n (pc := 72) S 0 rfl rfl (m_dec e11_numbers 7 rfl) ?_
    refine ms_iconst (pc := 73) S (m_dec e11_numbers 8 rfl) ?_
    refine ms_bipush (pc := 74) S (m_dec e11_numbers 9 rfl) rfl ?_
    refine ms_callVi (pc := 76) S hF (vals := [m_i 0, m_i 99]) (st := [m_i v1, m_r (m_g h (m_g h v0 38) 8)]) (hc := vw_11) (hci := by decide) (hcy := rfl) (ht := g2) (hC := (k11_number _ _ v0 0 99 h)) (hM := lm_X11_425) (hfr := (Nat.le_trans (by decide) hFn)) (hstk := rfl) (hcat := Nat.le_of_ble_eq_true rfl) (hd := (m_dec e11_numbers 10 rfl)) (k1 := fun r5 h4 => ?_)
    refine ms_grd fun g6 => ?_
    refine ms_iast (pc := 79) S g6 (m_dec e11_numbers 11 rfl) (fun h7 => ?_)
    refine ms_goto (pc := 80) S (m_dec e11_numbers 12 rfl) rfl ?_
    exact ms_ret (pc := 440) E (m_dec e11_numbers 213 rfl) rfl
  · refine ms_ite (fun q8 => ?_) (fun q8 => ?_)
    · refine ms_swIn (pc := 1) S (m_dec e11_numbers 1 rfl) 1 q8 (by decide) (by decide) rfl rfl ?_
      refine ms_aload_n (pc := 83) S 0 rfl rfl (m_dec e11_numbers 13 rfl) ?_
      refine ms_grd fun g9 => ?_
      refine ms_getf (pc := 84) S lf_X11_98 rfl (m_dec e11_numbers 14 rfl) g9 ?_
      refine ms_bipush (pc := 87) S (m_dec e11_numbers 15 rfl) rfl ?_
      refine ms_grd fun g10 => ?_
      refine ms_aald (pc := 89) S 29 (by decide) (fun _ => rfl) rfl g10 (m_dec e11_numbers 16 rfl) ?_
      refine ms_iload_n (pc := 90) S 1 rfl rfl (m_dec e11_numbers 17 rfl) ?_
      refine ms_aload_n (pc := 91) S 0 rfl rfl (m_dec e11_numbers 18 rfl) ?_
      refine ms_iconst (pc := 92) S (m_dec e11_numbers 19 rfl) ?_
      refine ms_sipush (pc := 93) S (m_dec e11_numbers 20 rfl) rfl ?_
      refine ms_callVi (pc := 96) S hF (vals := [m_i 0, m_i 999]) (st := [m_i v1, m_r (m_g h (m_g h v0 38) 8)]) (hc := vw_11) (hci := by decide) (hcy := rfl) (ht := g9) (hC := (k11_number _ _ v0 0 999 h)) (hM := lm_X11_425) (hfr := (Nat.le_trans (by decide) hFn)) (hstk := rfl) (hcat := Nat.le_of_ble_eq_true rfl) (hd := (m_dec e11_numbers 21 rfl)) (k1 := fun r12 h11 => ?_)
      refine ms_grd fun g13 => ?_
      refine ms_iast (pc := 99) S g13 (m_dec e11_numbers 22 rfl) (fun h14 => ?_)
      refine ms_goto (pc := 100) S (m_dec e11_numbers 23 rfl) rfl ?_
      exact ms_ret (pc := 440) E (m_dec e11_numbers 213 rfl) rfl
    · refine ms_ite (fun q15 => ?_) (fun q15 => ?_)
      · refine ms_swIn (pc := 1) S (m_dec e11_numbers 1 rfl) 2 q15 (by decide) (by decide) rfl rfl ?_
        refine ms_aload_n (pc := 103) S 0 rfl rfl (m_dec e11_numbers 24 rfl) ?_
        refine ms_ldcS (pc := 104) S 13 rfl (m_dec e11_numbers 25 rfl) ?_
        refine ms_grd fun g16 => ?_
        refine ms_callVv (pc := 106) S hF (vals := [m_r (-15)]) (st := []) (hc := vw_11) (hci := by decide) (hcy := rfl) (ht := g16) (hC := (k11_word _ _ v0 (-15) h)) (hM := lm_X11_418) (hfr := (Nat.le_trans (by decide) hFn)) (hstk := rfl) (hcat := Nat.le_of_ble_eq_true rfl) (hd := (m_dec e11_numbers 26 rfl)) (k1 := fun h17 => ?_)
        refine ms_aload_n (pc := 109) S 0 rfl rfl (m_dec e11_numbers 27 rfl) ?_
        refine ms_grd fun g19 => ?_
        refine ms_getf (pc := 110) S lf_X11_98 rfl (m_dec e11_numbers 28 rfl) g19 ?_
        refine ms_bipush (pc := 113) S (m_dec e11_numbers 29 rfl) rfl ?_
        refine ms_grd fun g20 => ?_
        refine ms_aald (pc := 115) S 29 (by decide) (fun _ => rfl) rfl g20 (m_dec e11_numbers 30 rfl) ?_
        refine ms_iload_n (pc := 116) S 1 rfl rfl (m_dec e11_numbers 31 rfl) ?_
        refine ms_aload_n (pc := 117) S 0 rfl rfl (m_dec e11_numbers 32 rfl) ?_
        refine ms_iconst (pc := 118) S (m_dec e11_numbers 33 rfl) ?_
        refine ms_sipush (pc := 119) S (m_dec e11_numbers 34 rfl) rfl ?_
        refine ms_callVi (pc := 122) S hF (vals := [m_i 0, m_i 1500]) (st := [m_i v1, m_r (m_g h17 (m_g h17 v0 38) 8)]) (hc := vw_11) (hci := by decide) (hcy := rfl) (ht := g19) (hC := (k11_number _ _ v0 0 1500 h17)) (hM := lm_X11_425) (hfr := (Nat.le_trans (by decide) hFn)) (hstk := rfl) (hcat := Nat.le_of_ble_eq_true rfl) (hd := (m_dec e11_numbers 35 rfl)) (k1 := fun r22 h21 => ?_)
        refine ms_grd fun g23 => ?_
        refine ms_iast (pc := 125) S g23 (m_dec e11_numbers 36 rfl) (fun h24 => ?_)
        refine ms_aload_n (pc := 126) S 0 rfl rfl (m_dec e11_numbers 37 rfl) ?_
        refine ms_ldcS (pc := 127) S 14 rfl (m_dec e11_numbers 38 rfl) ?_
        refine ms_grd fun g25 => ?_
        refine ms_callVv (pc := 129) S hF (vals := [m_r (-16)]) (st := []) (hc := vw_11) (hci := by decide) (hcy := rfl) (ht := g25) (hC := (k11_word _ _ v0 (-16) h24)) (hM := lm_X11_418) (hfr := (Nat.le_trans (by decide) hFn)) (hstk := rfl) (hcat := Nat.le_of_ble_eq_true rfl) (hd := (m_dec e11_numbers 39 rfl)) (k1 := fun h26 => ?_)
        refine ms_aload_n (pc := 132) S 0 rfl rfl (m_dec e11_numbers 40 rfl) ?_
        refine ms_grd fun g28 => ?_
        refine ms_getf (pc := 133) S lf_X11_101 rfl (m_dec e11_numbers 41 rfl) g28 ?_
        refine ms_bipush (pc := 136) S (m_dec e11_numbers 42 rfl) rfl ?_
        refine ms_grd fun g29 => ?_
        refine ms_aald (pc := 138) S 29 (by decide) (fun _ => rfl) rfl g29 (m_dec e11_numbers 43 rfl) ?_
        refine ms_iload_n (pc := 139) S 1 rfl rfl (m_dec e11_numbers 44 rfl) ?_
        refine ms_aload_n (pc := 140) S 0 rfl rfl (m_dec e11_numbers 45 rfl) ?_
        refine ms_iconst (pc := 141) S (m_dec e11_numbers 46 rfl) ?_
        refine ms_sipush (pc := 142) S (m_dec e11_numbers 47 rfl) rfl ?_
        refine ms_callVi (pc := 145) S hF (vals := [m_i 0, m_i 1500]) (st := [m_i v1, m_r (m_g h26 (m_g h26 v0 39) 8)]) (hc := vw_11) (hci := by decide) (hcy := rfl) (ht := g28) (hC := (k11_number _ _ v0 0 1500 h26)) (hM := lm_X11_425) (hfr := (Nat.le_trans (by decide) hFn)) (hstk := rfl) (hcat := Nat.le_of_ble_eq_true rfl) (hd := (m_dec e11_numbers 48 rfl)) (k1 := fun r31 h30 => ?_)
        refine ms_grd fun g32 => ?_
        refine ms_iast (pc := 148) S g32 (m_dec e11_numbers 49 rfl) (fun h33 => ?_)
        refine ms_goto (pc := 149) S (m_dec e11_numbers 50 rfl) rfl ?_
        exact ms_ret (pc := 440) E (m_dec e11_numbers 213 rfl) rfl
      · refine ms_ite (fun q34 => ?_) (fun q34 => ?_)
        · refine ms_swIn (pc := 1) S (m_dec e11_numbers 1 rfl) 3 q34 (by decide) (by decide) rfl rfl ?_
          exact ms_ret (pc := 440) E (m_dec e11_numbers 213 rfl) rfl
        · refine ms_ite (fun q35 => ?_) (fun q35 => ?_)
          · refine ms_swIn (pc := 1) S (m_dec e11_numbers 1 rfl) 4 q35 (by decide) (by decide) rfl rfl ?_
            refine ms_aload_n (pc := 152) S 0 rfl rfl (m_dec e11_numbers 51 rfl) ?_
            refine ms_grd fun g36 => ?_
            refine ms_getf (pc := 153) S lf_X11_98 rfl (m_dec e11_numbers 52 rfl) g36 ?_
            refine ms_bipush (pc := 156) S (m_dec e11_numbers 53 rfl) rfl ?_
            refine ms_grd fun g37 => ?_
            refine ms_aald (pc := 158) S 29 (by decide) (fun _ => rfl) rfl g37 (m_dec e11_numbers 54 rfl) ?_
            refine ms_iload_n (pc := 159) S 1 rfl rfl (m_dec e11_numbers 55 rfl) ?_
            refine ms_aload_n (pc := 160) S 0 rfl rfl (m_dec e11_numbers 56 rfl) ?_
            refine ms_iconst (pc := 161) S (m_dec e11_numbers 57 rfl) ?_
            refine ms_bipush (pc := 162) S (m_dec e11_numbers 58 rfl) rfl ?_
            refine ms_callVi (pc := 164) S hF (vals := [m_i 1, m_i 8]) (st := [m_i v1, m_r (m_g h (m_g h v0 38) 8)]) (hc := vw_11) (hci := by decide) (hcy := rfl) (ht := g36) (hC := (k11_number _ _ v0 1 8 h)) (hM := lm_X11_425) (hfr := (Nat.le_trans (by decide) hFn)) (hstk := rfl) (hcat := Nat.le_of_ble_eq_true rfl) (hd := (m_dec e11_numbers 59 rfl)) (k1 := fun r39 h38 => ?_)
            refine ms_grd fun g40 => ?_
            refine ms_iast (pc := 167) S g40 (m_dec e11_numbers 60 rfl) (fun h41 => ?_)
            refine ms_aload_n (pc := 168) S 0 rfl rfl (m_dec e11_numbers 61 rfl) ?_
            refine ms_bipush (pc := 169) S (m_dec e11_numbers 62 rfl) rfl ?_
            refine ms_grd fun g42 => ?_
            refine ms_callVv (pc := 171) S hF (vals := [m_i 47]) (st := []) (hc := vw_11) (hci := by decide) (hcy := rfl) (ht := g42) (hC := (k11_sign _ _ v0 47 h41)) (hM := lm_X11_428) (hfr := (Nat.le_trans (by decide) hFn)) (hstk := rfl) (hcat := Nat.le_of_ble_eq_true rfl) (hd := (m_dec e11_numbers 63 rfl)) (k1 := fun h43 => ?_)
            refine ms_aload_n (pc := 174) S 0 rfl rfl (m_dec e11_numbers 64 rfl) ?_
            refine ms_grd fun g45 => ?_
            refine ms_getf (pc := 175) S lf_X11_101 rfl (m_dec e11_numbers 65 rfl) g45 ?_
            refine ms_bipush (pc := 178) S (m_dec e11_numbers 66 rfl) rfl ?_
            refine ms_grd fun g46 => ?_
            refine ms_aald (pc := 180) S 29 (by decide) (fun _ => rfl) rfl g46 (m_dec e11_numbers 67 rfl) ?_
            refine ms_iload_n (pc := 181) S 1 rfl rfl (m_dec e11_numbers 68 rfl) ?_
            refine ms_aload_n (pc := 182) S 0 rfl rfl (m_dec e11_numbers 69 rfl) ?_
            refine ms_iconst (pc := 183) S (m_dec e11_numbers 70 rfl) ?_
            refine ms_bipush (pc := 184) S (m_dec e11_numbers 71 rfl) rfl ?_
            refine ms_callVi (pc := 186) S hF (vals := [m_i 1, m_i 8]) (st := [m_i v1, m_r (m_g h43 (m_g h43 v0 39) 8)]) (hc := vw_11) (hci := by decide) (hcy := rfl) (ht := g45) (hC := (k11_number _ _ v0 1 8 h43)) (hM := lm_X11_425) (hfr := (Nat.le_trans (by decide) hFn)) (hstk := rfl) (hcat := Nat.le_of_ble_eq_true rfl) (hd := (m_dec e11_numbers 72 rfl)) (k1 := fun r48 h47 => ?_)
            refine ms_grd fun g49 => ?_
            refine ms_iast (pc := 189) S g49 (m_dec e11_numbers 73 rfl) (fun h50 => ?_)
            refine ms_goto (pc := 190) S (m_dec e11_numbers 74 rfl) rfl ?_
            exact ms_ret (pc := 440) E (m_dec e11_numbers 213 rfl) rfl
          · refine ms_ite (fun q51 => ?_) (fun q51 => ?_)
            · refine ms_swIn (pc := 1) S (m_dec e11_numbers 1 rfl) 5 q51 (by decide) (by decide) rfl rfl ?_
              refine ms_aload_n (pc := 193) S 0 rfl rfl (m_dec e11_numbers 75 rfl) ?_
              refine ms_ldcS (pc := 194) S 15 rfl (m_dec e11_numbers 76 rfl) ?_
              refine ms_grd fun g52 => ?_
              refine ms_callVv (pc := 196) S hF (vals := [m_r (-17)]) (st := []) (hc := vw_11) (hci := by decide) (hcy := rfl) (ht := g52) (hC := (k11_word _ _ v0 (-17) h)) (hM := lm_X11_418) (hfr := (Nat.le_trans (by decide) hFn)) (hstk := rfl) (hcat := Nat.le_of_ble_eq_true rfl) (hd := (m_dec e11_numbers 77 rfl)) (k1 := fun h53 => ?_)
              refine ms_aload_n (pc := 199) S 0 rfl rfl (m_dec e11_numbers 78 rfl) ?_
              refine ms_grd fun g55 => ?_
              refine ms_getf (pc := 200) S lf_X11_98 rfl (m_dec e11_numbers 79 rfl) g55 ?_
              refine ms_bipush (pc := 203) S (m_dec e11_numbers 80 rfl) rfl ?_
              refine ms_grd fun g56 => ?_
              refine ms_aald (pc := 205) S 29 (by decide) (fun _ => rfl) rfl g56 (m_dec e11_numbers 81 rfl) ?_
              refine ms_iload_n (pc := 206) S 1 rfl rfl (m_dec e11_numbers 82 rfl) ?_
              refine ms_aload_n (pc := 207) S 0 rfl rfl (m_dec e11_numbers 83 rfl) ?_
              refine ms_iconst (pc := 208) S (m_dec e11_numbers 84 rfl) ?_
              refine ms_bipush (pc := 209) S (m_dec e11_numbers 85 rfl) rfl ?_
              refine ms_callVi (pc := 211) S hF (vals := [m_i 0, m_i 40]) (st := [m_i v1, m_r (m_g h53 (m_g h53 v0 38) 8)]) (hc := vw_11) (hci := by decide) (hcy := rfl) (ht := g55) (hC := (k11_number _ _ v0 0 40 h53)) (hM := lm_X11_425) (hfr := (Nat.le_trans (by decide) hFn)) (hstk := rfl) (hcat := Nat.le_of_ble_eq_true rfl) (hd := (m_dec e11_numbers 86 rfl)) (k1 := fun r58 h57 => ?_)
              refine ms_grd fun g59 => ?_
              refine ms_iast (pc := 214) S g59 (m_dec e11_numbers 87 rfl) (fun h60 => ?_)
              refine ms_goto (pc := 215) S (m_dec e11_numbers 88 rfl) rfl ?_
              exact ms_ret (pc := 440) E (m_dec e11_numbers 213 rfl) rfl
            · refine ms_ite (fun q61 => ?_) (fun q61 => ?_)
              · refine ms_swIn (pc := 1) S (m_dec e11_numbers 1 rfl) 6 q61 (by decide) (by decide) rfl rfl ?_
                refine ms_aload_n (pc := 218) S 0 rfl rfl (m_dec e11_numbers 89 rfl) ?_
                refine ms_ldcS (pc := 219) S 16 rfl (m_dec e11_numbers 90 rfl) ?_
                refine ms_grd fun g62 => ?_
                refine ms_callVv (pc := 221) S hF (vals := [m_r (-18)]) (st := []) (hc := vw_11) (hci := by decide) (hcy := rfl) (ht := g62) (hC := (k11_word _ _ v0 (-18) h)) (hM := lm_X11_418) (hfr := (Nat.le_trans (by decide) hFn)) (hstk := rfl) (hcat := Nat.le_of_ble_eq_true rfl) (hd := (m_dec e11_numbers 91 rfl)) (k1 := fun h63 => ?_)
                refine ms_aload_n (pc := 224) S 0 rfl rfl (m_dec e11_numbers 92 rfl) ?_
                refine ms_grd fun g65 => ?_
                refine ms_getf (pc := 225) S lf_X11_98 rfl (m_dec e11_numbers 93 rfl) g65 ?_
                refine ms_bipush (pc := 228) S (m_dec e11_numbers 94 rfl) rfl ?_
                refine ms_grd fun g66 => ?_
                refine ms_aald (pc := 230) S 29 (by decide) (fun _ => rfl) rfl g66 (m_dec e11_numbers 95 rfl) ?_
                refine ms_iload_n (pc := 231) S 1 rfl rfl (m_dec e11_numbers 96 rfl) ?_
                refine ms_aload_n (pc := 232) S 0 rfl rfl (m_dec e11_numbers 97 rfl) ?_
                refine ms_iconst (pc := 233) S (m_dec e11_numbers 98 rfl) ?_
                refine ms_sipush (pc := 234) S (m_dec e11_numbers 99 rfl) rfl ?_
                refine ms_callVi (pc := 237) S hF (vals := [m_i 0, m_i 1500]) (st := [m_i v1, m_r (m_g h63 (m_g h63 v0 38) 8)]) (hc := vw_11) (hci := by decide) (hcy := rfl) (ht := g65) (hC := (k11_number _ _ v0 0 1500 h63)) (hM := lm_X11_425) (hfr := (Nat.le_trans (by decide) hFn)) (hstk := rfl) (hcat := Nat.le_of_ble_eq_true rfl) (hd := (m_dec e11_numbers 100 rfl)) (k1 := fun r68 h67 => ?_)
                refine ms_grd fun g69 => ?_
                refine ms_iast (pc := 240) S g69 (m_dec e11_numbers 101 rfl) (fun h70 => ?_)
                refine ms_goto (pc := 241) S (m_dec e11_numbers 102 rfl) rfl ?_
                exact ms_ret (pc := 440) E (m_dec e11_numbers 213 rfl) rfl
              · refine ms_ite (fun q71 => ?_) (fun q71 => ?_)
                · refine ms_swIn (pc := 1) S (m_dec e11_numbers 1 rfl) 7 q71 (by decide) (by decide) rfl rfl ?_
                  refine ms_aload_n (pc := 244) S 0 rfl rfl (m_dec e11_numbers 103 rfl) ?_
                  refine ms_ldcS (pc := 245) S 17 rfl (m_dec e11_numbers 104 rfl) ?_
                  refine ms_grd fun g72 => ?_
                  refine ms_callVv (pc := 247) S hF (vals := [m_r (-19)]) (st := []) (hc := vw_11) (hci := by decide) (hcy := rfl) (ht := g72) (hC := (k11_word _ _ v0 (-19) h)) (hM := lm_X11_418) (hfr := (Nat.le_trans (by decide) hFn)) (hstk := rfl) (hcat := Nat.le_of_ble_eq_true rfl) (hd := (m_dec e11_numbers 105 rfl)) (k1 := fun h73 => ?_)
                  refine ms_aload_n (pc := 250) S 0 rfl rfl (m_dec e11_numbers 106 rfl) ?_
                  refine ms_grd fun g75 => ?_
                  refine ms_getf (pc := 251) S lf_X11_98 rfl (m_dec e11_numbers 107 rfl) g75 ?_
                  refine ms_bipush (pc := 254) S (m_dec e11_numbers 108 rfl) rfl ?_
                  refine ms_grd fun g76 => ?_
                  refine ms_aald (pc := 256) S 29 (by decide) (fun _ => rfl) rfl g76 (m_dec e11_numbers 109 rfl) ?_
                  refine ms_iload_n (pc := 257) S 1 rfl rfl (m_dec e11_numbers 110 rfl) ?_
                  refine ms_aload_n (pc := 258) S 0 rfl rfl (m_dec e11_numbers 111 rfl) ?_
                  refine ms_iconst (pc := 259) S (m_dec e11_numbers 112 rfl) ?_
                  refine ms_sipush (pc := 260) S (m_dec e11_numbers 113 rfl) rfl ?_
                  refine ms_callVi (pc := 263) S hF (vals := [m_i 1, m_i 500]) (st := [m_i v1, m_r (m_g h73 (m_g h73 v0 38) 8)]) (hc := vw_11) (hci := by decide) (hcy := rfl) (ht := g75) (hC := (k11_number _ _ v0 1 500 h73)) (hM := lm_X11_425) (hfr := (Nat.le_trans (by decide) hFn)) (hstk := rfl) (hcat := Nat.le_of_ble_eq_true rfl) (hd := (m_dec e11_numbers 114 rfl)) (k1 := fun r78 h77 => ?_)
                  refine ms_grd fun g79 => ?_
                  refine ms_iast (pc := 266) S g79 (m_dec e11_numbers 115 rfl) (fun h80 => ?_)
                  refine ms_aload_n (pc := 267) S 0 rfl rfl (m_dec e11_numbers 116 rfl) ?_
                  refine ms_ldcS (pc := 268) S 18 rfl (m_dec e11_numbers 117 rfl) ?_
                  refine ms_grd fun g81 => ?_
                  refine ms_callVv (pc := 270) S hF (vals := [m_r (-20)]) (st := []) (hc := vw_11) (hci := by decide) (hcy := rfl) (ht := g81) (hC := (k11_word _ _ v0 (-20) h80)) (hM := lm_X11_418) (hfr := (Nat.le_trans (by decide) hFn)) (hstk := rfl) (hcat := Nat.le_of_ble_eq_true rfl) (hd := (m_dec e11_numbers 118 rfl)) (k1 := fun h82 => ?_)
                  refine ms_aload_n (pc := 273) S 0 rfl rfl (m_dec e11_numbers 119 rfl) ?_
                  refine ms_grd fun g84 => ?_
                  refine ms_getf (pc := 274) S lf_X11_101 rfl (m_dec e11_numbers 120 rfl) g84 ?_
                  refine ms_bipush (pc := 277) S (m_dec e11_numbers 121 rfl) rfl ?_
                  refine ms_grd fun g85 => ?_
                  refine ms_aald (pc := 279) S 29 (by decide) (fun _ => rfl) rfl g85 (m_dec e11_numbers 122 rfl) ?_
                  refine ms_iload_n (pc := 280) S 1 rfl rfl (m_dec e11_numbers 123 rfl) ?_
                  refine ms_aload_n (pc := 281) S 0 rfl rfl (m_dec e11_numbers 124 rfl) ?_
                  refine ms_iconst (pc := 282) S (m_dec e11_numbers 125 rfl) ?_
                  refine ms_sipush (pc := 283) S (m_dec e11_numbers 126 rfl) rfl ?_
                  refine ms_callVi (pc := 286) S hF (vals := [m_i 0, m_i 255]) (st := [m_i v1, m_r (m_g h82 (m_g h82 v0 39) 8)]) (hc := vw_11) (hci := by decide) (hcy := rfl) (ht := g84) (hC := (k11_number _ _ v0 0 255 h82)) (hM := lm_X11_425) (hfr := (Nat.le_trans (by decide) hFn)) (hstk := rfl) (hcat := Nat.le_of_ble_eq_true rfl) (hd := (m_dec e11_numbers 127 rfl)) (k1 := fun r87 h86 => ?_)
                  refine ms_grd fun g88 => ?_
                  refine ms_iast (pc := 289) S g88 (m_dec e11_numbers 128 rfl) (fun h89 => ?_)
                  refine ms_goto (pc := 290) S (m_dec e11_numbers 129 rfl) rfl ?_
                  exact ms_ret (pc := 440) E (m_dec e11_numbers 213 rfl) rfl
                · refine ms_ite (fun q90 => ?_) (fun q90 => ?_)
                  · refine ms_swIn (pc := 1) S (m_dec e11_numbers 1 rfl) 8 q90 (by decide) (by decide) rfl rfl ?_
                    refine ms_aload_n (pc := 293) S 0 rfl rfl (m_dec e11_numbers 130 rfl) ?_
                    refine ms_ldcS (pc := 294) S 19 rfl (m_dec e11_numbers 131 rfl) ?_
                    refine ms_grd fun g91 => ?_
                    refine ms_callVv (pc := 296) S hF (vals := [m_r (-21)]) (st := []) (hc := vw_11) (hci := by decide) (hcy := rfl) (ht := g91) (hC := (k11_word _ _ v0 (-21) h)) (hM := lm_X11_418) (hfr := (Nat.le_trans (by decide) hFn)) (hstk := rfl) (hcat := Nat.le_of_ble_eq_true rfl) (hd := (m_dec e11_numbers 132 rfl)) (k1 := fun h92 => ?_)
                    refine ms_aload_n (pc := 299) S 0 rfl rfl (m_dec e11_numbers 133 rfl) ?_
                    refine ms_grd fun g94 => ?_
                    refine ms_getf (pc := 300) S lf_X11_98 rfl (m_dec e11_numbers 134 rfl) g94 ?_
                    refine ms_bipush (pc := 303) S (m_dec e11_numbers 135 rfl) rfl ?_
                    refine ms_grd fun g95 => ?_
                    refine ms_aald (pc := 305) S 29 (by decide) (fun _ => rfl) rfl g95 (m_dec e11_numbers 136 rfl) ?_
                    refine ms_iload_n (pc := 306) S 1 rfl rfl (m_dec e11_numbers 137 rfl) ?_
                    refine ms_aload_n (pc := 307) S 0 rfl rfl (m_dec e11_numbers 138 rfl) ?_
                    refine ms_iconst (pc := 308) S (m_dec e11_numbers 139 rfl) ?_
                    refine ms_iconst (pc := 309) S (m_dec e11_numbers 140 rfl) ?_
                    refine ms_callVi (pc := 310) S hF (vals := [m_i 0, m_i 3]) (st := [m_i v1, m_r (m_g h92 (m_g h92 v0 38) 8)]) (hc := vw_11) (hci := by decide) (hcy := rfl) (ht := g94) (hC := (k11_number _ _ v0 0 3 h92)) (hM := lm_X11_425) (hfr := (Nat.le_trans (by decide) hFn)) (hstk := rfl) (hcat := Nat.le_of_ble_eq_true rfl) (hd := (m_dec e11_numbers 141 rfl)) (k1 := fun r97 h96 => ?_)
                    refine ms_grd fun g98 => ?_
                    refine ms_iast (pc := 313) S g98 (m_dec e11_numbers 142 rfl) (fun h99 => ?_)
                    refine ms_goto (pc := 314) S (m_dec e11_numbers 143 rfl) rfl ?_
                    exact ms_ret (pc := 440) E (m_dec e11_numbers 213 rfl) rfl
                  · refine ms_ite (fun q100 => ?_) (fun q100 => ?_)
                    · refine ms_swIn (pc := 1) S (m_dec e11_numbers 1 rfl) 9 q100 (by decide) (by decide) rfl rfl ?_
                      refine ms_aload_n (pc := 317) S 0 rfl rfl (m_dec e11_numbers 144 rfl) ?_
                      refine ms_grd fun g101 => ?_
                      refine ms_getf (pc := 318) S lf_X11_98 rfl (m_dec e11_numbers 145 rfl) g101 ?_
                      refine ms_bipush (pc := 321) S (m_dec e11_numbers 146 rfl) rfl ?_
                      refine ms_grd fun g102 => ?_
                      refine ms_aald (pc := 323) S 29 (by decide) (fun _ => rfl) rfl g102 (m_dec e11_numbers 147 rfl) ?_
                      refine ms_iload_n (pc := 324) S 1 rfl rfl (m_dec e11_numbers 148 rfl) ?_
                      refine ms_aload_n (pc := 325) S 0 rfl rfl (m_dec e11_numbers 149 rfl) ?_
                      refine ms_iconst (pc := 326) S (m_dec e11_numbers 150 rfl) ?_
                      refine ms_sipush (pc := 327) S (m_dec e11_numbers 151 rfl) rfl ?_
                      refine ms_callVi (pc := 330) S hF (vals := [m_i 0, m_i 128]) (st := [m_i v1, m_r (m_g h (m_g h v0 38) 8)]) (hc := vw_11) (hci := by decide) (hcy := rfl) (ht := g101) (hC := (k11_number _ _ v0 0 128 h)) (hM := lm_X11_425) (hfr := (Nat.le_trans (by decide) hFn)) (hstk := rfl) (hcat := Nat.le_of_ble_eq_true rfl) (hd := (m_dec e11_numbers 152 rfl)) (k1 := fun r104 h103 => ?_)
                      refine ms_grd fun g105 => ?_
                      refine ms_iast (pc := 333) S g105 (m_dec e11_numbers 153 rfl) (fun h106 => ?_)
                      refine ms_aload_n (pc := 334) S 0 rfl rfl (m_dec e11_numbers 154 rfl) ?_
                      refine ms_grd fun g107 => ?_
                      refine ms_getf (pc := 335) S lf_X11_101 rfl (m_dec e11_numbers 155 rfl) g107 ?_
                      refine ms_bipush (pc := 338) S (m_dec e11_numbers 156 rfl) rfl ?_
                      refine ms_grd fun g108 => ?_
                      refine ms_aald (pc := 340) S 29 (by decide) (fun _ => rfl) rfl g108 (m_dec e11_numbers 157 rfl) ?_
                      refine ms_iload_n (pc := 341) S 1 rfl rfl (m_dec e11_numbers 158 rfl) ?_
                      refine ms_aload_n (pc := 342) S 0 rfl rfl (m_dec e11_numbers 159 rfl) ?_
                      refine ms_iconst (pc := 343) S (m_dec e11_numbers 160 rfl) ?_
                      refine ms_sipush (pc := 344) S (m_dec e11_numbers 161 rfl) rfl ?_
                      refine ms_callVi (pc := 347) S hF (vals := [m_i 0, m_i 128]) (st := [m_i v1, m_r (m_g h106 (m_g h106 v0 39) 8)]) (hc := vw_11) (hci := by decide) (hcy := rfl) (ht := g107) (hC := (k11_number _ _ v0 0 128 h106)) (hM := lm_X11_425) (hfr := (Nat.le_trans (by decide) hFn)) (hstk := rfl) (hcat := Nat.le_of_ble_eq_true rfl) (hd := (m_dec e11_numbers 162 rfl)) (k1 := fun r110 h109 => ?_)
                      refine ms_grd fun g111 => ?_
                      refine ms_iast (pc := 350) S g111 (m_dec e11_numbers 163 rfl) (fun h112 => ?_)
                      refine ms_aload_n (pc := 351) S 0 rfl rfl (m_dec e11_numbers 164 rfl) ?_
                      refine ms_grd fun g113 => ?_
                      refine ms_getf (pc := 352) S lf_X11_104 rfl (m_dec e11_numbers 165 rfl) g113 ?_
                      refine ms_bipush (pc := 355) S (m_dec e11_numbers 166 rfl) rfl ?_
                      refine ms_grd fun g114 => ?_
                      refine ms_aald (pc := 357) S 29 (by decide) (fun _ => rfl) rfl g114 (m_dec e11_numbers 167 rfl) ?_
                      refine ms_iload_n (pc := 358) S 1 rfl rfl (m_dec e11_numbers 168 rfl) ?_
                      refine ms_aload_n (pc := 359) S 0 rfl rfl (m_dec e11_numbers 169 rfl) ?_
                      refine ms_iconst (pc := 360) S (m_dec e11_numbers 170 rfl) ?_
                      refine ms_sipush (pc := 361) S (m_dec e11_numbers 171 rfl) rfl ?_
                      refine ms_callVi (pc := 364) S hF (vals := [m_i 0, m_i 128]) (st := [m_i v1, m_r (m_g h112 (m_g h112 v0 40) 8)]) (hc := vw_11) (hci := by decide) (hcy := rfl) (ht := g113) (hC := (k11_number _ _ v0 0 128 h112)) (hM := lm_X11_425) (hfr := (Nat.le_trans (by decide) hFn)) (hstk := rfl) (hcat := Nat.le_of_ble_eq_true rfl) (hd := (m_dec e11_numbers 172 rfl)) (k1 := fun r116 h115 => ?_)
                      refine ms_grd fun g117 => ?_
                      refine ms_iast (pc := 367) S g117 (m_dec e11_numbers 173 rfl) (fun h118 => ?_)
                      refine ms_goto (pc := 368) S (m_dec e11_numbers 174 rfl) rfl ?_
                      exact ms_ret (pc := 440) E (m_dec e11_numbers 213 rfl) rfl
                    · refine ms_ite (fun q119 => ?_) (fun q119 => ?_)
                      · refine ms_swIn (pc := 1) S (m_dec e11_numbers 1 rfl) 10 q119 (by decide) (by decide) rfl rfl ?_
                        refine ms_aload_n (pc := 371) S 0 rfl rfl (m_dec e11_numbers 175 rfl) ?_
                        refine ms_ldcS (pc := 372) S 20 rfl (m_dec e11_numbers 176 rfl) ?_
                        refine ms_grd fun g120 => ?_
                        refine ms_callVv (pc := 374) S hF (vals := [m_r (-22)]) (st := []) (hc := vw_11) (hci := by decide) (hcy := rfl) (ht := g120) (hC := (k11_word _ _ v0 (-22) h)) (hM := lm_X11_418) (hfr := (Nat.le_trans (by decide) hFn)) (hstk := rfl) (hcat := Nat.le_of_ble_eq_true rfl) (hd := (m_dec e11_numbers 177 rfl)) (k1 := fun h121 => ?_)
                        refine ms_aload_n (pc := 377) S 0 rfl rfl (m_dec e11_numbers 178 rfl) ?_
                        refine ms_grd fun g123 => ?_
                        refine ms_getf (pc := 378) S lf_X11_98 rfl (m_dec e11_numbers 179 rfl) g123 ?_
                        refine ms_bipush (pc := 381) S (m_dec e11_numbers 180 rfl) rfl ?_
                        refine ms_grd fun g124 => ?_
                        refine ms_aald (pc := 383) S 29 (by decide) (fun _ => rfl) rfl g124 (m_dec e11_numbers 181 rfl) ?_
                        refine ms_iload_n (pc := 384) S 1 rfl rfl (m_dec e11_numbers 182 rfl) ?_
                        refine ms_aload_n (pc := 385) S 0 rfl rfl (m_dec e11_numbers 183 rfl) ?_
                        refine ms_iconst (pc := 386) S (m_dec e11_numbers 184 rfl) ?_
                        refine ms_sipush (pc := 387) S (m_dec e11_numbers 185 rfl) rfl ?_
                        refine ms_callVi (pc := 390) S hF (vals := [m_i 0, m_i 1500]) (st := [m_i v1, m_r (m_g h121 (m_g h121 v0 38) 8)]) (hc := vw_11) (hci := by decide) (hcy := rfl) (ht := g123) (hC := (k11_number _ _ v0 0 1500 h121)) (hM := lm_X11_425) (hfr := (Nat.le_trans (by decide) hFn)) (hstk := rfl) (hcat := Nat.le_of_ble_eq_true rfl) (hd := (m_dec e11_numbers 186 rfl)) (k1 := fun r126 h125 => ?_)
                        refine ms_grd fun g127 => ?_
                        refine ms_iast (pc := 393) S g127 (m_dec e11_numbers 187 rfl) (fun h128 => ?_)
                        refine ms_aload_n (pc := 394) S 0 rfl rfl (m_dec e11_numbers 188 rfl) ?_
                        refine ms_ldcS (pc := 395) S 21 rfl (m_dec e11_numbers 189 rfl) ?_
                        refine ms_grd fun g129 => ?_
                        refine ms_callVv (pc := 397) S hF (vals := [m_r (-23)]) (st := []) (hc := vw_11) (hci := by decide) (hcy := rfl) (ht := g129) (hC := (k11_word _ _ v0 (-23) h128)) (hM := lm_X11_418) (hfr := (Nat.le_trans (by decide) hFn)) (hstk := rfl) (hcat := Nat.le_of_ble_eq_true rfl) (hd := (m_dec e11_numbers 190 rfl)) (k1 := fun h130 => ?_)
                        refine ms_aload_n (pc := 400) S 0 rfl rfl (m_dec e11_numbers 191 rfl) ?_
                        refine ms_grd fun g132 => ?_
                        refine ms_getf (pc := 401) S lf_X11_101 rfl (m_dec e11_numbers 192 rfl) g132 ?_
                        refine ms_bipush (pc := 404) S (m_dec e11_numbers 193 rfl) rfl ?_
                        refine ms_grd fun g133 => ?_
                        refine ms_aald (pc := 406) S 29 (by decide) (fun _ => rfl) rfl g133 (m_dec e11_numbers 194 rfl) ?_
                        refine ms_iload_n (pc := 407) S 1 rfl rfl (m_dec e11_numbers 195 rfl) ?_
                        refine ms_aload_n (pc := 408) S 0 rfl rfl (m_dec e11_numbers 196 rfl) ?_
                        refine ms_iconst (pc := 409) S (m_dec e11_numbers 197 rfl) ?_
                        refine ms_sipush (pc := 410) S (m_dec e11_numbers 198 rfl) rfl ?_
                        refine ms_callVi (pc := 413) S hF (vals := [m_i 0, m_i 1500]) (st := [m_i v1, m_r (m_g h130 (m_g h130 v0 39) 8)]) (hc := vw_11) (hci := by decide) (hcy := rfl) (ht := g132) (hC := (k11_number _ _ v0 0 1500 h130)) (hM := lm_X11_425) (hfr := (Nat.le_trans (by decide) hFn)) (hstk := rfl) (hcat := Nat.le_of_ble_eq_true rfl) (hd := (m_dec e11_numbers 199 rfl)) (k1 := fun r135 h134 => ?_)
                        refine ms_grd fun g136 => ?_
                        refine ms_iast (pc := 416) S g136 (m_dec e11_numbers 200 rfl) (fun h137 => ?_)
                        refine ms_goto (pc := 417) S (m_dec e11_numbers 201 rfl) rfl ?_
                        exact ms_ret (pc := 440) E (m_dec e11_numbers 213 rfl) rfl
                      · refine ms_ite (fun q138 => ?_) (fun q138 => ?_)
                        · refine ms_swIn (pc := 1) S (m_dec e11_numbers 1 rfl) 11 q138 (by decide) (by decide) rfl rfl ?_
                          refine ms_aload_n (pc := 420) S 0 rfl rfl (m_dec e11_numbers 202 rfl) ?_
                          refine ms_grd fun g139 => ?_
                          refine ms_getf (pc := 421) S lf_X11_98 rfl (m_dec e11_numbers 203 rfl) g139 ?_
                          refine ms_bipush (pc := 424) S (m_dec e11_numbers 204 rfl) rfl ?_
                          refine ms_grd fun g140 => ?_
                          refine ms_aald (pc := 426) S 29 (by decide) (fun _ => rfl) rfl g140 (m_dec e11_numbers 205 rfl) ?_
                          refine ms_iload_n (pc := 427) S 1 rfl rfl (m_dec e11_numbers 206 rfl) ?_
                          refine ms_aload_n (pc := 428) S 0 rfl rfl (m_dec e11_numbers 207 rfl) ?_
                          refine ms_iconst (pc := 429) S (m_dec e11_numbers 208 rfl) ?_
                          refine ms_sipush (pc := 430) S (m_dec e11_numbers 209 rfl) rfl ?_
                          refine ms_callVi (pc := 433) S hF (vals := [m_i 0, m_i 128]) (st := [m_i v1, m_r (m_g h (m_g h v0 38) 8)]) (hc := vw_11) (hci := by decide) (hcy := rfl) (ht := g139) (hC := (k11_number _ _ v0 0 128 h)) (hM := lm_X11_425) (hfr := (Nat.le_trans (by decide) hFn)) (hstk := rfl) (hcat := Nat.le_of_ble_eq_true rfl) (hd := (m_dec e11_numbers 210 rfl)) (k1 := fun r142 h141 => ?_)
                          refine ms_grd fun g143 => ?_
                          refine ms_iast (pc := 436) S g143 (m_dec e11_numbers 211 rfl) (fun h144 => ?_)
                          refine ms_goto (pc := 437) S (m_dec e11_numbers 212 rfl) rfl ?_
                          exact ms_ret (pc := 440) E (m_dec e11_numbers 213 rfl) rfl
                        · refine ms_swOut (pc := 1) (a := v2) S (m_dec e11_numbers 1 rfl) (by omega) rfl ?_
                          exact ms_ret (pc := 440) E (m_dec e11_numbers 213 rfl) rfl
theorem k11_numbers (l : Launch) (d : m_D) (v0 v1 v2 : Int) (h : m_H) : m_Con l d yX11_numbers cX11_numbers 3 none 8 (fun _ => []) [m_r v0, m_i v1, m_i v2] h (t11_numbers v0 v1 v2 h) :=
  m_con2 (by decide +kernel) (Nat.le_of_ble_eq_true rfl) (fun Y hN hRm hr hI S hfin => s11_numbers S (m_end_v S hr hfin) hRm (Nat.le_refl _) hN v0 v1 v2 h)
set_option maxRecDepth 100000 in
theorem e11_makes : ∀ q ∈ ([(0, .aload_n 0, 1), (1, .getfield 84, 3), (4, .bipush 8, 2), (6, .iaload, 1), (7, .istore_n 1, 1), (8, .aload_n 0, 1), (9, .getfield 375, 3), (12, .istore_n 2, 1), (13, .aload_n 0, 1), (14, .getfield 378, 3), (17, .aload_n 0, 1), (18, .getfield 375, 3), (21, .isub, 1), (22, .istore_n 3, 1), (23, .iload_n 1, 1), (24, .bipush 40, 2), (26, .if_icmp .eq 30, 3), (29, .iload_n 3, 1), (30, .i2l, 1), (31, .lconst 1, 1), (32, .ldc2_w 437, 3), (35, .invokestatic 268, 3), (38, .ifCond .eq 18, 3), (41, .aload_n 0, 1), (42, .invokevirtual 439, 3), (45, .ifCond .ne 11, 3), (48, .aload_n 0, 1), (49, .invokevirtual 415, 3), (52, .iconst (-1), 1), (53, .if_icmp .eq 7, 3), (56, .aload_n 0, 1), (57, .invokevirtual 401, 3), (60, .aload_n 0, 1), (61, .getfield 384, 3), (64, .iconst (-1), 1), (65, .if_icmp .eq 4, 3), (68, .return_, 1), (69, .aload_n 0, 1), (70, .invokevirtual 404, 3), (73, .aload_n 0, 1), (74, .bipush 61, 2), (76, .invokevirtual 428, 3), (79, .aload_n 0, 1), (80, .getfield 384, 3), (83, .iconst (-1), 1), (84, .if_icmp .ne 10, 3), (87, .aload_n 0, 1), (88, .invokevirtual 443, 3), (91, .goto 4, 3), (94, .iconst (-1), 1), (95, .istore 4, 2), (97, .iload 4, 2), (99, .iconst (-1), 1), (100, .if_icmp .ne 7, 3), (103, .aload_n 0, 1), (104, .invokevirtual 401, 3), (107, .aload_n 0, 1), (108, .getfield 384, 3), (111, .iconst (-1), 1), (112, .if_icmp .eq 4, 3), (115, .return_, 1), (116, .aload_n 0, 1), (117, .invokevirtual 404, 3), (120, .aload_n 0, 1), (121, .getfield 89, 3), (124, .bipush 8, 2), (126, .aaload, 1), (127, .iload_n 1, 1), (128, .iload 4, 2), (130, .iastore, 1), (131, .aload_n 0, 1), (132, .getfield 92, 3), (135, .bipush 8, 2), (137, .aaload, 1), (138, .iload_n 1, 1), (139, .iload 4, 2), (141, .iconst 1, 1), (142, .if_icmp .le 10, 3), (145, .aload_n 0, 1), (146, .invokevirtual 422, 3), (149, .goto 4, 3), (152, .iconst (-1), 1), (153, .iastore, 1), (154, .aload_n 0, 1), (155, .getfield 95, 3), (158, .bipush 8, 2), (160, .aaload, 1), (161, .iload_n 1, 1), (162, .iload 4, 2), (164, .iconst 5, 1), (165, .if_icmp .ne 10, 3), (168, .aload_n 0, 1), (169, .invokevirtual 422, 3), (172, .goto 4, 3), (175, .iconst (-1), 1), (176, .iastore, 1), (177, .aload_n 0, 1), (178, .iload_n 1, 1), (179, .iload 4, 2), (181, .invokevirtual 446, 3), (184, .aload_n 0, 1), (185, .bipush 59, 2), (187, .invokevirtual 428, 3), (190, .aload_n 0, 1), (191, .getfield 384, 3), (194, .iconst (-1), 1), (195, .if_icmp .eq 4, 3), (198, .return_, 1), (199, .aload_n 0, 1), (200, .getfield 113, 3), (203, .aload_n 0, 1), (204, .getfield 412, 3), (207, .iload_n 2, 1), (208, .iastore, 1), (209, .aload_n 0, 1), (210, .getfield 116, 3), (213, .aload_n 0, 1), (214, .getfield 412, 3), (217, .iload_n 3, 1), (218, .iastore, 1), (219, .aload_n 0, 1), (220, .getfield 119, 3), (223, .aload_n 0, 1), (224, .getfield 412, 3), (227, .iload_n 1, 1), (228, .iastore, 1), (229, .aload_n 0, 1), (230, .dup, 1), (231, .getfield 412, 3), (234, .iconst 1, 1), (235, .iadd, 1), (236, .putfield 412, 3), (239, .aload_n 0, 1), (240, .getfield 84, 3), (243, .bipush 8, 2), (245, .dup2, 1), (246, .iaload, 1), (247, .iconst 1, 1), (248, .iadd, 1), (249, .iastore, 1), (250, .return_, 1)] : List (Nat × Instr × Nat)), decode cX11_makes q.1 = .ok q.2 := by decide +kernel
set_option maxHeartbeats 4000000 in
set_option maxRecDepth 20000 in
theorem s11_makes_c176 {Y : m_Y Unit} (S : m_Std Y RX11 cX11_makes) (E : m_End Y cX11_makes .return_ (fun _ => [])) {F : Nat} (hF : m_Rm Y F) (hFn : 9 ≤ F) (hN : Y.2.2.2.1 = 5) (v0 v1 v2 v3 v4 s0 s1 s2 : Int) (h : m_H) : m_Sim Y 176 [(0, m_r v0), (1, m_i v1), (2, m_i v2), (3, m_i v3), (4, m_i v4)] [m_i s2, m_i s1, m_r s0] h (t11_makes_c176 v0 v1 v2 v3 v4 s0 s1 s2 h) := by
  unfold t11_makes_c176
  refine ms_grd fun g1 => ?_
  refine ms_iast (pc := 176) S g1 (m_dec e11_makes 95 rfl) (fun h2 => ?_)
  refine ms_aload_n (pc := 177) S 0 rfl rfl (m_dec e11_makes 96 rfl) ?_
  refine ms_iload_n (pc := 178) S 1 rfl rfl (m_dec e11_makes 97 rfl) ?_
  refine ms_iload (pc := 179) S 4 rfl (m_dec e11_makes 98 rfl) ?_
  refine ms_grd fun g3 => ?_
  refine ms_callVv (pc := 181) S hF (vals := [m_i v1, m_i v4]) (st := []) (hc := vw_11) (hci := by decide) (hcy := rfl) (ht := g3) (hC := (k11_numbers _ _ v0 v1 v4 h2)) (hM := lm_X11_446) (hfr := (Nat.le_trans (by decide) hFn)) (hstk := rfl) (hcat := Nat.le_of_ble_eq_true rfl) (hd := (m_dec e11_makes 99 rfl)) (k1 := fun h4 => ?_)
  refine ms_aload_n (pc := 184) S 0 rfl rfl (m_dec e11_makes 100 rfl) ?_
  refine ms_bipush (pc := 185) S (m_dec e11_makes 101 rfl) rfl ?_
  refine ms_grd fun g6 => ?_
  refine ms_callVv (pc := 187) S hF (vals := [m_i 59]) (st := []) (hc := vw_11) (hci := by decide) (hcy := rfl) (ht := g6) (hC := (k11_sign _ _ v0 59 h4)) (hM := lm_X11_428) (hfr := (Nat.le_trans (by decide) hFn)) (hstk := rfl) (hcat := Nat.le_of_ble_eq_true rfl) (hd := (m_dec e11_makes 102 rfl)) (k1 := fun h7 => ?_)
  refine ms_aload_n (pc := 190) S 0 rfl rfl (m_dec e11_makes 103 rfl) ?_
  refine ms_grd fun g9 => ?_
  refine ms_getf (pc := 191) S lf_X11_384 rfl (m_dec e11_makes 104 rfl) g9 ?_
  refine ms_iconst (pc := 194) S (m_dec e11_makes 105 rfl) ?_
  refine ms_icmp_eq (pc := 195) S (m_dec e11_makes 106 rfl) rfl (fun q10 => ?_) (fun q10 => ?_)
  · refine ms_aload_n (pc := 199) S 0 rfl rfl (m_dec e11_makes 108 rfl) ?_
    refine ms_getf (pc := 200) S lf_X11_113 rfl (m_dec e11_makes 109 rfl) g9 ?_
    refine ms_aload_n (pc := 203) S 0 rfl rfl (m_dec e11_makes 110 rfl) ?_
    refine ms_getf (pc := 204) S lf_X11_412 rfl (m_dec e11_makes 111 rfl) g9 ?_
    refine ms_iload_n (pc := 207) S 2 rfl rfl (m_dec e11_makes 112 rfl) ?_
    refine ms_grd fun g11 => ?_
    refine ms_iast (pc := 208) S g11 (m_dec e11_makes 113 rfl) (fun h12 => ?_)
    refine ms_aload_n (pc := 209) S 0 rfl rfl (m_dec e11_makes 114 rfl) ?_
    refine ms_grd fun g13 => ?_
    refine ms_getf (pc := 210) S lf_X11_116 rfl (m_dec e11_makes 115 rfl) g13 ?_
    refine ms_aload_n (pc := 213) S 0 rfl rfl (m_dec e11_makes 116 rfl) ?_
    refine ms_getf (pc := 214) S lf_X11_412 rfl (m_dec e11_makes 117 rfl) g13 ?_
    refine ms_iload_n (pc := 217) S 3 rfl rfl (m_dec e11_makes 118 rfl) ?_
    refine ms_grd fun g14 => ?_
    refine ms_iast (pc := 218) S g14 (m_dec e11_makes 119 rfl) (fun h15 => ?_)
    refine ms_aload_n (pc := 219) S 0 rfl rfl (m_dec e11_makes 120 rfl) ?_
    refine ms_grd fun g16 => ?_
    refine ms_getf (pc := 220) S lf_X11_119 rfl (m_dec e11_makes 121 rfl) g16 ?_
    refine ms_aload_n (pc := 223) S 0 rfl rfl (m_dec e11_makes 122 rfl) ?_
    refine ms_getf (pc := 224) S lf_X11_412 rfl (m_dec e11_makes 123 rfl) g16 ?_
    refine ms_iload_n (pc := 227) S 1 rfl rfl (m_dec e11_makes 124 rfl) ?_
    refine ms_grd fun g17 => ?_
    refine ms_iast (pc := 228) S g17 (m_dec e11_makes 125 rfl) (fun h18 => ?_)
    refine ms_aload_n (pc := 229) S 0 rfl rfl (m_dec e11_makes 126 rfl) ?_
    refine ms_dup (pc := 230) S rfl (m_dec e11_makes 127 rfl) ?_
    refine ms_grd fun g19 => ?_
    refine ms_getf (pc := 231) S lf_X11_412 rfl (m_dec e11_makes 128 rfl) g19 ?_
    refine ms_iconst (pc := 234) S (m_dec e11_makes 129 rfl) ?_
    refine ms_iadd (pc := 235) S (m_dec e11_makes 130 rfl) ?_
    refine ms_putf (pc := 236) S lp_X11_412 (fun z => by cases z) rfl (fun d => m_fitI d _) (m_dec e11_makes 131 rfl) g19 (fun h20 => ?_)
    refine ms_aload_n (pc := 239) S 0 rfl rfl (m_dec e11_makes 132 rfl) ?_
    refine ms_grd fun g21 => ?_
    refine ms_getf (pc := 240) S lf_X11_84 rfl (m_dec e11_makes 133 rfl) g21 ?_
    refine ms_bipush (pc := 243) S (m_dec e11_makes 134 rfl) rfl ?_
    refine ms_dup2 (pc := 245) S rfl rfl (m_dec e11_makes 135 rfl) ?_
    refine ms_grd fun g22 => ?_
    refine ms_iald (pc := 246) S g22 (m_dec e11_makes 136 rfl) ?_
    refine ms_iconst (pc := 247) S (m_dec e11_makes 137 rfl) ?_
    refine ms_iadd (pc := 248) S (m_dec e11_makes 138 rfl) ?_
    refine ms_iast (pc := 249) S g22 (m_dec e11_makes 139 rfl) (fun h23 => ?_)
    exact ms_ret (pc := 250) E (m_dec e11_makes 140 rfl) rfl
  · exact ms_ret (pc := 198) E (m_dec e11_makes 107 rfl) rfl
set_option maxHeartbeats 4000000 in
set_option maxRecDepth 20000 in
theorem s11_makes_c153 {Y : m_Y Unit} (S : m_Std Y RX11 cX11_makes) (E : m_End Y cX11_makes .return_ (fun _ => [])) {F : Nat} (hF : m_Rm Y F) (hFn : 9 ≤ F) (hN : Y.2.2.2.1 = 5) (v0 v1 v2 v3 v4 s0 s1 s2 : Int) (h : m_H) : m_Sim Y 153 [(0, m_r v0), (1, m_i v1), (2, m_i v2), (3, m_i v3), (4, m_i v4)] [m_i s2, m_i s1, m_r s0] h (t11_makes_c153 v0 v1 v2 v3 v4 s0 s1 s2 h) := by
  unfold t11_makes_c153
  refine ms_grd fun g1 => ?_
  refine ms_iast (pc := 153) S g1 (m_dec e11_makes 82 rfl) (fun h2 => ?_)
  refine ms_aload_n (pc := 154) S 0 rfl rfl (m_dec e11_makes 83 rfl) ?_
  refine ms_grd fun g3 => ?_
  refine ms_getf (pc := 155) S lf_X11_95 rfl (m_dec e11_makes 84 rfl) g3 ?_
  refine ms_bipush (pc := 158) S (m_dec e11_makes 85 rfl) rfl ?_
  refine ms_grd fun g4 => ?_
  refine ms_aald (pc := 160) S 29 (by decide) (fun _ => rfl) rfl g4 (m_dec e11_makes 86 rfl) ?_
  refine ms_iload_n (pc := 161) S 1 rfl rfl (m_dec e11_makes 87 rfl) ?_
  refine ms_iload (pc := 162) S 4 rfl (m_dec e11_makes 88 rfl) ?_
  refine ms_iconst (pc := 164) S (m_dec e11_makes 89 rfl) ?_
  refine ms_icmp_ne (pc := 165) S (m_dec e11_makes 90 rfl) rfl (fun q5 => ?_) (fun q5 => ?_)
  · refine ms_aload_n (pc := 168) S 0 rfl rfl (m_dec e11_makes 91 rfl) ?_
    refine ms_callVi (pc := 169) S hF (vals := []) (st := [m_i v1, m_r (m_g h2 (m_g h2 v0 37) 8)]) (hc := vw_11) (hci := by decide) (hcy := rfl) (ht := g3) (hC := (k11_made _ _ v0 h2)) (hM := lm_X11_422) (hfr := (Nat.le_trans (by decide) hFn)) (hstk := rfl) (hcat := Nat.le_of_ble_eq_true rfl) (hd := (m_dec e11_makes 92 rfl)) (k1 := fun r7 h6 => ?_)
    refine ms_goto (pc := 172) S (m_dec e11_makes 93 rfl) rfl ?_
    exact s11_makes_c176 S E hF hFn hN v0 v1 v2 v3 v4 (m_g h2 (m_g h2 v0 37) 8) v1 r7 h6
  · refine ms_iconst (pc := 175) S (m_dec e11_makes 94 rfl) ?_
    exact s11_makes_c176 S E hF hFn hN v0 v1 v2 v3 v4 (m_g h2 (m_g h2 v0 37) 8) v1 (-1) h2
set_option maxHeartbeats 4000000 in
set_option maxRecDepth 20000 in
theorem s11_makes_c107 {Y : m_Y Unit} (S : m_Std Y RX11 cX11_makes) (E : m_End Y cX11_makes .return_ (fun _ => [])) {F : Nat} (hF : m_Rm Y F) (hFn : 9 ≤ F) (hN : Y.2.2.2.1 = 5) (v0 v1 v2 v3 v4 : Int) (h : m_H) : m_Sim Y 107 [(0, m_r v0), (1, m_i v1), (2, m_i v2), (3, m_i v3), (4, m_i v4)] [] h (t11_makes_c107 v0 v1 v2 v3 v4 h) := by
  unfold t11_makes_c107
  refine ms_aload_n (pc := 107) S 0 rfl rfl (m_dec e11_makes 56 rfl) ?_
  refine ms_grd fun g1 => ?_
  refine ms_getf (pc := 108) S lf_X11_384 rfl (m_dec e11_makes 57 rfl) g1 ?_
  refine ms_iconst (pc := 111) S (m_dec e11_makes 58 rfl) ?_
  refine ms_icmp_eq (pc := 112) S (m_dec e11_makes 59 rfl) rfl (fun q2 => ?_) (fun q2 => ?_)
  · refine ms_aload_n (pc := 116) S 0 rfl rfl (m_dec e11_makes 61 rfl) ?_
    refine ms_callVv (pc := 117) S hF (vals := []) (st := []) (hc := vw_11) (hci := by decide) (hcy := rfl) (ht := g1) (hC := (k11_goesOn _ _ v0 h)) (hM := lm_X11_404) (hfr := (Nat.le_trans (by decide) hFn)) (hstk := rfl) (hcat := Nat.le_of_ble_eq_true rfl) (hd := (m_dec e11_makes 62 rfl)) (k1 := fun h3 => ?_)
    refine ms_aload_n (pc := 120) S 0 rfl rfl (m_dec e11_makes 63 rfl) ?_
    refine ms_grd fun g5 => ?_
    refine ms_getf (pc := 121) S lf_X11_89 rfl (m_dec e11_makes 64 rfl) g5 ?_
    refine ms_bipush (pc := 124) S (m_dec e11_makes 65 rfl) rfl ?_
    refine ms_grd fun g6 => ?_
    refine ms_aald (pc := 126) S 29 (by decide) (fun _ => rfl) rfl g6 (m_dec e11_makes 66 rfl) ?_
    refine ms_iload_n (pc := 127) S 1 rfl rfl (m_dec e11_makes 67 rfl) ?_
    refine ms_iload (pc := 128) S 4 rfl (m_dec e11_makes 68 rfl) ?_
    refine ms_grd fun g7 => ?_
    refine ms_iast (pc := 130) S g7 (m_dec e11_makes 69 rfl) (fun h8 => ?_)
    refine ms_aload_n (pc := 131) S 0 rfl rfl (m_dec e11_makes 70 rfl) ?_
    refine ms_grd fun g9 => ?_
    refine ms_getf (pc := 132) S lf_X11_92 rfl (m_dec e11_makes 71 rfl) g9 ?_
    refine ms_bipush (pc := 135) S (m_dec e11_makes 72 rfl) rfl ?_
    refine ms_grd fun g10 => ?_
    refine ms_aald (pc := 137) S 29 (by decide) (fun _ => rfl) rfl g10 (m_dec e11_makes 73 rfl) ?_
    refine ms_iload_n (pc := 138) S 1 rfl rfl (m_dec e11_makes 74 rfl) ?_
    refine ms_iload (pc := 139) S 4 rfl (m_dec e11_makes 75 rfl) ?_
    refine ms_iconst (pc := 141) S (m_dec e11_makes 76 rfl) ?_
    refine ms_icmp_le (pc := 142) S (m_dec e11_makes 77 rfl) rfl (fun q11 => ?_) (fun q11 => ?_)
    · refine ms_aload_n (pc := 145) S 0 rfl rfl (m_dec e11_makes 78 rfl) ?_
      refine ms_callVi (pc := 146) S hF (vals := []) (st := [m_i v1, m_r (m_g h8 (m_g h8 v0 36) 8)]) (hc := vw_11) (hci := by decide) (hcy := rfl) (ht := g9) (hC := (k11_made _ _ v0 h8)) (hM := lm_X11_422) (hfr := (Nat.le_trans (by decide) hFn)) (hstk := rfl) (hcat := Nat.le_of_ble_eq_true rfl) (hd := (m_dec e11_makes 79 rfl)) (k1 := fun r13 h12 => ?_)
      refine ms_goto (pc := 149) S (m_dec e11_makes 80 rfl) rfl ?_
      exact s11_makes_c153 S E hF hFn hN v0 v1 v2 v3 v4 (m_g h8 (m_g h8 v0 36) 8) v1 r13 h12
    · refine ms_iconst (pc := 152) S (m_dec e11_makes 81 rfl) ?_
      exact s11_makes_c153 S E hF hFn hN v0 v1 v2 v3 v4 (m_g h8 (m_g h8 v0 36) 8) v1 (-1) h8
  · exact ms_ret (pc := 115) E (m_dec e11_makes 60 rfl) rfl
set_option maxHeartbeats 4000000 in
set_option maxRecDepth 20000 in
theorem s11_makes_c95 {Y : m_Y Unit} (S : m_Std Y RX11 cX11_makes) (E : m_End Y cX11_makes .return_ (fun _ => [])) {F : Nat} (hF : m_Rm Y F) (hFn : 9 ≤ F) (hN : Y.2.2.2.1 = 5) (v0 v1 v2 v3 s0 : Int) (h : m_H) : m_Sim Y 95 [(0, m_r v0), (1, m_i v1), (2, m_i v2), (3, m_i v3)] [m_i s0] h (t11_makes_c95 v0 v1 v2 v3 s0 h) := by
  unfold t11_makes_c95
  refine ms_istore (pc := 95) S (L' := [(0, m_r v0), (1, m_i v1), (2, m_i v2), (3, m_i v3), (4, m_i s0)]) [1, 2, 3, 4, 0] rfl (m_lt hN rfl) (m_dec e11_makes 50 rfl) ?_
  refine ms_iload (pc := 97) S 4 rfl (m_dec e11_makes 51 rfl) ?_
  refine ms_iconst (pc := 99) S (m_dec e11_makes 52 rfl) ?_
  refine ms_icmp_ne (pc := 100) S (m_dec e11_makes 53 rfl) rfl (fun q1 => ?_) (fun q1 => ?_)
  · refine ms_aload_n (pc := 103) S 0 rfl rfl (m_dec e11_makes 54 rfl) ?_
    refine ms_grd fun g2 => ?_
    refine ms_callVv (pc := 104) S hF (vals := []) (st := []) (hc := vw_11) (hci := by decide) (hcy := rfl) (ht := g2) (hC := (k11_fails _ _ v0 h)) (hM := lm_X11_401) (hfr := (Nat.le_trans (by decide) hFn)) (hstk := rfl) (hcat := Nat.le_of_ble_eq_true rfl) (hd := (m_dec e11_makes 55 rfl)) (k1 := fun h3 => ?_)
    exact s11_makes_c107 S E hF hFn hN v0 v1 v2 v3 s0 h3
  · exact s11_makes_c107 S E hF hFn hN v0 v1 v2 v3 s0 h
set_option maxHeartbeats 4000000 in
set_option maxRecDepth 20000 in
theorem s11_makes_c60 {Y : m_Y Unit} (S : m_Std Y RX11 cX11_makes) (E : m_End Y cX11_makes .return_ (fun _ => [])) {F : Nat} (hF : m_Rm Y F) (hFn : 9 ≤ F) (hN : Y.2.2.2.1 = 5) (v0 v1 v2 v3 : Int) (h : m_H) : m_Sim Y 60 [(0, m_r v0), (1, m_i v1), (2, m_i v2), (3, m_i v3)] [] h (t11_makes_c60 v0 v1 v2 v3 h) := by
  unfold t11_makes_c60
  refine ms_aload_n (pc := 60) S 0 rfl rfl (m_dec e11_makes 32 rfl) ?_
  refine ms_grd fun g1 => ?_
  refine ms_getf (pc := 61) S lf_X11_384 rfl (m_dec e11_makes 33 rfl) g1 ?_
  refine ms_iconst (pc := 64) S (m_dec e11_makes 34 rfl) ?_
  refine ms_icmp_eq (pc := 65) S (m_dec e11_makes 35 rfl) rfl (fun q2 => ?_) (fun q2 => ?_)
  · refine ms_aload_n (pc := 69) S 0 rfl rfl (m_dec e11_makes 37 rfl) ?_
    refine ms_callVv (pc := 70) S hF (vals := []) (st := []) (hc := vw_11) (hci := by decide) (hcy := rfl) (ht := g1) (hC := (k11_goesOn _ _ v0 h)) (hM := lm_X11_404) (hfr := (Nat.le_trans (by decide) hFn)) (hstk := rfl) (hcat := Nat.le_of_ble_eq_true rfl) (hd := (m_dec e11_makes 38 rfl)) (k1 := fun h3 => ?_)
    refine ms_aload_n (pc := 73) S 0 rfl rfl (m_dec e11_makes 39 rfl) ?_
    refine ms_bipush (pc := 74) S (m_dec e11_makes 40 rfl) rfl ?_
    refine ms_grd fun g5 => ?_
    refine ms_callVv (pc := 76) S hF (vals := [m_i 61]) (st := []) (hc := vw_11) (hci := by decide) (hcy := rfl) (ht := g5) (hC := (k11_sign _ _ v0 61 h3)) (hM := lm_X11_428) (hfr := (Nat.le_trans (by decide) hFn)) (hstk := rfl) (hcat := Nat.le_of_ble_eq_true rfl) (hd := (m_dec e11_makes 41 rfl)) (k1 := fun h6 => ?_)
    refine ms_aload_n (pc := 79) S 0 rfl rfl (m_dec e11_makes 42 rfl) ?_
    refine ms_grd fun g8 => ?_
    refine ms_getf (pc := 80) S lf_X11_384 rfl (m_dec e11_makes 43 rfl) g8 ?_
    refine ms_iconst (pc := 83) S (m_dec e11_makes 44 rfl) ?_
    refine ms_icmp_ne (pc := 84) S (m_dec e11_makes 45 rfl) rfl (fun q9 => ?_) (fun q9 => ?_)
    · refine ms_aload_n (pc := 87) S 0 rfl rfl (m_dec e11_makes 46 rfl) ?_
      refine ms_callVi (pc := 88) S hF (vals := []) (st := []) (hc := vw_11) (hci := by decide) (hcy := rfl) (ht := g8) (hC := (k11_verbAt _ _ v0 h6)) (hM := lm_X11_443) (hfr := (Nat.le_trans (by decide) hFn)) (hstk := rfl) (hcat := Nat.le_of_ble_eq_true rfl) (hd := (m_dec e11_makes 47 rfl)) (k1 := fun r11 h10 => ?_)
      refine ms_goto (pc := 91) S (m_dec e11_makes 48 rfl) rfl ?_
      exact s11_makes_c95 S E hF hFn hN v0 v1 v2 v3 r11 h10
    · refine ms_iconst (pc := 94) S (m_dec e11_makes 49 rfl) ?_
      exact s11_makes_c95 S E hF hFn hN v0 v1 v2 v3 (-1) h6
  · exact ms_ret (pc := 68) E (m_dec e11_makes 36 rfl) rfl
set_option maxHeartbeats 4000000 in
set_option maxRecDepth 20000 in
theorem s11_makes_c56 {Y : m_Y Unit} (S : m_Std Y RX11 cX11_makes) (E : m_End Y cX11_makes .return_ (fun _ => [])) {F : Nat} (hF : m_Rm Y F) (hFn : 9 ≤ F) (hN : Y.2.2.2.1 = 5) (v0 v1 v2 v3 : Int) (h : m_H) : m_Sim Y 56 [(0, m_r v0), (1, m_i v1), (2, m_i v2), (3, m_i v3)] [] h (t11_makes_c56 v0 v1 v2 v3 h) := by
  unfold t11_makes_c56
  refine ms_aload_n (pc := 56) S 0 rfl rfl (m_dec e11_makes 30 rfl) ?_
  refine ms_grd fun g1 => ?_
  refine ms_callVv (pc := 57) S hF (vals := []) (st := []) (hc := vw_11) (hci := by decide) (hcy := rfl) (ht := g1) (hC := (k11_fails _ _ v0 h)) (hM := lm_X11_401) (hfr := (Nat.le_trans (by decide) hFn)) (hstk := rfl) (hcat := Nat.le_of_ble_eq_true rfl) (hd := (m_dec e11_makes 31 rfl)) (k1 := fun h2 => ?_)
  exact s11_makes_c60 S E hF hFn hN v0 v1 v2 v3 h2
set_option maxHeartbeats 4000000 in
set_option maxRecDepth 20000 in
theorem s11_makes {Y : m_Y Unit} (S : m_Std Y RX11 cX11_makes) (E : m_End Y cX11_makes .return_ (fun _ => [])) {F : Nat} (hF : m_Rm Y F) (hFn : 9 ≤ F) (hN : Y.2.2.2.1 = 5) (v0 : Int) (h : m_H) : m_Sim Y 0 [(0, m_r v0)] [] h (t11_makes v0 h) := by
  unfold t11_makes
  refine ms_aload_n (pc := 0) S 0 rfl rfl (m_dec e11_makes 0 rfl) ?_
  refine ms_grd fun g1 => ?_
  refine ms_getf (pc := 1) S lf_X11_84 rfl (m_dec e11_makes 1 rfl) g1 ?_
  refine ms_bipush (pc := 4) S (m_dec e11_makes 2 rfl) rfl ?_
  refine ms_grd fun g2 => ?_
  refine ms_iald (pc := 6) S g2 (m_dec e11_makes 3 rfl) ?_
  refine ms_nm (st := fun x3 => [m_i x3]) fun x3 => ?_
  refine ms_istore_n (pc := 7) S (L' := [(0, m_r v0), (1, m_i x3)]) [1, 0] rfl rfl (m_lt hN rfl) (m_dec e11_makes 4 rfl) ?_
  refine ms_aload_n (pc := 8) S 0 rfl rfl (m_dec e11_makes 5 rfl) ?_
  refine ms_getf (pc := 9) S lf_X11_375 rfl (m_dec e11_makes 6 rfl) g1 ?_
  refine ms_nm (st := fun x4 => [m_i x4]) fun x4 => ?_
  refine ms_istore_n (pc := 12) S (L' := [(0, m_r v0), (1, m_i x3), (2, m_i x4)]) [1, 2, 0] rfl rfl (m_lt hN rfl) (m_dec e11_makes 7 rfl) ?_
  refine ms_aload_n (pc := 13) S 0 rfl rfl (m_dec e11_makes 8 rfl) ?_
  refine ms_getf (pc := 14) S lf_X11_378 rfl (m_dec e11_makes 9 rfl) g1 ?_
  refine ms_aload_n (pc := 17) S 0 rfl rfl (m_dec e11_makes 10 rfl) ?_
  refine ms_getf (pc := 18) S lf_X11_375 rfl (m_dec e11_makes 11 rfl) g1 ?_
  refine ms_isub (pc := 21) S (m_dec e11_makes 12 rfl) ?_
  refine ms_nm (st := fun x5 => [m_i x5]) fun x5 => ?_
  refine ms_istore_n (pc := 22) S (L' := [(0, m_r v0), (1, m_i x3), (2, m_i x4), (3, m_i x5)]) [1, 2, 3, 0] rfl rfl (m_lt hN rfl) (m_dec e11_makes 13 rfl) ?_
  refine ms_iload_n (pc := 23) S 1 rfl rfl (m_dec e11_makes 14 rfl) ?_
  refine ms_bipush (pc := 24) S (m_dec e11_makes 15 rfl) rfl ?_
  refine ms_icmp_eq (pc := 26) S (m_dec e11_makes 16 rfl) rfl (fun q6 => ?_) (fun q6 => ?_)
  · exact s11_makes_c56 S E hF hFn hN v0 x3 x4 x5 h
  · refine ms_iload_n (pc := 29) S 3 rfl rfl (m_dec e11_makes 17 rfl) ?_
    refine ms_i2l (pc := 30) S (m_dec e11_makes 18 rfl) ?_
    refine ms_lconst (pc := 31) S (n := 1) rfl (m_dec e11_makes 19 rfl) ?_
    refine ms_ldc2 (pc := 32) S (n := 6) w_2006 (m_dec e11_makes 20 rfl) ?_
    refine ms_callSz (pc := 35) S hF (vals := [m_j (m_w x5), m_j 1, m_j 6]) (st := [])  (hC := (k11_in _ _ (m_w x5) 1 6 h)) (hM := lm_X11_268) (hfr := (Nat.le_trans (by decide) hFn)) (hstk := rfl) (hcat := Nat.le_of_ble_eq_true rfl) (hd := (m_dec e11_makes 21 rfl)) (k1 := fun r8 h7 => ?_)
    refine ms_ifb_eq (pc := 38) S (m_dec e11_makes 22 rfl) rfl (fun q9 => ?_) (fun q9 => ?_)
    · refine ms_aload_n (pc := 41) S 0 rfl rfl (m_dec e11_makes 23 rfl) ?_
      refine ms_grd fun g10 => ?_
      refine ms_callVz (pc := 42) S hF (vals := []) (st := []) (hc := vw_11) (hci := by decide) (hcy := rfl) (ht := g10) (hC := (k11_isBarred _ _ v0 h7)) (hM := lm_X11_439) (hfr := (Nat.le_trans (by decide) hFn)) (hstk := rfl) (hcat := Nat.le_of_ble_eq_true rfl) (hd := (m_dec e11_makes 24 rfl)) (k1 := fun r12 h11 => ?_)
      refine ms_ifb_ne (pc := 45) S (m_dec e11_makes 25 rfl) rfl (fun q13 => ?_) (fun q13 => ?_)
      · exact s11_makes_c56 S E hF hFn hN v0 x3 x4 x5 h11
      · refine ms_aload_n (pc := 48) S 0 rfl rfl (m_dec e11_makes 26 rfl) ?_
        refine ms_grd fun g14 => ?_
        refine ms_callVi (pc := 49) S hF (vals := []) (st := []) (hc := vw_11) (hci := by decide) (hcy := rfl) (ht := g14) (hC := (k11_wordKnown _ _ v0 h11)) (hM := lm_X11_415) (hfr := (Nat.le_trans (by decide) hFn)) (hstk := rfl) (hcat := Nat.le_of_ble_eq_true rfl) (hd := (m_dec e11_makes 27 rfl)) (k1 := fun r16 h15 => ?_)
        refine ms_iconst (pc := 52) S (m_dec e11_makes 28 rfl) ?_
        refine ms_icmp_eq (pc := 53) S (m_dec e11_makes 29 rfl) rfl (fun q17 => ?_) (fun q17 => ?_)
        · exact s11_makes_c60 S E hF hFn hN v0 x3 x4 x5 h15
        · exact s11_makes_c56 S E hF hFn hN v0 x3 x4 x5 h15
    · exact s11_makes_c56 S E hF hFn hN v0 x3 x4 x5 h7
theorem k11_makes (l : Launch) (d : m_D) (v0 : Int) (h : m_H) : m_Con l d yX11_makes cX11_makes 5 none 9 (fun _ => []) [m_r v0] h (t11_makes v0 h) :=
  m_con2 (by decide +kernel) (Nat.le_of_ble_eq_true rfl) (fun Y hN hRm hr hI S hfin => s11_makes S (m_end_v S hr hfin) hRm (Nat.le_refl _) hN v0 h)
set_option maxRecDepth 100000 in
theorem e11_reads : ∀ q ∈ ([(0, .aload_n 0, 1), (1, .iconst (-1), 1), (2, .putfield 384, 3), (5, .aload_n 0, 1), (6, .getfield 84, 3), (9, .bipush 8, 2), (11, .iconst 0, 1), (12, .iastore, 1), (13, .aload_n 0, 1), (14, .iconst 0, 1), (15, .putfield 412, 3), (18, .aload_n 0, 1), (19, .iconst 0, 1), (20, .putfield 375, 3), (23, .aload_n 0, 1), (24, .invokevirtual 394, 3), (27, .aload_n 0, 1), (28, .getfield 384, 3), (31, .iconst (-1), 1), (32, .if_icmp .ne 55, 3), (35, .aload_n 0, 1), (36, .getfield 375, 3), (39, .aload_n 0, 1), (40, .getfield 369, 3), (43, .if_icmp .ge 44, 3), (46, .aload_n 0, 1), (47, .ldc 169, 2), (49, .invokevirtual 397, 3), (52, .ifCond .eq 12, 3), (55, .aload_n 0, 1), (56, .iconst 1, 1), (57, .iconst 0, 1), (58, .invokevirtual 431, 3), (61, .goto (-34), 3), (64, .aload_n 0, 1), (65, .ldc 173, 2), (67, .invokevirtual 397, 3), (70, .ifCond .eq 10, 3), (73, .aload_n 0, 1), (74, .invokevirtual 449, 3), (77, .goto (-50), 3), (80, .aload_n 0, 1), (81, .invokevirtual 451, 3), (84, .goto (-57), 3), (87, .return_, 1)] : List (Nat × Instr × Nat)), decode cX11_reads q.1 = .ok q.2 := by decide +kernel
set_option maxHeartbeats 4000000 in
set_option maxRecDepth 20000 in
theorem s11_reads_c27 {Y : m_Y Unit} (S : m_Std Y RX11 cX11_reads) (E : m_End Y cX11_reads .return_ (fun _ => [])) {F : Nat} (hF : m_Rm Y F) (hFn : 10 ≤ F) (hN : Y.2.2.2.1 = 1) : ∀ (v0 : Int) (h : m_H), m_Sim Y 27 [(0, m_r v0)] [] h (t11_reads_c27 v0 h) := by
  intro v0 h
  refine ms_all fun r e => ?_
  refine t11_reads_c27.partial_correctness v0 (motive := fun h r => m_Sim Y 27 [(0, m_r v0)] [] h (some r)) ?_ h r e
  intro f ih h r e
  have ih : ∀ (h : m_H), m_Sim Y 27 [(0, m_r v0)] [] h (f h ) := fun h  => ms_all fun r e => ih h r e
  refine ms_use ?_ e
  clear e r
  refine ms_aload_n (pc := 27) S 0 rfl rfl (m_dec e11_reads 16 rfl) ?_
  refine ms_grd fun g1 => ?_
  refine ms_getf (pc := 28) S lf_X11_384 rfl (m_dec e11_reads 17 rfl) g1 ?_
  refine ms_iconst (pc := 31) S (m_dec e11_reads 18 rfl) ?_
  refine ms_icmp_ne (pc := 32) S (m_dec e11_reads 19 rfl) rfl (fun q2 => ?_) (fun q2 => ?_)
  · refine ms_aload_n (pc := 35) S 0 rfl rfl (m_dec e11_reads 20 rfl) ?_
    refine ms_getf (pc := 36) S lf_X11_375 rfl (m_dec e11_reads 21 rfl) g1 ?_
    refine ms_aload_n (pc := 39) S 0 rfl rfl (m_dec e11_reads 22 rfl) ?_
    refine ms_getf (pc := 40) S lf_X11_369 rfl (m_dec e11_reads 23 rfl) g1 ?_
    refine ms_icmp_ge (pc := 43) S (m_dec e11_reads 24 rfl) rfl (fun q3 => ?_) (fun q3 => ?_)
    · refine ms_aload_n (pc := 46) S 0 rfl rfl (m_dec e11_reads 25 rfl) ?_
      refine ms_ldcS (pc := 47) S 22 rfl (m_dec e11_reads 26 rfl) ?_
      refine ms_callVz (pc := 49) S hF (vals := [m_r (-24)]) (st := []) (hc := vw_11) (hci := by decide) (hcy := rfl) (ht := g1) (hC := (k11_isWord _ _ v0 (-24) h)) (hM := lm_X11_397) (hfr := (Nat.le_trans (by decide) hFn)) (hstk := rfl) (hcat := Nat.le_of_ble_eq_true rfl) (hd := (m_dec e11_reads 27 rfl)) (k1 := fun r5 h4 => ?_)
      refine ms_ifb_eq (pc := 52) S (m_dec e11_reads 28 rfl) rfl (fun q6 => ?_) (fun q6 => ?_)
      · refine ms_aload_n (pc := 55) S 0 rfl rfl (m_dec e11_reads 29 rfl) ?_
        refine ms_iconst (pc := 56) S (m_dec e11_reads 30 rfl) ?_
        refine ms_iconst (pc := 57) S (m_dec e11_reads 31 rfl) ?_
        refine ms_grd fun g7 => ?_
        refine ms_callVv (pc := 58) S hF (vals := [m_i 1, m_i 0]) (st := []) (hc := vw_11) (hci := by decide) (hcy := rfl) (ht := g7) (hC := (k11_puts _ _ v0 1 0 h4)) (hM := lm_X11_431) (hfr := (Nat.le_trans (by decide) hFn)) (hstk := rfl) (hcat := Nat.le_of_ble_eq_true rfl) (hd := (m_dec e11_reads 32 rfl)) (k1 := fun h8 => ?_)
        refine ms_goto (pc := 61) S (m_dec e11_reads 33 rfl) rfl ?_
        exact ih h8
      · refine ms_aload_n (pc := 64) S 0 rfl rfl (m_dec e11_reads 34 rfl) ?_
        refine ms_ldcS (pc := 65) S 24 rfl (m_dec e11_reads 35 rfl) ?_
        refine ms_grd fun g10 => ?_
        refine ms_callVz (pc := 67) S hF (vals := [m_r (-26)]) (st := []) (hc := vw_11) (hci := by decide) (hcy := rfl) (ht := g10) (hC := (k11_isWord _ _ v0 (-26) h4)) (hM := lm_X11_397) (hfr := (Nat.le_trans (by decide) hFn)) (hstk := rfl) (hcat := Nat.le_of_ble_eq_true rfl) (hd := (m_dec e11_reads 36 rfl)) (k1 := fun r12 h11 => ?_)
        refine ms_ifb_eq (pc := 70) S (m_dec e11_reads 37 rfl) rfl (fun q13 => ?_) (fun q13 => ?_)
        · refine ms_aload_n (pc := 73) S 0 rfl rfl (m_dec e11_reads 38 rfl) ?_
          refine ms_grd fun g14 => ?_
          refine ms_callVv (pc := 74) S hF (vals := []) (st := []) (hc := vw_11) (hci := by decide) (hcy := rfl) (ht := g14) (hC := (k11_again _ _ v0 h11)) (hM := lm_X11_449) (hfr := (Nat.le_trans (by decide) hFn)) (hstk := rfl) (hcat := Nat.le_of_ble_eq_true rfl) (hd := (m_dec e11_reads 39 rfl)) (k1 := fun h15 => ?_)
          refine ms_goto (pc := 77) S (m_dec e11_reads 40 rfl) rfl ?_
          exact ih h15
        · refine ms_aload_n (pc := 80) S 0 rfl rfl (m_dec e11_reads 41 rfl) ?_
          refine ms_grd fun g17 => ?_
          refine ms_callVv (pc := 81) S hF (vals := []) (st := []) (hc := vw_11) (hci := by decide) (hcy := rfl) (ht := g17) (hC := (k11_makes _ _ v0 h11)) (hM := lm_X11_451) (hfr := (Nat.le_trans (by decide) hFn)) (hstk := rfl) (hcat := Nat.le_of_ble_eq_true rfl) (hd := (m_dec e11_reads 42 rfl)) (k1 := fun h18 => ?_)
          refine ms_goto (pc := 84) S (m_dec e11_reads 43 rfl) rfl ?_
          exact ih h18
    · exact ms_ret (pc := 87) E (m_dec e11_reads 44 rfl) rfl
  · exact ms_ret (pc := 87) E (m_dec e11_reads 44 rfl) rfl
set_option maxHeartbeats 4000000 in
set_option maxRecDepth 20000 in
theorem s11_reads {Y : m_Y Unit} (S : m_Std Y RX11 cX11_reads) (E : m_End Y cX11_reads .return_ (fun _ => [])) {F : Nat} (hF : m_Rm Y F) (hFn : 10 ≤ F) (hN : Y.2.2.2.1 = 1) (v0 : Int) (h : m_H) : m_Sim Y 0 [(0, m_r v0)] [] h (t11_reads v0 h) := by
  unfold t11_reads
  refine ms_aload_n (pc := 0) S 0 rfl rfl (m_dec e11_reads 0 rfl) ?_
  refine ms_iconst (pc := 1) S (m_dec e11_reads 1 rfl) ?_
  refine ms_grd fun g1 => ?_
  refine ms_putf (pc := 2) S lp_X11_384 (fun z => by cases z) rfl (fun d => m_fitI d _) (m_dec e11_reads 2 rfl) g1 (fun h2 => ?_)
  refine ms_aload_n (pc := 5) S 0 rfl rfl (m_dec e11_reads 3 rfl) ?_
  refine ms_grd fun g3 => ?_
  refine ms_getf (pc := 6) S lf_X11_84 rfl (m_dec e11_reads 4 rfl) g3 ?_
  refine ms_bipush (pc := 9) S (m_dec e11_reads 5 rfl) rfl ?_
  refine ms_iconst (pc := 11) S (m_dec e11_reads 6 rfl) ?_
  refine ms_grd fun g4 => ?_
  refine ms_iast (pc := 12) S g4 (m_dec e11_reads 7 rfl) (fun h5 => ?_)
  refine ms_aload_n (pc := 13) S 0 rfl rfl (m_dec e11_reads 8 rfl) ?_
  refine ms_iconst (pc := 14) S (m_dec e11_reads 9 rfl) ?_
  refine ms_grd fun g6 => ?_
  refine ms_putf (pc := 15) S lp_X11_412 (fun z => by cases z) rfl (fun d => m_fitI d _) (m_dec e11_reads 10 rfl) g6 (fun h7 => ?_)
  refine ms_aload_n (pc := 18) S 0 rfl rfl (m_dec e11_reads 11 rfl) ?_
  refine ms_iconst (pc := 19) S (m_dec e11_reads 12 rfl) ?_
  refine ms_grd fun g8 => ?_
  refine ms_putf (pc := 20) S lp_X11_375 (fun z => by cases z) rfl (fun d => m_fitI d _) (m_dec e11_reads 13 rfl) g8 (fun h9 => ?_)
  refine ms_aload_n (pc := 23) S 0 rfl rfl (m_dec e11_reads 14 rfl) ?_
  refine ms_grd fun g10 => ?_
  refine ms_callVv (pc := 24) S hF (vals := []) (st := []) (hc := vw_11) (hci := by decide) (hcy := rfl) (ht := g10) (hC := (k11_skips _ _ v0 h9)) (hM := lm_X11_394) (hfr := (Nat.le_trans (by decide) hFn)) (hstk := rfl) (hcat := Nat.le_of_ble_eq_true rfl) (hd := (m_dec e11_reads 15 rfl)) (k1 := fun h11 => ?_)
  exact s11_reads_c27 S E hF hFn hN v0 h11
theorem k11_reads (l : Launch) (d : m_D) (v0 : Int) (h : m_H) : m_Con l d yX11_reads cX11_reads 1 none 10 (fun _ => []) [m_r v0] h (t11_reads v0 h) :=
  m_con2 (by decide +kernel) (Nat.le_of_ble_eq_true rfl) (fun Y hN hRm hr hI S hfin => s11_reads S (m_end_v S hr hfin) hRm (Nat.le_refl _) hN v0 h)
set_option maxRecDepth 100000 in
theorem e11_fault : ∀ q ∈ ([(0, .aload_n 0, 1), (1, .invokevirtual 454, 3), (4, .aload_n 0, 1), (5, .getfield 384, 3), (8, .ireturn, 1)] : List (Nat × Instr × Nat)), decode cX11_fault q.1 = .ok q.2 := by decide +kernel
set_option maxHeartbeats 4000000 in
set_option maxRecDepth 20000 in
theorem s11_fault {Y : m_Y Int} (S : m_Std Y RX11 cX11_fault) (E : m_End Y cX11_fault .ireturn (fun r => [m_i r])) {F : Nat} (hF : m_Rm Y F) (hFn : 11 ≤ F) (hN : Y.2.2.2.1 = 1) (v0 : Int) (h : m_H) : m_Sim Y 0 [(0, m_r v0)] [] h (t11_fault v0 h) := by
  unfold t11_fault
  refine ms_aload_n (pc := 0) S 0 rfl rfl (m_dec e11_fault 0 rfl) ?_
  refine ms_grd fun g1 => ?_
  refine ms_callVv (pc := 1) S hF (vals := []) (st := []) (hc := vw_11) (hci := by decide) (hcy := rfl) (ht := g1) (hC := (k11_reads _ _ v0 h)) (hM := lm_X11_454) (hfr := (Nat.le_trans (by decide) hFn)) (hstk := rfl) (hcat := Nat.le_of_ble_eq_true rfl) (hd := (m_dec e11_fault 1 rfl)) (k1 := fun h2 => ?_)
  refine ms_aload_n (pc := 4) S 0 rfl rfl (m_dec e11_fault 2 rfl) ?_
  refine ms_grd fun g4 => ?_
  refine ms_getf (pc := 5) S lf_X11_384 rfl (m_dec e11_fault 3 rfl) g4 ?_
  exact ms_ret (pc := 8) E (m_dec e11_fault 4 rfl) rfl
theorem k11_fault (l : Launch) (d : m_D) (v0 : Int) (h : m_H) : m_Con l d yX11_fault cX11_fault 1 (some .int) 11 (fun r => [m_i r]) [m_r v0] h (t11_fault v0 h) :=
  m_con2 (by decide +kernel) (Nat.le_of_ble_eq_true rfl) (fun Y hN hRm hr hI S hfin => s11_fault S (m_end_i S hr hfin) hRm (Nat.le_refl _) hN v0 h)
set_option maxRecDepth 100000 in
theorem e11_score : ∀ q ∈ ([(0, .aload_n 0, 1), (1, .getfield 457, 3), (4, .bipush 8, 2), (6, .if_icmp .ne 5, 3), (9, .iconst (-1), 1), (10, .ireturn, 1), (11, .aload_n 0, 1), (12, .invokevirtual 454, 3), (15, .aload_n 0, 1), (16, .getfield 384, 3), (19, .iconst (-1), 1), (20, .if_icmp .eq 5, 3), (23, .iconst (-1), 1), (24, .ireturn, 1), (25, .aload_n 0, 1), (26, .iconst 0, 1), (27, .putfield 369, 3), (30, .aload_n 0, 1), (31, .getfield 84, 3), (34, .aload_n 0, 1), (35, .getfield 457, 3), (38, .aload_n 0, 1), (39, .getfield 84, 3), (42, .bipush 8, 2), (44, .iaload, 1), (45, .iastore, 1), (46, .iconst 0, 1), (47, .istore_n 1, 1), (48, .iload_n 1, 1), (49, .bipush 40, 2), (51, .if_icmp .ge 169, 3), (54, .aload_n 0, 1), (55, .getfield 89, 3), (58, .aload_n 0, 1), (59, .getfield 457, 3), (62, .aaload, 1), (63, .iload_n 1, 1), (64, .aload_n 0, 1), (65, .getfield 89, 3), (68, .bipush 8, 2), (70, .aaload, 1), (71, .iload_n 1, 1), (72, .iaload, 1), (73, .iastore, 1), (74, .aload_n 0, 1), (75, .getfield 92, 3), (78, .aload_n 0, 1), (79, .getfield 457, 3), (82, .aaload, 1), (83, .iload_n 1, 1), (84, .aload_n 0, 1), (85, .getfield 92, 3), (88, .bipush 8, 2), (90, .aaload, 1), (91, .iload_n 1, 1), (92, .iaload, 1), (93, .iastore, 1), (94, .aload_n 0, 1), (95, .getfield 95, 3), (98, .aload_n 0, 1), (99, .getfield 457, 3), (102, .aaload, 1), (103, .iload_n 1, 1), (104, .aload_n 0, 1), (105, .getfield 95, 3), (108, .bipush 8, 2), (110, .aaload, 1), (111, .iload_n 1, 1), (112, .iaload, 1), (113, .iastore, 1), (114, .aload_n 0, 1), (115, .getfield 98, 3), (118, .aload_n 0, 1), (119, .getfield 457, 3), (122, .aaload, 1), (123, .iload_n 1, 1), (124, .aload_n 0, 1), (125, .getfield 98, 3), (128, .bipush 8, 2), (130, .aaload, 1), (131, .iload_n 1, 1), (132, .iaload, 1), (133, .iastore, 1), (134, .aload_n 0, 1), (135, .getfield 101, 3), (138, .aload_n 0, 1), (139, .getfield 457, 3), (142, .aaload, 1), (143, .iload_n 1, 1), (144, .aload_n 0, 1), (145, .getfield 101, 3), (148, .bipush 8, 2), (150, .aaload, 1), (151, .iload_n 1, 1), (152, .iaload, 1), (153, .iastore, 1), (154, .aload_n 0, 1), (155, .getfield 104, 3), (158, .aload_n 0, 1), (159, .getfield 457, 3), (162, .aaload, 1), (163, .iload_n 1, 1), (164, .aload_n 0, 1), (165, .getfield 104, 3), (168, .bipush 8, 2), (170, .aaload, 1), (171, .iload_n 1, 1), (172, .iaload, 1), (173, .iastore, 1), (174, .aload_n 0, 1), (175, .getfield 107, 3), (178, .aload_n 0, 1), (179, .getfield 457, 3), (182, .aaload, 1), (183, .iload_n 1, 1), (184, .aload_n 0, 1), (185, .getfield 107, 3), (188, .bipush 8, 2), (190, .aaload, 1), (191, .iload_n 1, 1), (192, .iaload, 1), (193, .iastore, 1), (194, .aload_n 0, 1), (195, .getfield 110, 3), (198, .aload_n 0, 1), (199, .getfield 457, 3), (202, .aaload, 1), (203, .iload_n 1, 1), (204, .aload_n 0, 1), (205, .getfield 110, 3), (208, .bipush 8, 2), (210, .aaload, 1), (211, .iload_n 1, 1), (212, .iaload, 1), (213, .iastore, 1), (214, .iinc 1 1, 3), (217, .goto (-169), 3), (220, .aload_n 0, 1), (221, .dup, 1), (222, .getfield 457, 3), (225, .iconst 1, 1), (226, .iadd, 1), (227, .putfield 457, 3), (230, .aload_n 0, 1), (231, .getfield 457, 3), (234, .iconst 1, 1), (235, .isub, 1), (236, .ireturn, 1)] : List (Nat × Instr × Nat)), decode cX11_score q.1 = .ok q.2 := by decide +kernel
set_option maxHeartbeats 4000000 in
set_option maxRecDepth 20000 in
theorem s11_score_c48 {Y : m_Y Int} (S : m_Std Y RX11 cX11_score) (E : m_End Y cX11_score .ireturn (fun r => [m_i r])) {F : Nat} (hF : m_Rm Y F) (hFn : 11 ≤ F) (hN : Y.2.2.2.1 = 2) : ∀ (v0 v1 : Int) (h : m_H), m_Sim Y 48 [(0, m_r v0), (1, m_i v1)] [] h (t11_score_c48 v0 v1 h) := by
  intro v0 v1 h
  refine ms_all fun r e => ?_
  refine t11_score_c48.partial_correctness v0 (motive := fun v1 h r => m_Sim Y 48 [(0, m_r v0), (1, m_i v1)] [] h (some r)) ?_ v1 h r e
  intro f ih v1 h r e
  have ih : ∀ (v1 : Int) (h : m_H), m_Sim Y 48 [(0, m_r v0), (1, m_i v1)] [] h (f v1 h ) := fun v1 h  => ms_all fun r e => ih v1 h r e
  refine ms_use ?_ e
  clear e r
  refine ms_iload_n (pc := 48) S 1 rfl rfl (m_dec e11_score 28 rfl) ?_
  refine ms_bipush (pc := 49) S (m_dec e11_score 29 rfl) rfl ?_
  refine ms_icmp_ge (pc := 51) S (m_dec e11_score 30 rfl) rfl (fun q1 => ?_) (fun q1 => ?_)
  · refine ms_aload_n (pc := 54) S 0 rfl rfl (m_dec e11_score 31 rfl) ?_
    refine ms_grd fun g2 => ?_
    refine ms_getf (pc := 55) S lf_X11_89 rfl (m_dec e11_score 32 rfl) g2 ?_
    refine ms_aload_n (pc := 58) S 0 rfl rfl (m_dec e11_score 33 rfl) ?_
    refine ms_getf (pc := 59) S lf_X11_457 rfl (m_dec e11_score 34 rfl) g2 ?_
    refine ms_grd fun g3 => ?_
    refine ms_aald (pc := 62) S 29 (by decide) (fun _ => rfl) rfl g3 (m_dec e11_score 35 rfl) ?_
    refine ms_iload_n (pc := 63) S 1 rfl rfl (m_dec e11_score 36 rfl) ?_
    refine ms_aload_n (pc := 64) S 0 rfl rfl (m_dec e11_score 37 rfl) ?_
    refine ms_getf (pc := 65) S lf_X11_89 rfl (m_dec e11_score 38 rfl) g2 ?_
    refine ms_bipush (pc := 68) S (m_dec e11_score 39 rfl) rfl ?_
    refine ms_grd fun g4 => ?_
    refine ms_aald (pc := 70) S 29 (by decide) (fun _ => rfl) rfl g4 (m_dec e11_score 40 rfl) ?_
    refine ms_iload_n (pc := 71) S 1 rfl rfl (m_dec e11_score 41 rfl) ?_
    refine ms_grd fun g5 => ?_
    refine ms_iald (pc := 72) S g5 (m_dec e11_score 42 rfl) ?_
    refine ms_grd fun g6 => ?_
    refine ms_iast (pc := 73) S g6 (m_dec e11_score 43 rfl) (fun h7 => ?_)
    refine ms_aload_n (pc := 74) S 0 rfl rfl (m_dec e11_score 44 rfl) ?_
    refine ms_grd fun g8 => ?_
    refine ms_getf (pc := 75) S lf_X11_92 rfl (m_dec e11_score 45 rfl) g8 ?_
    refine ms_aload_n (pc := 78) S 0 rfl rfl (m_dec e11_score 46 rfl) ?_
    refine ms_getf (pc := 79) S lf_X11_457 rfl (m_dec e11_score 47 rfl) g8 ?_
    refine ms_grd fun g9 => ?_
    refine ms_aald (pc := 82) S 29 (by decide) (fun _ => rfl) rfl g9 (m_dec e11_score 48 rfl) ?_
    refine ms_iload_n (pc := 83) S 1 rfl rfl (m_dec e11_score 49 rfl) ?_
    refine ms_aload_n (pc := 84) S 0 rfl rfl (m_dec e11_score 50 rfl) ?_
    refine ms_getf (pc := 85) S lf_X11_92 rfl (m_dec e11_score 51 rfl) g8 ?_
    refine ms_bipush (pc := 88) S (m_dec e11_score 52 rfl) rfl ?_
    refine ms_grd fun g10 => ?_
    refine ms_aald (pc := 90) S 29 (by decide) (fun _ => rfl) rfl g10 (m_dec e11_score 53 rfl) ?_
    refine ms_iload_n (pc := 91) S 1 rfl rfl (m_dec e11_score 54 rfl) ?_
    refine ms_grd fun g11 => ?_
    refine ms_iald (pc := 92) S g11 (m_dec e11_score 55 rfl) ?_
    refine ms_grd fun g12 => ?_
    refine ms_iast (pc := 93) S g12 (m_dec e11_score 56 rfl) (fun h13 => ?_)
    refine ms_aload_n (pc := 94) S 0 rfl rfl (m_dec e11_score 57 rfl) ?_
    refine ms_grd fun g14 => ?_
    refine ms_getf (pc := 95) S lf_X11_95 rfl (m_dec e11_score 58 rfl) g14 ?_
    refine ms_aload_n (pc := 98) S 0 rfl rfl (m_dec e11_score 59 rfl) ?_
    refine ms_getf (pc := 99) S lf_X11_457 rfl (m_dec e11_score 60 rfl) g14 ?_
    refine ms_grd fun g15 => ?_
    refine ms_aald (pc := 102) S 29 (by decide) (fun _ => rfl) rfl g15 (m_dec e11_score 61 rfl) ?_
    refine ms_iload_n (pc := 103) S 1 rfl rfl (m_dec e11_score 62 rfl) ?_
    refine ms_aload_n (pc := 104) S 0 rfl rfl (m_dec e11_score 63 rfl) ?_
    refine ms_getf (pc := 105) S lf_X11_95 rfl (m_dec e11_score 64 rfl) g14 ?_
    refine ms_bipush (pc := 108) S (m_dec e11_score 65 rfl) rfl ?_
    refine ms_grd fun g16 => ?_
    refine ms_aald (pc := 110) S 29 (by decide) (fun _ => rfl) rfl g16 (m_dec e11_score 66 rfl) ?_
    refine ms_iload_n (pc := 111) S 1 rfl rfl (m_dec e11_score 67 rfl) ?_
    refine ms_grd fun g17 => ?_
    refine ms_iald (pc := 112) S g17 (m_dec e11_score 68 rfl) ?_
    refine ms_grd fun g18 => ?_
    refine ms_iast (pc := 113) S g18 (m_dec e11_score 69 rfl) (fun h19 => ?_)
    refine ms_aload_n (pc := 114) S 0 rfl rfl (m_dec e11_score 70 rfl) ?_
    refine ms_grd fun g20 => ?_
    refine ms_getf (pc := 115) S lf_X11_98 rfl (m_dec e11_score 71 rfl) g20 ?_
    refine ms_aload_n (pc := 118) S 0 rfl rfl (m_dec e11_score 72 rfl) ?_
    refine ms_getf (pc := 119) S lf_X11_457 rfl (m_dec e11_score 73 rfl) g20 ?_
    refine ms_grd fun g21 => ?_
    refine ms_aald (pc := 122) S 29 (by decide) (fun _ => rfl) rfl g21 (m_dec e11_score 74 rfl) ?_
    refine ms_iload_n (pc := 123) S 1 rfl rfl (m_dec e11_score 75 rfl) ?_
    refine ms_aload_n (pc := 124) S 0 rfl rfl (m_dec e11_score 76 rfl) ?_
    refine ms_getf (pc := 125) S lf_X11_98 rfl (m_dec e11_score 77 rfl) g20 ?_
    refine ms_bipush (pc := 128) S (m_dec e11_score 78 rfl) rfl ?_
    refine ms_grd fun g22 => ?_
    refine ms_aald (pc := 130) S 29 (by decide) (fun _ => rfl) rfl g22 (m_dec e11_score 79 rfl) ?_
    refine ms_iload_n (pc := 131) S 1 rfl rfl (m_dec e11_score 80 rfl) ?_
    refine ms_grd fun g23 => ?_
    refine ms_iald (pc := 132) S g23 (m_dec e11_score 81 rfl) ?_
    refine ms_grd fun g24 => ?_
    refine ms_iast (pc := 133) S g24 (m_dec e11_score 82 rfl) (fun h25 => ?_)
    refine ms_aload_n (pc := 134) S 0 rfl rfl (m_dec e11_score 83 rfl) ?_
    refine ms_grd fun g26 => ?_
    refine ms_getf (pc := 135) S lf_X11_101 rfl (m_dec e11_score 84 rfl) g26 ?_
    refine ms_aload_n (pc := 138) S 0 rfl rfl (m_dec e11_score 85 rfl) ?_
    refine ms_getf (pc := 139) S lf_X11_457 rfl (m_dec e11_score 86 rfl) g26 ?_
    refine ms_grd fun g27 => ?_
    refine ms_aald (pc := 142) S 29 (by decide) (fun _ => rfl) rfl g27 (m_dec e11_score 87 rfl) ?_
    refine ms_iload_n (pc := 143) S 1 rfl rfl (m_dec e11_score 88 rfl) ?_
    refine ms_aload_n (pc := 144) S 0 rfl rfl (m_dec e11_score 89 rfl) ?_
    refine ms_getf (pc := 145) S lf_X11_101 rfl (m_dec e11_score 90 rfl) g26 ?_
    refine ms_bipush (pc := 148) S (m_dec e11_score 91 rfl) rfl ?_
    refine ms_grd fun g28 => ?_
    refine ms_aald (pc := 150) S 29 (by decide) (fun _ => rfl) rfl g28 (m_dec e11_score 92 rfl) ?_
    refine ms_iload_n (pc := 151) S 1 rfl rfl (m_dec e11_score 93 rfl) ?_
    refine ms_grd fun g29 => ?_
    refine ms_iald (pc := 152) S g29 (m_dec e11_score 94 rfl) ?_
    refine ms_grd fun g30 => ?_
    refine ms_iast (pc := 153) S g30 (m_dec e11_score 95 rfl) (fun h31 => ?_)
    refine ms_aload_n (pc := 154) S 0 rfl rfl (m_dec e11_score 96 rfl) ?_
    refine ms_grd fun g32 => ?_
    refine ms_getf (pc := 155) S lf_X11_104 rfl (m_dec e11_score 97 rfl) g32 ?_
    refine ms_aload_n (pc := 158) S 0 rfl rfl (m_dec e11_score 98 rfl) ?_
    refine ms_getf (pc := 159) S lf_X11_457 rfl (m_dec e11_score 99 rfl) g32 ?_
    refine ms_grd fun g33 => ?_
    refine ms_aald (pc := 162) S 29 (by decide) (fun _ => rfl) rfl g33 (m_dec e11_score 100 rfl) ?_
    refine ms_iload_n (pc := 163) S 1 rfl rfl (m_dec e11_score 101 rfl) ?_
    refine ms_aload_n (pc := 164) S 0 rfl rfl (m_dec e11_score 102 rfl) ?_
    refine ms_getf (pc := 165) S lf_X11_104 rfl (m_dec e11_score 103 rfl) g32 ?_
    refine ms_bipush (pc := 168) S (m_dec e11_score 104 rfl) rfl ?_
    refine ms_grd fun g34 => ?_
    refine ms_aald (pc := 170) S 29 (by decide) (fun _ => rfl) rfl g34 (m_dec e11_score 105 rfl) ?_
    refine ms_iload_n (pc := 171) S 1 rfl rfl (m_dec e11_score 106 rfl) ?_
    refine ms_grd fun g35 => ?_
    refine ms_iald (pc := 172) S g35 (m_dec e11_score 107 rfl) ?_
    refine ms_grd fun g36 => ?_
    refine ms_iast (pc := 173) S g36 (m_dec e11_score 108 rfl) (fun h37 => ?_)
    refine ms_aload_n (pc := 174) S 0 rfl rfl (m_dec e11_score 109 rfl) ?_
    refine ms_grd fun g38 => ?_
    refine ms_getf (pc := 175) S lf_X11_107 rfl (m_dec e11_score 110 rfl) g38 ?_
    refine ms_aload_n (pc := 178) S 0 rfl rfl (m_dec e11_score 111 rfl) ?_
    refine ms_getf (pc := 179) S lf_X11_457 rfl (m_dec e11_score 112 rfl) g38 ?_
    refine ms_grd fun g39 => ?_
    refine ms_aald (pc := 182) S 29 (by decide) (fun _ => rfl) rfl g39 (m_dec e11_score 113 rfl) ?_
    refine ms_iload_n (pc := 183) S 1 rfl rfl (m_dec e11_score 114 rfl) ?_
    refine ms_aload_n (pc := 184) S 0 rfl rfl (m_dec e11_score 115 rfl) ?_
    refine ms_getf (pc := 185) S lf_X11_107 rfl (m_dec e11_score 116 rfl) g38 ?_
    refine ms_bipush (pc := 188) S (m_dec e11_score 117 rfl) rfl ?_
    refine ms_grd fun g40 => ?_
    refine ms_aald (pc := 190) S 29 (by decide) (fun _ => rfl) rfl g40 (m_dec e11_score 118 rfl) ?_
    refine ms_iload_n (pc := 191) S 1 rfl rfl (m_dec e11_score 119 rfl) ?_
    refine ms_grd fun g41 => ?_
    refine ms_iald (pc := 192) S g41 (m_dec e11_score 120 rfl) ?_
    refine ms_grd fun g42 => ?_
    refine ms_iast (pc := 193) S g42 (m_dec e11_score 121 rfl) (fun h43 => ?_)
    refine ms_aload_n (pc := 194) S 0 rfl rfl (m_dec e11_score 122 rfl) ?_
    refine ms_grd fun g44 => ?_
    refine ms_getf (pc := 195) S lf_X11_110 rfl (m_dec e11_score 123 rfl) g44 ?_
    refine ms_aload_n (pc := 198) S 0 rfl rfl (m_dec e11_score 124 rfl) ?_
    refine ms_getf (pc := 199) S lf_X11_457 rfl (m_dec e11_score 125 rfl) g44 ?_
    refine ms_grd fun g45 => ?_
    refine ms_aald (pc := 202) S 29 (by decide) (fun _ => rfl) rfl g45 (m_dec e11_score 126 rfl) ?_
    refine ms_iload_n (pc := 203) S 1 rfl rfl (m_dec e11_score 127 rfl) ?_
    refine ms_aload_n (pc := 204) S 0 rfl rfl (m_dec e11_score 128 rfl) ?_
    refine ms_getf (pc := 205) S lf_X11_110 rfl (m_dec e11_score 129 rfl) g44 ?_
    refine ms_bipush (pc := 208) S (m_dec e11_score 130 rfl) rfl ?_
    refine ms_grd fun g46 => ?_
    refine ms_aald (pc := 210) S 29 (by decide) (fun _ => rfl) rfl g46 (m_dec e11_score 131 rfl) ?_
    refine ms_iload_n (pc := 211) S 1 rfl rfl (m_dec e11_score 132 rfl) ?_
    refine ms_grd fun g47 => ?_
    refine ms_iald (pc := 212) S g47 (m_dec e11_score 133 rfl) ?_
    refine ms_grd fun g48 => ?_
    refine ms_iast (pc := 213) S g48 (m_dec e11_score 134 rfl) (fun h49 => ?_)
    refine ms_iinc (pc := 214) S (L' := [(0, m_r v0), (1, m_i (v1 + 1))]) 1 rfl [1, 0] rfl (m_lt hN rfl) (m_dec e11_score 135 rfl) ?_
    refine ms_goto (pc := 217) S (m_dec e11_score 136 rfl) rfl ?_
    exact ih (v1 + 1) h49
  · refine ms_aload_n (pc := 220) S 0 rfl rfl (m_dec e11_score 137 rfl) ?_
    refine ms_dup (pc := 221) S rfl (m_dec e11_score 138 rfl) ?_
    refine ms_grd fun g50 => ?_
    refine ms_getf (pc := 222) S lf_X11_457 rfl (m_dec e11_score 139 rfl) g50 ?_
    refine ms_iconst (pc := 225) S (m_dec e11_score 140 rfl) ?_
    refine ms_iadd (pc := 226) S (m_dec e11_score 141 rfl) ?_
    refine ms_putf (pc := 227) S lp_X11_457 (fun z => by cases z) rfl (fun d => m_fitI d _) (m_dec e11_score 142 rfl) g50 (fun h51 => ?_)
    refine ms_aload_n (pc := 230) S 0 rfl rfl (m_dec e11_score 143 rfl) ?_
    refine ms_grd fun g52 => ?_
    refine ms_getf (pc := 231) S lf_X11_457 rfl (m_dec e11_score 144 rfl) g52 ?_
    refine ms_iconst (pc := 234) S (m_dec e11_score 145 rfl) ?_
    refine ms_isub (pc := 235) S (m_dec e11_score 146 rfl) ?_
    exact ms_ret (pc := 236) E (m_dec e11_score 147 rfl) rfl
set_option maxHeartbeats 4000000 in
set_option maxRecDepth 20000 in
theorem s11_score {Y : m_Y Int} (S : m_Std Y RX11 cX11_score) (E : m_End Y cX11_score .ireturn (fun r => [m_i r])) {F : Nat} (hF : m_Rm Y F) (hFn : 11 ≤ F) (hN : Y.2.2.2.1 = 2) (v0 : Int) (h : m_H) : m_Sim Y 0 [(0, m_r v0)] [] h (t11_score v0 h) := by
  unfold t11_score
  refine ms_aload_n (pc := 0) S 0 rfl rfl (m_dec e11_score 0 rfl) ?_
  refine ms_grd fun g1 => ?_
  refine ms_getf (pc := 1) S lf_X11_457 rfl (m_dec e11_score 1 rfl) g1 ?_
  refine ms_bipush (pc := 4) S (m_dec e11_score 2 rfl) rfl ?_
  refine ms_icmp_ne (pc := 6) S (m_dec e11_score 3 rfl) rfl (fun q2 => ?_) (fun q2 => ?_)
  · refine ms_iconst (pc := 9) S (m_dec e11_score 4 rfl) ?_
    exact ms_ret (pc := 10) E (m_dec e11_score 5 rfl) rfl
  · refine ms_aload_n (pc := 11) S 0 rfl rfl (m_dec e11_score 6 rfl) ?_
    refine ms_callVv (pc := 12) S hF (vals := []) (st := []) (hc := vw_11) (hci := by decide) (hcy := rfl) (ht := g1) (hC := (k11_reads _ _ v0 h)) (hM := lm_X11_454) (hfr := (Nat.le_trans (by decide) hFn)) (hstk := rfl) (hcat := Nat.le_of_ble_eq_true rfl) (hd := (m_dec e11_score 7 rfl)) (k1 := fun h3 => ?_)
    refine ms_aload_n (pc := 15) S 0 rfl rfl (m_dec e11_score 8 rfl) ?_
    refine ms_grd fun g5 => ?_
    refine ms_getf (pc := 16) S lf_X11_384 rfl (m_dec e11_score 9 rfl) g5 ?_
    refine ms_iconst (pc := 19) S (m_dec e11_score 10 rfl) ?_
    refine ms_icmp_eq (pc := 20) S (m_dec e11_score 11 rfl) rfl (fun q6 => ?_) (fun q6 => ?_)
    · refine ms_aload_n (pc := 25) S 0 rfl rfl (m_dec e11_score 14 rfl) ?_
      refine ms_iconst (pc := 26) S (m_dec e11_score 15 rfl) ?_
      refine ms_putf (pc := 27) S lp_X11_369 (fun z => by cases z) rfl (fun d => m_fitI d _) (m_dec e11_score 16 rfl) g5 (fun h7 => ?_)
      refine ms_aload_n (pc := 30) S 0 rfl rfl (m_dec e11_score 17 rfl) ?_
      refine ms_grd fun g8 => ?_
      refine ms_getf (pc := 31) S lf_X11_84 rfl (m_dec e11_score 18 rfl) g8 ?_
      refine ms_aload_n (pc := 34) S 0 rfl rfl (m_dec e11_score 19 rfl) ?_
      refine ms_getf (pc := 35) S lf_X11_457 rfl (m_dec e11_score 20 rfl) g8 ?_
      refine ms_aload_n (pc := 38) S 0 rfl rfl (m_dec e11_score 21 rfl) ?_
      refine ms_getf (pc := 39) S lf_X11_84 rfl (m_dec e11_score 22 rfl) g8 ?_
      refine ms_bipush (pc := 42) S (m_dec e11_score 23 rfl) rfl ?_
      refine ms_grd fun g9 => ?_
      refine ms_iald (pc := 44) S g9 (m_dec e11_score 24 rfl) ?_
      refine ms_grd fun g10 => ?_
      refine ms_iast (pc := 45) S g10 (m_dec e11_score 25 rfl) (fun h11 => ?_)
      refine ms_iconst (pc := 46) S (m_dec e11_score 26 rfl) ?_
      refine ms_istore_n (pc := 47) S (L' := [(0, m_r v0), (1, m_i 0)]) [1, 0] rfl rfl (m_lt hN rfl) (m_dec e11_score 27 rfl) ?_
      exact s11_score_c48 S E hF hFn hN v0 0 h11
    · refine ms_iconst (pc := 23) S (m_dec e11_score 12 rfl) ?_
      exact ms_ret (pc := 24) E (m_dec e11_score 13 rfl) rfl
theorem k11_score (l : Launch) (d : m_D) (v0 : Int) (h : m_H) : m_Con l d yX11_score cX11_score 2 (some .int) 11 (fun r => [m_i r]) [m_r v0] h (t11_score v0 h) :=
  m_con2 (by decide +kernel) (Nat.le_of_ble_eq_true rfl) (fun Y hN hRm hr hI S hfin => s11_score S (m_end_i S hr hfin) hRm (Nat.le_refl _) hN v0 h)
set_option maxRecDepth 100000 in
theorem e11_isScore : ∀ q ∈ ([(0, .iload_n 1, 1), (1, .i2l, 1), (2, .lconst 0, 1), (3, .aload_n 0, 1), (4, .getfield 457, 3), (7, .iconst 1, 1), (8, .isub, 1), (9, .i2l, 1), (10, .invokestatic 268, 3), (13, .ireturn, 1)] : List (Nat × Instr × Nat)), decode cX11_isScore q.1 = .ok q.2 := by decide +kernel
set_option maxHeartbeats 4000000 in
set_option maxRecDepth 20000 in
theorem s11_isScore {Y : m_Y Bool} (S : m_Std Y RX11 cX11_isScore) (E : m_End Y cX11_isScore .ireturn (fun r => [m_i (m_b2i r)])) {F : Nat} (hF : m_Rm Y F) (hFn : 1 ≤ F) (hN : Y.2.2.2.1 = 2) (v0 v1 : Int) (h : m_H) : m_Sim Y 0 [(0, m_r v0), (1, m_i v1)] [] h (t11_isScore v0 v1 h) := by
  unfold t11_isScore
  refine ms_iload_n (pc := 0) S 1 rfl rfl (m_dec e11_isScore 0 rfl) ?_
  refine ms_i2l (pc := 1) S (m_dec e11_isScore 1 rfl) ?_
  refine ms_lconst (pc := 2) S (n := 0) rfl (m_dec e11_isScore 2 rfl) ?_
  refine ms_aload_n (pc := 3) S 0 rfl rfl (m_dec e11_isScore 3 rfl) ?_
  refine ms_grd fun g1 => ?_
  refine ms_getf (pc := 4) S lf_X11_457 rfl (m_dec e11_isScore 4 rfl) g1 ?_
  refine ms_iconst (pc := 7) S (m_dec e11_isScore 5 rfl) ?_
  refine ms_isub (pc := 8) S (m_dec e11_isScore 6 rfl) ?_
  refine ms_i2l (pc := 9) S (m_dec e11_isScore 7 rfl) ?_
  refine ms_callSz (pc := 10) S hF (vals := [m_j (m_w v1), m_j 0, m_j (m_w ((m_g h v0 43) - 1))]) (st := [])  (hC := (k11_in _ _ (m_w v1) 0 (m_w ((m_g h v0 43) - 1)) h)) (hM := lm_X11_268) (hfr := (Nat.le_trans (by decide) hFn)) (hstk := rfl) (hcat := Nat.le_of_ble_eq_true rfl) (hd := (m_dec e11_isScore 8 rfl)) (k1 := fun r3 h2 => ?_)
  exact ms_ret (pc := 13) E (m_dec e11_isScore 9 rfl) rfl
theorem k11_isScore (l : Launch) (d : m_D) (v0 v1 : Int) (h : m_H) : m_Con l d yX11_isScore cX11_isScore 2 (some .boolean) 1 (fun r => [m_i (m_b2i r)]) [m_r v0, m_i v1] h (t11_isScore v0 v1 h) :=
  m_con2 (by decide +kernel) (Nat.le_of_ble_eq_true rfl) (fun Y hN hRm hr hI S hfin => s11_isScore S (m_end_z S hr hfin) hRm (Nat.le_refl _) hN v0 v1 h)
set_option maxRecDepth 100000 in
theorem e11_lists : ∀ q ∈ ([(0, .iconst 0, 1), (1, .istore_n 3, 1), (2, .iload_n 3, 1), (3, .aload_n 0, 1), (4, .getfield 181, 3), (7, .iload_n 2, 1), (8, .iaload, 1), (9, .if_icmp .ge 23, 3), (12, .aload_n 0, 1), (13, .getfield 77, 3), (16, .iload_n 3, 1), (17, .aload_n 0, 1), (18, .getfield 178, 3), (21, .iload_n 2, 1), (22, .aaload, 1), (23, .iload_n 3, 1), (24, .iaload, 1), (25, .iastore, 1), (26, .iinc 3 1, 3), (29, .goto (-27), 3), (32, .aload_n 0, 1), (33, .getfield 181, 3), (36, .iload_n 1, 1), (37, .aload_n 0, 1), (38, .getfield 181, 3), (41, .iload_n 2, 1), (42, .iaload, 1), (43, .iastore, 1), (44, .iconst 0, 1), (45, .istore_n 3, 1), (46, .iload_n 3, 1), (47, .aload_n 0, 1), (48, .getfield 181, 3), (51, .iload_n 1, 1), (52, .iaload, 1), (53, .if_icmp .ge 23, 3), (56, .aload_n 0, 1), (57, .getfield 178, 3), (60, .iload_n 1, 1), (61, .aaload, 1), (62, .iload_n 3, 1), (63, .aload_n 0, 1), (64, .getfield 77, 3), (67, .iload_n 3, 1), (68, .iaload, 1), (69, .iastore, 1), (70, .iinc 3 1, 3), (73, .goto (-27), 3), (76, .return_, 1)] : List (Nat × Instr × Nat)), decode cX11_lists q.1 = .ok q.2 := by decide +kernel
set_option maxHeartbeats 4000000 in
set_option maxRecDepth 20000 in
theorem s11_lists_c46 {Y : m_Y Unit} (S : m_Std Y RX11 cX11_lists) (E : m_End Y cX11_lists .return_ (fun _ => [])) {F : Nat} (hF : m_Rm Y F) (hFn : 0 ≤ F) (hN : Y.2.2.2.1 = 4) : ∀ (v0 v1 v3 : Int) (h : m_H), m_Sim Y 46 [(0, m_r v0), (1, m_i v1), (3, m_i v3)] [] h (t11_lists_c46 v0 v1 v3 h) := by
  intro v0 v1 v3 h
  refine ms_all fun r e => ?_
  refine t11_lists_c46.partial_correctness v0 v1 (motive := fun v3 h r => m_Sim Y 46 [(0, m_r v0), (1, m_i v1), (3, m_i v3)] [] h (some r)) ?_ v3 h r e
  intro f ih v3 h r e
  have ih : ∀ (v3 : Int) (h : m_H), m_Sim Y 46 [(0, m_r v0), (1, m_i v1), (3, m_i v3)] [] h (f v3 h ) := fun v3 h  => ms_all fun r e => ih v3 h r e
  refine ms_use ?_ e
  clear e r
  refine ms_iload_n (pc := 46) S 2 rfl rfl (m_dec e11_lists 30 rfl) ?_
  refine ms_aload_n (pc := 47) S 0 rfl rfl (m_dec e11_lists 31 rfl) ?_
  refine ms_grd fun g1 => ?_
  refine ms_getf (pc := 48) S lf_X11_181 rfl (m_dec e11_lists 32 rfl) g1 ?_
  refine ms_iload_n (pc := 51) S 1 rfl rfl (m_dec e11_lists 33 rfl) ?_
  refine ms_grd fun g2 => ?_
  refine ms_iald (pc := 52) S g2 (m_dec e11_lists 34 rfl) ?_
  refine ms_icmp_ge (pc := 53) S (m_dec e11_lists 35 rfl) rfl (fun q3 => ?_) (fun q3 => ?_)
  · refine ms_aload_n (pc := 56) S 0 rfl rfl (m_dec e11_lists 36 rfl) ?_
    refine ms_getf (pc := 57) S lf_X11_178 rfl (m_dec e11_lists 37 rfl) g1 ?_
    refine ms_iload_n (pc := 60) S 1 rfl rfl (m_dec e11_lists 38 rfl) ?_
    refine ms_grd fun g4 => ?_
    refine ms_aald (pc := 61) S 29 (by decide) (fun _ => rfl) rfl g4 (m_dec e11_lists 39 rfl) ?_
    refine ms_iload_n (pc := 62) S 2 rfl rfl (m_dec e11_lists 40 rfl) ?_
    refine ms_aload_n (pc := 63) S 0 rfl rfl (m_dec e11_lists 41 rfl) ?_
    refine ms_getf (pc := 64) S lf_X11_77 rfl (m_dec e11_lists 42 rfl) g1 ?_
    refine ms_iload_n (pc := 67) S 2 rfl rfl (m_dec e11_lists 43 rfl) ?_
    refine ms_grd fun g5 => ?_
    refine ms_iald (pc := 68) S g5 (m_dec e11_lists 44 rfl) ?_
    refine ms_grd fun g6 => ?_
    refine ms_iast (pc := 69) S g6 (m_dec e11_lists 45 rfl) (fun h7 => ?_)
    refine ms_iinc (pc := 70) S (L' := [(0, m_r v0), (1, m_i v1), (3, m_i (v3 + 1))]) 2 rfl [1, 2, 0] rfl (m_lt hN rfl) (m_dec e11_lists 46 rfl) ?_
    refine ms_goto (pc := 73) S (m_dec e11_lists 47 rfl) rfl ?_
    exact ih (v3 + 1) h7
  · exact ms_ret (pc := 76) E (m_dec e11_lists 48 rfl) rfl
set_option maxHeartbeats 4000000 in
set_option maxRecDepth 20000 in
theorem s11_lists_c2 {Y : m_Y Unit} (S : m_Std Y RX11 cX11_lists) (E : m_End Y cX11_lists .return_ (fun _ => [])) {F : Nat} (hF : m_Rm Y F) (hFn : 0 ≤ F) (hN : Y.2.2.2.1 = 4) : ∀ (v0 v1 v2 v3 : Int) (h : m_H), m_Sim Y 2 [(0, m_r v0), (1, m_i v1), (2, m_i v2), (3, m_i v3)] [] h (t11_lists_c2 v0 v1 v2 v3 h) := by
  intro v0 v1 v2 v3 h
  refine ms_all fun r e => ?_
  refine t11_lists_c2.partial_correctness v0 v1 v2 (motive := fun v3 h r => m_Sim Y 2 [(0, m_r v0), (1, m_i v1), (2, m_i v2), (3, m_i v3)] [] h (some r)) ?_ v3 h r e
  intro f ih v3 h r e
  have ih : ∀ (v3 : Int) (h : m_H), m_Sim Y 2 [(0, m_r v0), (1, m_i v1), (2, m_i v2), (3, m_i v3)] [] h (f v3 h ) := fun v3 h  => ms_all fun r e => ih v3 h r e
  refine ms_use ?_ e
  clear e r
  refine ms_iload_n (pc := 2) S 3 rfl rfl (m_dec e11_lists 2 rfl) ?_
  refine ms_aload_n (pc := 3) S 0 rfl rfl (m_dec e11_lists 3 rfl) ?_
  refine ms_grd fun g1 => ?_
  refine ms_getf (pc := 4) S lf_X11_181 rfl (m_dec e11_lists 4 rfl) g1 ?_
  refine ms_iload_n (pc := 7) S 2 rfl rfl (m_dec e11_lists 5 rfl) ?_
  refine ms_grd fun g2 => ?_
  refine ms_iald (pc := 8) S g2 (m_dec e11_lists 6 rfl) ?_
  refine ms_icmp_ge (pc := 9) S (m_dec e11_lists 7 rfl) rfl (fun q3 => ?_) (fun q3 => ?_)
  · refine ms_aload_n (pc := 12) S 0 rfl rfl (m_dec e11_lists 8 rfl) ?_
    refine ms_getf (pc := 13) S lf_X11_77 rfl (m_dec e11_lists 9 rfl) g1 ?_
    refine ms_iload_n (pc := 16) S 3 rfl rfl (m_dec e11_lists 10 rfl) ?_
    refine ms_aload_n (pc := 17) S 0 rfl rfl (m_dec e11_lists 11 rfl) ?_
    refine ms_getf (pc := 18) S lf_X11_178 rfl (m_dec e11_lists 12 rfl) g1 ?_
    refine ms_iload_n (pc := 21) S 2 rfl rfl (m_dec e11_lists 13 rfl) ?_
    refine ms_grd fun g4 => ?_
    refine ms_aald (pc := 22) S 29 (by decide) (fun _ => rfl) rfl g4 (m_dec e11_lists 14 rfl) ?_
    refine ms_iload_n (pc := 23) S 3 rfl rfl (m_dec e11_lists 15 rfl) ?_
    refine ms_grd fun g5 => ?_
    refine ms_iald (pc := 24) S g5 (m_dec e11_lists 16 rfl) ?_
    refine ms_grd fun g6 => ?_
    refine ms_iast (pc := 25) S g6 (m_dec e11_lists 17 rfl) (fun h7 => ?_)
    refine ms_iinc (pc := 26) S (L' := [(0, m_r v0), (1, m_i v1), (2, m_i v2), (3, m_i (v3 + 1))]) 3 rfl [1, 2, 3, 0] rfl (m_lt hN rfl) (m_dec e11_lists 18 rfl) ?_
    refine ms_goto (pc := 29) S (m_dec e11_lists 19 rfl) rfl ?_
    exact ih (v3 + 1) h7
  · refine ms_aload_n (pc := 32) S 0 rfl rfl (m_dec e11_lists 20 rfl) ?_
    refine ms_getf (pc := 33) S lf_X11_181 rfl (m_dec e11_lists 21 rfl) g1 ?_
    refine ms_iload_n (pc := 36) S 1 rfl rfl (m_dec e11_lists 22 rfl) ?_
    refine ms_aload_n (pc := 37) S 0 rfl rfl (m_dec e11_lists 23 rfl) ?_
    refine ms_getf (pc := 38) S lf_X11_181 rfl (m_dec e11_lists 24 rfl) g1 ?_
    refine ms_iload_n (pc := 41) S 2 rfl rfl (m_dec e11_lists 25 rfl) ?_
    refine ms_iald (pc := 42) S g2 (m_dec e11_lists 26 rfl) ?_
    refine ms_grd fun g8 => ?_
    refine ms_iast (pc := 43) S g8 (m_dec e11_lists 27 rfl) (fun h9 => ?_)
    refine ms_iconst (pc := 44) S (m_dec e11_lists 28 rfl) ?_
    refine ms_istore_n (pc := 45) S (L' := [(0, m_r v0), (1, m_i v1), (3, m_i 0)]) [1, 2, 0] rfl rfl (m_lt hN rfl) (m_dec e11_lists 29 rfl) ?_
    exact s11_lists_c46 S E hF hFn hN v0 v1 0 h9
set_option maxHeartbeats 4000000 in
set_option maxRecDepth 20000 in
theorem s11_lists {Y : m_Y Unit} (S : m_Std Y RX11 cX11_lists) (E : m_End Y cX11_lists .return_ (fun _ => [])) {F : Nat} (hF : m_Rm Y F) (hFn : 0 ≤ F) (hN : Y.2.2.2.1 = 4) (v0 v1 v2 : Int) (h : m_H) : m_Sim Y 0 [(0, m_r v0), (1, m_i v1), (2, m_i v2)] [] h (t11_lists v0 v1 v2 h) := by
  unfold t11_lists
  refine ms_iconst (pc := 0) S (m_dec e11_lists 0 rfl) ?_
  refine ms_istore_n (pc := 1) S (L' := [(0, m_r v0), (1, m_i v1), (2, m_i v2), (3, m_i 0)]) [1, 2, 3, 0] rfl rfl (m_lt hN rfl) (m_dec e11_lists 1 rfl) ?_
  exact s11_lists_c2 S E hF hFn hN v0 v1 v2 0 h
theorem k11_lists (l : Launch) (d : m_D) (v0 v1 v2 : Int) (h : m_H) : m_Con l d yX11_lists cX11_lists 4 none 0 (fun _ => []) [m_r v0, m_i v1, m_i v2] h (t11_lists v0 v1 v2 h) :=
  m_con2 (by decide +kernel) (Nat.le_of_ble_eq_true rfl) (fun Y hN hRm hr hI S hfin => s11_lists S (m_end_v S hr hfin) hRm (Nat.le_refl _) hN v0 v1 v2 h)
set_option maxRecDepth 100000 in
theorem e11_stripOf : ∀ q ∈ ([(0, .aload_n 0, 1), (1, .getfield 89, 3), (4, .iload_n 1, 1), (5, .aaload, 1), (6, .iload_n 2, 1), (7, .iaload, 1), (8, .ifCond .ne 31, 3), (11, .aload_n 0, 1), (12, .aload_n 0, 1), (13, .getfield 98, 3), (16, .iload_n 1, 1), (17, .aaload, 1), (18, .iload_n 2, 1), (19, .iaload, 1), (20, .invokevirtual 308, 3), (23, .ifCond .eq 14, 3), (26, .aload_n 0, 1), (27, .getfield 98, 3), (30, .iload_n 1, 1), (31, .aaload, 1), (32, .iload_n 2, 1), (33, .iaload, 1), (34, .goto 4, 3), (37, .iconst (-1), 1), (38, .ireturn, 1), (39, .iconst 0, 1), (40, .istore 4, 2), (42, .iload 4, 2), (44, .aload_n 0, 1), (45, .getfield 265, 3), (48, .if_icmp .ge 39, 3), (51, .aload_n 0, 1), (52, .iload 4, 2), (54, .invokevirtual 308, 3), (57, .ifCond .eq 24, 3), (60, .aload_n 0, 1), (61, .iload 4, 2), (63, .iload_n 3, 1), (64, .invokevirtual 365, 3), (67, .aload_n 0, 1), (68, .getfield 98, 3), (71, .iload_n 1, 1), (72, .aaload, 1), (73, .iload_n 2, 1), (74, .iaload, 1), (75, .if_icmp .ne 6, 3), (78, .iload 4, 2), (80, .ireturn, 1), (81, .iinc 4 1, 3), (84, .goto (-42), 3), (87, .iconst (-1), 1), (88, .ireturn, 1)] : List (Nat × Instr × Nat)), decode cX11_stripOf q.1 = .ok q.2 := by decide +kernel
set_option maxHeartbeats 4000000 in
set_option maxRecDepth 20000 in
theorem s11_stripOf_c42 {Y : m_Y Int} (S : m_Std Y RX11 cX11_stripOf) (E : m_End Y cX11_stripOf .ireturn (fun r => [m_i r])) {F : Nat} (hF : m_Rm Y F) (hFn : 3 ≤ F) (hN : Y.2.2.2.1 = 5) : ∀ (v0 v1 v2 v3 v4 : Int) (h : m_H), m_Sim Y 42 [(0, m_r v0), (1, m_i v1), (2, m_i v2), (3, m_i v3), (4, m_i v4)] [] h (t11_stripOf_c42 v0 v1 v2 v3 v4 h) := by
  intro v0 v1 v2 v3 v4 h
  refine ms_all fun r e => ?_
  refine t11_stripOf_c42.partial_correctness v0 v1 v2 v3 (motive := fun v4 h r => m_Sim Y 42 [(0, m_r v0), (1, m_i v1), (2, m_i v2), (3, m_i v3), (4, m_i v4)] [] h (some r)) ?_ v4 h r e
  intro f ih v4 h r e
  have ih : ∀ (v4 : Int) (h : m_H), m_Sim Y 42 [(0, m_r v0), (1, m_i v1), (2, m_i v2), (3, m_i v3), (4, m_i v4)] [] h (f v4 h ) := fun v4 h  => ms_all fun r e => ih v4 h r e
  refine ms_use ?_ e
  clear e r
  refine ms_iload (pc := 42) S 4 rfl (m_dec e11_stripOf 27 rfl) ?_
  refine ms_aload_n (pc := 44) S 0 rfl rfl (m_dec e11_stripOf 28 rfl) ?_
  refine ms_grd fun g1 => ?_
  refine ms_getf (pc := 45) S lf_X11_265 rfl (m_dec e11_stripOf 29 rfl) g1 ?_
  refine ms_icmp_ge (pc := 48) S (m_dec e11_stripOf 30 rfl) rfl (fun q2 => ?_) (fun q2 => ?_)
  · refine ms_aload_n (pc := 51) S 0 rfl rfl (m_dec e11_stripOf 31 rfl) ?_
    refine ms_iload (pc := 52) S 4 rfl (m_dec e11_stripOf 32 rfl) ?_
    refine ms_callVz (pc := 54) S hF (vals := [m_i v4]) (st := []) (hc := vw_11) (hci := by decide) (hcy := rfl) (ht := g1) (hC := (k11_isThere _ _ v0 v4 h)) (hM := lm_X11_308) (hfr := (Nat.le_trans (by decide) hFn)) (hstk := rfl) (hcat := Nat.le_of_ble_eq_true rfl) (hd := (m_dec e11_stripOf 33 rfl)) (k1 := fun r4 h3 => ?_)
    refine ms_ifb_eq (pc := 57) S (m_dec e11_stripOf 34 rfl) rfl (fun q5 => ?_) (fun q5 => ?_)
    · refine ms_aload_n (pc := 60) S 0 rfl rfl (m_dec e11_stripOf 35 rfl) ?_
      refine ms_iload (pc := 61) S 4 rfl (m_dec e11_stripOf 36 rfl) ?_
      refine ms_iload_n (pc := 63) S 3 rfl rfl (m_dec e11_stripOf 37 rfl) ?_
      refine ms_grd fun g6 => ?_
      refine ms_callVi (pc := 64) S hF (vals := [m_i v4, m_i v3]) (st := []) (hc := vw_11) (hci := by decide) (hcy := rfl) (ht := g6) (hC := (k11_markOf _ _ v0 v4 v3 h3)) (hM := lm_X11_365) (hfr := (Nat.le_trans (by decide) hFn)) (hstk := rfl) (hcat := Nat.le_of_ble_eq_true rfl) (hd := (m_dec e11_stripOf 38 rfl)) (k1 := fun r8 h7 => ?_)
      refine ms_aload_n (pc := 67) S 0 rfl rfl (m_dec e11_stripOf 39 rfl) ?_
      refine ms_grd fun g9 => ?_
      refine ms_getf (pc := 68) S lf_X11_98 rfl (m_dec e11_stripOf 40 rfl) g9 ?_
      refine ms_iload_n (pc := 71) S 1 rfl rfl (m_dec e11_stripOf 41 rfl) ?_
      refine ms_grd fun g10 => ?_
      refine ms_aald (pc := 72) S 29 (by decide) (fun _ => rfl) rfl g10 (m_dec e11_stripOf 42 rfl) ?_
      refine ms_iload_n (pc := 73) S 2 rfl rfl (m_dec e11_stripOf 43 rfl) ?_
      refine ms_grd fun g11 => ?_
      refine ms_iald (pc := 74) S g11 (m_dec e11_stripOf 44 rfl) ?_
      refine ms_icmp_ne (pc := 75) S (m_dec e11_stripOf 45 rfl) rfl (fun q12 => ?_) (fun q12 => ?_)
      · refine ms_iload (pc := 78) S 4 rfl (m_dec e11_stripOf 46 rfl) ?_
        exact ms_ret (pc := 80) E (m_dec e11_stripOf 47 rfl) rfl
      · refine ms_iinc (pc := 81) S (L' := [(0, m_r v0), (1, m_i v1), (2, m_i v2), (3, m_i v3), (4, m_i (v4 + 1))]) 4 rfl [1, 2, 3, 4, 0] rfl (m_lt hN rfl) (m_dec e11_stripOf 48 rfl) ?_
        refine ms_goto (pc := 84) S (m_dec e11_stripOf 49 rfl) rfl ?_
        exact ih (v4 + 1) h7
    · refine ms_iinc (pc := 81) S (L' := [(0, m_r v0), (1, m_i v1), (2, m_i v2), (3, m_i v3), (4, m_i (v4 + 1))]) 4 rfl [1, 2, 3, 4, 0] rfl (m_lt hN rfl) (m_dec e11_stripOf 48 rfl) ?_
      refine ms_goto (pc := 84) S (m_dec e11_stripOf 49 rfl) rfl ?_
      exact ih (v4 + 1) h3
  · refine ms_iconst (pc := 87) S (m_dec e11_stripOf 50 rfl) ?_
    exact ms_ret (pc := 88) E (m_dec e11_stripOf 51 rfl) rfl
set_option maxHeartbeats 4000000 in
set_option maxRecDepth 20000 in
theorem s11_stripOf {Y : m_Y Int} (S : m_Std Y RX11 cX11_stripOf) (E : m_End Y cX11_stripOf .ireturn (fun r => [m_i r])) {F : Nat} (hF : m_Rm Y F) (hFn : 3 ≤ F) (hN : Y.2.2.2.1 = 5) (v0 v1 v2 v3 : Int) (h : m_H) : m_Sim Y 0 [(0, m_r v0), (1, m_i v1), (2, m_i v2), (3, m_i v3)] [] h (t11_stripOf v0 v1 v2 v3 h) := by
  unfold t11_stripOf
  refine ms_aload_n (pc := 0) S 0 rfl rfl (m_dec e11_stripOf 0 rfl) ?_
  refine ms_grd fun g1 => ?_
  refine ms_getf (pc := 1) S lf_X11_89 rfl (m_dec e11_stripOf 1 rfl) g1 ?_
  refine ms_iload_n (pc := 4) S 1 rfl rfl (m_dec e11_stripOf 2 rfl) ?_
  refine ms_grd fun g2 => ?_
  refine ms_aald (pc := 5) S 29 (by decide) (fun _ => rfl) rfl g2 (m_dec e11_stripOf 3 rfl) ?_
  refine ms_iload_n (pc := 6) S 2 rfl rfl (m_dec e11_stripOf 4 rfl) ?_
  refine ms_grd fun g3 => ?_
  refine ms_iald (pc := 7) S g3 (m_dec e11_stripOf 5 rfl) ?_
  refine ms_if_ne (pc := 8) S (m_dec e11_stripOf 6 rfl) rfl (fun q4 => ?_) (fun q4 => ?_)
  · refine ms_aload_n (pc := 11) S 0 rfl rfl (m_dec e11_stripOf 7 rfl) ?_
    refine ms_aload_n (pc := 12) S 0 rfl rfl (m_dec e11_stripOf 8 rfl) ?_
    refine ms_getf (pc := 13) S lf_X11_98 rfl (m_dec e11_stripOf 9 rfl) g1 ?_
    refine ms_iload_n (pc := 16) S 1 rfl rfl (m_dec e11_stripOf 10 rfl) ?_
    refine ms_grd fun g5 => ?_
    refine ms_aald (pc := 17) S 29 (by decide) (fun _ => rfl) rfl g5 (m_dec e11_stripOf 11 rfl) ?_
    refine ms_iload_n (pc := 18) S 2 rfl rfl (m_dec e11_stripOf 12 rfl) ?_
    refine ms_grd fun g6 => ?_
    refine ms_iald (pc := 19) S g6 (m_dec e11_stripOf 13 rfl) ?_
    refine ms_callVz (pc := 20) S hF (vals := [m_i (m_g h (m_g h (m_g h v0 38) (m_w v1)) (m_w v2))]) (st := []) (hc := vw_11) (hci := by decide) (hcy := rfl) (ht := g1) (hC := (k11_isThere _ _ v0 (m_g h (m_g h (m_g h v0 38) (m_w v1)) (m_w v2)) h)) (hM := lm_X11_308) (hfr := (Nat.le_trans (by decide) hFn)) (hstk := rfl) (hcat := Nat.le_of_ble_eq_true rfl) (hd := (m_dec e11_stripOf 14 rfl)) (k1 := fun r8 h7 => ?_)
    refine ms_ifb_eq (pc := 23) S (m_dec e11_stripOf 15 rfl) rfl (fun q9 => ?_) (fun q9 => ?_)
    · refine ms_aload_n (pc := 26) S 0 rfl rfl (m_dec e11_stripOf 16 rfl) ?_
      refine ms_grd fun g10 => ?_
      refine ms_getf (pc := 27) S lf_X11_98 rfl (m_dec e11_stripOf 17 rfl) g10 ?_
      refine ms_iload_n (pc := 30) S 1 rfl rfl (m_dec e11_stripOf 18 rfl) ?_
      refine ms_grd fun g11 => ?_
      refine ms_aald (pc := 31) S 29 (by decide) (fun _ => rfl) rfl g11 (m_dec e11_stripOf 19 rfl) ?_
      refine ms_iload_n (pc := 32) S 2 rfl rfl (m_dec e11_stripOf 20 rfl) ?_
      refine ms_grd fun g12 => ?_
      refine ms_iald (pc := 33) S g12 (m_dec e11_stripOf 21 rfl) ?_
      refine ms_goto (pc := 34) S (m_dec e11_stripOf 22 rfl) rfl ?_
      exact ms_ret (pc := 38) E (m_dec e11_stripOf 24 rfl) rfl
    · refine ms_iconst (pc := 37) S (m_dec e11_stripOf 23 rfl) ?_
      exact ms_ret (pc := 38) E (m_dec e11_stripOf 24 rfl) rfl
  · refine ms_iconst (pc := 39) S (m_dec e11_stripOf 25 rfl) ?_
    refine ms_istore (pc := 40) S (L' := [(0, m_r v0), (1, m_i v1), (2, m_i v2), (3, m_i v3), (4, m_i 0)]) [1, 2, 3, 4, 0] rfl (m_lt hN rfl) (m_dec e11_stripOf 26 rfl) ?_
    exact s11_stripOf_c42 S E hF hFn hN v0 v1 v2 v3 0 h
theorem k11_stripOf (l : Launch) (d : m_D) (v0 v1 v2 v3 : Int) (h : m_H) : m_Con l d yX11_stripOf cX11_stripOf 5 (some .int) 3 (fun r => [m_i r]) [m_r v0, m_i v1, m_i v2, m_i v3] h (t11_stripOf v0 v1 v2 v3 h) :=
  m_con2 (by decide +kernel) (Nat.le_of_ble_eq_true rfl) (fun Y hN hRm hr hI S hfin => s11_stripOf S (m_end_i S hr hfin) hRm (Nat.le_refl _) hN v0 v1 v2 v3 h)
set_option maxRecDepth 100000 in
theorem e11_takes : ∀ q ∈ ([(0, .aload_n 0, 1), (1, .getfield 184, 3), (4, .iload_n 2, 1), (5, .aload_n 0, 1), (6, .iload_n 1, 1), (7, .iload_n 2, 1), (8, .iload_n 3, 1), (9, .invokevirtual 460, 3), (12, .iastore, 1), (13, .aload_n 0, 1), (14, .getfield 184, 3), (17, .iload_n 2, 1), (18, .iaload, 1), (19, .iconst (-1), 1), (20, .if_icmp .ne 5, 3), (23, .iconst 0, 1), (24, .ireturn, 1), (25, .aload_n 0, 1), (26, .getfield 181, 3), (29, .iload_n 2, 1), (30, .aload_n 0, 1), (31, .getfield 23, 3), (34, .aload_n 0, 1), (35, .getfield 184, 3), (38, .iload_n 2, 1), (39, .iaload, 1), (40, .iaload, 1), (41, .iastore, 1), (42, .iconst 0, 1), (43, .istore 4, 2), (45, .iload 4, 2), (47, .aload_n 0, 1), (48, .getfield 181, 3), (51, .iload_n 2, 1), (52, .iaload, 1), (53, .if_icmp .ge 30, 3), (56, .aload_n 0, 1), (57, .getfield 178, 3), (60, .iload_n 2, 1), (61, .aaload, 1), (62, .iload 4, 2), (64, .aload_n 0, 1), (65, .aload_n 0, 1), (66, .getfield 184, 3), (69, .iload_n 2, 1), (70, .iaload, 1), (71, .iload 4, 2), (73, .invokevirtual 311, 3), (76, .iastore, 1), (77, .iinc 4 1, 3), (80, .goto (-35), 3), (83, .iconst 1, 1), (84, .ireturn, 1)] : List (Nat × Instr × Nat)), decode cX11_takes q.1 = .ok q.2 := by decide +kernel
set_option maxHeartbeats 4000000 in
set_option maxRecDepth 20000 in
theorem s11_takes_c45 {Y : m_Y Bool} (S : m_Std Y RX11 cX11_takes) (E : m_End Y cX11_takes .ireturn (fun r => [m_i (m_b2i r)])) {F : Nat} (hF : m_Rm Y F) (hFn : 4 ≤ F) (hN : Y.2.2.2.1 = 5) : ∀ (v0 v2 v4 : Int) (h : m_H), m_Sim Y 45 [(0, m_r v0), (2, m_i v2), (4, m_i v4)] [] h (t11_takes_c45 v0 v2 v4 h) := by
  intro v0 v2 v4 h
  refine ms_all fun r e => ?_
  refine t11_takes_c45.partial_correctness v0 v2 (motive := fun v4 h r => m_Sim Y 45 [(0, m_r v0), (2, m_i v2), (4, m_i v4)] [] h (some r)) ?_ v4 h r e
  intro f ih v4 h r e
  have ih : ∀ (v4 : Int) (h : m_H), m_Sim Y 45 [(0, m_r v0), (2, m_i v2), (4, m_i v4)] [] h (f v4 h ) := fun v4 h  => ms_all fun r e => ih v4 h r e
  refine ms_use ?_ e
  clear e r
  refine ms_iload (pc := 45) S 2 rfl (m_dec e11_takes 30 rfl) ?_
  refine ms_aload_n (pc := 47) S 0 rfl rfl (m_dec e11_takes 31 rfl) ?_
  refine ms_grd fun g1 => ?_
  refine ms_getf (pc := 48) S lf_X11_181 rfl (m_dec e11_takes 32 rfl) g1 ?_
  refine ms_iload_n (pc := 51) S 1 rfl rfl (m_dec e11_takes 33 rfl) ?_
  refine ms_grd fun g2 => ?_
  refine ms_iald (pc := 52) S g2 (m_dec e11_takes 34 rfl) ?_
  refine ms_icmp_ge (pc := 53) S (m_dec e11_takes 35 rfl) rfl (fun q3 => ?_) (fun q3 => ?_)
  · refine ms_aload_n (pc := 56) S 0 rfl rfl (m_dec e11_takes 36 rfl) ?_
    refine ms_getf (pc := 57) S lf_X11_178 rfl (m_dec e11_takes 37 rfl) g1 ?_
    refine ms_iload_n (pc := 60) S 1 rfl rfl (m_dec e11_takes 38 rfl) ?_
    refine ms_grd fun g4 => ?_
    refine ms_aald (pc := 61) S 29 (by decide) (fun _ => rfl) rfl g4 (m_dec e11_takes 39 rfl) ?_
    refine ms_iload (pc := 62) S 2 rfl (m_dec e11_takes 40 rfl) ?_
    refine ms_aload_n (pc := 64) S 0 rfl rfl (m_dec e11_takes 41 rfl) ?_
    refine ms_aload_n (pc := 65) S 0 rfl rfl (m_dec e11_takes 42 rfl) ?_
    refine ms_getf (pc := 66) S lf_X11_184 rfl (m_dec e11_takes 43 rfl) g1 ?_
    refine ms_iload_n (pc := 69) S 1 rfl rfl (m_dec e11_takes 44 rfl) ?_
    refine ms_grd fun g5 => ?_
    refine ms_iald (pc := 70) S g5 (m_dec e11_takes 45 rfl) ?_
    refine ms_iload (pc := 71) S 2 rfl (m_dec e11_takes 46 rfl) ?_
    refine ms_callVi (pc := 73) S hF (vals := [m_i (m_g h (m_g h v0 52) (m_w v2)), m_i v4]) (st := [m_i v4, m_r (m_g h (m_g h v0 50) (m_w v2))]) (hc := vw_11) (hci := by decide) (hcy := rfl) (ht := g1) (hC := (k11_at _ _ v0 (m_g h (m_g h v0 52) (m_w v2)) v4 h)) (hM := lm_X11_311) (hfr := (Nat.le_trans (by decide) hFn)) (hstk := rfl) (hcat := Nat.le_of_ble_eq_true rfl) (hd := (m_dec e11_takes 47 rfl)) (k1 := fun r7 h6 => ?_)
    refine ms_grd fun g8 => ?_
    refine ms_iast (pc := 76) S g8 (m_dec e11_takes 48 rfl) (fun h9 => ?_)
    refine ms_iinc (pc := 77) S (L' := [(0, m_r v0), (2, m_i v2), (4, m_i (v4 + 1))]) 2 rfl [1, 2, 0] rfl (m_lt hN rfl) (m_dec e11_takes 49 rfl) ?_
    refine ms_goto (pc := 80) S (m_dec e11_takes 50 rfl) rfl ?_
    exact ih (v4 + 1) h9
  · refine ms_iconst (pc := 83) S (m_dec e11_takes 51 rfl) ?_
    exact ms_ret (pc := 84) E (m_dec e11_takes 52 rfl) rfl
set_option maxHeartbeats 4000000 in
set_option maxRecDepth 20000 in
theorem s11_takes {Y : m_Y Bool} (S : m_Std Y RX11 cX11_takes) (E : m_End Y cX11_takes .ireturn (fun r => [m_i (m_b2i r)])) {F : Nat} (hF : m_Rm Y F) (hFn : 4 ≤ F) (hN : Y.2.2.2.1 = 5) (v0 v1 v2 v3 : Int) (h : m_H) : m_Sim Y 0 [(0, m_r v0), (1, m_i v1), (2, m_i v2), (3, m_i v3)] [] h (t11_takes v0 v1 v2 v3 h) := by
  unfold t11_takes
  refine ms_aload_n (pc := 0) S 0 rfl rfl (m_dec e11_takes 0 rfl) ?_
  refine ms_grd fun g1 => ?_
  refine ms_getf (pc := 1) S lf_X11_184 rfl (m_dec e11_takes 1 rfl) g1 ?_
  refine ms_iload_n (pc := 4) S 2 rfl rfl (m_dec e11_takes 2 rfl) ?_
  refine ms_aload_n (pc := 5) S 0 rfl rfl (m_dec e11_takes 3 rfl) ?_
  refine ms_iload_n (pc := 6) S 1 rfl rfl (m_dec e11_takes 4 rfl) ?_
  refine ms_iload_n (pc := 7) S 2 rfl rfl (m_dec e11_takes 5 rfl) ?_
  refine ms_iload_n (pc := 8) S 3 rfl rfl (m_dec e11_takes 6 rfl) ?_
  refine ms_callVi (pc := 9) S hF (vals := [m_i v1, m_i v2, m_i v3]) (st := [m_i v2, m_r (m_g h v0 52)]) (hc := vw_11) (hci := by decide) (hcy := rfl) (ht := g1) (hC := (k11_stripOf _ _ v0 v1 v2 v3 h)) (hM := lm_X11_460) (hfr := (Nat.le_trans (by decide) hFn)) (hstk := rfl) (hcat := Nat.le_of_ble_eq_true rfl) (hd := (m_dec e11_takes 7 rfl)) (k1 := fun r3 h2 => ?_)
  refine ms_grd fun g4 => ?_
  refine ms_iast (pc := 12) S g4 (m_dec e11_takes 8 rfl) (fun h5 => ?_)
  refine ms_aload_n (pc := 13) S 0 rfl rfl (m_dec e11_takes 9 rfl) ?_
  refine ms_grd fun g6 => ?_
  refine ms_getf (pc := 14) S lf_X11_184 rfl (m_dec e11_takes 10 rfl) g6 ?_
  refine ms_iload_n (pc := 17) S 2 rfl rfl (m_dec e11_takes 11 rfl) ?_
  refine ms_grd fun g7 => ?_
  refine ms_iald (pc := 18) S g7 (m_dec e11_takes 12 rfl) ?_
  refine ms_iconst (pc := 19) S (m_dec e11_takes 13 rfl) ?_
  refine ms_icmp_ne (pc := 20) S (m_dec e11_takes 14 rfl) rfl (fun q8 => ?_) (fun q8 => ?_)
  · refine ms_iconst (pc := 23) S (m_dec e11_takes 15 rfl) ?_
    exact ms_ret (pc := 24) E (m_dec e11_takes 16 rfl) rfl
  · refine ms_aload_n (pc := 25) S 0 rfl rfl (m_dec e11_takes 17 rfl) ?_
    refine ms_getf (pc := 26) S lf_X11_181 rfl (m_dec e11_takes 18 rfl) g6 ?_
    refine ms_iload_n (pc := 29) S 2 rfl rfl (m_dec e11_takes 19 rfl) ?_
    refine ms_aload_n (pc := 30) S 0 rfl rfl (m_dec e11_takes 20 rfl) ?_
    refine ms_getf (pc := 31) S lf_X11_23 rfl (m_dec e11_takes 21 rfl) g6 ?_
    refine ms_aload_n (pc := 34) S 0 rfl rfl (m_dec e11_takes 22 rfl) ?_
    refine ms_getf (pc := 35) S lf_X11_184 rfl (m_dec e11_takes 23 rfl) g6 ?_
    refine ms_iload_n (pc := 38) S 2 rfl rfl (m_dec e11_takes 24 rfl) ?_
    refine ms_iald (pc := 39) S g7 (m_dec e11_takes 25 rfl) ?_
    refine ms_grd fun g9 => ?_
    refine ms_iald (pc := 40) S g9 (m_dec e11_takes 26 rfl) ?_
    refine ms_grd fun g10 => ?_
    refine ms_iast (pc := 41) S g10 (m_dec e11_takes 27 rfl) (fun h11 => ?_)
    refine ms_iconst (pc := 42) S (m_dec e11_takes 28 rfl) ?_
    refine ms_istore (pc := 43) S (L' := [(0, m_r v0), (2, m_i v2), (4, m_i 0)]) [1, 3, 0] rfl (m_lt hN rfl) (m_dec e11_takes 29 rfl) ?_
    exact s11_takes_c45 S E hF hFn hN v0 v2 0 h11
theorem k11_takes (l : Launch) (d : m_D) (v0 v1 v2 v3 : Int) (h : m_H) : m_Con l d yX11_takes cX11_takes 5 (some .boolean) 4 (fun r => [m_i (m_b2i r)]) [m_r v0, m_i v1, m_i v2, m_i v3] h (t11_takes v0 v1 v2 v3 h) :=
  m_con2 (by decide +kernel) (Nat.le_of_ble_eq_true rfl) (fun Y hN hRm hr hI S hfin => s11_takes S (m_end_z S hr hfin) hRm (Nat.le_refl _) hN v0 v1 v2 v3 h)
set_option maxRecDepth 100000 in
theorem e11_cuts : ∀ q ∈ ([(0, .iload_n 3, 1), (1, .iload 4, 2), (3, .if_icmp .ge 14, 3), (6, .iload 4, 2), (8, .aload_n 0, 1), (9, .getfield 181, 3), (12, .iload_n 2, 1), (13, .iaload, 1), (14, .if_icmp .le 5, 3), (17, .iconst 0, 1), (18, .ireturn, 1), (19, .iload_n 3, 1), (20, .istore 5, 2), (22, .iload 5, 2), (24, .iload 4, 2), (26, .if_icmp .ge 29, 3), (29, .aload_n 0, 1), (30, .getfield 178, 3), (33, .iload_n 1, 1), (34, .aaload, 1), (35, .iload 5, 2), (37, .iload_n 3, 1), (38, .isub, 1), (39, .aload_n 0, 1), (40, .getfield 178, 3), (43, .iload_n 2, 1), (44, .aaload, 1), (45, .iload 5, 2), (47, .iaload, 1), (48, .iastore, 1), (49, .iinc 5 1, 3), (52, .goto (-30), 3), (55, .aload_n 0, 1), (56, .getfield 181, 3), (59, .iload_n 1, 1), (60, .iload 4, 2), (62, .iload_n 3, 1), (63, .isub, 1), (64, .iastore, 1), (65, .iconst 1, 1), (66, .ireturn, 1)] : List (Nat × Instr × Nat)), decode cX11_cuts q.1 = .ok q.2 := by decide +kernel
set_option maxHeartbeats 4000000 in
set_option maxRecDepth 20000 in
theorem s11_cuts_c22 {Y : m_Y Bool} (S : m_Std Y RX11 cX11_cuts) (E : m_End Y cX11_cuts .ireturn (fun r => [m_i (m_b2i r)])) {F : Nat} (hF : m_Rm Y F) (hFn : 0 ≤ F) (hN : Y.2.2.2.1 = 6) : ∀ (v0 v1 v2 v3 v4 v5 : Int) (h : m_H), m_Sim Y 22 [(0, m_r v0), (1, m_i v1), (2, m_i v2), (3, m_i v3), (4, m_i v4), (5, m_i v5)] [] h (t11_cuts_c22 v0 v1 v2 v3 v4 v5 h) := by
  intro v0 v1 v2 v3 v4 v5 h
  refine ms_all fun r e => ?_
  refine t11_cuts_c22.partial_correctness v0 v1 v2 v3 v4 (motive := fun v5 h r => m_Sim Y 22 [(0, m_r v0), (1, m_i v1), (2, m_i v2), (3, m_i v3), (4, m_i v4), (5, m_i v5)] [] h (some r)) ?_ v5 h r e
  intro f ih v5 h r e
  have ih : ∀ (v5 : Int) (h : m_H), m_Sim Y 22 [(0, m_r v0), (1, m_i v1), (2, m_i v2), (3, m_i v3), (4, m_i v4), (5, m_i v5)] [] h (f v5 h ) := fun v5 h  => ms_all fun r e => ih v5 h r e
  refine ms_use ?_ e
  clear e r
  refine ms_iload (pc := 22) S 5 rfl (m_dec e11_cuts 13 rfl) ?_
  refine ms_iload (pc := 24) S 4 rfl (m_dec e11_cuts 14 rfl) ?_
  refine ms_icmp_ge (pc := 26) S (m_dec e11_cuts 15 rfl) rfl (fun q1 => ?_) (fun q1 => ?_)
  · refine ms_aload_n (pc := 29) S 0 rfl rfl (m_dec e11_cuts 16 rfl) ?_
    refine ms_grd fun g2 => ?_
    refine ms_getf (pc := 30) S lf_X11_178 rfl (m_dec e11_cuts 17 rfl) g2 ?_
    refine ms_iload_n (pc := 33) S 1 rfl rfl (m_dec e11_cuts 18 rfl) ?_
    refine ms_grd fun g3 => ?_
    refine ms_aald (pc := 34) S 29 (by decide) (fun _ => rfl) rfl g3 (m_dec e11_cuts 19 rfl) ?_
    refine ms_iload (pc := 35) S 5 rfl (m_dec e11_cuts 20 rfl) ?_
    refine ms_iload_n (pc := 37) S 3 rfl rfl (m_dec e11_cuts 21 rfl) ?_
    refine ms_isub (pc := 38) S (m_dec e11_cuts 22 rfl) ?_
    refine ms_aload_n (pc := 39) S 0 rfl rfl (m_dec e11_cuts 23 rfl) ?_
    refine ms_getf (pc := 40) S lf_X11_178 rfl (m_dec e11_cuts 24 rfl) g2 ?_
    refine ms_iload_n (pc := 43) S 2 rfl rfl (m_dec e11_cuts 25 rfl) ?_
    refine ms_grd fun g4 => ?_
    refine ms_aald (pc := 44) S 29 (by decide) (fun _ => rfl) rfl g4 (m_dec e11_cuts 26 rfl) ?_
    refine ms_iload (pc := 45) S 5 rfl (m_dec e11_cuts 27 rfl) ?_
    refine ms_grd fun g5 => ?_
    refine ms_iald (pc := 47) S g5 (m_dec e11_cuts 28 rfl) ?_
    refine ms_grd fun g6 => ?_
    refine ms_iast (pc := 48) S g6 (m_dec e11_cuts 29 rfl) (fun h7 => ?_)
    refine ms_iinc (pc := 49) S (L' := [(0, m_r v0), (1, m_i v1), (2, m_i v2), (3, m_i v3), (4, m_i v4), (5, m_i (v5 + 1))]) 5 rfl [1, 2, 3, 4, 5, 0] rfl (m_lt hN rfl) (m_dec e11_cuts 30 rfl) ?_
    refine ms_goto (pc := 52) S (m_dec e11_cuts 31 rfl) rfl ?_
    exact ih (v5 + 1) h7
  · refine ms_aload_n (pc := 55) S 0 rfl rfl (m_dec e11_cuts 32 rfl) ?_
    refine ms_grd fun g8 => ?_
    refine ms_getf (pc := 56) S lf_X11_181 rfl (m_dec e11_cuts 33 rfl) g8 ?_
    refine ms_iload_n (pc := 59) S 1 rfl rfl (m_dec e11_cuts 34 rfl) ?_
    refine ms_iload (pc := 60) S 4 rfl (m_dec e11_cuts 35 rfl) ?_
    refine ms_iload_n (pc := 62) S 3 rfl rfl (m_dec e11_cuts 36 rfl) ?_
    refine ms_isub (pc := 63) S (m_dec e11_cuts 37 rfl) ?_
    refine ms_grd fun g9 => ?_
    refine ms_iast (pc := 64) S g9 (m_dec e11_cuts 38 rfl) (fun h10 => ?_)
    refine ms_iconst (pc := 65) S (m_dec e11_cuts 39 rfl) ?_
    exact ms_ret (pc := 66) E (m_dec e11_cuts 40 rfl) rfl
set_option maxHeartbeats 4000000 in
set_option maxRecDepth 20000 in
theorem s11_cuts {Y : m_Y Bool} (S : m_Std Y RX11 cX11_cuts) (E : m_End Y cX11_cuts .ireturn (fun r => [m_i (m_b2i r)])) {F : Nat} (hF : m_Rm Y F) (hFn : 0 ≤ F) (hN : Y.2.2.2.1 = 6) (v0 v1 v2 v3 v4 : Int) (h : m_H) : m_Sim Y 0 [(0, m_r v0), (1, m_i v1), (2, m_i v2), (3, m_i v3), (4, m_i v4)] [] h (t11_cuts v0 v1 v2 v3 v4 h) := by
  unfold t11_cuts
  refine ms_iload_n (pc := 0) S 3 rfl rfl (m_dec e11_cuts 0 rfl) ?_
  refine ms_iload (pc := 1) S 4 rfl (m_dec e11_cuts 1 rfl) ?_
  refine ms_icmp_ge (pc := 3) S (m_dec e11_cuts 2 rfl) rfl (fun q1 => ?_) (fun q1 => ?_)
  · refine ms_iload (pc := 6) S 4 rfl (m_dec e11_cuts 3 rfl) ?_
    refine ms_aload_n (pc := 8) S 0 rfl rfl (m_dec e11_cuts 4 rfl) ?_
    refine ms_grd fun g2 => ?_
    refine ms_getf (pc := 9) S lf_X11_181 rfl (m_dec e11_cuts 5 rfl) g2 ?_
    refine ms_iload_n (pc := 12) S 2 rfl rfl (m_dec e11_cuts 6 rfl) ?_
    refine ms_grd fun g3 => ?_
    refine ms_iald (pc := 13) S g3 (m_dec e11_cuts 7 rfl) ?_
    refine ms_icmp_le (pc := 14) S (m_dec e11_cuts 8 rfl) rfl (fun q4 => ?_) (fun q4 => ?_)
    · refine ms_iconst (pc := 17) S (m_dec e11_cuts 9 rfl) ?_
      exact ms_ret (pc := 18) E (m_dec e11_cuts 10 rfl) rfl
    · refine ms_iload_n (pc := 19) S 3 rfl rfl (m_dec e11_cuts 11 rfl) ?_
      refine ms_istore (pc := 20) S (L' := [(0, m_r v0), (1, m_i v1), (2, m_i v2), (3, m_i v3), (4, m_i v4), (5, m_i v3)]) [1, 2, 3, 4, 5, 0] rfl (m_lt hN rfl) (m_dec e11_cuts 12 rfl) ?_
      exact s11_cuts_c22 S E hF hFn hN v0 v1 v2 v3 v4 v3 h
  · refine ms_iconst (pc := 17) S (m_dec e11_cuts 9 rfl) ?_
    exact ms_ret (pc := 18) E (m_dec e11_cuts 10 rfl) rfl
theorem k11_cuts (l : Launch) (d : m_D) (v0 v1 v2 v3 v4 : Int) (h : m_H) : m_Con l d yX11_cuts cX11_cuts 6 (some .boolean) 0 (fun r => [m_i (m_b2i r)]) [m_r v0, m_i v1, m_i v2, m_i v3, m_i v4] h (t11_cuts v0 v1 v2 v3 v4 h) :=
  m_con2 (by decide +kernel) (Nat.le_of_ble_eq_true rfl) (fun Y hN hRm hr hI S hfin => s11_cuts S (m_end_z S hr hfin) hRm (Nat.le_refl _) hN v0 v1 v2 v3 v4 h)
set_option maxRecDepth 100000 in
theorem e11_playsRow : ∀ q ∈ ([(0, .aload_n 0, 1), (1, .getfield 181, 3), (4, .iload_n 2, 1), (5, .iaload, 1), (6, .istore 6, 2), (8, .iload 6, 2), (10, .iconst 1, 1), (11, .isub, 1), (12, .i2l, 1), (13, .iload 4, 2), (15, .i2l, 1), (16, .lmul, 1), (17, .iload_n 3, 1), (18, .i2l, 1), (19, .ldiv, 1), (20, .lconst 1, 1), (21, .ladd, 1), (22, .lstore 7, 2), (24, .lload 7, 2), (26, .ldc2_w 463, 3), (29, .lcmp, 1), (30, .ifCond .le 5, 3), (33, .iconst 0, 1), (34, .ireturn, 1), (35, .iconst 0, 1), (36, .istore 9, 2), (38, .iload 9, 2), (40, .iload 6, 2), (42, .if_icmp .ge 25, 3), (45, .aload_n 0, 1), (46, .getfield 77, 3), (49, .iload 9, 2), (51, .aload_n 0, 1), (52, .getfield 178, 3), (55, .iload_n 2, 1), (56, .aaload, 1), (57, .iload 9, 2), (59, .iaload, 1), (60, .iastore, 1), (61, .iinc 9 1, 3), (64, .goto (-26), 3), (67, .iconst 0, 1), (68, .istore 9, 2), (70, .iload 9, 2), (72, .i2l, 1), (73, .lload 7, 2), (75, .lcmp, 1), (76, .ifCond .ge 41, 3), (79, .aload_n 0, 1), (80, .getfield 178, 3), (83, .iload_n 1, 1), (84, .aaload, 1), (85, .iload 9, 2), (87, .aload_n 0, 1), (88, .iload 6, 2), (90, .iload 9, 2), (92, .iload_n 3, 1), (93, .iload 4, 2), (95, .invokevirtual 343, 3), (98, .i2l, 1), (99, .iload 5, 2), (101, .i2l, 1), (102, .lmul, 1), (103, .ldc2_w 346, 3), (106, .ldiv, 1), (107, .invokestatic 320, 3), (110, .iastore, 1), (111, .iinc 9 1, 3), (114, .goto (-44), 3), (117, .aload_n 0, 1), (118, .getfield 181, 3), (121, .iload_n 1, 1), (122, .lload 7, 2), (124, .l2i, 1), (125, .iastore, 1), (126, .iconst 1, 1), (127, .ireturn, 1)] : List (Nat × Instr × Nat)), decode cX11_playsRow q.1 = .ok q.2 := by decide +kernel
set_option maxHeartbeats 4000000 in
set_option maxRecDepth 20000 in
theorem s11_playsRow_c70 {Y : m_Y Bool} (S : m_Std Y RX11 cX11_playsRow) (E : m_End Y cX11_playsRow .ireturn (fun r => [m_i (m_b2i r)])) {F : Nat} (hF : m_Rm Y F) (hFn : 2 ≤ F) (hN : Y.2.2.2.1 = 10) : ∀ (v0 v1 v3 v4 v5 v6 v7 v9 : Int) (h : m_H), m_Sim Y 70 [(0, m_r v0), (1, m_i v1), (3, m_i v3), (4, m_i v4), (5, m_i v5), (6, m_i v6), (7, m_j v7), (9, m_i v9)] [] h (t11_playsRow_c70 v0 v1 v3 v4 v5 v6 v7 v9 h) := by
  intro v0 v1 v3 v4 v5 v6 v7 v9 h
  refine ms_all fun r e => ?_
  refine t11_playsRow_c70.partial_correctness v0 v1 v3 v4 v5 v6 v7 (motive := fun v9 h r => m_Sim Y 70 [(0, m_r v0), (1, m_i v1), (3, m_i v3), (4, m_i v4), (5, m_i v5), (6, m_i v6), (7, m_j v7), (9, m_i v9)] [] h (some r)) ?_ v9 h r e
  intro f ih v9 h r e
  have ih : ∀ (v9 : Int) (h : m_H), m_Sim Y 70 [(0, m_r v0), (1, m_i v1), (3, m_i v3), (4, m_i v4), (5, m_i v5), (6, m_i v6), (7, m_j v7), (9, m_i v9)] [] h (f v9 h ) := fun v9 h  => ms_all fun r e => ih v9 h r e
  refine ms_use ?_ e
  clear e r
  refine ms_iload (pc := 70) S 7 rfl (m_dec e11_playsRow 43 rfl) ?_
  refine ms_i2l (pc := 72) S (m_dec e11_playsRow 44 rfl) ?_
  refine ms_lload (pc := 73) S 6 rfl (m_dec e11_playsRow 45 rfl) ?_
  refine ms_lcmp (pc := 75) S (m_dec e11_playsRow 46 rfl) ?_
  refine ms_if_ge (pc := 76) S (m_dec e11_playsRow 47 rfl) rfl (fun q1 => ?_) (fun q1 => ?_)
  · refine ms_aload_n (pc := 79) S 0 rfl rfl (m_dec e11_playsRow 48 rfl) ?_
    refine ms_grd fun g2 => ?_
    refine ms_getf (pc := 80) S lf_X11_178 rfl (m_dec e11_playsRow 49 rfl) g2 ?_
    refine ms_iload_n (pc := 83) S 1 rfl rfl (m_dec e11_playsRow 50 rfl) ?_
    refine ms_grd fun g3 => ?_
    refine ms_aald (pc := 84) S 29 (by decide) (fun _ => rfl) rfl g3 (m_dec e11_playsRow 51 rfl) ?_
    refine ms_iload (pc := 85) S 7 rfl (m_dec e11_playsRow 52 rfl) ?_
    refine ms_aload_n (pc := 87) S 0 rfl rfl (m_dec e11_playsRow 53 rfl) ?_
    refine ms_iload (pc := 88) S 5 rfl (m_dec e11_playsRow 54 rfl) ?_
    refine ms_iload (pc := 90) S 7 rfl (m_dec e11_playsRow 55 rfl) ?_
    refine ms_iload_n (pc := 92) S 2 rfl rfl (m_dec e11_playsRow 56 rfl) ?_
    refine ms_iload (pc := 93) S 3 rfl (m_dec e11_playsRow 57 rfl) ?_
    refine ms_callVi (pc := 95) S hF (vals := [m_i v6, m_i v9, m_i v3, m_i v4]) (st := [m_i v9, m_r (m_g h (m_g h v0 50) (m_w v1))]) (hc := vw_11) (hci := by decide) (hcy := rfl) (ht := g2) (hC := (k11_sampleAt _ _ v0 v6 v9 v3 v4 h)) (hM := lm_X11_343) (hfr := (Nat.le_trans (by decide) hFn)) (hstk := rfl) (hcat := Nat.le_of_ble_eq_true rfl) (hd := (m_dec e11_playsRow 58 rfl)) (k1 := fun r5 h4 => ?_)
    refine ms_i2l (pc := 98) S (m_dec e11_playsRow 59 rfl) ?_
    refine ms_iload (pc := 99) S 4 rfl (m_dec e11_playsRow 60 rfl) ?_
    refine ms_i2l (pc := 101) S (m_dec e11_playsRow 61 rfl) ?_
    refine ms_lmul (pc := 102) S (m_dec e11_playsRow 62 rfl) ?_
    refine ms_ldc2 (pc := 103) S (n := 64) w_1877 (m_dec e11_playsRow 63 rfl) ?_
    refine ms_ldivN (pc := 106) S (by decide) (m_dec e11_playsRow 64 rfl) ?_
    refine ms_callSi (pc := 107) S hF (vals := [m_j (Int.tdiv (m_v ((m_w r5) * (m_w v5))) 64)]) (st := [m_i v9, m_r (m_g h (m_g h v0 50) (m_w v1))])  (hC := (k11_bounded _ _ (Int.tdiv (m_v ((m_w r5) * (m_w v5))) 64) h4)) (hM := lm_X11_320) (hfr := (Nat.le_trans (by decide) hFn)) (hstk := rfl) (hcat := Nat.le_of_ble_eq_true rfl) (hd := (m_dec e11_playsRow 65 rfl)) (k1 := fun r7 h6 => ?_)
    refine ms_grd fun g8 => ?_
    refine ms_iast (pc := 110) S g8 (m_dec e11_playsRow 66 rfl) (fun h9 => ?_)
    refine ms_iinc (pc := 111) S (L' := [(0, m_r v0), (1, m_i v1), (3, m_i v3), (4, m_i v4), (5, m_i v5), (6, m_i v6), (7, m_j v7), (9, m_i (v9 + 1))]) 7 rfl [1, 2, 3, 4, 5, 6, 7, 0] rfl (m_lt hN rfl) (m_dec e11_playsRow 67 rfl) ?_
    refine ms_goto (pc := 114) S (m_dec e11_playsRow 68 rfl) rfl ?_
    exact ih (v9 + 1) h9
  · refine ms_aload_n (pc := 117) S 0 rfl rfl (m_dec e11_playsRow 69 rfl) ?_
    refine ms_grd fun g10 => ?_
    refine ms_getf (pc := 118) S lf_X11_181 rfl (m_dec e11_playsRow 70 rfl) g10 ?_
    refine ms_iload_n (pc := 121) S 1 rfl rfl (m_dec e11_playsRow 71 rfl) ?_
    refine ms_lload (pc := 122) S 6 rfl (m_dec e11_playsRow 72 rfl) ?_
    refine ms_l2i (pc := 124) S (m_dec e11_playsRow 73 rfl) ?_
    refine ms_grd fun g11 => ?_
    refine ms_iast (pc := 125) S g11 (m_dec e11_playsRow 74 rfl) (fun h12 => ?_)
    refine ms_iconst (pc := 126) S (m_dec e11_playsRow 75 rfl) ?_
    exact ms_ret (pc := 127) E (m_dec e11_playsRow 76 rfl) rfl
set_option maxHeartbeats 4000000 in
set_option maxRecDepth 20000 in
theorem s11_playsRow_c38 {Y : m_Y Bool} (S : m_Std Y RX11 cX11_playsRow) (E : m_End Y cX11_playsRow .ireturn (fun r => [m_i (m_b2i r)])) {F : Nat} (hF : m_Rm Y F) (hFn : 2 ≤ F) (hN : Y.2.2.2.1 = 10) : ∀ (v0 v1 v2 v3 v4 v5 v6 v7 v9 : Int) (h : m_H), m_Sim Y 38 [(0, m_r v0), (1, m_i v1), (2, m_i v2), (3, m_i v3), (4, m_i v4), (5, m_i v5), (6, m_i v6), (7, m_j v7), (9, m_i v9)] [] h (t11_playsRow_c38 v0 v1 v2 v3 v4 v5 v6 v7 v9 h) := by
  intro v0 v1 v2 v3 v4 v5 v6 v7 v9 h
  refine ms_all fun r e => ?_
  refine t11_playsRow_c38.partial_correctness v0 v1 v2 v3 v4 v5 v6 v7 (motive := fun v9 h r => m_Sim Y 38 [(0, m_r v0), (1, m_i v1), (2, m_i v2), (3, m_i v3), (4, m_i v4), (5, m_i v5), (6, m_i v6), (7, m_j v7), (9, m_i v9)] [] h (some r)) ?_ v9 h r e
  intro f ih v9 h r e
  have ih : ∀ (v9 : Int) (h : m_H), m_Sim Y 38 [(0, m_r v0), (1, m_i v1), (2, m_i v2), (3, m_i v3), (4, m_i v4), (5, m_i v5), (6, m_i v6), (7, m_j v7), (9, m_i v9)] [] h (f v9 h ) := fun v9 h  => ms_all fun r e => ih v9 h r e
  refine ms_use ?_ e
  clear e r
  refine ms_iload (pc := 38) S 8 rfl (m_dec e11_playsRow 26 rfl) ?_
  refine ms_iload (pc := 40) S 6 rfl (m_dec e11_playsRow 27 rfl) ?_
  refine ms_icmp_ge (pc := 42) S (m_dec e11_playsRow 28 rfl) rfl (fun q1 => ?_) (fun q1 => ?_)
  · refine ms_aload_n (pc := 45) S 0 rfl rfl (m_dec e11_playsRow 29 rfl) ?_
    refine ms_grd fun g2 => ?_
    refine ms_getf (pc := 46) S lf_X11_77 rfl (m_dec e11_playsRow 30 rfl) g2 ?_
    refine ms_iload (pc := 49) S 8 rfl (m_dec e11_playsRow 31 rfl) ?_
    refine ms_aload_n (pc := 51) S 0 rfl rfl (m_dec e11_playsRow 32 rfl) ?_
    refine ms_getf (pc := 52) S lf_X11_178 rfl (m_dec e11_playsRow 33 rfl) g2 ?_
    refine ms_iload_n (pc := 55) S 2 rfl rfl (m_dec e11_playsRow 34 rfl) ?_
    refine ms_grd fun g3 => ?_
    refine ms_aald (pc := 56) S 29 (by decide) (fun _ => rfl) rfl g3 (m_dec e11_playsRow 35 rfl) ?_
    refine ms_iload (pc := 57) S 8 rfl (m_dec e11_playsRow 36 rfl) ?_
    refine ms_grd fun g4 => ?_
    refine ms_iald (pc := 59) S g4 (m_dec e11_playsRow 37 rfl) ?_
    refine ms_grd fun g5 => ?_
    refine ms_iast (pc := 60) S g5 (m_dec e11_playsRow 38 rfl) (fun h6 => ?_)
    refine ms_iinc (pc := 61) S (L' := [(0, m_r v0), (1, m_i v1), (2, m_i v2), (3, m_i v3), (4, m_i v4), (5, m_i v5), (6, m_i v6), (7, m_j v7), (9, m_i (v9 + 1))]) 8 rfl [1, 2, 3, 4, 5, 6, 7, 8, 0] rfl (m_lt hN rfl) (m_dec e11_playsRow 39 rfl) ?_
    refine ms_goto (pc := 64) S (m_dec e11_playsRow 40 rfl) rfl ?_
    exact ih (v9 + 1) h6
  · refine ms_iconst (pc := 67) S (m_dec e11_playsRow 41 rfl) ?_
    refine ms_istore (pc := 68) S (L' := [(0, m_r v0), (1, m_i v1), (3, m_i v3), (4, m_i v4), (5, m_i v5), (6, m_i v6), (7, m_j v7), (9, m_i 0)]) [1, 2, 4, 5, 6, 7, 8, 0] rfl (m_lt hN rfl) (m_dec e11_playsRow 42 rfl) ?_
    exact s11_playsRow_c70 S E hF hFn hN v0 v1 v3 v4 v5 v6 v7 0 h
set_option maxHeartbeats 4000000 in
set_option maxRecDepth 20000 in
theorem s11_playsRow {Y : m_Y Bool} (S : m_Std Y RX11 cX11_playsRow) (E : m_End Y cX11_playsRow .ireturn (fun r => [m_i (m_b2i r)])) {F : Nat} (hF : m_Rm Y F) (hFn : 2 ≤ F) (hN : Y.2.2.2.1 = 10) (v0 v1 v2 v3 v4 v5 : Int) (h : m_H) : m_Sim Y 0 [(0, m_r v0), (1, m_i v1), (2, m_i v2), (3, m_i v3), (4, m_i v4), (5, m_i v5)] [] h (t11_playsRow v0 v1 v2 v3 v4 v5 h) := by
  unfold t11_playsRow
  refine ms_aload_n (pc := 0) S 0 rfl rfl (m_dec e11_playsRow 0 rfl) ?_
  refine ms_grd fun g1 => ?_
  refine ms_getf (pc := 1) S lf_X11_181 rfl (m_dec e11_playsRow 1 rfl) g1 ?_
  refine ms_iload_n (pc := 4) S 2 rfl rfl (m_dec e11_playsRow 2 rfl) ?_
  refine ms_grd fun g2 => ?_
  refine ms_iald (pc := 5) S g2 (m_dec e11_playsRow 3 rfl) ?_
  refine ms_nm (st := fun x3 => [m_i x3]) fun x3 => ?_
  refine ms_istore (pc := 6) S (L' := [(0, m_r v0), (1, m_i v1), (2, m_i v2), (3, m_i v3), (4, m_i v4), (5, m_i v5), (6, m_i x3)]) [1, 2, 3, 4, 5, 6, 0] rfl (m_lt hN rfl) (m_dec e11_playsRow 4 rfl) ?_
  refine ms_iload (pc := 8) S 6 rfl (m_dec e11_playsRow 5 rfl) ?_
  refine ms_iconst (pc := 10) S (m_dec e11_playsRow 6 rfl) ?_
  refine ms_isub (pc := 11) S (m_dec e11_playsRow 7 rfl) ?_
  refine ms_i2l (pc := 12) S (m_dec e11_playsRow 8 rfl) ?_
  refine ms_iload (pc := 13) S 4 rfl (m_dec e11_playsRow 9 rfl) ?_
  refine ms_i2l (pc := 15) S (m_dec e11_playsRow 10 rfl) ?_
  refine ms_lmul (pc := 16) S (m_dec e11_playsRow 11 rfl) ?_
  refine ms_iload_n (pc := 17) S 3 rfl rfl (m_dec e11_playsRow 12 rfl) ?_
  refine ms_i2l (pc := 18) S (m_dec e11_playsRow 13 rfl) ?_
  refine ms_ldiv (pc := 19) S (m_dec e11_playsRow 14 rfl) ?_
  refine ms_lconst (pc := 20) S (n := 1) rfl (m_dec e11_playsRow 15 rfl) ?_
  refine ms_ladd (pc := 21) S (m_dec e11_playsRow 16 rfl) ?_
  refine ms_nm (st := fun x4 => [m_j x4]) fun x4 => ?_
  refine ms_lstore (pc := 22) S (L' := [(0, m_r v0), (1, m_i v1), (2, m_i v2), (3, m_i v3), (4, m_i v4), (5, m_i v5), (6, m_i x3), (7, m_j x4)]) [1, 2, 3, 4, 5, 6, 7, 0] rfl (m_lt hN rfl) (m_dec e11_playsRow 17 rfl) ?_
  refine ms_lload (pc := 24) S 7 rfl (m_dec e11_playsRow 18 rfl) ?_
  refine ms_ldc2 (pc := 26) S (n := 1500) w_2059 (m_dec e11_playsRow 19 rfl) ?_
  refine ms_lcmp (pc := 29) S (m_dec e11_playsRow 20 rfl) ?_
  refine ms_if_le (pc := 30) S (m_dec e11_playsRow 21 rfl) rfl (fun q5 => ?_) (fun q5 => ?_)
  · refine ms_iconst (pc := 33) S (m_dec e11_playsRow 22 rfl) ?_
    exact ms_ret (pc := 34) E (m_dec e11_playsRow 23 rfl) rfl
  · refine ms_iconst (pc := 35) S (m_dec e11_playsRow 24 rfl) ?_
    refine ms_istore (pc := 36) S (L' := [(0, m_r v0), (1, m_i v1), (2, m_i v2), (3, m_i v3), (4, m_i v4), (5, m_i v5), (6, m_i x3), (7, m_j x4), (9, m_i 0)]) [1, 2, 3, 4, 5, 6, 7, 8, 0] rfl (m_lt hN rfl) (m_dec e11_playsRow 25 rfl) ?_
    exact s11_playsRow_c38 S E hF hFn hN v0 v1 v2 v3 v4 v5 x3 x4 0 h
theorem k11_playsRow (l : Launch) (d : m_D) (v0 v1 v2 v3 v4 v5 : Int) (h : m_H) : m_Con l d yX11_playsRow cX11_playsRow 10 (some .boolean) 2 (fun r => [m_i (m_b2i r)]) [m_r v0, m_i v1, m_i v2, m_i v3, m_i v4, m_i v5] h (t11_playsRow v0 v1 v2 v3 v4 v5 h) :=
  m_con2 (by decide +kernel) (Nat.le_of_ble_eq_true rfl) (fun Y hN hRm hr hI S hfin => s11_playsRow S (m_end_z S hr hfin) hRm (Nat.le_refl _) hN v0 v1 v2 v3 v4 v5 h)
set_option maxRecDepth 100000 in
theorem e11_splices : ∀ q ∈ ([(0, .iload 4, 2), (2, .aload_n 0, 1), (3, .getfield 181, 3), (6, .iload_n 2, 1), (7, .iaload, 1), (8, .if_icmp .gt 36, 3), (11, .iload 4, 2), (13, .aload_n 0, 1), (14, .getfield 181, 3), (17, .iload_n 3, 1), (18, .iaload, 1), (19, .if_icmp .gt 25, 3), (22, .aload_n 0, 1), (23, .getfield 181, 3), (26, .iload_n 2, 1), (27, .iaload, 1), (28, .aload_n 0, 1), (29, .getfield 181, 3), (32, .iload_n 3, 1), (33, .iaload, 1), (34, .iadd, 1), (35, .iload 4, 2), (37, .isub, 1), (38, .sipush 1500, 3), (41, .if_icmp .le 5, 3), (44, .iconst 0, 1), (45, .ireturn, 1), (46, .iconst 0, 1), (47, .istore 5, 2), (49, .iconst 0, 1), (50, .istore 6, 2), (52, .iload 6, 2), (54, .aload_n 0, 1), (55, .getfield 181, 3), (58, .iload_n 2, 1), (59, .iaload, 1), (60, .iload 4, 2), (62, .isub, 1), (63, .if_icmp .ge 30, 3), (66, .aload_n 0, 1), (67, .getfield 178, 3), (70, .iload_n 1, 1), (71, .aaload, 1), (72, .iload 5, 2), (74, .iinc 5 1, 3), (77, .aload_n 0, 1), (78, .getfield 178, 3), (81, .iload_n 2, 1), (82, .aaload, 1), (83, .iload 6, 2), (85, .iaload, 1), (86, .iastore, 1), (87, .iinc 6 1, 3), (90, .goto (-38), 3), (93, .iconst 0, 1), (94, .istore 6, 2), (96, .iload 6, 2), (98, .iload 4, 2), (100, .if_icmp .ge 56, 3), (103, .aload_n 0, 1), (104, .getfield 178, 3), (107, .iload_n 1, 1), (108, .aaload, 1), (109, .iload 5, 2), (111, .iinc 5 1, 3), (114, .aload_n 0, 1), (115, .getfield 178, 3), (118, .iload_n 2, 1), (119, .aaload, 1), (120, .aload_n 0, 1), (121, .getfield 181, 3), (124, .iload_n 2, 1), (125, .iaload, 1), (126, .iload 4, 2), (128, .isub, 1), (129, .iload 6, 2), (131, .iadd, 1), (132, .iaload, 1), (133, .aload_n 0, 1), (134, .getfield 178, 3), (137, .iload_n 3, 1), (138, .aaload, 1), (139, .iload 6, 2), (141, .iaload, 1), (142, .iload 6, 2), (144, .iload 4, 2), (146, .invokestatic 326, 3), (149, .iastore, 1), (150, .iinc 6 1, 3), (153, .goto (-57), 3), (156, .iload 4, 2), (158, .istore 6, 2), (160, .iload 6, 2), (162, .aload_n 0, 1), (163, .getfield 181, 3), (166, .iload_n 3, 1), (167, .iaload, 1), (168, .if_icmp .ge 30, 3), (171, .aload_n 0, 1), (172, .getfield 178, 3), (175, .iload_n 1, 1), (176, .aaload, 1), (177, .iload 5, 2), (179, .iinc 5 1, 3), (182, .aload_n 0, 1), (183, .getfield 178, 3), (186, .iload_n 3, 1), (187, .aaload, 1), (188, .iload 6, 2), (190, .iaload, 1), (191, .iastore, 1), (192, .iinc 6 1, 3), (195, .goto (-35), 3), (198, .aload_n 0, 1), (199, .getfield 181, 3), (202, .iload_n 1, 1), (203, .iload 5, 2), (205, .iastore, 1), (206, .iload 5, 2), (208, .ifCond .le 7, 3), (211, .iconst 1, 1), (212, .goto 4, 3), (215, .iconst 0, 1), (216, .ireturn, 1)] : List (Nat × Instr × Nat)), decode cX11_splices q.1 = .ok q.2 := by decide +kernel
set_option maxHeartbeats 4000000 in
set_option maxRecDepth 20000 in
theorem s11_splices_c160 {Y : m_Y Bool} (S : m_Std Y RX11 cX11_splices) (E : m_End Y cX11_splices .ireturn (fun r => [m_i (m_b2i r)])) {F : Nat} (hF : m_Rm Y F) (hFn : 2 ≤ F) (hN : Y.2.2.2.1 = 7) : ∀ (v0 v1 v3 v5 v6 : Int) (h : m_H), m_Sim Y 160 [(0, m_r v0), (1, m_i v1), (3, m_i v3), (5, m_i v5), (6, m_i v6)] [] h (t11_splices_c160 v0 v1 v3 v5 v6 h) := by
  intro v0 v1 v3 v5 v6 h
  refine ms_all fun r e => ?_
  refine t11_splices_c160.partial_correctness v0 v1 v3 (motive := fun v5 v6 h r => m_Sim Y 160 [(0, m_r v0), (1, m_i v1), (3, m_i v3), (5, m_i v5), (6, m_i v6)] [] h (some r)) ?_ v5 v6 h r e
  intro f ih v5 v6 h r e
  have ih : ∀ (v5 v6 : Int) (h : m_H), m_Sim Y 160 [(0, m_r v0), (1, m_i v1), (3, m_i v3), (5, m_i v5), (6, m_i v6)] [] h (f v5 v6 h ) := fun v5 v6 h  => ms_all fun r e => ih v5 v6 h r e
  refine ms_use ?_ e
  clear e r
  refine ms_iload (pc := 160) S 4 rfl (m_dec e11_splices 92 rfl) ?_
  refine ms_aload_n (pc := 162) S 0 rfl rfl (m_dec e11_splices 93 rfl) ?_
  refine ms_grd fun g1 => ?_
  refine ms_getf (pc := 163) S lf_X11_181 rfl (m_dec e11_splices 94 rfl) g1 ?_
  refine ms_iload_n (pc := 166) S 2 rfl rfl (m_dec e11_splices 95 rfl) ?_
  refine ms_grd fun g2 => ?_
  refine ms_iald (pc := 167) S g2 (m_dec e11_splices 96 rfl) ?_
  refine ms_icmp_ge (pc := 168) S (m_dec e11_splices 97 rfl) rfl (fun q3 => ?_) (fun q3 => ?_)
  · refine ms_aload_n (pc := 171) S 0 rfl rfl (m_dec e11_splices 98 rfl) ?_
    refine ms_getf (pc := 172) S lf_X11_178 rfl (m_dec e11_splices 99 rfl) g1 ?_
    refine ms_iload_n (pc := 175) S 1 rfl rfl (m_dec e11_splices 100 rfl) ?_
    refine ms_grd fun g4 => ?_
    refine ms_aald (pc := 176) S 29 (by decide) (fun _ => rfl) rfl g4 (m_dec e11_splices 101 rfl) ?_
    refine ms_iload (pc := 177) S 3 rfl (m_dec e11_splices 102 rfl) ?_
    refine ms_iinc (pc := 179) S (L' := [(0, m_r v0), (1, m_i v1), (3, m_i v3), (5, m_i (v5 + 1)), (6, m_i v6)]) 3 rfl [1, 2, 3, 0, 4] rfl (m_lt hN rfl) (m_dec e11_splices 103 rfl) ?_
    refine ms_aload_n (pc := 182) S 0 rfl rfl (m_dec e11_splices 104 rfl) ?_
    refine ms_getf (pc := 183) S lf_X11_178 rfl (m_dec e11_splices 105 rfl) g1 ?_
    refine ms_iload_n (pc := 186) S 2 rfl rfl (m_dec e11_splices 106 rfl) ?_
    refine ms_grd fun g5 => ?_
    refine ms_aald (pc := 187) S 29 (by decide) (fun _ => rfl) rfl g5 (m_dec e11_splices 107 rfl) ?_
    refine ms_iload (pc := 188) S 4 rfl (m_dec e11_splices 108 rfl) ?_
    refine ms_grd fun g6 => ?_
    refine ms_iald (pc := 190) S g6 (m_dec e11_splices 109 rfl) ?_
    refine ms_grd fun g7 => ?_
    refine ms_iast (pc := 191) S g7 (m_dec e11_splices 110 rfl) (fun h8 => ?_)
    refine ms_iinc (pc := 192) S (L' := [(0, m_r v0), (1, m_i v1), (3, m_i v3), (5, m_i (v5 + 1)), (6, m_i (v6 + 1))]) 4 rfl [1, 2, 3, 4, 0] rfl (m_lt hN rfl) (m_dec e11_splices 111 rfl) ?_
    refine ms_goto (pc := 195) S (m_dec e11_splices 112 rfl) rfl ?_
    exact ih (v5 + 1) (v6 + 1) h8
  · refine ms_aload_n (pc := 198) S 0 rfl rfl (m_dec e11_splices 113 rfl) ?_
    refine ms_getf (pc := 199) S lf_X11_181 rfl (m_dec e11_splices 114 rfl) g1 ?_
    refine ms_iload_n (pc := 202) S 1 rfl rfl (m_dec e11_splices 115 rfl) ?_
    refine ms_iload (pc := 203) S 3 rfl (m_dec e11_splices 116 rfl) ?_
    refine ms_grd fun g9 => ?_
    refine ms_iast (pc := 205) S g9 (m_dec e11_splices 117 rfl) (fun h10 => ?_)
    refine ms_iload (pc := 206) S 3 rfl (m_dec e11_splices 118 rfl) ?_
    refine ms_if_le (pc := 208) S (m_dec e11_splices 119 rfl) rfl (fun q11 => ?_) (fun q11 => ?_)
    · refine ms_iconst (pc := 211) S (m_dec e11_splices 120 rfl) ?_
      refine ms_goto (pc := 212) S (m_dec e11_splices 121 rfl) rfl ?_
      exact ms_ret (pc := 216) E (m_dec e11_splices 123 rfl) rfl
    · refine ms_iconst (pc := 215) S (m_dec e11_splices 122 rfl) ?_
      exact ms_ret (pc := 216) E (m_dec e11_splices 123 rfl) rfl
set_option maxHeartbeats 4000000 in
set_option maxRecDepth 20000 in
theorem s11_splices_c96 {Y : m_Y Bool} (S : m_Std Y RX11 cX11_splices) (E : m_End Y cX11_splices .ireturn (fun r => [m_i (m_b2i r)])) {F : Nat} (hF : m_Rm Y F) (hFn : 2 ≤ F) (hN : Y.2.2.2.1 = 7) : ∀ (v0 v1 v2 v3 v4 v5 v6 : Int) (h : m_H), m_Sim Y 96 [(0, m_r v0), (1, m_i v1), (2, m_i v2), (3, m_i v3), (4, m_i v4), (5, m_i v5), (6, m_i v6)] [] h (t11_splices_c96 v0 v1 v2 v3 v4 v5 v6 h) := by
  intro v0 v1 v2 v3 v4 v5 v6 h
  refine ms_all fun r e => ?_
  refine t11_splices_c96.partial_correctness v0 v1 v2 v3 v4 (motive := fun v5 v6 h r => m_Sim Y 96 [(0, m_r v0), (1, m_i v1), (2, m_i v2), (3, m_i v3), (4, m_i v4), (5, m_i v5), (6, m_i v6)] [] h (some r)) ?_ v5 v6 h r e
  intro f ih v5 v6 h r e
  have ih : ∀ (v5 v6 : Int) (h : m_H), m_Sim Y 96 [(0, m_r v0), (1, m_i v1), (2, m_i v2), (3, m_i v3), (4, m_i v4), (5, m_i v5), (6, m_i v6)] [] h (f v5 v6 h ) := fun v5 v6 h  => ms_all fun r e => ih v5 v6 h r e
  refine ms_use ?_ e
  clear e r
  refine ms_iload (pc := 96) S 6 rfl (m_dec e11_splices 56 rfl) ?_
  refine ms_iload (pc := 98) S 4 rfl (m_dec e11_splices 57 rfl) ?_
  refine ms_icmp_ge (pc := 100) S (m_dec e11_splices 58 rfl) rfl (fun q1 => ?_) (fun q1 => ?_)
  · refine ms_aload_n (pc := 103) S 0 rfl rfl (m_dec e11_splices 59 rfl) ?_
    refine ms_grd fun g2 => ?_
    refine ms_getf (pc := 104) S lf_X11_178 rfl (m_dec e11_splices 60 rfl) g2 ?_
    refine ms_iload_n (pc := 107) S 1 rfl rfl (m_dec e11_splices 61 rfl) ?_
    refine ms_grd fun g3 => ?_
    refine ms_aald (pc := 108) S 29 (by decide) (fun _ => rfl) rfl g3 (m_dec e11_splices 62 rfl) ?_
    refine ms_iload (pc := 109) S 5 rfl (m_dec e11_splices 63 rfl) ?_
    refine ms_iinc (pc := 111) S (L' := [(0, m_r v0), (1, m_i v1), (2, m_i v2), (3, m_i v3), (4, m_i v4), (5, m_i (v5 + 1)), (6, m_i v6)]) 5 rfl [1, 2, 3, 4, 5, 0, 6] rfl (m_lt hN rfl) (m_dec e11_splices 64 rfl) ?_
    refine ms_aload_n (pc := 114) S 0 rfl rfl (m_dec e11_splices 65 rfl) ?_
    refine ms_getf (pc := 115) S lf_X11_178 rfl (m_dec e11_splices 66 rfl) g2 ?_
    refine ms_iload_n (pc := 118) S 2 rfl rfl (m_dec e11_splices 67 rfl) ?_
    refine ms_grd fun g4 => ?_
    refine ms_aald (pc := 119) S 29 (by decide) (fun _ => rfl) rfl g4 (m_dec e11_splices 68 rfl) ?_
    refine ms_aload_n (pc := 120) S 0 rfl rfl (m_dec e11_splices 69 rfl) ?_
    refine ms_getf (pc := 121) S lf_X11_181 rfl (m_dec e11_splices 70 rfl) g2 ?_
    refine ms_iload_n (pc := 124) S 2 rfl rfl (m_dec e11_splices 71 rfl) ?_
    refine ms_grd fun g5 => ?_
    refine ms_iald (pc := 125) S g5 (m_dec e11_splices 72 rfl) ?_
    refine ms_iload (pc := 126) S 4 rfl (m_dec e11_splices 73 rfl) ?_
    refine ms_isub (pc := 128) S (m_dec e11_splices 74 rfl) ?_
    refine ms_iload (pc := 129) S 6 rfl (m_dec e11_splices 75 rfl) ?_
    refine ms_iadd (pc := 131) S (m_dec e11_splices 76 rfl) ?_
    refine ms_grd fun g6 => ?_
    refine ms_iald (pc := 132) S g6 (m_dec e11_splices 77 rfl) ?_
    refine ms_aload_n (pc := 133) S 0 rfl rfl (m_dec e11_splices 78 rfl) ?_
    refine ms_getf (pc := 134) S lf_X11_178 rfl (m_dec e11_splices 79 rfl) g2 ?_
    refine ms_iload_n (pc := 137) S 3 rfl rfl (m_dec e11_splices 80 rfl) ?_
    refine ms_grd fun g7 => ?_
    refine ms_aald (pc := 138) S 29 (by decide) (fun _ => rfl) rfl g7 (m_dec e11_splices 81 rfl) ?_
    refine ms_iload (pc := 139) S 6 rfl (m_dec e11_splices 82 rfl) ?_
    refine ms_grd fun g8 => ?_
    refine ms_iald (pc := 141) S g8 (m_dec e11_splices 83 rfl) ?_
    refine ms_iload (pc := 142) S 6 rfl (m_dec e11_splices 84 rfl) ?_
    refine ms_iload (pc := 144) S 4 rfl (m_dec e11_splices 85 rfl) ?_
    refine ms_callSi (pc := 146) S hF (vals := [m_i (m_g h (m_g h (m_g h v0 50) (m_w v2)) (m_w (((m_g h (m_g h v0 51) (m_w v2)) - v4) + v6))), m_i (m_g h (m_g h (m_g h v0 50) (m_w v3)) (m_w v6)), m_i v6, m_i v4]) (st := [m_i v5, m_r (m_g h (m_g h v0 50) (m_w v1))])  (hC := (k11_spliced _ _ (m_g h (m_g h (m_g h v0 50) (m_w v2)) (m_w (((m_g h (m_g h v0 51) (m_w v2)) - v4) + v6))) (m_g h (m_g h (m_g h v0 50) (m_w v3)) (m_w v6)) v6 v4 h)) (hM := lm_X11_326) (hfr := (Nat.le_trans (by decide) hFn)) (hstk := rfl) (hcat := Nat.le_of_ble_eq_true rfl) (hd := (m_dec e11_splices 86 rfl)) (k1 := fun r10 h9 => ?_)
    refine ms_grd fun g11 => ?_
    refine ms_iast (pc := 149) S g11 (m_dec e11_splices 87 rfl) (fun h12 => ?_)
    refine ms_iinc (pc := 150) S (L' := [(0, m_r v0), (1, m_i v1), (2, m_i v2), (3, m_i v3), (4, m_i v4), (5, m_i (v5 + 1)), (6, m_i (v6 + 1))]) 6 rfl [1, 2, 3, 4, 5, 6, 0] rfl (m_lt hN rfl) (m_dec e11_splices 88 rfl) ?_
    refine ms_goto (pc := 153) S (m_dec e11_splices 89 rfl) rfl ?_
    exact ih (v5 + 1) (v6 + 1) h12
  · refine ms_iload (pc := 156) S 4 rfl (m_dec e11_splices 90 rfl) ?_
    refine ms_istore (pc := 158) S (L' := [(0, m_r v0), (1, m_i v1), (3, m_i v3), (5, m_i v5), (6, m_i v4)]) [1, 2, 4, 6, 0] rfl (m_lt hN rfl) (m_dec e11_splices 91 rfl) ?_
    exact s11_splices_c160 S E hF hFn hN v0 v1 v3 v5 v4 h
set_option maxHeartbeats 4000000 in
set_option maxRecDepth 20000 in
theorem s11_splices_c52 {Y : m_Y Bool} (S : m_Std Y RX11 cX11_splices) (E : m_End Y cX11_splices .ireturn (fun r => [m_i (m_b2i r)])) {F : Nat} (hF : m_Rm Y F) (hFn : 2 ≤ F) (hN : Y.2.2.2.1 = 7) : ∀ (v0 v1 v2 v3 v4 v5 v6 : Int) (h : m_H), m_Sim Y 52 [(0, m_r v0), (1, m_i v1), (2, m_i v2), (3, m_i v3), (4, m_i v4), (5, m_i v5), (6, m_i v6)] [] h (t11_splices_c52 v0 v1 v2 v3 v4 v5 v6 h) := by
  intro v0 v1 v2 v3 v4 v5 v6 h
  refine ms_all fun r e => ?_
  refine t11_splices_c52.partial_correctness v0 v1 v2 v3 v4 (motive := fun v5 v6 h r => m_Sim Y 52 [(0, m_r v0), (1, m_i v1), (2, m_i v2), (3, m_i v3), (4, m_i v4), (5, m_i v5), (6, m_i v6)] [] h (some r)) ?_ v5 v6 h r e
  intro f ih v5 v6 h r e
  have ih : ∀ (v5 v6 : Int) (h : m_H), m_Sim Y 52 [(0, m_r v0), (1, m_i v1), (2, m_i v2), (3, m_i v3), (4, m_i v4), (5, m_i v5), (6, m_i v6)] [] h (f v5 v6 h ) := fun v5 v6 h  => ms_all fun r e => ih v5 v6 h r e
  refine ms_use ?_ e
  clear e r
  refine ms_iload (pc := 52) S 6 rfl (m_dec e11_splices 31 rfl) ?_
  refine ms_aload_n (pc := 54) S 0 rfl rfl (m_dec e11_splices 32 rfl) ?_
  refine ms_grd fun g1 => ?_
  refine ms_getf (pc := 55) S lf_X11_181 rfl (m_dec e11_splices 33 rfl) g1 ?_
  refine ms_iload_n (pc := 58) S 2 rfl rfl (m_dec e11_splices 34 rfl) ?_
  refine ms_grd fun g2 => ?_
  refine ms_iald (pc := 59) S g2 (m_dec e11_splices 35 rfl) ?_
  refine ms_iload (pc := 60) S 4 rfl (m_dec e11_splices 36 rfl) ?_
  refine ms_isub (pc := 62) S (m_dec e11_splices 37 rfl) ?_
  refine ms_icmp_ge (pc := 63) S (m_dec e11_splices 38 rfl) rfl (fun q3 => ?_) (fun q3 => ?_)
  · refine ms_aload_n (pc := 66) S 0 rfl rfl (m_dec e11_splices 39 rfl) ?_
    refine ms_getf (pc := 67) S lf_X11_178 rfl (m_dec e11_splices 40 rfl) g1 ?_
    refine ms_iload_n (pc := 70) S 1 rfl rfl (m_dec e11_splices 41 rfl) ?_
    refine ms_grd fun g4 => ?_
    refine ms_aald (pc := 71) S 29 (by decide) (fun _ => rfl) rfl g4 (m_dec e11_splices 42 rfl) ?_
    refine ms_iload (pc := 72) S 5 rfl (m_dec e11_splices 43 rfl) ?_
    refine ms_iinc (pc := 74) S (L' := [(0, m_r v0), (1, m_i v1), (2, m_i v2), (3, m_i v3), (4, m_i v4), (5, m_i (v5 + 1)), (6, m_i v6)]) 5 rfl [1, 2, 3, 4, 5, 0, 6] rfl (m_lt hN rfl) (m_dec e11_splices 44 rfl) ?_
    refine ms_aload_n (pc := 77) S 0 rfl rfl (m_dec e11_splices 45 rfl) ?_
    refine ms_getf (pc := 78) S lf_X11_178 rfl (m_dec e11_splices 46 rfl) g1 ?_
    refine ms_iload_n (pc := 81) S 2 rfl rfl (m_dec e11_splices 47 rfl) ?_
    refine ms_grd fun g5 => ?_
    refine ms_aald (pc := 82) S 29 (by decide) (fun _ => rfl) rfl g5 (m_dec e11_splices 48 rfl) ?_
    refine ms_iload (pc := 83) S 6 rfl (m_dec e11_splices 49 rfl) ?_
    refine ms_grd fun g6 => ?_
    refine ms_iald (pc := 85) S g6 (m_dec e11_splices 50 rfl) ?_
    refine ms_grd fun g7 => ?_
    refine ms_iast (pc := 86) S g7 (m_dec e11_splices 51 rfl) (fun h8 => ?_)
    refine ms_iinc (pc := 87) S (L' := [(0, m_r v0), (1, m_i v1), (2, m_i v2), (3, m_i v3), (4, m_i v4), (5, m_i (v5 + 1)), (6, m_i (v6 + 1))]) 6 rfl [1, 2, 3, 4, 5, 6, 0] rfl (m_lt hN rfl) (m_dec e11_splices 52 rfl) ?_
    refine ms_goto (pc := 90) S (m_dec e11_splices 53 rfl) rfl ?_
    exact ih (v5 + 1) (v6 + 1) h8
  · refine ms_iconst (pc := 93) S (m_dec e11_splices 54 rfl) ?_
    refine ms_istore (pc := 94) S (L' := [(0, m_r v0), (1, m_i v1), (2, m_i v2), (3, m_i v3), (4, m_i v4), (5, m_i v5), (6, m_i 0)]) [1, 2, 3, 4, 5, 6, 0] rfl (m_lt hN rfl) (m_dec e11_splices 55 rfl) ?_
    exact s11_splices_c96 S E hF hFn hN v0 v1 v2 v3 v4 v5 0 h
set_option maxHeartbeats 4000000 in
set_option maxRecDepth 20000 in
theorem s11_splices {Y : m_Y Bool} (S : m_Std Y RX11 cX11_splices) (E : m_End Y cX11_splices .ireturn (fun r => [m_i (m_b2i r)])) {F : Nat} (hF : m_Rm Y F) (hFn : 2 ≤ F) (hN : Y.2.2.2.1 = 7) (v0 v1 v2 v3 v4 : Int) (h : m_H) : m_Sim Y 0 [(0, m_r v0), (1, m_i v1), (2, m_i v2), (3, m_i v3), (4, m_i v4)] [] h (t11_splices v0 v1 v2 v3 v4 h) := by
  unfold t11_splices
  refine ms_iload (pc := 0) S 4 rfl (m_dec e11_splices 0 rfl) ?_
  refine ms_aload_n (pc := 2) S 0 rfl rfl (m_dec e11_splices 1 rfl) ?_
  refine ms_grd fun g1 => ?_
  refine ms_getf (pc := 3) S lf_X11_181 rfl (m_dec e11_splices 2 rfl) g1 ?_
  refine ms_iload_n (pc := 6) S 2 rfl rfl (m_dec e11_splices 3 rfl) ?_
  refine ms_grd fun g2 => ?_
  refine ms_iald (pc := 7) S g2 (m_dec e11_splices 4 rfl) ?_
  refine ms_icmp_gt (pc := 8) S (m_dec e11_splices 5 rfl) rfl (fun q3 => ?_) (fun q3 => ?_)
  · refine ms_iconst (pc := 44) S (m_dec e11_splices 25 rfl) ?_
    exact ms_ret (pc := 45) E (m_dec e11_splices 26 rfl) rfl
  · refine ms_iload (pc := 11) S 4 rfl (m_dec e11_splices 6 rfl) ?_
    refine ms_aload_n (pc := 13) S 0 rfl rfl (m_dec e11_splices 7 rfl) ?_
    refine ms_getf (pc := 14) S lf_X11_181 rfl (m_dec e11_splices 8 rfl) g1 ?_
    refine ms_iload_n (pc := 17) S 3 rfl rfl (m_dec e11_splices 9 rfl) ?_
    refine ms_grd fun g4 => ?_
    refine ms_iald (pc := 18) S g4 (m_dec e11_splices 10 rfl) ?_
    refine ms_icmp_gt (pc := 19) S (m_dec e11_splices 11 rfl) rfl (fun q5 => ?_) (fun q5 => ?_)
    · refine ms_iconst (pc := 44) S (m_dec e11_splices 25 rfl) ?_
      exact ms_ret (pc := 45) E (m_dec e11_splices 26 rfl) rfl
    · refine ms_aload_n (pc := 22) S 0 rfl rfl (m_dec e11_splices 12 rfl) ?_
      refine ms_getf (pc := 23) S lf_X11_181 rfl (m_dec e11_splices 13 rfl) g1 ?_
      refine ms_iload_n (pc := 26) S 2 rfl rfl (m_dec e11_splices 14 rfl) ?_
      refine ms_iald (pc := 27) S g2 (m_dec e11_splices 15 rfl) ?_
      refine ms_aload_n (pc := 28) S 0 rfl rfl (m_dec e11_splices 16 rfl) ?_
      refine ms_getf (pc := 29) S lf_X11_181 rfl (m_dec e11_splices 17 rfl) g1 ?_
      refine ms_iload_n (pc := 32) S 3 rfl rfl (m_dec e11_splices 18 rfl) ?_
      refine ms_iald (pc := 33) S g4 (m_dec e11_splices 19 rfl) ?_
      refine ms_iadd (pc := 34) S (m_dec e11_splices 20 rfl) ?_
      refine ms_iload (pc := 35) S 4 rfl (m_dec e11_splices 21 rfl) ?_
      refine ms_isub (pc := 37) S (m_dec e11_splices 22 rfl) ?_
      refine ms_sipush (pc := 38) S (m_dec e11_splices 23 rfl) rfl ?_
      refine ms_icmp_le (pc := 41) S (m_dec e11_splices 24 rfl) rfl (fun q6 => ?_) (fun q6 => ?_)
      · refine ms_iconst (pc := 44) S (m_dec e11_splices 25 rfl) ?_
        exact ms_ret (pc := 45) E (m_dec e11_splices 26 rfl) rfl
      · refine ms_iconst (pc := 46) S (m_dec e11_splices 27 rfl) ?_
        refine ms_istore (pc := 47) S (L' := [(0, m_r v0), (1, m_i v1), (2, m_i v2), (3, m_i v3), (4, m_i v4), (5, m_i 0)]) [1, 2, 3, 4, 5, 0] rfl (m_lt hN rfl) (m_dec e11_splices 28 rfl) ?_
        refine ms_iconst (pc := 49) S (m_dec e11_splices 29 rfl) ?_
        refine ms_istore (pc := 50) S (L' := [(0, m_r v0), (1, m_i v1), (2, m_i v2), (3, m_i v3), (4, m_i v4), (5, m_i 0), (6, m_i 0)]) [1, 2, 3, 4, 5, 6, 0] rfl (m_lt hN rfl) (m_dec e11_splices 30 rfl) ?_
        exact s11_splices_c52 S E hF hFn hN v0 v1 v2 v3 v4 0 0 h
theorem k11_splices (l : Launch) (d : m_D) (v0 v1 v2 v3 v4 : Int) (h : m_H) : m_Con l d yX11_splices cX11_splices 7 (some .boolean) 2 (fun r => [m_i (m_b2i r)]) [m_r v0, m_i v1, m_i v2, m_i v3, m_i v4] h (t11_splices v0 v1 v2 v3 v4 h) :=
  m_con2 (by decide +kernel) (Nat.le_of_ble_eq_true rfl) (fun Y hN hRm hr hI S hfin => s11_splices S (m_end_z S hr hfin) hRm (Nat.le_refl _) hN v0 v1 v2 v3 v4 h)
set_option maxRecDepth 100000 in
theorem e11_loops : ∀ q ∈ ([(0, .iload_n 3, 1), (1, .ifCond .eq 10, 3), (4, .iload_n 3, 1), (5, .sipush 1500, 3), (8, .if_icmp .le 5, 3), (11, .iconst 0, 1), (12, .ireturn, 1), (13, .iconst 0, 1), (14, .istore 4, 2), (16, .iload 4, 2), (18, .iload_n 3, 1), (19, .if_icmp .ge 34, 3), (22, .aload_n 0, 1), (23, .getfield 178, 3), (26, .iload_n 1, 1), (27, .aaload, 1), (28, .iload 4, 2), (30, .aload_n 0, 1), (31, .getfield 178, 3), (34, .iload_n 2, 1), (35, .aaload, 1), (36, .iload 4, 2), (38, .aload_n 0, 1), (39, .getfield 181, 3), (42, .iload_n 2, 1), (43, .iaload, 1), (44, .irem, 1), (45, .iaload, 1), (46, .iastore, 1), (47, .iinc 4 1, 3), (50, .goto (-34), 3), (53, .aload_n 0, 1), (54, .getfield 181, 3), (57, .iload_n 1, 1), (58, .iload_n 3, 1), (59, .iastore, 1), (60, .iconst 1, 1), (61, .ireturn, 1)] : List (Nat × Instr × Nat)), decode cX11_loops q.1 = .ok q.2 := by decide +kernel
set_option maxHeartbeats 4000000 in
set_option maxRecDepth 20000 in
theorem s11_loops_c16 {Y : m_Y Bool} (S : m_Std Y RX11 cX11_loops) (E : m_End Y cX11_loops .ireturn (fun r => [m_i (m_b2i r)])) {F : Nat} (hF : m_Rm Y F) (hFn : 0 ≤ F) (hN : Y.2.2.2.1 = 5) : ∀ (v0 v1 v2 v3 v4 : Int) (h : m_H), m_Sim Y 16 [(0, m_r v0), (1, m_i v1), (2, m_i v2), (3, m_i v3), (4, m_i v4)] [] h (t11_loops_c16 v0 v1 v2 v3 v4 h) := by
  intro v0 v1 v2 v3 v4 h
  refine ms_all fun r e => ?_
  refine t11_loops_c16.partial_correctness v0 v1 v2 v3 (motive := fun v4 h r => m_Sim Y 16 [(0, m_r v0), (1, m_i v1), (2, m_i v2), (3, m_i v3), (4, m_i v4)] [] h (some r)) ?_ v4 h r e
  intro f ih v4 h r e
  have ih : ∀ (v4 : Int) (h : m_H), m_Sim Y 16 [(0, m_r v0), (1, m_i v1), (2, m_i v2), (3, m_i v3), (4, m_i v4)] [] h (f v4 h ) := fun v4 h  => ms_all fun r e => ih v4 h r e
  refine ms_use ?_ e
  clear e r
  refine ms_iload (pc := 16) S 4 rfl (m_dec e11_loops 9 rfl) ?_
  refine ms_iload_n (pc := 18) S 3 rfl rfl (m_dec e11_loops 10 rfl) ?_
  refine ms_icmp_ge (pc := 19) S (m_dec e11_loops 11 rfl) rfl (fun q1 => ?_) (fun q1 => ?_)
  · refine ms_aload_n (pc := 22) S 0 rfl rfl (m_dec e11_loops 12 rfl) ?_
    refine ms_grd fun g2 => ?_
    refine ms_getf (pc := 23) S lf_X11_178 rfl (m_dec e11_loops 13 rfl) g2 ?_
    refine ms_iload_n (pc := 26) S 1 rfl rfl (m_dec e11_loops 14 rfl) ?_
    refine ms_grd fun g3 => ?_
    refine ms_aald (pc := 27) S 29 (by decide) (fun _ => rfl) rfl g3 (m_dec e11_loops 15 rfl) ?_
    refine ms_iload (pc := 28) S 4 rfl (m_dec e11_loops 16 rfl) ?_
    refine ms_aload_n (pc := 30) S 0 rfl rfl (m_dec e11_loops 17 rfl) ?_
    refine ms_getf (pc := 31) S lf_X11_178 rfl (m_dec e11_loops 18 rfl) g2 ?_
    refine ms_iload_n (pc := 34) S 2 rfl rfl (m_dec e11_loops 19 rfl) ?_
    refine ms_grd fun g4 => ?_
    refine ms_aald (pc := 35) S 29 (by decide) (fun _ => rfl) rfl g4 (m_dec e11_loops 20 rfl) ?_
    refine ms_iload (pc := 36) S 4 rfl (m_dec e11_loops 21 rfl) ?_
    refine ms_aload_n (pc := 38) S 0 rfl rfl (m_dec e11_loops 22 rfl) ?_
    refine ms_getf (pc := 39) S lf_X11_181 rfl (m_dec e11_loops 23 rfl) g2 ?_
    refine ms_iload_n (pc := 42) S 2 rfl rfl (m_dec e11_loops 24 rfl) ?_
    refine ms_grd fun g5 => ?_
    refine ms_iald (pc := 43) S g5 (m_dec e11_loops 25 rfl) ?_
    refine ms_irem (pc := 44) S (m_dec e11_loops 26 rfl) ?_
    refine ms_grd fun g6 => ?_
    refine ms_iald (pc := 45) S g6 (m_dec e11_loops 27 rfl) ?_
    refine ms_grd fun g7 => ?_
    refine ms_iast (pc := 46) S g7 (m_dec e11_loops 28 rfl) (fun h8 => ?_)
    refine ms_iinc (pc := 47) S (L' := [(0, m_r v0), (1, m_i v1), (2, m_i v2), (3, m_i v3), (4, m_i (v4 + 1))]) 4 rfl [1, 2, 3, 4, 0] rfl (m_lt hN rfl) (m_dec e11_loops 29 rfl) ?_
    refine ms_goto (pc := 50) S (m_dec e11_loops 30 rfl) rfl ?_
    exact ih (v4 + 1) h8
  · refine ms_aload_n (pc := 53) S 0 rfl rfl (m_dec e11_loops 31 rfl) ?_
    refine ms_grd fun g9 => ?_
    refine ms_getf (pc := 54) S lf_X11_181 rfl (m_dec e11_loops 32 rfl) g9 ?_
    refine ms_iload_n (pc := 57) S 1 rfl rfl (m_dec e11_loops 33 rfl) ?_
    refine ms_iload_n (pc := 58) S 3 rfl rfl (m_dec e11_loops 34 rfl) ?_
    refine ms_grd fun g10 => ?_
    refine ms_iast (pc := 59) S g10 (m_dec e11_loops 35 rfl) (fun h11 => ?_)
    refine ms_iconst (pc := 60) S (m_dec e11_loops 36 rfl) ?_
    exact ms_ret (pc := 61) E (m_dec e11_loops 37 rfl) rfl
set_option maxHeartbeats 4000000 in
set_option maxRecDepth 20000 in
theorem s11_loops {Y : m_Y Bool} (S : m_Std Y RX11 cX11_loops) (E : m_End Y cX11_loops .ireturn (fun r => [m_i (m_b2i r)])) {F : Nat} (hF : m_Rm Y F) (hFn : 0 ≤ F) (hN : Y.2.2.2.1 = 5) (v0 v1 v2 v3 : Int) (h : m_H) : m_Sim Y 0 [(0, m_r v0), (1, m_i v1), (2, m_i v2), (3, m_i v3)] [] h (t11_loops v0 v1 v2 v3 h) := by
  unfold t11_loops
  refine ms_iload_n (pc := 0) S 3 rfl rfl (m_dec e11_loops 0 rfl) ?_
  refine ms_if_eq (pc := 1) S (m_dec e11_loops 1 rfl) rfl (fun q1 => ?_) (fun q1 => ?_)
  · refine ms_iconst (pc := 11) S (m_dec e11_loops 5 rfl) ?_
    exact ms_ret (pc := 12) E (m_dec e11_loops 6 rfl) rfl
  · refine ms_iload_n (pc := 4) S 3 rfl rfl (m_dec e11_loops 2 rfl) ?_
    refine ms_sipush (pc := 5) S (m_dec e11_loops 3 rfl) rfl ?_
    refine ms_icmp_le (pc := 8) S (m_dec e11_loops 4 rfl) rfl (fun q2 => ?_) (fun q2 => ?_)
    · refine ms_iconst (pc := 11) S (m_dec e11_loops 5 rfl) ?_
      exact ms_ret (pc := 12) E (m_dec e11_loops 6 rfl) rfl
    · refine ms_iconst (pc := 13) S (m_dec e11_loops 7 rfl) ?_
      refine ms_istore (pc := 14) S (L' := [(0, m_r v0), (1, m_i v1), (2, m_i v2), (3, m_i v3), (4, m_i 0)]) [1, 2, 3, 4, 0] rfl (m_lt hN rfl) (m_dec e11_loops 8 rfl) ?_
      exact s11_loops_c16 S E hF hFn hN v0 v1 v2 v3 0 h
theorem k11_loops (l : Launch) (d : m_D) (v0 v1 v2 v3 : Int) (h : m_H) : m_Con l d yX11_loops cX11_loops 5 (some .boolean) 0 (fun r => [m_i (m_b2i r)]) [m_r v0, m_i v1, m_i v2, m_i v3] h (t11_loops v0 v1 v2 v3 h) :=
  m_con2 (by decide +kernel) (Nat.le_of_ble_eq_true rfl) (fun Y hN hRm hr hI S hfin => s11_loops S (m_end_z S hr hfin) hRm (Nat.le_refl _) hN v0 v1 v2 v3 h)
set_option maxRecDepth 100000 in
theorem e11_echoes : ∀ q ∈ ([(0, .iload_n 2, 1), (1, .istore 4, 2), (3, .iload 4, 2), (5, .aload_n 0, 1), (6, .getfield 181, 3), (9, .iload_n 1, 1), (10, .iaload, 1), (11, .if_icmp .ge 51, 3), (14, .aload_n 0, 1), (15, .getfield 178, 3), (18, .iload_n 1, 1), (19, .aaload, 1), (20, .iload 4, 2), (22, .aload_n 0, 1), (23, .getfield 178, 3), (26, .iload_n 1, 1), (27, .aaload, 1), (28, .iload 4, 2), (30, .iaload, 1), (31, .i2l, 1), (32, .aload_n 0, 1), (33, .getfield 178, 3), (36, .iload_n 1, 1), (37, .aaload, 1), (38, .iload 4, 2), (40, .iload_n 2, 1), (41, .isub, 1), (42, .iaload, 1), (43, .i2l, 1), (44, .iload_n 3, 1), (45, .i2l, 1), (46, .lmul, 1), (47, .ldc2_w 465, 3), (50, .ldiv, 1), (51, .ladd, 1), (52, .invokestatic 320, 3), (55, .iastore, 1), (56, .iinc 4 1, 3), (59, .goto (-56), 3), (62, .return_, 1)] : List (Nat × Instr × Nat)), decode cX11_echoes q.1 = .ok q.2 := by decide +kernel
set_option maxHeartbeats 4000000 in
set_option maxRecDepth 20000 in
theorem s11_echoes_c3 {Y : m_Y Unit} (S : m_Std Y RX11 cX11_echoes) (E : m_End Y cX11_echoes .return_ (fun _ => [])) {F : Nat} (hF : m_Rm Y F) (hFn : 1 ≤ F) (hN : Y.2.2.2.1 = 5) : ∀ (v0 v1 v2 v3 v4 : Int) (h : m_H), m_Sim Y 3 [(0, m_r v0), (1, m_i v1), (2, m_i v2), (3, m_i v3), (4, m_i v4)] [] h (t11_echoes_c3 v0 v1 v2 v3 v4 h) := by
  intro v0 v1 v2 v3 v4 h
  refine ms_all fun r e => ?_
  refine t11_echoes_c3.partial_correctness v0 v1 v2 v3 (motive := fun v4 h r => m_Sim Y 3 [(0, m_r v0), (1, m_i v1), (2, m_i v2), (3, m_i v3), (4, m_i v4)] [] h (some r)) ?_ v4 h r e
  intro f ih v4 h r e
  have ih : ∀ (v4 : Int) (h : m_H), m_Sim Y 3 [(0, m_r v0), (1, m_i v1), (2, m_i v2), (3, m_i v3), (4, m_i v4)] [] h (f v4 h ) := fun v4 h  => ms_all fun r e => ih v4 h r e
  refine ms_use ?_ e
  clear e r
  refine ms_iload (pc := 3) S 4 rfl (m_dec e11_echoes 2 rfl) ?_
  refine ms_aload_n (pc := 5) S 0 rfl rfl (m_dec e11_echoes 3 rfl) ?_
  refine ms_grd fun g1 => ?_
  refine ms_getf (pc := 6) S lf_X11_181 rfl (m_dec e11_echoes 4 rfl) g1 ?_
  refine ms_iload_n (pc := 9) S 1 rfl rfl (m_dec e11_echoes 5 rfl) ?_
  refine ms_grd fun g2 => ?_
  refine ms_iald (pc := 10) S g2 (m_dec e11_echoes 6 rfl) ?_
  refine ms_icmp_ge (pc := 11) S (m_dec e11_echoes 7 rfl) rfl (fun q3 => ?_) (fun q3 => ?_)
  · refine ms_aload_n (pc := 14) S 0 rfl rfl (m_dec e11_echoes 8 rfl) ?_
    refine ms_getf (pc := 15) S lf_X11_178 rfl (m_dec e11_echoes 9 rfl) g1 ?_
    refine ms_iload_n (pc := 18) S 1 rfl rfl (m_dec e11_echoes 10 rfl) ?_
    refine ms_grd fun g4 => ?_
    refine ms_aald (pc := 19) S 29 (by decide) (fun _ => rfl) rfl g4 (m_dec e11_echoes 11 rfl) ?_
    refine ms_iload (pc := 20) S 4 rfl (m_dec e11_echoes 12 rfl) ?_
    refine ms_aload_n (pc := 22) S 0 rfl rfl (m_dec e11_echoes 13 rfl) ?_
    refine ms_getf (pc := 23) S lf_X11_178 rfl (m_dec e11_echoes 14 rfl) g1 ?_
    refine ms_iload_n (pc := 26) S 1 rfl rfl (m_dec e11_echoes 15 rfl) ?_
    refine ms_aald (pc := 27) S 29 (by decide) (fun _ => rfl) rfl g4 (m_dec e11_echoes 16 rfl) ?_
    refine ms_iload (pc := 28) S 4 rfl (m_dec e11_echoes 17 rfl) ?_
    refine ms_grd fun g5 => ?_
    refine ms_iald (pc := 30) S g5 (m_dec e11_echoes 18 rfl) ?_
    refine ms_i2l (pc := 31) S (m_dec e11_echoes 19 rfl) ?_
    refine ms_aload_n (pc := 32) S 0 rfl rfl (m_dec e11_echoes 20 rfl) ?_
    refine ms_getf (pc := 33) S lf_X11_178 rfl (m_dec e11_echoes 21 rfl) g1 ?_
    refine ms_iload_n (pc := 36) S 1 rfl rfl (m_dec e11_echoes 22 rfl) ?_
    refine ms_aald (pc := 37) S 29 (by decide) (fun _ => rfl) rfl g4 (m_dec e11_echoes 23 rfl) ?_
    refine ms_iload (pc := 38) S 4 rfl (m_dec e11_echoes 24 rfl) ?_
    refine ms_iload_n (pc := 40) S 2 rfl rfl (m_dec e11_echoes 25 rfl) ?_
    refine ms_isub (pc := 41) S (m_dec e11_echoes 26 rfl) ?_
    refine ms_grd fun g6 => ?_
    refine ms_iald (pc := 42) S g6 (m_dec e11_echoes 27 rfl) ?_
    refine ms_i2l (pc := 43) S (m_dec e11_echoes 28 rfl) ?_
    refine ms_iload_n (pc := 44) S 3 rfl rfl (m_dec e11_echoes 29 rfl) ?_
    refine ms_i2l (pc := 45) S (m_dec e11_echoes 30 rfl) ?_
    refine ms_lmul (pc := 46) S (m_dec e11_echoes 31 rfl) ?_
    refine ms_ldc2 (pc := 47) S (n := 256) w_2076 (m_dec e11_echoes 32 rfl) ?_
    refine ms_ldivN (pc := 50) S (by decide) (m_dec e11_echoes 33 rfl) ?_
    refine ms_ladd (pc := 51) S (m_dec e11_echoes 34 rfl) ?_
    refine ms_callSi (pc := 52) S hF (vals := [m_j ((m_w (m_g h (m_g h (m_g h v0 50) (m_w v1)) (m_w v4))) + (Int.tdiv (m_v ((m_w (m_g h (m_g h (m_g h v0 50) (m_w v1)) (m_w (v4 - v2)))) * (m_w v3))) 256))]) (st := [m_i v4, m_r (m_g h (m_g h v0 50) (m_w v1))])  (hC := (k11_bounded _ _ ((m_w (m_g h (m_g h (m_g h v0 50) (m_w v1)) (m_w v4))) + (Int.tdiv (m_v ((m_w (m_g h (m_g h (m_g h v0 50) (m_w v1)) (m_w (v4 - v2)))) * (m_w v3))) 256)) h)) (hM := lm_X11_320) (hfr := (Nat.le_trans (by decide) hFn)) (hstk := rfl) (hcat := Nat.le_of_ble_eq_true rfl) (hd := (m_dec e11_echoes 35 rfl)) (k1 := fun r8 h7 => ?_)
    refine ms_grd fun g9 => ?_
    refine ms_iast (pc := 55) S g9 (m_dec e11_echoes 36 rfl) (fun h10 => ?_)
    refine ms_iinc (pc := 56) S (L' := [(0, m_r v0), (1, m_i v1), (2, m_i v2), (3, m_i v3), (4, m_i (v4 + 1))]) 4 rfl [1, 2, 3, 4, 0] rfl (m_lt hN rfl) (m_dec e11_echoes 37 rfl) ?_
    refine ms_goto (pc := 59) S (m_dec e11_echoes 38 rfl) rfl ?_
    exact ih (v4 + 1) h10
  · exact ms_ret (pc := 62) E (m_dec e11_echoes 39 rfl) rfl
set_option maxHeartbeats 4000000 in
set_option maxRecDepth 20000 in
theorem s11_echoes {Y : m_Y Unit} (S : m_Std Y RX11 cX11_echoes) (E : m_End Y cX11_echoes .return_ (fun _ => [])) {F : Nat} (hF : m_Rm Y F) (hFn : 1 ≤ F) (hN : Y.2.2.2.1 = 5) (v0 v1 v2 v3 : Int) (h : m_H) : m_Sim Y 0 [(0, m_r v0), (1, m_i v1), (2, m_i v2), (3, m_i v3)] [] h (t11_echoes v0 v1 v2 v3 h) := by
  unfold t11_echoes
  refine ms_iload_n (pc := 0) S 2 rfl rfl (m_dec e11_echoes 0 rfl) ?_
  refine ms_istore (pc := 1) S (L' := [(0, m_r v0), (1, m_i v1), (2, m_i v2), (3, m_i v3), (4, m_i v2)]) [1, 2, 3, 4, 0] rfl (m_lt hN rfl) (m_dec e11_echoes 1 rfl) ?_
  exact s11_echoes_c3 S E hF hFn hN v0 v1 v2 v3 v2 h
theorem k11_echoes (l : Launch) (d : m_D) (v0 v1 v2 v3 : Int) (h : m_H) : m_Con l d yX11_echoes cX11_echoes 5 none 1 (fun _ => []) [m_r v0, m_i v1, m_i v2, m_i v3] h (t11_echoes v0 v1 v2 v3 h) :=
  m_con2 (by decide +kernel) (Nat.le_of_ble_eq_true rfl) (fun Y hN hRm hr hI S hfin => s11_echoes S (m_end_v S hr hfin) hRm (Nat.le_refl _) hN v0 v1 v2 v3 h)
set_option maxRecDepth 100000 in
theorem e11_filters : ∀ q ∈ ([(0, .aload_n 0, 1), (1, .getfield 181, 3), (4, .iload_n 2, 1), (5, .iaload, 1), (6, .istore 6, 2), (8, .iconst 0, 1), (9, .istore 7, 2), (11, .iload 7, 2), (13, .iload 6, 2), (15, .if_icmp .ge 98, 3), (18, .iload 7, 2), (20, .ifCond .le 21, 3), (23, .aload_n 0, 1), (24, .getfield 178, 3), (27, .iload_n 2, 1), (28, .aaload, 1), (29, .iload 7, 2), (31, .iconst 1, 1), (32, .isub, 1), (33, .iaload, 1), (34, .i2l, 1), (35, .iload_n 3, 1), (36, .i2l, 1), (37, .lmul, 1), (38, .goto 4, 3), (41, .lconst 0, 1), (42, .aload_n 0, 1), (43, .getfield 178, 3), (46, .iload_n 2, 1), (47, .aaload, 1), (48, .iload 7, 2), (50, .iaload, 1), (51, .i2l, 1), (52, .iload 4, 2), (54, .i2l, 1), (55, .lmul, 1), (56, .ladd, 1), (57, .iload 7, 2), (59, .iconst 1, 1), (60, .iadd, 1), (61, .iload 6, 2), (63, .if_icmp .ge 22, 3), (66, .aload_n 0, 1), (67, .getfield 178, 3), (70, .iload_n 2, 1), (71, .aaload, 1), (72, .iload 7, 2), (74, .iconst 1, 1), (75, .iadd, 1), (76, .iaload, 1), (77, .i2l, 1), (78, .iload 5, 2), (80, .i2l, 1), (81, .lmul, 1), (82, .goto 4, 3), (85, .lconst 0, 1), (86, .ladd, 1), (87, .lstore 8, 2), (89, .aload_n 0, 1), (90, .getfield 178, 3), (93, .iload_n 1, 1), (94, .aaload, 1), (95, .iload 7, 2), (97, .lload 8, 2), (99, .ldc2_w 346, 3), (102, .ldiv, 1), (103, .invokestatic 320, 3), (106, .iastore, 1), (107, .iinc 7 1, 3), (110, .goto (-99), 3), (113, .aload_n 0, 1), (114, .getfield 181, 3), (117, .iload_n 1, 1), (118, .iload 6, 2), (120, .iastore, 1), (121, .return_, 1)] : List (Nat × Instr × Nat)), decode cX11_filters q.1 = .ok q.2 := by decide +kernel
set_option maxHeartbeats 4000000 in
set_option maxRecDepth 20000 in
theorem s11_filters_c11 {Y : m_Y Unit} (S : m_Std Y RX11 cX11_filters) (E : m_End Y cX11_filters .return_ (fun _ => [])) {F : Nat} (hF : m_Rm Y F) (hFn : 1 ≤ F) (hN : Y.2.2.2.1 = 10) : ∀ (v0 v1 v2 v3 v4 v5 v6 v7 : Int) (h : m_H), m_Sim Y 11 [(0, m_r v0), (1, m_i v1), (2, m_i v2), (3, m_i v3), (4, m_i v4), (5, m_i v5), (6, m_i v6), (7, m_i v7)] [] h (t11_filters_c11 v0 v1 v2 v3 v4 v5 v6 v7 h) := by
  intro v0 v1 v2 v3 v4 v5 v6 v7 h
  refine ms_all fun r e => ?_
  refine t11_filters_c11.partial_correctness v0 v1 v2 v3 v4 v5 v6 (motive := fun v7 h r => m_Sim Y 11 [(0, m_r v0), (1, m_i v1), (2, m_i v2), (3, m_i v3), (4, m_i v4), (5, m_i v5), (6, m_i v6), (7, m_i v7)] [] h (some r)) ?_ v7 h r e
  intro f ih v7 h r e
  have ih : ∀ (v7 : Int) (h : m_H), m_Sim Y 11 [(0, m_r v0), (1, m_i v1), (2, m_i v2), (3, m_i v3), (4, m_i v4), (5, m_i v5), (6, m_i v6), (7, m_i v7)] [] h (f v7 h ) := fun v7 h  => ms_all fun r e => ih v7 h r e
  refine ms_use ?_ e
  clear e r
  refine ms_iload (pc := 11) S 7 rfl (m_dec e11_filters 7 rfl) ?_
  refine ms_iload (pc := 13) S 6 rfl (m_dec e11_filters 8 rfl) ?_
  refine ms_icmp_ge (pc := 15) S (m_dec e11_filters 9 rfl) rfl (fun q1 => ?_) (fun q1 => ?_)
  · refine ms_iload (pc := 18) S 7 rfl (m_dec e11_filters 10 rfl) ?_
    refine ms_if_le (pc := 20) S (m_dec e11_filters 11 rfl) rfl (fun q2 => ?_) (fun q2 => ?_)
    · refine ms_aload_n (pc := 23) S 0 rfl rfl (m_dec e11_filters 12 rfl) ?_
      refine ms_grd fun g3 => ?_
      refine ms_getf (pc := 24) S lf_X11_178 rfl (m_dec e11_filters 13 rfl) g3 ?_
      refine ms_iload_n (pc := 27) S 2 rfl rfl (m_dec e11_filters 14 rfl) ?_
      refine ms_grd fun g4 => ?_
      refine ms_aald (pc := 28) S 29 (by decide) (fun _ => rfl) rfl g4 (m_dec e11_filters 15 rfl) ?_
      refine ms_iload (pc := 29) S 7 rfl (m_dec e11_filters 16 rfl) ?_
      refine ms_iconst (pc := 31) S (m_dec e11_filters 17 rfl) ?_
      refine ms_isub (pc := 32) S (m_dec e11_filters 18 rfl) ?_
      refine ms_grd fun g5 => ?_
      refine ms_iald (pc := 33) S g5 (m_dec e11_filters 19 rfl) ?_
      refine ms_i2l (pc := 34) S (m_dec e11_filters 20 rfl) ?_
      refine ms_iload_n (pc := 35) S 3 rfl rfl (m_dec e11_filters 21 rfl) ?_
      refine ms_i2l (pc := 36) S (m_dec e11_filters 22 rfl) ?_
      refine ms_lmul (pc := 37) S (m_dec e11_filters 23 rfl) ?_
      refine ms_goto (pc := 38) S (m_dec e11_filters 24 rfl) rfl ?_
      refine ms_aload_n (pc := 42) S 0 rfl rfl (m_dec e11_filters 26 rfl) ?_
      refine ms_getf (pc := 43) S lf_X11_178 rfl (m_dec e11_filters 27 rfl) g3 ?_
      refine ms_iload_n (pc := 46) S 2 rfl rfl (m_dec e11_filters 28 rfl) ?_
      refine ms_aald (pc := 47) S 29 (by decide) (fun _ => rfl) rfl g4 (m_dec e11_filters 29 rfl) ?_
      refine ms_iload (pc := 48) S 7 rfl (m_dec e11_filters 30 rfl) ?_
      refine ms_grd fun g6 => ?_
      refine ms_iald (pc := 50) S g6 (m_dec e11_filters 31 rfl) ?_
      refine ms_i2l (pc := 51) S (m_dec e11_filters 32 rfl) ?_
      refine ms_iload (pc := 52) S 4 rfl (m_dec e11_filters 33 rfl) ?_
      refine ms_i2l (pc := 54) S (m_dec e11_filters 34 rfl) ?_
      refine ms_lmul (pc := 55) S (m_dec e11_filters 35 rfl) ?_
      refine ms_ladd (pc := 56) S (m_dec e11_filters 36 rfl) ?_
      refine ms_iload (pc := 57) S 7 rfl (m_dec e11_filters 37 rfl) ?_
      refine ms_iconst (pc := 59) S (m_dec e11_filters 38 rfl) ?_
      refine ms_iadd (pc := 60) S (m_dec e11_filters 39 rfl) ?_
      refine ms_iload (pc := 61) S 6 rfl (m_dec e11_filters 40 rfl) ?_
      refine ms_icmp_ge (pc := 63) S (m_dec e11_filters 41 rfl) rfl (fun q7 => ?_) (fun q7 => ?_)
      · refine ms_aload_n (pc := 66) S 0 rfl rfl (m_dec e11_filters 42 rfl) ?_
        refine ms_getf (pc := 67) S lf_X11_178 rfl (m_dec e11_filters 43 rfl) g3 ?_
        refine ms_iload_n (pc := 70) S 2 rfl rfl (m_dec e11_filters 44 rfl) ?_
        refine ms_aald (pc := 71) S 29 (by decide) (fun _ => rfl) rfl g4 (m_dec e11_filters 45 rfl) ?_
        refine ms_iload (pc := 72) S 7 rfl (m_dec e11_filters 46 rfl) ?_
        refine ms_iconst (pc := 74) S (m_dec e11_filters 47 rfl) ?_
        refine ms_iadd (pc := 75) S (m_dec e11_filters 48 rfl) ?_
        refine ms_grd fun g8 => ?_
        refine ms_iald (pc := 76) S g8 (m_dec e11_filters 49 rfl) ?_
        refine ms_i2l (pc := 77) S (m_dec e11_filters 50 rfl) ?_
        refine ms_iload (pc := 78) S 5 rfl (m_dec e11_filters 51 rfl) ?_
        refine ms_i2l (pc := 80) S (m_dec e11_filters 52 rfl) ?_
        refine ms_lmul (pc := 81) S (m_dec e11_filters 53 rfl) ?_
        refine ms_goto (pc := 82) S (m_dec e11_filters 54 rfl) rfl ?_
        refine ms_ladd (pc := 86) S (m_dec e11_filters 56 rfl) ?_
        refine ms_nm (st := fun x9 => [m_j x9]) fun x9 => ?_
        refine ms_lstore (pc := 87) S (L' := [(0, m_r v0), (1, m_i v1), (2, m_i v2), (3, m_i v3), (4, m_i v4), (5, m_i v5), (6, m_i v6), (7, m_i v7), (8, m_j x9)]) [1, 2, 3, 4, 5, 6, 7, 8, 0] rfl (m_lt hN rfl) (m_dec e11_filters 57 rfl) ?_
        refine ms_aload_n (pc := 89) S 0 rfl rfl (m_dec e11_filters 58 rfl) ?_
        refine ms_getf (pc := 90) S lf_X11_178 rfl (m_dec e11_filters 59 rfl) g3 ?_
        refine ms_iload_n (pc := 93) S 1 rfl rfl (m_dec e11_filters 60 rfl) ?_
        refine ms_grd fun g10 => ?_
        refine ms_aald (pc := 94) S 29 (by decide) (fun _ => rfl) rfl g10 (m_dec e11_filters 61 rfl) ?_
        refine ms_iload (pc := 95) S 7 rfl (m_dec e11_filters 62 rfl) ?_
        refine ms_lload (pc := 97) S 8 rfl (m_dec e11_filters 63 rfl) ?_
        refine ms_ldc2 (pc := 99) S (n := 64) w_1877 (m_dec e11_filters 64 rfl) ?_
        refine ms_ldivN (pc := 102) S (by decide) (m_dec e11_filters 65 rfl) ?_
        refine ms_callSi (pc := 103) S hF (vals := [m_j (Int.tdiv (m_v x9) 64)]) (st := [m_i v7, m_r (m_g h (m_g h v0 50) (m_w v1))])  (hC := (k11_bounded _ _ (Int.tdiv (m_v x9) 64) h)) (hM := lm_X11_320) (hfr := (Nat.le_trans (by decide) hFn)) (hstk := rfl) (hcat := Nat.le_of_ble_eq_true rfl) (hd := (m_dec e11_filters 66 rfl)) (k1 := fun r12 h11 => ?_)
        refine ms_grd fun g13 => ?_
        refine ms_iast (pc := 106) S g13 (m_dec e11_filters 67 rfl) (fun h14 => ?_)
        refine ms_iinc (pc := 107) S (L' := [(0, m_r v0), (1, m_i v1), (2, m_i v2), (3, m_i v3), (4, m_i v4), (5, m_i v5), (6, m_i v6), (7, m_i (v7 + 1))]) 7 rfl [1, 2, 3, 4, 5, 6, 7, 0] rfl (m_lt hN rfl) (m_dec e11_filters 68 rfl) ?_
        refine ms_goto (pc := 110) S (m_dec e11_filters 69 rfl) rfl ?_
        exact ih (v7 + 1) h14
      · refine ms_lconst (pc := 85) S (n := 0) rfl (m_dec e11_filters 55 rfl) ?_
        refine ms_ladd (pc := 86) S (m_dec e11_filters 56 rfl) ?_
        refine ms_nm (st := fun x15 => [m_j x15]) fun x15 => ?_
        refine ms_lstore (pc := 87) S (L' := [(0, m_r v0), (1, m_i v1), (2, m_i v2), (3, m_i v3), (4, m_i v4), (5, m_i v5), (6, m_i v6), (7, m_i v7), (8, m_j x15)]) [1, 2, 3, 4, 5, 6, 7, 8, 0] rfl (m_lt hN rfl) (m_dec e11_filters 57 rfl) ?_
        refine ms_aload_n (pc := 89) S 0 rfl rfl (m_dec e11_filters 58 rfl) ?_
        refine ms_getf (pc := 90) S lf_X11_178 rfl (m_dec e11_filters 59 rfl) g3 ?_
        refine ms_iload_n (pc := 93) S 1 rfl rfl (m_dec e11_filters 60 rfl) ?_
        refine ms_grd fun g16 => ?_
        refine ms_aald (pc := 94) S 29 (by decide) (fun _ => rfl) rfl g16 (m_dec e11_filters 61 rfl) ?_
        refine ms_iload (pc := 95) S 7 rfl (m_dec e11_filters 62 rfl) ?_
        refine ms_lload (pc := 97) S 8 rfl (m_dec e11_filters 63 rfl) ?_
        refine ms_ldc2 (pc := 99) S (n := 64) w_1877 (m_dec e11_filters 64 rfl) ?_
        refine ms_ldivN (pc := 102) S (by decide) (m_dec e11_filters 65 rfl) ?_
        refine ms_callSi (pc := 103) S hF (vals := [m_j (Int.tdiv (m_v x15) 64)]) (st := [m_i v7, m_r (m_g h (m_g h v0 50) (m_w v1))])  (hC := (k11_bounded _ _ (Int.tdiv (m_v x15) 64) h)) (hM := lm_X11_320) (hfr := (Nat.le_trans (by decide) hFn)) (hstk := rfl) (hcat := Nat.le_of_ble_eq_true rfl) (hd := (m_dec e11_filters 66 rfl)) (k1 := fun r18 h17 => ?_)
        refine ms_grd fun g19 => ?_
        refine ms_iast (pc := 106) S g19 (m_dec e11_filters 67 rfl) (fun h20 => ?_)
        refine ms_iinc (pc := 107) S (L' := [(0, m_r v0), (1, m_i v1), (2, m_i v2), (3, m_i v3), (4, m_i v4), (5, m_i v5), (6, m_i v6), (7, m_i (v7 + 1))]) 7 rfl [1, 2, 3, 4, 5, 6, 7, 0] rfl (m_lt hN rfl) (m_dec e11_filters 68 rfl) ?_
        refine ms_goto (pc := 110) S (m_dec e11_filters 69 rfl) rfl ?_
        exact ih (v7 + 1) h20
    · refine ms_lconst (pc := 41) S (n := 0) rfl (m_dec e11_filters 25 rfl) ?_
      refine ms_aload_n (pc := 42) S 0 rfl rfl (m_dec e11_filters 26 rfl) ?_
      refine ms_grd fun g21 => ?_
      refine ms_getf (pc := 43) S lf_X11_178 rfl (m_dec e11_filters 27 rfl) g21 ?_
      refine ms_iload_n (pc := 46) S 2 rfl rfl (m_dec e11_filters 28 rfl) ?_
      refine ms_grd fun g22 => ?_
      refine ms_aald (pc := 47) S 29 (by decide) (fun _ => rfl) rfl g22 (m_dec e11_filters 29 rfl) ?_
      refine ms_iload (pc := 48) S 7 rfl (m_dec e11_filters 30 rfl) ?_
      refine ms_grd fun g23 => ?_
      refine ms_iald (pc := 50) S g23 (m_dec e11_filters 31 rfl) ?_
      refine ms_i2l (pc := 51) S (m_dec e11_filters 32 rfl) ?_
      refine ms_iload (pc := 52) S 4 rfl (m_dec e11_filters 33 rfl) ?_
      refine ms_i2l (pc := 54) S (m_dec e11_filters 34 rfl) ?_
      refine ms_lmul (pc := 55) S (m_dec e11_filters 35 rfl) ?_
      refine ms_ladd (pc := 56) S (m_dec e11_filters 36 rfl) ?_
      refine ms_iload (pc := 57) S 7 rfl (m_dec e11_filters 37 rfl) ?_
      refine ms_iconst (pc := 59) S (m_dec e11_filters 38 rfl) ?_
      refine ms_iadd (pc := 60) S (m_dec e11_filters 39 rfl) ?_
      refine ms_iload (pc := 61) S 6 rfl (m_dec e11_filters 40 rfl) ?_
      refine ms_icmp_ge (pc := 63) S (m_dec e11_filters 41 rfl) rfl (fun q24 => ?_) (fun q24 => ?_)
      · refine ms_aload_n (pc := 66) S 0 rfl rfl (m_dec e11_filters 42 rfl) ?_
        refine ms_getf (pc := 67) S lf_X11_178 rfl (m_dec e11_filters 43 rfl) g21 ?_
        refine ms_iload_n (pc := 70) S 2 rfl rfl (m_dec e11_filters 44 rfl) ?_
        refine ms_aald (pc := 71) S 29 (by decide) (fun _ => rfl) rfl g22 (m_dec e11_filters 45 rfl) ?_
        refine ms_iload (pc := 72) S 7 rfl (m_dec e11_filters 46 rfl) ?_
        refine ms_iconst (pc := 74) S (m_dec e11_filters 47 rfl) ?_
        refine ms_iadd (pc := 75) S (m_dec e11_filters 48 rfl) ?_
        refine ms_grd fun g25 => ?_
        refine ms_iald (pc := 76) S g25 (m_dec e11_filters 49 rfl) ?_
        refine ms_i2l (pc := 77) S (m_dec e11_filters 50 rfl) ?_
        refine ms_iload (pc := 78) S 5 rfl (m_dec e11_filters 51 rfl) ?_
        refine ms_i2l (pc := 80) S (m_dec e11_filters 52 rfl) ?_
        refine ms_lmul (pc := 81) S (m_dec e11_filters 53 rfl) ?_
        refine ms_goto (pc := 82) S (m_dec e11_filters 54 rfl) rfl ?_
        refine ms_ladd (pc := 86) S (m_dec e11_filters 56 rfl) ?_
        refine ms_nm (st := fun x26 => [m_j x26]) fun x26 => ?_
        refine ms_lstore (pc := 87) S (L' := [(0, m_r v0), (1, m_i v1), (2, m_i v2), (3, m_i v3), (4, m_i v4), (5, m_i v5), (6, m_i v6), (7, m_i v7), (8, m_j x26)]) [1, 2, 3, 4, 5, 6, 7, 8, 0] rfl (m_lt hN rfl) (m_dec e11_filters 57 rfl) ?_
        refine ms_aload_n (pc := 89) S 0 rfl rfl (m_dec e11_filters 58 rfl) ?_
        refine ms_getf (pc := 90) S lf_X11_178 rfl (m_dec e11_filters 59 rfl) g21 ?_
        refine ms_iload_n (pc := 93) S 1 rfl rfl (m_dec e11_filters 60 rfl) ?_
        refine ms_grd fun g27 => ?_
        refine ms_aald (pc := 94) S 29 (by decide) (fun _ => rfl) rfl g27 (m_dec e11_filters 61 rfl) ?_
        refine ms_iload (pc := 95) S 7 rfl (m_dec e11_filters 62 rfl) ?_
        refine ms_lload (pc := 97) S 8 rfl (m_dec e11_filters 63 rfl) ?_
        refine ms_ldc2 (pc := 99) S (n := 64) w_1877 (m_dec e11_filters 64 rfl) ?_
        refine ms_ldivN (pc := 102) S (by decide) (m_dec e11_filters 65 rfl) ?_
        refine ms_callSi (pc := 103) S hF (vals := [m_j (Int.tdiv (m_v x26) 64)]) (st := [m_i v7, m_r (m_g h (m_g h v0 50) (m_w v1))])  (hC := (k11_bounded _ _ (Int.tdiv (m_v x26) 64) h)) (hM := lm_X11_320) (hfr := (Nat.le_trans (by decide) hFn)) (hstk := rfl) (hcat := Nat.le_of_ble_eq_true rfl) (hd := (m_dec e11_filters 66 rfl)) (k1 := fun r29 h28 => ?_)
        refine ms_grd fun g30 => ?_
        refine ms_iast (pc := 106) S g30 (m_dec e11_filters 67 rfl) (fun h31 => ?_)
        refine ms_iinc (pc := 107) S (L' := [(0, m_r v0), (1, m_i v1), (2, m_i v2), (3, m_i v3), (4, m_i v4), (5, m_i v5), (6, m_i v6), (7, m_i (v7 + 1))]) 7 rfl [1, 2, 3, 4, 5, 6, 7, 0] rfl (m_lt hN rfl) (m_dec e11_filters 68 rfl) ?_
        refine ms_goto (pc := 110) S (m_dec e11_filters 69 rfl) rfl ?_
        exact ih (v7 + 1) h31
      · refine ms_lconst (pc := 85) S (n := 0) rfl (m_dec e11_filters 55 rfl) ?_
        refine ms_ladd (pc := 86) S (m_dec e11_filters 56 rfl) ?_
        refine ms_nm (st := fun x32 => [m_j x32]) fun x32 => ?_
        refine ms_lstore (pc := 87) S (L' := [(0, m_r v0), (1, m_i v1), (2, m_i v2), (3, m_i v3), (4, m_i v4), (5, m_i v5), (6, m_i v6), (7, m_i v7), (8, m_j x32)]) [1, 2, 3, 4, 5, 6, 7, 8, 0] rfl (m_lt hN rfl) (m_dec e11_filters 57 rfl) ?_
        refine ms_aload_n (pc := 89) S 0 rfl rfl (m_dec e11_filters 58 rfl) ?_
        refine ms_getf (pc := 90) S lf_X11_178 rfl (m_dec e11_filters 59 rfl) g21 ?_
        refine ms_iload_n (pc := 93) S 1 rfl rfl (m_dec e11_filters 60 rfl) ?_
        refine ms_grd fun g33 => ?_
        refine ms_aald (pc := 94) S 29 (by decide) (fun _ => rfl) rfl g33 (m_dec e11_filters 61 rfl) ?_
        refine ms_iload (pc := 95) S 7 rfl (m_dec e11_filters 62 rfl) ?_
        refine ms_lload (pc := 97) S 8 rfl (m_dec e11_filters 63 rfl) ?_
        refine ms_ldc2 (pc := 99) S (n := 64) w_1877 (m_dec e11_filters 64 rfl) ?_
        refine ms_ldivN (pc := 102) S (by decide) (m_dec e11_filters 65 rfl) ?_
        refine ms_callSi (pc := 103) S hF (vals := [m_j (Int.tdiv (m_v x32) 64)]) (st := [m_i v7, m_r (m_g h (m_g h v0 50) (m_w v1))])  (hC := (k11_bounded _ _ (Int.tdiv (m_v x32) 64) h)) (hM := lm_X11_320) (hfr := (Nat.le_trans (by decide) hFn)) (hstk := rfl) (hcat := Nat.le_of_ble_eq_true rfl) (hd := (m_dec e11_filters 66 rfl)) (k1 := fun r35 h34 => ?_)
        refine ms_grd fun g36 => ?_
        refine ms_iast (pc := 106) S g36 (m_dec e11_filters 67 rfl) (fun h37 => ?_)
        refine ms_iinc (pc := 107) S (L' := [(0, m_r v0), (1, m_i v1), (2, m_i v2), (3, m_i v3), (4, m_i v4), (5, m_i v5), (6, m_i v6), (7, m_i (v7 + 1))]) 7 rfl [1, 2, 3, 4, 5, 6, 7, 0] rfl (m_lt hN rfl) (m_dec e11_filters 68 rfl) ?_
        refine ms_goto (pc := 110) S (m_dec e11_filters 69 rfl) rfl ?_
        exact ih (v7 + 1) h37
  · refine ms_aload_n (pc := 113) S 0 rfl rfl (m_dec e11_filters 70 rfl) ?_
    refine ms_grd fun g38 => ?_
    refine ms_getf (pc := 114) S lf_X11_181 rfl (m_dec e11_filters 71 rfl) g38 ?_
    refine ms_iload_n (pc := 117) S 1 rfl rfl (m_dec e11_filters 72 rfl) ?_
    refine ms_iload (pc := 118) S 6 rfl (m_dec e11_filters 73 rfl) ?_
    refine ms_grd fun g39 => ?_
    refine ms_iast (pc := 120) S g39 (m_dec e11_filters 74 rfl) (fun h40 => ?_)
    exact ms_ret (pc := 121) E (m_dec e11_filters 75 rfl) rfl
set_option maxHeartbeats 4000000 in
set_option maxRecDepth 20000 in
theorem s11_filters {Y : m_Y Unit} (S : m_Std Y RX11 cX11_filters) (E : m_End Y cX11_filters .return_ (fun _ => [])) {F : Nat} (hF : m_Rm Y F) (hFn : 1 ≤ F) (hN : Y.2.2.2.1 = 10) (v0 v1 v2 v3 v4 v5 : Int) (h : m_H) : m_Sim Y 0 [(0, m_r v0), (1, m_i v1), (2, m_i v2), (3, m_i v3), (4, m_i v4), (5, m_i v5)] [] h (t11_filters v0 v1 v2 v3 v4 v5 h) := by
  unfold t11_filters
  refine ms_aload_n (pc := 0) S 0 rfl rfl (m_dec e11_filters 0 rfl) ?_
  refine ms_grd fun g1 => ?_
  refine ms_getf (pc := 1) S lf_X11_181 rfl (m_dec e11_filters 1 rfl) g1 ?_
  refine ms_iload_n (pc := 4) S 2 rfl rfl (m_dec e11_filters 2 rfl) ?_
  refine ms_grd fun g2 => ?_
  refine ms_iald (pc := 5) S g2 (m_dec e11_filters 3 rfl) ?_
  refine ms_nm (st := fun x3 => [m_i x3]) fun x3 => ?_
  refine ms_istore (pc := 6) S (L' := [(0, m_r v0), (1, m_i v1), (2, m_i v2), (3, m_i v3), (4, m_i v4), (5, m_i v5), (6, m_i x3)]) [1, 2, 3, 4, 5, 6, 0] rfl (m_lt hN rfl) (m_dec e11_filters 4 rfl) ?_
  refine ms_iconst (pc := 8) S (m_dec e11_filters 5 rfl) ?_
  refine ms_istore (pc := 9) S (L' := [(0, m_r v0), (1, m_i v1), (2, m_i v2), (3, m_i v3), (4, m_i v4), (5, m_i v5), (6, m_i x3), (7, m_i 0)]) [1, 2, 3, 4, 5, 6, 7, 0] rfl (m_lt hN rfl) (m_dec e11_filters 6 rfl) ?_
  exact s11_filters_c11 S E hF hFn hN v0 v1 v2 v3 v4 v5 x3 0 h
theorem k11_filters (l : Launch) (d : m_D) (v0 v1 v2 v3 v4 v5 : Int) (h : m_H) : m_Con l d yX11_filters cX11_filters 10 none 1 (fun _ => []) [m_r v0, m_i v1, m_i v2, m_i v3, m_i v4, m_i v5] h (t11_filters v0 v1 v2 v3 v4 v5 h) :=
  m_con2 (by decide +kernel) (Nat.le_of_ble_eq_true rfl) (fun Y hN hRm hr hI S hfin => s11_filters S (m_end_v S hr hfin) hRm (Nat.le_refl _) hN v0 v1 v2 v3 v4 v5 h)
set_option maxRecDepth 100000 in
theorem e11_fades : ∀ q ∈ ([(0, .aload_n 0, 1), (1, .getfield 181, 3), (4, .iload_n 1, 1), (5, .iaload, 1), (6, .istore 4, 2), (8, .iload_n 2, 1), (9, .iload 4, 2), (11, .if_icmp .gt 9, 3), (14, .iload_n 3, 1), (15, .iload 4, 2), (17, .if_icmp .le 5, 3), (20, .iconst 0, 1), (21, .ireturn, 1), (22, .iconst 0, 1), (23, .istore 5, 2), (25, .iload 5, 2), (27, .iload_n 2, 1), (28, .if_icmp .ge 36, 3), (31, .aload_n 0, 1), (32, .getfield 178, 3), (35, .iload_n 1, 1), (36, .aaload, 1), (37, .iload 5, 2), (39, .aload_n 0, 1), (40, .getfield 178, 3), (43, .iload_n 1, 1), (44, .aaload, 1), (45, .iload 5, 2), (47, .iaload, 1), (48, .i2l, 1), (49, .iload 5, 2), (51, .i2l, 1), (52, .lmul, 1), (53, .iload_n 2, 1), (54, .i2l, 1), (55, .ldiv, 1), (56, .l2i, 1), (57, .iastore, 1), (58, .iinc 5 1, 3), (61, .goto (-36), 3), (64, .iload 4, 2), (66, .iload_n 3, 1), (67, .isub, 1), (68, .istore 5, 2), (70, .iload 5, 2), (72, .iload 4, 2), (74, .if_icmp .ge 41, 3), (77, .aload_n 0, 1), (78, .getfield 178, 3), (81, .iload_n 1, 1), (82, .aaload, 1), (83, .iload 5, 2), (85, .aload_n 0, 1), (86, .getfield 178, 3), (89, .iload_n 1, 1), (90, .aaload, 1), (91, .iload 5, 2), (93, .iaload, 1), (94, .i2l, 1), (95, .iload 4, 2), (97, .iconst 1, 1), (98, .isub, 1), (99, .iload 5, 2), (101, .isub, 1), (102, .i2l, 1), (103, .lmul, 1), (104, .iload_n 3, 1), (105, .i2l, 1), (106, .ldiv, 1), (107, .l2i, 1), (108, .iastore, 1), (109, .iinc 5 1, 3), (112, .goto (-42), 3), (115, .iconst 1, 1), (116, .ireturn, 1)] : List (Nat × Instr × Nat)), decode cX11_fades q.1 = .ok q.2 := by decide +kernel
set_option maxHeartbeats 4000000 in
set_option maxRecDepth 20000 in
theorem s11_fades_c70 {Y : m_Y Bool} (S : m_Std Y RX11 cX11_fades) (E : m_End Y cX11_fades .ireturn (fun r => [m_i (m_b2i r)])) {F : Nat} (hF : m_Rm Y F) (hFn : 0 ≤ F) (hN : Y.2.2.2.1 = 6) : ∀ (v0 v1 v3 v4 v5 : Int) (h : m_H), m_Sim Y 70 [(0, m_r v0), (1, m_i v1), (3, m_i v3), (4, m_i v4), (5, m_i v5)] [] h (t11_fades_c70 v0 v1 v3 v4 v5 h) := by
  intro v0 v1 v3 v4 v5 h
  refine ms_all fun r e => ?_
  refine t11_fades_c70.partial_correctness v0 v1 v3 v4 (motive := fun v5 h r => m_Sim Y 70 [(0, m_r v0), (1, m_i v1), (3, m_i v3), (4, m_i v4), (5, m_i v5)] [] h (some r)) ?_ v5 h r e
  intro f ih v5 h r e
  have ih : ∀ (v5 : Int) (h : m_H), m_Sim Y 70 [(0, m_r v0), (1, m_i v1), (3, m_i v3), (4, m_i v4), (5, m_i v5)] [] h (f v5 h ) := fun v5 h  => ms_all fun r e => ih v5 h r e
  refine ms_use ?_ e
  clear e r
  refine ms_iload (pc := 70) S 4 rfl (m_dec e11_fades 44 rfl) ?_
  refine ms_iload (pc := 72) S 3 rfl (m_dec e11_fades 45 rfl) ?_
  refine ms_icmp_ge (pc := 74) S (m_dec e11_fades 46 rfl) rfl (fun q1 => ?_) (fun q1 => ?_)
  · refine ms_aload_n (pc := 77) S 0 rfl rfl (m_dec e11_fades 47 rfl) ?_
    refine ms_grd fun g2 => ?_
    refine ms_getf (pc := 78) S lf_X11_178 rfl (m_dec e11_fades 48 rfl) g2 ?_
    refine ms_iload_n (pc := 81) S 1 rfl rfl (m_dec e11_fades 49 rfl) ?_
    refine ms_grd fun g3 => ?_
    refine ms_aald (pc := 82) S 29 (by decide) (fun _ => rfl) rfl g3 (m_dec e11_fades 50 rfl) ?_
    refine ms_iload (pc := 83) S 4 rfl (m_dec e11_fades 51 rfl) ?_
    refine ms_aload_n (pc := 85) S 0 rfl rfl (m_dec e11_fades 52 rfl) ?_
    refine ms_getf (pc := 86) S lf_X11_178 rfl (m_dec e11_fades 53 rfl) g2 ?_
    refine ms_iload_n (pc := 89) S 1 rfl rfl (m_dec e11_fades 54 rfl) ?_
    refine ms_aald (pc := 90) S 29 (by decide) (fun _ => rfl) rfl g3 (m_dec e11_fades 55 rfl) ?_
    refine ms_iload (pc := 91) S 4 rfl (m_dec e11_fades 56 rfl) ?_
    refine ms_grd fun g4 => ?_
    refine ms_iald (pc := 93) S g4 (m_dec e11_fades 57 rfl) ?_
    refine ms_i2l (pc := 94) S (m_dec e11_fades 58 rfl) ?_
    refine ms_iload (pc := 95) S 3 rfl (m_dec e11_fades 59 rfl) ?_
    refine ms_iconst (pc := 97) S (m_dec e11_fades 60 rfl) ?_
    refine ms_isub (pc := 98) S (m_dec e11_fades 61 rfl) ?_
    refine ms_iload (pc := 99) S 4 rfl (m_dec e11_fades 62 rfl) ?_
    refine ms_isub (pc := 101) S (m_dec e11_fades 63 rfl) ?_
    refine ms_i2l (pc := 102) S (m_dec e11_fades 64 rfl) ?_
    refine ms_lmul (pc := 103) S (m_dec e11_fades 65 rfl) ?_
    refine ms_iload_n (pc := 104) S 2 rfl rfl (m_dec e11_fades 66 rfl) ?_
    refine ms_i2l (pc := 105) S (m_dec e11_fades 67 rfl) ?_
    refine ms_ldiv (pc := 106) S (m_dec e11_fades 68 rfl) ?_
    refine ms_l2i (pc := 107) S (m_dec e11_fades 69 rfl) ?_
    refine ms_iast (pc := 108) S g4 (m_dec e11_fades 70 rfl) (fun h5 => ?_)
    refine ms_iinc (pc := 109) S (L' := [(0, m_r v0), (1, m_i v1), (3, m_i v3), (4, m_i v4), (5, m_i (v5 + 1))]) 4 rfl [1, 2, 3, 4, 0] rfl (m_lt hN rfl) (m_dec e11_fades 71 rfl) ?_
    refine ms_goto (pc := 112) S (m_dec e11_fades 72 rfl) rfl ?_
    exact ih (v5 + 1) h5
  · refine ms_iconst (pc := 115) S (m_dec e11_fades 73 rfl) ?_
    exact ms_ret (pc := 116) E (m_dec e11_fades 74 rfl) rfl
set_option maxHeartbeats 4000000 in
set_option maxRecDepth 20000 in
theorem s11_fades_c25 {Y : m_Y Bool} (S : m_Std Y RX11 cX11_fades) (E : m_End Y cX11_fades .ireturn (fun r => [m_i (m_b2i r)])) {F : Nat} (hF : m_Rm Y F) (hFn : 0 ≤ F) (hN : Y.2.2.2.1 = 6) : ∀ (v0 v1 v2 v3 v4 v5 : Int) (h : m_H), m_Sim Y 25 [(0, m_r v0), (1, m_i v1), (2, m_i v2), (3, m_i v3), (4, m_i v4), (5, m_i v5)] [] h (t11_fades_c25 v0 v1 v2 v3 v4 v5 h) := by
  intro v0 v1 v2 v3 v4 v5 h
  refine ms_all fun r e => ?_
  refine t11_fades_c25.partial_correctness v0 v1 v2 v3 v4 (motive := fun v5 h r => m_Sim Y 25 [(0, m_r v0), (1, m_i v1), (2, m_i v2), (3, m_i v3), (4, m_i v4), (5, m_i v5)] [] h (some r)) ?_ v5 h r e
  intro f ih v5 h r e
  have ih : ∀ (v5 : Int) (h : m_H), m_Sim Y 25 [(0, m_r v0), (1, m_i v1), (2, m_i v2), (3, m_i v3), (4, m_i v4), (5, m_i v5)] [] h (f v5 h ) := fun v5 h  => ms_all fun r e => ih v5 h r e
  refine ms_use ?_ e
  clear e r
  refine ms_iload (pc := 25) S 5 rfl (m_dec e11_fades 15 rfl) ?_
  refine ms_iload_n (pc := 27) S 2 rfl rfl (m_dec e11_fades 16 rfl) ?_
  refine ms_icmp_ge (pc := 28) S (m_dec e11_fades 17 rfl) rfl (fun q1 => ?_) (fun q1 => ?_)
  · refine ms_aload_n (pc := 31) S 0 rfl rfl (m_dec e11_fades 18 rfl) ?_
    refine ms_grd fun g2 => ?_
    refine ms_getf (pc := 32) S lf_X11_178 rfl (m_dec e11_fades 19 rfl) g2 ?_
    refine ms_iload_n (pc := 35) S 1 rfl rfl (m_dec e11_fades 20 rfl) ?_
    refine ms_grd fun g3 => ?_
    refine ms_aald (pc := 36) S 29 (by decide) (fun _ => rfl) rfl g3 (m_dec e11_fades 21 rfl) ?_
    refine ms_iload (pc := 37) S 5 rfl (m_dec e11_fades 22 rfl) ?_
    refine ms_aload_n (pc := 39) S 0 rfl rfl (m_dec e11_fades 23 rfl) ?_
    refine ms_getf (pc := 40) S lf_X11_178 rfl (m_dec e11_fades 24 rfl) g2 ?_
    refine ms_iload_n (pc := 43) S 1 rfl rfl (m_dec e11_fades 25 rfl) ?_
    refine ms_aald (pc := 44) S 29 (by decide) (fun _ => rfl) rfl g3 (m_dec e11_fades 26 rfl) ?_
    refine ms_iload (pc := 45) S 5 rfl (m_dec e11_fades 27 rfl) ?_
    refine ms_grd fun g4 => ?_
    refine ms_iald (pc := 47) S g4 (m_dec e11_fades 28 rfl) ?_
    refine ms_i2l (pc := 48) S (m_dec e11_fades 29 rfl) ?_
    refine ms_iload (pc := 49) S 5 rfl (m_dec e11_fades 30 rfl) ?_
    refine ms_i2l (pc := 51) S (m_dec e11_fades 31 rfl) ?_
    refine ms_lmul (pc := 52) S (m_dec e11_fades 32 rfl) ?_
    refine ms_iload_n (pc := 53) S 2 rfl rfl (m_dec e11_fades 33 rfl) ?_
    refine ms_i2l (pc := 54) S (m_dec e11_fades 34 rfl) ?_
    refine ms_ldiv (pc := 55) S (m_dec e11_fades 35 rfl) ?_
    refine ms_l2i (pc := 56) S (m_dec e11_fades 36 rfl) ?_
    refine ms_iast (pc := 57) S g4 (m_dec e11_fades 37 rfl) (fun h5 => ?_)
    refine ms_iinc (pc := 58) S (L' := [(0, m_r v0), (1, m_i v1), (2, m_i v2), (3, m_i v3), (4, m_i v4), (5, m_i (v5 + 1))]) 5 rfl [1, 2, 3, 4, 5, 0] rfl (m_lt hN rfl) (m_dec e11_fades 38 rfl) ?_
    refine ms_goto (pc := 61) S (m_dec e11_fades 39 rfl) rfl ?_
    exact ih (v5 + 1) h5
  · refine ms_iload (pc := 64) S 4 rfl (m_dec e11_fades 40 rfl) ?_
    refine ms_iload_n (pc := 66) S 3 rfl rfl (m_dec e11_fades 41 rfl) ?_
    refine ms_isub (pc := 67) S (m_dec e11_fades 42 rfl) ?_
    refine ms_nm (st := fun x6 => [m_i x6]) fun x6 => ?_
    refine ms_istore (pc := 68) S (L' := [(0, m_r v0), (1, m_i v1), (3, m_i v3), (4, m_i v4), (5, m_i x6)]) [1, 2, 4, 5, 0] rfl (m_lt hN rfl) (m_dec e11_fades 43 rfl) ?_
    exact s11_fades_c70 S E hF hFn hN v0 v1 v3 v4 x6 h
set_option maxHeartbeats 4000000 in
set_option maxRecDepth 20000 in
theorem s11_fades {Y : m_Y Bool} (S : m_Std Y RX11 cX11_fades) (E : m_End Y cX11_fades .ireturn (fun r => [m_i (m_b2i r)])) {F : Nat} (hF : m_Rm Y F) (hFn : 0 ≤ F) (hN : Y.2.2.2.1 = 6) (v0 v1 v2 v3 : Int) (h : m_H) : m_Sim Y 0 [(0, m_r v0), (1, m_i v1), (2, m_i v2), (3, m_i v3)] [] h (t11_fades v0 v1 v2 v3 h) := by
  unfold t11_fades
  refine ms_aload_n (pc := 0) S 0 rfl rfl (m_dec e11_fades 0 rfl) ?_
  refine ms_grd fun g1 => ?_
  refine ms_getf (pc := 1) S lf_X11_181 rfl (m_dec e11_fades 1 rfl) g1 ?_
  refine ms_iload_n (pc := 4) S 1 rfl rfl (m_dec e11_fades 2 rfl) ?_
  refine ms_grd fun g2 => ?_
  refine ms_iald (pc := 5) S g2 (m_dec e11_fades 3 rfl) ?_
  refine ms_nm (st := fun x3 => [m_i x3]) fun x3 => ?_
  refine ms_istore (pc := 6) S (L' := [(0, m_r v0), (1, m_i v1), (2, m_i v2), (3, m_i v3), (4, m_i x3)]) [1, 2, 3, 4, 0] rfl (m_lt hN rfl) (m_dec e11_fades 4 rfl) ?_
  refine ms_iload_n (pc := 8) S 2 rfl rfl (m_dec e11_fades 5 rfl) ?_
  refine ms_iload (pc := 9) S 4 rfl (m_dec e11_fades 6 rfl) ?_
  refine ms_icmp_gt (pc := 11) S (m_dec e11_fades 7 rfl) rfl (fun q4 => ?_) (fun q4 => ?_)
  · refine ms_iconst (pc := 20) S (m_dec e11_fades 11 rfl) ?_
    exact ms_ret (pc := 21) E (m_dec e11_fades 12 rfl) rfl
  · refine ms_iload_n (pc := 14) S 3 rfl rfl (m_dec e11_fades 8 rfl) ?_
    refine ms_iload (pc := 15) S 4 rfl (m_dec e11_fades 9 rfl) ?_
    refine ms_icmp_le (pc := 17) S (m_dec e11_fades 10 rfl) rfl (fun q5 => ?_) (fun q5 => ?_)
    · refine ms_iconst (pc := 20) S (m_dec e11_fades 11 rfl) ?_
      exact ms_ret (pc := 21) E (m_dec e11_fades 12 rfl) rfl
    · refine ms_iconst (pc := 22) S (m_dec e11_fades 13 rfl) ?_
      refine ms_istore (pc := 23) S (L' := [(0, m_r v0), (1, m_i v1), (2, m_i v2), (3, m_i v3), (4, m_i x3), (5, m_i 0)]) [1, 2, 3, 4, 5, 0] rfl (m_lt hN rfl) (m_dec e11_fades 14 rfl) ?_
      exact s11_fades_c25 S E hF hFn hN v0 v1 v2 v3 x3 0 h
theorem k11_fades (l : Launch) (d : m_D) (v0 v1 v2 v3 : Int) (h : m_H) : m_Con l d yX11_fades cX11_fades 6 (some .boolean) 0 (fun r => [m_i (m_b2i r)]) [m_r v0, m_i v1, m_i v2, m_i v3] h (t11_fades v0 v1 v2 v3 h) :=
  m_con2 (by decide +kernel) (Nat.le_of_ble_eq_true rfl) (fun Y hN hRm hr hI S hfin => s11_fades S (m_end_z S hr hfin) hRm (Nat.le_refl _) hN v0 v1 v2 v3 h)
set_option maxRecDepth 100000 in
theorem e11_lays : ∀ q ∈ ([(0, .aload_n 0, 1), (1, .getfield 181, 3), (4, .aload_n 0, 1), (5, .getfield 92, 3), (8, .iload_n 1, 1), (9, .aaload, 1), (10, .iload_n 2, 1), (11, .iaload, 1), (12, .iaload, 1), (13, .istore_n 3, 1), (14, .iconst 0, 1), (15, .istore 4, 2), (17, .iload 4, 2), (19, .aload_n 0, 1), (20, .getfield 107, 3), (23, .iload_n 1, 1), (24, .aaload, 1), (25, .iload_n 2, 1), (26, .iaload, 1), (27, .if_icmp .ge 165, 3), (30, .aload_n 0, 1), (31, .getfield 98, 3), (34, .iload_n 1, 1), (35, .aaload, 1), (36, .iload_n 2, 1), (37, .iaload, 1), (38, .iload 4, 2), (40, .aload_n 0, 1), (41, .getfield 110, 3), (44, .iload_n 1, 1), (45, .aaload, 1), (46, .iload_n 2, 1), (47, .iaload, 1), (48, .imul, 1), (49, .iadd, 1), (50, .istore 5, 2), (52, .iload 5, 2), (54, .iload_n 3, 1), (55, .iadd, 1), (56, .sipush 3000, 3), (59, .if_icmp .le 5, 3), (62, .iconst 0, 1), (63, .ireturn, 1), (64, .aload_n 0, 1), (65, .getfield 191, 3), (68, .aload_n 0, 1), (69, .getfield 467, 3), (72, .iload_n 2, 1), (73, .iastore, 1), (74, .aload_n 0, 1), (75, .getfield 194, 3), (78, .aload_n 0, 1), (79, .getfield 467, 3), (82, .aload_n 0, 1), (83, .getfield 101, 3), (86, .iload_n 1, 1), (87, .aaload, 1), (88, .iload_n 2, 1), (89, .iaload, 1), (90, .iastore, 1), (91, .aload_n 0, 1), (92, .getfield 197, 3), (95, .aload_n 0, 1), (96, .getfield 467, 3), (99, .iload 5, 2), (101, .iastore, 1), (102, .aload_n 0, 1), (103, .getfield 200, 3), (106, .aload_n 0, 1), (107, .getfield 467, 3), (110, .iload_n 3, 1), (111, .iastore, 1), (112, .aload_n 0, 1), (113, .dup, 1), (114, .getfield 467, 3), (117, .iconst 1, 1), (118, .iadd, 1), (119, .putfield 467, 3), (122, .iconst 0, 1), (123, .istore 6, 2), (125, .iload 6, 2), (127, .iload_n 3, 1), (128, .if_icmp .ge 39, 3), (131, .aload_n 0, 1), (132, .getfield 187, 3), (135, .iload 5, 2), (137, .iload 6, 2), (139, .iadd, 1), (140, .dup2, 1), (141, .laload, 1), (142, .aload_n 0, 1), (143, .getfield 178, 3), (146, .aload_n 0, 1), (147, .getfield 92, 3), (150, .iload_n 1, 1), (151, .aaload, 1), (152, .iload_n 2, 1), (153, .iaload, 1), (154, .aaload, 1), (155, .iload 6, 2), (157, .iaload, 1), (158, .i2l, 1), (159, .ladd, 1), (160, .lastore, 1), (161, .iinc 6 1, 3), (164, .goto (-39), 3), (167, .iload 5, 2), (169, .iload_n 3, 1), (170, .iadd, 1), (171, .aload_n 0, 1), (172, .getfield 470, 3), (175, .if_icmp .le 11, 3), (178, .aload_n 0, 1), (179, .iload 5, 2), (181, .iload_n 3, 1), (182, .iadd, 1), (183, .putfield 470, 3), (186, .iinc 4 1, 3), (189, .goto (-172), 3), (192, .iconst 1, 1), (193, .ireturn, 1)] : List (Nat × Instr × Nat)), decode cX11_lays q.1 = .ok q.2 := by decide +kernel
set_option maxHeartbeats 4000000 in
set_option maxRecDepth 20000 in
theorem s11_lays_x17 {Y : m_Y Bool} (S : m_Std Y RX11 cX11_lays) (E : m_End Y cX11_lays .ireturn (fun r => [m_i (m_b2i r)])) {F : Nat} (hF : m_Rm Y F) (hFn : 0 ≤ F) (hN : Y.2.2.2.1 = 7) : ∀ (cc : Int) (v0 v1 v2 v3 v4 v5 v6 : Int) (h : m_H) (r : Bool × m_H), t11_lays_x17 cc v0 v1 v2 v3 v4 v5 v6 h = some r → (cc = 17 → m_Sim Y 17 [(0, m_r v0), (1, m_i v1), (2, m_i v2), (3, m_i v3), (4, m_i v4)] [] h (some r)) ∧ (cc = 125 → m_Sim Y 125 [(0, m_r v0), (1, m_i v1), (2, m_i v2), (3, m_i v3), (4, m_i v4), (5, m_i v5), (6, m_i v6)] [] h (some r)) := by
  intro cc v0 v1 v2 v3 v4 v5 v6 h r e
  refine t11_lays_x17.partial_correctness v0 v1 v2 v3 (motive := fun cc v4 v5 v6 h r => (cc = 17 → m_Sim Y 17 [(0, m_r v0), (1, m_i v1), (2, m_i v2), (3, m_i v3), (4, m_i v4)] [] h (some r)) ∧ (cc = 125 → m_Sim Y 125 [(0, m_r v0), (1, m_i v1), (2, m_i v2), (3, m_i v3), (4, m_i v4), (5, m_i v5), (6, m_i v6)] [] h (some r))) ?_ cc v4 v5 v6 h r e
  intro f ih cc v4 v5 v6 h r e
  have ih17 : ∀ (v4 v5 v6 : Int) (h : m_H), m_Sim Y 17 [(0, m_r v0), (1, m_i v1), (2, m_i v2), (3, m_i v3), (4, m_i v4)] [] h (f 17 v4 v5 v6 h ) := fun v4 v5 v6 h  => ms_all fun r e => (ih 17 v4 v5 v6 h r e).1 rfl
  have ih125 : ∀ (v4 v5 v6 : Int) (h : m_H), m_Sim Y 125 [(0, m_r v0), (1, m_i v1), (2, m_i v2), (3, m_i v3), (4, m_i v4), (5, m_i v5), (6, m_i v6)] [] h (f 125 v4 v5 v6 h ) := fun v4 v5 v6 h  => ms_all fun r e => (ih 125 v4 v5 v6 h r e).2 rfl
  refine ⟨?_, ?_⟩
  · intro q0
    subst q0
    rw [if_pos rfl] at e
    refine ms_use ?_ e
    clear e r
    refine ms_iload (pc := 17) S 4 rfl (m_dec e11_lays 12 rfl) ?_
    refine ms_aload_n (pc := 19) S 0 rfl rfl (m_dec e11_lays 13 rfl) ?_
    refine ms_grd fun g1 => ?_
    refine ms_getf (pc := 20) S lf_X11_107 rfl (m_dec e11_lays 14 rfl) g1 ?_
    refine ms_iload_n (pc := 23) S 1 rfl rfl (m_dec e11_lays 15 rfl) ?_
    refine ms_grd fun g2 => ?_
    refine ms_aald (pc := 24) S 29 (by decide) (fun _ => rfl) rfl g2 (m_dec e11_lays 16 rfl) ?_
    refine ms_iload_n (pc := 25) S 2 rfl rfl (m_dec e11_lays 17 rfl) ?_
    refine ms_grd fun g3 => ?_
    refine ms_iald (pc := 26) S g3 (m_dec e11_lays 18 rfl) ?_
    refine ms_icmp_ge (pc := 27) S (m_dec e11_lays 19 rfl) rfl (fun q4 => ?_) (fun q4 => ?_)
    · refine ms_aload_n (pc := 30) S 0 rfl rfl (m_dec e11_lays 20 rfl) ?_
      refine ms_getf (pc := 31) S lf_X11_98 rfl (m_dec e11_lays 21 rfl) g1 ?_
      refine ms_iload_n (pc := 34) S 1 rfl rfl (m_dec e11_lays 22 rfl) ?_
      refine ms_grd fun g5 => ?_
      refine ms_aald (pc := 35) S 29 (by decide) (fun _ => rfl) rfl g5 (m_dec e11_lays 23 rfl) ?_
      refine ms_iload_n (pc := 36) S 2 rfl rfl (m_dec e11_lays 24 rfl) ?_
      refine ms_grd fun g6 => ?_
      refine ms_iald (pc := 37) S g6 (m_dec e11_lays 25 rfl) ?_
      refine ms_iload (pc := 38) S 4 rfl (m_dec e11_lays 26 rfl) ?_
      refine ms_aload_n (pc := 40) S 0 rfl rfl (m_dec e11_lays 27 rfl) ?_
      refine ms_getf (pc := 41) S lf_X11_110 rfl (m_dec e11_lays 28 rfl) g1 ?_
      refine ms_iload_n (pc := 44) S 1 rfl rfl (m_dec e11_lays 29 rfl) ?_
      refine ms_grd fun g7 => ?_
      refine ms_aald (pc := 45) S 29 (by decide) (fun _ => rfl) rfl g7 (m_dec e11_lays 30 rfl) ?_
      refine ms_iload_n (pc := 46) S 2 rfl rfl (m_dec e11_lays 31 rfl) ?_
      refine ms_grd fun g8 => ?_
      refine ms_iald (pc := 47) S g8 (m_dec e11_lays 32 rfl) ?_
      refine ms_imul (pc := 48) S (m_dec e11_lays 33 rfl) ?_
      refine ms_iadd (pc := 49) S (m_dec e11_lays 34 rfl) ?_
      refine ms_nm (st := fun x9 => [m_i x9]) fun x9 => ?_
      refine ms_istore (pc := 50) S (L' := [(0, m_r v0), (1, m_i v1), (2, m_i v2), (3, m_i v3), (4, m_i v4), (5, m_i x9)]) [1, 2, 3, 4, 5, 0] rfl (m_lt hN rfl) (m_dec e11_lays 35 rfl) ?_
      refine ms_iload (pc := 52) S 5 rfl (m_dec e11_lays 36 rfl) ?_
      refine ms_iload_n (pc := 54) S 3 rfl rfl (m_dec e11_lays 37 rfl) ?_
      refine ms_iadd (pc := 55) S (m_dec e11_lays 38 rfl) ?_
      refine ms_sipush (pc := 56) S (m_dec e11_lays 39 rfl) rfl ?_
      refine ms_icmp_le (pc := 59) S (m_dec e11_lays 40 rfl) rfl (fun q10 => ?_) (fun q10 => ?_)
      · refine ms_iconst (pc := 62) S (m_dec e11_lays 41 rfl) ?_
        exact ms_ret (pc := 63) E (m_dec e11_lays 42 rfl) rfl
      · refine ms_aload_n (pc := 64) S 0 rfl rfl (m_dec e11_lays 43 rfl) ?_
        refine ms_getf (pc := 65) S lf_X11_191 rfl (m_dec e11_lays 44 rfl) g1 ?_
        refine ms_aload_n (pc := 68) S 0 rfl rfl (m_dec e11_lays 45 rfl) ?_
        refine ms_getf (pc := 69) S lf_X11_467 rfl (m_dec e11_lays 46 rfl) g1 ?_
        refine ms_iload_n (pc := 72) S 2 rfl rfl (m_dec e11_lays 47 rfl) ?_
        refine ms_grd fun g11 => ?_
        refine ms_iast (pc := 73) S g11 (m_dec e11_lays 48 rfl) (fun h12 => ?_)
        refine ms_aload_n (pc := 74) S 0 rfl rfl (m_dec e11_lays 49 rfl) ?_
        refine ms_grd fun g13 => ?_
        refine ms_getf (pc := 75) S lf_X11_194 rfl (m_dec e11_lays 50 rfl) g13 ?_
        refine ms_aload_n (pc := 78) S 0 rfl rfl (m_dec e11_lays 51 rfl) ?_
        refine ms_getf (pc := 79) S lf_X11_467 rfl (m_dec e11_lays 52 rfl) g13 ?_
        refine ms_aload_n (pc := 82) S 0 rfl rfl (m_dec e11_lays 53 rfl) ?_
        refine ms_getf (pc := 83) S lf_X11_101 rfl (m_dec e11_lays 54 rfl) g13 ?_
        refine ms_iload_n (pc := 86) S 1 rfl rfl (m_dec e11_lays 55 rfl) ?_
        refine ms_grd fun g14 => ?_
        refine ms_aald (pc := 87) S 29 (by decide) (fun _ => rfl) rfl g14 (m_dec e11_lays 56 rfl) ?_
        refine ms_iload_n (pc := 88) S 2 rfl rfl (m_dec e11_lays 57 rfl) ?_
        refine ms_grd fun g15 => ?_
        refine ms_iald (pc := 89) S g15 (m_dec e11_lays 58 rfl) ?_
        refine ms_grd fun g16 => ?_
        refine ms_iast (pc := 90) S g16 (m_dec e11_lays 59 rfl) (fun h17 => ?_)
        refine ms_aload_n (pc := 91) S 0 rfl rfl (m_dec e11_lays 60 rfl) ?_
        refine ms_grd fun g18 => ?_
        refine ms_getf (pc := 92) S lf_X11_197 rfl (m_dec e11_lays 61 rfl) g18 ?_
        refine ms_aload_n (pc := 95) S 0 rfl rfl (m_dec e11_lays 62 rfl) ?_
        refine ms_getf (pc := 96) S lf_X11_467 rfl (m_dec e11_lays 63 rfl) g18 ?_
        refine ms_iload (pc := 99) S 5 rfl (m_dec e11_lays 64 rfl) ?_
        refine ms_grd fun g19 => ?_
        refine ms_iast (pc := 101) S g19 (m_dec e11_lays 65 rfl) (fun h20 => ?_)
        refine ms_aload_n (pc := 102) S 0 rfl rfl (m_dec e11_lays 66 rfl) ?_
        refine ms_grd fun g21 => ?_
        refine ms_getf (pc := 103) S lf_X11_200 rfl (m_dec e11_lays 67 rfl) g21 ?_
        refine ms_aload_n (pc := 106) S 0 rfl rfl (m_dec e11_lays 68 rfl) ?_
        refine ms_getf (pc := 107) S lf_X11_467 rfl (m_dec e11_lays 69 rfl) g21 ?_
        refine ms_iload_n (pc := 110) S 3 rfl rfl (m_dec e11_lays 70 rfl) ?_
        refine ms_grd fun g22 => ?_
        refine ms_iast (pc := 111) S g22 (m_dec e11_lays 71 rfl) (fun h23 => ?_)
        refine ms_aload_n (pc := 112) S 0 rfl rfl (m_dec e11_lays 72 rfl) ?_
        refine ms_dup (pc := 113) S rfl (m_dec e11_lays 73 rfl) ?_
        refine ms_grd fun g24 => ?_
        refine ms_getf (pc := 114) S lf_X11_467 rfl (m_dec e11_lays 74 rfl) g24 ?_
        refine ms_iconst (pc := 117) S (m_dec e11_lays 75 rfl) ?_
        refine ms_iadd (pc := 118) S (m_dec e11_lays 76 rfl) ?_
        refine ms_putf (pc := 119) S lp_X11_467 (fun z => by cases z) rfl (fun d => m_fitI d _) (m_dec e11_lays 77 rfl) g24 (fun h25 => ?_)
        refine ms_iconst (pc := 122) S (m_dec e11_lays 78 rfl) ?_
        refine ms_istore (pc := 123) S (L' := [(0, m_r v0), (1, m_i v1), (2, m_i v2), (3, m_i v3), (4, m_i v4), (5, m_i x9), (6, m_i 0)]) [1, 2, 3, 4, 5, 6, 0] rfl (m_lt hN rfl) (m_dec e11_lays 79 rfl) ?_
        exact ih125 v4 x9 0 h25
    · refine ms_iconst (pc := 192) S (m_dec e11_lays 119 rfl) ?_
      exact ms_ret (pc := 193) E (m_dec e11_lays 120 rfl) rfl
  · intro q0
    subst q0
    rw [if_neg (by decide), if_pos rfl] at e
    refine ms_use ?_ e
    clear e r
    refine ms_iload (pc := 125) S 6 rfl (m_dec e11_lays 80 rfl) ?_
    refine ms_iload_n (pc := 127) S 3 rfl rfl (m_dec e11_lays 81 rfl) ?_
    refine ms_icmp_ge (pc := 128) S (m_dec e11_lays 82 rfl) rfl (fun q1 => ?_) (fun q1 => ?_)
    · refine ms_aload_n (pc := 131) S 0 rfl rfl (m_dec e11_lays 83 rfl) ?_
      refine ms_grd fun g2 => ?_
      refine ms_getf (pc := 132) S lf_X11_187 rfl (m_dec e11_lays 84 rfl) g2 ?_
      refine ms_iload (pc := 135) S 5 rfl (m_dec e11_lays 85 rfl) ?_
      refine ms_iload (pc := 137) S 6 rfl (m_dec e11_lays 86 rfl) ?_
      refine ms_iadd (pc := 139) S (m_dec e11_lays 87 rfl) ?_
      refine ms_dup2 (pc := 140) S rfl rfl (m_dec e11_lays 88 rfl) ?_
      refine ms_grd fun g3 => ?_
      refine ms_lald (pc := 141) S g3 (m_dec e11_lays 89 rfl) ?_
      refine ms_aload_n (pc := 142) S 0 rfl rfl (m_dec e11_lays 90 rfl) ?_
      refine ms_getf (pc := 143) S lf_X11_178 rfl (m_dec e11_lays 91 rfl) g2 ?_
      refine ms_aload_n (pc := 146) S 0 rfl rfl (m_dec e11_lays 92 rfl) ?_
      refine ms_getf (pc := 147) S lf_X11_92 rfl (m_dec e11_lays 93 rfl) g2 ?_
      refine ms_iload_n (pc := 150) S 1 rfl rfl (m_dec e11_lays 94 rfl) ?_
      refine ms_grd fun g4 => ?_
      refine ms_aald (pc := 151) S 29 (by decide) (fun _ => rfl) rfl g4 (m_dec e11_lays 95 rfl) ?_
      refine ms_iload_n (pc := 152) S 2 rfl rfl (m_dec e11_lays 96 rfl) ?_
      refine ms_grd fun g5 => ?_
      refine ms_iald (pc := 153) S g5 (m_dec e11_lays 97 rfl) ?_
      refine ms_grd fun g6 => ?_
      refine ms_aald (pc := 154) S 29 (by decide) (fun _ => rfl) rfl g6 (m_dec e11_lays 98 rfl) ?_
      refine ms_iload (pc := 155) S 6 rfl (m_dec e11_lays 99 rfl) ?_
      refine ms_grd fun g7 => ?_
      refine ms_iald (pc := 157) S g7 (m_dec e11_lays 100 rfl) ?_
      refine ms_i2l (pc := 158) S (m_dec e11_lays 101 rfl) ?_
      refine ms_ladd (pc := 159) S (m_dec e11_lays 102 rfl) ?_
      refine ms_last (pc := 160) S g3 (m_dec e11_lays 103 rfl) (fun h8 => ?_)
      refine ms_iinc (pc := 161) S (L' := [(0, m_r v0), (1, m_i v1), (2, m_i v2), (3, m_i v3), (4, m_i v4), (5, m_i v5), (6, m_i (v6 + 1))]) 6 rfl [1, 2, 3, 4, 5, 6, 0] rfl (m_lt hN rfl) (m_dec e11_lays 104 rfl) ?_
      refine ms_goto (pc := 164) S (m_dec e11_lays 105 rfl) rfl ?_
      exact ih125 v4 v5 (v6 + 1) h8
    · refine ms_iload (pc := 167) S 5 rfl (m_dec e11_lays 106 rfl) ?_
      refine ms_iload_n (pc := 169) S 3 rfl rfl (m_dec e11_lays 107 rfl) ?_
      refine ms_iadd (pc := 170) S (m_dec e11_lays 108 rfl) ?_
      refine ms_aload_n (pc := 171) S 0 rfl rfl (m_dec e11_lays 109 rfl) ?_
      refine ms_grd fun g9 => ?_
      refine ms_getf (pc := 172) S lf_X11_470 rfl (m_dec e11_lays 110 rfl) g9 ?_
      refine ms_icmp_le (pc := 175) S (m_dec e11_lays 111 rfl) rfl (fun q10 => ?_) (fun q10 => ?_)
      · refine ms_aload_n (pc := 178) S 0 rfl rfl (m_dec e11_lays 112 rfl) ?_
        refine ms_iload (pc := 179) S 5 rfl (m_dec e11_lays 113 rfl) ?_
        refine ms_iload_n (pc := 181) S 3 rfl rfl (m_dec e11_lays 114 rfl) ?_
        refine ms_iadd (pc := 182) S (m_dec e11_lays 115 rfl) ?_
        refine ms_putf (pc := 183) S lp_X11_470 (fun z => by cases z) rfl (fun d => m_fitI d _) (m_dec e11_lays 116 rfl) g9 (fun h11 => ?_)
        refine ms_iinc (pc := 186) S (L' := [(0, m_r v0), (1, m_i v1), (2, m_i v2), (3, m_i v3), (4, m_i (v4 + 1))]) 4 rfl [1, 2, 3, 4, 0] rfl (m_lt hN rfl) (m_dec e11_lays 117 rfl) ?_
        refine ms_goto (pc := 189) S (m_dec e11_lays 118 rfl) rfl ?_
        exact ih17 (v4 + 1) 0 0 h11
      · refine ms_iinc (pc := 186) S (L' := [(0, m_r v0), (1, m_i v1), (2, m_i v2), (3, m_i v3), (4, m_i (v4 + 1))]) 4 rfl [1, 2, 3, 4, 0] rfl (m_lt hN rfl) (m_dec e11_lays 117 rfl) ?_
        refine ms_goto (pc := 189) S (m_dec e11_lays 118 rfl) rfl ?_
        exact ih17 (v4 + 1) 0 0 h
set_option maxHeartbeats 4000000 in
set_option maxRecDepth 20000 in
theorem s11_lays_c17 {Y : m_Y Bool} (S : m_Std Y RX11 cX11_lays) (E : m_End Y cX11_lays .ireturn (fun r => [m_i (m_b2i r)])) {F : Nat} (hF : m_Rm Y F) (hFn : 0 ≤ F) (hN : Y.2.2.2.1 = 7) (v0 v1 v2 v3 v4 v5 v6 : Int) (h : m_H) : m_Sim Y 17 [(0, m_r v0), (1, m_i v1), (2, m_i v2), (3, m_i v3), (4, m_i v4)] [] h (t11_lays_x17 17 v0 v1 v2 v3 v4 v5 v6 h) := ms_all fun r e => (s11_lays_x17 S E hF hFn hN 17 v0 v1 v2 v3 v4 v5 v6 h r e).1 rfl
set_option maxHeartbeats 4000000 in
set_option maxRecDepth 20000 in
theorem s11_lays_c125 {Y : m_Y Bool} (S : m_Std Y RX11 cX11_lays) (E : m_End Y cX11_lays .ireturn (fun r => [m_i (m_b2i r)])) {F : Nat} (hF : m_Rm Y F) (hFn : 0 ≤ F) (hN : Y.2.2.2.1 = 7) (v0 v1 v2 v3 v4 v5 v6 : Int) (h : m_H) : m_Sim Y 125 [(0, m_r v0), (1, m_i v1), (2, m_i v2), (3, m_i v3), (4, m_i v4), (5, m_i v5), (6, m_i v6)] [] h (t11_lays_x17 125 v0 v1 v2 v3 v4 v5 v6 h) := ms_all fun r e => (s11_lays_x17 S E hF hFn hN 125 v0 v1 v2 v3 v4 v5 v6 h r e).2 rfl
set_option maxHeartbeats 4000000 in
set_option maxRecDepth 20000 in
theorem s11_lays {Y : m_Y Bool} (S : m_Std Y RX11 cX11_lays) (E : m_End Y cX11_lays .ireturn (fun r => [m_i (m_b2i r)])) {F : Nat} (hF : m_Rm Y F) (hFn : 0 ≤ F) (hN : Y.2.2.2.1 = 7) (v0 v1 v2 : Int) (h : m_H) : m_Sim Y 0 [(0, m_r v0), (1, m_i v1), (2, m_i v2)] [] h (t11_lays v0 v1 v2 h) := by
  unfold t11_lays
  refine ms_aload_n (pc := 0) S 0 rfl rfl (m_dec e11_lays 0 rfl) ?_
  refine ms_grd fun g1 => ?_
  refine ms_getf (pc := 1) S lf_X11_181 rfl (m_dec e11_lays 1 rfl) g1 ?_
  refine ms_aload_n (pc := 4) S 0 rfl rfl (m_dec e11_lays 2 rfl) ?_
  refine ms_getf (pc := 5) S lf_X11_92 rfl (m_dec e11_lays 3 rfl) g1 ?_
  refine ms_iload_n (pc := 8) S 1 rfl rfl (m_dec e11_lays 4 rfl) ?_
  refine ms_grd fun g2 => ?_
  refine ms_aald (pc := 9) S 29 (by decide) (fun _ => rfl) rfl g2 (m_dec e11_lays 5 rfl) ?_
  refine ms_iload_n (pc := 10) S 2 rfl rfl (m_dec e11_lays 6 rfl) ?_
  refine ms_grd fun g3 => ?_
  refine ms_iald (pc := 11) S g3 (m_dec e11_lays 7 rfl) ?_
  refine ms_grd fun g4 => ?_
  refine ms_iald (pc := 12) S g4 (m_dec e11_lays 8 rfl) ?_
  refine ms_nm (st := fun x5 => [m_i x5]) fun x5 => ?_
  refine ms_istore_n (pc := 13) S (L' := [(0, m_r v0), (1, m_i v1), (2, m_i v2), (3, m_i x5)]) [1, 2, 3, 0] rfl rfl (m_lt hN rfl) (m_dec e11_lays 9 rfl) ?_
  refine ms_iconst (pc := 14) S (m_dec e11_lays 10 rfl) ?_
  refine ms_istore (pc := 15) S (L' := [(0, m_r v0), (1, m_i v1), (2, m_i v2), (3, m_i x5), (4, m_i 0)]) [1, 2, 3, 4, 0] rfl (m_lt hN rfl) (m_dec e11_lays 11 rfl) ?_
  exact s11_lays_c17 S E hF hFn hN v0 v1 v2 x5 0 0 0 h
theorem k11_lays (l : Launch) (d : m_D) (v0 v1 v2 : Int) (h : m_H) : m_Con l d yX11_lays cX11_lays 7 (some .boolean) 0 (fun r => [m_i (m_b2i r)]) [m_r v0, m_i v1, m_i v2] h (t11_lays v0 v1 v2 h) :=
  m_con2 (by decide +kernel) (Nat.le_of_ble_eq_true rfl) (fun Y hN hRm hr hI S hfin => s11_lays S (m_end_z S hr hfin) hRm (Nat.le_refl _) hN v0 v1 v2 h)
