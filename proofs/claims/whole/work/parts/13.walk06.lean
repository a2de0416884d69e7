/-! the walks of the methods, 6 -/
set_option maxRecDepth 100000 in
theorem e10_count : ∀ q ∈ ([(0, .iload_n 1, 1), (1, .tableswitch 162 0 10 #[59, 67, 75, 83, 91, 99, 107, 112, 120, 128, 136], 59), (60, .aload_n 0, 1), (61, .getfield 10, 3), (64, .getfield 165, 3), (67, .ireturn, 1), (68, .aload_n 0, 1), (69, .getfield 10, 3), (72, .getfield 272, 3), (75, .ireturn, 1), (76, .aload_n 0, 1), (77, .getfield 10, 3), (80, .invokevirtual 275, 3), (83, .ireturn, 1), (84, .aload_n 0, 1), (85, .getfield 10, 3), (88, .getfield 278, 3), (91, .ireturn, 1), (92, .aload_n 0, 1), (93, .getfield 19, 3), (96, .invokevirtual 71, 3), (99, .ireturn, 1), (100, .aload_n 0, 1), (101, .getfield 10, 3), (104, .getfield 233, 3), (107, .ireturn, 1), (108, .aload_n 0, 1), (109, .getfield 186, 3), (112, .ireturn, 1), (113, .aload_n 0, 1), (114, .getfield 26, 3), (117, .getfield 178, 3), (120, .ireturn, 1), (121, .aload_n 0, 1), (122, .getfield 59, 3), (125, .invokevirtual 71, 3), (128, .ireturn, 1), (129, .aload_n 0, 1), (130, .getfield 48, 3), (133, .getfield 281, 3), (136, .ireturn, 1), (137, .aload_n 0, 1), (138, .getfield 48, 3), (141, .getfield 281, 3), (144, .iconst (-1), 1), (145, .if_icmp .ne 7, 3), (148, .iconst (-1), 1), (149, .goto 13, 3), (152, .aload_n 0, 1), (153, .getfield 48, 3), (156, .getfield 213, 3), (159, .invokevirtual 71, 3), (162, .ireturn, 1), (163, .iload_n 1, 1), (164, .bipush 20, 2), (166, .if_icmp .ge 5, 3), (169, .iconst (-1), 1), (170, .ireturn, 1), (171, .aload_n 0, 1), (172, .iload_n 1, 1), (173, .bipush 20, 2), (175, .isub, 1), (176, .invokevirtual 193, 3), (179, .astore_n 2, 1), (180, .aload_n 2, 1), (181, .ifnonnull 7, 3), (184, .iconst (-1), 1), (185, .goto 7, 3), (188, .aload_n 2, 1), (189, .getfield 284, 3), (192, .ireturn, 1)] : List (Nat × Instr × Nat)), decode cX10_count q.1 = .ok q.2 := by decide +kernel
set_option maxHeartbeats 4000000 in
set_option maxRecDepth 20000 in
theorem s10_count {Y : m_Y Int} (S : m_Std Y RX10 cX10_count) (E : m_End Y cX10_count .ireturn (fun r => [m_i r])) {F : Nat} (hF : m_Rm Y F) (hFn : 3 ≤ F) (hN : Y.2.2.2.1 = 3) (v0 v1 : Int) (h : m_H) : m_Sim Y 0 [(0, m_r v0), (1, m_i v1)] [] h (t10_count v0 v1 h) := by
  unfold t10_count
  refine ms_iload_n (pc := 0) S 1 rfl rfl (m_dec e10_count 0 rfl) ?_
  refine ms_ite (fun q1 => ?_) (fun q1 => ?_)
  · refine ms_swIn (pc := 1) S (m_dec e10_count 1 rfl) 0 q1 (by decide) (by decide) rfl rfl ?_
    refine ms_aload_n (pc := 60) S 0 rfl rfl (m_dec e10_count 2 rfl) ?_
    refine ms_grd fun g2 => ?_
    refine ms_getf (pc := 61) S lf_X10_10 rfl (m_dec e10_count 3 rfl) g2 ?_
    refine ms_grd fun g3 => ?_
    refine ms_getf (pc := 64) S lf_X10_165 rfl (m_dec e10_count 4 rfl) g3 ?_
    exact ms_ret (pc := 67) E (m_dec e10_count 5 rfl) rfl
  · refine ms_ite (fun q4 => ?_) (fun q4 => ?_)
    · refine ms_swIn (pc := 1) S (m_dec e10_count 1 rfl) 1 q4 (by decide) (by decide) rfl rfl ?_
      refine ms_aload_n (pc := 68) S 0 rfl rfl (m_dec e10_count 6 rfl) ?_
      refine ms_grd fun g5 => ?_
      refine ms_getf (pc := 69) S lf_X10_10 rfl (m_dec e10_count 7 rfl) g5 ?_
      refine ms_grd fun g6 => ?_
      refine ms_getf (pc := 72) S lf_X10_272 rfl (m_dec e10_count 8 rfl) g6 ?_
      exact ms_ret (pc := 75) E (m_dec e10_count 9 rfl) rfl
    · refine ms_ite (fun q7 => ?_) (fun q7 => ?_)
      · refine ms_swIn (pc := 1) S (m_dec e10_count 1 rfl) 2 q7 (by decide) (by decide) rfl rfl ?_
        refine ms_aload_n (pc := 76) S 0 rfl rfl (m_dec e10_count 10 rfl) ?_
        refine ms_grd fun g8 => ?_
        refine ms_getf (pc := 77) S lf_X10_10 rfl (m_dec e10_count 11 rfl) g8 ?_
        refine ms_grd fun g9 => ?_
        refine ms_callVi (pc := 80) S hF (vals := []) (st := []) (hc := vw_7) (hci := by decide) (hcy := rfl) (ht := g9) (hC := (k7_countThere _ _ (m_g h v0 0) h)) (hM := lm_X10_275) (hfr := (Nat.le_trans (by decide) hFn)) (hstk := rfl) (hcat := Nat.le_of_ble_eq_true rfl) (hd := (m_dec e10_count 12 rfl)) (k1 := fun r11 h10 => ?_)
        exact ms_ret (pc := 83) E (m_dec e10_count 13 rfl) rfl
      · refine ms_ite (fun q12 => ?_) (fun q12 => ?_)
        · refine ms_swIn (pc := 1) S (m_dec e10_count 1 rfl) 3 q12 (by decide) (by decide) rfl rfl ?_
          refine ms_aload_n (pc := 84) S 0 rfl rfl (m_dec e10_count 14 rfl) ?_
          refine ms_grd fun g13 => ?_
          refine ms_getf (pc := 85) S lf_X10_10 rfl (m_dec e10_count 15 rfl) g13 ?_
          refine ms_grd fun g14 => ?_
          refine ms_getf (pc := 88) S lf_X10_278 rfl (m_dec e10_count 16 rfl) g14 ?_
          exact ms_ret (pc := 91) E (m_dec e10_count 17 rfl) rfl
        · refine ms_ite (fun q15 => ?_) (fun q15 => ?_)
          · refine ms_swIn (pc := 1) S (m_dec e10_count 1 rfl) 4 q15 (by decide) (by decide) rfl rfl ?_
            refine ms_aload_n (pc := 92) S 0 rfl rfl (m_dec e10_count 18 rfl) ?_
            refine ms_grd fun g16 => ?_
            refine ms_getf (pc := 93) S lf_X10_19 rfl (m_dec e10_count 19 rfl) g16 ?_
            refine ms_grd fun g17 => ?_
            refine ms_callVi (pc := 96) S hF (vals := []) (st := []) (hc := vw_5) (hci := by decide) (hcy := rfl) (ht := g17) (hC := (k5_size _ _ (m_g h v0 1) h)) (hM := lm_X10_71) (hfr := (Nat.le_trans (by decide) hFn)) (hstk := rfl) (hcat := Nat.le_of_ble_eq_true rfl) (hd := (m_dec e10_count 20 rfl)) (k1 := fun r19 h18 => ?_)
            exact ms_ret (pc := 99) E (m_dec e10_count 21 rfl) rfl
          · refine ms_ite (fun q20 => ?_) (fun q20 => ?_)
            · refine ms_swIn (pc := 1) S (m_dec e10_count 1 rfl) 5 q20 (by decide) (by decide) rfl rfl ?_
              refine ms_aload_n (pc := 100) S 0 rfl rfl (m_dec e10_count 22 rfl) ?_
              refine ms_grd fun g21 => ?_
              refine ms_getf (pc := 101) S lf_X10_10 rfl (m_dec e10_count 23 rfl) g21 ?_
              refine ms_grd fun g22 => ?_
              refine ms_getf (pc := 104) S lf_X10_233 rfl (m_dec e10_count 24 rfl) g22 ?_
              exact ms_ret (pc := 107) E (m_dec e10_count 25 rfl) rfl
            · refine ms_ite (fun q23 => ?_) (fun q23 => ?_)
              · refine ms_swIn (pc := 1) S (m_dec e10_count 1 rfl) 6 q23 (by decide) (by decide) rfl rfl ?_
                refine ms_aload_n (pc := 108) S 0 rfl rfl (m_dec e10_count 26 rfl) ?_
                refine ms_grd fun g24 => ?_
                refine ms_getf (pc := 109) S lf_X10_186 rfl (m_dec e10_count 27 rfl) g24 ?_
                exact ms_ret (pc := 112) E (m_dec e10_count 28 rfl) rfl
              · refine ms_ite (fun q25 => ?_) (fun q25 => ?_)
                · refine ms_swIn (pc := 1) S (m_dec e10_count 1 rfl) 7 q25 (by decide) (by decide) rfl rfl ?_
                  refine ms_aload_n (pc := 113) S 0 rfl rfl (m_dec e10_count 29 rfl) ?_
                  refine ms_grd fun g26 => ?_
                  refine ms_getf (pc := 114) S lf_X10_26 rfl (m_dec e10_count 30 rfl) g26 ?_
                  refine ms_grd fun g27 => ?_
                  refine ms_getf (pc := 117) S lf_X10_178 rfl (m_dec e10_count 31 rfl) g27 ?_
                  exact ms_ret (pc := 120) E (m_dec e10_count 32 rfl) rfl
                · refine ms_ite (fun q28 => ?_) (fun q28 => ?_)
                  · refine ms_swIn (pc := 1) S (m_dec e10_count 1 rfl) 8 q28 (by decide) (by decide) rfl rfl ?_
                    refine ms_aload_n (pc := 121) S 0 rfl rfl (m_dec e10_count 33 rfl) ?_
                    refine ms_grd fun g29 => ?_
                    refine ms_getf (pc := 122) S lf_X10_59 rfl (m_dec e10_count 34 rfl) g29 ?_
                    refine ms_grd fun g30 => ?_
                    refine ms_callVi (pc := 125) S hF (vals := []) (st := []) (hc := vw_5) (hci := by decide) (hcy := rfl) (ht := g30) (hC := (k5_size _ _ (m_g h v0 8) h)) (hM := lm_X10_71) (hfr := (Nat.le_trans (by decide) hFn)) (hstk := rfl) (hcat := Nat.le_of_ble_eq_true rfl) (hd := (m_dec e10_count 35 rfl)) (k1 := fun r32 h31 => ?_)
                    exact ms_ret (pc := 128) E (m_dec e10_count 36 rfl) rfl
                  · refine ms_ite (fun q33 => ?_) (fun q33 => ?_)
                    · refine ms_swIn (pc := 1) S (m_dec e10_count 1 rfl) 9 q33 (by decide) (by decide) rfl rfl ?_
                      refine ms_aload_n (pc := 129) S 0 rfl rfl (m_dec e10_count 37 rfl) ?_
                      refine ms_grd fun g34 => ?_
                      refine ms_getf (pc := 130) S lf_X10_48 rfl (m_dec e10_count 38 rfl) g34 ?_
                      refine ms_grd fun g35 => ?_
                      refine ms_getf (pc := 133) S lf_X10_281 rfl (m_dec e10_count 39 rfl) g35 ?_
                      exact ms_ret (pc := 136) E (m_dec e10_count 40 rfl) rfl
                    · refine ms_ite (fun q36 => ?_) (fun q36 => ?_)
                      · refine ms_swIn (pc := 1) S (m_dec e10_count 1 rfl) 10 q36 (by decide) (by decide) rfl rfl ?_
                        refine ms_aload_n (pc := 137) S 0 rfl rfl (m_dec e10_count 41 rfl) ?_
                        refine ms_grd fun g37 => ?_
                        refine ms_getf (pc := 138) S lf_X10_48 rfl (m_dec e10_count 42 rfl) g37 ?_
                        refine ms_grd fun g38 => ?_
                        refine ms_getf (pc := 141) S lf_X10_281 rfl (m_dec e10_count 43 rfl) g38 ?_
                        refine ms_iconst (pc := 144) S (m_dec e10_count 44 rfl) ?_
                        refine ms_icmp_ne (pc := 145) S (m_dec e10_count 45 rfl) rfl (fun q39 => ?_) (fun q39 => ?_)
                        · refine ms_iconst (pc := 148) S (m_dec e10_count 46 rfl) ?_
                          refine ms_goto (pc := 149) S (m_dec e10_count 47 rfl) rfl ?_
                          exact ms_ret (pc := 162) E (m_dec e10_count 52 rfl) rfl
                        · refine ms_aload_n (pc := 152) S 0 rfl rfl (m_dec e10_count 48 rfl) ?_
                          refine ms_getf (pc := 153) S lf_X10_48 rfl (m_dec e10_count 49 rfl) g37 ?_
                          refine ms_getf (pc := 156) S lf_X10_213 rfl (m_dec e10_count 50 rfl) g38 ?_
                          refine ms_grd fun g40 => ?_
                          refine ms_callVi (pc := 159) S hF (vals := []) (st := []) (hc := vw_5) (hci := by decide) (hcy := rfl) (ht := g40) (hC := (k5_size _ _ (m_g h (m_g h v0 6) 1) h)) (hM := lm_X10_71) (hfr := (Nat.le_trans (by decide) hFn)) (hstk := rfl) (hcat := Nat.le_of_ble_eq_true rfl) (hd := (m_dec e10_count 51 rfl)) (k1 := fun r42 h41 => ?_)
                          exact ms_ret (pc := 162) E (m_dec e10_count 52 rfl) rfl
                      · refine ms_swOut (pc := 1) (a := v1) S (m_dec e10_count 1 rfl) (by omega) rfl ?_
                        refine ms_iload_n (pc := 163) S 1 rfl rfl (m_dec e10_count 53 rfl) ?_
                        refine ms_bipush (pc := 164) S (m_dec e10_count 54 rfl) rfl ?_
                        refine ms_icmp_ge (pc := 166) S (m_dec e10_count 55 rfl) rfl (fun q43 => ?_) (fun q43 => ?_)
                        · refine ms_iconst (pc := 169) S (m_dec e10_count 56 rfl) ?_
                          exact ms_ret (pc := 170) E (m_dec e10_count 57 rfl) rfl
                        · refine ms_aload_n (pc := 171) S 0 rfl rfl (m_dec e10_count 58 rfl) ?_
                          refine ms_iload_n (pc := 172) S 1 rfl rfl (m_dec e10_count 59 rfl) ?_
                          refine ms_bipush (pc := 173) S (m_dec e10_count 60 rfl) rfl ?_
                          refine ms_isub (pc := 175) S (m_dec e10_count 61 rfl) ?_
                          refine ms_grd fun g44 => ?_
                          refine ms_callVa (pc := 176) S hF (vals := [m_i (v1 - 20)]) (st := []) (hc := vw_10) (hci := by decide) (hcy := rfl) (ht := g44) (hC := (k10_scoreOf _ _ v0 (v1 - 20) h)) (hM := lm_X10_193) (hfr := (Nat.le_trans (by decide) hFn)) (hstk := rfl) (hcat := Nat.le_of_ble_eq_true rfl) (hd := (m_dec e10_count 62 rfl)) (k1 := fun r46 h45 => ?_)
                          refine ms_astore_n (pc := 179) S (L' := [(2, m_r r46)]) [0] rfl rfl (m_lt hN rfl) (m_dec e10_count 63 rfl) ?_
                          refine ms_aload_n (pc := 180) S 0 rfl rfl (m_dec e10_count 64 rfl) ?_
                          refine ms_ifnonnull (pc := 181) S (m_dec e10_count 65 rfl) rfl (fun q47 => ?_) (fun q47 => ?_)
                          · refine ms_iconst (pc := 184) S (m_dec e10_count 66 rfl) ?_
                            refine ms_goto (pc := 185) S (m_dec e10_count 67 rfl) rfl ?_
                            exact ms_ret (pc := 192) E (m_dec e10_count 70 rfl) rfl
                          · refine ms_aload_n (pc := 188) S 0 rfl rfl (m_dec e10_count 68 rfl) ?_
                            refine ms_grd fun g48 => ?_
                            refine ms_getf (pc := 189) S lf_X10_284 rfl (m_dec e10_count 69 rfl) g48 ?_
                            exact ms_ret (pc := 192) E (m_dec e10_count 70 rfl) rfl
theorem k10_count (l : Launch) (d : m_D) (v0 v1 : Int) (h : m_H) : m_Con l d yX10_count cX10_count 3 (some .int) 3 (fun r => [m_i r]) [m_r v0, m_i v1] h (t10_count v0 v1 h) :=
  m_con2 (by decide +kernel) (Nat.le_of_ble_eq_true rfl) (fun Y hN hRm hr hI S hfin => s10_count S (m_end_i S hr hfin) hRm (Nat.le_refl _) hN v0 v1 h)
set_option maxRecDepth 100000 in
theorem e11_in : ∀ q ∈ ([(0, .lload_n 0, 1), (1, .lload_n 2, 1), (2, .lcmp, 1), (3, .ifCond .lt 14, 3), (6, .lload_n 0, 1), (7, .lload 4, 2), (9, .lcmp, 1), (10, .ifCond .gt 7, 3), (13, .iconst 1, 1), (14, .goto 4, 3), (17, .iconst 0, 1), (18, .ireturn, 1)] : List (Nat × Instr × Nat)), decode cX11_in q.1 = .ok q.2 := by decide +kernel
set_option maxHeartbeats 4000000 in
set_option maxRecDepth 20000 in
theorem s11_in {Y : m_Y Bool} (S : m_Std Y RX11 cX11_in) (E : m_End Y cX11_in .ireturn (fun r => [m_i (m_b2i r)])) {F : Nat} (hF : m_Rm Y F) (hFn : 0 ≤ F) (hN : Y.2.2.2.1 = 6) (v0 v2 v4 : Int) (h : m_H) : m_Sim Y 0 [(0, m_j v0), (2, m_j v2), (4, m_j v4)] [] h (t11_in v0 v2 v4 h) := by
  unfold t11_in
  refine ms_lload_n (pc := 0) S 0 rfl rfl (m_dec e11_in 0 rfl) ?_
  refine ms_lload_n (pc := 1) S 1 rfl rfl (m_dec e11_in 1 rfl) ?_
  refine ms_lcmp (pc := 2) S (m_dec e11_in 2 rfl) ?_
  refine ms_if_lt (pc := 3) S (m_dec e11_in 3 rfl) rfl (fun q1 => ?_) (fun q1 => ?_)
  · refine ms_iconst (pc := 17) S (m_dec e11_in 10 rfl) ?_
    exact ms_ret (pc := 18) E (m_dec e11_in 11 rfl) rfl
  · refine ms_lload_n (pc := 6) S 0 rfl rfl (m_dec e11_in 4 rfl) ?_
    refine ms_lload (pc := 7) S 2 rfl (m_dec e11_in 5 rfl) ?_
    refine ms_lcmp (pc := 9) S (m_dec e11_in 6 rfl) ?_
    refine ms_if_gt (pc := 10) S (m_dec e11_in 7 rfl) rfl (fun q2 => ?_) (fun q2 => ?_)
    · refine ms_iconst (pc := 17) S (m_dec e11_in 10 rfl) ?_
      exact ms_ret (pc := 18) E (m_dec e11_in 11 rfl) rfl
    · refine ms_iconst (pc := 13) S (m_dec e11_in 8 rfl) ?_
      refine ms_goto (pc := 14) S (m_dec e11_in 9 rfl) rfl ?_
      exact ms_ret (pc := 18) E (m_dec e11_in 11 rfl) rfl
theorem k11_in (l : Launch) (d : m_D) (v0 v2 v4 : Int) (h : m_H) : m_Con l d yX11_in cX11_in 6 (some .boolean) 0 (fun r => [m_i (m_b2i r)]) [m_j v0, m_j v2, m_j v4] h (t11_in v0 v2 v4 h) :=
  m_con2 (by decide +kernel) (Nat.le_of_ble_eq_true rfl) (fun Y hN hRm hr hI S hfin => s11_in S (m_end_z S hr hfin) hRm (Nat.le_refl _) hN v0 v2 v4 h)
set_option maxRecDepth 100000 in
theorem e11_bounded : ∀ q ∈ ([(0, .lload_n 0, 1), (1, .ldc2_w 1, 3), (4, .lcmp, 1), (5, .ifCond .ge 9, 3), (8, .ldc2_w 1, 3), (11, .goto 18, 3), (14, .lload_n 0, 1), (15, .ldc2_w 3, 3), (18, .lcmp, 1), (19, .ifCond .le 9, 3), (22, .ldc2_w 3, 3), (25, .goto 4, 3), (28, .lload_n 0, 1), (29, .l2i, 1), (30, .ireturn, 1)] : List (Nat × Instr × Nat)), decode cX11_bounded q.1 = .ok q.2 := by decide +kernel
set_option maxHeartbeats 4000000 in
set_option maxRecDepth 20000 in
theorem s11_bounded {Y : m_Y Int} (S : m_Std Y RX11 cX11_bounded) (E : m_End Y cX11_bounded .ireturn (fun r => [m_i r])) {F : Nat} (hF : m_Rm Y F) (hFn : 0 ≤ F) (hN : Y.2.2.2.1 = 2) (v0 : Int) (h : m_H) : m_Sim Y 0 [(0, m_j v0)] [] h (t11_bounded v0 h) := by
  unfold t11_bounded
  refine ms_lload_n (pc := 0) S 0 rfl rfl (m_dec e11_bounded 0 rfl) ?_
  refine ms_ldc2 (pc := 1) S (n := (-32768)) w_1850 (m_dec e11_bounded 1 rfl) ?_
  refine ms_lcmp (pc := 4) S (m_dec e11_bounded 2 rfl) ?_
  refine ms_if_ge (pc := 5) S (m_dec e11_bounded 3 rfl) rfl (fun q1 => ?_) (fun q1 => ?_)
  · refine ms_ldc2 (pc := 8) S (n := (-32768)) w_1850 (m_dec e11_bounded 4 rfl) ?_
    refine ms_goto (pc := 11) S (m_dec e11_bounded 5 rfl) rfl ?_
    refine ms_l2i (pc := 29) S (m_dec e11_bounded 13 rfl) ?_
    exact ms_ret (pc := 30) E (m_dec e11_bounded 14 rfl) rfl
  · refine ms_lload_n (pc := 14) S 0 rfl rfl (m_dec e11_bounded 6 rfl) ?_
    refine ms_ldc2 (pc := 15) S (n := 32767) w_1851 (m_dec e11_bounded 7 rfl) ?_
    refine ms_lcmp (pc := 18) S (m_dec e11_bounded 8 rfl) ?_
    refine ms_if_le (pc := 19) S (m_dec e11_bounded 9 rfl) rfl (fun q2 => ?_) (fun q2 => ?_)
    · refine ms_ldc2 (pc := 22) S (n := 32767) w_1851 (m_dec e11_bounded 10 rfl) ?_
      refine ms_goto (pc := 25) S (m_dec e11_bounded 11 rfl) rfl ?_
      refine ms_l2i (pc := 29) S (m_dec e11_bounded 13 rfl) ?_
      exact ms_ret (pc := 30) E (m_dec e11_bounded 14 rfl) rfl
    · refine ms_lload_n (pc := 28) S 0 rfl rfl (m_dec e11_bounded 12 rfl) ?_
      refine ms_l2i (pc := 29) S (m_dec e11_bounded 13 rfl) ?_
      exact ms_ret (pc := 30) E (m_dec e11_bounded 14 rfl) rfl
theorem k11_bounded (l : Launch) (d : m_D) (v0 : Int) (h : m_H) : m_Con l d yX11_bounded cX11_bounded 2 (some .int) 0 (fun r => [m_i r]) [m_j v0] h (t11_bounded v0 h) :=
  m_con2 (by decide +kernel) (Nat.le_of_ble_eq_true rfl) (fun Y hN hRm hr hI S hfin => s11_bounded S (m_end_i S hr hfin) hRm (Nat.le_refl _) hN v0 h)
set_option maxRecDepth 100000 in
theorem e11_init : ∀ q ∈ ([(0, .aload_n 0, 1), (1, .invokespecial 5, 3), (4, .aload_n 0, 1), (5, .sipush 20000, 3), (8, .newarray .int, 2), (10, .putfield 13, 3), (13, .aload_n 0, 1), (14, .sipush 300, 3), (17, .newarray .int, 2), (19, .putfield 17, 3), (22, .aload_n 0, 1), (23, .bipush 100, 2), (25, .newarray .int, 2), (27, .putfield 20, 3), (30, .aload_n 0, 1), (31, .bipush 100, 2), (33, .newarray .int, 2), (35, .putfield 23, 3), (38, .aload_n 0, 1), (39, .bipush 100, 2), (41, .newarray .int, 2), (43, .putfield 26, 3), (46, .aload_n 0, 1), (47, .bipush 100, 2), (49, .newarray .int, 2), (51, .putfield 29, 3), (54, .aload_n 0, 1), (55, .bipush 100, 2), (57, .newarray .int, 2), (59, .putfield 32, 3), (62, .aload_n 0, 1), (63, .bipush 100, 2), (65, .newarray .int, 2), (67, .putfield 35, 3), (70, .aload_n 0, 1), (71, .bipush 100, 2), (73, .newarray .int, 2), (75, .putfield 38, 3), (78, .aload_n 0, 1), (79, .bipush 100, 2), (81, .newarray .int, 2), (83, .putfield 41, 3), (86, .aload_n 0, 1), (87, .bipush 100, 2), (89, .newarray .int, 2), (91, .putfield 44, 3), (94, .aload_n 0, 1), (95, .bipush 100, 2), (97, .newarray .int, 2), (99, .putfield 47, 3), (102, .aload_n 0, 1), (103, .bipush 100, 2), (105, .newarray .int, 2), (107, .putfield 50, 3), (110, .aload_n 0, 1), (111, .bipush 100, 2), (113, .newarray .int, 2), (115, .putfield 53, 3), (118, .aload_n 0, 1), (119, .iconst 4, 1), (120, .newarray .int, 2), (122, .putfield 56, 3), (125, .aload_n 0, 1), (126, .iconst 4, 1), (127, .newarray .int, 2), (129, .putfield 59, 3), (132, .aload_n 0, 1), (133, .iconst 4, 1), (134, .newarray .int, 2), (136, .putfield 62, 3), (139, .aload_n 0, 1), (140, .iconst 4, 1), (141, .newarray .int, 2), (143, .putfield 65, 3), (146, .aload_n 0, 1), (147, .bipush 100, 2), (149, .newarray .int, 2), (151, .putfield 68, 3), (154, .aload_n 0, 1), (155, .bipush 100, 2), (157, .newarray .int, 2), (159, .putfield 71, 3), (162, .aload_n 0, 1), (163, .bipush 100, 2), (165, .newarray .int, 2), (167, .putfield 74, 3), (170, .aload_n 0, 1), (171, .sipush 1500, 3), (174, .newarray .int, 2), (176, .putfield 77, 3), (179, .aload_n 0, 1), (180, .sipush 1200, 3), (183, .newarray .byte, 2), (185, .putfield 80, 3), (188, .aload_n 0, 1), (189, .bipush 9, 2), (191, .newarray .int, 2), (193, .putfield 84, 3), (196, .aload_n 0, 1), (197, .bipush 9, 2), (199, .bipush 40, 2), (201, .multianewarray 87 2, 4), (205, .putfield 89, 3), (208, .aload_n 0, 1), (209, .bipush 9, 2), (211, .bipush 40, 2), (213, .multianewarray 87 2, 4), (217, .putfield 92, 3), (220, .aload_n 0, 1), (221, .bipush 9, 2), (223, .bipush 40, 2), (225, .multianewarray 87 2, 4), (229, .putfield 95, 3), (232, .aload_n 0, 1), (233, .bipush 9, 2), (235, .bipush 40, 2), (237, .multianewarray 87 2, 4), (241, .putfield 98, 3), (244, .aload_n 0, 1), (245, .bipush 9, 2), (247, .bipush 40, 2), (249, .multianewarray 87 2, 4), (253, .putfield 101, 3), (256, .aload_n 0, 1), (257, .bipush 9, 2), (259, .bipush 40, 2), (261, .multianewarray 87 2, 4), (265, .putfield 104, 3), (268, .aload_n 0, 1), (269, .bipush 9, 2), (271, .bipush 40, 2), (273, .multianewarray 87 2, 4), (277, .putfield 107, 3), (280, .aload_n 0, 1), (281, .bipush 9, 2), (283, .bipush 40, 2), (285, .multianewarray 87 2, 4), (289, .putfield 110, 3), (292, .aload_n 0, 1), (293, .bipush 40, 2), (295, .newarray .int, 2), (297, .putfield 113, 3), (300, .aload_n 0, 1), (301, .bipush 40, 2), (303, .newarray .int, 2), (305, .putfield 116, 3), (308, .aload_n 0, 1), (309, .bipush 40, 2), (311, .newarray .int, 2), (313, .putfield 119, 3), (316, .aload_n 0, 1), (317, .bipush 12, 2), (319, .anewarray 122, 3), (322, .dup, 1), (323, .iconst 0, 1), (324, .ldc 124, 2), (326, .aastore, 1), (327, .dup, 1), (328, .iconst 1, 1), (329, .ldc 126, 2), (331, .aastore, 1), (332, .dup, 1), (333, .iconst 2, 1), (334, .ldc 128, 2), (336, .aastore, 1), (337, .dup, 1), (338, .iconst 3, 1), (339, .ldc 130, 2), (341, .aastore, 1), (342, .dup, 1), (343, .iconst 4, 1), (344, .ldc 132, 2), (346, .aastore, 1), (347, .dup, 1), (348, .iconst 5, 1), (349, .ldc 134, 2), (351, .aastore, 1), (352, .dup, 1), (353, .bipush 6, 2), (355, .ldc 136, 2), (357, .aastore, 1), (358, .dup, 1), (359, .bipush 7, 2), (361, .ldc 138, 2), (363, .aastore, 1), (364, .dup, 1), (365, .bipush 8, 2), (367, .ldc 140, 2), (369, .aastore, 1), (370, .dup, 1), (371, .bipush 9, 2), (373, .ldc 142, 2), (375, .aastore, 1), (376, .dup, 1), (377, .bipush 10, 2), (379, .ldc 144, 2), (381, .aastore, 1), (382, .dup, 1), (383, .bipush 11, 2), (385, .ldc 146, 2), (387, .aastore, 1), (388, .putfield 148, 3), (391, .aload_n 0, 1), (392, .bipush 12, 2), (394, .anewarray 122, 3), (397, .dup, 1), (398, .iconst 0, 1), (399, .ldc 152, 2), (401, .aastore, 1), (402, .dup, 1), (403, .iconst 1, 1), (404, .ldc 153, 2), (406, .aastore, 1), (407, .dup, 1), (408, .iconst 2, 1), (409, .ldc 155, 2), (411, .aastore, 1), (412, .dup, 1), (413, .iconst 3, 1), (414, .ldc 157, 2), (416, .aastore, 1), (417, .dup, 1), (418, .iconst 4, 1), (419, .ldc 159, 2), (421, .aastore, 1), (422, .dup, 1), (423, .iconst 5, 1), (424, .ldc 161, 2), (426, .aastore, 1), (427, .dup, 1), (428, .bipush 6, 2), (430, .ldc 163, 2), (432, .aastore, 1), (433, .dup, 1), (434, .bipush 7, 2), (436, .ldc 165, 2), (438, .aastore, 1), (439, .dup, 1), (440, .bipush 8, 2), (442, .ldc 167, 2), (444, .aastore, 1), (445, .dup, 1), (446, .bipush 9, 2), (448, .ldc 169, 2), (450, .aastore, 1), (451, .dup, 1), (452, .bipush 10, 2), (454, .ldc 171, 2), (456, .aastore, 1), (457, .dup, 1), (458, .bipush 11, 2), (460, .ldc 173, 2), (462, .aastore, 1), (463, .putfield 175, 3), (466, .aload_n 0, 1), (467, .bipush 40, 2), (469, .sipush 1500, 3), (472, .multianewarray 87 2, 4), (476, .putfield 178, 3), (479, .aload_n 0, 1), (480, .bipush 40, 2), (482, .newarray .int, 2), (484, .putfield 181, 3), (487, .aload_n 0, 1), (488, .bipush 40, 2), (490, .newarray .int, 2), (492, .putfield 184, 3), (495, .aload_n 0, 1), (496, .sipush 3000, 3), (499, .newarray .long, 2), (501, .putfield 187, 3), (504, .aload_n 0, 1), (505, .sipush 400, 3), (508, .newarray .int, 2), (510, .putfield 191, 3), (513, .aload_n 0, 1), (514, .sipush 400, 3), (517, .newarray .int, 2), (519, .putfield 194, 3), (522, .aload_n 0, 1), (523, .sipush 400, 3), (526, .newarray .int, 2), (528, .putfield 197, 3), (531, .aload_n 0, 1), (532, .sipush 400, 3), (535, .newarray .int, 2), (537, .putfield 200, 3), (540, .aload_n 0, 1), (541, .iconst (-1), 1), (542, .putfield 203, 3), (545, .aload_n 0, 1), (546, .sipush 3000, 3), (549, .newarray .int, 2), (551, .putfield 207, 3), (554, .aload_n 0, 1), (555, .bipush 40, 2), (557, .newarray .int, 2), (559, .putfield 210, 3), (562, .aload_n 0, 1), (563, .bipush 40, 2), (565, .newarray .int, 2), (567, .putfield 213, 3), (570, .aload_n 0, 1), (571, .sipush 400, 3), (574, .newarray .int, 2), (576, .putfield 216, 3), (579, .aload_n 0, 1), (580, .sipush 400, 3), (583, .newarray .int, 2), (585, .putfield 219, 3), (588, .aload_n 0, 1), (589, .sipush 400, 3), (592, .newarray .int, 2), (594, .putfield 222, 3), (597, .aload_n 0, 1), (598, .sipush 400, 3), (601, .newarray .int, 2), (603, .putfield 225, 3), (606, .aload_n 0, 1), (607, .bipush 8, 2), (609, .newarray .boolean, 2), (611, .putfield 228, 3), (614, .aload_n 0, 1), (615, .bipush 8, 2), (617, .bipush 40, 2), (619, .multianewarray 87 2, 4), (623, .putfield 232, 3), (626, .aload_n 0, 1), (627, .bipush 40, 2), (629, .newarray .boolean, 2), (631, .putfield 235, 3), (634, .aload_n 0, 1), (635, .bipush 9, 2), (637, .newarray .int, 2), (639, .putfield 238, 3), (642, .aload_n 0, 1), (643, .bipush 9, 2), (645, .newarray .int, 2), (647, .putfield 241, 3), (650, .aload_n 0, 1), (651, .sipush 512, 3), (654, .newarray .int, 2), (656, .putfield 244, 3), (659, .aload_n 0, 1), (660, .bipush 9, 2), (662, .newarray .int, 2), (664, .putfield 247, 3), (667, .aload_n 0, 1), (668, .bipush 40, 2), (670, .newarray .int, 2), (672, .putfield 250, 3), (675, .aload_n 0, 1), (676, .sipush 1000, 3), (679, .newarray .int, 2), (681, .putfield 253, 3), (684, .aload_n 0, 1), (685, .sipush 600, 3), (688, .newarray .int, 2), (690, .putfield 256, 3), (693, .aload_n 0, 1), (694, .sipush 1001, 3), (697, .newarray .int, 2), (699, .putfield 259, 3), (702, .aload_n 0, 1), (703, .sipush 1001, 3), (706, .newarray .int, 2), (708, .putfield 262, 3), (711, .return_, 1)] : List (Nat × Instr × Nat)), decode cX11_init q.1 = .ok q.2 := by decide +kernel
set_option maxHeartbeats 4000000 in
set_option maxRecDepth 20000 in
theorem s11_init {Y : m_Y Unit} (S : m_Std Y RX11 cX11_init) (E : m_End Y cX11_init .return_ (fun _ => [])) {F : Nat} (hF : m_Rm Y F) (hFn : 1 ≤ F) (hN : Y.2.2.2.1 = 1) (hI : Y.2.2.2.2.2 → Y.2.1.2.2.2.2.2.2.2.2.1.name = "<init>") (v0 : Int) (h : m_H) : m_Sim Y 0 [(0, m_r v0)] [] h (t11_init v0 h) := by
  unfold t11_init
  refine ms_aload_n (pc := 0) S 0 rfl rfl (m_dec e11_init 0 rfl) ?_
  refine ms_grd fun g1 => ?_
  refine ms_obj (pc := 1) S hF (Nat.le_trans (by decide) hFn) lo_X11_5 g1 (Nat.le_of_ble_eq_true rfl) (m_dec e11_init 1 rfl) ?_
  refine ms_aload_n (pc := 4) S 0 rfl rfl (m_dec e11_init 2 rfl) ?_
  refine ms_sipush (pc := 5) S (m_dec e11_init 3 rfl) rfl ?_
  refine ms_newa (pc := 8) S 20 (ty := .int) rfl (by decide) (fun _ => rfl) (fun _ => rfl) (by decide) (fun _ _ z => z) w_208 (by decide) (m_dec e11_init 4 rfl) (fun h2 => ?_)
  refine ms_grd fun g3 => ?_
  refine ms_putf (pc := 10) S lp_X11_13 (fun _ hf => hI hf) rfl (fun d => m_fitA _ d _) (m_dec e11_init 5 rfl) g3 (fun h4 => ?_)
  refine ms_aload_n (pc := 13) S 0 rfl rfl (m_dec e11_init 6 rfl) ?_
  refine ms_sipush (pc := 14) S (m_dec e11_init 7 rfl) rfl ?_
  refine ms_newa (pc := 17) S 20 (ty := .int) rfl (by decide) (fun _ => rfl) (fun _ => rfl) (by decide) (fun _ _ z => z) w_208 (by decide) (m_dec e11_init 8 rfl) (fun h5 => ?_)
  refine ms_grd fun g6 => ?_
  refine ms_putf (pc := 19) S lp_X11_17 (fun _ hf => hI hf) rfl (fun d => m_fitA _ d _) (m_dec e11_init 9 rfl) g6 (fun h7 => ?_)
  refine ms_aload_n (pc := 22) S 0 rfl rfl (m_dec e11_init 10 rfl) ?_
  refine ms_bipush (pc := 23) S (m_dec e11_init 11 rfl) rfl ?_
  refine ms_newa (pc := 25) S 20 (ty := .int) rfl (by decide) (fun _ => rfl) (fun _ => rfl) (by decide) (fun _ _ z => z) w_208 (by decide) (m_dec e11_init 12 rfl) (fun h8 => ?_)
  refine ms_grd fun g9 => ?_
  refine ms_putf (pc := 27) S lp_X11_20 (fun _ hf => hI hf) rfl (fun d => m_fitA _ d _) (m_dec e11_init 13 rfl) g9 (fun h10 => ?_)
  refine ms_aload_n (pc := 30) S 0 rfl rfl (m_dec e11_init 14 rfl) ?_
  refine ms_bipush (pc := 31) S (m_dec e11_init 15 rfl) rfl ?_
  refine ms_newa (pc := 33) S 20 (ty := .int) rfl (by decide) (fun _ => rfl) (fun _ => rfl) (by decide) (fun _ _ z => z) w_208 (by decide) (m_dec e11_init 16 rfl) (fun h11 => ?_)
  refine ms_grd fun g12 => ?_
  refine ms_putf (pc := 35) S lp_X11_23 (fun _ hf => hI hf) rfl (fun d => m_fitA _ d _) (m_dec e11_init 17 rfl) g12 (fun h13 => ?_)
  refine ms_aload_n (pc := 38) S 0 rfl rfl (m_dec e11_init 18 rfl) ?_
  refine ms_bipush (pc := 39) S (m_dec e11_init 19 rfl) rfl ?_
  refine ms_newa (pc := 41) S 20 (ty := .int) rfl (by decide) (fun _ => rfl) (fun _ => rfl) (by decide) (fun _ _ z => z) w_208 (by decide) (m_dec e11_init 20 rfl) (fun h14 => ?_)
  refine ms_grd fun g15 => ?_
  refine ms_putf (pc := 43) S lp_X11_26 (fun _ hf => hI hf) rfl (fun d => m_fitA _ d _) (m_dec e11_init 21 rfl) g15 (fun h16 => ?_)
  refine ms_aload_n (pc := 46) S 0 rfl rfl (m_dec e11_init 22 rfl) ?_
  refine ms_bipush (pc := 47) S (m_dec e11_init 23 rfl) rfl ?_
  refine ms_newa (pc := 49) S 20 (ty := .int) rfl (by decide) (fun _ => rfl) (fun _ => rfl) (by decide) (fun _ _ z => z) w_208 (by decide) (m_dec e11_init 24 rfl) (fun h17 => ?_)
  refine ms_grd fun g18 => ?_
  refine ms_putf (pc := 51) S lp_X11_29 (fun _ hf => hI hf) rfl (fun d => m_fitA _ d _) (m_dec e11_init 25 rfl) g18 (fun h19 => ?_)
  refine ms_aload_n (pc := 54) S 0 rfl rfl (m_dec e11_init 26 rfl) ?_
  refine ms_bipush (pc := 55) S (m_dec e11_init 27 rfl) rfl ?_
  refine ms_newa (pc := 57) S 20 (ty := .int) rfl (by decide) (fun _ => rfl) (fun _ => rfl) (by decide) (fun _ _ z => z) w_208 (by decide) (m_dec e11_init 28 rfl) (fun h20 => ?_)
  refine ms_grd fun g21 => ?_
  refine ms_putf (pc := 59) S lp_X11_32 (fun _ hf => hI hf) rfl (fun d => m_fitA _ d _) (m_dec e11_init 29 rfl) g21 (fun h22 => ?_)
  refine ms_aload_n (pc := 62) S 0 rfl rfl (m_dec e11_init 30 rfl) ?_
  refine ms_bipush (pc := 63) S (m_dec e11_init 31 rfl) rfl ?_
  refine ms_newa (pc := 65) S 20 (ty := .int) rfl (by decide) (fun _ => rfl) (fun _ => rfl) (by decide) (fun _ _ z => z) w_208 (by decide) (m_dec e11_init 32 rfl) (fun h23 => ?_)
  refine ms_grd fun g24 => ?_
  refine ms_putf (pc := 67) S lp_X11_35 (fun _ hf => hI hf) rfl (fun d => m_fitA _ d _) (m_dec e11_init 33 rfl) g24 (fun h25 => ?_)
  refine ms_aload_n (pc := 70) S 0 rfl rfl (m_dec e11_init 34 rfl) ?_
  refine ms_bipush (pc := 71) S (m_dec e11_init 35 rfl) rfl ?_
  refine ms_newa (pc := 73) S 20 (ty := .int) rfl (by decide) (fun _ => rfl) (fun _ => rfl) (by decide) (fun _ _ z => z) w_208 (by decide) (m_dec e11_init 36 rfl) (fun h26 => ?_)
  refine ms_grd fun g27 => ?_
  refine ms_putf (pc := 75) S lp_X11_38 (fun _ hf => hI hf) rfl (fun d => m_fitA _ d _) (m_dec e11_init 37 rfl) g27 (fun h28 => ?_)
  refine ms_aload_n (pc := 78) S 0 rfl rfl (m_dec e11_init 38 rfl) ?_
  refine ms_bipush (pc := 79) S (m_dec e11_init 39 rfl) rfl ?_
  refine ms_newa (pc := 81) S 20 (ty := .int) rfl (by decide) (fun _ => rfl) (fun _ => rfl) (by decide) (fun _ _ z => z) w_208 (by decide) (m_dec e11_init 40 rfl) (fun h29 => ?_)
  refine ms_grd fun g30 => ?_
  refine ms_putf (pc := 83) S lp_X11_41 (fun _ hf => hI hf) rfl (fun d => m_fitA _ d _) (m_dec e11_init 41 rfl) g30 (fun h31 => ?_)
  refine ms_aload_n (pc := 86) S 0 rfl rfl (m_dec e11_init 42 rfl) ?_
  refine ms_bipush (pc := 87) S (m_dec e11_init 43 rfl) rfl ?_
  refine ms_newa (pc := 89) S 20 (ty := .int) rfl (by decide) (fun _ => rfl) (fun _ => rfl) (by decide) (fun _ _ z => z) w_208 (by decide) (m_dec e11_init 44 rfl) (fun h32 => ?_)
  refine ms_grd fun g33 => ?_
  refine ms_putf (pc := 91) S lp_X11_44 (fun _ hf => hI hf) rfl (fun d => m_fitA _ d _) (m_dec e11_init 45 rfl) g33 (fun h34 => ?_)
  refine ms_aload_n (pc := 94) S 0 rfl rfl (m_dec e11_init 46 rfl) ?_
  refine ms_bipush (pc := 95) S (m_dec e11_init 47 rfl) rfl ?_
  refine ms_newa (pc := 97) S 20 (ty := .int) rfl (by decide) (fun _ => rfl) (fun _ => rfl) (by decide) (fun _ _ z => z) w_208 (by decide) (m_dec e11_init 48 rfl) (fun h35 => ?_)
  refine ms_grd fun g36 => ?_
  refine ms_putf (pc := 99) S lp_X11_47 (fun _ hf => hI hf) rfl (fun d => m_fitA _ d _) (m_dec e11_init 49 rfl) g36 (fun h37 => ?_)
  refine ms_aload_n (pc := 102) S 0 rfl rfl (m_dec e11_init 50 rfl) ?_
  refine ms_bipush (pc := 103) S (m_dec e11_init 51 rfl) rfl ?_
  refine ms_newa (pc := 105) S 20 (ty := .int) rfl (by decide) (fun _ => rfl) (fun _ => rfl) (by decide) (fun _ _ z => z) w_208 (by decide) (m_dec e11_init 52 rfl) (fun h38 => ?_)
  refine ms_grd fun g39 => ?_
  refine ms_putf (pc := 107) S lp_X11_50 (fun _ hf => hI hf) rfl (fun d => m_fitA _ d _) (m_dec e11_init 53 rfl) g39 (fun h40 => ?_)
  refine ms_aload_n (pc := 110) S 0 rfl rfl (m_dec e11_init 54 rfl) ?_
  refine ms_bipush (pc := 111) S (m_dec e11_init 55 rfl) rfl ?_
  refine ms_newa (pc := 113) S 20 (ty := .int) rfl (by decide) (fun _ => rfl) (fun _ => rfl) (by decide) (fun _ _ z => z) w_208 (by decide) (m_dec e11_init 56 rfl) (fun h41 => ?_)
  refine ms_grd fun g42 => ?_
  refine ms_putf (pc := 115) S lp_X11_53 (fun _ hf => hI hf) rfl (fun d => m_fitA _ d _) (m_dec e11_init 57 rfl) g42 (fun h43 => ?_)
  refine ms_aload_n (pc := 118) S 0 rfl rfl (m_dec e11_init 58 rfl) ?_
  refine ms_iconst (pc := 119) S (m_dec e11_init 59 rfl) ?_
  refine ms_newa (pc := 120) S 20 (ty := .int) rfl (by decide) (fun _ => rfl) (fun _ => rfl) (by decide) (fun _ _ z => z) w_208 (by decide) (m_dec e11_init 60 rfl) (fun h44 => ?_)
  refine ms_grd fun g45 => ?_
  refine ms_putf (pc := 122) S lp_X11_56 (fun _ hf => hI hf) rfl (fun d => m_fitA _ d _) (m_dec e11_init 61 rfl) g45 (fun h46 => ?_)
  refine ms_aload_n (pc := 125) S 0 rfl rfl (m_dec e11_init 62 rfl) ?_
  refine ms_iconst (pc := 126) S (m_dec e11_init 63 rfl) ?_
  refine ms_newa (pc := 127) S 20 (ty := .int) rfl (by decide) (fun _ => rfl) (fun _ => rfl) (by decide) (fun _ _ z => z) w_208 (by decide) (m_dec e11_init 64 rfl) (fun h47 => ?_)
  refine ms_grd fun g48 => ?_
  refine ms_putf (pc := 129) S lp_X11_59 (fun _ hf => hI hf) rfl (fun d => m_fitA _ d _) (m_dec e11_init 65 rfl) g48 (fun h49 => ?_)
  refine ms_aload_n (pc := 132) S 0 rfl rfl (m_dec e11_init 66 rfl) ?_
  refine ms_iconst (pc := 133) S (m_dec e11_init 67 rfl) ?_
  refine ms_newa (pc := 134) S 20 (ty := .int) rfl (by decide) (fun _ => rfl) (fun _ => rfl) (by decide) (fun _ _ z => z) w_208 (by decide) (m_dec e11_init 68 rfl) (fun h50 => ?_)
  refine ms_grd fun g51 => ?_
  refine ms_putf (pc := 136) S lp_X11_62 (fun _ hf => hI hf) rfl (fun d => m_fitA _ d _) (m_dec e11_init 69 rfl) g51 (fun h52 => ?_)
  refine ms_aload_n (pc := 139) S 0 rfl rfl (m_dec e11_init 70 rfl) ?_
  refine ms_iconst (pc := 140) S (m_dec e11_init 71 rfl) ?_
  refine ms_newa (pc := 141) S 20 (ty := .int) rfl (by decide) (fun _ => rfl) (fun _ => rfl) (by decide) (fun _ _ z => z) w_208 (by decide) (m_dec e11_init 72 rfl) (fun h53 => ?_)
  refine ms_grd fun g54 => ?_
  refine ms_putf (pc := 143) S lp_X11_65 (fun _ hf => hI hf) rfl (fun d => m_fitA _ d _) (m_dec e11_init 73 rfl) g54 (fun h55 => ?_)
  refine ms_aload_n (pc := 146) S 0 rfl rfl (m_dec e11_init 74 rfl) ?_
  refine ms_bipush (pc := 147) S (m_dec e11_init 75 rfl) rfl ?_
  refine ms_newa (pc := 149) S 20 (ty := .int) rfl (by decide) (fun _ => rfl) (fun _ => rfl) (by decide) (fun _ _ z => z) w_208 (by decide) (m_dec e11_init 76 rfl) (fun h56 => ?_)
  refine ms_grd fun g57 => ?_
  refine ms_putf (pc := 151) S lp_X11_68 (fun _ hf => hI hf) rfl (fun d => m_fitA _ d _) (m_dec e11_init 77 rfl) g57 (fun h58 => ?_)
  refine ms_aload_n (pc := 154) S 0 rfl rfl (m_dec e11_init 78 rfl) ?_
  refine ms_bipush (pc := 155) S (m_dec e11_init 79 rfl) rfl ?_
  refine ms_newa (pc := 157) S 20 (ty := .int) rfl (by decide) (fun _ => rfl) (fun _ => rfl) (by decide) (fun _ _ z => z) w_208 (by decide) (m_dec e11_init 80 rfl) (fun h59 => ?_)
  refine ms_grd fun g60 => ?_
  refine ms_putf (pc := 159) S lp_X11_71 (fun _ hf => hI hf) rfl (fun d => m_fitA _ d _) (m_dec e11_init 81 rfl) g60 (fun h61 => ?_)
  refine ms_aload_n (pc := 162) S 0 rfl rfl (m_dec e11_init 82 rfl) ?_
  refine ms_bipush (pc := 163) S (m_dec e11_init 83 rfl) rfl ?_
  refine ms_newa (pc := 165) S 20 (ty := .int) rfl (by decide) (fun _ => rfl) (fun _ => rfl) (by decide) (fun _ _ z => z) w_208 (by decide) (m_dec e11_init 84 rfl) (fun h62 => ?_)
  refine ms_grd fun g63 => ?_
  refine ms_putf (pc := 167) S lp_X11_74 (fun _ hf => hI hf) rfl (fun d => m_fitA _ d _) (m_dec e11_init 85 rfl) g63 (fun h64 => ?_)
  refine ms_aload_n (pc := 170) S 0 rfl rfl (m_dec e11_init 86 rfl) ?_
  refine ms_sipush (pc := 171) S (m_dec e11_init 87 rfl) rfl ?_
  refine ms_newa (pc := 174) S 20 (ty := .int) rfl (by decide) (fun _ => rfl) (fun _ => rfl) (by decide) (fun _ _ z => z) w_208 (by decide) (m_dec e11_init 88 rfl) (fun h65 => ?_)
  refine ms_grd fun g66 => ?_
  refine ms_putf (pc := 176) S lp_X11_77 (fun _ hf => hI hf) rfl (fun d => m_fitA _ d _) (m_dec e11_init 89 rfl) g66 (fun h67 => ?_)
  refine ms_aload_n (pc := 179) S 0 rfl rfl (m_dec e11_init 90 rfl) ?_
  refine ms_sipush (pc := 180) S (m_dec e11_init 91 rfl) rfl ?_
  refine ms_newa (pc := 183) S 22 (ty := .byte) rfl (by decide) (fun _ => rfl) (fun _ => rfl) (by decide) (fun _ _ z => z) w_995 (by decide) (m_dec e11_init 92 rfl) (fun h68 => ?_)
  refine ms_grd fun g69 => ?_
  refine ms_putf (pc := 185) S lp_X11_80 (fun _ hf => hI hf) rfl (fun d => m_fitA _ d _) (m_dec e11_init 93 rfl) g69 (fun h70 => ?_)
  refine ms_aload_n (pc := 188) S 0 rfl rfl (m_dec e11_init 94 rfl) ?_
  refine ms_bipush (pc := 189) S (m_dec e11_init 95 rfl) rfl ?_
  refine ms_newa (pc := 191) S 20 (ty := .int) rfl (by decide) (fun _ => rfl) (fun _ => rfl) (by decide) (fun _ _ z => z) w_208 (by decide) (m_dec e11_init 96 rfl) (fun h71 => ?_)
  refine ms_grd fun g72 => ?_
  refine ms_putf (pc := 193) S lp_X11_84 (fun _ hf => hI hf) rfl (fun d => m_fitA _ d _) (m_dec e11_init 97 rfl) g72 (fun h73 => ?_)
  refine ms_aload_n (pc := 196) S 0 rfl rfl (m_dec e11_init 98 rfl) ?_
  refine ms_bipush (pc := 197) S (m_dec e11_init 99 rfl) rfl ?_
  refine ms_bipush (pc := 199) S (m_dec e11_init 100 rfl) rfl ?_
  refine ms_mna (pc := 201) S ⟨w_1456, w_1457, w_208⟩ (by decide) (m_dec e11_init 101 rfl) (fun h74 => ?_)
  refine ms_grd fun g75 => ?_
  refine ms_putf (pc := 205) S lp_X11_89 (fun _ hf => hI hf) rfl (fun d => m_fitA _ d _) (m_dec e11_init 102 rfl) g75 (fun h76 => ?_)
  refine ms_aload_n (pc := 208) S 0 rfl rfl (m_dec e11_init 103 rfl) ?_
  refine ms_bipush (pc := 209) S (m_dec e11_init 104 rfl) rfl ?_
  refine ms_bipush (pc := 211) S (m_dec e11_init 105 rfl) rfl ?_
  refine ms_mna (pc := 213) S ⟨w_1456, w_1457, w_208⟩ (by decide) (m_dec e11_init 106 rfl) (fun h77 => ?_)
  refine ms_grd fun g78 => ?_
  refine ms_putf (pc := 217) S lp_X11_92 (fun _ hf => hI hf) rfl (fun d => m_fitA _ d _) (m_dec e11_init 107 rfl) g78 (fun h79 => ?_)
  refine ms_aload_n (pc := 220) S 0 rfl rfl (m_dec e11_init 108 rfl) ?_
  refine ms_bipush (pc := 221) S (m_dec e11_init 109 rfl) rfl ?_
  refine ms_bipush (pc := 223) S (m_dec e11_init 110 rfl) rfl ?_
  refine ms_mna (pc := 225) S ⟨w_1456, w_1457, w_208⟩ (by decide) (m_dec e11_init 111 rfl) (fun h80 => ?_)
  refine ms_grd fun g81 => ?_
  refine ms_putf (pc := 229) S lp_X11_95 (fun _ hf => hI hf) rfl (fun d => m_fitA _ d _) (m_dec e11_init 112 rfl) g81 (fun h82 => ?_)
  refine ms_aload_n (pc := 232) S 0 rfl rfl (m_dec e11_init 113 rfl) ?_
  refine ms_bipush (pc := 233) S (m_dec e11_init 114 rfl) rfl ?_
  refine ms_bipush (pc := 235) S (m_dec e11_init 115 rfl) rfl ?_
  refine ms_mna (pc := 237) S ⟨w_1456, w_1457, w_208⟩ (by decide) (m_dec e11_init 116 rfl) (fun h83 => ?_)
  refine ms_grd fun g84 => ?_
  refine ms_putf (pc := 241) S lp_X11_98 (fun _ hf => hI hf) rfl (fun d => m_fitA _ d _) (m_dec e11_init 117 rfl) g84 (fun h85 => ?_)
  refine ms_aload_n (pc := 244) S 0 rfl rfl (m_dec e11_init 118 rfl) ?_
  refine ms_bipush (pc := 245) S (m_dec e11_init 119 rfl) rfl ?_
  refine ms_bipush (pc := 247) S (m_dec e11_init 120 rfl) rfl ?_
  refine ms_mna (pc := 249) S ⟨w_1456, w_1457, w_208⟩ (by decide) (m_dec e11_init 121 rfl) (fun h86 => ?_)
  refine ms_grd fun g87 => ?_
  refine ms_putf (pc := 253) S lp_X11_101 (fun _ hf => hI hf) rfl (fun d => m_fitA _ d _) (m_dec e11_init 122 rfl) g87 (fun h88 => ?_)
  refine ms_aload_n (pc := 256) S 0 rfl rfl (m_dec e11_init 123 rfl) ?_
  refine ms_bipush (pc := 257) S (m_dec e11_init 124 rfl) rfl ?_
  refine ms_bipush (pc := 259) S (m_dec e11_init 125 rfl) rfl ?_
  refine ms_mna (pc := 261) S ⟨w_1456, w_1457, w_208⟩ (by decide) (m_dec e11_init 126 rfl) (fun h89 => ?_)
  refine ms_grd fun g90 => ?_
  refine ms_putf (pc := 265) S lp_X11_104 (fun _ hf => hI hf) rfl (fun d => m_fitA _ d _) (m_dec e11_init 127 rfl) g90 (fun h91 => ?_)
  refine ms_aload_n (pc := 268) S 0 rfl rfl (m_dec e11_init 128 rfl) ?_
  refine ms_bipush (pc := 269) S (m_dec e11_init 129 rfl) rfl ?_
  refine ms_bipush (pc := 271) S (m_dec e11_init 130 rfl) rfl ?_
  refine ms_mna (pc := 273) S ⟨w_1456, w_1457, w_208⟩ (by decide) (m_dec e11_init 131 rfl) (fun h92 => ?_)
  refine ms_grd fun g93 => ?_
  refine ms_putf (pc := 277) S lp_X11_107 (fun _ hf => hI hf) rfl (fun d => m_fitA _ d _) (m_dec e11_init 132 rfl) g93 (fun h94 => ?_)
  refine ms_aload_n (pc := 280) S 0 rfl rfl (m_dec e11_init 133 rfl) ?_
  refine ms_bipush (pc := 281) S (m_dec e11_init 134 rfl) rfl ?_
  refine ms_bipush (pc := 283) S (m_dec e11_init 135 rfl) rfl ?_
  refine ms_mna (pc := 285) S ⟨w_1456, w_1457, w_208⟩ (by decide) (m_dec e11_init 136 rfl) (fun h95 => ?_)
  refine ms_grd fun g96 => ?_
  refine ms_putf (pc := 289) S lp_X11_110 (fun _ hf => hI hf) rfl (fun d => m_fitA _ d _) (m_dec e11_init 137 rfl) g96 (fun h97 => ?_)
  refine ms_aload_n (pc := 292) S 0 rfl rfl (m_dec e11_init 138 rfl) ?_
  refine ms_bipush (pc := 293) S (m_dec e11_init 139 rfl) rfl ?_
  refine ms_newa (pc := 295) S 20 (ty := .int) rfl (by decide) (fun _ => rfl) (fun _ => rfl) (by decide) (fun _ _ z => z) w_208 (by decide) (m_dec e11_init 140 rfl) (fun h98 => ?_)
  refine ms_grd fun g99 => ?_
  refine ms_putf (pc := 297) S lp_X11_113 (fun _ hf => hI hf) rfl (fun d => m_fitA _ d _) (m_dec e11_init 141 rfl) g99 (fun h100 => ?_)
  refine ms_aload_n (pc := 300) S 0 rfl rfl (m_dec e11_init 142 rfl) ?_
  refine ms_bipush (pc := 301) S (m_dec e11_init 143 rfl) rfl ?_
  refine ms_newa (pc := 303) S 20 (ty := .int) rfl (by decide) (fun _ => rfl) (fun _ => rfl) (by decide) (fun _ _ z => z) w_208 (by decide) (m_dec e11_init 144 rfl) (fun h101 => ?_)
  refine ms_grd fun g102 => ?_
  refine ms_putf (pc := 305) S lp_X11_116 (fun _ hf => hI hf) rfl (fun d => m_fitA _ d _) (m_dec e11_init 145 rfl) g102 (fun h103 => ?_)
  refine ms_aload_n (pc := 308) S 0 rfl rfl (m_dec e11_init 146 rfl) ?_
  refine ms_bipush (pc := 309) S (m_dec e11_init 147 rfl) rfl ?_
  refine ms_newa (pc := 311) S 20 (ty := .int) rfl (by decide) (fun _ => rfl) (fun _ => rfl) (by decide) (fun _ _ z => z) w_208 (by decide) (m_dec e11_init 148 rfl) (fun h104 => ?_)
  refine ms_grd fun g105 => ?_
  refine ms_putf (pc := 313) S lp_X11_119 (fun _ hf => hI hf) rfl (fun d => m_fitA _ d _) (m_dec e11_init 149 rfl) g105 (fun h106 => ?_)
  refine ms_aload_n (pc := 316) S 0 rfl rfl (m_dec e11_init 150 rfl) ?_
  refine ms_bipush (pc := 317) S (m_dec e11_init 151 rfl) rfl ?_
  refine ms_anew (pc := 319) S 28 (by decide) (fun _ => rfl) ⟨w_1458, w_1459⟩ (by decide) (m_dec e11_init 152 rfl) (fun h107 => ?_)
  refine ms_dup (pc := 322) S rfl (m_dec e11_init 153 rfl) ?_
  refine ms_iconst (pc := 323) S (m_dec e11_init 154 rfl) ?_
  refine ms_ldcS (pc := 324) S 1 rfl (m_dec e11_init 155 rfl) ?_
  refine ms_grd fun g108 => ?_
  refine ms_sast (pc := 326) S (by decide) g108 (m_dec e11_init 156 rfl) (fun h109 => ?_)
  refine ms_dup (pc := 327) S rfl (m_dec e11_init 157 rfl) ?_
  refine ms_iconst (pc := 328) S (m_dec e11_init 158 rfl) ?_
  refine ms_ldcS (pc := 329) S 2 rfl (m_dec e11_init 159 rfl) ?_
  refine ms_grd fun g110 => ?_
  refine ms_sast (pc := 331) S (by decide) g110 (m_dec e11_init 160 rfl) (fun h111 => ?_)
  refine ms_dup (pc := 332) S rfl (m_dec e11_init 161 rfl) ?_
  refine ms_iconst (pc := 333) S (m_dec e11_init 162 rfl) ?_
  refine ms_ldcS (pc := 334) S 3 rfl (m_dec e11_init 163 rfl) ?_
  refine ms_grd fun g112 => ?_
  refine ms_sast (pc := 336) S (by decide) g112 (m_dec e11_init 164 rfl) (fun h113 => ?_)
  refine ms_dup (pc := 337) S rfl (m_dec e11_init 165 rfl) ?_
  refine ms_iconst (pc := 338) S (m_dec e11_init 166 rfl) ?_
  refine ms_ldcS (pc := 339) S 4 rfl (m_dec e11_init 167 rfl) ?_
  refine ms_grd fun g114 => ?_
  refine ms_sast (pc := 341) S (by decide) g114 (m_dec e11_init 168 rfl) (fun h115 => ?_)
  refine ms_dup (pc := 342) S rfl (m_dec e11_init 169 rfl) ?_
  refine ms_iconst (pc := 343) S (m_dec e11_init 170 rfl) ?_
  refine ms_ldcS (pc := 344) S 5 rfl (m_dec e11_init 171 rfl) ?_
  refine ms_grd fun g116 => ?_
  refine ms_sast (pc := 346) S (by decide) g116 (m_dec e11_init 172 rfl) (fun h117 => ?_)
  refine ms_dup (pc := 347) S rfl (m_dec e11_init 173 rfl) ?_
  refine ms_iconst (pc := 348) S (m_dec e11_init 174 rfl) ?_
  refine ms_ldcS (pc := 349) S 6 rfl (m_dec e11_init 175 rfl) ?_
  refine ms_grd fun g118 => ?_
  refine ms_sast (pc := 351) S (by decide) g118 (m_dec e11_init 176 rfl) (fun h119 => ?_)
  refine ms_dup (pc := 352) S rfl (m_dec e11_init 177 rfl) ?_
  refine ms_bipush (pc := 353) S (m_dec e11_init 178 rfl) rfl ?_
  refine ms_ldcS (pc := 355) S 7 rfl (m_dec e11_init 179 rfl) ?_
  refine ms_grd fun g120 => ?_
  refine ms_sast (pc := 357) S (by decide) g120 (m_dec e11_init 180 rfl) (fun h121 => ?_)
  refine ms_dup (pc := 358) S rfl (m_dec e11_init 181 rfl) ?_
  refine ms_bipush (pc := 359) S (m_dec e11_init 182 rfl) rfl ?_
  refine ms_ldcS (pc := 361) S 8 rfl (m_dec e11_init 183 rfl) ?_
  refine ms_grd fun g122 => ?_
  refine ms_sast (pc := 363) S (by decide) g122 (m_dec e11_init 184 rfl) (fun h123 => ?_)
  refine ms_dup (pc := 364) S rfl (m_dec e11_init 185 rfl) ?_
  refine ms_bipush (pc := 365) S (m_dec e11_init 186 rfl) rfl ?_
  refine ms_ldcS (pc := 367) S 9 rfl (m_dec e11_init 187 rfl) ?_
  refine ms_grd fun g124 => ?_
  refine ms_sast (pc := 369) S (by decide) g124 (m_dec e11_init 188 rfl) (fun h125 => ?_)
  refine ms_dup (pc := 370) S rfl (m_dec e11_init 189 rfl) ?_
  refine ms_bipush (pc := 371) S (m_dec e11_init 190 rfl) rfl ?_
  refine ms_ldcS (pc := 373) S 10 rfl (m_dec e11_init 191 rfl) ?_
  refine ms_grd fun g126 => ?_
  refine ms_sast (pc := 375) S (by decide) g126 (m_dec e11_init 192 rfl) (fun h127 => ?_)
  refine ms_dup (pc := 376) S rfl (m_dec e11_init 193 rfl) ?_
  refine ms_bipush (pc := 377) S (m_dec e11_init 194 rfl) rfl ?_
  refine ms_ldcS (pc := 379) S 11 rfl (m_dec e11_init 195 rfl) ?_
  refine ms_grd fun g128 => ?_
  refine ms_sast (pc := 381) S (by decide) g128 (m_dec e11_init 196 rfl) (fun h129 => ?_)
  refine ms_dup (pc := 382) S rfl (m_dec e11_init 197 rfl) ?_
  refine ms_bipush (pc := 383) S (m_dec e11_init 198 rfl) rfl ?_
  refine ms_ldcS (pc := 385) S 12 rfl (m_dec e11_init 199 rfl) ?_
  refine ms_grd fun g130 => ?_
  refine ms_sast (pc := 387) S (by decide) g130 (m_dec e11_init 200 rfl) (fun h131 => ?_)
  refine ms_grd fun g132 => ?_
  refine ms_putf (pc := 388) S lp_X11_148 (fun _ hf => hI hf) rfl (fun d => m_fitA _ d _) (m_dec e11_init 201 rfl) g132 (fun h133 => ?_)
  refine ms_aload_n (pc := 391) S 0 rfl rfl (m_dec e11_init 202 rfl) ?_
  refine ms_bipush (pc := 392) S (m_dec e11_init 203 rfl) rfl ?_
  refine ms_anew (pc := 394) S 28 (by decide) (fun _ => rfl) ⟨w_1458, w_1459⟩ (by decide) (m_dec e11_init 204 rfl) (fun h134 => ?_)
  refine ms_dup (pc := 397) S rfl (m_dec e11_init 205 rfl) ?_
  refine ms_iconst (pc := 398) S (m_dec e11_init 206 rfl) ?_
  refine ms_ldcS (pc := 399) S 13 rfl (m_dec e11_init 207 rfl) ?_
  refine ms_grd fun g135 => ?_
  refine ms_sast (pc := 401) S (by decide) g135 (m_dec e11_init 208 rfl) (fun h136 => ?_)
  refine ms_dup (pc := 402) S rfl (m_dec e11_init 209 rfl) ?_
  refine ms_iconst (pc := 403) S (m_dec e11_init 210 rfl) ?_
  refine ms_ldcS (pc := 404) S 14 rfl (m_dec e11_init 211 rfl) ?_
  refine ms_grd fun g137 => ?_
  refine ms_sast (pc := 406) S (by decide) g137 (m_dec e11_init 212 rfl) (fun h138 => ?_)
  refine ms_dup (pc := 407) S rfl (m_dec e11_init 213 rfl) ?_
  refine ms_iconst (pc := 408) S (m_dec e11_init 214 rfl) ?_
  refine ms_ldcS (pc := 409) S 15 rfl (m_dec e11_init 215 rfl) ?_
  refine ms_grd fun g139 => ?_
  refine ms_sast (pc := 411) S (by decide) g139 (m_dec e11_init 216 rfl) (fun h140 => ?_)
  refine ms_dup (pc := 412) S rfl (m_dec e11_init 217 rfl) ?_
  refine ms_iconst (pc := 413) S (m_dec e11_init 218 rfl) ?_
  refine ms_ldcS (pc := 414) S 16 rfl (m_dec e11_init 219 rfl) ?_
  refine ms_grd fun g141 => ?_
  refine ms_sast (pc := 416) S (by decide) g141 (m_dec e11_init 220 rfl) (fun h142 => ?_)
  refine ms_dup (pc := 417) S rfl (m_dec e11_init 221 rfl) ?_
  refine ms_iconst (pc := 418) S (m_dec e11_init 222 rfl) ?_
  refine ms_ldcS (pc := 419) S 17 rfl (m_dec e11_init 223 rfl) ?_
  refine ms_grd fun g143 => ?_
  refine ms_sast (pc := 421) S (by decide) g143 (m_dec e11_init 224 rfl) (fun h144 => ?_)
  refine ms_dup (pc := 422) S rfl (m_dec e11_init 225 rfl) ?_
  refine ms_iconst (pc := 423) S (m_dec e11_init 226 rfl) ?_
  refine ms_ldcS (pc := 424) S 18 rfl (m_dec e11_init 227 rfl) ?_
  refine ms_grd fun g145 => ?_
  refine ms_sast (pc := 426) S (by decide) g145 (m_dec e11_init 228 rfl) (fun h146 => ?_)
  refine ms_dup (pc := 427) S rfl (m_dec e11_init 229 rfl) ?_
  refine ms_bipush (pc := 428) S (m_dec e11_init 230 rfl) rfl ?_
  refine ms_ldcS (pc := 430) S 19 rfl (m_dec e11_init 231 rfl) ?_
  refine ms_grd fun g147 => ?_
  refine ms_sast (pc := 432) S (by decide) g147 (m_dec e11_init 232 rfl) (fun h148 => ?_)
  refine ms_dup (pc := 433) S rfl (m_dec e11_init 233 rfl) ?_
  refine ms_bipush (pc := 434) S (m_dec e11_init 234 rfl) rfl ?_
  refine ms_ldcS (pc := 436) S 20 rfl (m_dec e11_init 235 rfl) ?_
  refine ms_grd fun g149 => ?_
  refine ms_sast (pc := 438) S (by decide) g149 (m_dec e11_init 236 rfl) (fun h150 => ?_)
  refine ms_dup (pc := 439) S rfl (m_dec e11_init 237 rfl) ?_
  refine ms_bipush (pc := 440) S (m_dec e11_init 238 rfl) rfl ?_
  refine ms_ldcS (pc := 442) S 21 rfl (m_dec e11_init 239 rfl) ?_
  refine ms_grd fun g151 => ?_
  refine ms_sast (pc := 444) S (by decide) g151 (m_dec e11_init 240 rfl) (fun h152 => ?_)
  refine ms_dup (pc := 445) S rfl (m_dec e11_init 241 rfl) ?_
  refine ms_bipush (pc := 446) S (m_dec e11_init 242 rfl) rfl ?_
  refine ms_ldcS (pc := 448) S 22 rfl (m_dec e11_init 243 rfl) ?_
  refine ms_grd fun g153 => ?_
  refine ms_sast (pc := 450) S (by decide) g153 (m_dec e11_init 244 rfl) (fun h154 => ?_)
  refine ms_dup (pc := 451) S rfl (m_dec e11_init 245 rfl) ?_
  refine ms_bipush (pc := 452) S (m_dec e11_init 246 rfl) rfl ?_
  refine ms_ldcS (pc := 454) S 23 rfl (m_dec e11_init 247 rfl) ?_
  refine ms_grd fun g155 => ?_
  refine ms_sast (pc := 456) S (by decide) g155 (m_dec e11_init 248 rfl) (fun h156 => ?_)
  refine ms_dup (pc := 457) S rfl (m_dec e11_init 249 rfl) ?_
  refine ms_bipush (pc := 458) S (m_dec e11_init 250 rfl) rfl ?_
  refine ms_ldcS (pc := 460) S 24 rfl (m_dec e11_init 251 rfl) ?_
  refine ms_grd fun g157 => ?_
  refine ms_sast (pc := 462) S (by decide) g157 (m_dec e11_init 252 rfl) (fun h158 => ?_)
  refine ms_grd fun g159 => ?_
  refine ms_putf (pc := 463) S lp_X11_175 (fun _ hf => hI hf) rfl (fun d => m_fitA _ d _) (m_dec e11_init 253 rfl) g159 (fun h160 => ?_)
  refine ms_aload_n (pc := 466) S 0 rfl rfl (m_dec e11_init 254 rfl) ?_
  refine ms_bipush (pc := 467) S (m_dec e11_init 255 rfl) rfl ?_
  refine ms_sipush (pc := 469) S (m_dec e11_init 256 rfl) rfl ?_
  refine ms_mna (pc := 472) S ⟨w_1456, w_1457, w_208⟩ (by decide) (m_dec e11_init 257 rfl) (fun h161 => ?_)
  refine ms_grd fun g162 => ?_
  refine ms_putf (pc := 476) S lp_X11_178 (fun _ hf => hI hf) rfl (fun d => m_fitA _ d _) (m_dec e11_init 258 rfl) g162 (fun h163 => ?_)
  refine ms_aload_n (pc := 479) S 0 rfl rfl (m_dec e11_init 259 rfl) ?_
  refine ms_bipush (pc := 480) S (m_dec e11_init 260 rfl) rfl ?_
  refine ms_newa (pc := 482) S 20 (ty := .int) rfl (by decide) (fun _ => rfl) (fun _ => rfl) (by decide) (fun _ _ z => z) w_208 (by decide) (m_dec e11_init 261 rfl) (fun h164 => ?_)
  refine ms_grd fun g165 => ?_
  refine ms_putf (pc := 484) S lp_X11_181 (fun _ hf => hI hf) rfl (fun d => m_fitA _ d _) (m_dec e11_init 262 rfl) g165 (fun h166 => ?_)
  refine ms_aload_n (pc := 487) S 0 rfl rfl (m_dec e11_init 263 rfl) ?_
  refine ms_bipush (pc := 488) S (m_dec e11_init 264 rfl) rfl ?_
  refine ms_newa (pc := 490) S 20 (ty := .int) rfl (by decide) (fun _ => rfl) (fun _ => rfl) (by decide) (fun _ _ z => z) w_208 (by decide) (m_dec e11_init 265 rfl) (fun h167 => ?_)
  refine ms_grd fun g168 => ?_
  refine ms_putf (pc := 492) S lp_X11_184 (fun _ hf => hI hf) rfl (fun d => m_fitA _ d _) (m_dec e11_init 266 rfl) g168 (fun h169 => ?_)
  refine ms_aload_n (pc := 495) S 0 rfl rfl (m_dec e11_init 267 rfl) ?_
  refine ms_sipush (pc := 496) S (m_dec e11_init 268 rfl) rfl ?_
  refine ms_newa (pc := 499) S 21 (ty := .long) rfl (by decide) (fun _ => rfl) (fun _ => rfl) (by decide) (fun _ _ z => z) w_1761 (by decide) (m_dec e11_init 269 rfl) (fun h170 => ?_)
  refine ms_grd fun g171 => ?_
  refine ms_putf (pc := 501) S lp_X11_187 (fun _ hf => hI hf) rfl (fun d => m_fitA _ d _) (m_dec e11_init 270 rfl) g171 (fun h172 => ?_)
  refine ms_aload_n (pc := 504) S 0 rfl rfl (m_dec e11_init 271 rfl) ?_
  refine ms_sipush (pc := 505) S (m_dec e11_init 272 rfl) rfl ?_
  refine ms_newa (pc := 508) S 20 (ty := .int) rfl (by decide) (fun _ => rfl) (fun _ => rfl) (by decide) (fun _ _ z => z) w_208 (by decide) (m_dec e11_init 273 rfl) (fun h173 => ?_)
  refine ms_grd fun g174 => ?_
  refine ms_putf (pc := 510) S lp_X11_191 (fun _ hf => hI hf) rfl (fun d => m_fitA _ d _) (m_dec e11_init 274 rfl) g174 (fun h175 => ?_)
  refine ms_aload_n (pc := 513) S 0 rfl rfl (m_dec e11_init 275 rfl) ?_
  refine ms_sipush (pc := 514) S (m_dec e11_init 276 rfl) rfl ?_
  refine ms_newa (pc := 517) S 20 (ty := .int) rfl (by decide) (fun _ => rfl) (fun _ => rfl) (by decide) (fun _ _ z => z) w_208 (by decide) (m_dec e11_init 277 rfl) (fun h176 => ?_)
  refine ms_grd fun g177 => ?_
  refine ms_putf (pc := 519) S lp_X11_194 (fun _ hf => hI hf) rfl (fun d => m_fitA _ d _) (m_dec e11_init 278 rfl) g177 (fun h178 => ?_)
  refine ms_aload_n (pc := 522) S 0 rfl rfl (m_dec e11_init 279 rfl) ?_
  refine ms_sipush (pc := 523) S (m_dec e11_init 280 rfl) rfl ?_
  refine ms_newa (pc := 526) S 20 (ty := .int) rfl (by decide) (fun _ => rfl) (fun _ => rfl) (by decide) (fun _ _ z => z) w_208 (by decide) (m_dec e11_init 281 rfl) (fun h179 => ?_)
  refine ms_grd fun g180 => ?_
  refine ms_putf (pc := 528) S lp_X11_197 (fun _ hf => hI hf) rfl (fun d => m_fitA _ d _) (m_dec e11_init 282 rfl) g180 (fun h181 => ?_)
  refine ms_aload_n (pc := 531) S 0 rfl rfl (m_dec e11_init 283 rfl) ?_
  refine ms_sipush (pc := 532) S (m_dec e11_init 284 rfl) rfl ?_
  refine ms_newa (pc := 535) S 20 (ty := .int) rfl (by decide) (fun _ => rfl) (fun _ => rfl) (by decide) (fun _ _ z => z) w_208 (by decide) (m_dec e11_init 285 rfl) (fun h182 => ?_)
  refine ms_grd fun g183 => ?_
  refine ms_putf (pc := 537) S lp_X11_200 (fun _ hf => hI hf) rfl (fun d => m_fitA _ d _) (m_dec e11_init 286 rfl) g183 (fun h184 => ?_)
  refine ms_aload_n (pc := 540) S 0 rfl rfl (m_dec e11_init 287 rfl) ?_
  refine ms_iconst (pc := 541) S (m_dec e11_init 288 rfl) ?_
  refine ms_grd fun g185 => ?_
  refine ms_putf (pc := 542) S lp_X11_203 (fun z => by cases z) rfl (fun d => m_fitI d _) (m_dec e11_init 289 rfl) g185 (fun h186 => ?_)
  refine ms_aload_n (pc := 545) S 0 rfl rfl (m_dec e11_init 290 rfl) ?_
  refine ms_sipush (pc := 546) S (m_dec e11_init 291 rfl) rfl ?_
  refine ms_newa (pc := 549) S 20 (ty := .int) rfl (by decide) (fun _ => rfl) (fun _ => rfl) (by decide) (fun _ _ z => z) w_208 (by decide) (m_dec e11_init 292 rfl) (fun h187 => ?_)
  refine ms_grd fun g188 => ?_
  refine ms_putf (pc := 551) S lp_X11_207 (fun _ hf => hI hf) rfl (fun d => m_fitA _ d _) (m_dec e11_init 293 rfl) g188 (fun h189 => ?_)
  refine ms_aload_n (pc := 554) S 0 rfl rfl (m_dec e11_init 294 rfl) ?_
  refine ms_bipush (pc := 555) S (m_dec e11_init 295 rfl) rfl ?_
  refine ms_newa (pc := 557) S 20 (ty := .int) rfl (by decide) (fun _ => rfl) (fun _ => rfl) (by decide) (fun _ _ z => z) w_208 (by decide) (m_dec e11_init 296 rfl) (fun h190 => ?_)
  refine ms_grd fun g191 => ?_
  refine ms_putf (pc := 559) S lp_X11_210 (fun _ hf => hI hf) rfl (fun d => m_fitA _ d _) (m_dec e11_init 297 rfl) g191 (fun h192 => ?_)
  refine ms_aload_n (pc := 562) S 0 rfl rfl (m_dec e11_init 298 rfl) ?_
  refine ms_bipush (pc := 563) S (m_dec e11_init 299 rfl) rfl ?_
  refine ms_newa (pc := 565) S 20 (ty := .int) rfl (by decide) (fun _ => rfl) (fun _ => rfl) (by decide) (fun _ _ z => z) w_208 (by decide) (m_dec e11_init 300 rfl) (fun h193 => ?_)
  refine ms_grd fun g194 => ?_
  refine ms_putf (pc := 567) S lp_X11_213 (fun _ hf => hI hf) rfl (fun d => m_fitA _ d _) (m_dec e11_init 301 rfl) g194 (fun h195 => ?_)
  refine ms_aload_n (pc := 570) S 0 rfl rfl (m_dec e11_init 302 rfl) ?_
  refine ms_sipush (pc := 571) S (m_dec e11_init 303 rfl) rfl ?_
  refine ms_newa (pc := 574) S 20 (ty := .int) rfl (by decide) (fun _ => rfl) (fun _ => rfl) (by decide) (fun _ _ z => z) w_208 (by decide) (m_dec e11_init 304 rfl) (fun h196 => ?_)
  refine ms_grd fun g197 => ?_
  refine ms_putf (pc := 576) S lp_X11_216 (fun _ hf => hI hf) rfl (fun d => m_fitA _ d _) (m_dec e11_init 305 rfl) g197 (fun h198 => ?_)
  refine ms_aload_n (pc := 579) S 0 rfl rfl (m_dec e11_init 306 rfl) ?_
  refine ms_sipush (pc := 580) S (m_dec e11_init 307 rfl) rfl ?_
  refine ms_newa (pc := 583) S 20 (ty := .int) rfl (by decide) (fun _ => rfl) (fun _ => rfl) (by decide) (fun _ _ z => z) w_208 (by decide) (m_dec e11_init 308 rfl) (fun h199 => ?_)
  refine ms_grd fun g200 => ?_
  refine ms_putf (pc := 585) S lp_X11_219 (fun _ hf => hI hf) rfl (fun d => m_fitA _ d _) (m_dec e11_init 309 rfl) g200 (fun h201 => ?_)
  refine ms_aload_n (pc := 588) S 0 rfl rfl (m_dec e11_init 310 rfl) ?_
  refine ms_sipush (pc := 589) S (m_dec e11_init 311 rfl) rfl ?_
  refine ms_newa (pc := 592) S 20 (ty := .int) rfl (by decide) (fun _ => rfl) (fun _ => rfl) (by decide) (fun _ _ z => z) w_208 (by decide) (m_dec e11_init 312 rfl) (fun h202 => ?_)
  refine ms_grd fun g203 => ?_
  refine ms_putf (pc := 594) S lp_X11_222 (fun _ hf => hI hf) rfl (fun d => m_fitA _ d _) (m_dec e11_init 313 rfl) g203 (fun h204 => ?_)
  refine ms_aload_n (pc := 597) S 0 rfl rfl (m_dec e11_init 314 rfl) ?_
  refine ms_sipush (pc := 598) S (m_dec e11_init 315 rfl) rfl ?_
  refine ms_newa (pc := 601) S 20 (ty := .int) rfl (by decide) (fun _ => rfl) (fun _ => rfl) (by decide) (fun _ _ z => z) w_208 (by decide) (m_dec e11_init 316 rfl) (fun h205 => ?_)
  refine ms_grd fun g206 => ?_
  refine ms_putf (pc := 603) S lp_X11_225 (fun _ hf => hI hf) rfl (fun d => m_fitA _ d _) (m_dec e11_init 317 rfl) g206 (fun h207 => ?_)
  refine ms_aload_n (pc := 606) S 0 rfl rfl (m_dec e11_init 318 rfl) ?_
  refine ms_bipush (pc := 607) S (m_dec e11_init 319 rfl) rfl ?_
  refine ms_newa (pc := 609) S 23 (ty := .boolean) rfl (by decide) (fun _ => rfl) (fun _ => rfl) (by decide) (fun _ _ z => z) w_1762 (by decide) (m_dec e11_init 320 rfl) (fun h208 => ?_)
  refine ms_grd fun g209 => ?_
  refine ms_putf (pc := 611) S lp_X11_228 (fun _ hf => hI hf) rfl (fun d => m_fitA _ d _) (m_dec e11_init 321 rfl) g209 (fun h210 => ?_)
  refine ms_aload_n (pc := 614) S 0 rfl rfl (m_dec e11_init 322 rfl) ?_
  refine ms_bipush (pc := 615) S (m_dec e11_init 323 rfl) rfl ?_
  refine ms_bipush (pc := 617) S (m_dec e11_init 324 rfl) rfl ?_
  refine ms_mna (pc := 619) S ⟨w_1456, w_1457, w_208⟩ (by decide) (m_dec e11_init 325 rfl) (fun h211 => ?_)
  refine ms_grd fun g212 => ?_
  refine ms_putf (pc := 623) S lp_X11_232 (fun _ hf => hI hf) rfl (fun d => m_fitA _ d _) (m_dec e11_init 326 rfl) g212 (fun h213 => ?_)
  refine ms_aload_n (pc := 626) S 0 rfl rfl (m_dec e11_init 327 rfl) ?_
  refine ms_bipush (pc := 627) S (m_dec e11_init 328 rfl) rfl ?_
  refine ms_newa (pc := 629) S 23 (ty := .boolean) rfl (by decide) (fun _ => rfl) (fun _ => rfl) (by decide) (fun _ _ z => z) w_1762 (by decide) (m_dec e11_init 329 rfl) (fun h214 => ?_)
  refine ms_grd fun g215 => ?_
  refine ms_putf (pc := 631) S lp_X11_235 (fun _ hf => hI hf) rfl (fun d => m_fitA _ d _) (m_dec e11_init 330 rfl) g215 (fun h216 => ?_)
  refine ms_aload_n (pc := 634) S 0 rfl rfl (m_dec e11_init 331 rfl) ?_
  refine ms_bipush (pc := 635) S (m_dec e11_init 332 rfl) rfl ?_
  refine ms_newa (pc := 637) S 20 (ty := .int) rfl (by decide) (fun _ => rfl) (fun _ => rfl) (by decide) (fun _ _ z => z) w_208 (by decide) (m_dec e11_init 333 rfl) (fun h217 => ?_)
  refine ms_grd fun g218 => ?_
  refine ms_putf (pc := 639) S lp_X11_238 (fun _ hf => hI hf) rfl (fun d => m_fitA _ d _) (m_dec e11_init 334 rfl) g218 (fun h219 => ?_)
  refine ms_aload_n (pc := 642) S 0 rfl rfl (m_dec e11_init 335 rfl) ?_
  refine ms_bipush (pc := 643) S (m_dec e11_init 336 rfl) rfl ?_
  refine ms_newa (pc := 645) S 20 (ty := .int) rfl (by decide) (fun _ => rfl) (fun _ => rfl) (by decide) (fun _ _ z => z) w_208 (by decide) (m_dec e11_init 337 rfl) (fun h220 => ?_)
  refine ms_grd fun g221 => ?_
  refine ms_putf (pc := 647) S lp_X11_241 (fun _ hf => hI hf) rfl (fun d => m_fitA _ d _) (m_dec e11_init 338 rfl) g221 (fun h222 => ?_)
  refine ms_aload_n (pc := 650) S 0 rfl rfl (m_dec e11_init 339 rfl) ?_
  refine ms_sipush (pc := 651) S (m_dec e11_init 340 rfl) rfl ?_
  refine ms_newa (pc := 654) S 20 (ty := .int) rfl (by decide) (fun _ => rfl) (fun _ => rfl) (by decide) (fun _ _ z => z) w_208 (by decide) (m_dec e11_init 341 rfl) (fun h223 => ?_)
  refine ms_grd fun g224 => ?_
  refine ms_putf (pc := 656) S lp_X11_244 (fun _ hf => hI hf) rfl (fun d => m_fitA _ d _) (m_dec e11_init 342 rfl) g224 (fun h225 => ?_)
  refine ms_aload_n (pc := 659) S 0 rfl rfl (m_dec e11_init 343 rfl) ?_
  refine ms_bipush (pc := 660) S (m_dec e11_init 344 rfl) rfl ?_
  refine ms_newa (pc := 662) S 20 (ty := .int) rfl (by decide) (fun _ => rfl) (fun _ => rfl) (by decide) (fun _ _ z => z) w_208 (by decide) (m_dec e11_init 345 rfl) (fun h226 => ?_)
  refine ms_grd fun g227 => ?_
  refine ms_putf (pc := 664) S lp_X11_247 (fun _ hf => hI hf) rfl (fun d => m_fitA _ d _) (m_dec e11_init 346 rfl) g227 (fun h228 => ?_)
  refine ms_aload_n (pc := 667) S 0 rfl rfl (m_dec e11_init 347 rfl) ?_
  refine ms_bipush (pc := 668) S (m_dec e11_init 348 rfl) rfl ?_
  refine ms_newa (pc := 670) S 20 (ty := .int) rfl (by decide) (fun _ => rfl) (fun _ => rfl) (by decide) (fun _ _ z => z) w_208 (by decide) (m_dec e11_init 349 rfl) (fun h229 => ?_)
  refine ms_grd fun g230 => ?_
  refine ms_putf (pc := 672) S lp_X11_250 (fun _ hf => hI hf) rfl (fun d => m_fitA _ d _) (m_dec e11_init 350 rfl) g230 (fun h231 => ?_)
  refine ms_aload_n (pc := 675) S 0 rfl rfl (m_dec e11_init 351 rfl) ?_
  refine ms_sipush (pc := 676) S (m_dec e11_init 352 rfl) rfl ?_
  refine ms_newa (pc := 679) S 20 (ty := .int) rfl (by decide) (fun _ => rfl) (fun _ => rfl) (by decide) (fun _ _ z => z) w_208 (by decide) (m_dec e11_init 353 rfl) (fun h232 => ?_)
  refine ms_grd fun g233 => ?_
  refine ms_putf (pc := 681) S lp_X11_253 (fun _ hf => hI hf) rfl (fun d => m_fitA _ d _) (m_dec e11_init 354 rfl) g233 (fun h234 => ?_)
  refine ms_aload_n (pc := 684) S 0 rfl rfl (m_dec e11_init 355 rfl) ?_
  refine ms_sipush (pc := 685) S (m_dec e11_init 356 rfl) rfl ?_
  refine ms_newa (pc := 688) S 20 (ty := .int) rfl (by decide) (fun _ => rfl) (fun _ => rfl) (by decide) (fun _ _ z => z) w_208 (by decide) (m_dec e11_init 357 rfl) (fun h235 => ?_)
  refine ms_grd fun g236 => ?_
  refine ms_putf (pc := 690) S lp_X11_256 (fun _ hf => hI hf) rfl (fun d => m_fitA _ d _) (m_dec e11_init 358 rfl) g236 (fun h237 => ?_)
  refine ms_aload_n (pc := 693) S 0 rfl rfl (m_dec e11_init 359 rfl) ?_
  refine ms_sipush (pc := 694) S (m_dec e11_init 360 rfl) rfl ?_
  refine ms_newa (pc := 697) S 20 (ty := .int) rfl (by decide) (fun _ => rfl) (fun _ => rfl) (by decide) (fun _ _ z => z) w_208 (by decide) (m_dec e11_init 361 rfl) (fun h238 => ?_)
  refine ms_grd fun g239 => ?_
  refine ms_putf (pc := 699) S lp_X11_259 (fun _ hf => hI hf) rfl (fun d => m_fitA _ d _) (m_dec e11_init 362 rfl) g239 (fun h240 => ?_)
  refine ms_aload_n (pc := 702) S 0 rfl rfl (m_dec e11_init 363 rfl) ?_
  refine ms_sipush (pc := 703) S (m_dec e11_init 364 rfl) rfl ?_
  refine ms_newa (pc := 706) S 20 (ty := .int) rfl (by decide) (fun _ => rfl) (fun _ => rfl) (by decide) (fun _ _ z => z) w_208 (by decide) (m_dec e11_init 365 rfl) (fun h241 => ?_)
  refine ms_grd fun g242 => ?_
  refine ms_putf (pc := 708) S lp_X11_262 (fun _ hf => hI hf) rfl (fun d => m_fitA _ d _) (m_dec e11_init 366 rfl) g242 (fun h243 => ?_)
  exact ms_ret (pc := 711) E (m_dec e11_init 367 rfl) rfl
theorem k11_init (l : Launch) (d : m_D) (v0 : Int) (h : m_H) : m_Con l d yX11_init cX11_init 1 none 1 (fun _ => []) [m_r v0] h (t11_init v0 h) :=
  m_con2 (by decide +kernel) (Nat.le_of_ble_eq_true rfl) (fun Y hN hRm hr hI S hfin => s11_init S (m_end_v S hr hfin) hRm (Nat.le_refl _) hN hI v0 h)
set_option maxRecDepth 100000 in
theorem e11_isStrip : ∀ q ∈ ([(0, .iload_n 1, 1), (1, .i2l, 1), (2, .lconst 0, 1), (3, .aload_n 0, 1), (4, .getfield 265, 3), (7, .iconst 1, 1), (8, .isub, 1), (9, .i2l, 1), (10, .invokestatic 268, 3), (13, .ireturn, 1)] : List (Nat × Instr × Nat)), decode cX11_isStrip q.1 = .ok q.2 := by decide +kernel
set_option maxHeartbeats 4000000 in
set_option maxRecDepth 20000 in
theorem s11_isStrip {Y : m_Y Bool} (S : m_Std Y RX11 cX11_isStrip) (E : m_End Y cX11_isStrip .ireturn (fun r => [m_i (m_b2i r)])) {F : Nat} (hF : m_Rm Y F) (hFn : 1 ≤ F) (hN : Y.2.2.2.1 = 2) (v0 v1 : Int) (h : m_H) : m_Sim Y 0 [(0, m_r v0), (1, m_i v1)] [] h (t11_isStrip v0 v1 h) := by
  unfold t11_isStrip
  refine ms_iload_n (pc := 0) S 1 rfl rfl (m_dec e11_isStrip 0 rfl) ?_
  refine ms_i2l (pc := 1) S (m_dec e11_isStrip 1 rfl) ?_
  refine ms_lconst (pc := 2) S (n := 0) rfl (m_dec e11_isStrip 2 rfl) ?_
  refine ms_aload_n (pc := 3) S 0 rfl rfl (m_dec e11_isStrip 3 rfl) ?_
  refine ms_grd fun g1 => ?_
  refine ms_getf (pc := 4) S lf_X11_265 rfl (m_dec e11_isStrip 4 rfl) g1 ?_
  refine ms_iconst (pc := 7) S (m_dec e11_isStrip 5 rfl) ?_
  refine ms_isub (pc := 8) S (m_dec e11_isStrip 6 rfl) ?_
  refine ms_i2l (pc := 9) S (m_dec e11_isStrip 7 rfl) ?_
  refine ms_callSz (pc := 10) S hF (vals := [m_j (m_w v1), m_j 0, m_j (m_w ((m_g h v0 14) - 1))]) (st := [])  (hC := (k11_in _ _ (m_w v1) 0 (m_w ((m_g h v0 14) - 1)) h)) (hM := lm_X11_268) (hfr := (Nat.le_trans (by decide) hFn)) (hstk := rfl) (hcat := Nat.le_of_ble_eq_true rfl) (hd := (m_dec e11_isStrip 8 rfl)) (k1 := fun r3 h2 => ?_)
  exact ms_ret (pc := 13) E (m_dec e11_isStrip 9 rfl) rfl
theorem k11_isStrip (l : Launch) (d : m_D) (v0 v1 : Int) (h : m_H) : m_Con l d yX11_isStrip cX11_isStrip 2 (some .boolean) 1 (fun r => [m_i (m_b2i r)]) [m_r v0, m_i v1] h (t11_isStrip v0 v1 h) :=
  m_con2 (by decide +kernel) (Nat.le_of_ble_eq_true rfl) (fun Y hN hRm hr hI S hfin => s11_isStrip S (m_end_z S hr hfin) hRm (Nat.le_refl _) hN v0 v1 h)
set_option maxRecDepth 100000 in
theorem e11_isThere : ∀ q ∈ ([(0, .aload_n 0, 1), (1, .iload_n 1, 1), (2, .invokevirtual 271, 3), (5, .ifCond .eq 16, 3), (8, .aload_n 0, 1), (9, .getfield 29, 3), (12, .iload_n 1, 1), (13, .iaload, 1), (14, .ifCond .ne 7, 3), (17, .iconst 1, 1), (18, .goto 4, 3), (21, .iconst 0, 1), (22, .ireturn, 1)] : List (Nat × Instr × Nat)), decode cX11_isThere q.1 = .ok q.2 := by decide +kernel
set_option maxHeartbeats 4000000 in
set_option maxRecDepth 20000 in
theorem s11_isThere {Y : m_Y Bool} (S : m_Std Y RX11 cX11_isThere) (E : m_End Y cX11_isThere .ireturn (fun r => [m_i (m_b2i r)])) {F : Nat} (hF : m_Rm Y F) (hFn : 2 ≤ F) (hN : Y.2.2.2.1 = 2) (v0 v1 : Int) (h : m_H) : m_Sim Y 0 [(0, m_r v0), (1, m_i v1)] [] h (t11_isThere v0 v1 h) := by
  unfold t11_isThere
  refine ms_aload_n (pc := 0) S 0 rfl rfl (m_dec e11_isThere 0 rfl) ?_
  refine ms_iload_n (pc := 1) S 1 rfl rfl (m_dec e11_isThere 1 rfl) ?_
  refine ms_grd fun g1 => ?_
  refine ms_callVz (pc := 2) S hF (vals := [m_i v1]) (st := []) (hc := vw_11) (hci := by decide) (hcy := rfl) (ht := g1) (hC := (k11_isStrip _ _ v0 v1 h)) (hM := lm_X11_271) (hfr := (Nat.le_trans (by decide) hFn)) (hstk := rfl) (hcat := Nat.le_of_ble_eq_true rfl) (hd := (m_dec e11_isThere 2 rfl)) (k1 := fun r3 h2 => ?_)
  refine ms_ifb_eq (pc := 5) S (m_dec e11_isThere 3 rfl) rfl (fun q4 => ?_) (fun q4 => ?_)
  · refine ms_aload_n (pc := 8) S 0 rfl rfl (m_dec e11_isThere 4 rfl) ?_
    refine ms_grd fun g5 => ?_
    refine ms_getf (pc := 9) S lf_X11_29 rfl (m_dec e11_isThere 5 rfl) g5 ?_
    refine ms_iload_n (pc := 12) S 1 rfl rfl (m_dec e11_isThere 6 rfl) ?_
    refine ms_grd fun g6 => ?_
    refine ms_iald (pc := 13) S g6 (m_dec e11_isThere 7 rfl) ?_
    refine ms_if_ne (pc := 14) S (m_dec e11_isThere 8 rfl) rfl (fun q7 => ?_) (fun q7 => ?_)
    · refine ms_iconst (pc := 17) S (m_dec e11_isThere 9 rfl) ?_
      refine ms_goto (pc := 18) S (m_dec e11_isThere 10 rfl) rfl ?_
      exact ms_ret (pc := 22) E (m_dec e11_isThere 12 rfl) rfl
    · refine ms_iconst (pc := 21) S (m_dec e11_isThere 11 rfl) ?_
      exact ms_ret (pc := 22) E (m_dec e11_isThere 12 rfl) rfl
  · refine ms_iconst (pc := 21) S (m_dec e11_isThere 11 rfl) ?_
    exact ms_ret (pc := 22) E (m_dec e11_isThere 12 rfl) rfl
theorem k11_isThere (l : Launch) (d : m_D) (v0 v1 : Int) (h : m_H) : m_Con l d yX11_isThere cX11_isThere 2 (some .boolean) 2 (fun r => [m_i (m_b2i r)]) [m_r v0, m_i v1] h (t11_isThere v0 v1 h) :=
  m_con2 (by decide +kernel) (Nat.le_of_ble_eq_true rfl) (fun Y hN hRm hr hI S hfin => s11_isThere S (m_end_z S hr hfin) hRm (Nat.le_refl _) hN v0 v1 h)
set_option maxRecDepth 100000 in
theorem e11_hands : ∀ q ∈ ([(0, .aload_n 0, 1), (1, .getfield 17, 3), (4, .aload_n 0, 1), (5, .getfield 275, 3), (8, .iload_n 1, 1), (9, .bipush 16, 2), (11, .iushr, 1), (12, .i2s, 1), (13, .iastore, 1), (14, .aload_n 0, 1), (15, .getfield 17, 3), (18, .aload_n 0, 1), (19, .getfield 275, 3), (22, .iconst 1, 1), (23, .iadd, 1), (24, .iload_n 1, 1), (25, .i2s, 1), (26, .iastore, 1), (27, .aload_n 0, 1), (28, .dup, 1), (29, .getfield 275, 3), (32, .iconst 2, 1), (33, .iadd, 1), (34, .putfield 275, 3), (37, .return_, 1)] : List (Nat × Instr × Nat)), decode cX11_hands q.1 = .ok q.2 := by decide +kernel
set_option maxHeartbeats 4000000 in
set_option maxRecDepth 20000 in
theorem s11_hands {Y : m_Y Unit} (S : m_Std Y RX11 cX11_hands) (E : m_End Y cX11_hands .return_ (fun _ => [])) {F : Nat} (hF : m_Rm Y F) (hFn : 0 ≤ F) (hN : Y.2.2.2.1 = 2) (v0 v1 : Int) (h : m_H) : m_Sim Y 0 [(0, m_r v0), (1, m_i v1)] [] h (t11_hands v0 v1 h) := by
  unfold t11_hands
  refine ms_aload_n (pc := 0) S 0 rfl rfl (m_dec e11_hands 0 rfl) ?_
  refine ms_grd fun g1 => ?_
  refine ms_getf (pc := 1) S lf_X11_17 rfl (m_dec e11_hands 1 rfl) g1 ?_
  refine ms_aload_n (pc := 4) S 0 rfl rfl (m_dec e11_hands 2 rfl) ?_
  refine ms_getf (pc := 5) S lf_X11_275 rfl (m_dec e11_hands 3 rfl) g1 ?_
  refine ms_iload_n (pc := 8) S 1 rfl rfl (m_dec e11_hands 4 rfl) ?_
  refine ms_bipush (pc := 9) S (m_dec e11_hands 5 rfl) rfl ?_
  refine ms_iushr (pc := 11) S (m_dec e11_hands 6 rfl) ?_
  refine ms_i2s (pc := 12) S (m_dec e11_hands 7 rfl) ?_
  refine ms_grd fun g2 => ?_
  refine ms_iast (pc := 13) S g2 (m_dec e11_hands 8 rfl) (fun h3 => ?_)
  refine ms_aload_n (pc := 14) S 0 rfl rfl (m_dec e11_hands 9 rfl) ?_
  refine ms_grd fun g4 => ?_
  refine ms_getf (pc := 15) S lf_X11_17 rfl (m_dec e11_hands 10 rfl) g4 ?_
  refine ms_aload_n (pc := 18) S 0 rfl rfl (m_dec e11_hands 11 rfl) ?_
  refine ms_getf (pc := 19) S lf_X11_275 rfl (m_dec e11_hands 12 rfl) g4 ?_
  refine ms_iconst (pc := 22) S (m_dec e11_hands 13 rfl) ?_
  refine ms_iadd (pc := 23) S (m_dec e11_hands 14 rfl) ?_
  refine ms_iload_n (pc := 24) S 1 rfl rfl (m_dec e11_hands 15 rfl) ?_
  refine ms_i2s (pc := 25) S (m_dec e11_hands 16 rfl) ?_
  refine ms_grd fun g5 => ?_
  refine ms_iast (pc := 26) S g5 (m_dec e11_hands 17 rfl) (fun h6 => ?_)
  refine ms_aload_n (pc := 27) S 0 rfl rfl (m_dec e11_hands 18 rfl) ?_
  refine ms_dup (pc := 28) S rfl (m_dec e11_hands 19 rfl) ?_
  refine ms_grd fun g7 => ?_
  refine ms_getf (pc := 29) S lf_X11_275 rfl (m_dec e11_hands 20 rfl) g7 ?_
  refine ms_iconst (pc := 32) S (m_dec e11_hands 21 rfl) ?_
  refine ms_iadd (pc := 33) S (m_dec e11_hands 22 rfl) ?_
  refine ms_putf (pc := 34) S lp_X11_275 (fun z => by cases z) rfl (fun d => m_fitI d _) (m_dec e11_hands 23 rfl) g7 (fun h8 => ?_)
  exact ms_ret (pc := 37) E (m_dec e11_hands 24 rfl) rfl
theorem k11_hands (l : Launch) (d : m_D) (v0 v1 : Int) (h : m_H) : m_Con l d yX11_hands cX11_hands 2 none 0 (fun _ => []) [m_r v0, m_i v1] h (t11_hands v0 v1 h) :=
  m_con2 (by decide +kernel) (Nat.le_of_ble_eq_true rfl) (fun Y hN hRm hr hI S hfin => s11_hands S (m_end_v S hr hfin) hRm (Nat.le_refl _) hN v0 v1 h)
set_option maxRecDepth 100000 in
theorem e11_hand : ∀ q ∈ ([(0, .aload_n 0, 1), (1, .getfield 275, 3), (4, .bipush 10, 2), (6, .iadd, 1), (7, .sipush 300, 3), (10, .if_icmp .le 5, 3), (13, .iconst (-1), 1), (14, .ireturn, 1), (15, .aload_n 0, 1), (16, .iload_n 1, 1), (17, .invokevirtual 278, 3), (20, .aload_n 0, 1), (21, .iload_n 2, 1), (22, .invokevirtual 278, 3), (25, .aload_n 0, 1), (26, .iload_n 3, 1), (27, .invokevirtual 278, 3), (30, .aload_n 0, 1), (31, .iload 4, 2), (33, .invokevirtual 278, 3), (36, .aload_n 0, 1), (37, .iload 5, 2), (39, .invokevirtual 278, 3), (42, .aload_n 0, 1), (43, .getfield 275, 3), (46, .ireturn, 1)] : List (Nat × Instr × Nat)), decode cX11_hand q.1 = .ok q.2 := by decide +kernel
set_option maxHeartbeats 4000000 in
set_option maxRecDepth 20000 in
theorem s11_hand {Y : m_Y Int} (S : m_Std Y RX11 cX11_hand) (E : m_End Y cX11_hand .ireturn (fun r => [m_i r])) {F : Nat} (hF : m_Rm Y F) (hFn : 1 ≤ F) (hN : Y.2.2.2.1 = 6) (v0 v1 v2 v3 v4 v5 : Int) (h : m_H) : m_Sim Y 0 [(0, m_r v0), (1, m_i v1), (2, m_i v2), (3, m_i v3), (4, m_i v4), (5, m_i v5)] [] h (t11_hand v0 v1 v2 v3 v4 v5 h) := by
  unfold t11_hand
  refine ms_aload_n (pc := 0) S 0 rfl rfl (m_dec e11_hand 0 rfl) ?_
  refine ms_grd fun g1 => ?_
  refine ms_getf (pc := 1) S lf_X11_275 rfl (m_dec e11_hand 1 rfl) g1 ?_
  refine ms_bipush (pc := 4) S (m_dec e11_hand 2 rfl) rfl ?_
  refine ms_iadd (pc := 6) S (m_dec e11_hand 3 rfl) ?_
  refine ms_sipush (pc := 7) S (m_dec e11_hand 4 rfl) rfl ?_
  refine ms_icmp_le (pc := 10) S (m_dec e11_hand 5 rfl) rfl (fun q2 => ?_) (fun q2 => ?_)
  · refine ms_iconst (pc := 13) S (m_dec e11_hand 6 rfl) ?_
    exact ms_ret (pc := 14) E (m_dec e11_hand 7 rfl) rfl
  · refine ms_aload_n (pc := 15) S 0 rfl rfl (m_dec e11_hand 8 rfl) ?_
    refine ms_iload_n (pc := 16) S 1 rfl rfl (m_dec e11_hand 9 rfl) ?_
    refine ms_callVv (pc := 17) S hF (vals := [m_i v1]) (st := []) (hc := vw_11) (hci := by decide) (hcy := rfl) (ht := g1) (hC := (k11_hands _ _ v0 v1 h)) (hM := lm_X11_278) (hfr := (Nat.le_trans (by decide) hFn)) (hstk := rfl) (hcat := Nat.le_of_ble_eq_true rfl) (hd := (m_dec e11_hand 10 rfl)) (k1 := fun h3 => ?_)
    refine ms_aload_n (pc := 20) S 0 rfl rfl (m_dec e11_hand 11 rfl) ?_
    refine ms_iload_n (pc := 21) S 2 rfl rfl (m_dec e11_hand 12 rfl) ?_
    refine ms_grd fun g5 => ?_
    refine ms_callVv (pc := 22) S hF (vals := [m_i v2]) (st := []) (hc := vw_11) (hci := by decide) (hcy := rfl) (ht := g5) (hC := (k11_hands _ _ v0 v2 h3)) (hM := lm_X11_278) (hfr := (Nat.le_trans (by decide) hFn)) (hstk := rfl) (hcat := Nat.le_of_ble_eq_true rfl) (hd := (m_dec e11_hand 13 rfl)) (k1 := fun h6 => ?_)
    refine ms_aload_n (pc := 25) S 0 rfl rfl (m_dec e11_hand 14 rfl) ?_
    refine ms_iload_n (pc := 26) S 3 rfl rfl (m_dec e11_hand 15 rfl) ?_
    refine ms_grd fun g8 => ?_
    refine ms_callVv (pc := 27) S hF (vals := [m_i v3]) (st := []) (hc := vw_11) (hci := by decide) (hcy := rfl) (ht := g8) (hC := (k11_hands _ _ v0 v3 h6)) (hM := lm_X11_278) (hfr := (Nat.le_trans (by decide) hFn)) (hstk := rfl) (hcat := Nat.le_of_ble_eq_true rfl) (hd := (m_dec e11_hand 16 rfl)) (k1 := fun h9 => ?_)
    refine ms_aload_n (pc := 30) S 0 rfl rfl (m_dec e11_hand 17 rfl) ?_
    refine ms_iload (pc := 31) S 4 rfl (m_dec e11_hand 18 rfl) ?_
    refine ms_grd fun g11 => ?_
    refine ms_callVv (pc := 33) S hF (vals := [m_i v4]) (st := []) (hc := vw_11) (hci := by decide) (hcy := rfl) (ht := g11) (hC := (k11_hands _ _ v0 v4 h9)) (hM := lm_X11_278) (hfr := (Nat.le_trans (by decide) hFn)) (hstk := rfl) (hcat := Nat.le_of_ble_eq_true rfl) (hd := (m_dec e11_hand 19 rfl)) (k1 := fun h12 => ?_)
    refine ms_aload_n (pc := 36) S 0 rfl rfl (m_dec e11_hand 20 rfl) ?_
    refine ms_iload (pc := 37) S 5 rfl (m_dec e11_hand 21 rfl) ?_
    refine ms_grd fun g14 => ?_
    refine ms_callVv (pc := 39) S hF (vals := [m_i v5]) (st := []) (hc := vw_11) (hci := by decide) (hcy := rfl) (ht := g14) (hC := (k11_hands _ _ v0 v5 h12)) (hM := lm_X11_278) (hfr := (Nat.le_trans (by decide) hFn)) (hstk := rfl) (hcat := Nat.le_of_ble_eq_true rfl) (hd := (m_dec e11_hand 22 rfl)) (k1 := fun h15 => ?_)
    refine ms_aload_n (pc := 42) S 0 rfl rfl (m_dec e11_hand 23 rfl) ?_
    refine ms_grd fun g17 => ?_
    refine ms_getf (pc := 43) S lf_X11_275 rfl (m_dec e11_hand 24 rfl) g17 ?_
    exact ms_ret (pc := 46) E (m_dec e11_hand 25 rfl) rfl
theorem k11_hand (l : Launch) (d : m_D) (v0 v1 v2 v3 v4 v5 : Int) (h : m_H) : m_Con l d yX11_hand cX11_hand 6 (some .int) 1 (fun r => [m_i r]) [m_r v0, m_i v1, m_i v2, m_i v3, m_i v4, m_i v5] h (t11_hand v0 v1 v2 v3 v4 v5 h) :=
  m_con2 (by decide +kernel) (Nat.le_of_ble_eq_true rfl) (fun Y hN hRm hr hI S hfin => s11_hand S (m_end_i S hr hfin) hRm (Nat.le_refl _) hN v0 v1 v2 v3 v4 v5 h)
set_option maxRecDepth 100000 in
theorem e11_drop : ∀ q ∈ ([(0, .aload_n 0, 1), (1, .getfield 275, 3), (4, .istore_n 1, 1), (5, .aload_n 0, 1), (6, .iconst 0, 1), (7, .putfield 275, 3), (10, .iload_n 1, 1), (11, .ireturn, 1)] : List (Nat × Instr × Nat)), decode cX11_drop q.1 = .ok q.2 := by decide +kernel
set_option maxHeartbeats 4000000 in
set_option maxRecDepth 20000 in
theorem s11_drop {Y : m_Y Int} (S : m_Std Y RX11 cX11_drop) (E : m_End Y cX11_drop .ireturn (fun r => [m_i r])) {F : Nat} (hF : m_Rm Y F) (hFn : 0 ≤ F) (hN : Y.2.2.2.1 = 2) (v0 : Int) (h : m_H) : m_Sim Y 0 [(0, m_r v0)] [] h (t11_drop v0 h) := by
  unfold t11_drop
  refine ms_aload_n (pc := 0) S 0 rfl rfl (m_dec e11_drop 0 rfl) ?_
  refine ms_grd fun g1 => ?_
  refine ms_getf (pc := 1) S lf_X11_275 rfl (m_dec e11_drop 1 rfl) g1 ?_
  refine ms_nm (st := fun x2 => [m_i x2]) fun x2 => ?_
  refine ms_istore_n (pc := 4) S (L' := [(0, m_r v0), (1, m_i x2)]) [1, 0] rfl rfl (m_lt hN rfl) (m_dec e11_drop 2 rfl) ?_
  refine ms_aload_n (pc := 5) S 0 rfl rfl (m_dec e11_drop 3 rfl) ?_
  refine ms_iconst (pc := 6) S (m_dec e11_drop 4 rfl) ?_
  refine ms_putf (pc := 7) S lp_X11_275 (fun z => by cases z) rfl (fun d => m_fitI d _) (m_dec e11_drop 5 rfl) g1 (fun h3 => ?_)
  refine ms_iload_n (pc := 10) S 1 rfl rfl (m_dec e11_drop 6 rfl) ?_
  exact ms_ret (pc := 11) E (m_dec e11_drop 7 rfl) rfl
theorem k11_drop (l : Launch) (d : m_D) (v0 : Int) (h : m_H) : m_Con l d yX11_drop cX11_drop 2 (some .int) 0 (fun r => [m_i r]) [m_r v0] h (t11_drop v0 h) :=
  m_con2 (by decide +kernel) (Nat.le_of_ble_eq_true rfl) (fun Y hN hRm hr hI S hfin => s11_drop S (m_end_i S hr hfin) hRm (Nat.le_refl _) hN v0 h)
set_option maxRecDepth 100000 in
theorem e11_handLoses : ∀ q ∈ ([(0, .iload_n 1, 1), (1, .istore_n 2, 1), (2, .iload_n 2, 1), (3, .aload_n 0, 1), (4, .getfield 275, 3), (7, .if_icmp .ge 23, 3), (10, .aload_n 0, 1), (11, .getfield 17, 3), (14, .iload_n 2, 1), (15, .iload_n 1, 1), (16, .isub, 1), (17, .aload_n 0, 1), (18, .getfield 17, 3), (21, .iload_n 2, 1), (22, .iaload, 1), (23, .iastore, 1), (24, .iinc 2 1, 3), (27, .goto (-25), 3), (30, .aload_n 0, 1), (31, .dup, 1), (32, .getfield 275, 3), (35, .iload_n 1, 1), (36, .isub, 1), (37, .putfield 275, 3), (40, .return_, 1)] : List (Nat × Instr × Nat)), decode cX11_handLoses q.1 = .ok q.2 := by decide +kernel
set_option maxHeartbeats 4000000 in
set_option maxRecDepth 20000 in
theorem s11_handLoses_c2 {Y : m_Y Unit} (S : m_Std Y RX11 cX11_handLoses) (E : m_End Y cX11_handLoses .return_ (fun _ => [])) {F : Nat} (hF : m_Rm Y F) (hFn : 0 ≤ F) (hN : Y.2.2.2.1 = 3) : ∀ (v0 v1 v2 : Int) (h : m_H), m_Sim Y 2 [(0, m_r v0), (1, m_i v1), (2, m_i v2)] [] h (t11_handLoses_c2 v0 v1 v2 h) := by
  intro v0 v1 v2 h
  refine ms_all fun r e => ?_
  refine t11_handLoses_c2.partial_correctness v0 v1 (motive := fun v2 h r => m_Sim Y 2 [(0, m_r v0), (1, m_i v1), (2, m_i v2)] [] h (some r)) ?_ v2 h r e
  intro f ih v2 h r e
  have ih : ∀ (v2 : Int) (h : m_H), m_Sim Y 2 [(0, m_r v0), (1, m_i v1), (2, m_i v2)] [] h (f v2 h ) := fun v2 h  => ms_all fun r e => ih v2 h r e
  refine ms_use ?_ e
  clear e r
  refine ms_iload_n (pc := 2) S 2 rfl rfl (m_dec e11_handLoses 2 rfl) ?_
  refine ms_aload_n (pc := 3) S 0 rfl rfl (m_dec e11_handLoses 3 rfl) ?_
  refine ms_grd fun g1 => ?_
  refine ms_getf (pc := 4) S lf_X11_275 rfl (m_dec e11_handLoses 4 rfl) g1 ?_
  refine ms_icmp_ge (pc := 7) S (m_dec e11_handLoses 5 rfl) rfl (fun q2 => ?_) (fun q2 => ?_)
  · refine ms_aload_n (pc := 10) S 0 rfl rfl (m_dec e11_handLoses 6 rfl) ?_
    refine ms_getf (pc := 11) S lf_X11_17 rfl (m_dec e11_handLoses 7 rfl) g1 ?_
    refine ms_iload_n (pc := 14) S 2 rfl rfl (m_dec e11_handLoses 8 rfl) ?_
    refine ms_iload_n (pc := 15) S 1 rfl rfl (m_dec e11_handLoses 9 rfl) ?_
    refine ms_isub (pc := 16) S (m_dec e11_handLoses 10 rfl) ?_
    refine ms_aload_n (pc := 17) S 0 rfl rfl (m_dec e11_handLoses 11 rfl) ?_
    refine ms_getf (pc := 18) S lf_X11_17 rfl (m_dec e11_handLoses 12 rfl) g1 ?_
    refine ms_iload_n (pc := 21) S 2 rfl rfl (m_dec e11_handLoses 13 rfl) ?_
    refine ms_grd fun g3 => ?_
    refine ms_iald (pc := 22) S g3 (m_dec e11_handLoses 14 rfl) ?_
    refine ms_grd fun g4 => ?_
    refine ms_iast (pc := 23) S g4 (m_dec e11_handLoses 15 rfl) (fun h5 => ?_)
    refine ms_iinc (pc := 24) S (L' := [(0, m_r v0), (1, m_i v1), (2, m_i (v2 + 1))]) 2 rfl [1, 2, 0] rfl (m_lt hN rfl) (m_dec e11_handLoses 16 rfl) ?_
    refine ms_goto (pc := 27) S (m_dec e11_handLoses 17 rfl) rfl ?_
    exact ih (v2 + 1) h5
  · refine ms_aload_n (pc := 30) S 0 rfl rfl (m_dec e11_handLoses 18 rfl) ?_
    refine ms_dup (pc := 31) S rfl (m_dec e11_handLoses 19 rfl) ?_
    refine ms_getf (pc := 32) S lf_X11_275 rfl (m_dec e11_handLoses 20 rfl) g1 ?_
    refine ms_iload_n (pc := 35) S 1 rfl rfl (m_dec e11_handLoses 21 rfl) ?_
    refine ms_isub (pc := 36) S (m_dec e11_handLoses 22 rfl) ?_
    refine ms_putf (pc := 37) S lp_X11_275 (fun z => by cases z) rfl (fun d => m_fitI d _) (m_dec e11_handLoses 23 rfl) g1 (fun h6 => ?_)
    exact ms_ret (pc := 40) E (m_dec e11_handLoses 24 rfl) rfl
set_option maxHeartbeats 4000000 in
set_option maxRecDepth 20000 in
theorem s11_handLoses {Y : m_Y Unit} (S : m_Std Y RX11 cX11_handLoses) (E : m_End Y cX11_handLoses .return_ (fun _ => [])) {F : Nat} (hF : m_Rm Y F) (hFn : 0 ≤ F) (hN : Y.2.2.2.1 = 3) (v0 v1 : Int) (h : m_H) : m_Sim Y 0 [(0, m_r v0), (1, m_i v1)] [] h (t11_handLoses v0 v1 h) := by
  unfold t11_handLoses
  refine ms_iload_n (pc := 0) S 1 rfl rfl (m_dec e11_handLoses 0 rfl) ?_
  refine ms_istore_n (pc := 1) S (L' := [(0, m_r v0), (1, m_i v1), (2, m_i v1)]) [1, 2, 0] rfl rfl (m_lt hN rfl) (m_dec e11_handLoses 1 rfl) ?_
  exact s11_handLoses_c2 S E hF hFn hN v0 v1 v1 h
theorem k11_handLoses (l : Launch) (d : m_D) (v0 v1 : Int) (h : m_H) : m_Con l d yX11_handLoses cX11_handLoses 3 none 0 (fun _ => []) [m_r v0, m_i v1] h (t11_handLoses v0 v1 h) :=
  m_con2 (by decide +kernel) (Nat.le_of_ble_eq_true rfl) (fun Y hN hRm hr hI S hfin => s11_handLoses S (m_end_v S hr hfin) hRm (Nat.le_refl _) hN v0 v1 h)
set_option maxRecDepth 100000 in
theorem e11_comes : ∀ q ∈ ([(0, .aload_n 0, 1), (1, .getfield 265, 3), (4, .istore 5, 2), (6, .aload_n 0, 1), (7, .getfield 20, 3), (10, .iload 5, 2), (12, .aload_n 0, 1), (13, .getfield 282, 3), (16, .iastore, 1), (17, .aload_n 0, 1), (18, .getfield 26, 3), (21, .iload 5, 2), (23, .iload_n 1, 1), (24, .iastore, 1), (25, .aload_n 0, 1), (26, .getfield 29, 3), (29, .iload 5, 2), (31, .iconst 0, 1), (32, .iastore, 1), (33, .aload_n 0, 1), (34, .getfield 32, 3), (37, .iload 5, 2), (39, .iload_n 2, 1), (40, .iconst (-1), 1), (41, .if_icmp .ne 7, 3), (44, .iconst 0, 1), (45, .goto 9, 3), (48, .aload_n 0, 1), (49, .getfield 32, 3), (52, .iload_n 2, 1), (53, .iaload, 1), (54, .iastore, 1), (55, .aload_n 0, 1), (56, .getfield 35, 3), (59, .iload 5, 2), (61, .iload_n 2, 1), (62, .iconst (-1), 1), (63, .if_icmp .ne 7, 3), (66, .iconst 0, 1), (67, .goto 9, 3), (70, .aload_n 0, 1), (71, .getfield 35, 3), (74, .iload_n 2, 1), (75, .iaload, 1), (76, .iastore, 1), (77, .aload_n 0, 1), (78, .getfield 38, 3), (81, .iload 5, 2), (83, .iload_n 2, 1), (84, .iconst (-1), 1), (85, .if_icmp .ne 7, 3), (88, .iconst 0, 1), (89, .goto 9, 3), (92, .aload_n 0, 1), (93, .getfield 38, 3), (96, .iload_n 2, 1), (97, .iaload, 1), (98, .iastore, 1), (99, .aload_n 0, 1), (100, .getfield 41, 3), (103, .iload 5, 2), (105, .iconst (-1), 1), (106, .iastore, 1), (107, .aload_n 0, 1), (108, .getfield 44, 3), (111, .iload 5, 2), (113, .aload_n 0, 1), (114, .getfield 285, 3), (117, .iastore, 1), (118, .aload_n 0, 1), (119, .getfield 47, 3), (122, .iload 5, 2), (124, .iload_n 2, 1), (125, .iastore, 1), (126, .aload_n 0, 1), (127, .getfield 50, 3), (130, .iload 5, 2), (132, .iload_n 3, 1), (133, .iastore, 1), (134, .aload_n 0, 1), (135, .getfield 53, 3), (138, .iload 5, 2), (140, .iload 4, 2), (142, .iastore, 1), (143, .aload_n 0, 1), (144, .getfield 23, 3), (147, .iload 5, 2), (149, .iconst 0, 1), (150, .iastore, 1), (151, .aload_n 0, 1), (152, .dup, 1), (153, .getfield 265, 3), (156, .iconst 1, 1), (157, .iadd, 1), (158, .putfield 265, 3), (161, .iload 5, 2), (163, .ireturn, 1)] : List (Nat × Instr × Nat)), decode cX11_comes q.1 = .ok q.2 := by decide +kernel
set_option maxHeartbeats 4000000 in
set_option maxRecDepth 20000 in
theorem s11_comes_c98 {Y : m_Y Int} (S : m_Std Y RX11 cX11_comes) (E : m_End Y cX11_comes .ireturn (fun r => [m_i r])) {F : Nat} (hF : m_Rm Y F) (hFn : 0 ≤ F) (hN : Y.2.2.2.1 = 6) (v0 v2 v3 v4 v5 s0 s1 s2 : Int) (h : m_H) : m_Sim Y 98 [(0, m_r v0), (2, m_i v2), (3, m_i v3), (4, m_i v4), (5, m_i v5)] [m_i s2, m_i s1, m_r s0] h (t11_comes_c98 v0 v2 v3 v4 v5 s0 s1 s2 h) := by
  unfold t11_comes_c98
  refine ms_grd fun g1 => ?_
  refine ms_iast (pc := 98) S g1 (m_dec e11_comes 57 rfl) (fun h2 => ?_)
  refine ms_aload_n (pc := 99) S 0 rfl rfl (m_dec e11_comes 58 rfl) ?_
  refine ms_grd fun g3 => ?_
  refine ms_getf (pc := 100) S lf_X11_41 rfl (m_dec e11_comes 59 rfl) g3 ?_
  refine ms_iload (pc := 103) S 4 rfl (m_dec e11_comes 60 rfl) ?_
  refine ms_iconst (pc := 105) S (m_dec e11_comes 61 rfl) ?_
  refine ms_grd fun g4 => ?_
  refine ms_iast (pc := 106) S g4 (m_dec e11_comes 62 rfl) (fun h5 => ?_)
  refine ms_aload_n (pc := 107) S 0 rfl rfl (m_dec e11_comes 63 rfl) ?_
  refine ms_grd fun g6 => ?_
  refine ms_getf (pc := 108) S lf_X11_44 rfl (m_dec e11_comes 64 rfl) g6 ?_
  refine ms_iload (pc := 111) S 4 rfl (m_dec e11_comes 65 rfl) ?_
  refine ms_aload_n (pc := 113) S 0 rfl rfl (m_dec e11_comes 66 rfl) ?_
  refine ms_getf (pc := 114) S lf_X11_285 rfl (m_dec e11_comes 67 rfl) g6 ?_
  refine ms_grd fun g7 => ?_
  refine ms_iast (pc := 117) S g7 (m_dec e11_comes 68 rfl) (fun h8 => ?_)
  refine ms_aload_n (pc := 118) S 0 rfl rfl (m_dec e11_comes 69 rfl) ?_
  refine ms_grd fun g9 => ?_
  refine ms_getf (pc := 119) S lf_X11_47 rfl (m_dec e11_comes 70 rfl) g9 ?_
  refine ms_iload (pc := 122) S 4 rfl (m_dec e11_comes 71 rfl) ?_
  refine ms_iload_n (pc := 124) S 1 rfl rfl (m_dec e11_comes 72 rfl) ?_
  refine ms_grd fun g10 => ?_
  refine ms_iast (pc := 125) S g10 (m_dec e11_comes 73 rfl) (fun h11 => ?_)
  refine ms_aload_n (pc := 126) S 0 rfl rfl (m_dec e11_comes 74 rfl) ?_
  refine ms_grd fun g12 => ?_
  refine ms_getf (pc := 127) S lf_X11_50 rfl (m_dec e11_comes 75 rfl) g12 ?_
  refine ms_iload (pc := 130) S 4 rfl (m_dec e11_comes 76 rfl) ?_
  refine ms_iload_n (pc := 132) S 2 rfl rfl (m_dec e11_comes 77 rfl) ?_
  refine ms_grd fun g13 => ?_
  refine ms_iast (pc := 133) S g13 (m_dec e11_comes 78 rfl) (fun h14 => ?_)
  refine ms_aload_n (pc := 134) S 0 rfl rfl (m_dec e11_comes 79 rfl) ?_
  refine ms_grd fun g15 => ?_
  refine ms_getf (pc := 135) S lf_X11_53 rfl (m_dec e11_comes 80 rfl) g15 ?_
  refine ms_iload (pc := 138) S 4 rfl (m_dec e11_comes 81 rfl) ?_
  refine ms_iload (pc := 140) S 3 rfl (m_dec e11_comes 82 rfl) ?_
  refine ms_grd fun g16 => ?_
  refine ms_iast (pc := 142) S g16 (m_dec e11_comes 83 rfl) (fun h17 => ?_)
  refine ms_aload_n (pc := 143) S 0 rfl rfl (m_dec e11_comes 84 rfl) ?_
  refine ms_grd fun g18 => ?_
  refine ms_getf (pc := 144) S lf_X11_23 rfl (m_dec e11_comes 85 rfl) g18 ?_
  refine ms_iload (pc := 147) S 4 rfl (m_dec e11_comes 86 rfl) ?_
  refine ms_iconst (pc := 149) S (m_dec e11_comes 87 rfl) ?_
  refine ms_grd fun g19 => ?_
  refine ms_iast (pc := 150) S g19 (m_dec e11_comes 88 rfl) (fun h20 => ?_)
  refine ms_aload_n (pc := 151) S 0 rfl rfl (m_dec e11_comes 89 rfl) ?_
  refine ms_dup (pc := 152) S rfl (m_dec e11_comes 90 rfl) ?_
  refine ms_grd fun g21 => ?_
  refine ms_getf (pc := 153) S lf_X11_265 rfl (m_dec e11_comes 91 rfl) g21 ?_
  refine ms_iconst (pc := 156) S (m_dec e11_comes 92 rfl) ?_
  refine ms_iadd (pc := 157) S (m_dec e11_comes 93 rfl) ?_
  refine ms_putf (pc := 158) S lp_X11_265 (fun z => by cases z) rfl (fun d => m_fitI d _) (m_dec e11_comes 94 rfl) g21 (fun h22 => ?_)
  refine ms_iload (pc := 161) S 4 rfl (m_dec e11_comes 95 rfl) ?_
  exact ms_ret (pc := 163) E (m_dec e11_comes 96 rfl) rfl
set_option maxHeartbeats 4000000 in
set_option maxRecDepth 20000 in
theorem s11_comes_c76 {Y : m_Y Int} (S : m_Std Y RX11 cX11_comes) (E : m_End Y cX11_comes .ireturn (fun r => [m_i r])) {F : Nat} (hF : m_Rm Y F) (hFn : 0 ≤ F) (hN : Y.2.2.2.1 = 6) (v0 v2 v3 v4 v5 s0 s1 s2 : Int) (h : m_H) : m_Sim Y 76 [(0, m_r v0), (2, m_i v2), (3, m_i v3), (4, m_i v4), (5, m_i v5)] [m_i s2, m_i s1, m_r s0] h (t11_comes_c76 v0 v2 v3 v4 v5 s0 s1 s2 h) := by
  unfold t11_comes_c76
  refine ms_grd fun g1 => ?_
  refine ms_iast (pc := 76) S g1 (m_dec e11_comes 44 rfl) (fun h2 => ?_)
  refine ms_aload_n (pc := 77) S 0 rfl rfl (m_dec e11_comes 45 rfl) ?_
  refine ms_grd fun g3 => ?_
  refine ms_getf (pc := 78) S lf_X11_38 rfl (m_dec e11_comes 46 rfl) g3 ?_
  refine ms_iload (pc := 81) S 4 rfl (m_dec e11_comes 47 rfl) ?_
  refine ms_iload_n (pc := 83) S 1 rfl rfl (m_dec e11_comes 48 rfl) ?_
  refine ms_iconst (pc := 84) S (m_dec e11_comes 49 rfl) ?_
  refine ms_icmp_ne (pc := 85) S (m_dec e11_comes 50 rfl) rfl (fun q4 => ?_) (fun q4 => ?_)
  · refine ms_iconst (pc := 88) S (m_dec e11_comes 51 rfl) ?_
    refine ms_goto (pc := 89) S (m_dec e11_comes 52 rfl) rfl ?_
    exact s11_comes_c98 S E hF hFn hN v0 v2 v3 v4 v5 (m_g h2 v0 8) v5 0 h2
  · refine ms_aload_n (pc := 92) S 0 rfl rfl (m_dec e11_comes 53 rfl) ?_
    refine ms_getf (pc := 93) S lf_X11_38 rfl (m_dec e11_comes 54 rfl) g3 ?_
    refine ms_iload_n (pc := 96) S 1 rfl rfl (m_dec e11_comes 55 rfl) ?_
    refine ms_grd fun g5 => ?_
    refine ms_iald (pc := 97) S g5 (m_dec e11_comes 56 rfl) ?_
    exact s11_comes_c98 S E hF hFn hN v0 v2 v3 v4 v5 (m_g h2 v0 8) v5 (m_g h2 (m_g h2 v0 8) (m_w v2)) h2
set_option maxHeartbeats 4000000 in
set_option maxRecDepth 20000 in
theorem s11_comes_c54 {Y : m_Y Int} (S : m_Std Y RX11 cX11_comes) (E : m_End Y cX11_comes .ireturn (fun r => [m_i r])) {F : Nat} (hF : m_Rm Y F) (hFn : 0 ≤ F) (hN : Y.2.2.2.1 = 6) (v0 v2 v3 v4 v5 s0 s1 s2 : Int) (h : m_H) : m_Sim Y 54 [(0, m_r v0), (2, m_i v2), (3, m_i v3), (4, m_i v4), (5, m_i v5)] [m_i s2, m_i s1, m_r s0] h (t11_comes_c54 v0 v2 v3 v4 v5 s0 s1 s2 h) := by
  unfold t11_comes_c54
  refine ms_grd fun g1 => ?_
  refine ms_iast (pc := 54) S g1 (m_dec e11_comes 31 rfl) (fun h2 => ?_)
  refine ms_aload_n (pc := 55) S 0 rfl rfl (m_dec e11_comes 32 rfl) ?_
  refine ms_grd fun g3 => ?_
  refine ms_getf (pc := 56) S lf_X11_35 rfl (m_dec e11_comes 33 rfl) g3 ?_
  refine ms_iload (pc := 59) S 4 rfl (m_dec e11_comes 34 rfl) ?_
  refine ms_iload_n (pc := 61) S 1 rfl rfl (m_dec e11_comes 35 rfl) ?_
  refine ms_iconst (pc := 62) S (m_dec e11_comes 36 rfl) ?_
  refine ms_icmp_ne (pc := 63) S (m_dec e11_comes 37 rfl) rfl (fun q4 => ?_) (fun q4 => ?_)
  · refine ms_iconst (pc := 66) S (m_dec e11_comes 38 rfl) ?_
    refine ms_goto (pc := 67) S (m_dec e11_comes 39 rfl) rfl ?_
    exact s11_comes_c76 S E hF hFn hN v0 v2 v3 v4 v5 (m_g h2 v0 7) v5 0 h2
  · refine ms_aload_n (pc := 70) S 0 rfl rfl (m_dec e11_comes 40 rfl) ?_
    refine ms_getf (pc := 71) S lf_X11_35 rfl (m_dec e11_comes 41 rfl) g3 ?_
    refine ms_iload_n (pc := 74) S 1 rfl rfl (m_dec e11_comes 42 rfl) ?_
    refine ms_grd fun g5 => ?_
    refine ms_iald (pc := 75) S g5 (m_dec e11_comes 43 rfl) ?_
    exact s11_comes_c76 S E hF hFn hN v0 v2 v3 v4 v5 (m_g h2 v0 7) v5 (m_g h2 (m_g h2 v0 7) (m_w v2)) h2
set_option maxHeartbeats 4000000 in
set_option maxRecDepth 20000 in
theorem s11_comes {Y : m_Y Int} (S : m_Std Y RX11 cX11_comes) (E : m_End Y cX11_comes .ireturn (fun r => [m_i r])) {F : Nat} (hF : m_Rm Y F) (hFn : 0 ≤ F) (hN : Y.2.2.2.1 = 6) (v0 v1 v2 v3 v4 : Int) (h : m_H) : m_Sim Y 0 [(0, m_r v0), (1, m_i v1), (2, m_i v2), (3, m_i v3), (4, m_i v4)] [] h (t11_comes v0 v1 v2 v3 v4 h) := by
  unfold t11_comes
  refine ms_aload_n (pc := 0) S 0 rfl rfl (m_dec e11_comes 0 rfl) ?_
  refine ms_grd fun g1 => ?_
  refine ms_getf (pc := 1) S lf_X11_265 rfl (m_dec e11_comes 1 rfl) g1 ?_
  refine ms_nm (st := fun x2 => [m_i x2]) fun x2 => ?_
  refine ms_istore (pc := 4) S (L' := [(0, m_r v0), (1, m_i v1), (2, m_i v2), (3, m_i v3), (4, m_i v4), (5, m_i x2)]) [1, 2, 3, 4, 5, 0] rfl (m_lt hN rfl) (m_dec e11_comes 2 rfl) ?_
  refine ms_aload_n (pc := 6) S 0 rfl rfl (m_dec e11_comes 3 rfl) ?_
  refine ms_getf (pc := 7) S lf_X11_20 rfl (m_dec e11_comes 4 rfl) g1 ?_
  refine ms_iload (pc := 10) S 5 rfl (m_dec e11_comes 5 rfl) ?_
  refine ms_aload_n (pc := 12) S 0 rfl rfl (m_dec e11_comes 6 rfl) ?_
  refine ms_getf (pc := 13) S lf_X11_282 rfl (m_dec e11_comes 7 rfl) g1 ?_
  refine ms_grd fun g3 => ?_
  refine ms_iast (pc := 16) S g3 (m_dec e11_comes 8 rfl) (fun h4 => ?_)
  refine ms_aload_n (pc := 17) S 0 rfl rfl (m_dec e11_comes 9 rfl) ?_
  refine ms_grd fun g5 => ?_
  refine ms_getf (pc := 18) S lf_X11_26 rfl (m_dec e11_comes 10 rfl) g5 ?_
  refine ms_iload (pc := 21) S 5 rfl (m_dec e11_comes 11 rfl) ?_
  refine ms_iload_n (pc := 23) S 1 rfl rfl (m_dec e11_comes 12 rfl) ?_
  refine ms_grd fun g6 => ?_
  refine ms_iast (pc := 24) S g6 (m_dec e11_comes 13 rfl) (fun h7 => ?_)
  refine ms_aload_n (pc := 25) S 0 rfl rfl (m_dec e11_comes 14 rfl) ?_
  refine ms_grd fun g8 => ?_
  refine ms_getf (pc := 26) S lf_X11_29 rfl (m_dec e11_comes 15 rfl) g8 ?_
  refine ms_iload (pc := 29) S 5 rfl (m_dec e11_comes 16 rfl) ?_
  refine ms_iconst (pc := 31) S (m_dec e11_comes 17 rfl) ?_
  refine ms_grd fun g9 => ?_
  refine ms_iast (pc := 32) S g9 (m_dec e11_comes 18 rfl) (fun h10 => ?_)
  refine ms_aload_n (pc := 33) S 0 rfl rfl (m_dec e11_comes 19 rfl) ?_
  refine ms_grd fun g11 => ?_
  refine ms_getf (pc := 34) S lf_X11_32 rfl (m_dec e11_comes 20 rfl) g11 ?_
  refine ms_iload (pc := 37) S 5 rfl (m_dec e11_comes 21 rfl) ?_
  refine ms_iload_n (pc := 39) S 2 rfl rfl (m_dec e11_comes 22 rfl) ?_
  refine ms_iconst (pc := 40) S (m_dec e11_comes 23 rfl) ?_
  refine ms_icmp_ne (pc := 41) S (m_dec e11_comes 24 rfl) rfl (fun q12 => ?_) (fun q12 => ?_)
  · refine ms_iconst (pc := 44) S (m_dec e11_comes 25 rfl) ?_
    refine ms_goto (pc := 45) S (m_dec e11_comes 26 rfl) rfl ?_
    refine ms_sub (pc := 54) (L' := [(0, m_r v0), (2, m_i v2), (3, m_i v3), (4, m_i v4), (5, m_i x2)]) [0, 2, 3, 4, 5] rfl ?_
    exact s11_comes_c54 S E hF hFn hN v0 v2 v3 v4 x2 (m_g h10 v0 6) x2 0 h10
  · refine ms_aload_n (pc := 48) S 0 rfl rfl (m_dec e11_comes 27 rfl) ?_
    refine ms_getf (pc := 49) S lf_X11_32 rfl (m_dec e11_comes 28 rfl) g11 ?_
    refine ms_iload_n (pc := 52) S 2 rfl rfl (m_dec e11_comes 29 rfl) ?_
    refine ms_grd fun g13 => ?_
    refine ms_iald (pc := 53) S g13 (m_dec e11_comes 30 rfl) ?_
    refine ms_sub (pc := 54) (L' := [(0, m_r v0), (2, m_i v2), (3, m_i v3), (4, m_i v4), (5, m_i x2)]) [0, 2, 3, 4, 5] rfl ?_
    exact s11_comes_c54 S E hF hFn hN v0 v2 v3 v4 x2 (m_g h10 v0 6) x2 (m_g h10 (m_g h10 v0 6) (m_w v2)) h10
theorem k11_comes (l : Launch) (d : m_D) (v0 v1 v2 v3 v4 : Int) (h : m_H) : m_Con l d yX11_comes cX11_comes 6 (some .int) 0 (fun r => [m_i r]) [m_r v0, m_i v1, m_i v2, m_i v3, m_i v4] h (t11_comes v0 v1 v2 v3 v4 h) :=
  m_con2 (by decide +kernel) (Nat.le_of_ble_eq_true rfl) (fun Y hN hRm hr hI S hfin => s11_comes S (m_end_i S hr hfin) hRm (Nat.le_refl _) hN v0 v1 v2 v3 v4 h)
set_option maxRecDepth 100000 in
theorem e11_adds : ∀ q ∈ ([(0, .aload_n 0, 1), (1, .getfield 13, 3), (4, .aload_n 0, 1), (5, .getfield 282, 3), (8, .iload_n 2, 1), (9, .iastore, 1), (10, .aload_n 0, 1), (11, .dup, 1), (12, .getfield 282, 3), (15, .iconst 1, 1), (16, .iadd, 1), (17, .putfield 282, 3), (20, .aload_n 0, 1), (21, .getfield 23, 3), (24, .iload_n 1, 1), (25, .dup2, 1), (26, .iaload, 1), (27, .iconst 1, 1), (28, .iadd, 1), (29, .iastore, 1), (30, .return_, 1)] : List (Nat × Instr × Nat)), decode cX11_adds q.1 = .ok q.2 := by decide +kernel
set_option maxHeartbeats 4000000 in
set_option maxRecDepth 20000 in
theorem s11_adds {Y : m_Y Unit} (S : m_Std Y RX11 cX11_adds) (E : m_End Y cX11_adds .return_ (fun _ => [])) {F : Nat} (hF : m_Rm Y F) (hFn : 0 ≤ F) (hN : Y.2.2.2.1 = 3) (v0 v1 v2 : Int) (h : m_H) : m_Sim Y 0 [(0, m_r v0), (1, m_i v1), (2, m_i v2)] [] h (t11_adds v0 v1 v2 h) := by
  unfold t11_adds
  refine ms_aload_n (pc := 0) S 0 rfl rfl (m_dec e11_adds 0 rfl) ?_
  refine ms_grd fun g1 => ?_
  refine ms_getf (pc := 1) S lf_X11_13 rfl (m_dec e11_adds 1 rfl) g1 ?_
  refine ms_aload_n (pc := 4) S 0 rfl rfl (m_dec e11_adds 2 rfl) ?_
  refine ms_getf (pc := 5) S lf_X11_282 rfl (m_dec e11_adds 3 rfl) g1 ?_
  refine ms_iload_n (pc := 8) S 2 rfl rfl (m_dec e11_adds 4 rfl) ?_
  refine ms_grd fun g2 => ?_
  refine ms_iast (pc := 9) S g2 (m_dec e11_adds 5 rfl) (fun h3 => ?_)
  refine ms_aload_n (pc := 10) S 0 rfl rfl (m_dec e11_adds 6 rfl) ?_
  refine ms_dup (pc := 11) S rfl (m_dec e11_adds 7 rfl) ?_
  refine ms_grd fun g4 => ?_
  refine ms_getf (pc := 12) S lf_X11_282 rfl (m_dec e11_adds 8 rfl) g4 ?_
  refine ms_iconst (pc := 15) S (m_dec e11_adds 9 rfl) ?_
  refine ms_iadd (pc := 16) S (m_dec e11_adds 10 rfl) ?_
  refine ms_putf (pc := 17) S lp_X11_282 (fun z => by cases z) rfl (fun d => m_fitI d _) (m_dec e11_adds 11 rfl) g4 (fun h5 => ?_)
  refine ms_aload_n (pc := 20) S 0 rfl rfl (m_dec e11_adds 12 rfl) ?_
  refine ms_grd fun g6 => ?_
  refine ms_getf (pc := 21) S lf_X11_23 rfl (m_dec e11_adds 13 rfl) g6 ?_
  refine ms_iload_n (pc := 24) S 1 rfl rfl (m_dec e11_adds 14 rfl) ?_
  refine ms_dup2 (pc := 25) S rfl rfl (m_dec e11_adds 15 rfl) ?_
  refine ms_grd fun g7 => ?_
  refine ms_iald (pc := 26) S g7 (m_dec e11_adds 16 rfl) ?_
  refine ms_iconst (pc := 27) S (m_dec e11_adds 17 rfl) ?_
  refine ms_iadd (pc := 28) S (m_dec e11_adds 18 rfl) ?_
  refine ms_iast (pc := 29) S g7 (m_dec e11_adds 19 rfl) (fun h8 => ?_)
  exact ms_ret (pc := 30) E (m_dec e11_adds 20 rfl) rfl
theorem k11_adds (l : Launch) (d : m_D) (v0 v1 v2 : Int) (h : m_H) : m_Con l d yX11_adds cX11_adds 3 none 0 (fun _ => []) [m_r v0, m_i v1, m_i v2] h (t11_adds v0 v1 v2 h) :=
  m_con2 (by decide +kernel) (Nat.le_of_ble_eq_true rfl) (fun Y hN hRm hr hI S hfin => s11_adds S (m_end_v S hr hfin) hRm (Nat.le_refl _) hN v0 v1 v2 h)
set_option maxRecDepth 100000 in
theorem e11_isRoom : ∀ q ∈ ([(0, .aload_n 0, 1), (1, .getfield 265, 3), (4, .iload_n 1, 1), (5, .iadd, 1), (6, .bipush 100, 2), (8, .if_icmp .gt 19, 3), (11, .aload_n 0, 1), (12, .getfield 282, 3), (15, .iload_n 2, 1), (16, .iadd, 1), (17, .sipush 20000, 3), (20, .if_icmp .gt 7, 3), (23, .iconst 1, 1), (24, .goto 4, 3), (27, .iconst 0, 1), (28, .ireturn, 1)] : List (Nat × Instr × Nat)), decode cX11_isRoom q.1 = .ok q.2 := by decide +kernel
set_option maxHeartbeats 4000000 in
set_option maxRecDepth 20000 in
theorem s11_isRoom {Y : m_Y Bool} (S : m_Std Y RX11 cX11_isRoom) (E : m_End Y cX11_isRoom .ireturn (fun r => [m_i (m_b2i r)])) {F : Nat} (hF : m_Rm Y F) (hFn : 0 ≤ F) (hN : Y.2.2.2.1 = 3) (v0 v1 v2 : Int) (h : m_H) : m_Sim Y 0 [(0, m_r v0), (1, m_i v1), (2, m_i v2)] [] h (t11_isRoom v0 v1 v2 h) := by
  unfold t11_isRoom
  refine ms_aload_n (pc := 0) S 0 rfl rfl (m_dec e11_isRoom 0 rfl) ?_
  refine ms_grd fun g1 => ?_
  refine ms_getf (pc := 1) S lf_X11_265 rfl (m_dec e11_isRoom 1 rfl) g1 ?_
  refine ms_iload_n (pc := 4) S 1 rfl rfl (m_dec e11_isRoom 2 rfl) ?_
  refine ms_iadd (pc := 5) S (m_dec e11_isRoom 3 rfl) ?_
  refine ms_bipush (pc := 6) S (m_dec e11_isRoom 4 rfl) rfl ?_
  refine ms_icmp_gt (pc := 8) S (m_dec e11_isRoom 5 rfl) rfl (fun q2 => ?_) (fun q2 => ?_)
  · refine ms_iconst (pc := 27) S (m_dec e11_isRoom 14 rfl) ?_
    exact ms_ret (pc := 28) E (m_dec e11_isRoom 15 rfl) rfl
  · refine ms_aload_n (pc := 11) S 0 rfl rfl (m_dec e11_isRoom 6 rfl) ?_
    refine ms_getf (pc := 12) S lf_X11_282 rfl (m_dec e11_isRoom 7 rfl) g1 ?_
    refine ms_iload_n (pc := 15) S 2 rfl rfl (m_dec e11_isRoom 8 rfl) ?_
    refine ms_iadd (pc := 16) S (m_dec e11_isRoom 9 rfl) ?_
    refine ms_sipush (pc := 17) S (m_dec e11_isRoom 10 rfl) rfl ?_
    refine ms_icmp_gt (pc := 20) S (m_dec e11_isRoom 11 rfl) rfl (fun q3 => ?_) (fun q3 => ?_)
    · refine ms_iconst (pc := 27) S (m_dec e11_isRoom 14 rfl) ?_
      exact ms_ret (pc := 28) E (m_dec e11_isRoom 15 rfl) rfl
    · refine ms_iconst (pc := 23) S (m_dec e11_isRoom 12 rfl) ?_
      refine ms_goto (pc := 24) S (m_dec e11_isRoom 13 rfl) rfl ?_
      exact ms_ret (pc := 28) E (m_dec e11_isRoom 15 rfl) rfl
theorem k11_isRoom (l : Launch) (d : m_D) (v0 v1 v2 : Int) (h : m_H) : m_Con l d yX11_isRoom cX11_isRoom 3 (some .boolean) 0 (fun r => [m_i (m_b2i r)]) [m_r v0, m_i v1, m_i v2] h (t11_isRoom v0 v1 v2 h) :=
  m_con2 (by decide +kernel) (Nat.le_of_ble_eq_true rfl) (fun Y hN hRm hr hI S hfin => s11_isRoom S (m_end_z S hr hfin) hRm (Nat.le_refl _) hN v0 v1 v2 h)
set_option maxRecDepth 100000 in
theorem e11_uses : ∀ q ∈ ([(0, .aload_n 0, 1), (1, .getfield 29, 3), (4, .iload_n 1, 1), (5, .iload_n 2, 1), (6, .iastore, 1), (7, .aload_n 0, 1), (8, .getfield 41, 3), (11, .iload_n 1, 1), (12, .iconst (-1), 1), (13, .iastore, 1), (14, .return_, 1)] : List (Nat × Instr × Nat)), decode cX11_uses q.1 = .ok q.2 := by decide +kernel
set_option maxHeartbeats 4000000 in
set_option maxRecDepth 20000 in
theorem s11_uses {Y : m_Y Unit} (S : m_Std Y RX11 cX11_uses) (E : m_End Y cX11_uses .return_ (fun _ => [])) {F : Nat} (hF : m_Rm Y F) (hFn : 0 ≤ F) (hN : Y.2.2.2.1 = 3) (v0 v1 v2 : Int) (h : m_H) : m_Sim Y 0 [(0, m_r v0), (1, m_i v1), (2, m_i v2)] [] h (t11_uses v0 v1 v2 h) := by
  unfold t11_uses
  refine ms_aload_n (pc := 0) S 0 rfl rfl (m_dec e11_uses 0 rfl) ?_
  refine ms_grd fun g1 => ?_
  refine ms_getf (pc := 1) S lf_X11_29 rfl (m_dec e11_uses 1 rfl) g1 ?_
  refine ms_iload_n (pc := 4) S 1 rfl rfl (m_dec e11_uses 2 rfl) ?_
  refine ms_iload_n (pc := 5) S 2 rfl rfl (m_dec e11_uses 3 rfl) ?_
  refine ms_grd fun g2 => ?_
  refine ms_iast (pc := 6) S g2 (m_dec e11_uses 4 rfl) (fun h3 => ?_)
  refine ms_aload_n (pc := 7) S 0 rfl rfl (m_dec e11_uses 5 rfl) ?_
  refine ms_grd fun g4 => ?_
  refine ms_getf (pc := 8) S lf_X11_41 rfl (m_dec e11_uses 6 rfl) g4 ?_
  refine ms_iload_n (pc := 11) S 1 rfl rfl (m_dec e11_uses 7 rfl) ?_
  refine ms_iconst (pc := 12) S (m_dec e11_uses 8 rfl) ?_
  refine ms_grd fun g5 => ?_
  refine ms_iast (pc := 13) S g5 (m_dec e11_uses 9 rfl) (fun h6 => ?_)
  exact ms_ret (pc := 14) E (m_dec e11_uses 10 rfl) rfl
theorem k11_uses (l : Launch) (d : m_D) (v0 v1 v2 : Int) (h : m_H) : m_Con l d yX11_uses cX11_uses 3 none 0 (fun _ => []) [m_r v0, m_i v1, m_i v2] h (t11_uses v0 v1 v2 h) :=
  m_con2 (by decide +kernel) (Nat.le_of_ble_eq_true rfl) (fun Y hN hRm hr hI S hfin => s11_uses S (m_end_v S hr hfin) hRm (Nat.le_refl _) hN v0 v1 v2 h)
set_option maxRecDepth 100000 in
theorem e11_at : ∀ q ∈ ([(0, .aload_n 0, 1), (1, .getfield 13, 3), (4, .aload_n 0, 1), (5, .getfield 20, 3), (8, .iload_n 1, 1), (9, .iaload, 1), (10, .iload_n 2, 1), (11, .iadd, 1), (12, .iaload, 1), (13, .ireturn, 1)] : List (Nat × Instr × Nat)), decode cX11_at q.1 = .ok q.2 := by decide +kernel
set_option maxHeartbeats 4000000 in
set_option maxRecDepth 20000 in
theorem s11_at {Y : m_Y Int} (S : m_Std Y RX11 cX11_at) (E : m_End Y cX11_at .ireturn (fun r => [m_i r])) {F : Nat} (hF : m_Rm Y F) (hFn : 0 ≤ F) (hN : Y.2.2.2.1 = 3) (v0 v1 v2 : Int) (h : m_H) : m_Sim Y 0 [(0, m_r v0), (1, m_i v1), (2, m_i v2)] [] h (t11_at v0 v1 v2 h) := by
  unfold t11_at
  refine ms_aload_n (pc := 0) S 0 rfl rfl (m_dec e11_at 0 rfl) ?_
  refine ms_grd fun g1 => ?_
  refine ms_getf (pc := 1) S lf_X11_13 rfl (m_dec e11_at 1 rfl) g1 ?_
  refine ms_aload_n (pc := 4) S 0 rfl rfl (m_dec e11_at 2 rfl) ?_
  refine ms_getf (pc := 5) S lf_X11_20 rfl (m_dec e11_at 3 rfl) g1 ?_
  refine ms_iload_n (pc := 8) S 1 rfl rfl (m_dec e11_at 4 rfl) ?_
  refine ms_grd fun g2 => ?_
  refine ms_iald (pc := 9) S g2 (m_dec e11_at 5 rfl) ?_
  refine ms_iload_n (pc := 10) S 2 rfl rfl (m_dec e11_at 6 rfl) ?_
  refine ms_iadd (pc := 11) S (m_dec e11_at 7 rfl) ?_
  refine ms_grd fun g3 => ?_
  refine ms_iald (pc := 12) S g3 (m_dec e11_at 8 rfl) ?_
  exact ms_ret (pc := 13) E (m_dec e11_at 9 rfl) rfl
theorem k11_at (l : Launch) (d : m_D) (v0 v1 v2 : Int) (h : m_H) : m_Con l d yX11_at cX11_at 3 (some .int) 0 (fun r => [m_i r]) [m_r v0, m_i v1, m_i v2] h (t11_at v0 v1 v2 h) :=
  m_con2 (by decide +kernel) (Nat.le_of_ble_eq_true rfl) (fun Y hN hRm hr hI S hfin => s11_at S (m_end_i S hr hfin) hRm (Nat.le_refl _) hN v0 v1 v2 h)
set_option maxRecDepth 100000 in
theorem e11_strip : ∀ q ∈ ([(0, .iload_n 1, 1), (1, .i2l, 1), (2, .lconst 1, 1), (3, .aload_n 0, 1), (4, .getfield 275, 3), (7, .i2l, 1), (8, .invokestatic 268, 3), (11, .ifCond .eq 12, 3), (14, .aload_n 0, 1), (15, .iconst 1, 1), (16, .iload_n 1, 1), (17, .invokevirtual 288, 3), (20, .ifCond .ne 5, 3), (23, .iconst (-1), 1), (24, .ireturn, 1), (25, .aload_n 0, 1), (26, .iconst 0, 1), (27, .iconst (-1), 1), (28, .iconst (-1), 1), (29, .iconst 0, 1), (30, .invokevirtual 292, 3), (33, .istore_n 2, 1), (34, .iconst 0, 1), (35, .istore_n 3, 1), (36, .iload_n 3, 1), (37, .iload_n 1, 1), (38, .if_icmp .ge 20, 3), (41, .aload_n 0, 1), (42, .iload_n 2, 1), (43, .aload_n 0, 1), (44, .getfield 17, 3), (47, .iload_n 3, 1), (48, .iaload, 1), (49, .invokevirtual 296, 3), (52, .iinc 3 1, 3), (55, .goto (-19), 3), (58, .aload_n 0, 1), (59, .iload_n 1, 1), (60, .invokevirtual 300, 3), (63, .iload_n 2, 1), (64, .ireturn, 1)] : List (Nat × Instr × Nat)), decode cX11_strip q.1 = .ok q.2 := by decide +kernel
set_option maxHeartbeats 4000000 in
set_option maxRecDepth 20000 in
theorem s11_strip_c36 {Y : m_Y Int} (S : m_Std Y RX11 cX11_strip) (E : m_End Y cX11_strip .ireturn (fun r => [m_i r])) {F : Nat} (hF : m_Rm Y F) (hFn : 1 ≤ F) (hN : Y.2.2.2.1 = 4) : ∀ (v0 v1 v2 v3 : Int) (h : m_H), m_Sim Y 36 [(0, m_r v0), (1, m_i v1), (2, m_i v2), (3, m_i v3)] [] h (t11_strip_c36 v0 v1 v2 v3 h) := by
  intro v0 v1 v2 v3 h
  refine ms_all fun r e => ?_
  refine t11_strip_c36.partial_correctness v0 v1 v2 (motive := fun v3 h r => m_Sim Y 36 [(0, m_r v0), (1, m_i v1), (2, m_i v2), (3, m_i v3)] [] h (some r)) ?_ v3 h r e
  intro f ih v3 h r e
  have ih : ∀ (v3 : Int) (h : m_H), m_Sim Y 36 [(0, m_r v0), (1, m_i v1), (2, m_i v2), (3, m_i v3)] [] h (f v3 h ) := fun v3 h  => ms_all fun r e => ih v3 h r e
  refine ms_use ?_ e
  clear e r
  refine ms_iload_n (pc := 36) S 3 rfl rfl (m_dec e11_strip 24 rfl) ?_
  refine ms_iload_n (pc := 37) S 1 rfl rfl (m_dec e11_strip 25 rfl) ?_
  refine ms_icmp_ge (pc := 38) S (m_dec e11_strip 26 rfl) rfl (fun q1 => ?_) (fun q1 => ?_)
  · refine ms_aload_n (pc := 41) S 0 rfl rfl (m_dec e11_strip 27 rfl) ?_
    refine ms_iload_n (pc := 42) S 2 rfl rfl (m_dec e11_strip 28 rfl) ?_
    refine ms_aload_n (pc := 43) S 0 rfl rfl (m_dec e11_strip 29 rfl) ?_
    refine ms_grd fun g2 => ?_
    refine ms_getf (pc := 44) S lf_X11_17 rfl (m_dec e11_strip 30 rfl) g2 ?_
    refine ms_iload_n (pc := 47) S 3 rfl rfl (m_dec e11_strip 31 rfl) ?_
    refine ms_grd fun g3 => ?_
    refine ms_iald (pc := 48) S g3 (m_dec e11_strip 32 rfl) ?_
    refine ms_callVv (pc := 49) S hF (vals := [m_i v2, m_i (m_g h (m_g h v0 1) (m_w v3))]) (st := []) (hc := vw_11) (hci := by decide) (hcy := rfl) (ht := g2) (hC := (k11_adds _ _ v0 v2 (m_g h (m_g h v0 1) (m_w v3)) h)) (hM := lm_X11_296) (hfr := (Nat.le_trans (by decide) hFn)) (hstk := rfl) (hcat := Nat.le_of_ble_eq_true rfl) (hd := (m_dec e11_strip 33 rfl)) (k1 := fun h4 => ?_)
    refine ms_iinc (pc := 52) S (L' := [(0, m_r v0), (1, m_i v1), (2, m_i v2), (3, m_i (v3 + 1))]) 3 rfl [1, 2, 3, 0] rfl (m_lt hN rfl) (m_dec e11_strip 34 rfl) ?_
    refine ms_goto (pc := 55) S (m_dec e11_strip 35 rfl) rfl ?_
    exact ih (v3 + 1) h4
  · refine ms_aload_n (pc := 58) S 0 rfl rfl (m_dec e11_strip 36 rfl) ?_
    refine ms_iload_n (pc := 59) S 1 rfl rfl (m_dec e11_strip 37 rfl) ?_
    refine ms_grd fun g6 => ?_
    refine ms_callVv (pc := 60) S hF (vals := [m_i v1]) (st := []) (hc := vw_11) (hci := by decide) (hcy := rfl) (ht := g6) (hC := (k11_handLoses _ _ v0 v1 h)) (hM := lm_X11_300) (hfr := (Nat.le_trans (by decide) hFn)) (hstk := rfl) (hcat := Nat.le_of_ble_eq_true rfl) (hd := (m_dec e11_strip 38 rfl)) (k1 := fun h7 => ?_)
    refine ms_iload_n (pc := 63) S 2 rfl rfl (m_dec e11_strip 39 rfl) ?_
    exact ms_ret (pc := 64) E (m_dec e11_strip 40 rfl) rfl
set_option maxHeartbeats 4000000 in
set_option maxRecDepth 20000 in
theorem s11_strip {Y : m_Y Int} (S : m_Std Y RX11 cX11_strip) (E : m_End Y cX11_strip .ireturn (fun r => [m_i r])) {F : Nat} (hF : m_Rm Y F) (hFn : 1 ≤ F) (hN : Y.2.2.2.1 = 4) (v0 v1 : Int) (h : m_H) : m_Sim Y 0 [(0, m_r v0), (1, m_i v1)] [] h (t11_strip v0 v1 h) := by
  unfold t11_strip
  refine ms_iload_n (pc := 0) S 1 rfl rfl (m_dec e11_strip 0 rfl) ?_
  refine ms_i2l (pc := 1) S (m_dec e11_strip 1 rfl) ?_
  refine ms_lconst (pc := 2) S (n := 1) rfl (m_dec e11_strip 2 rfl) ?_
  refine ms_aload_n (pc := 3) S 0 rfl rfl (m_dec e11_strip 3 rfl) ?_
  refine ms_grd fun g1 => ?_
  refine ms_getf (pc := 4) S lf_X11_275 rfl (m_dec e11_strip 4 rfl) g1 ?_
  refine ms_i2l (pc := 7) S (m_dec e11_strip 5 rfl) ?_
  refine ms_callSz (pc := 8) S hF (vals := [m_j (m_w v1), m_j 1, m_j (m_w (m_g h v0 16))]) (st := [])  (hC := (k11_in _ _ (m_w v1) 1 (m_w (m_g h v0 16)) h)) (hM := lm_X11_268) (hfr := (Nat.le_trans (by decide) hFn)) (hstk := rfl) (hcat := Nat.le_of_ble_eq_true rfl) (hd := (m_dec e11_strip 6 rfl)) (k1 := fun r3 h2 => ?_)
  refine ms_ifb_eq (pc := 11) S (m_dec e11_strip 7 rfl) rfl (fun q4 => ?_) (fun q4 => ?_)
  · refine ms_aload_n (pc := 14) S 0 rfl rfl (m_dec e11_strip 8 rfl) ?_
    refine ms_iconst (pc := 15) S (m_dec e11_strip 9 rfl) ?_
    refine ms_iload_n (pc := 16) S 1 rfl rfl (m_dec e11_strip 10 rfl) ?_
    refine ms_grd fun g5 => ?_
    refine ms_callVz (pc := 17) S hF (vals := [m_i 1, m_i v1]) (st := []) (hc := vw_11) (hci := by decide) (hcy := rfl) (ht := g5) (hC := (k11_isRoom _ _ v0 1 v1 h2)) (hM := lm_X11_288) (hfr := (Nat.le_trans (by decide) hFn)) (hstk := rfl) (hcat := Nat.le_of_ble_eq_true rfl) (hd := (m_dec e11_strip 11 rfl)) (k1 := fun r7 h6 => ?_)
    refine ms_ifb_ne (pc := 20) S (m_dec e11_strip 12 rfl) rfl (fun q8 => ?_) (fun q8 => ?_)
    · refine ms_aload_n (pc := 25) S 0 rfl rfl (m_dec e11_strip 15 rfl) ?_
      refine ms_iconst (pc := 26) S (m_dec e11_strip 16 rfl) ?_
      refine ms_iconst (pc := 27) S (m_dec e11_strip 17 rfl) ?_
      refine ms_iconst (pc := 28) S (m_dec e11_strip 18 rfl) ?_
      refine ms_iconst (pc := 29) S (m_dec e11_strip 19 rfl) ?_
      refine ms_grd fun g9 => ?_
      refine ms_callVi (pc := 30) S hF (vals := [m_i 0, m_i (-1), m_i (-1), m_i 0]) (st := []) (hc := vw_11) (hci := by decide) (hcy := rfl) (ht := g9) (hC := (k11_comes _ _ v0 0 (-1) (-1) 0 h6)) (hM := lm_X11_292) (hfr := (Nat.le_trans (by decide) hFn)) (hstk := rfl) (hcat := Nat.le_of_ble_eq_true rfl) (hd := (m_dec e11_strip 20 rfl)) (k1 := fun r11 h10 => ?_)
      refine ms_istore_n (pc := 33) S (L' := [(0, m_r v0), (1, m_i v1), (2, m_i r11)]) [1, 2, 0] rfl rfl (m_lt hN rfl) (m_dec e11_strip 21 rfl) ?_
      refine ms_iconst (pc := 34) S (m_dec e11_strip 22 rfl) ?_
      refine ms_istore_n (pc := 35) S (L' := [(0, m_r v0), (1, m_i v1), (2, m_i r11), (3, m_i 0)]) [1, 2, 3, 0] rfl rfl (m_lt hN rfl) (m_dec e11_strip 23 rfl) ?_
      exact s11_strip_c36 S E hF hFn hN v0 v1 r11 0 h10
    · refine ms_iconst (pc := 23) S (m_dec e11_strip 13 rfl) ?_
      exact ms_ret (pc := 24) E (m_dec e11_strip 14 rfl) rfl
  · refine ms_iconst (pc := 23) S (m_dec e11_strip 13 rfl) ?_
    exact ms_ret (pc := 24) E (m_dec e11_strip 14 rfl) rfl
theorem k11_strip (l : Launch) (d : m_D) (v0 v1 : Int) (h : m_H) : m_Con l d yX11_strip cX11_strip 4 (some .int) 1 (fun r => [m_i r]) [m_r v0, m_i v1] h (t11_strip v0 v1 h) :=
  m_con2 (by decide +kernel) (Nat.le_of_ble_eq_true rfl) (fun Y hN hRm hr hI S hfin => s11_strip S (m_end_i S hr hfin) hRm (Nat.le_refl _) hN v0 v1 h)
set_option maxRecDepth 100000 in
theorem e11_sliver : ∀ q ∈ ([(0, .iload_n 1, 1), (1, .i2l, 1), (2, .lconst 0, 1), (3, .ldc2_w 303, 3), (6, .invokestatic 268, 3), (9, .ifCond .ne 5, 3), (12, .iconst 0, 1), (13, .ireturn, 1), (14, .aload_n 0, 1), (15, .iload_n 1, 1), (16, .putfield 305, 3), (19, .iconst 1, 1), (20, .ireturn, 1)] : List (Nat × Instr × Nat)), decode cX11_sliver q.1 = .ok q.2 := by decide +kernel
set_option maxHeartbeats 4000000 in
set_option maxRecDepth 20000 in
theorem s11_sliver {Y : m_Y Bool} (S : m_Std Y RX11 cX11_sliver) (E : m_End Y cX11_sliver .ireturn (fun r => [m_i (m_b2i r)])) {F : Nat} (hF : m_Rm Y F) (hFn : 1 ≤ F) (hN : Y.2.2.2.1 = 2) (v0 v1 : Int) (h : m_H) : m_Sim Y 0 [(0, m_r v0), (1, m_i v1)] [] h (t11_sliver v0 v1 h) := by
  unfold t11_sliver
  refine ms_iload_n (pc := 0) S 1 rfl rfl (m_dec e11_sliver 0 rfl) ?_
  refine ms_i2l (pc := 1) S (m_dec e11_sliver 1 rfl) ?_
  refine ms_lconst (pc := 2) S (n := 0) rfl (m_dec e11_sliver 2 rfl) ?_
  refine ms_ldc2 (pc := 3) S (n := 9) w_1802 (m_dec e11_sliver 3 rfl) ?_
  refine ms_callSz (pc := 6) S hF (vals := [m_j (m_w v1), m_j 0, m_j 9]) (st := [])  (hC := (k11_in _ _ (m_w v1) 0 9 h)) (hM := lm_X11_268) (hfr := (Nat.le_trans (by decide) hFn)) (hstk := rfl) (hcat := Nat.le_of_ble_eq_true rfl) (hd := (m_dec e11_sliver 4 rfl)) (k1 := fun r2 h1 => ?_)
  refine ms_ifb_ne (pc := 9) S (m_dec e11_sliver 5 rfl) rfl (fun q3 => ?_) (fun q3 => ?_)
  · refine ms_aload_n (pc := 14) S 0 rfl rfl (m_dec e11_sliver 8 rfl) ?_
    refine ms_iload_n (pc := 15) S 1 rfl rfl (m_dec e11_sliver 9 rfl) ?_
    refine ms_grd fun g4 => ?_
    refine ms_putf (pc := 16) S lp_X11_305 (fun z => by cases z) rfl (fun d => m_fitI d _) (m_dec e11_sliver 10 rfl) g4 (fun h5 => ?_)
    refine ms_iconst (pc := 19) S (m_dec e11_sliver 11 rfl) ?_
    exact ms_ret (pc := 20) E (m_dec e11_sliver 12 rfl) rfl
  · refine ms_iconst (pc := 12) S (m_dec e11_sliver 6 rfl) ?_
    exact ms_ret (pc := 13) E (m_dec e11_sliver 7 rfl) rfl
theorem k11_sliver (l : Launch) (d : m_D) (v0 v1 : Int) (h : m_H) : m_Con l d yX11_sliver cX11_sliver 2 (some .boolean) 1 (fun r => [m_i (m_b2i r)]) [m_r v0, m_i v1] h (t11_sliver v0 v1 h) :=
  m_con2 (by decide +kernel) (Nat.le_of_ble_eq_true rfl) (fun Y hN hRm hr hI S hfin => s11_sliver S (m_end_z S hr hfin) hRm (Nat.le_refl _) hN v0 v1 h)
set_option maxRecDepth 100000 in
theorem e11_cut : ∀ q ∈ ([(0, .aload_n 0, 1), (1, .iload_n 1, 1), (2, .invokevirtual 308, 3), (5, .ifCond .eq 57, 3), (8, .iload_n 2, 1), (9, .i2l, 1), (10, .lconst 1, 1), (11, .aload_n 0, 1), (12, .getfield 23, 3), (15, .iload_n 1, 1), (16, .iaload, 1), (17, .iconst 1, 1), (18, .isub, 1), (19, .i2l, 1), (20, .invokestatic 268, 3), (23, .ifCond .eq 39, 3), (26, .aload_n 0, 1), (27, .getfield 23, 3), (30, .iload_n 1, 1), (31, .iaload, 1), (32, .iload_n 2, 1), (33, .isub, 1), (34, .aload_n 0, 1), (35, .getfield 305, 3), (38, .isub, 1), (39, .iconst 1, 1), (40, .if_icmp .lt 22, 3), (43, .aload_n 0, 1), (44, .iconst 2, 1), (45, .aload_n 0, 1), (46, .getfield 23, 3), (49, .iload_n 1, 1), (50, .iaload, 1), (51, .aload_n 0, 1), (52, .getfield 305, 3), (55, .isub, 1), (56, .invokevirtual 288, 3), (59, .ifCond .ne 5, 3), (62, .iconst (-1), 1), (63, .ireturn, 1), (64, .aload_n 0, 1), (65, .iconst 1, 1), (66, .iload_n 1, 1), (67, .iconst (-1), 1), (68, .iconst 0, 1), (69, .invokevirtual 292, 3), (72, .istore_n 3, 1), (73, .iconst 0, 1), (74, .istore 4, 2), (76, .iload 4, 2), (78, .iload_n 2, 1), (79, .if_icmp .ge 21, 3), (82, .aload_n 0, 1), (83, .iload_n 3, 1), (84, .aload_n 0, 1), (85, .iload_n 1, 1), (86, .iload 4, 2), (88, .invokevirtual 311, 3), (91, .invokevirtual 296, 3), (94, .iinc 4 1, 3), (97, .goto (-21), 3), (100, .aload_n 0, 1), (101, .iconst 1, 1), (102, .iload_n 1, 1), (103, .iconst (-1), 1), (104, .iload_n 2, 1), (105, .aload_n 0, 1), (106, .getfield 305, 3), (109, .iadd, 1), (110, .invokevirtual 292, 3), (113, .istore 4, 2), (115, .iload_n 2, 1), (116, .aload_n 0, 1), (117, .getfield 305, 3), (120, .iadd, 1), (121, .istore 5, 2), (123, .iload 5, 2), (125, .aload_n 0, 1), (126, .getfield 23, 3), (129, .iload_n 1, 1), (130, .iaload, 1), (131, .if_icmp .ge 22, 3), (134, .aload_n 0, 1), (135, .iload 4, 2), (137, .aload_n 0, 1), (138, .iload_n 1, 1), (139, .iload 5, 2), (141, .invokevirtual 311, 3), (144, .invokevirtual 296, 3), (147, .iinc 5 1, 3), (150, .goto (-27), 3), (153, .aload_n 0, 1), (154, .iload_n 1, 1), (155, .iconst 1, 1), (156, .invokevirtual 314, 3), (159, .iload_n 3, 1), (160, .ireturn, 1)] : List (Nat × Instr × Nat)), decode cX11_cut q.1 = .ok q.2 := by decide +kernel
set_option maxHeartbeats 4000000 in
set_option maxRecDepth 20000 in
theorem s11_cut_c123 {Y : m_Y Int} (S : m_Std Y RX11 cX11_cut) (E : m_End Y cX11_cut .ireturn (fun r => [m_i r])) {F : Nat} (hF : m_Rm Y F) (hFn : 3 ≤ F) (hN : Y.2.2.2.1 = 6) : ∀ (v0 v1 v3 v4 v5 : Int) (h : m_H), m_Sim Y 123 [(0, m_r v0), (1, m_i v1), (3, m_i v3), (4, m_i v4), (5, m_i v5)] [] h (t11_cut_c123 v0 v1 v3 v4 v5 h) := by
  intro v0 v1 v3 v4 v5 h
  refine ms_all fun r e => ?_
  refine t11_cut_c123.partial_correctness v0 v1 v3 v4 (motive := fun v5 h r => m_Sim Y 123 [(0, m_r v0), (1, m_i v1), (3, m_i v3), (4, m_i v4), (5, m_i v5)] [] h (some r)) ?_ v5 h r e
  intro f ih v5 h r e
  have ih : ∀ (v5 : Int) (h : m_H), m_Sim Y 123 [(0, m_r v0), (1, m_i v1), (3, m_i v3), (4, m_i v4), (5, m_i v5)] [] h (f v5 h ) := fun v5 h  => ms_all fun r e => ih v5 h r e
  refine ms_use ?_ e
  clear e r
  refine ms_iload (pc := 123) S 4 rfl (m_dec e11_cut 76 rfl) ?_
  refine ms_aload_n (pc := 125) S 0 rfl rfl (m_dec e11_cut 77 rfl) ?_
  refine ms_grd fun g1 => ?_
  refine ms_getf (pc := 126) S lf_X11_23 rfl (m_dec e11_cut 78 rfl) g1 ?_
  refine ms_iload_n (pc := 129) S 1 rfl rfl (m_dec e11_cut 79 rfl) ?_
  refine ms_grd fun g2 => ?_
  refine ms_iald (pc := 130) S g2 (m_dec e11_cut 80 rfl) ?_
  refine ms_icmp_ge (pc := 131) S (m_dec e11_cut 81 rfl) rfl (fun q3 => ?_) (fun q3 => ?_)
  · refine ms_aload_n (pc := 134) S 0 rfl rfl (m_dec e11_cut 82 rfl) ?_
    refine ms_iload (pc := 135) S 3 rfl (m_dec e11_cut 83 rfl) ?_
    refine ms_aload_n (pc := 137) S 0 rfl rfl (m_dec e11_cut 84 rfl) ?_
    refine ms_iload_n (pc := 138) S 1 rfl rfl (m_dec e11_cut 85 rfl) ?_
    refine ms_iload (pc := 139) S 4 rfl (m_dec e11_cut 86 rfl) ?_
    refine ms_callVi (pc := 141) S hF (vals := [m_i v1, m_i v5]) (st := [m_i v4, m_r v0]) (hc := vw_11) (hci := by decide) (hcy := rfl) (ht := g1) (hC := (k11_at _ _ v0 v1 v5 h)) (hM := lm_X11_311) (hfr := (Nat.le_trans (by decide) hFn)) (hstk := rfl) (hcat := Nat.le_of_ble_eq_true rfl) (hd := (m_dec e11_cut 87 rfl)) (k1 := fun r5 h4 => ?_)
    refine ms_grd fun g6 => ?_
    refine ms_callVv (pc := 144) S hF (vals := [m_i v4, m_i r5]) (st := []) (hc := vw_11) (hci := by decide) (hcy := rfl) (ht := g6) (hC := (k11_adds _ _ v0 v4 r5 h4)) (hM := lm_X11_296) (hfr := (Nat.le_trans (by decide) hFn)) (hstk := rfl) (hcat := Nat.le_of_ble_eq_true rfl) (hd := (m_dec e11_cut 88 rfl)) (k1 := fun h7 => ?_)
    refine ms_iinc (pc := 147) S (L' := [(0, m_r v0), (1, m_i v1), (3, m_i v3), (4, m_i v4), (5, m_i (v5 + 1))]) 4 rfl [1, 2, 3, 4, 0] rfl (m_lt hN rfl) (m_dec e11_cut 89 rfl) ?_
    refine ms_goto (pc := 150) S (m_dec e11_cut 90 rfl) rfl ?_
    exact ih (v5 + 1) h7
  · refine ms_aload_n (pc := 153) S 0 rfl rfl (m_dec e11_cut 91 rfl) ?_
    refine ms_iload_n (pc := 154) S 1 rfl rfl (m_dec e11_cut 92 rfl) ?_
    refine ms_iconst (pc := 155) S (m_dec e11_cut 93 rfl) ?_
    refine ms_callVv (pc := 156) S hF (vals := [m_i v1, m_i 1]) (st := []) (hc := vw_11) (hci := by decide) (hcy := rfl) (ht := g1) (hC := (k11_uses _ _ v0 v1 1 h)) (hM := lm_X11_314) (hfr := (Nat.le_trans (by decide) hFn)) (hstk := rfl) (hcat := Nat.le_of_ble_eq_true rfl) (hd := (m_dec e11_cut 94 rfl)) (k1 := fun h9 => ?_)
    refine ms_iload_n (pc := 159) S 2 rfl rfl (m_dec e11_cut 95 rfl) ?_
    exact ms_ret (pc := 160) E (m_dec e11_cut 96 rfl) rfl
set_option maxHeartbeats 4000000 in
set_option maxRecDepth 20000 in
theorem s11_cut_c76 {Y : m_Y Int} (S : m_Std Y RX11 cX11_cut) (E : m_End Y cX11_cut .ireturn (fun r => [m_i r])) {F : Nat} (hF : m_Rm Y F) (hFn : 3 ≤ F) (hN : Y.2.2.2.1 = 6) : ∀ (v0 v1 v2 v3 v4 : Int) (h : m_H), m_Sim Y 76 [(0, m_r v0), (1, m_i v1), (2, m_i v2), (3, m_i v3), (4, m_i v4)] [] h (t11_cut_c76 v0 v1 v2 v3 v4 h) := by
  intro v0 v1 v2 v3 v4 h
  refine ms_all fun r e => ?_
  refine t11_cut_c76.partial_correctness v0 v1 v2 v3 (motive := fun v4 h r => m_Sim Y 76 [(0, m_r v0), (1, m_i v1), (2, m_i v2), (3, m_i v3), (4, m_i v4)] [] h (some r)) ?_ v4 h r e
  intro f ih v4 h r e
  have ih : ∀ (v4 : Int) (h : m_H), m_Sim Y 76 [(0, m_r v0), (1, m_i v1), (2, m_i v2), (3, m_i v3), (4, m_i v4)] [] h (f v4 h ) := fun v4 h  => ms_all fun r e => ih v4 h r e
  refine ms_use ?_ e
  clear e r
  refine ms_iload (pc := 76) S 4 rfl (m_dec e11_cut 49 rfl) ?_
  refine ms_iload_n (pc := 78) S 2 rfl rfl (m_dec e11_cut 50 rfl) ?_
  refine ms_icmp_ge (pc := 79) S (m_dec e11_cut 51 rfl) rfl (fun q1 => ?_) (fun q1 => ?_)
  · refine ms_aload_n (pc := 82) S 0 rfl rfl (m_dec e11_cut 52 rfl) ?_
    refine ms_iload_n (pc := 83) S 3 rfl rfl (m_dec e11_cut 53 rfl) ?_
    refine ms_aload_n (pc := 84) S 0 rfl rfl (m_dec e11_cut 54 rfl) ?_
    refine ms_iload_n (pc := 85) S 1 rfl rfl (m_dec e11_cut 55 rfl) ?_
    refine ms_iload (pc := 86) S 4 rfl (m_dec e11_cut 56 rfl) ?_
    refine ms_grd fun g2 => ?_
    refine ms_callVi (pc := 88) S hF (vals := [m_i v1, m_i v4]) (st := [m_i v3, m_r v0]) (hc := vw_11) (hci := by decide) (hcy := rfl) (ht := g2) (hC := (k11_at _ _ v0 v1 v4 h)) (hM := lm_X11_311) (hfr := (Nat.le_trans (by decide) hFn)) (hstk := rfl) (hcat := Nat.le_of_ble_eq_true rfl) (hd := (m_dec e11_cut 57 rfl)) (k1 := fun r4 h3 => ?_)
    refine ms_grd fun g5 => ?_
    refine ms_callVv (pc := 91) S hF (vals := [m_i v3, m_i r4]) (st := []) (hc := vw_11) (hci := by decide) (hcy := rfl) (ht := g5) (hC := (k11_adds _ _ v0 v3 r4 h3)) (hM := lm_X11_296) (hfr := (Nat.le_trans (by decide) hFn)) (hstk := rfl) (hcat := Nat.le_of_ble_eq_true rfl) (hd := (m_dec e11_cut 58 rfl)) (k1 := fun h6 => ?_)
    refine ms_iinc (pc := 94) S (L' := [(0, m_r v0), (1, m_i v1), (2, m_i v2), (3, m_i v3), (4, m_i (v4 + 1))]) 4 rfl [1, 2, 3, 4, 0] rfl (m_lt hN rfl) (m_dec e11_cut 59 rfl) ?_
    refine ms_goto (pc := 97) S (m_dec e11_cut 60 rfl) rfl ?_
    exact ih (v4 + 1) h6
  · refine ms_aload_n (pc := 100) S 0 rfl rfl (m_dec e11_cut 61 rfl) ?_
    refine ms_iconst (pc := 101) S (m_dec e11_cut 62 rfl) ?_
    refine ms_iload_n (pc := 102) S 1 rfl rfl (m_dec e11_cut 63 rfl) ?_
    refine ms_iconst (pc := 103) S (m_dec e11_cut 64 rfl) ?_
    refine ms_iload_n (pc := 104) S 2 rfl rfl (m_dec e11_cut 65 rfl) ?_
    refine ms_aload_n (pc := 105) S 0 rfl rfl (m_dec e11_cut 66 rfl) ?_
    refine ms_grd fun g8 => ?_
    refine ms_getf (pc := 106) S lf_X11_305 rfl (m_dec e11_cut 67 rfl) g8 ?_
    refine ms_iadd (pc := 109) S (m_dec e11_cut 68 rfl) ?_
    refine ms_callVi (pc := 110) S hF (vals := [m_i 1, m_i v1, m_i (-1), m_i (v2 + (m_g h v0 17))]) (st := []) (hc := vw_11) (hci := by decide) (hcy := rfl) (ht := g8) (hC := (k11_comes _ _ v0 1 v1 (-1) (v2 + (m_g h v0 17)) h)) (hM := lm_X11_292) (hfr := (Nat.le_trans (by decide) hFn)) (hstk := rfl) (hcat := Nat.le_of_ble_eq_true rfl) (hd := (m_dec e11_cut 69 rfl)) (k1 := fun r10 h9 => ?_)
    refine ms_istore (pc := 113) S (L' := [(0, m_r v0), (1, m_i v1), (2, m_i v2), (3, m_i v3), (4, m_i r10)]) [1, 2, 3, 4, 0] rfl (m_lt hN rfl) (m_dec e11_cut 70 rfl) ?_
    refine ms_iload_n (pc := 115) S 2 rfl rfl (m_dec e11_cut 71 rfl) ?_
    refine ms_aload_n (pc := 116) S 0 rfl rfl (m_dec e11_cut 72 rfl) ?_
    refine ms_grd fun g11 => ?_
    refine ms_getf (pc := 117) S lf_X11_305 rfl (m_dec e11_cut 73 rfl) g11 ?_
    refine ms_iadd (pc := 120) S (m_dec e11_cut 74 rfl) ?_
    refine ms_nm (st := fun x12 => [m_i x12]) fun x12 => ?_
    refine ms_istore (pc := 121) S (L' := [(0, m_r v0), (1, m_i v1), (3, m_i v3), (4, m_i r10), (5, m_i x12)]) [1, 2, 4, 5, 0] rfl (m_lt hN rfl) (m_dec e11_cut 75 rfl) ?_
    exact s11_cut_c123 S E hF hFn hN v0 v1 v3 r10 x12 h9
set_option maxHeartbeats 4000000 in
set_option maxRecDepth 20000 in
theorem s11_cut {Y : m_Y Int} (S : m_Std Y RX11 cX11_cut) (E : m_End Y cX11_cut .ireturn (fun r => [m_i r])) {F : Nat} (hF : m_Rm Y F) (hFn : 3 ≤ F) (hN : Y.2.2.2.1 = 6) (v0 v1 v2 : Int) (h : m_H) : m_Sim Y 0 [(0, m_r v0), (1, m_i v1), (2, m_i v2)] [] h (t11_cut v0 v1 v2 h) := by
  unfold t11_cut
  refine ms_aload_n (pc := 0) S 0 rfl rfl (m_dec e11_cut 0 rfl) ?_
  refine ms_iload_n (pc := 1) S 1 rfl rfl (m_dec e11_cut 1 rfl) ?_
  refine ms_grd fun g1 => ?_
  refine ms_callVz (pc := 2) S hF (vals := [m_i v1]) (st := []) (hc := vw_11) (hci := by decide) (hcy := rfl) (ht := g1) (hC := (k11_isThere _ _ v0 v1 h)) (hM := lm_X11_308) (hfr := (Nat.le_trans (by decide) hFn)) (hstk := rfl) (hcat := Nat.le_of_ble_eq_true rfl) (hd := (m_dec e11_cut 2 rfl)) (k1 := fun r3 h2 => ?_)
  refine ms_ifb_eq (pc := 5) S (m_dec e11_cut 3 rfl) rfl (fun q4 => ?_) (fun q4 => ?_)
  · refine ms_iload_n (pc := 8) S 2 rfl rfl (m_dec e11_cut 4 rfl) ?_
    refine ms_i2l (pc := 9) S (m_dec e11_cut 5 rfl) ?_
    refine ms_lconst (pc := 10) S (n := 1) rfl (m_dec e11_cut 6 rfl) ?_
    refine ms_aload_n (pc := 11) S 0 rfl rfl (m_dec e11_cut 7 rfl) ?_
    refine ms_grd fun g5 => ?_
    refine ms_getf (pc := 12) S lf_X11_23 rfl (m_dec e11_cut 8 rfl) g5 ?_
    refine ms_iload_n (pc := 15) S 1 rfl rfl (m_dec e11_cut 9 rfl) ?_
    refine ms_grd fun g6 => ?_
    refine ms_iald (pc := 16) S g6 (m_dec e11_cut 10 rfl) ?_
    refine ms_iconst (pc := 17) S (m_dec e11_cut 11 rfl) ?_
    refine ms_isub (pc := 18) S (m_dec e11_cut 12 rfl) ?_
    refine ms_i2l (pc := 19) S (m_dec e11_cut 13 rfl) ?_
    refine ms_callSz (pc := 20) S hF (vals := [m_j (m_w v2), m_j 1, m_j (m_w ((m_g h2 (m_g h2 v0 3) (m_w v1)) - 1))]) (st := [])  (hC := (k11_in _ _ (m_w v2) 1 (m_w ((m_g h2 (m_g h2 v0 3) (m_w v1)) - 1)) h2)) (hM := lm_X11_268) (hfr := (Nat.le_trans (by decide) hFn)) (hstk := rfl) (hcat := Nat.le_of_ble_eq_true rfl) (hd := (m_dec e11_cut 14 rfl)) (k1 := fun r8 h7 => ?_)
    refine ms_ifb_eq (pc := 23) S (m_dec e11_cut 15 rfl) rfl (fun q9 => ?_) (fun q9 => ?_)
    · refine ms_aload_n (pc := 26) S 0 rfl rfl (m_dec e11_cut 16 rfl) ?_
      refine ms_grd fun g10 => ?_
      refine ms_getf (pc := 27) S lf_X11_23 rfl (m_dec e11_cut 17 rfl) g10 ?_
      refine ms_iload_n (pc := 30) S 1 rfl rfl (m_dec e11_cut 18 rfl) ?_
      refine ms_grd fun g11 => ?_
      refine ms_iald (pc := 31) S g11 (m_dec e11_cut 19 rfl) ?_
      refine ms_iload_n (pc := 32) S 2 rfl rfl (m_dec e11_cut 20 rfl) ?_
      refine ms_isub (pc := 33) S (m_dec e11_cut 21 rfl) ?_
      refine ms_aload_n (pc := 34) S 0 rfl rfl (m_dec e11_cut 22 rfl) ?_
      refine ms_getf (pc := 35) S lf_X11_305 rfl (m_dec e11_cut 23 rfl) g10 ?_
      refine ms_isub (pc := 38) S (m_dec e11_cut 24 rfl) ?_
      refine ms_iconst (pc := 39) S (m_dec e11_cut 25 rfl) ?_
      refine ms_icmp_lt (pc := 40) S (m_dec e11_cut 26 rfl) rfl (fun q12 => ?_) (fun q12 => ?_)
      · refine ms_iconst (pc := 62) S (m_dec e11_cut 38 rfl) ?_
        exact ms_ret (pc := 63) E (m_dec e11_cut 39 rfl) rfl
      · refine ms_aload_n (pc := 43) S 0 rfl rfl (m_dec e11_cut 27 rfl) ?_
        refine ms_iconst (pc := 44) S (m_dec e11_cut 28 rfl) ?_
        refine ms_aload_n (pc := 45) S 0 rfl rfl (m_dec e11_cut 29 rfl) ?_
        refine ms_getf (pc := 46) S lf_X11_23 rfl (m_dec e11_cut 30 rfl) g10 ?_
        refine ms_iload_n (pc := 49) S 1 rfl rfl (m_dec e11_cut 31 rfl) ?_
        refine ms_iald (pc := 50) S g11 (m_dec e11_cut 32 rfl) ?_
        refine ms_aload_n (pc := 51) S 0 rfl rfl (m_dec e11_cut 33 rfl) ?_
        refine ms_getf (pc := 52) S lf_X11_305 rfl (m_dec e11_cut 34 rfl) g10 ?_
        refine ms_isub (pc := 55) S (m_dec e11_cut 35 rfl) ?_
        refine ms_callVz (pc := 56) S hF (vals := [m_i 2, m_i ((m_g h7 (m_g h7 v0 3) (m_w v1)) - (m_g h7 v0 17))]) (st := []) (hc := vw_11) (hci := by decide) (hcy := rfl) (ht := g10) (hC := (k11_isRoom _ _ v0 2 ((m_g h7 (m_g h7 v0 3) (m_w v1)) - (m_g h7 v0 17)) h7)) (hM := lm_X11_288) (hfr := (Nat.le_trans (by decide) hFn)) (hstk := rfl) (hcat := Nat.le_of_ble_eq_true rfl) (hd := (m_dec e11_cut 36 rfl)) (k1 := fun r14 h13 => ?_)
        refine ms_ifb_ne (pc := 59) S (m_dec e11_cut 37 rfl) rfl (fun q15 => ?_) (fun q15 => ?_)
        · refine ms_aload_n (pc := 64) S 0 rfl rfl (m_dec e11_cut 40 rfl) ?_
          refine ms_iconst (pc := 65) S (m_dec e11_cut 41 rfl) ?_
          refine ms_iload_n (pc := 66) S 1 rfl rfl (m_dec e11_cut 42 rfl) ?_
          refine ms_iconst (pc := 67) S (m_dec e11_cut 43 rfl) ?_
          refine ms_iconst (pc := 68) S (m_dec e11_cut 44 rfl) ?_
          refine ms_grd fun g16 => ?_
          refine ms_callVi (pc := 69) S hF (vals := [m_i 1, m_i v1, m_i (-1), m_i 0]) (st := []) (hc := vw_11) (hci := by decide) (hcy := rfl) (ht := g16) (hC := (k11_comes _ _ v0 1 v1 (-1) 0 h13)) (hM := lm_X11_292) (hfr := (Nat.le_trans (by decide) hFn)) (hstk := rfl) (hcat := Nat.le_of_ble_eq_true rfl) (hd := (m_dec e11_cut 45 rfl)) (k1 := fun r18 h17 => ?_)
          refine ms_istore_n (pc := 72) S (L' := [(0, m_r v0), (1, m_i v1), (2, m_i v2), (3, m_i r18)]) [1, 2, 3, 0] rfl rfl (m_lt hN rfl) (m_dec e11_cut 46 rfl) ?_
          refine ms_iconst (pc := 73) S (m_dec e11_cut 47 rfl) ?_
          refine ms_istore (pc := 74) S (L' := [(0, m_r v0), (1, m_i v1), (2, m_i v2), (3, m_i r18), (4, m_i 0)]) [1, 2, 3, 4, 0] rfl (m_lt hN rfl) (m_dec e11_cut 48 rfl) ?_
          exact s11_cut_c76 S E hF hFn hN v0 v1 v2 r18 0 h17
        · refine ms_iconst (pc := 62) S (m_dec e11_cut 38 rfl) ?_
          exact ms_ret (pc := 63) E (m_dec e11_cut 39 rfl) rfl
    · refine ms_iconst (pc := 62) S (m_dec e11_cut 38 rfl) ?_
      exact ms_ret (pc := 63) E (m_dec e11_cut 39 rfl) rfl
  · refine ms_iconst (pc := 62) S (m_dec e11_cut 38 rfl) ?_
    exact ms_ret (pc := 63) E (m_dec e11_cut 39 rfl) rfl
theorem k11_cut (l : Launch) (d : m_D) (v0 v1 v2 : Int) (h : m_H) : m_Con l d yX11_cut cX11_cut 6 (some .int) 3 (fun r => [m_i r]) [m_r v0, m_i v1, m_i v2] h (t11_cut v0 v1 v2 h) :=
  m_con2 (by decide +kernel) (Nat.le_of_ble_eq_true rfl) (fun Y hN hRm hr hI S hfin => s11_cut S (m_end_i S hr hfin) hRm (Nat.le_refl _) hN v0 v1 v2 h)
set_option maxRecDepth 100000 in
theorem e11_isPlain : ∀ q ∈ ([(0, .aload_n 0, 1), (1, .iload_n 1, 1), (2, .invokevirtual 308, 3), (5, .ifCond .eq 17, 3), (8, .aload_n 0, 1), (9, .getfield 26, 3), (12, .iload_n 1, 1), (13, .iaload, 1), (14, .iconst 3, 1), (15, .if_icmp .eq 7, 3), (18, .iconst 1, 1), (19, .goto 4, 3), (22, .iconst 0, 1), (23, .ireturn, 1)] : List (Nat × Instr × Nat)), decode cX11_isPlain q.1 = .ok q.2 := by decide +kernel
set_option maxHeartbeats 4000000 in
set_option maxRecDepth 20000 in
theorem s11_isPlain {Y : m_Y Bool} (S : m_Std Y RX11 cX11_isPlain) (E : m_End Y cX11_isPlain .ireturn (fun r => [m_i (m_b2i r)])) {F : Nat} (hF : m_Rm Y F) (hFn : 3 ≤ F) (hN : Y.2.2.2.1 = 2) (v0 v1 : Int) (h : m_H) : m_Sim Y 0 [(0, m_r v0), (1, m_i v1)] [] h (t11_isPlain v0 v1 h) := by
  unfold t11_isPlain
  refine ms_aload_n (pc := 0) S 0 rfl rfl (m_dec e11_isPlain 0 rfl) ?_
  refine ms_iload_n (pc := 1) S 1 rfl rfl (m_dec e11_isPlain 1 rfl) ?_
  refine ms_grd fun g1 => ?_
  refine ms_callVz (pc := 2) S hF (vals := [m_i v1]) (st := []) (hc := vw_11) (hci := by decide) (hcy := rfl) (ht := g1) (hC := (k11_isThere _ _ v0 v1 h)) (hM := lm_X11_308) (hfr := (Nat.le_trans (by decide) hFn)) (hstk := rfl) (hcat := Nat.le_of_ble_eq_true rfl) (hd := (m_dec e11_isPlain 2 rfl)) (k1 := fun r3 h2 => ?_)
  refine ms_ifb_eq (pc := 5) S (m_dec e11_isPlain 3 rfl) rfl (fun q4 => ?_) (fun q4 => ?_)
  · refine ms_aload_n (pc := 8) S 0 rfl rfl (m_dec e11_isPlain 4 rfl) ?_
    refine ms_grd fun g5 => ?_
    refine ms_getf (pc := 9) S lf_X11_26 rfl (m_dec e11_isPlain 5 rfl) g5 ?_
    refine ms_iload_n (pc := 12) S 1 rfl rfl (m_dec e11_isPlain 6 rfl) ?_
    refine ms_grd fun g6 => ?_
    refine ms_iald (pc := 13) S g6 (m_dec e11_isPlain 7 rfl) ?_
    refine ms_iconst (pc := 14) S (m_dec e11_isPlain 8 rfl) ?_
    refine ms_icmp_eq (pc := 15) S (m_dec e11_isPlain 9 rfl) rfl (fun q7 => ?_) (fun q7 => ?_)
    · refine ms_iconst (pc := 22) S (m_dec e11_isPlain 12 rfl) ?_
      exact ms_ret (pc := 23) E (m_dec e11_isPlain 13 rfl) rfl
    · refine ms_iconst (pc := 18) S (m_dec e11_isPlain 10 rfl) ?_
      refine ms_goto (pc := 19) S (m_dec e11_isPlain 11 rfl) rfl ?_
      exact ms_ret (pc := 23) E (m_dec e11_isPlain 13 rfl) rfl
  · refine ms_iconst (pc := 22) S (m_dec e11_isPlain 12 rfl) ?_
    exact ms_ret (pc := 23) E (m_dec e11_isPlain 13 rfl) rfl
theorem k11_isPlain (l : Launch) (d : m_D) (v0 v1 : Int) (h : m_H) : m_Con l d yX11_isPlain cX11_isPlain 2 (some .boolean) 3 (fun r => [m_i (m_b2i r)]) [m_r v0, m_i v1] h (t11_isPlain v0 v1 h) :=
  m_con2 (by decide +kernel) (Nat.le_of_ble_eq_true rfl) (fun Y hN hRm hr hI S hfin => s11_isPlain S (m_end_z S hr hfin) hRm (Nat.le_refl _) hN v0 v1 h)
set_option maxRecDepth 100000 in
theorem e11_turn : ∀ q ∈ ([(0, .aload_n 0, 1), (1, .iload_n 1, 1), (2, .invokevirtual 317, 3), (5, .ifCond .eq 17, 3), (8, .aload_n 0, 1), (9, .iconst 1, 1), (10, .aload_n 0, 1), (11, .getfield 23, 3), (14, .iload_n 1, 1), (15, .iaload, 1), (16, .invokevirtual 288, 3), (19, .ifCond .ne 5, 3), (22, .iconst (-1), 1), (23, .ireturn, 1), (24, .aload_n 0, 1), (25, .iconst 2, 1), (26, .iload_n 1, 1), (27, .iconst (-1), 1), (28, .iconst 0, 1), (29, .invokevirtual 292, 3), (32, .istore_n 2, 1), (33, .aload_n 0, 1), (34, .getfield 23, 3), (37, .iload_n 1, 1), (38, .iaload, 1), (39, .iconst 1, 1), (40, .isub, 1), (41, .istore_n 3, 1), (42, .iload_n 3, 1), (43, .ifCond .lt 20, 3), (46, .aload_n 0, 1), (47, .iload_n 2, 1), (48, .aload_n 0, 1), (49, .iload_n 1, 1), (50, .iload_n 3, 1), (51, .invokevirtual 311, 3), (54, .invokevirtual 296, 3), (57, .iinc 3 (-1), 3), (60, .goto (-18), 3), (63, .aload_n 0, 1), (64, .iload_n 1, 1), (65, .iconst 1, 1), (66, .invokevirtual 314, 3), (69, .iload_n 2, 1), (70, .ireturn, 1)] : List (Nat × Instr × Nat)), decode cX11_turn q.1 = .ok q.2 := by decide +kernel
set_option maxHeartbeats 4000000 in
set_option maxRecDepth 20000 in
theorem s11_turn_c42 {Y : m_Y Int} (S : m_Std Y RX11 cX11_turn) (E : m_End Y cX11_turn .ireturn (fun r => [m_i r])) {F : Nat} (hF : m_Rm Y F) (hFn : 4 ≤ F) (hN : Y.2.2.2.1 = 4) : ∀ (v0 v1 v2 v3 : Int) (h : m_H), m_Sim Y 42 [(0, m_r v0), (1, m_i v1), (2, m_i v2), (3, m_i v3)] [] h (t11_turn_c42 v0 v1 v2 v3 h) := by
  intro v0 v1 v2 v3 h
  refine ms_all fun r e => ?_
  refine t11_turn_c42.partial_correctness v0 v1 v2 (motive := fun v3 h r => m_Sim Y 42 [(0, m_r v0), (1, m_i v1), (2, m_i v2), (3, m_i v3)] [] h (some r)) ?_ v3 h r e
  intro f ih v3 h r e
  have ih : ∀ (v3 : Int) (h : m_H), m_Sim Y 42 [(0, m_r v0), (1, m_i v1), (2, m_i v2), (3, m_i v3)] [] h (f v3 h ) := fun v3 h  => ms_all fun r e => ih v3 h r e
  refine ms_use ?_ e
  clear e r
  refine ms_iload_n (pc := 42) S 3 rfl rfl (m_dec e11_turn 28 rfl) ?_
  refine ms_if_lt (pc := 43) S (m_dec e11_turn 29 rfl) rfl (fun q1 => ?_) (fun q1 => ?_)
  · refine ms_aload_n (pc := 63) S 0 rfl rfl (m_dec e11_turn 39 rfl) ?_
    refine ms_iload_n (pc := 64) S 1 rfl rfl (m_dec e11_turn 40 rfl) ?_
    refine ms_iconst (pc := 65) S (m_dec e11_turn 41 rfl) ?_
    refine ms_grd fun g2 => ?_
    refine ms_callVv (pc := 66) S hF (vals := [m_i v1, m_i 1]) (st := []) (hc := vw_11) (hci := by decide) (hcy := rfl) (ht := g2) (hC := (k11_uses _ _ v0 v1 1 h)) (hM := lm_X11_314) (hfr := (Nat.le_trans (by decide) hFn)) (hstk := rfl) (hcat := Nat.le_of_ble_eq_true rfl) (hd := (m_dec e11_turn 42 rfl)) (k1 := fun h3 => ?_)
    refine ms_iload_n (pc := 69) S 2 rfl rfl (m_dec e11_turn 43 rfl) ?_
    exact ms_ret (pc := 70) E (m_dec e11_turn 44 rfl) rfl
  · refine ms_aload_n (pc := 46) S 0 rfl rfl (m_dec e11_turn 30 rfl) ?_
    refine ms_iload_n (pc := 47) S 2 rfl rfl (m_dec e11_turn 31 rfl) ?_
    refine ms_aload_n (pc := 48) S 0 rfl rfl (m_dec e11_turn 32 rfl) ?_
    refine ms_iload_n (pc := 49) S 1 rfl rfl (m_dec e11_turn 33 rfl) ?_
    refine ms_iload_n (pc := 50) S 3 rfl rfl (m_dec e11_turn 34 rfl) ?_
    refine ms_grd fun g5 => ?_
    refine ms_callVi (pc := 51) S hF (vals := [m_i v1, m_i v3]) (st := [m_i v2, m_r v0]) (hc := vw_11) (hci := by decide) (hcy := rfl) (ht := g5) (hC := (k11_at _ _ v0 v1 v3 h)) (hM := lm_X11_311) (hfr := (Nat.le_trans (by decide) hFn)) (hstk := rfl) (hcat := Nat.le_of_ble_eq_true rfl) (hd := (m_dec e11_turn 35 rfl)) (k1 := fun r7 h6 => ?_)
    refine ms_grd fun g8 => ?_
    refine ms_callVv (pc := 54) S hF (vals := [m_i v2, m_i r7]) (st := []) (hc := vw_11) (hci := by decide) (hcy := rfl) (ht := g8) (hC := (k11_adds _ _ v0 v2 r7 h6)) (hM := lm_X11_296) (hfr := (Nat.le_trans (by decide) hFn)) (hstk := rfl) (hcat := Nat.le_of_ble_eq_true rfl) (hd := (m_dec e11_turn 36 rfl)) (k1 := fun h9 => ?_)
    refine ms_iinc (pc := 57) S (L' := [(0, m_r v0), (1, m_i v1), (2, m_i v2), (3, m_i (v3 + (-1)))]) 3 rfl [1, 2, 3, 0] rfl (m_lt hN rfl) (m_dec e11_turn 37 rfl) ?_
    refine ms_goto (pc := 60) S (m_dec e11_turn 38 rfl) rfl ?_
    exact ih (v3 + (-1)) h9
set_option maxHeartbeats 4000000 in
set_option maxRecDepth 20000 in
theorem s11_turn {Y : m_Y Int} (S : m_Std Y RX11 cX11_turn) (E : m_End Y cX11_turn .ireturn (fun r => [m_i r])) {F : Nat} (hF : m_Rm Y F) (hFn : 4 ≤ F) (hN : Y.2.2.2.1 = 4) (v0 v1 : Int) (h : m_H) : m_Sim Y 0 [(0, m_r v0), (1, m_i v1)] [] h (t11_turn v0 v1 h) := by
  unfold t11_turn
  refine ms_aload_n (pc := 0) S 0 rfl rfl (m_dec e11_turn 0 rfl) ?_
  refine ms_iload_n (pc := 1) S 1 rfl rfl (m_dec e11_turn 1 rfl) ?_
  refine ms_grd fun g1 => ?_
  refine ms_callVz (pc := 2) S hF (vals := [m_i v1]) (st := []) (hc := vw_11) (hci := by decide) (hcy := rfl) (ht := g1) (hC := (k11_isPlain _ _ v0 v1 h)) (hM := lm_X11_317) (hfr := (Nat.le_trans (by decide) hFn)) (hstk := rfl) (hcat := Nat.le_of_ble_eq_true rfl) (hd := (m_dec e11_turn 2 rfl)) (k1 := fun r3 h2 => ?_)
  refine ms_ifb_eq (pc := 5) S (m_dec e11_turn 3 rfl) rfl (fun q4 => ?_) (fun q4 => ?_)
  · refine ms_aload_n (pc := 8) S 0 rfl rfl (m_dec e11_turn 4 rfl) ?_
    refine ms_iconst (pc := 9) S (m_dec e11_turn 5 rfl) ?_
    refine ms_aload_n (pc := 10) S 0 rfl rfl (m_dec e11_turn 6 rfl) ?_
    refine ms_grd fun g5 => ?_
    refine ms_getf (pc := 11) S lf_X11_23 rfl (m_dec e11_turn 7 rfl) g5 ?_
    refine ms_iload_n (pc := 14) S 1 rfl rfl (m_dec e11_turn 8 rfl) ?_
    refine ms_grd fun g6 => ?_
    refine ms_iald (pc := 15) S g6 (m_dec e11_turn 9 rfl) ?_
    refine ms_callVz (pc := 16) S hF (vals := [m_i 1, m_i (m_g h2 (m_g h2 v0 3) (m_w v1))]) (st := []) (hc := vw_11) (hci := by decide) (hcy := rfl) (ht := g5) (hC := (k11_isRoom _ _ v0 1 (m_g h2 (m_g h2 v0 3) (m_w v1)) h2)) (hM := lm_X11_288) (hfr := (Nat.le_trans (by decide) hFn)) (hstk := rfl) (hcat := Nat.le_of_ble_eq_true rfl) (hd := (m_dec e11_turn 10 rfl)) (k1 := fun r8 h7 => ?_)
    refine ms_ifb_ne (pc := 19) S (m_dec e11_turn 11 rfl) rfl (fun q9 => ?_) (fun q9 => ?_)
    · refine ms_aload_n (pc := 24) S 0 rfl rfl (m_dec e11_turn 14 rfl) ?_
      refine ms_iconst (pc := 25) S (m_dec e11_turn 15 rfl) ?_
      refine ms_iload_n (pc := 26) S 1 rfl rfl (m_dec e11_turn 16 rfl) ?_
      refine ms_iconst (pc := 27) S (m_dec e11_turn 17 rfl) ?_
      refine ms_iconst (pc := 28) S (m_dec e11_turn 18 rfl) ?_
      refine ms_grd fun g10 => ?_
      refine ms_callVi (pc := 29) S hF (vals := [m_i 2, m_i v1, m_i (-1), m_i 0]) (st := []) (hc := vw_11) (hci := by decide) (hcy := rfl) (ht := g10) (hC := (k11_comes _ _ v0 2 v1 (-1) 0 h7)) (hM := lm_X11_292) (hfr := (Nat.le_trans (by decide) hFn)) (hstk := rfl) (hcat := Nat.le_of_ble_eq_true rfl) (hd := (m_dec e11_turn 19 rfl)) (k1 := fun r12 h11 => ?_)
      refine ms_istore_n (pc := 32) S (L' := [(0, m_r v0), (1, m_i v1), (2, m_i r12)]) [1, 2, 0] rfl rfl (m_lt hN rfl) (m_dec e11_turn 20 rfl) ?_
      refine ms_aload_n (pc := 33) S 0 rfl rfl (m_dec e11_turn 21 rfl) ?_
      refine ms_grd fun g13 => ?_
      refine ms_getf (pc := 34) S lf_X11_23 rfl (m_dec e11_turn 22 rfl) g13 ?_
      refine ms_iload_n (pc := 37) S 1 rfl rfl (m_dec e11_turn 23 rfl) ?_
      refine ms_grd fun g14 => ?_
      refine ms_iald (pc := 38) S g14 (m_dec e11_turn 24 rfl) ?_
      refine ms_iconst (pc := 39) S (m_dec e11_turn 25 rfl) ?_
      refine ms_isub (pc := 40) S (m_dec e11_turn 26 rfl) ?_
      refine ms_nm (st := fun x15 => [m_i x15]) fun x15 => ?_
      refine ms_istore_n (pc := 41) S (L' := [(0, m_r v0), (1, m_i v1), (2, m_i r12), (3, m_i x15)]) [1, 2, 3, 0] rfl rfl (m_lt hN rfl) (m_dec e11_turn 27 rfl) ?_
      exact s11_turn_c42 S E hF hFn hN v0 v1 r12 x15 h11
    · refine ms_iconst (pc := 22) S (m_dec e11_turn 12 rfl) ?_
      exact ms_ret (pc := 23) E (m_dec e11_turn 13 rfl) rfl
  · refine ms_iconst (pc := 22) S (m_dec e11_turn 12 rfl) ?_
    exact ms_ret (pc := 23) E (m_dec e11_turn 13 rfl) rfl
theorem k11_turn (l : Launch) (d : m_D) (v0 v1 : Int) (h : m_H) : m_Con l d yX11_turn cX11_turn 4 (some .int) 4 (fun r => [m_i r]) [m_r v0, m_i v1] h (t11_turn v0 v1 h) :=
  m_con2 (by decide +kernel) (Nat.le_of_ble_eq_true rfl) (fun Y hN hRm hr hI S hfin => s11_turn S (m_end_i S hr hfin) hRm (Nat.le_refl _) hN v0 v1 h)
set_option maxRecDepth 100000 in
theorem e11_loop : ∀ q ∈ ([(0, .aload_n 0, 1), (1, .iload_n 1, 1), (2, .invokevirtual 317, 3), (5, .ifCond .eq 17, 3), (8, .aload_n 0, 1), (9, .iconst 1, 1), (10, .aload_n 0, 1), (11, .getfield 23, 3), (14, .iload_n 1, 1), (15, .iaload, 1), (16, .invokevirtual 288, 3), (19, .ifCond .ne 5, 3), (22, .iconst (-1), 1), (23, .ireturn, 1), (24, .aload_n 0, 1), (25, .iconst 3, 1), (26, .iload_n 1, 1), (27, .iconst (-1), 1), (28, .iconst 0, 1), (29, .invokevirtual 292, 3), (32, .istore_n 2, 1), (33, .iconst 0, 1), (34, .istore_n 3, 1), (35, .iload_n 3, 1), (36, .aload_n 0, 1), (37, .getfield 23, 3), (40, .iload_n 1, 1), (41, .iaload, 1), (42, .if_icmp .ge 20, 3), (45, .aload_n 0, 1), (46, .iload_n 2, 1), (47, .aload_n 0, 1), (48, .iload_n 1, 1), (49, .iload_n 3, 1), (50, .invokevirtual 311, 3), (53, .invokevirtual 296, 3), (56, .iinc 3 1, 3), (59, .goto (-24), 3), (62, .aload_n 0, 1), (63, .iload_n 1, 1), (64, .iconst 1, 1), (65, .invokevirtual 314, 3), (68, .iload_n 2, 1), (69, .ireturn, 1)] : List (Nat × Instr × Nat)), decode cX11_loop q.1 = .ok q.2 := by decide +kernel
set_option maxHeartbeats 4000000 in
set_option maxRecDepth 20000 in
theorem s11_loop_c35 {Y : m_Y Int} (S : m_Std Y RX11 cX11_loop) (E : m_End Y cX11_loop .ireturn (fun r => [m_i r])) {F : Nat} (hF : m_Rm Y F) (hFn : 4 ≤ F) (hN : Y.2.2.2.1 = 4) : ∀ (v0 v1 v2 v3 : Int) (h : m_H), m_Sim Y 35 [(0, m_r v0), (1, m_i v1), (2, m_i v2), (3, m_i v3)] [] h (t11_loop_c35 v0 v1 v2 v3 h) := by
  intro v0 v1 v2 v3 h
  refine ms_all fun r e => ?_
  refine t11_loop_c35.partial_correctness v0 v1 v2 (motive := fun v3 h r => m_Sim Y 35 [(0, m_r v0), (1, m_i v1), (2, m_i v2), (3, m_i v3)] [] h (some r)) ?_ v3 h r e
  intro f ih v3 h r e
  have ih : ∀ (v3 : Int) (h : m_H), m_Sim Y 35 [(0, m_r v0), (1, m_i v1), (2, m_i v2), (3, m_i v3)] [] h (f v3 h ) := fun v3 h  => ms_all fun r e => ih v3 h r e
  refine ms_use ?_ e
  clear e r
  refine ms_iload_n (pc := 35) S 3 rfl rfl (m_dec e11_loop 23 rfl) ?_
  refine ms_aload_n (pc := 36) S 0 rfl rfl (m_dec e11_loop 24 rfl) ?_
  refine ms_grd fun g1 => ?_
  refine ms_getf (pc := 37) S lf_X11_23 rfl (m_dec e11_loop 25 rfl) g1 ?_
  refine ms_iload_n (pc := 40) S 1 rfl rfl (m_dec e11_loop 26 rfl) ?_
  refine ms_grd fun g2 => ?_
  refine ms_iald (pc := 41) S g2 (m_dec e11_loop 27 rfl) ?_
  refine ms_icmp_ge (pc := 42) S (m_dec e11_loop 28 rfl) rfl (fun q3 => ?_) (fun q3 => ?_)
  · refine ms_aload_n (pc := 45) S 0 rfl rfl (m_dec e11_loop 29 rfl) ?_
    refine ms_iload_n (pc := 46) S 2 rfl rfl (m_dec e11_loop 30 rfl) ?_
    refine ms_aload_n (pc := 47) S 0 rfl rfl (m_dec e11_loop 31 rfl) ?_
    refine ms_iload_n (pc := 48) S 1 rfl rfl (m_dec e11_loop 32 rfl) ?_
    refine ms_iload_n (pc := 49) S 3 rfl rfl (m_dec e11_loop 33 rfl) ?_
    refine ms_callVi (pc := 50) S hF (vals := [m_i v1, m_i v3]) (st := [m_i v2, m_r v0]) (hc := vw_11) (hci := by decide) (hcy := rfl) (ht := g1) (hC := (k11_at _ _ v0 v1 v3 h)) (hM := lm_X11_311) (hfr := (Nat.le_trans (by decide) hFn)) (hstk := rfl) (hcat := Nat.le_of_ble_eq_true rfl) (hd := (m_dec e11_loop 34 rfl)) (k1 := fun r5 h4 => ?_)
    refine ms_grd fun g6 => ?_
    refine ms_callVv (pc := 53) S hF (vals := [m_i v2, m_i r5]) (st := []) (hc := vw_11) (hci := by decide) (hcy := rfl) (ht := g6) (hC := (k11_adds _ _ v0 v2 r5 h4)) (hM := lm_X11_296) (hfr := (Nat.le_trans (by decide) hFn)) (hstk := rfl) (hcat := Nat.le_of_ble_eq_true rfl) (hd := (m_dec e11_loop 35 rfl)) (k1 := fun h7 => ?_)
    refine ms_iinc (pc := 56) S (L' := [(0, m_r v0), (1, m_i v1), (2, m_i v2), (3, m_i (v3 + 1))]) 3 rfl [1, 2, 3, 0] rfl (m_lt hN rfl) (m_dec e11_loop 36 rfl) ?_
    refine ms_goto (pc := 59) S (m_dec e11_loop 37 rfl) rfl ?_
    exact ih (v3 + 1) h7
  · refine ms_aload_n (pc := 62) S 0 rfl rfl (m_dec e11_loop 38 rfl) ?_
    refine ms_iload_n (pc := 63) S 1 rfl rfl (m_dec e11_loop 39 rfl) ?_
    refine ms_iconst (pc := 64) S (m_dec e11_loop 40 rfl) ?_
    refine ms_callVv (pc := 65) S hF (vals := [m_i v1, m_i 1]) (st := []) (hc := vw_11) (hci := by decide) (hcy := rfl) (ht := g1) (hC := (k11_uses _ _ v0 v1 1 h)) (hM := lm_X11_314) (hfr := (Nat.le_trans (by decide) hFn)) (hstk := rfl) (hcat := Nat.le_of_ble_eq_true rfl) (hd := (m_dec e11_loop 41 rfl)) (k1 := fun h9 => ?_)
    refine ms_iload_n (pc := 68) S 2 rfl rfl (m_dec e11_loop 42 rfl) ?_
    exact ms_ret (pc := 69) E (m_dec e11_loop 43 rfl) rfl
set_option maxHeartbeats 4000000 in
set_option maxRecDepth 20000 in
theorem s11_loop {Y : m_Y Int} (S : m_Std Y RX11 cX11_loop) (E : m_End Y cX11_loop .ireturn (fun r => [m_i r])) {F : Nat} (hF : m_Rm Y F) (hFn : 4 ≤ F) (hN : Y.2.2.2.1 = 4) (v0 v1 : Int) (h : m_H) : m_Sim Y 0 [(0, m_r v0), (1, m_i v1)] [] h (t11_loop v0 v1 h) := by
  unfold t11_loop
  refine ms_aload_n (pc := 0) S 0 rfl rfl (m_dec e11_loop 0 rfl) ?_
  refine ms_iload_n (pc := 1) S 1 rfl rfl (m_dec e11_loop 1 rfl) ?_
  refine ms_grd fun g1 => ?_
  refine ms_callVz (pc := 2) S hF (vals := [m_i v1]) (st := []) (hc := vw_11) (hci := by decide) (hcy := rfl) (ht := g1) (hC := (k11_isPlain _ _ v0 v1 h)) (hM := lm_X11_317) (hfr := (Nat.le_trans (by decide) hFn)) (hstk := rfl) (hcat := Nat.le_of_ble_eq_true rfl) (hd := (m_dec e11_loop 2 rfl)) (k1 := fun r3 h2 => ?_)
  refine ms_ifb_eq (pc := 5) S (m_dec e11_loop 3 rfl) rfl (fun q4 => ?_) (fun q4 => ?_)
  · refine ms_aload_n (pc := 8) S 0 rfl rfl (m_dec e11_loop 4 rfl) ?_
    refine ms_iconst (pc := 9) S (m_dec e11_loop 5 rfl) ?_
    refine ms_aload_n (pc := 10) S 0 rfl rfl (m_dec e11_loop 6 rfl) ?_
    refine ms_grd fun g5 => ?_
    refine ms_getf (pc := 11) S lf_X11_23 rfl (m_dec e11_loop 7 rfl) g5 ?_
    refine ms_iload_n (pc := 14) S 1 rfl rfl (m_dec e11_loop 8 rfl) ?_
    refine ms_grd fun g6 => ?_
    refine ms_iald (pc := 15) S g6 (m_dec e11_loop 9 rfl) ?_
    refine ms_callVz (pc := 16) S hF (vals := [m_i 1, m_i (m_g h2 (m_g h2 v0 3) (m_w v1))]) (st := []) (hc := vw_11) (hci := by decide) (hcy := rfl) (ht := g5) (hC := (k11_isRoom _ _ v0 1 (m_g h2 (m_g h2 v0 3) (m_w v1)) h2)) (hM := lm_X11_288) (hfr := (Nat.le_trans (by decide) hFn)) (hstk := rfl) (hcat := Nat.le_of_ble_eq_true rfl) (hd := (m_dec e11_loop 10 rfl)) (k1 := fun r8 h7 => ?_)
    refine ms_ifb_ne (pc := 19) S (m_dec e11_loop 11 rfl) rfl (fun q9 => ?_) (fun q9 => ?_)
    · refine ms_aload_n (pc := 24) S 0 rfl rfl (m_dec e11_loop 14 rfl) ?_
      refine ms_iconst (pc := 25) S (m_dec e11_loop 15 rfl) ?_
      refine ms_iload_n (pc := 26) S 1 rfl rfl (m_dec e11_loop 16 rfl) ?_
      refine ms_iconst (pc := 27) S (m_dec e11_loop 17 rfl) ?_
      refine ms_iconst (pc := 28) S (m_dec e11_loop 18 rfl) ?_
      refine ms_grd fun g10 => ?_
      refine ms_callVi (pc := 29) S hF (vals := [m_i 3, m_i v1, m_i (-1), m_i 0]) (st := []) (hc := vw_11) (hci := by decide) (hcy := rfl) (ht := g10) (hC := (k11_comes _ _ v0 3 v1 (-1) 0 h7)) (hM := lm_X11_292) (hfr := (Nat.le_trans (by decide) hFn)) (hstk := rfl) (hcat := Nat.le_of_ble_eq_true rfl) (hd := (m_dec e11_loop 19 rfl)) (k1 := fun r12 h11 => ?_)
      refine ms_istore_n (pc := 32) S (L' := [(0, m_r v0), (1, m_i v1), (2, m_i r12)]) [1, 2, 0] rfl rfl (m_lt hN rfl) (m_dec e11_loop 20 rfl) ?_
      refine ms_iconst (pc := 33) S (m_dec e11_loop 21 rfl) ?_
      refine ms_istore_n (pc := 34) S (L' := [(0, m_r v0), (1, m_i v1), (2, m_i r12), (3, m_i 0)]) [1, 2, 3, 0] rfl rfl (m_lt hN rfl) (m_dec e11_loop 22 rfl) ?_
      exact s11_loop_c35 S E hF hFn hN v0 v1 r12 0 h11
    · refine ms_iconst (pc := 22) S (m_dec e11_loop 12 rfl) ?_
      exact ms_ret (pc := 23) E (m_dec e11_loop 13 rfl) rfl
  · refine ms_iconst (pc := 22) S (m_dec e11_loop 12 rfl) ?_
    exact ms_ret (pc := 23) E (m_dec e11_loop 13 rfl) rfl
theorem k11_loop (l : Launch) (d : m_D) (v0 v1 : Int) (h : m_H) : m_Con l d yX11_loop cX11_loop 4 (some .int) 4 (fun r => [m_i r]) [m_r v0, m_i v1] h (t11_loop v0 v1 h) :=
  m_con2 (by decide +kernel) (Nat.le_of_ble_eq_true rfl) (fun Y hN hRm hr hI S hfin => s11_loop S (m_end_i S hr hfin) hRm (Nat.le_refl _) hN v0 v1 h)
set_option maxRecDepth 100000 in
theorem e11_seam : ∀ q ∈ ([(0, .aload_n 0, 1), (1, .iload_n 1, 1), (2, .invokevirtual 271, 3), (5, .ifCond .eq 13, 3), (8, .aload_n 0, 1), (9, .getfield 26, 3), (12, .iload_n 1, 1), (13, .iaload, 1), (14, .iconst 3, 1), (15, .if_icmp .eq 5, 3), (18, .iconst (-1), 1), (19, .ireturn, 1), (20, .aload_n 0, 1), (21, .iload_n 1, 1), (22, .iconst 0, 1), (23, .invokevirtual 311, 3), (26, .aload_n 0, 1), (27, .iload_n 1, 1), (28, .aload_n 0, 1), (29, .getfield 23, 3), (32, .iload_n 1, 1), (33, .iaload, 1), (34, .iconst 1, 1), (35, .isub, 1), (36, .invokevirtual 311, 3), (39, .isub, 1), (40, .istore_n 2, 1), (41, .iload_n 2, 1), (42, .ifCond .ge 8, 3), (45, .iload_n 2, 1), (46, .ineg, 1), (47, .goto 4, 3), (50, .iload_n 2, 1), (51, .ireturn, 1)] : List (Nat × Instr × Nat)), decode cX11_seam q.1 = .ok q.2 := by decide +kernel
set_option maxHeartbeats 4000000 in
set_option maxRecDepth 20000 in
theorem s11_seam {Y : m_Y Int} (S : m_Std Y RX11 cX11_seam) (E : m_End Y cX11_seam .ireturn (fun r => [m_i r])) {F : Nat} (hF : m_Rm Y F) (hFn : 2 ≤ F) (hN : Y.2.2.2.1 = 3) (v0 v1 : Int) (h : m_H) : m_Sim Y 0 [(0, m_r v0), (1, m_i v1)] [] h (t11_seam v0 v1 h) := by
  unfold t11_seam
  refine ms_aload_n (pc := 0) S 0 rfl rfl (m_dec e11_seam 0 rfl) ?_
  refine ms_iload_n (pc := 1) S 1 rfl rfl (m_dec e11_seam 1 rfl) ?_
  refine ms_grd fun g1 => ?_
  refine ms_callVz (pc := 2) S hF (vals := [m_i v1]) (st := []) (hc := vw_11) (hci := by decide) (hcy := rfl) (ht := g1) (hC := (k11_isStrip _ _ v0 v1 h)) (hM := lm_X11_271) (hfr := (Nat.le_trans (by decide) hFn)) (hstk := rfl) (hcat := Nat.le_of_ble_eq_true rfl) (hd := (m_dec e11_seam 2 rfl)) (k1 := fun r3 h2 => ?_)
  refine ms_ifb_eq (pc := 5) S (m_dec e11_seam 3 rfl) rfl (fun q4 => ?_) (fun q4 => ?_)
  · refine ms_aload_n (pc := 8) S 0 rfl rfl (m_dec e11_seam 4 rfl) ?_
    refine ms_grd fun g5 => ?_
    refine ms_getf (pc := 9) S lf_X11_26 rfl (m_dec e11_seam 5 rfl) g5 ?_
    refine ms_iload_n (pc := 12) S 1 rfl rfl (m_dec e11_seam 6 rfl) ?_
    refine ms_grd fun g6 => ?_
    refine ms_iald (pc := 13) S g6 (m_dec e11_seam 7 rfl) ?_
    refine ms_iconst (pc := 14) S (m_dec e11_seam 8 rfl) ?_
    refine ms_icmp_eq (pc := 15) S (m_dec e11_seam 9 rfl) rfl (fun q7 => ?_) (fun q7 => ?_)
    · refine ms_aload_n (pc := 20) S 0 rfl rfl (m_dec e11_seam 12 rfl) ?_
      refine ms_iload_n (pc := 21) S 1 rfl rfl (m_dec e11_seam 13 rfl) ?_
      refine ms_iconst (pc := 22) S (m_dec e11_seam 14 rfl) ?_
      refine ms_callVi (pc := 23) S hF (vals := [m_i v1, m_i 0]) (st := []) (hc := vw_11) (hci := by decide) (hcy := rfl) (ht := g5) (hC := (k11_at _ _ v0 v1 0 h2)) (hM := lm_X11_311) (hfr := (Nat.le_trans (by decide) hFn)) (hstk := rfl) (hcat := Nat.le_of_ble_eq_true rfl) (hd := (m_dec e11_seam 15 rfl)) (k1 := fun r9 h8 => ?_)
      refine ms_aload_n (pc := 26) S 0 rfl rfl (m_dec e11_seam 16 rfl) ?_
      refine ms_iload_n (pc := 27) S 1 rfl rfl (m_dec e11_seam 17 rfl) ?_
      refine ms_aload_n (pc := 28) S 0 rfl rfl (m_dec e11_seam 18 rfl) ?_
      refine ms_grd fun g10 => ?_
      refine ms_getf (pc := 29) S lf_X11_23 rfl (m_dec e11_seam 19 rfl) g10 ?_
      refine ms_iload_n (pc := 32) S 1 rfl rfl (m_dec e11_seam 20 rfl) ?_
      refine ms_grd fun g11 => ?_
      refine ms_iald (pc := 33) S g11 (m_dec e11_seam 21 rfl) ?_
      refine ms_iconst (pc := 34) S (m_dec e11_seam 22 rfl) ?_
      refine ms_isub (pc := 35) S (m_dec e11_seam 23 rfl) ?_
      refine ms_callVi (pc := 36) S hF (vals := [m_i v1, m_i ((m_g h8 (m_g h8 v0 3) (m_w v1)) - 1)]) (st := [m_i r9]) (hc := vw_11) (hci := by decide) (hcy := rfl) (ht := g10) (hC := (k11_at _ _ v0 v1 ((m_g h8 (m_g h8 v0 3) (m_w v1)) - 1) h8)) (hM := lm_X11_311) (hfr := (Nat.le_trans (by decide) hFn)) (hstk := rfl) (hcat := Nat.le_of_ble_eq_true rfl) (hd := (m_dec e11_seam 24 rfl)) (k1 := fun r13 h12 => ?_)
      refine ms_isub (pc := 39) S (m_dec e11_seam 25 rfl) ?_
      refine ms_nm (st := fun x14 => [m_i x14]) fun x14 => ?_
      refine ms_istore_n (pc := 40) S (L' := [(2, m_i x14)]) [0] rfl rfl (m_lt hN rfl) (m_dec e11_seam 26 rfl) ?_
      refine ms_iload_n (pc := 41) S 0 rfl rfl (m_dec e11_seam 27 rfl) ?_
      refine ms_if_ge (pc := 42) S (m_dec e11_seam 28 rfl) rfl (fun q15 => ?_) (fun q15 => ?_)
      · refine ms_iload_n (pc := 45) S 0 rfl rfl (m_dec e11_seam 29 rfl) ?_
        refine ms_ineg (pc := 46) S (m_dec e11_seam 30 rfl) ?_
        refine ms_goto (pc := 47) S (m_dec e11_seam 31 rfl) rfl ?_
        exact ms_ret (pc := 51) E (m_dec e11_seam 33 rfl) rfl
      · refine ms_iload_n (pc := 50) S 0 rfl rfl (m_dec e11_seam 32 rfl) ?_
        exact ms_ret (pc := 51) E (m_dec e11_seam 33 rfl) rfl
    · refine ms_iconst (pc := 18) S (m_dec e11_seam 10 rfl) ?_
      exact ms_ret (pc := 19) E (m_dec e11_seam 11 rfl) rfl
  · refine ms_iconst (pc := 18) S (m_dec e11_seam 10 rfl) ?_
    exact ms_ret (pc := 19) E (m_dec e11_seam 11 rfl) rfl
theorem k11_seam (l : Launch) (d : m_D) (v0 v1 : Int) (h : m_H) : m_Con l d yX11_seam cX11_seam 3 (some .int) 2 (fun r => [m_i r]) [m_r v0, m_i v1] h (t11_seam v0 v1 h) :=
  m_con2 (by decide +kernel) (Nat.le_of_ble_eq_true rfl) (fun Y hN hRm hr hI S hfin => s11_seam S (m_end_i S hr hfin) hRm (Nat.le_refl _) hN v0 v1 h)
set_option maxRecDepth 100000 in
theorem e11_spliced : ∀ q ∈ ([(0, .iload_n 0, 1), (1, .i2l, 1), (2, .iload_n 3, 1), (3, .iload_n 2, 1), (4, .isub, 1), (5, .i2l, 1), (6, .lmul, 1), (7, .iload_n 1, 1), (8, .i2l, 1), (9, .iload_n 2, 1), (10, .iconst 1, 1), (11, .iadd, 1), (12, .i2l, 1), (13, .lmul, 1), (14, .ladd, 1), (15, .iload_n 3, 1), (16, .iconst 1, 1), (17, .iadd, 1), (18, .i2l, 1), (19, .ldiv, 1), (20, .invokestatic 320, 3), (23, .ireturn, 1)] : List (Nat × Instr × Nat)), decode cX11_spliced q.1 = .ok q.2 := by decide +kernel
set_option maxHeartbeats 4000000 in
set_option maxRecDepth 20000 in
theorem s11_spliced {Y : m_Y Int} (S : m_Std Y RX11 cX11_spliced) (E : m_End Y cX11_spliced .ireturn (fun r => [m_i r])) {F : Nat} (hF : m_Rm Y F) (hFn : 1 ≤ F) (hN : Y.2.2.2.1 = 4) (v0 v1 v2 v3 : Int) (h : m_H) : m_Sim Y 0 [(0, m_i v0), (1, m_i v1), (2, m_i v2), (3, m_i v3)] [] h (t11_spliced v0 v1 v2 v3 h) := by
  unfold t11_spliced
  refine ms_iload_n (pc := 0) S 0 rfl rfl (m_dec e11_spliced 0 rfl) ?_
  refine ms_i2l (pc := 1) S (m_dec e11_spliced 1 rfl) ?_
  refine ms_iload_n (pc := 2) S 3 rfl rfl (m_dec e11_spliced 2 rfl) ?_
  refine ms_iload_n (pc := 3) S 2 rfl rfl (m_dec e11_spliced 3 rfl) ?_
  refine ms_isub (pc := 4) S (m_dec e11_spliced 4 rfl) ?_
  refine ms_i2l (pc := 5) S (m_dec e11_spliced 5 rfl) ?_
  refine ms_lmul (pc := 6) S (m_dec e11_spliced 6 rfl) ?_
  refine ms_iload_n (pc := 7) S 1 rfl rfl (m_dec e11_spliced 7 rfl) ?_
  refine ms_i2l (pc := 8) S (m_dec e11_spliced 8 rfl) ?_
  refine ms_iload_n (pc := 9) S 2 rfl rfl (m_dec e11_spliced 9 rfl) ?_
  refine ms_iconst (pc := 10) S (m_dec e11_spliced 10 rfl) ?_
  refine ms_iadd (pc := 11) S (m_dec e11_spliced 11 rfl) ?_
  refine ms_i2l (pc := 12) S (m_dec e11_spliced 12 rfl) ?_
  refine ms_lmul (pc := 13) S (m_dec e11_spliced 13 rfl) ?_
  refine ms_ladd (pc := 14) S (m_dec e11_spliced 14 rfl) ?_
  refine ms_iload_n (pc := 15) S 3 rfl rfl (m_dec e11_spliced 15 rfl) ?_
  refine ms_iconst (pc := 16) S (m_dec e11_spliced 16 rfl) ?_
  refine ms_iadd (pc := 17) S (m_dec e11_spliced 17 rfl) ?_
  refine ms_i2l (pc := 18) S (m_dec e11_spliced 18 rfl) ?_
  refine ms_ldiv (pc := 19) S (m_dec e11_spliced 19 rfl) ?_
  refine ms_callSi (pc := 20) S hF (vals := [m_j (Int.tdiv (m_v (((m_w v0) * (m_w (v3 - v2))) + ((m_w v1) * (m_w (v2 + 1))))) (m_v (m_w (v3 + 1))))]) (st := [])  (hC := (k11_bounded _ _ (Int.tdiv (m_v (((m_w v0) * (m_w (v3 - v2))) + ((m_w v1) * (m_w (v2 + 1))))) (m_v (m_w (v3 + 1)))) h)) (hM := lm_X11_320) (hfr := (Nat.le_trans (by decide) hFn)) (hstk := rfl) (hcat := Nat.le_of_ble_eq_true rfl) (hd := (m_dec e11_spliced 20 rfl)) (k1 := fun r2 h1 => ?_)
  exact ms_ret (pc := 23) E (m_dec e11_spliced 21 rfl) rfl
theorem k11_spliced (l : Launch) (d : m_D) (v0 v1 v2 v3 : Int) (h : m_H) : m_Con l d yX11_spliced cX11_spliced 4 (some .int) 1 (fun r => [m_i r]) [m_i v0, m_i v1, m_i v2, m_i v3] h (t11_spliced v0 v1 v2 v3 h) :=
  m_con2 (by decide +kernel) (Nat.le_of_ble_eq_true rfl) (fun Y hN hRm hr hI S hfin => s11_spliced S (m_end_i S hr hfin) hRm (Nat.le_refl _) hN v0 v1 v2 v3 h)
set_option maxRecDepth 100000 in
theorem e11_splice : ∀ q ∈ ([(0, .aload_n 0, 1), (1, .iload_n 1, 1), (2, .invokevirtual 317, 3), (5, .ifCond .eq 48, 3), (8, .aload_n 0, 1), (9, .iload_n 2, 1), (10, .invokevirtual 317, 3), (13, .ifCond .eq 40, 3), (16, .iload_n 1, 1), (17, .iload_n 2, 1), (18, .if_icmp .eq 35, 3), (21, .iload_n 3, 1), (22, .i2l, 1), (23, .lconst 0, 1), (24, .ldc2_w 324, 3), (27, .invokestatic 268, 3), (30, .ifCond .eq 23, 3), (33, .iload_n 3, 1), (34, .aload_n 0, 1), (35, .getfield 23, 3), (38, .iload_n 1, 1), (39, .iaload, 1), (40, .if_icmp .gt 13, 3), (43, .iload_n 3, 1), (44, .aload_n 0, 1), (45, .getfield 23, 3), (48, .iload_n 2, 1), (49, .iaload, 1), (50, .if_icmp .le 5, 3), (53, .iconst (-1), 1), (54, .ireturn, 1), (55, .aload_n 0, 1), (56, .getfield 23, 3), (59, .iload_n 1, 1), (60, .iaload, 1), (61, .aload_n 0, 1), (62, .getfield 23, 3), (65, .iload_n 2, 1), (66, .iaload, 1), (67, .iadd, 1), (68, .iload_n 3, 1), (69, .isub, 1), (70, .istore 4, 2), (72, .iload 4, 2), (74, .sipush 300, 3), (77, .if_icmp .gt 13, 3), (80, .aload_n 0, 1), (81, .iconst 1, 1), (82, .iload 4, 2), (84, .invokevirtual 288, 3), (87, .ifCond .ne 5, 3), (90, .iconst (-1), 1), (91, .ireturn, 1), (92, .aload_n 0, 1), (93, .iconst 4, 1), (94, .iload_n 1, 1), (95, .iload_n 2, 1), (96, .iconst 0, 1), (97, .invokevirtual 292, 3), (100, .istore 5, 2), (102, .aload_n 0, 1), (103, .getfield 32, 3), (106, .iload_n 2, 1), (107, .iaload, 1), (108, .aload_n 0, 1), (109, .getfield 32, 3), (112, .iload 5, 2), (114, .iaload, 1), (115, .if_icmp .le 16, 3), (118, .aload_n 0, 1), (119, .getfield 32, 3), (122, .iload 5, 2), (124, .aload_n 0, 1), (125, .getfield 32, 3), (128, .iload_n 2, 1), (129, .iaload, 1), (130, .iastore, 1), (131, .aload_n 0, 1), (132, .getfield 35, 3), (135, .iload_n 2, 1), (136, .iaload, 1), (137, .aload_n 0, 1), (138, .getfield 35, 3), (141, .iload 5, 2), (143, .iaload, 1), (144, .if_icmp .le 16, 3), (147, .aload_n 0, 1), (148, .getfield 35, 3), (151, .iload 5, 2), (153, .aload_n 0, 1), (154, .getfield 35, 3), (157, .iload_n 2, 1), (158, .iaload, 1), (159, .iastore, 1), (160, .aload_n 0, 1), (161, .getfield 38, 3), (164, .iload_n 2, 1), (165, .iaload, 1), (166, .aload_n 0, 1), (167, .getfield 38, 3), (170, .iload 5, 2), (172, .iaload, 1), (173, .if_icmp .le 16, 3), (176, .aload_n 0, 1), (177, .getfield 38, 3), (180, .iload 5, 2), (182, .aload_n 0, 1), (183, .getfield 38, 3), (186, .iload_n 2, 1), (187, .iaload, 1), (188, .iastore, 1), (189, .iconst 0, 1), (190, .istore 6, 2), (192, .iload 6, 2), (194, .aload_n 0, 1), (195, .getfield 23, 3), (198, .iload_n 1, 1), (199, .iaload, 1), (200, .iload_n 3, 1), (201, .isub, 1), (202, .if_icmp .ge 22, 3), (205, .aload_n 0, 1), (206, .iload 5, 2), (208, .aload_n 0, 1), (209, .iload_n 1, 1), (210, .iload 6, 2), (212, .invokevirtual 311, 3), (215, .invokevirtual 296, 3), (218, .iinc 6 1, 3), (221, .goto (-29), 3), (224, .iconst 0, 1), (225, .istore 6, 2), (227, .iload 6, 2), (229, .iload_n 3, 1), (230, .if_icmp .ge 44, 3), (233, .aload_n 0, 1), (234, .iload 5, 2), (236, .aload_n 0, 1), (237, .iload_n 1, 1), (238, .aload_n 0, 1), (239, .getfield 23, 3), (242, .iload_n 1, 1), (243, .iaload, 1), (244, .iload_n 3, 1), (245, .isub, 1), (246, .iload 6, 2), (248, .iadd, 1), (249, .invokevirtual 311, 3), (252, .aload_n 0, 1), (253, .iload_n 2, 1), (254, .iload 6, 2), (256, .invokevirtual 311, 3), (259, .iload 6, 2), (261, .iload_n 3, 1), (262, .invokestatic 326, 3), (265, .invokevirtual 296, 3), (268, .iinc 6 1, 3), (271, .goto (-44), 3), (274, .iload_n 3, 1), (275, .istore 6, 2), (277, .iload 6, 2), (279, .aload_n 0, 1), (280, .getfield 23, 3), (283, .iload_n 2, 1), (284, .iaload, 1), (285, .if_icmp .ge 22, 3), (288, .aload_n 0, 1), (289, .iload 5, 2), (291, .aload_n 0, 1), (292, .iload_n 2, 1), (293, .iload 6, 2), (295, .invokevirtual 311, 3), (298, .invokevirtual 296, 3), (301, .iinc 6 1, 3), (304, .goto (-27), 3), (307, .aload_n 0, 1), (308, .iload_n 1, 1), (309, .iconst 1, 1), (310, .invokevirtual 314, 3), (313, .aload_n 0, 1), (314, .iload_n 2, 1), (315, .iconst 1, 1), (316, .invokevirtual 314, 3), (319, .iload 5, 2), (321, .ireturn, 1)] : List (Nat × Instr × Nat)), decode cX11_splice q.1 = .ok q.2 := by decide +kernel
set_option maxHeartbeats 4000000 in
set_option maxRecDepth 20000 in
theorem s11_splice_c277 {Y : m_Y Int} (S : m_Std Y RX11 cX11_splice) (E : m_End Y cX11_splice .ireturn (fun r => [m_i r])) {F : Nat} (hF : m_Rm Y F) (hFn : 4 ≤ F) (hN : Y.2.2.2.1 = 7) : ∀ (v0 v1 v2 v5 v6 : Int) (h : m_H), m_Sim Y 277 [(0, m_r v0), (1, m_i v1), (2, m_i v2), (5, m_i v5), (6, m_i v6)] [] h (t11_splice_c277 v0 v1 v2 v5 v6 h) := by
  intro v0 v1 v2 v5 v6 h
  refine ms_all fun r e => ?_
  refine t11_splice_c277.partial_correctness v0 v1 v2 v5 (motive := fun v6 h r => m_Sim Y 277 [(0, m_r v0), (1, m_i v1), (2, m_i v2), (5, m_i v5), (6, m_i v6)] [] h (some r)) ?_ v6 h r e
  intro f ih v6 h r e
  have ih : ∀ (v6 : Int) (h : m_H), m_Sim Y 277 [(0, m_r v0), (1, m_i v1), (2, m_i v2), (5, m_i v5), (6, m_i v6)] [] h (f v6 h ) := fun v6 h  => ms_all fun r e => ih v6 h r e
  refine ms_use ?_ e
  clear e r
  refine ms_iload (pc := 277) S 4 rfl (m_dec e11_splice 160 rfl) ?_
  refine ms_aload_n (pc := 279) S 0 rfl rfl (m_dec e11_splice 161 rfl) ?_
  refine ms_grd fun g1 => ?_
  refine ms_getf (pc := 280) S lf_X11_23 rfl (m_dec e11_splice 162 rfl) g1 ?_
  refine ms_iload_n (pc := 283) S 2 rfl rfl (m_dec e11_splice 163 rfl) ?_
  refine ms_grd fun g2 => ?_
  refine ms_iald (pc := 284) S g2 (m_dec e11_splice 164 rfl) ?_
  refine ms_icmp_ge (pc := 285) S (m_dec e11_splice 165 rfl) rfl (fun q3 => ?_) (fun q3 => ?_)
  · refine ms_aload_n (pc := 288) S 0 rfl rfl (m_dec e11_splice 166 rfl) ?_
    refine ms_iload (pc := 289) S 3 rfl (m_dec e11_splice 167 rfl) ?_
    refine ms_aload_n (pc := 291) S 0 rfl rfl (m_dec e11_splice 168 rfl) ?_
    refine ms_iload_n (pc := 292) S 2 rfl rfl (m_dec e11_splice 169 rfl) ?_
    refine ms_iload (pc := 293) S 4 rfl (m_dec e11_splice 170 rfl) ?_
    refine ms_callVi (pc := 295) S hF (vals := [m_i v2, m_i v6]) (st := [m_i v5, m_r v0]) (hc := vw_11) (hci := by decide) (hcy := rfl) (ht := g1) (hC := (k11_at _ _ v0 v2 v6 h)) (hM := lm_X11_311) (hfr := (Nat.le_trans (by decide) hFn)) (hstk := rfl) (hcat := Nat.le_of_ble_eq_true rfl) (hd := (m_dec e11_splice 171 rfl)) (k1 := fun r5 h4 => ?_)
    refine ms_grd fun g6 => ?_
    refine ms_callVv (pc := 298) S hF (vals := [m_i v5, m_i r5]) (st := []) (hc := vw_11) (hci := by decide) (hcy := rfl) (ht := g6) (hC := (k11_adds _ _ v0 v5 r5 h4)) (hM := lm_X11_296) (hfr := (Nat.le_trans (by decide) hFn)) (hstk := rfl) (hcat := Nat.le_of_ble_eq_true rfl) (hd := (m_dec e11_splice 172 rfl)) (k1 := fun h7 => ?_)
    refine ms_iinc (pc := 301) S (L' := [(0, m_r v0), (1, m_i v1), (2, m_i v2), (5, m_i v5), (6, m_i (v6 + 1))]) 4 rfl [1, 2, 3, 4, 0] rfl (m_lt hN rfl) (m_dec e11_splice 173 rfl) ?_
    refine ms_goto (pc := 304) S (m_dec e11_splice 174 rfl) rfl ?_
    exact ih (v6 + 1) h7
  · refine ms_aload_n (pc := 307) S 0 rfl rfl (m_dec e11_splice 175 rfl) ?_
    refine ms_iload_n (pc := 308) S 1 rfl rfl (m_dec e11_splice 176 rfl) ?_
    refine ms_iconst (pc := 309) S (m_dec e11_splice 177 rfl) ?_
    refine ms_callVv (pc := 310) S hF (vals := [m_i v1, m_i 1]) (st := []) (hc := vw_11) (hci := by decide) (hcy := rfl) (ht := g1) (hC := (k11_uses _ _ v0 v1 1 h)) (hM := lm_X11_314) (hfr := (Nat.le_trans (by decide) hFn)) (hstk := rfl) (hcat := Nat.le_of_ble_eq_true rfl) (hd := (m_dec e11_splice 178 rfl)) (k1 := fun h9 => ?_)
    refine ms_aload_n (pc := 313) S 0 rfl rfl (m_dec e11_splice 179 rfl) ?_
    refine ms_iload_n (pc := 314) S 2 rfl rfl (m_dec e11_splice 180 rfl) ?_
    refine ms_iconst (pc := 315) S (m_dec e11_splice 181 rfl) ?_
    refine ms_grd fun g11 => ?_
    refine ms_callVv (pc := 316) S hF (vals := [m_i v2, m_i 1]) (st := []) (hc := vw_11) (hci := by decide) (hcy := rfl) (ht := g11) (hC := (k11_uses _ _ v0 v2 1 h9)) (hM := lm_X11_314) (hfr := (Nat.le_trans (by decide) hFn)) (hstk := rfl) (hcat := Nat.le_of_ble_eq_true rfl) (hd := (m_dec e11_splice 182 rfl)) (k1 := fun h12 => ?_)
    refine ms_iload (pc := 319) S 3 rfl (m_dec e11_splice 183 rfl) ?_
    exact ms_ret (pc := 321) E (m_dec e11_splice 184 rfl) rfl
set_option maxHeartbeats 4000000 in
set_option maxRecDepth 20000 in
theorem s11_splice_c227 {Y : m_Y Int} (S : m_Std Y RX11 cX11_splice) (E : m_End Y cX11_splice .ireturn (fun r => [m_i r])) {F : Nat} (hF : m_Rm Y F) (hFn : 4 ≤ F) (hN : Y.2.2.2.1 = 7) : ∀ (v0 v1 v2 v3 v5 v6 : Int) (h : m_H), m_Sim Y 227 [(0, m_r v0), (1, m_i v1), (2, m_i v2), (3, m_i v3), (5, m_i v5), (6, m_i v6)] [] h (t11_splice_c227 v0 v1 v2 v3 v5 v6 h) := by
  intro v0 v1 v2 v3 v5 v6 h
  refine ms_all fun r e => ?_
  refine t11_splice_c227.partial_correctness v0 v1 v2 v3 v5 (motive := fun v6 h r => m_Sim Y 227 [(0, m_r v0), (1, m_i v1), (2, m_i v2), (3, m_i v3), (5, m_i v5), (6, m_i v6)] [] h (some r)) ?_ v6 h r e
  intro f ih v6 h r e
  have ih : ∀ (v6 : Int) (h : m_H), m_Sim Y 227 [(0, m_r v0), (1, m_i v1), (2, m_i v2), (3, m_i v3), (5, m_i v5), (6, m_i v6)] [] h (f v6 h ) := fun v6 h  => ms_all fun r e => ih v6 h r e
  refine ms_use ?_ e
  clear e r
  refine ms_iload (pc := 227) S 5 rfl (m_dec e11_splice 132 rfl) ?_
  refine ms_iload_n (pc := 229) S 3 rfl rfl (m_dec e11_splice 133 rfl) ?_
  refine ms_icmp_ge (pc := 230) S (m_dec e11_splice 134 rfl) rfl (fun q1 => ?_) (fun q1 => ?_)
  · refine ms_aload_n (pc := 233) S 0 rfl rfl (m_dec e11_splice 135 rfl) ?_
    refine ms_iload (pc := 234) S 4 rfl (m_dec e11_splice 136 rfl) ?_
    refine ms_aload_n (pc := 236) S 0 rfl rfl (m_dec e11_splice 137 rfl) ?_
    refine ms_iload_n (pc := 237) S 1 rfl rfl (m_dec e11_splice 138 rfl) ?_
    refine ms_aload_n (pc := 238) S 0 rfl rfl (m_dec e11_splice 139 rfl) ?_
    refine ms_grd fun g2 => ?_
    refine ms_getf (pc := 239) S lf_X11_23 rfl (m_dec e11_splice 140 rfl) g2 ?_
    refine ms_iload_n (pc := 242) S 1 rfl rfl (m_dec e11_splice 141 rfl) ?_
    refine ms_grd fun g3 => ?_
    refine ms_iald (pc := 243) S g3 (m_dec e11_splice 142 rfl) ?_
    refine ms_iload_n (pc := 244) S 3 rfl rfl (m_dec e11_splice 143 rfl) ?_
    refine ms_isub (pc := 245) S (m_dec e11_splice 144 rfl) ?_
    refine ms_iload (pc := 246) S 5 rfl (m_dec e11_splice 145 rfl) ?_
    refine ms_iadd (pc := 248) S (m_dec e11_splice 146 rfl) ?_
    refine ms_callVi (pc := 249) S hF (vals := [m_i v1, m_i (((m_g h (m_g h v0 3) (m_w v1)) - v3) + v6)]) (st := [m_i v5, m_r v0]) (hc := vw_11) (hci := by decide) (hcy := rfl) (ht := g2) (hC := (k11_at _ _ v0 v1 (((m_g h (m_g h v0 3) (m_w v1)) - v3) + v6) h)) (hM := lm_X11_311) (hfr := (Nat.le_trans (by decide) hFn)) (hstk := rfl) (hcat := Nat.le_of_ble_eq_true rfl) (hd := (m_dec e11_splice 147 rfl)) (k1 := fun r5 h4 => ?_)
    refine ms_aload_n (pc := 252) S 0 rfl rfl (m_dec e11_splice 148 rfl) ?_
    refine ms_iload_n (pc := 253) S 2 rfl rfl (m_dec e11_splice 149 rfl) ?_
    refine ms_iload (pc := 254) S 5 rfl (m_dec e11_splice 150 rfl) ?_
    refine ms_grd fun g6 => ?_
    refine ms_callVi (pc := 256) S hF (vals := [m_i v2, m_i v6]) (st := [m_i r5, m_i v5, m_r v0]) (hc := vw_11) (hci := by decide) (hcy := rfl) (ht := g6) (hC := (k11_at _ _ v0 v2 v6 h4)) (hM := lm_X11_311) (hfr := (Nat.le_trans (by decide) hFn)) (hstk := rfl) (hcat := Nat.le_of_ble_eq_true rfl) (hd := (m_dec e11_splice 151 rfl)) (k1 := fun r8 h7 => ?_)
    refine ms_iload (pc := 259) S 5 rfl (m_dec e11_splice 152 rfl) ?_
    refine ms_iload_n (pc := 261) S 3 rfl rfl (m_dec e11_splice 153 rfl) ?_
    refine ms_callSi (pc := 262) S hF (vals := [m_i r5, m_i r8, m_i v6, m_i v3]) (st := [m_i v5, m_r v0])  (hC := (k11_spliced _ _ r5 r8 v6 v3 h7)) (hM := lm_X11_326) (hfr := (Nat.le_trans (by decide) hFn)) (hstk := rfl) (hcat := Nat.le_of_ble_eq_true rfl) (hd := (m_dec e11_splice 154 rfl)) (k1 := fun r10 h9 => ?_)
    refine ms_grd fun g11 => ?_
    refine ms_callVv (pc := 265) S hF (vals := [m_i v5, m_i r10]) (st := []) (hc := vw_11) (hci := by decide) (hcy := rfl) (ht := g11) (hC := (k11_adds _ _ v0 v5 r10 h9)) (hM := lm_X11_296) (hfr := (Nat.le_trans (by decide) hFn)) (hstk := rfl) (hcat := Nat.le_of_ble_eq_true rfl) (hd := (m_dec e11_splice 155 rfl)) (k1 := fun h12 => ?_)
    refine ms_iinc (pc := 268) S (L' := [(0, m_r v0), (1, m_i v1), (2, m_i v2), (3, m_i v3), (5, m_i v5), (6, m_i (v6 + 1))]) 5 rfl [1, 2, 3, 4, 5, 0] rfl (m_lt hN rfl) (m_dec e11_splice 156 rfl) ?_
    refine ms_goto (pc := 271) S (m_dec e11_splice 157 rfl) rfl ?_
    exact ih (v6 + 1) h12
  · refine ms_iload_n (pc := 274) S 3 rfl rfl (m_dec e11_splice 158 rfl) ?_
    refine ms_istore (pc := 275) S (L' := [(0, m_r v0), (1, m_i v1), (2, m_i v2), (5, m_i v5), (6, m_i v3)]) [1, 2, 3, 5, 0] rfl (m_lt hN rfl) (m_dec e11_splice 159 rfl) ?_
    exact s11_splice_c277 S E hF hFn hN v0 v1 v2 v5 v3 h
set_option maxHeartbeats 4000000 in
set_option maxRecDepth 20000 in
theorem s11_splice_c192 {Y : m_Y Int} (S : m_Std Y RX11 cX11_splice) (E : m_End Y cX11_splice .ireturn (fun r => [m_i r])) {F : Nat} (hF : m_Rm Y F) (hFn : 4 ≤ F) (hN : Y.2.2.2.1 = 7) : ∀ (v0 v1 v2 v3 v5 v6 : Int) (h : m_H), m_Sim Y 192 [(0, m_r v0), (1, m_i v1), (2, m_i v2), (3, m_i v3), (5, m_i v5), (6, m_i v6)] [] h (t11_splice_c192 v0 v1 v2 v3 v5 v6 h) := by
  intro v0 v1 v2 v3 v5 v6 h
  refine ms_all fun r e => ?_
  refine t11_splice_c192.partial_correctness v0 v1 v2 v3 v5 (motive := fun v6 h r => m_Sim Y 192 [(0, m_r v0), (1, m_i v1), (2, m_i v2), (3, m_i v3), (5, m_i v5), (6, m_i v6)] [] h (some r)) ?_ v6 h r e
  intro f ih v6 h r e
  have ih : ∀ (v6 : Int) (h : m_H), m_Sim Y 192 [(0, m_r v0), (1, m_i v1), (2, m_i v2), (3, m_i v3), (5, m_i v5), (6, m_i v6)] [] h (f v6 h ) := fun v6 h  => ms_all fun r e => ih v6 h r e
  refine ms_use ?_ e
  clear e r
  refine ms_iload (pc := 192) S 5 rfl (m_dec e11_splice 113 rfl) ?_
  refine ms_aload_n (pc := 194) S 0 rfl rfl (m_dec e11_splice 114 rfl) ?_
  refine ms_grd fun g1 => ?_
  refine ms_getf (pc := 195) S lf_X11_23 rfl (m_dec e11_splice 115 rfl) g1 ?_
  refine ms_iload_n (pc := 198) S 1 rfl rfl (m_dec e11_splice 116 rfl) ?_
  refine ms_grd fun g2 => ?_
  refine ms_iald (pc := 199) S g2 (m_dec e11_splice 117 rfl) ?_
  refine ms_iload_n (pc := 200) S 3 rfl rfl (m_dec e11_splice 118 rfl) ?_
  refine ms_isub (pc := 201) S (m_dec e11_splice 119 rfl) ?_
  refine ms_icmp_ge (pc := 202) S (m_dec e11_splice 120 rfl) rfl (fun q3 => ?_) (fun q3 => ?_)
  · refine ms_aload_n (pc := 205) S 0 rfl rfl (m_dec e11_splice 121 rfl) ?_
    refine ms_iload (pc := 206) S 4 rfl (m_dec e11_splice 122 rfl) ?_
    refine ms_aload_n (pc := 208) S 0 rfl rfl (m_dec e11_splice 123 rfl) ?_
    refine ms_iload_n (pc := 209) S 1 rfl rfl (m_dec e11_splice 124 rfl) ?_
    refine ms_iload (pc := 210) S 5 rfl (m_dec e11_splice 125 rfl) ?_
    refine ms_callVi (pc := 212) S hF (vals := [m_i v1, m_i v6]) (st := [m_i v5, m_r v0]) (hc := vw_11) (hci := by decide) (hcy := rfl) (ht := g1) (hC := (k11_at _ _ v0 v1 v6 h)) (hM := lm_X11_311) (hfr := (Nat.le_trans (by decide) hFn)) (hstk := rfl) (hcat := Nat.le_of_ble_eq_true rfl) (hd := (m_dec e11_splice 126 rfl)) (k1 := fun r5 h4 => ?_)
    refine ms_grd fun g6 => ?_
    refine ms_callVv (pc := 215) S hF (vals := [m_i v5, m_i r5]) (st := []) (hc := vw_11) (hci := by decide) (hcy := rfl) (ht := g6) (hC := (k11_adds _ _ v0 v5 r5 h4)) (hM := lm_X11_296) (hfr := (Nat.le_trans (by decide) hFn)) (hstk := rfl) (hcat := Nat.le_of_ble_eq_true rfl) (hd := (m_dec e11_splice 127 rfl)) (k1 := fun h7 => ?_)
    refine ms_iinc (pc := 218) S (L' := [(0, m_r v0), (1, m_i v1), (2, m_i v2), (3, m_i v3), (5, m_i v5), (6, m_i (v6 + 1))]) 5 rfl [1, 2, 3, 4, 5, 0] rfl (m_lt hN rfl) (m_dec e11_splice 128 rfl) ?_
    refine ms_goto (pc := 221) S (m_dec e11_splice 129 rfl) rfl ?_
    exact ih (v6 + 1) h7
  · refine ms_iconst (pc := 224) S (m_dec e11_splice 130 rfl) ?_
    refine ms_istore (pc := 225) S (L' := [(0, m_r v0), (1, m_i v1), (2, m_i v2), (3, m_i v3), (5, m_i v5), (6, m_i 0)]) [1, 2, 3, 4, 5, 0] rfl (m_lt hN rfl) (m_dec e11_splice 131 rfl) ?_
    exact s11_splice_c227 S E hF hFn hN v0 v1 v2 v3 v5 0 h
set_option maxHeartbeats 4000000 in
set_option maxRecDepth 20000 in
theorem s11_splice_c160 {Y : m_Y Int} (S : m_Std Y RX11 cX11_splice) (E : m_End Y cX11_splice .ireturn (fun r => [m_i r])) {F : Nat} (hF : m_Rm Y F) (hFn : 4 ≤ F) (hN : Y.2.2.2.1 = 7) (v0 v1 v2 v3 v5 : Int) (h : m_H) : m_Sim Y 160 [(0, m_r v0), (1, m_i v1), (2, m_i v2), (3, m_i v3), (5, m_i v5)] [] h (t11_splice_c160 v0 v1 v2 v3 v5 h) := by
  unfold t11_splice_c160
  refine ms_aload_n (pc := 160) S 0 rfl rfl (m_dec e11_splice 94 rfl) ?_
  refine ms_grd fun g1 => ?_
  refine ms_getf (pc := 161) S lf_X11_38 rfl (m_dec e11_splice 95 rfl) g1 ?_
  refine ms_iload_n (pc := 164) S 2 rfl rfl (m_dec e11_splice 96 rfl) ?_
  refine ms_grd fun g2 => ?_
  refine ms_iald (pc := 165) S g2 (m_dec e11_splice 97 rfl) ?_
  refine ms_aload_n (pc := 166) S 0 rfl rfl (m_dec e11_splice 98 rfl) ?_
  refine ms_getf (pc := 167) S lf_X11_38 rfl (m_dec e11_splice 99 rfl) g1 ?_
  refine ms_iload (pc := 170) S 4 rfl (m_dec e11_splice 100 rfl) ?_
  refine ms_grd fun g3 => ?_
  refine ms_iald (pc := 172) S g3 (m_dec e11_splice 101 rfl) ?_
  refine ms_icmp_le (pc := 173) S (m_dec e11_splice 102 rfl) rfl (fun q4 => ?_) (fun q4 => ?_)
  · refine ms_aload_n (pc := 176) S 0 rfl rfl (m_dec e11_splice 103 rfl) ?_
    refine ms_getf (pc := 177) S lf_X11_38 rfl (m_dec e11_splice 104 rfl) g1 ?_
    refine ms_iload (pc := 180) S 4 rfl (m_dec e11_splice 105 rfl) ?_
    refine ms_aload_n (pc := 182) S 0 rfl rfl (m_dec e11_splice 106 rfl) ?_
    refine ms_getf (pc := 183) S lf_X11_38 rfl (m_dec e11_splice 107 rfl) g1 ?_
    refine ms_iload_n (pc := 186) S 2 rfl rfl (m_dec e11_splice 108 rfl) ?_
    refine ms_iald (pc := 187) S g2 (m_dec e11_splice 109 rfl) ?_
    refine ms_iast (pc := 188) S g3 (m_dec e11_splice 110 rfl) (fun h5 => ?_)
    refine ms_iconst (pc := 189) S (m_dec e11_splice 111 rfl) ?_
    refine ms_istore (pc := 190) S (L' := [(0, m_r v0), (1, m_i v1), (2, m_i v2), (3, m_i v3), (5, m_i v5), (6, m_i 0)]) [1, 2, 3, 4, 5, 0] rfl (m_lt hN rfl) (m_dec e11_splice 112 rfl) ?_
    exact s11_splice_c192 S E hF hFn hN v0 v1 v2 v3 v5 0 h5
  · refine ms_iconst (pc := 189) S (m_dec e11_splice 111 rfl) ?_
    refine ms_istore (pc := 190) S (L' := [(0, m_r v0), (1, m_i v1), (2, m_i v2), (3, m_i v3), (5, m_i v5), (6, m_i 0)]) [1, 2, 3, 4, 5, 0] rfl (m_lt hN rfl) (m_dec e11_splice 112 rfl) ?_
    exact s11_splice_c192 S E hF hFn hN v0 v1 v2 v3 v5 0 h
set_option maxHeartbeats 4000000 in
set_option maxRecDepth 20000 in
theorem s11_splice_c131 {Y : m_Y Int} (S : m_Std Y RX11 cX11_splice) (E : m_End Y cX11_splice .ireturn (fun r => [m_i r])) {F : Nat} (hF : m_Rm Y F) (hFn : 4 ≤ F) (hN : Y.2.2.2.1 = 7) (v0 v1 v2 v3 v5 : Int) (h : m_H) : m_Sim Y 131 [(0, m_r v0), (1, m_i v1), (2, m_i v2), (3, m_i v3), (5, m_i v5)] [] h (t11_splice_c131 v0 v1 v2 v3 v5 h) := by
  unfold t11_splice_c131
  refine ms_aload_n (pc := 131) S 0 rfl rfl (m_dec e11_splice 77 rfl) ?_
  refine ms_grd fun g1 => ?_
  refine ms_getf (pc := 132) S lf_X11_35 rfl (m_dec e11_splice 78 rfl) g1 ?_
  refine ms_iload_n (pc := 135) S 2 rfl rfl (m_dec e11_splice 79 rfl) ?_
  refine ms_grd fun g2 => ?_
  refine ms_iald (pc := 136) S g2 (m_dec e11_splice 80 rfl) ?_
  refine ms_aload_n (pc := 137) S 0 rfl rfl (m_dec e11_splice 81 rfl) ?_
  refine ms_getf (pc := 138) S lf_X11_35 rfl (m_dec e11_splice 82 rfl) g1 ?_
  refine ms_iload (pc := 141) S 4 rfl (m_dec e11_splice 83 rfl) ?_
  refine ms_grd fun g3 => ?_
  refine ms_iald (pc := 143) S g3 (m_dec e11_splice 84 rfl) ?_
  refine ms_icmp_le (pc := 144) S (m_dec e11_splice 85 rfl) rfl (fun q4 => ?_) (fun q4 => ?_)
  · refine ms_aload_n (pc := 147) S 0 rfl rfl (m_dec e11_splice 86 rfl) ?_
    refine ms_getf (pc := 148) S lf_X11_35 rfl (m_dec e11_splice 87 rfl) g1 ?_
    refine ms_iload (pc := 151) S 4 rfl (m_dec e11_splice 88 rfl) ?_
    refine ms_aload_n (pc := 153) S 0 rfl rfl (m_dec e11_splice 89 rfl) ?_
    refine ms_getf (pc := 154) S lf_X11_35 rfl (m_dec e11_splice 90 rfl) g1 ?_
    refine ms_iload_n (pc := 157) S 2 rfl rfl (m_dec e11_splice 91 rfl) ?_
    refine ms_iald (pc := 158) S g2 (m_dec e11_splice 92 rfl) ?_
    refine ms_iast (pc := 159) S g3 (m_dec e11_splice 93 rfl) (fun h5 => ?_)
    exact s11_splice_c160 S E hF hFn hN v0 v1 v2 v3 v5 h5
  · exact s11_splice_c160 S E hF hFn hN v0 v1 v2 v3 v5 h
set_option maxHeartbeats 4000000 in
set_option maxRecDepth 20000 in
theorem s11_splice {Y : m_Y Int} (S : m_Std Y RX11 cX11_splice) (E : m_End Y cX11_splice .ireturn (fun r => [m_i r])) {F : Nat} (hF : m_Rm Y F) (hFn : 4 ≤ F) (hN : Y.2.2.2.1 = 7) (v0 v1 v2 v3 : Int) (h : m_H) : m_Sim Y 0 [(0, m_r v0), (1, m_i v1), (2, m_i v2), (3, m_i v3)] [] h (t11_splice v0 v1 v2 v3 h) := by
  unfold t11_splice
  refine ms_aload_n (pc := 0) S 0 rfl rfl (m_dec e11_splice 0 rfl) ?_
  refine ms_iload_n (pc := 1) S 1 rfl rfl (m_dec e11_splice 1 rfl) ?_
  refine ms_grd fun g1 => ?_
  refine ms_callVz (pc := 2) S hF (vals := [m_i v1]) (st := []) (hc := vw_11) (hci := by decide) (hcy := rfl) (ht := g1) (hC := (k11_isPlain _ _ v0 v1 h)) (hM := lm_X11_317) (hfr := (Nat.le_trans (by decide) hFn)) (hstk := rfl) (hcat := Nat.le_of_ble_eq_true rfl) (hd := (m_dec e11_splice 2 rfl)) (k1 := fun r3 h2 => ?_)
  refine ms_ifb_eq (pc := 5) S (m_dec e11_splice 3 rfl) rfl (fun q4 => ?_) (fun q4 => ?_)
  · refine ms_aload_n (pc := 8) S 0 rfl rfl (m_dec e11_splice 4 rfl) ?_
    refine ms_iload_n (pc := 9) S 2 rfl rfl (m_dec e11_splice 5 rfl) ?_
    refine ms_grd fun g5 => ?_
    refine ms_callVz (pc := 10) S hF (vals := [m_i v2]) (st := []) (hc := vw_11) (hci := by decide) (hcy := rfl) (ht := g5) (hC := (k11_isPlain _ _ v0 v2 h2)) (hM := lm_X11_317) (hfr := (Nat.le_trans (by decide) hFn)) (hstk := rfl) (hcat := Nat.le_of_ble_eq_true rfl) (hd := (m_dec e11_splice 6 rfl)) (k1 := fun r7 h6 => ?_)
    refine ms_ifb_eq (pc := 13) S (m_dec e11_splice 7 rfl) rfl (fun q8 => ?_) (fun q8 => ?_)
    · refine ms_iload_n (pc := 16) S 1 rfl rfl (m_dec e11_splice 8 rfl) ?_
      refine ms_iload_n (pc := 17) S 2 rfl rfl (m_dec e11_splice 9 rfl) ?_
      refine ms_icmp_eq (pc := 18) S (m_dec e11_splice 10 rfl) rfl (fun q9 => ?_) (fun q9 => ?_)
      · refine ms_iconst (pc := 53) S (m_dec e11_splice 29 rfl) ?_
        exact ms_ret (pc := 54) E (m_dec e11_splice 30 rfl) rfl
      · refine ms_iload_n (pc := 21) S 3 rfl rfl (m_dec e11_splice 11 rfl) ?_
        refine ms_i2l (pc := 22) S (m_dec e11_splice 12 rfl) ?_
        refine ms_lconst (pc := 23) S (n := 0) rfl (m_dec e11_splice 13 rfl) ?_
        refine ms_ldc2 (pc := 24) S (n := 20) w_1843 (m_dec e11_splice 14 rfl) ?_
        refine ms_callSz (pc := 27) S hF (vals := [m_j (m_w v3), m_j 0, m_j 20]) (st := [])  (hC := (k11_in _ _ (m_w v3) 0 20 h6)) (hM := lm_X11_268) (hfr := (Nat.le_trans (by decide) hFn)) (hstk := rfl) (hcat := Nat.le_of_ble_eq_true rfl) (hd := (m_dec e11_splice 15 rfl)) (k1 := fun r11 h10 => ?_)
        refine ms_ifb_eq (pc := 30) S (m_dec e11_splice 16 rfl) rfl (fun q12 => ?_) (fun q12 => ?_)
        · refine ms_iload_n (pc := 33) S 3 rfl rfl (m_dec e11_splice 17 rfl) ?_
          refine ms_aload_n (pc := 34) S 0 rfl rfl (m_dec e11_splice 18 rfl) ?_
          refine ms_grd fun g13 => ?_
          refine ms_getf (pc := 35) S lf_X11_23 rfl (m_dec e11_splice 19 rfl) g13 ?_
          refine ms_iload_n (pc := 38) S 1 rfl rfl (m_dec e11_splice 20 rfl) ?_
          refine ms_grd fun g14 => ?_
          refine ms_iald (pc := 39) S g14 (m_dec e11_splice 21 rfl) ?_
          refine ms_icmp_gt (pc := 40) S (m_dec e11_splice 22 rfl) rfl (fun q15 => ?_) (fun q15 => ?_)
          · refine ms_iconst (pc := 53) S (m_dec e11_splice 29 rfl) ?_
            exact ms_ret (pc := 54) E (m_dec e11_splice 30 rfl) rfl
          · refine ms_iload_n (pc := 43) S 3 rfl rfl (m_dec e11_splice 23 rfl) ?_
            refine ms_aload_n (pc := 44) S 0 rfl rfl (m_dec e11_splice 24 rfl) ?_
            refine ms_getf (pc := 45) S lf_X11_23 rfl (m_dec e11_splice 25 rfl) g13 ?_
            refine ms_iload_n (pc := 48) S 2 rfl rfl (m_dec e11_splice 26 rfl) ?_
            refine ms_grd fun g16 => ?_
            refine ms_iald (pc := 49) S g16 (m_dec e11_splice 27 rfl) ?_
            refine ms_icmp_le (pc := 50) S (m_dec e11_splice 28 rfl) rfl (fun q17 => ?_) (fun q17 => ?_)
            · refine ms_iconst (pc := 53) S (m_dec e11_splice 29 rfl) ?_
              exact ms_ret (pc := 54) E (m_dec e11_splice 30 rfl) rfl
            · refine ms_aload_n (pc := 55) S 0 rfl rfl (m_dec e11_splice 31 rfl) ?_
              refine ms_getf (pc := 56) S lf_X11_23 rfl (m_dec e11_splice 32 rfl) g13 ?_
              refine ms_iload_n (pc := 59) S 1 rfl rfl (m_dec e11_splice 33 rfl) ?_
              refine ms_iald (pc := 60) S g14 (m_dec e11_splice 34 rfl) ?_
              refine ms_aload_n (pc := 61) S 0 rfl rfl (m_dec e11_splice 35 rfl) ?_
              refine ms_getf (pc := 62) S lf_X11_23 rfl (m_dec e11_splice 36 rfl) g13 ?_
              refine ms_iload_n (pc := 65) S 2 rfl rfl (m_dec e11_splice 37 rfl) ?_
              refine ms_iald (pc := 66) S g16 (m_dec e11_splice 38 rfl) ?_
              refine ms_iadd (pc := 67) S (m_dec e11_splice 39 rfl) ?_
              refine ms_iload_n (pc := 68) S 3 rfl rfl (m_dec e11_splice 40 rfl) ?_
              refine ms_isub (pc := 69) S (m_dec e11_splice 41 rfl) ?_
              refine ms_nm (st := fun x18 => [m_i x18]) fun x18 => ?_
              refine ms_istore (pc := 70) S (L' := [(0, m_r v0), (1, m_i v1), (2, m_i v2), (3, m_i v3), (4, m_i x18)]) [1, 2, 3, 4, 0] rfl (m_lt hN rfl) (m_dec e11_splice 42 rfl) ?_
              refine ms_iload (pc := 72) S 4 rfl (m_dec e11_splice 43 rfl) ?_
              refine ms_sipush (pc := 74) S (m_dec e11_splice 44 rfl) rfl ?_
              refine ms_icmp_gt (pc := 77) S (m_dec e11_splice 45 rfl) rfl (fun q19 => ?_) (fun q19 => ?_)
              · refine ms_iconst (pc := 90) S (m_dec e11_splice 51 rfl) ?_
                exact ms_ret (pc := 91) E (m_dec e11_splice 52 rfl) rfl
              · refine ms_aload_n (pc := 80) S 0 rfl rfl (m_dec e11_splice 46 rfl) ?_
                refine ms_iconst (pc := 81) S (m_dec e11_splice 47 rfl) ?_
                refine ms_iload (pc := 82) S 4 rfl (m_dec e11_splice 48 rfl) ?_
                refine ms_callVz (pc := 84) S hF (vals := [m_i 1, m_i x18]) (st := []) (hc := vw_11) (hci := by decide) (hcy := rfl) (ht := g13) (hC := (k11_isRoom _ _ v0 1 x18 h10)) (hM := lm_X11_288) (hfr := (Nat.le_trans (by decide) hFn)) (hstk := rfl) (hcat := Nat.le_of_ble_eq_true rfl) (hd := (m_dec e11_splice 49 rfl)) (k1 := fun r21 h20 => ?_)
                refine ms_ifb_ne (pc := 87) S (m_dec e11_splice 50 rfl) rfl (fun q22 => ?_) (fun q22 => ?_)
                · refine ms_aload_n (pc := 92) S 0 rfl rfl (m_dec e11_splice 53 rfl) ?_
                  refine ms_iconst (pc := 93) S (m_dec e11_splice 54 rfl) ?_
                  refine ms_iload_n (pc := 94) S 1 rfl rfl (m_dec e11_splice 55 rfl) ?_
                  refine ms_iload_n (pc := 95) S 2 rfl rfl (m_dec e11_splice 56 rfl) ?_
                  refine ms_iconst (pc := 96) S (m_dec e11_splice 57 rfl) ?_
                  refine ms_grd fun g23 => ?_
                  refine ms_callVi (pc := 97) S hF (vals := [m_i 4, m_i v1, m_i v2, m_i 0]) (st := []) (hc := vw_11) (hci := by decide) (hcy := rfl) (ht := g23) (hC := (k11_comes _ _ v0 4 v1 v2 0 h20)) (hM := lm_X11_292) (hfr := (Nat.le_trans (by decide) hFn)) (hstk := rfl) (hcat := Nat.le_of_ble_eq_true rfl) (hd := (m_dec e11_splice 58 rfl)) (k1 := fun r25 h24 => ?_)
                  refine ms_istore (pc := 100) S (L' := [(0, m_r v0), (1, m_i v1), (2, m_i v2), (3, m_i v3), (5, m_i r25)]) [1, 2, 3, 4, 0] rfl (m_lt hN rfl) (m_dec e11_splice 59 rfl) ?_
                  refine ms_aload_n (pc := 102) S 0 rfl rfl (m_dec e11_splice 60 rfl) ?_
                  refine ms_grd fun g26 => ?_
                  refine ms_getf (pc := 103) S lf_X11_32 rfl (m_dec e11_splice 61 rfl) g26 ?_
                  refine ms_iload_n (pc := 106) S 2 rfl rfl (m_dec e11_splice 62 rfl) ?_
                  refine ms_grd fun g27 => ?_
                  refine ms_iald (pc := 107) S g27 (m_dec e11_splice 63 rfl) ?_
                  refine ms_aload_n (pc := 108) S 0 rfl rfl (m_dec e11_splice 64 rfl) ?_
                  refine ms_getf (pc := 109) S lf_X11_32 rfl (m_dec e11_splice 65 rfl) g26 ?_
                  refine ms_iload (pc := 112) S 4 rfl (m_dec e11_splice 66 rfl) ?_
                  refine ms_grd fun g28 => ?_
                  refine ms_iald (pc := 114) S g28 (m_dec e11_splice 67 rfl) ?_
                  refine ms_icmp_le (pc := 115) S (m_dec e11_splice 68 rfl) rfl (fun q29 => ?_) (fun q29 => ?_)
                  · refine ms_aload_n (pc := 118) S 0 rfl rfl (m_dec e11_splice 69 rfl) ?_
                    refine ms_getf (pc := 119) S lf_X11_32 rfl (m_dec e11_splice 70 rfl) g26 ?_
                    refine ms_iload (pc := 122) S 4 rfl (m_dec e11_splice 71 rfl) ?_
                    refine ms_aload_n (pc := 124) S 0 rfl rfl (m_dec e11_splice 72 rfl) ?_
                    refine ms_getf (pc := 125) S lf_X11_32 rfl (m_dec e11_splice 73 rfl) g26 ?_
                    refine ms_iload_n (pc := 128) S 2 rfl rfl (m_dec e11_splice 74 rfl) ?_
                    refine ms_iald (pc := 129) S g27 (m_dec e11_splice 75 rfl) ?_
                    refine ms_iast (pc := 130) S g28 (m_dec e11_splice 76 rfl) (fun h30 => ?_)
                    exact s11_splice_c131 S E hF hFn hN v0 v1 v2 v3 r25 h30
                  · exact s11_splice_c131 S E hF hFn hN v0 v1 v2 v3 r25 h24
                · refine ms_iconst (pc := 90) S (m_dec e11_splice 51 rfl) ?_
                  exact ms_ret (pc := 91) E (m_dec e11_splice 52 rfl) rfl
        · refine ms_iconst (pc := 53) S (m_dec e11_splice 29 rfl) ?_
          exact ms_ret (pc := 54) E (m_dec e11_splice 30 rfl) rfl
    · refine ms_iconst (pc := 53) S (m_dec e11_splice 29 rfl) ?_
      exact ms_ret (pc := 54) E (m_dec e11_splice 30 rfl) rfl
  · refine ms_iconst (pc := 53) S (m_dec e11_splice 29 rfl) ?_
    exact ms_ret (pc := 54) E (m_dec e11_splice 30 rfl) rfl
theorem k11_splice (l : Launch) (d : m_D) (v0 v1 v2 v3 : Int) (h : m_H) : m_Con l d yX11_splice cX11_splice 7 (some .int) 4 (fun r => [m_i r]) [m_r v0, m_i v1, m_i v2, m_i v3] h (t11_splice v0 v1 v2 v3 h) :=
  m_con2 (by decide +kernel) (Nat.le_of_ble_eq_true rfl) (fun Y hN hRm hr hI S hfin => s11_splice S (m_end_i S hr hfin) hRm (Nat.le_refl _) hN v0 v1 v2 v3 h)
set_option maxRecDepth 100000 in
theorem e11_machine : ∀ q ∈ ([(0, .iload_n 1, 1), (1, .ifCond .lt 62, 3), (4, .iload_n 1, 1), (5, .sipush 1000, 3), (8, .idiv, 1), (9, .i2l, 1), (10, .lconst 0, 1), (11, .ldc2_w 329, 3), (14, .invokestatic 268, 3), (17, .ifCond .eq 46, 3), (20, .iload_n 1, 1), (21, .sipush 1000, 3), (24, .irem, 1), (25, .sipush 128, 3), (28, .if_icmp .gt 35, 3), (31, .iload_n 2, 1), (32, .i2l, 1), (33, .lconst 0, 1), (34, .ldc2_w 329, 3), (37, .invokestatic 268, 3), (40, .ifCond .eq 23, 3), (43, .iload_n 3, 1), (44, .i2l, 1), (45, .lconst 0, 1), (46, .ldc2_w 331, 3), (49, .invokestatic 268, 3), (52, .ifCond .eq 11, 3), (55, .aload_n 0, 1), (56, .getfield 333, 3), (59, .iconst 4, 1), (60, .if_icmp .ne 5, 3), (63, .iconst (-1), 1), (64, .ireturn, 1), (65, .aload_n 0, 1), (66, .getfield 56, 3), (69, .aload_n 0, 1), (70, .getfield 333, 3), (73, .iload_n 1, 1), (74, .sipush 1000, 3), (77, .idiv, 1), (78, .bipush 50, 2), (80, .isub, 1), (81, .iastore, 1), (82, .aload_n 0, 1), (83, .getfield 59, 3), (86, .aload_n 0, 1), (87, .getfield 333, 3), (90, .iload_n 1, 1), (91, .sipush 1000, 3), (94, .irem, 1), (95, .iastore, 1), (96, .aload_n 0, 1), (97, .getfield 62, 3), (100, .aload_n 0, 1), (101, .getfield 333, 3), (104, .iload_n 2, 1), (105, .iastore, 1), (106, .aload_n 0, 1), (107, .getfield 65, 3), (110, .aload_n 0, 1), (111, .getfield 333, 3), (114, .iload_n 3, 1), (115, .iastore, 1), (116, .aload_n 0, 1), (117, .dup, 1), (118, .getfield 333, 3), (121, .iconst 1, 1), (122, .iadd, 1), (123, .putfield 333, 3), (126, .aload_n 0, 1), (127, .getfield 333, 3), (130, .iconst 1, 1), (131, .isub, 1), (132, .ireturn, 1)] : List (Nat × Instr × Nat)), decode cX11_machine q.1 = .ok q.2 := by decide +kernel
set_option maxHeartbeats 4000000 in
set_option maxRecDepth 20000 in
theorem s11_machine {Y : m_Y Int} (S : m_Std Y RX11 cX11_machine) (E : m_End Y cX11_machine .ireturn (fun r => [m_i r])) {F : Nat} (hF : m_Rm Y F) (hFn : 1 ≤ F) (hN : Y.2.2.2.1 = 4) (v0 v1 v2 v3 : Int) (h : m_H) : m_Sim Y 0 [(0, m_r v0), (1, m_i v1), (2, m_i v2), (3, m_i v3)] [] h (t11_machine v0 v1 v2 v3 h) := by
  unfold t11_machine
  refine ms_iload_n (pc := 0) S 1 rfl rfl (m_dec e11_machine 0 rfl) ?_
  refine ms_if_lt (pc := 1) S (m_dec e11_machine 1 rfl) rfl (fun q1 => ?_) (fun q1 => ?_)
  · refine ms_iconst (pc := 63) S (m_dec e11_machine 31 rfl) ?_
    exact ms_ret (pc := 64) E (m_dec e11_machine 32 rfl) rfl
  · refine ms_iload_n (pc := 4) S 1 rfl rfl (m_dec e11_machine 2 rfl) ?_
    refine ms_sipush (pc := 5) S (m_dec e11_machine 3 rfl) rfl ?_
    refine ms_idivN (pc := 8) S (by decide) (m_dec e11_machine 4 rfl) ?_
    refine ms_i2l (pc := 9) S (m_dec e11_machine 5 rfl) ?_
    refine ms_lconst (pc := 10) S (n := 0) rfl (m_dec e11_machine 6 rfl) ?_
    refine ms_ldc2 (pc := 11) S (n := 100) w_1856 (m_dec e11_machine 7 rfl) ?_
    refine ms_callSz (pc := 14) S hF (vals := [m_j (m_w (Int.tdiv (m_w v1) 1000)), m_j 0, m_j 100]) (st := [])  (hC := (k11_in _ _ (m_w (Int.tdiv (m_w v1) 1000)) 0 100 h)) (hM := lm_X11_268) (hfr := (Nat.le_trans (by decide) hFn)) (hstk := rfl) (hcat := Nat.le_of_ble_eq_true rfl) (hd := (m_dec e11_machine 8 rfl)) (k1 := fun r3 h2 => ?_)
    refine ms_ifb_eq (pc := 17) S (m_dec e11_machine 9 rfl) rfl (fun q4 => ?_) (fun q4 => ?_)
    · refine ms_iload_n (pc := 20) S 1 rfl rfl (m_dec e11_machine 10 rfl) ?_
      refine ms_sipush (pc := 21) S (m_dec e11_machine 11 rfl) rfl ?_
      refine ms_iremN (pc := 24) S (by decide) (m_dec e11_machine 12 rfl) ?_
      refine ms_sipush (pc := 25) S (m_dec e11_machine 13 rfl) rfl ?_
      refine ms_icmp_gt (pc := 28) S (m_dec e11_machine 14 rfl) rfl (fun q5 => ?_) (fun q5 => ?_)
      · refine ms_iconst (pc := 63) S (m_dec e11_machine 31 rfl) ?_
        exact ms_ret (pc := 64) E (m_dec e11_machine 32 rfl) rfl
      · refine ms_iload_n (pc := 31) S 2 rfl rfl (m_dec e11_machine 15 rfl) ?_
        refine ms_i2l (pc := 32) S (m_dec e11_machine 16 rfl) ?_
        refine ms_lconst (pc := 33) S (n := 0) rfl (m_dec e11_machine 17 rfl) ?_
        refine ms_ldc2 (pc := 34) S (n := 100) w_1856 (m_dec e11_machine 18 rfl) ?_
        refine ms_callSz (pc := 37) S hF (vals := [m_j (m_w v2), m_j 0, m_j 100]) (st := [])  (hC := (k11_in _ _ (m_w v2) 0 100 h2)) (hM := lm_X11_268) (hfr := (Nat.le_trans (by decide) hFn)) (hstk := rfl) (hcat := Nat.le_of_ble_eq_true rfl) (hd := (m_dec e11_machine 19 rfl)) (k1 := fun r7 h6 => ?_)
        refine ms_ifb_eq (pc := 40) S (m_dec e11_machine 20 rfl) rfl (fun q8 => ?_) (fun q8 => ?_)
        · refine ms_iload_n (pc := 43) S 3 rfl rfl (m_dec e11_machine 21 rfl) ?_
          refine ms_i2l (pc := 44) S (m_dec e11_machine 22 rfl) ?_
          refine ms_lconst (pc := 45) S (n := 0) rfl (m_dec e11_machine 23 rfl) ?_
          refine ms_ldc2 (pc := 46) S (n := 200) w_1857 (m_dec e11_machine 24 rfl) ?_
          refine ms_callSz (pc := 49) S hF (vals := [m_j (m_w v3), m_j 0, m_j 200]) (st := [])  (hC := (k11_in _ _ (m_w v3) 0 200 h6)) (hM := lm_X11_268) (hfr := (Nat.le_trans (by decide) hFn)) (hstk := rfl) (hcat := Nat.le_of_ble_eq_true rfl) (hd := (m_dec e11_machine 25 rfl)) (k1 := fun r10 h9 => ?_)
          refine ms_ifb_eq (pc := 52) S (m_dec e11_machine 26 rfl) rfl (fun q11 => ?_) (fun q11 => ?_)
          · refine ms_aload_n (pc := 55) S 0 rfl rfl (m_dec e11_machine 27 rfl) ?_
            refine ms_grd fun g12 => ?_
            refine ms_getf (pc := 56) S lf_X11_333 rfl (m_dec e11_machine 28 rfl) g12 ?_
            refine ms_iconst (pc := 59) S (m_dec e11_machine 29 rfl) ?_
            refine ms_icmp_ne (pc := 60) S (m_dec e11_machine 30 rfl) rfl (fun q13 => ?_) (fun q13 => ?_)
            · refine ms_iconst (pc := 63) S (m_dec e11_machine 31 rfl) ?_
              exact ms_ret (pc := 64) E (m_dec e11_machine 32 rfl) rfl
            · refine ms_aload_n (pc := 65) S 0 rfl rfl (m_dec e11_machine 33 rfl) ?_
              refine ms_getf (pc := 66) S lf_X11_56 rfl (m_dec e11_machine 34 rfl) g12 ?_
              refine ms_aload_n (pc := 69) S 0 rfl rfl (m_dec e11_machine 35 rfl) ?_
              refine ms_getf (pc := 70) S lf_X11_333 rfl (m_dec e11_machine 36 rfl) g12 ?_
              refine ms_iload_n (pc := 73) S 1 rfl rfl (m_dec e11_machine 37 rfl) ?_
              refine ms_sipush (pc := 74) S (m_dec e11_machine 38 rfl) rfl ?_
              refine ms_idivN (pc := 77) S (by decide) (m_dec e11_machine 39 rfl) ?_
              refine ms_bipush (pc := 78) S (m_dec e11_machine 40 rfl) rfl ?_
              refine ms_isub (pc := 80) S (m_dec e11_machine 41 rfl) ?_
              refine ms_grd fun g14 => ?_
              refine ms_iast (pc := 81) S g14 (m_dec e11_machine 42 rfl) (fun h15 => ?_)
              refine ms_aload_n (pc := 82) S 0 rfl rfl (m_dec e11_machine 43 rfl) ?_
              refine ms_grd fun g16 => ?_
              refine ms_getf (pc := 83) S lf_X11_59 rfl (m_dec e11_machine 44 rfl) g16 ?_
              refine ms_aload_n (pc := 86) S 0 rfl rfl (m_dec e11_machine 45 rfl) ?_
              refine ms_getf (pc := 87) S lf_X11_333 rfl (m_dec e11_machine 46 rfl) g16 ?_
              refine ms_iload_n (pc := 90) S 1 rfl rfl (m_dec e11_machine 47 rfl) ?_
              refine ms_sipush (pc := 91) S (m_dec e11_machine 48 rfl) rfl ?_
              refine ms_iremN (pc := 94) S (by decide) (m_dec e11_machine 49 rfl) ?_
              refine ms_grd fun g17 => ?_
              refine ms_iast (pc := 95) S g17 (m_dec e11_machine 50 rfl) (fun h18 => ?_)
              refine ms_aload_n (pc := 96) S 0 rfl rfl (m_dec e11_machine 51 rfl) ?_
              refine ms_grd fun g19 => ?_
              refine ms_getf (pc := 97) S lf_X11_62 rfl (m_dec e11_machine 52 rfl) g19 ?_
              refine ms_aload_n (pc := 100) S 0 rfl rfl (m_dec e11_machine 53 rfl) ?_
              refine ms_getf (pc := 101) S lf_X11_333 rfl (m_dec e11_machine 54 rfl) g19 ?_
              refine ms_iload_n (pc := 104) S 2 rfl rfl (m_dec e11_machine 55 rfl) ?_
              refine ms_grd fun g20 => ?_
              refine ms_iast (pc := 105) S g20 (m_dec e11_machine 56 rfl) (fun h21 => ?_)
              refine ms_aload_n (pc := 106) S 0 rfl rfl (m_dec e11_machine 57 rfl) ?_
              refine ms_grd fun g22 => ?_
              refine ms_getf (pc := 107) S lf_X11_65 rfl (m_dec e11_machine 58 rfl) g22 ?_
              refine ms_aload_n (pc := 110) S 0 rfl rfl (m_dec e11_machine 59 rfl) ?_
              refine ms_getf (pc := 111) S lf_X11_333 rfl (m_dec e11_machine 60 rfl) g22 ?_
              refine ms_iload_n (pc := 114) S 3 rfl rfl (m_dec e11_machine 61 rfl) ?_
              refine ms_grd fun g23 => ?_
              refine ms_iast (pc := 115) S g23 (m_dec e11_machine 62 rfl) (fun h24 => ?_)
              refine ms_aload_n (pc := 116) S 0 rfl rfl (m_dec e11_machine 63 rfl) ?_
              refine ms_dup (pc := 117) S rfl (m_dec e11_machine 64 rfl) ?_
              refine ms_grd fun g25 => ?_
              refine ms_getf (pc := 118) S lf_X11_333 rfl (m_dec e11_machine 65 rfl) g25 ?_
              refine ms_iconst (pc := 121) S (m_dec e11_machine 66 rfl) ?_
              refine ms_iadd (pc := 122) S (m_dec e11_machine 67 rfl) ?_
              refine ms_putf (pc := 123) S lp_X11_333 (fun z => by cases z) rfl (fun d => m_fitI d _) (m_dec e11_machine 68 rfl) g25 (fun h26 => ?_)
              refine ms_aload_n (pc := 126) S 0 rfl rfl (m_dec e11_machine 69 rfl) ?_
              refine ms_grd fun g27 => ?_
              refine ms_getf (pc := 127) S lf_X11_333 rfl (m_dec e11_machine 70 rfl) g27 ?_
              refine ms_iconst (pc := 130) S (m_dec e11_machine 71 rfl) ?_
              refine ms_isub (pc := 131) S (m_dec e11_machine 72 rfl) ?_
              exact ms_ret (pc := 132) E (m_dec e11_machine 73 rfl) rfl
          · refine ms_iconst (pc := 63) S (m_dec e11_machine 31 rfl) ?_
            exact ms_ret (pc := 64) E (m_dec e11_machine 32 rfl) rfl
        · refine ms_iconst (pc := 63) S (m_dec e11_machine 31 rfl) ?_
          exact ms_ret (pc := 64) E (m_dec e11_machine 32 rfl) rfl
    · refine ms_iconst (pc := 63) S (m_dec e11_machine 31 rfl) ?_
      exact ms_ret (pc := 64) E (m_dec e11_machine 32 rfl) rfl
theorem k11_machine (l : Launch) (d : m_D) (v0 v1 v2 v3 : Int) (h : m_H) : m_Con l d yX11_machine cX11_machine 4 (some .int) 1 (fun r => [m_i r]) [m_r v0, m_i v1, m_i v2, m_i v3] h (t11_machine v0 v1 v2 v3 h) :=
  m_con2 (by decide +kernel) (Nat.le_of_ble_eq_true rfl) (fun Y hN hRm hr hI S hfin => s11_machine S (m_end_i S hr hfin) hRm (Nat.le_refl _) hN v0 v1 v2 v3 h)
set_option maxRecDepth 100000 in
theorem e11_isMachine : ∀ q ∈ ([(0, .iload_n 1, 1), (1, .i2l, 1), (2, .lconst 0, 1), (3, .aload_n 0, 1), (4, .getfield 333, 3), (7, .iconst 1, 1), (8, .isub, 1), (9, .i2l, 1), (10, .invokestatic 268, 3), (13, .ireturn, 1)] : List (Nat × Instr × Nat)), decode cX11_isMachine q.1 = .ok q.2 := by decide +kernel
set_option maxHeartbeats 4000000 in
set_option maxRecDepth 20000 in
theorem s11_isMachine {Y : m_Y Bool} (S : m_Std Y RX11 cX11_isMachine) (E : m_End Y cX11_isMachine .ireturn (fun r => [m_i (m_b2i r)])) {F : Nat} (hF : m_Rm Y F) (hFn : 1 ≤ F) (hN : Y.2.2.2.1 = 2) (v0 v1 : Int) (h : m_H) : m_Sim Y 0 [(0, m_r v0), (1, m_i v1)] [] h (t11_isMachine v0 v1 h) := by
  unfold t11_isMachine
  refine ms_iload_n (pc := 0) S 1 rfl rfl (m_dec e11_isMachine 0 rfl) ?_
  refine ms_i2l (pc := 1) S (m_dec e11_isMachine 1 rfl) ?_
  refine ms_lconst (pc := 2) S (n := 0) rfl (m_dec e11_isMachine 2 rfl) ?_
  refine ms_aload_n (pc := 3) S 0 rfl rfl (m_dec e11_isMachine 3 rfl) ?_
  refine ms_grd fun g1 => ?_
  refine ms_getf (pc := 4) S lf_X11_333 rfl (m_dec e11_isMachine 4 rfl) g1 ?_
  refine ms_iconst (pc := 7) S (m_dec e11_isMachine 5 rfl) ?_
  refine ms_isub (pc := 8) S (m_dec e11_isMachine 6 rfl) ?_
  refine ms_i2l (pc := 9) S (m_dec e11_isMachine 7 rfl) ?_
  refine ms_callSz (pc := 10) S hF (vals := [m_j (m_w v1), m_j 0, m_j (m_w ((m_g h v0 23) - 1))]) (st := [])  (hC := (k11_in _ _ (m_w v1) 0 (m_w ((m_g h v0 23) - 1)) h)) (hM := lm_X11_268) (hfr := (Nat.le_trans (by decide) hFn)) (hstk := rfl) (hcat := Nat.le_of_ble_eq_true rfl) (hd := (m_dec e11_isMachine 8 rfl)) (k1 := fun r3 h2 => ?_)
  exact ms_ret (pc := 13) E (m_dec e11_isMachine 9 rfl) rfl
theorem k11_isMachine (l : Launch) (d : m_D) (v0 v1 : Int) (h : m_H) : m_Con l d yX11_isMachine cX11_isMachine 2 (some .boolean) 1 (fun r => [m_i (m_b2i r)]) [m_r v0, m_i v1] h (t11_isMachine v0 v1 h) :=
  m_con2 (by decide +kernel) (Nat.le_of_ble_eq_true rfl) (fun Y hN hRm hr hI S hfin => s11_isMachine S (m_end_z S hr hfin) hRm (Nat.le_refl _) hN v0 v1 h)
set_option maxRecDepth 100000 in
theorem e11_longAt : ∀ q ∈ ([(0, .iload_n 0, 1), (1, .iconst 1, 1), (2, .isub, 1), (3, .iload_n 2, 1), (4, .imul, 1), (5, .iload_n 1, 1), (6, .idiv, 1), (7, .iconst 1, 1), (8, .iadd, 1), (9, .ireturn, 1)] : List (Nat × Instr × Nat)), decode cX11_longAt q.1 = .ok q.2 := by decide +kernel
set_option maxHeartbeats 4000000 in
set_option maxRecDepth 20000 in
theorem s11_longAt {Y : m_Y Int} (S : m_Std Y RX11 cX11_longAt) (E : m_End Y cX11_longAt .ireturn (fun r => [m_i r])) {F : Nat} (hF : m_Rm Y F) (hFn : 0 ≤ F) (hN : Y.2.2.2.1 = 3) (v0 v1 v2 : Int) (h : m_H) : m_Sim Y 0 [(0, m_i v0), (1, m_i v1), (2, m_i v2)] [] h (t11_longAt v0 v1 v2 h) := by
  unfold t11_longAt
  refine ms_iload_n (pc := 0) S 0 rfl rfl (m_dec e11_longAt 0 rfl) ?_
  refine ms_iconst (pc := 1) S (m_dec e11_longAt 1 rfl) ?_
  refine ms_isub (pc := 2) S (m_dec e11_longAt 2 rfl) ?_
  refine ms_iload_n (pc := 3) S 2 rfl rfl (m_dec e11_longAt 3 rfl) ?_
  refine ms_imul (pc := 4) S (m_dec e11_longAt 4 rfl) ?_
  refine ms_iload_n (pc := 5) S 1 rfl rfl (m_dec e11_longAt 5 rfl) ?_
  refine ms_idiv (pc := 6) S (m_dec e11_longAt 6 rfl) ?_
  refine ms_iconst (pc := 7) S (m_dec e11_longAt 7 rfl) ?_
  refine ms_iadd (pc := 8) S (m_dec e11_longAt 8 rfl) ?_
  exact ms_ret (pc := 9) E (m_dec e11_longAt 9 rfl) rfl
theorem k11_longAt (l : Launch) (d : m_D) (v0 v1 v2 : Int) (h : m_H) : m_Con l d yX11_longAt cX11_longAt 3 (some .int) 0 (fun r => [m_i r]) [m_i v0, m_i v1, m_i v2] h (t11_longAt v0 v1 v2 h) :=
  m_con2 (by decide +kernel) (Nat.le_of_ble_eq_true rfl) (fun Y hN hRm hr hI S hfin => s11_longAt S (m_end_i S hr hfin) hRm (Nat.le_refl _) hN v0 v1 v2 h)
set_option maxRecDepth 100000 in
theorem e11_sampleAt : ∀ q ∈ ([(0, .iload_n 2, 1), (1, .i2l, 1), (2, .iload_n 3, 1), (3, .i2l, 1), (4, .lmul, 1), (5, .iload 4, 2), (7, .i2l, 1), (8, .ldiv, 1), (9, .l2i, 1), (10, .istore 5, 2), (12, .iload_n 2, 1), (13, .i2l, 1), (14, .iload_n 3, 1), (15, .i2l, 1), (16, .lmul, 1), (17, .iload 4, 2), (19, .i2l, 1), (20, .lrem, 1), (21, .lstore 6, 2), (23, .iload 5, 2), (25, .iload_n 1, 1), (26, .iconst 1, 1), (27, .isub, 1), (28, .if_icmp .lt 12, 3), (31, .aload_n 0, 1), (32, .getfield 77, 3), (35, .iload_n 1, 1), (36, .iconst 1, 1), (37, .isub, 1), (38, .iaload, 1), (39, .ireturn, 1), (40, .aload_n 0, 1), (41, .getfield 77, 3), (44, .iload 5, 2), (46, .iaload, 1), (47, .i2l, 1), (48, .lload 6, 2), (50, .aload_n 0, 1), (51, .getfield 77, 3), (54, .iload 5, 2), (56, .iconst 1, 1), (57, .iadd, 1), (58, .iaload, 1), (59, .aload_n 0, 1), (60, .getfield 77, 3), (63, .iload 5, 2), (65, .iaload, 1), (66, .isub, 1), (67, .i2l, 1), (68, .lmul, 1), (69, .iload 4, 2), (71, .i2l, 1), (72, .ldiv, 1), (73, .ladd, 1), (74, .invokestatic 320, 3), (77, .ireturn, 1)] : List (Nat × Instr × Nat)), decode cX11_sampleAt q.1 = .ok q.2 := by decide +kernel
set_option maxHeartbeats 4000000 in
set_option maxRecDepth 20000 in
theorem s11_sampleAt {Y : m_Y Int} (S : m_Std Y RX11 cX11_sampleAt) (E : m_End Y cX11_sampleAt .ireturn (fun r => [m_i r])) {F : Nat} (hF : m_Rm Y F) (hFn : 1 ≤ F) (hN : Y.2.2.2.1 = 8) (v0 v1 v2 v3 v4 : Int) (h : m_H) : m_Sim Y 0 [(0, m_r v0), (1, m_i v1), (2, m_i v2), (3, m_i v3), (4, m_i v4)] [] h (t11_sampleAt v0 v1 v2 v3 v4 h) := by
  unfold t11_sampleAt
  refine ms_iload_n (pc := 0) S 2 rfl rfl (m_dec e11_sampleAt 0 rfl) ?_
  refine ms_i2l (pc := 1) S (m_dec e11_sampleAt 1 rfl) ?_
  refine ms_iload_n (pc := 2) S 3 rfl rfl (m_dec e11_sampleAt 2 rfl) ?_
  refine ms_i2l (pc := 3) S (m_dec e11_sampleAt 3 rfl) ?_
  refine ms_lmul (pc := 4) S (m_dec e11_sampleAt 4 rfl) ?_
  refine ms_iload (pc := 5) S 4 rfl (m_dec e11_sampleAt 5 rfl) ?_
  refine ms_i2l (pc := 7) S (m_dec e11_sampleAt 6 rfl) ?_
  refine ms_ldiv (pc := 8) S (m_dec e11_sampleAt 7 rfl) ?_
  refine ms_l2i (pc := 9) S (m_dec e11_sampleAt 8 rfl) ?_
  refine ms_nm (st := fun x1 => [m_i x1]) fun x1 => ?_
  refine ms_istore (pc := 10) S (L' := [(0, m_r v0), (1, m_i v1), (2, m_i v2), (3, m_i v3), (4, m_i v4), (5, m_i x1)]) [1, 2, 3, 4, 5, 0] rfl (m_lt hN rfl) (m_dec e11_sampleAt 9 rfl) ?_
  refine ms_iload_n (pc := 12) S 2 rfl rfl (m_dec e11_sampleAt 10 rfl) ?_
  refine ms_i2l (pc := 13) S (m_dec e11_sampleAt 11 rfl) ?_
  refine ms_iload_n (pc := 14) S 3 rfl rfl (m_dec e11_sampleAt 12 rfl) ?_
  refine ms_i2l (pc := 15) S (m_dec e11_sampleAt 13 rfl) ?_
  refine ms_lmul (pc := 16) S (m_dec e11_sampleAt 14 rfl) ?_
  refine ms_iload (pc := 17) S 4 rfl (m_dec e11_sampleAt 15 rfl) ?_
  refine ms_i2l (pc := 19) S (m_dec e11_sampleAt 16 rfl) ?_
  refine ms_lrem (pc := 20) S (m_dec e11_sampleAt 17 rfl) ?_
  refine ms_nm (st := fun x2 => [m_j x2]) fun x2 => ?_
  refine ms_lstore (pc := 21) S (L' := [(0, m_r v0), (1, m_i v1), (4, m_i v4), (5, m_i x1), (6, m_j x2)]) [1, 2, 5, 6, 0] rfl (m_lt hN rfl) (m_dec e11_sampleAt 18 rfl) ?_
  refine ms_iload (pc := 23) S 3 rfl (m_dec e11_sampleAt 19 rfl) ?_
  refine ms_iload_n (pc := 25) S 1 rfl rfl (m_dec e11_sampleAt 20 rfl) ?_
  refine ms_iconst (pc := 26) S (m_dec e11_sampleAt 21 rfl) ?_
  refine ms_isub (pc := 27) S (m_dec e11_sampleAt 22 rfl) ?_
  refine ms_icmp_lt (pc := 28) S (m_dec e11_sampleAt 23 rfl) rfl (fun q3 => ?_) (fun q3 => ?_)
  · refine ms_aload_n (pc := 40) S 0 rfl rfl (m_dec e11_sampleAt 31 rfl) ?_
    refine ms_grd fun g4 => ?_
    refine ms_getf (pc := 41) S lf_X11_77 rfl (m_dec e11_sampleAt 32 rfl) g4 ?_
    refine ms_iload (pc := 44) S 3 rfl (m_dec e11_sampleAt 33 rfl) ?_
    refine ms_grd fun g5 => ?_
    refine ms_iald (pc := 46) S g5 (m_dec e11_sampleAt 34 rfl) ?_
    refine ms_i2l (pc := 47) S (m_dec e11_sampleAt 35 rfl) ?_
    refine ms_lload (pc := 48) S 4 rfl (m_dec e11_sampleAt 36 rfl) ?_
    refine ms_aload_n (pc := 50) S 0 rfl rfl (m_dec e11_sampleAt 37 rfl) ?_
    refine ms_getf (pc := 51) S lf_X11_77 rfl (m_dec e11_sampleAt 38 rfl) g4 ?_
    refine ms_iload (pc := 54) S 3 rfl (m_dec e11_sampleAt 39 rfl) ?_
    refine ms_iconst (pc := 56) S (m_dec e11_sampleAt 40 rfl) ?_
    refine ms_iadd (pc := 57) S (m_dec e11_sampleAt 41 rfl) ?_
    refine ms_grd fun g6 => ?_
    refine ms_iald (pc := 58) S g6 (m_dec e11_sampleAt 42 rfl) ?_
    refine ms_aload_n (pc := 59) S 0 rfl rfl (m_dec e11_sampleAt 43 rfl) ?_
    refine ms_getf (pc := 60) S lf_X11_77 rfl (m_dec e11_sampleAt 44 rfl) g4 ?_
    refine ms_iload (pc := 63) S 3 rfl (m_dec e11_sampleAt 45 rfl) ?_
    refine ms_iald (pc := 65) S g5 (m_dec e11_sampleAt 46 rfl) ?_
    refine ms_isub (pc := 66) S (m_dec e11_sampleAt 47 rfl) ?_
    refine ms_i2l (pc := 67) S (m_dec e11_sampleAt 48 rfl) ?_
    refine ms_lmul (pc := 68) S (m_dec e11_sampleAt 49 rfl) ?_
    refine ms_iload (pc := 69) S 2 rfl (m_dec e11_sampleAt 50 rfl) ?_
    refine ms_i2l (pc := 71) S (m_dec e11_sampleAt 51 rfl) ?_
    refine ms_ldiv (pc := 72) S (m_dec e11_sampleAt 52 rfl) ?_
    refine ms_ladd (pc := 73) S (m_dec e11_sampleAt 53 rfl) ?_
    refine ms_callSi (pc := 74) S hF (vals := [m_j ((m_w (m_g h (m_g h v0 28) (m_w x1))) + (Int.tdiv (m_v (x2 * (m_w ((m_g h (m_g h v0 28) (m_w (x1 + 1))) - (m_g h (m_g h v0 28) (m_w x1)))))) (m_v (m_w v4))))]) (st := [])  (hC := (k11_bounded _ _ ((m_w (m_g h (m_g h v0 28) (m_w x1))) + (Int.tdiv (m_v (x2 * (m_w ((m_g h (m_g h v0 28) (m_w (x1 + 1))) - (m_g h (m_g h v0 28) (m_w x1)))))) (m_v (m_w v4)))) h)) (hM := lm_X11_320) (hfr := (Nat.le_trans (by decide) hFn)) (hstk := rfl) (hcat := Nat.le_of_ble_eq_true rfl) (hd := (m_dec e11_sampleAt 54 rfl)) (k1 := fun r8 h7 => ?_)
    exact ms_ret (pc := 77) E (m_dec e11_sampleAt 55 rfl) rfl
  · refine ms_aload_n (pc := 31) S 0 rfl rfl (m_dec e11_sampleAt 24 rfl) ?_
    refine ms_grd fun g9 => ?_
    refine ms_getf (pc := 32) S lf_X11_77 rfl (m_dec e11_sampleAt 25 rfl) g9 ?_
    refine ms_iload_n (pc := 35) S 1 rfl rfl (m_dec e11_sampleAt 26 rfl) ?_
    refine ms_iconst (pc := 36) S (m_dec e11_sampleAt 27 rfl) ?_
    refine ms_isub (pc := 37) S (m_dec e11_sampleAt 28 rfl) ?_
    refine ms_grd fun g10 => ?_
    refine ms_iald (pc := 38) S g10 (m_dec e11_sampleAt 29 rfl) ?_
    exact ms_ret (pc := 39) E (m_dec e11_sampleAt 30 rfl) rfl
theorem k11_sampleAt (l : Launch) (d : m_D) (v0 v1 v2 v3 v4 : Int) (h : m_H) : m_Con l d yX11_sampleAt cX11_sampleAt 8 (some .int) 1 (fun r => [m_i r]) [m_r v0, m_i v1, m_i v2, m_i v3, m_i v4] h (t11_sampleAt v0 v1 v2 v3 v4 h) :=
  m_con2 (by decide +kernel) (Nat.le_of_ble_eq_true rfl) (fun Y hN hRm hr hI S hfin => s11_sampleAt S (m_end_i S hr hfin) hRm (Nat.le_refl _) hN v0 v1 v2 v3 v4 h)
