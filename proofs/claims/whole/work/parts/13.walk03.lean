/-! the walks of the methods, 3 -/
set_option maxRecDepth 100000 in
theorem e5_fadeOut : ∀ q ∈ ([(0, .iconst 0, 1), (1, .istore_n 2, 1), (2, .iload_n 2, 1), (3, .iload_n 1, 1), (4, .if_icmp .ge 32, 3), (7, .aload_n 0, 1), (8, .getfield 13, 3), (11, .iconst 1, 1), (12, .isub, 1), (13, .iload_n 2, 1), (14, .isub, 1), (15, .istore_n 3, 1), (16, .aload_n 0, 1), (17, .iload_n 3, 1), (18, .aload_n 0, 1), (19, .iload_n 3, 1), (20, .invokevirtual 23, 3), (23, .iload_n 2, 1), (24, .imul, 1), (25, .iload_n 1, 1), (26, .idiv, 1), (27, .invokevirtual 27, 3), (30, .iinc 2 1, 3), (33, .goto (-31), 3), (36, .return_, 1)] : List (Nat × Instr × Nat)), decode cX5_fadeOut q.1 = .ok q.2 := by decide +kernel
set_option maxHeartbeats 4000000 in
set_option maxRecDepth 20000 in
theorem s5_fadeOut_c2 {Y : m_Y Unit} (S : m_Std Y RX5 cX5_fadeOut) (E : m_End Y cX5_fadeOut .return_ (fun _ => [])) {F : Nat} (hF : m_Rm Y F) (hFn : 3 ≤ F) (hN : Y.2.2.2.1 = 4) : ∀ (v0 v1 v2 : Int) (h : m_H), m_Sim Y 2 [(0, m_r v0), (1, m_i v1), (2, m_i v2)] [] h (t5_fadeOut_c2 v0 v1 v2 h) := by
  intro v0 v1 v2 h
  refine ms_all fun r e => ?_
  refine t5_fadeOut_c2.partial_correctness v0 v1 (motive := fun v2 h r => m_Sim Y 2 [(0, m_r v0), (1, m_i v1), (2, m_i v2)] [] h (some r)) ?_ v2 h r e
  intro f ih v2 h r e
  have ih : ∀ (v2 : Int) (h : m_H), m_Sim Y 2 [(0, m_r v0), (1, m_i v1), (2, m_i v2)] [] h (f v2 h ) := fun v2 h  => ms_all fun r e => ih v2 h r e
  refine ms_use ?_ e
  clear e r
  refine ms_iload_n (pc := 2) S 2 rfl rfl (m_dec e5_fadeOut 2 rfl) ?_
  refine ms_iload_n (pc := 3) S 1 rfl rfl (m_dec e5_fadeOut 3 rfl) ?_
  refine ms_icmp_ge (pc := 4) S (m_dec e5_fadeOut 4 rfl) rfl (fun q1 => ?_) (fun q1 => ?_)
  · refine ms_aload_n (pc := 7) S 0 rfl rfl (m_dec e5_fadeOut 5 rfl) ?_
    refine ms_grd fun g2 => ?_
    refine ms_getf (pc := 8) S lf_X5_13 rfl (m_dec e5_fadeOut 6 rfl) g2 ?_
    refine ms_iconst (pc := 11) S (m_dec e5_fadeOut 7 rfl) ?_
    refine ms_isub (pc := 12) S (m_dec e5_fadeOut 8 rfl) ?_
    refine ms_iload_n (pc := 13) S 2 rfl rfl (m_dec e5_fadeOut 9 rfl) ?_
    refine ms_isub (pc := 14) S (m_dec e5_fadeOut 10 rfl) ?_
    refine ms_nm (st := fun x3 => [m_i x3]) fun x3 => ?_
    refine ms_istore_n (pc := 15) S (L' := [(0, m_r v0), (1, m_i v1), (2, m_i v2), (3, m_i x3)]) [1, 2, 3, 0] rfl rfl (m_lt hN rfl) (m_dec e5_fadeOut 11 rfl) ?_
    refine ms_aload_n (pc := 16) S 0 rfl rfl (m_dec e5_fadeOut 12 rfl) ?_
    refine ms_iload_n (pc := 17) S 3 rfl rfl (m_dec e5_fadeOut 13 rfl) ?_
    refine ms_aload_n (pc := 18) S 0 rfl rfl (m_dec e5_fadeOut 14 rfl) ?_
    refine ms_iload_n (pc := 19) S 3 rfl rfl (m_dec e5_fadeOut 15 rfl) ?_
    refine ms_callVi (pc := 20) S hF (vals := [m_i x3]) (st := [m_i x3, m_r v0]) (hc := vw_5) (hci := by decide) (hcy := rfl) (ht := g2) (hC := (k5_get _ _ v0 x3 h)) (hM := lm_X5_23) (hfr := (Nat.le_trans (by decide) hFn)) (hstk := rfl) (hcat := Nat.le_of_ble_eq_true rfl) (hd := (m_dec e5_fadeOut 16 rfl)) (k1 := fun r5 h4 => ?_)
    refine ms_iload_n (pc := 23) S 2 rfl rfl (m_dec e5_fadeOut 17 rfl) ?_
    refine ms_imul (pc := 24) S (m_dec e5_fadeOut 18 rfl) ?_
    refine ms_iload_n (pc := 25) S 1 rfl rfl (m_dec e5_fadeOut 19 rfl) ?_
    refine ms_idiv (pc := 26) S (m_dec e5_fadeOut 20 rfl) ?_
    refine ms_grd fun g6 => ?_
    refine ms_callVv (pc := 27) S hF (vals := [m_i x3, m_i (Int.tdiv (m_w (r5 * v2)) (m_w v1))]) (st := []) (hc := vw_5) (hci := by decide) (hcy := rfl) (ht := g6) (hC := (k5_set _ _ v0 x3 (Int.tdiv (m_w (r5 * v2)) (m_w v1)) h4)) (hM := lm_X5_27) (hfr := (Nat.le_trans (by decide) hFn)) (hstk := rfl) (hcat := Nat.le_of_ble_eq_true rfl) (hd := (m_dec e5_fadeOut 21 rfl)) (k1 := fun h7 => ?_)
    refine ms_iinc (pc := 30) S (L' := [(0, m_r v0), (1, m_i v1), (2, m_i (v2 + 1))]) 2 rfl [1, 2, 0] rfl (m_lt hN rfl) (m_dec e5_fadeOut 22 rfl) ?_
    refine ms_goto (pc := 33) S (m_dec e5_fadeOut 23 rfl) rfl ?_
    exact ih (v2 + 1) h7
  · exact ms_ret (pc := 36) E (m_dec e5_fadeOut 24 rfl) rfl
set_option maxHeartbeats 4000000 in
set_option maxRecDepth 20000 in
theorem s5_fadeOut {Y : m_Y Unit} (S : m_Std Y RX5 cX5_fadeOut) (E : m_End Y cX5_fadeOut .return_ (fun _ => [])) {F : Nat} (hF : m_Rm Y F) (hFn : 3 ≤ F) (hN : Y.2.2.2.1 = 4) (v0 v1 : Int) (h : m_H) : m_Sim Y 0 [(0, m_r v0), (1, m_i v1)] [] h (t5_fadeOut v0 v1 h) := by
  unfold t5_fadeOut
  refine ms_iconst (pc := 0) S (m_dec e5_fadeOut 0 rfl) ?_
  refine ms_istore_n (pc := 1) S (L' := [(0, m_r v0), (1, m_i v1), (2, m_i 0)]) [1, 2, 0] rfl rfl (m_lt hN rfl) (m_dec e5_fadeOut 1 rfl) ?_
  exact s5_fadeOut_c2 S E hF hFn hN v0 v1 0 h
theorem k5_fadeOut (l : Launch) (d : m_D) (v0 v1 : Int) (h : m_H) : m_Con l d yX5_fadeOut cX5_fadeOut 4 none 3 (fun _ => []) [m_r v0, m_i v1] h (t5_fadeOut v0 v1 h) :=
  m_con2 (by decide +kernel) (Nat.le_of_ble_eq_true rfl) (fun Y hN hRm hr hI S hfin => s5_fadeOut S (m_end_v S hr hfin) hRm (Nat.le_refl _) hN v0 v1 h)
set_option maxRecDepth 100000 in
theorem e3_fillFaded : ∀ q ∈ ([(0, .iload_n 2, 1), (1, .aload_n 1, 1), (2, .invokevirtual 85, 3), (5, .if_icmp .gt 11, 3), (8, .iload_n 3, 1), (9, .aload_n 1, 1), (10, .invokevirtual 85, 3), (13, .if_icmp .le 5, 3), (16, .iconst 0, 1), (17, .ireturn, 1), (18, .aload_n 0, 1), (19, .aload_n 1, 1), (20, .iconst 0, 1), (21, .aload_n 1, 1), (22, .invokevirtual 85, 3), (25, .invokevirtual 122, 3), (28, .aload_n 0, 1), (29, .iload_n 2, 1), (30, .invokevirtual 177, 3), (33, .aload_n 0, 1), (34, .iload_n 3, 1), (35, .invokevirtual 180, 3), (38, .iconst 1, 1), (39, .ireturn, 1)] : List (Nat × Instr × Nat)), decode cX3_fillFaded q.1 = .ok q.2 := by decide +kernel
set_option maxHeartbeats 4000000 in
set_option maxRecDepth 20000 in
theorem s3_fillFaded {Y : m_Y Bool} (S : m_Std Y RX3 cX3_fillFaded) (E : m_End Y cX3_fillFaded .ireturn (fun r => [m_i (m_b2i r)])) {F : Nat} (hF : m_Rm Y F) (hFn : 4 ≤ F) (hN : Y.2.2.2.1 = 4) (v0 v1 v2 v3 : Int) (h : m_H) : m_Sim Y 0 [(0, m_r v0), (1, m_r v1), (2, m_i v2), (3, m_i v3)] [] h (t3_fillFaded v0 v1 v2 v3 h) := by
  unfold t3_fillFaded
  refine ms_iload_n (pc := 0) S 2 rfl rfl (m_dec e3_fillFaded 0 rfl) ?_
  refine ms_aload_n (pc := 1) S 1 rfl rfl (m_dec e3_fillFaded 1 rfl) ?_
  refine ms_grd fun g1 => ?_
  refine ms_callVi (pc := 2) S hF (vals := []) (st := [m_i v2]) (hc := vw_5) (hci := by decide) (hcy := rfl) (ht := g1) (hC := (k5_size _ _ v1 h)) (hM := lm_X3_85) (hfr := (Nat.le_trans (by decide) hFn)) (hstk := rfl) (hcat := Nat.le_of_ble_eq_true rfl) (hd := (m_dec e3_fillFaded 2 rfl)) (k1 := fun r3 h2 => ?_)
  refine ms_icmp_gt (pc := 5) S (m_dec e3_fillFaded 3 rfl) rfl (fun q4 => ?_) (fun q4 => ?_)
  · refine ms_iconst (pc := 16) S (m_dec e3_fillFaded 8 rfl) ?_
    exact ms_ret (pc := 17) E (m_dec e3_fillFaded 9 rfl) rfl
  · refine ms_iload_n (pc := 8) S 3 rfl rfl (m_dec e3_fillFaded 4 rfl) ?_
    refine ms_aload_n (pc := 9) S 1 rfl rfl (m_dec e3_fillFaded 5 rfl) ?_
    refine ms_grd fun g5 => ?_
    refine ms_callVi (pc := 10) S hF (vals := []) (st := [m_i v3]) (hc := vw_5) (hci := by decide) (hcy := rfl) (ht := g5) (hC := (k5_size _ _ v1 h2)) (hM := lm_X3_85) (hfr := (Nat.le_trans (by decide) hFn)) (hstk := rfl) (hcat := Nat.le_of_ble_eq_true rfl) (hd := (m_dec e3_fillFaded 6 rfl)) (k1 := fun r7 h6 => ?_)
    refine ms_icmp_le (pc := 13) S (m_dec e3_fillFaded 7 rfl) rfl (fun q8 => ?_) (fun q8 => ?_)
    · refine ms_iconst (pc := 16) S (m_dec e3_fillFaded 8 rfl) ?_
      exact ms_ret (pc := 17) E (m_dec e3_fillFaded 9 rfl) rfl
    · refine ms_aload_n (pc := 18) S 0 rfl rfl (m_dec e3_fillFaded 10 rfl) ?_
      refine ms_aload_n (pc := 19) S 1 rfl rfl (m_dec e3_fillFaded 11 rfl) ?_
      refine ms_iconst (pc := 20) S (m_dec e3_fillFaded 12 rfl) ?_
      refine ms_aload_n (pc := 21) S 1 rfl rfl (m_dec e3_fillFaded 13 rfl) ?_
      refine ms_grd fun g9 => ?_
      refine ms_callVi (pc := 22) S hF (vals := []) (st := [m_i 0, m_r v1, m_r v0]) (hc := vw_5) (hci := by decide) (hcy := rfl) (ht := g9) (hC := (k5_size _ _ v1 h6)) (hM := lm_X3_85) (hfr := (Nat.le_trans (by decide) hFn)) (hstk := rfl) (hcat := Nat.le_of_ble_eq_true rfl) (hd := (m_dec e3_fillFaded 14 rfl)) (k1 := fun r11 h10 => ?_)
      refine ms_grd fun g12 => ?_
      refine ms_callVv (pc := 25) S hF (vals := [m_r v1, m_i 0, m_i r11]) (st := []) (hc := vw_5) (hci := by decide) (hcy := rfl) (ht := g12) (hC := (k5_fillPart _ _ v0 v1 0 r11 h10)) (hM := lm_X3_122) (hfr := (Nat.le_trans (by decide) hFn)) (hstk := rfl) (hcat := Nat.le_of_ble_eq_true rfl) (hd := (m_dec e3_fillFaded 15 rfl)) (k1 := fun h13 => ?_)
      refine ms_aload_n (pc := 28) S 0 rfl rfl (m_dec e3_fillFaded 16 rfl) ?_
      refine ms_iload_n (pc := 29) S 2 rfl rfl (m_dec e3_fillFaded 17 rfl) ?_
      refine ms_grd fun g15 => ?_
      refine ms_callVv (pc := 30) S hF (vals := [m_i v2]) (st := []) (hc := vw_5) (hci := by decide) (hcy := rfl) (ht := g15) (hC := (k5_fadeIn _ _ v0 v2 h13)) (hM := lm_X3_177) (hfr := (Nat.le_trans (by decide) hFn)) (hstk := rfl) (hcat := Nat.le_of_ble_eq_true rfl) (hd := (m_dec e3_fillFaded 18 rfl)) (k1 := fun h16 => ?_)
      refine ms_aload_n (pc := 33) S 0 rfl rfl (m_dec e3_fillFaded 19 rfl) ?_
      refine ms_iload_n (pc := 34) S 3 rfl rfl (m_dec e3_fillFaded 20 rfl) ?_
      refine ms_grd fun g18 => ?_
      refine ms_callVv (pc := 35) S hF (vals := [m_i v3]) (st := []) (hc := vw_5) (hci := by decide) (hcy := rfl) (ht := g18) (hC := (k5_fadeOut _ _ v0 v3 h16)) (hM := lm_X3_180) (hfr := (Nat.le_trans (by decide) hFn)) (hstk := rfl) (hcat := Nat.le_of_ble_eq_true rfl) (hd := (m_dec e3_fillFaded 21 rfl)) (k1 := fun h19 => ?_)
      refine ms_iconst (pc := 38) S (m_dec e3_fillFaded 22 rfl) ?_
      exact ms_ret (pc := 39) E (m_dec e3_fillFaded 23 rfl) rfl
theorem k3_fillFaded (l : Launch) (d : m_D) (v0 v1 v2 v3 : Int) (h : m_H) : m_Con l d yX3_fillFaded cX3_fillFaded 4 (some .boolean) 4 (fun r => [m_i (m_b2i r)]) [m_r v0, m_r v1, m_i v2, m_i v3] h (t3_fillFaded v0 v1 v2 v3 h) :=
  m_con2 (by decide +kernel) (Nat.le_of_ble_eq_true rfl) (fun Y hN hRm hr hI S hfin => s3_fillFaded S (m_end_z S hr hfin) hRm (Nat.le_refl _) hN v0 v1 v2 v3 h)
set_option maxRecDepth 100000 in
theorem e3_fillRow : ∀ q ∈ ([(0, .aload_n 0, 1), (1, .iload_n 2, 1), (2, .invokevirtual 81, 3), (5, .astore_n 3, 1), (6, .aload_n 0, 1), (7, .aload_n 1, 1), (8, .iload_n 2, 1), (9, .invokevirtual 78, 3), (12, .invokevirtual 81, 3), (15, .astore 4, 2), (17, .aload_n 1, 1), (18, .iload_n 2, 1), (19, .iconst 0, 1), (20, .invokevirtual 58, 3), (23, .istore 5, 2), (25, .aload_n 1, 1), (26, .iload_n 2, 1), (27, .iconst 1, 1), (28, .invokevirtual 58, 3), (31, .istore 6, 2), (33, .aload_n 1, 1), (34, .iload_n 2, 1), (35, .invokevirtual 62, 3), (38, .tableswitch 202 0 10 #[58, 58, 73, 84, 92, 103, 121, 135, 157, 173, 191], 58), (96, .aload_n 0, 1), (97, .aload_n 3, 1), (98, .aload_n 0, 1), (99, .getfield 22, 3), (102, .iload_n 2, 1), (103, .iconst (-1), 1), (104, .invokestatic 89, 3), (107, .invokevirtual 93, 3), (110, .ireturn, 1), (111, .aload_n 3, 1), (112, .aload 4, 2), (114, .iload 5, 2), (116, .iload 6, 2), (118, .invokestatic 97, 3), (121, .ireturn, 1), (122, .aload_n 3, 1), (123, .aload 4, 2), (125, .invokevirtual 101, 3), (128, .iconst 1, 1), (129, .ireturn, 1), (130, .aload_n 3, 1), (131, .aload 4, 2), (133, .iload 5, 2), (135, .iload 6, 2), (137, .invokestatic 105, 3), (140, .ireturn, 1), (141, .aload_n 3, 1), (142, .aload 4, 2), (144, .aload_n 0, 1), (145, .aload_n 1, 1), (146, .iload_n 2, 1), (147, .invokevirtual 108, 3), (150, .invokevirtual 81, 3), (153, .iload 5, 2), (155, .invokestatic 111, 3), (158, .ireturn, 1), (159, .aload_n 3, 1), (160, .aload 4, 2), (162, .iload 5, 2), (164, .invokevirtual 115, 3), (167, .iload 5, 2), (169, .invokestatic 119, 3), (172, .ireturn, 1), (173, .aload_n 3, 1), (174, .aload 4, 2), (176, .iconst 0, 1), (177, .aload 4, 2), (179, .invokevirtual 85, 3), (182, .invokevirtual 122, 3), (185, .aload_n 3, 1), (186, .iload 5, 2), (188, .iload 6, 2), (190, .invokevirtual 126, 3), (193, .iconst 1, 1), (194, .ireturn, 1), (195, .aload_n 3, 1), (196, .aload 4, 2), (198, .aload_n 0, 1), (199, .getfield 29, 3), (202, .iload 5, 2), (204, .invokevirtual 130, 3), (207, .invokestatic 134, 3), (210, .ireturn, 1), (211, .aload_n 3, 1), (212, .aload 4, 2), (214, .iload 5, 2), (216, .iload 6, 2), (218, .aload_n 1, 1), (219, .iload_n 2, 1), (220, .iconst 2, 1), (221, .invokevirtual 58, 3), (224, .invokevirtual 138, 3), (227, .iconst 1, 1), (228, .ireturn, 1), (229, .aload_n 3, 1), (230, .aload 4, 2), (232, .iload 5, 2), (234, .iload 6, 2), (236, .invokestatic 142, 3), (239, .ireturn, 1), (240, .aload_n 3, 1), (241, .aload 4, 2), (243, .iconst 0, 1), (244, .aload 4, 2), (246, .invokevirtual 85, 3), (249, .invokevirtual 122, 3), (252, .aload_n 3, 1), (253, .iload 5, 2), (255, .invokevirtual 145, 3), (258, .iconst 1, 1), (259, .ireturn, 1)] : List (Nat × Instr × Nat)), decode cX3_fillRow q.1 = .ok q.2 := by decide +kernel
set_option maxHeartbeats 4000000 in
set_option maxRecDepth 20000 in
theorem s3_fillRow {Y : m_Y Bool} (S : m_Std Y RX3 cX3_fillRow) (E : m_End Y cX3_fillRow .ireturn (fun r => [m_i (m_b2i r)])) {F : Nat} (hF : m_Rm Y F) (hFn : 5 ≤ F) (hN : Y.2.2.2.1 = 7) (v0 v1 v2 : Int) (h : m_H) : m_Sim Y 0 [(0, m_r v0), (1, m_r v1), (2, m_i v2)] [] h (t3_fillRow v0 v1 v2 h) := by
  unfold t3_fillRow
  refine ms_aload_n (pc := 0) S 0 rfl rfl (m_dec e3_fillRow 0 rfl) ?_
  refine ms_iload_n (pc := 1) S 2 rfl rfl (m_dec e3_fillRow 1 rfl) ?_
  refine ms_grd fun g1 => ?_
  refine ms_callVa (pc := 2) S hF (vals := [m_i v2]) (st := []) (hc := vw_3) (hci := by decide) (hcy := rfl) (ht := g1) (hC := (k3_row _ _ v0 v2 h)) (hM := lm_X3_81) (hfr := (Nat.le_trans (by decide) hFn)) (hstk := rfl) (hcat := Nat.le_of_ble_eq_true rfl) (hd := (m_dec e3_fillRow 2 rfl)) (k1 := fun r3 h2 => ?_)
  refine ms_astore_n (pc := 5) S (L' := [(0, m_r v0), (1, m_r v1), (2, m_i v2), (3, m_r r3)]) [1, 2, 3, 0] rfl rfl (m_lt hN rfl) (m_dec e3_fillRow 3 rfl) ?_
  refine ms_aload_n (pc := 6) S 0 rfl rfl (m_dec e3_fillRow 4 rfl) ?_
  refine ms_aload_n (pc := 7) S 1 rfl rfl (m_dec e3_fillRow 5 rfl) ?_
  refine ms_iload_n (pc := 8) S 2 rfl rfl (m_dec e3_fillRow 6 rfl) ?_
  refine ms_grd fun g4 => ?_
  refine ms_callVi (pc := 9) S hF (vals := [m_i v2]) (st := [m_r v0]) (hc := vw_6) (hci := by decide) (hcy := rfl) (ht := g4) (hC := (k6_one _ _ v1 v2 h2)) (hM := lm_X3_78) (hfr := (Nat.le_trans (by decide) hFn)) (hstk := rfl) (hcat := Nat.le_of_ble_eq_true rfl) (hd := (m_dec e3_fillRow 7 rfl)) (k1 := fun r6 h5 => ?_)
  refine ms_grd fun g7 => ?_
  refine ms_callVa (pc := 12) S hF (vals := [m_i r6]) (st := []) (hc := vw_3) (hci := by decide) (hcy := rfl) (ht := g7) (hC := (k3_row _ _ v0 r6 h5)) (hM := lm_X3_81) (hfr := (Nat.le_trans (by decide) hFn)) (hstk := rfl) (hcat := Nat.le_of_ble_eq_true rfl) (hd := (m_dec e3_fillRow 8 rfl)) (k1 := fun r9 h8 => ?_)
  refine ms_astore (pc := 15) S (L' := [(0, m_r v0), (1, m_r v1), (2, m_i v2), (3, m_r r3), (4, m_r r9)]) [1, 2, 3, 4, 0] rfl (m_lt hN rfl) (m_dec e3_fillRow 9 rfl) ?_
  refine ms_aload_n (pc := 17) S 1 rfl rfl (m_dec e3_fillRow 10 rfl) ?_
  refine ms_iload_n (pc := 18) S 2 rfl rfl (m_dec e3_fillRow 11 rfl) ?_
  refine ms_iconst (pc := 19) S (m_dec e3_fillRow 12 rfl) ?_
  refine ms_grd fun g10 => ?_
  refine ms_callVi (pc := 20) S hF (vals := [m_i v2, m_i 0]) (st := []) (hc := vw_6) (hci := by decide) (hcy := rfl) (ht := g10) (hC := (k6_number _ _ v1 v2 0 h8)) (hM := lm_X3_58) (hfr := (Nat.le_trans (by decide) hFn)) (hstk := rfl) (hcat := Nat.le_of_ble_eq_true rfl) (hd := (m_dec e3_fillRow 13 rfl)) (k1 := fun r12 h11 => ?_)
  refine ms_istore (pc := 23) S (L' := [(0, m_r v0), (1, m_r v1), (2, m_i v2), (3, m_r r3), (4, m_r r9), (5, m_i r12)]) [1, 2, 3, 4, 5, 0] rfl (m_lt hN rfl) (m_dec e3_fillRow 14 rfl) ?_
  refine ms_aload_n (pc := 25) S 1 rfl rfl (m_dec e3_fillRow 15 rfl) ?_
  refine ms_iload_n (pc := 26) S 2 rfl rfl (m_dec e3_fillRow 16 rfl) ?_
  refine ms_iconst (pc := 27) S (m_dec e3_fillRow 17 rfl) ?_
  refine ms_grd fun g13 => ?_
  refine ms_callVi (pc := 28) S hF (vals := [m_i v2, m_i 1]) (st := []) (hc := vw_6) (hci := by decide) (hcy := rfl) (ht := g13) (hC := (k6_number _ _ v1 v2 1 h11)) (hM := lm_X3_58) (hfr := (Nat.le_trans (by decide) hFn)) (hstk := rfl) (hcat := Nat.le_of_ble_eq_true rfl) (hd := (m_dec e3_fillRow 18 rfl)) (k1 := fun r15 h14 => ?_)
  refine ms_istore (pc := 31) S (L' := [(0, m_r v0), (1, m_r v1), (2, m_i v2), (3, m_r r3), (4, m_r r9), (5, m_i r12), (6, m_i r15)]) [1, 2, 3, 4, 5, 6, 0] rfl (m_lt hN rfl) (m_dec e3_fillRow 19 rfl) ?_
  refine ms_aload_n (pc := 33) S 1 rfl rfl (m_dec e3_fillRow 20 rfl) ?_
  refine ms_iload_n (pc := 34) S 2 rfl rfl (m_dec e3_fillRow 21 rfl) ?_
  refine ms_grd fun g16 => ?_
  refine ms_callVi (pc := 35) S hF (vals := [m_i v2]) (st := []) (hc := vw_6) (hci := by decide) (hcy := rfl) (ht := g16) (hC := (k6_verb _ _ v1 v2 h14)) (hM := lm_X3_62) (hfr := (Nat.le_trans (by decide) hFn)) (hstk := rfl) (hcat := Nat.le_of_ble_eq_true rfl) (hd := (m_dec e3_fillRow 22 rfl)) (k1 := fun r18 h17 => ?_)
  refine ms_ite (fun q19 => ?_) (fun q19 => ?_)
  · refine ms_swIn (pc := 38) S (m_dec e3_fillRow 23 rfl) 0 q19 (by decide) (by decide) rfl rfl ?_
    refine ms_aload_n (pc := 96) S 0 rfl rfl (m_dec e3_fillRow 24 rfl) ?_
    refine ms_aload_n (pc := 97) S 3 rfl rfl (m_dec e3_fillRow 25 rfl) ?_
    refine ms_aload_n (pc := 98) S 0 rfl rfl (m_dec e3_fillRow 26 rfl) ?_
    refine ms_grd fun g20 => ?_
    refine ms_getf (pc := 99) S lf_X3_22 rfl (m_dec e3_fillRow 27 rfl) g20 ?_
    refine ms_iload_n (pc := 102) S 2 rfl rfl (m_dec e3_fillRow 28 rfl) ?_
    refine ms_iconst (pc := 103) S (m_dec e3_fillRow 29 rfl) ?_
    refine ms_callSi (pc := 104) S hF (vals := [m_r (m_g h17 v0 3), m_i v2, m_i (-1)]) (st := [m_r r3, m_r v0])  (hC := (k10_entry _ _ (m_g h17 v0 3) v2 (-1) h17)) (hM := lm_X3_89) (hfr := (Nat.le_trans (by decide) hFn)) (hstk := rfl) (hcat := Nat.le_of_ble_eq_true rfl) (hd := (m_dec e3_fillRow 30 rfl)) (k1 := fun r22 h21 => ?_)
    refine ms_grd fun g23 => ?_
    refine ms_callVz (pc := 107) S hF (vals := [m_r r3, m_i r22]) (st := []) (hc := vw_3) (hci := by decide) (hcy := rfl) (ht := g23) (hC := (k3_fillStrip _ _ v0 r3 r22 h21)) (hM := lm_X3_93) (hfr := (Nat.le_trans (by decide) hFn)) (hstk := rfl) (hcat := Nat.le_of_ble_eq_true rfl) (hd := (m_dec e3_fillRow 31 rfl)) (k1 := fun r25 h24 => ?_)
    exact ms_ret (pc := 110) E (m_dec e3_fillRow 32 rfl) rfl
  · refine ms_ite (fun q26 => ?_) (fun q26 => ?_)
    · refine ms_swIn (pc := 38) S (m_dec e3_fillRow 23 rfl) 1 q26 (by decide) (by decide) rfl rfl ?_
      refine ms_aload_n (pc := 96) S 0 rfl rfl (m_dec e3_fillRow 24 rfl) ?_
      refine ms_aload_n (pc := 97) S 3 rfl rfl (m_dec e3_fillRow 25 rfl) ?_
      refine ms_aload_n (pc := 98) S 0 rfl rfl (m_dec e3_fillRow 26 rfl) ?_
      refine ms_grd fun g27 => ?_
      refine ms_getf (pc := 99) S lf_X3_22 rfl (m_dec e3_fillRow 27 rfl) g27 ?_
      refine ms_iload_n (pc := 102) S 2 rfl rfl (m_dec e3_fillRow 28 rfl) ?_
      refine ms_iconst (pc := 103) S (m_dec e3_fillRow 29 rfl) ?_
      refine ms_callSi (pc := 104) S hF (vals := [m_r (m_g h17 v0 3), m_i v2, m_i (-1)]) (st := [m_r r3, m_r v0])  (hC := (k10_entry _ _ (m_g h17 v0 3) v2 (-1) h17)) (hM := lm_X3_89) (hfr := (Nat.le_trans (by decide) hFn)) (hstk := rfl) (hcat := Nat.le_of_ble_eq_true rfl) (hd := (m_dec e3_fillRow 30 rfl)) (k1 := fun r29 h28 => ?_)
      refine ms_grd fun g30 => ?_
      refine ms_callVz (pc := 107) S hF (vals := [m_r r3, m_i r29]) (st := []) (hc := vw_3) (hci := by decide) (hcy := rfl) (ht := g30) (hC := (k3_fillStrip _ _ v0 r3 r29 h28)) (hM := lm_X3_93) (hfr := (Nat.le_trans (by decide) hFn)) (hstk := rfl) (hcat := Nat.le_of_ble_eq_true rfl) (hd := (m_dec e3_fillRow 31 rfl)) (k1 := fun r32 h31 => ?_)
      exact ms_ret (pc := 110) E (m_dec e3_fillRow 32 rfl) rfl
    · refine ms_ite (fun q33 => ?_) (fun q33 => ?_)
      · refine ms_swIn (pc := 38) S (m_dec e3_fillRow 23 rfl) 2 q33 (by decide) (by decide) rfl rfl ?_
        refine ms_aload_n (pc := 111) S 3 rfl rfl (m_dec e3_fillRow 33 rfl) ?_
        refine ms_aload (pc := 112) S 4 rfl (m_dec e3_fillRow 34 rfl) ?_
        refine ms_iload (pc := 114) S 5 rfl (m_dec e3_fillRow 35 rfl) ?_
        refine ms_iload (pc := 116) S 6 rfl (m_dec e3_fillRow 36 rfl) ?_
        refine ms_callSz (pc := 118) S hF (vals := [m_r r3, m_r r9, m_i r12, m_i r15]) (st := [])  (hC := (k3_fillCut _ _ r3 r9 r12 r15 h17)) (hM := lm_X3_97) (hfr := (Nat.le_trans (by decide) hFn)) (hstk := rfl) (hcat := Nat.le_of_ble_eq_true rfl) (hd := (m_dec e3_fillRow 37 rfl)) (k1 := fun r35 h34 => ?_)
        exact ms_ret (pc := 121) E (m_dec e3_fillRow 38 rfl) rfl
      · refine ms_ite (fun q36 => ?_) (fun q36 => ?_)
        · refine ms_swIn (pc := 38) S (m_dec e3_fillRow 23 rfl) 3 q36 (by decide) (by decide) rfl rfl ?_
          refine ms_aload_n (pc := 122) S 3 rfl rfl (m_dec e3_fillRow 39 rfl) ?_
          refine ms_aload (pc := 123) S 4 rfl (m_dec e3_fillRow 40 rfl) ?_
          refine ms_grd fun g37 => ?_
          refine ms_callVv (pc := 125) S hF (vals := [m_r r9]) (st := []) (hc := vw_5) (hci := by decide) (hcy := rfl) (ht := g37) (hC := (k5_fillTurned _ _ r3 r9 h17)) (hM := lm_X3_101) (hfr := (Nat.le_trans (by decide) hFn)) (hstk := rfl) (hcat := Nat.le_of_ble_eq_true rfl) (hd := (m_dec e3_fillRow 41 rfl)) (k1 := fun h38 => ?_)
          refine ms_iconst (pc := 128) S (m_dec e3_fillRow 42 rfl) ?_
          exact ms_ret (pc := 129) E (m_dec e3_fillRow 43 rfl) rfl
        · refine ms_ite (fun q40 => ?_) (fun q40 => ?_)
          · refine ms_swIn (pc := 38) S (m_dec e3_fillRow 23 rfl) 4 q40 (by decide) (by decide) rfl rfl ?_
            refine ms_aload_n (pc := 130) S 3 rfl rfl (m_dec e3_fillRow 44 rfl) ?_
            refine ms_aload (pc := 131) S 4 rfl (m_dec e3_fillRow 45 rfl) ?_
            refine ms_iload (pc := 133) S 5 rfl (m_dec e3_fillRow 46 rfl) ?_
            refine ms_iload (pc := 135) S 6 rfl (m_dec e3_fillRow 47 rfl) ?_
            refine ms_callSz (pc := 137) S hF (vals := [m_r r3, m_r r9, m_i r12, m_i r15]) (st := [])  (hC := (k3_fillPlayed _ _ r3 r9 r12 r15 h17)) (hM := lm_X3_105) (hfr := (Nat.le_trans (by decide) hFn)) (hstk := rfl) (hcat := Nat.le_of_ble_eq_true rfl) (hd := (m_dec e3_fillRow 48 rfl)) (k1 := fun r42 h41 => ?_)
            exact ms_ret (pc := 140) E (m_dec e3_fillRow 49 rfl) rfl
          · refine ms_ite (fun q43 => ?_) (fun q43 => ?_)
            · refine ms_swIn (pc := 38) S (m_dec e3_fillRow 23 rfl) 5 q43 (by decide) (by decide) rfl rfl ?_
              refine ms_aload_n (pc := 141) S 3 rfl rfl (m_dec e3_fillRow 50 rfl) ?_
              refine ms_aload (pc := 142) S 4 rfl (m_dec e3_fillRow 51 rfl) ?_
              refine ms_aload_n (pc := 144) S 0 rfl rfl (m_dec e3_fillRow 52 rfl) ?_
              refine ms_aload_n (pc := 145) S 1 rfl rfl (m_dec e3_fillRow 53 rfl) ?_
              refine ms_iload_n (pc := 146) S 2 rfl rfl (m_dec e3_fillRow 54 rfl) ?_
              refine ms_grd fun g44 => ?_
              refine ms_callVi (pc := 147) S hF (vals := [m_i v2]) (st := [m_r v0, m_r r9, m_r r3]) (hc := vw_6) (hci := by decide) (hcy := rfl) (ht := g44) (hC := (k6_other _ _ v1 v2 h17)) (hM := lm_X3_108) (hfr := (Nat.le_trans (by decide) hFn)) (hstk := rfl) (hcat := Nat.le_of_ble_eq_true rfl) (hd := (m_dec e3_fillRow 55 rfl)) (k1 := fun r46 h45 => ?_)
              refine ms_grd fun g47 => ?_
              refine ms_callVa (pc := 150) S hF (vals := [m_i r46]) (st := [m_r r9, m_r r3]) (hc := vw_3) (hci := by decide) (hcy := rfl) (ht := g47) (hC := (k3_row _ _ v0 r46 h45)) (hM := lm_X3_81) (hfr := (Nat.le_trans (by decide) hFn)) (hstk := rfl) (hcat := Nat.le_of_ble_eq_true rfl) (hd := (m_dec e3_fillRow 56 rfl)) (k1 := fun r49 h48 => ?_)
              refine ms_iload (pc := 153) S 5 rfl (m_dec e3_fillRow 57 rfl) ?_
              refine ms_callSz (pc := 155) S hF (vals := [m_r r3, m_r r9, m_r r49, m_i r12]) (st := [])  (hC := (k3_fillJoined _ _ r3 r9 r49 r12 h48)) (hM := lm_X3_111) (hfr := (Nat.le_trans (by decide) hFn)) (hstk := rfl) (hcat := Nat.le_of_ble_eq_true rfl) (hd := (m_dec e3_fillRow 58 rfl)) (k1 := fun r51 h50 => ?_)
              exact ms_ret (pc := 158) E (m_dec e3_fillRow 59 rfl) rfl
            · refine ms_ite (fun q52 => ?_) (fun q52 => ?_)
              · refine ms_swIn (pc := 38) S (m_dec e3_fillRow 23 rfl) 6 q52 (by decide) (by decide) rfl rfl ?_
                refine ms_aload_n (pc := 159) S 3 rfl rfl (m_dec e3_fillRow 60 rfl) ?_
                refine ms_aload (pc := 160) S 4 rfl (m_dec e3_fillRow 61 rfl) ?_
                refine ms_iload (pc := 162) S 5 rfl (m_dec e3_fillRow 62 rfl) ?_
                refine ms_grd fun g53 => ?_
                refine ms_callVv (pc := 164) S hF (vals := [m_r r9, m_i r12]) (st := []) (hc := vw_5) (hci := by decide) (hcy := rfl) (ht := g53) (hC := (k5_fillRound _ _ r3 r9 r12 h17)) (hM := lm_X3_115) (hfr := (Nat.le_trans (by decide) hFn)) (hstk := rfl) (hcat := Nat.le_of_ble_eq_true rfl) (hd := (m_dec e3_fillRow 63 rfl)) (k1 := fun h54 => ?_)
                refine ms_iload (pc := 167) S 5 rfl (m_dec e3_fillRow 64 rfl) ?_
                refine ms_callSz (pc := 169) S hF (vals := [m_i r12]) (st := [])  (hC := (k3_isLength _ _ r12 h54)) (hM := lm_X3_119) (hfr := (Nat.le_trans (by decide) hFn)) (hstk := rfl) (hcat := Nat.le_of_ble_eq_true rfl) (hd := (m_dec e3_fillRow 65 rfl)) (k1 := fun r57 h56 => ?_)
                exact ms_ret (pc := 172) E (m_dec e3_fillRow 66 rfl) rfl
              · refine ms_ite (fun q58 => ?_) (fun q58 => ?_)
                · refine ms_swIn (pc := 38) S (m_dec e3_fillRow 23 rfl) 7 q58 (by decide) (by decide) rfl rfl ?_
                  refine ms_aload_n (pc := 173) S 3 rfl rfl (m_dec e3_fillRow 67 rfl) ?_
                  refine ms_aload (pc := 174) S 4 rfl (m_dec e3_fillRow 68 rfl) ?_
                  refine ms_iconst (pc := 176) S (m_dec e3_fillRow 69 rfl) ?_
                  refine ms_aload (pc := 177) S 4 rfl (m_dec e3_fillRow 70 rfl) ?_
                  refine ms_grd fun g59 => ?_
                  refine ms_callVi (pc := 179) S hF (vals := []) (st := [m_i 0, m_r r9, m_r r3]) (hc := vw_5) (hci := by decide) (hcy := rfl) (ht := g59) (hC := (k5_size _ _ r9 h17)) (hM := lm_X3_85) (hfr := (Nat.le_trans (by decide) hFn)) (hstk := rfl) (hcat := Nat.le_of_ble_eq_true rfl) (hd := (m_dec e3_fillRow 71 rfl)) (k1 := fun r61 h60 => ?_)
                  refine ms_grd fun g62 => ?_
                  refine ms_callVv (pc := 182) S hF (vals := [m_r r9, m_i 0, m_i r61]) (st := []) (hc := vw_5) (hci := by decide) (hcy := rfl) (ht := g62) (hC := (k5_fillPart _ _ r3 r9 0 r61 h60)) (hM := lm_X3_122) (hfr := (Nat.le_trans (by decide) hFn)) (hstk := rfl) (hcat := Nat.le_of_ble_eq_true rfl) (hd := (m_dec e3_fillRow 72 rfl)) (k1 := fun h63 => ?_)
                  refine ms_aload_n (pc := 185) S 3 rfl rfl (m_dec e3_fillRow 73 rfl) ?_
                  refine ms_iload (pc := 186) S 5 rfl (m_dec e3_fillRow 74 rfl) ?_
                  refine ms_iload (pc := 188) S 6 rfl (m_dec e3_fillRow 75 rfl) ?_
                  refine ms_grd fun g65 => ?_
                  refine ms_callVv (pc := 190) S hF (vals := [m_i r12, m_i r15]) (st := []) (hc := vw_5) (hci := by decide) (hcy := rfl) (ht := g65) (hC := (k5_echo _ _ r3 r12 r15 h63)) (hM := lm_X3_126) (hfr := (Nat.le_trans (by decide) hFn)) (hstk := rfl) (hcat := Nat.le_of_ble_eq_true rfl) (hd := (m_dec e3_fillRow 76 rfl)) (k1 := fun h66 => ?_)
                  refine ms_iconst (pc := 193) S (m_dec e3_fillRow 77 rfl) ?_
                  exact ms_ret (pc := 194) E (m_dec e3_fillRow 78 rfl) rfl
                · refine ms_ite (fun q68 => ?_) (fun q68 => ?_)
                  · refine ms_swIn (pc := 38) S (m_dec e3_fillRow 23 rfl) 8 q68 (by decide) (by decide) rfl rfl ?_
                    refine ms_aload_n (pc := 195) S 3 rfl rfl (m_dec e3_fillRow 79 rfl) ?_
                    refine ms_aload (pc := 196) S 4 rfl (m_dec e3_fillRow 80 rfl) ?_
                    refine ms_aload_n (pc := 198) S 0 rfl rfl (m_dec e3_fillRow 81 rfl) ?_
                    refine ms_grd fun g69 => ?_
                    refine ms_getf (pc := 199) S lf_X3_29 rfl (m_dec e3_fillRow 82 rfl) g69 ?_
                    refine ms_iload (pc := 202) S 5 rfl (m_dec e3_fillRow 83 rfl) ?_
                    refine ms_grd fun g70 => ?_
                    refine ms_callVa (pc := 204) S hF (vals := [m_i r12]) (st := [m_r r9, m_r r3]) (hc := vw_7) (hci := by decide) (hcy := rfl) (ht := g70) (hC := (k7_machineOf _ _ (m_g h17 v0 0) r12 h17)) (hM := lm_X3_130) (hfr := (Nat.le_trans (by decide) hFn)) (hstk := rfl) (hcat := Nat.le_of_ble_eq_true rfl) (hd := (m_dec e3_fillRow 84 rfl)) (k1 := fun r72 h71 => ?_)
                    refine ms_callSz (pc := 207) S hF (vals := [m_r r3, m_r r9, m_r r72]) (st := [])  (hC := (k3_fillCopied _ _ r3 r9 r72 h71)) (hM := lm_X3_134) (hfr := (Nat.le_trans (by decide) hFn)) (hstk := rfl) (hcat := Nat.le_of_ble_eq_true rfl) (hd := (m_dec e3_fillRow 85 rfl)) (k1 := fun r74 h73 => ?_)
                    exact ms_ret (pc := 210) E (m_dec e3_fillRow 86 rfl) rfl
                  · refine ms_ite (fun q75 => ?_) (fun q75 => ?_)
                    · refine ms_swIn (pc := 38) S (m_dec e3_fillRow 23 rfl) 9 q75 (by decide) (by decide) rfl rfl ?_
                      refine ms_aload_n (pc := 211) S 3 rfl rfl (m_dec e3_fillRow 87 rfl) ?_
                      refine ms_aload (pc := 212) S 4 rfl (m_dec e3_fillRow 88 rfl) ?_
                      refine ms_iload (pc := 214) S 5 rfl (m_dec e3_fillRow 89 rfl) ?_
                      refine ms_iload (pc := 216) S 6 rfl (m_dec e3_fillRow 90 rfl) ?_
                      refine ms_aload_n (pc := 218) S 1 rfl rfl (m_dec e3_fillRow 91 rfl) ?_
                      refine ms_iload_n (pc := 219) S 2 rfl rfl (m_dec e3_fillRow 92 rfl) ?_
                      refine ms_iconst (pc := 220) S (m_dec e3_fillRow 93 rfl) ?_
                      refine ms_grd fun g76 => ?_
                      refine ms_callVi (pc := 221) S hF (vals := [m_i v2, m_i 2]) (st := [m_i r15, m_i r12, m_r r9, m_r r3]) (hc := vw_6) (hci := by decide) (hcy := rfl) (ht := g76) (hC := (k6_number _ _ v1 v2 2 h17)) (hM := lm_X3_58) (hfr := (Nat.le_trans (by decide) hFn)) (hstk := rfl) (hcat := Nat.le_of_ble_eq_true rfl) (hd := (m_dec e3_fillRow 94 rfl)) (k1 := fun r78 h77 => ?_)
                      refine ms_grd fun g79 => ?_
                      refine ms_callVv (pc := 224) S hF (vals := [m_r r9, m_i r12, m_i r15, m_i r78]) (st := []) (hc := vw_5) (hci := by decide) (hcy := rfl) (ht := g79) (hC := (k5_fillFiltered _ _ r3 r9 r12 r15 r78 h77)) (hM := lm_X3_138) (hfr := (Nat.le_trans (by decide) hFn)) (hstk := rfl) (hcat := Nat.le_of_ble_eq_true rfl) (hd := (m_dec e3_fillRow 95 rfl)) (k1 := fun h80 => ?_)
                      refine ms_iconst (pc := 227) S (m_dec e3_fillRow 96 rfl) ?_
                      exact ms_ret (pc := 228) E (m_dec e3_fillRow 97 rfl) rfl
                    · refine ms_ite (fun q82 => ?_) (fun q82 => ?_)
                      · refine ms_swIn (pc := 38) S (m_dec e3_fillRow 23 rfl) 10 q82 (by decide) (by decide) rfl rfl ?_
                        refine ms_aload_n (pc := 229) S 3 rfl rfl (m_dec e3_fillRow 98 rfl) ?_
                        refine ms_aload (pc := 230) S 4 rfl (m_dec e3_fillRow 99 rfl) ?_
                        refine ms_iload (pc := 232) S 5 rfl (m_dec e3_fillRow 100 rfl) ?_
                        refine ms_iload (pc := 234) S 6 rfl (m_dec e3_fillRow 101 rfl) ?_
                        refine ms_callSz (pc := 236) S hF (vals := [m_r r3, m_r r9, m_i r12, m_i r15]) (st := [])  (hC := (k3_fillFaded _ _ r3 r9 r12 r15 h17)) (hM := lm_X3_142) (hfr := (Nat.le_trans (by decide) hFn)) (hstk := rfl) (hcat := Nat.le_of_ble_eq_true rfl) (hd := (m_dec e3_fillRow 102 rfl)) (k1 := fun r84 h83 => ?_)
                        exact ms_ret (pc := 239) E (m_dec e3_fillRow 103 rfl) rfl
                      · refine ms_swOut (pc := 38) (a := r18) S (m_dec e3_fillRow 23 rfl) (by omega) rfl ?_
                        refine ms_aload_n (pc := 240) S 3 rfl rfl (m_dec e3_fillRow 104 rfl) ?_
                        refine ms_aload (pc := 241) S 4 rfl (m_dec e3_fillRow 105 rfl) ?_
                        refine ms_iconst (pc := 243) S (m_dec e3_fillRow 106 rfl) ?_
                        refine ms_aload (pc := 244) S 4 rfl (m_dec e3_fillRow 107 rfl) ?_
                        refine ms_grd fun g85 => ?_
                        refine ms_callVi (pc := 246) S hF (vals := []) (st := [m_i 0, m_r r9, m_r r3]) (hc := vw_5) (hci := by decide) (hcy := rfl) (ht := g85) (hC := (k5_size _ _ r9 h17)) (hM := lm_X3_85) (hfr := (Nat.le_trans (by decide) hFn)) (hstk := rfl) (hcat := Nat.le_of_ble_eq_true rfl) (hd := (m_dec e3_fillRow 108 rfl)) (k1 := fun r87 h86 => ?_)
                        refine ms_grd fun g88 => ?_
                        refine ms_callVv (pc := 249) S hF (vals := [m_r r9, m_i 0, m_i r87]) (st := []) (hc := vw_5) (hci := by decide) (hcy := rfl) (ht := g88) (hC := (k5_fillPart _ _ r3 r9 0 r87 h86)) (hM := lm_X3_122) (hfr := (Nat.le_trans (by decide) hFn)) (hstk := rfl) (hcat := Nat.le_of_ble_eq_true rfl) (hd := (m_dec e3_fillRow 109 rfl)) (k1 := fun h89 => ?_)
                        refine ms_aload_n (pc := 252) S 3 rfl rfl (m_dec e3_fillRow 110 rfl) ?_
                        refine ms_iload (pc := 253) S 5 rfl (m_dec e3_fillRow 111 rfl) ?_
                        refine ms_grd fun g91 => ?_
                        refine ms_callVv (pc := 255) S hF (vals := [m_i r12]) (st := []) (hc := vw_5) (hci := by decide) (hcy := rfl) (ht := g91) (hC := (k5_level _ _ r3 r12 h89)) (hM := lm_X3_145) (hfr := (Nat.le_trans (by decide) hFn)) (hstk := rfl) (hcat := Nat.le_of_ble_eq_true rfl) (hd := (m_dec e3_fillRow 112 rfl)) (k1 := fun h92 => ?_)
                        refine ms_iconst (pc := 258) S (m_dec e3_fillRow 113 rfl) ?_
                        exact ms_ret (pc := 259) E (m_dec e3_fillRow 114 rfl) rfl
theorem k3_fillRow (l : Launch) (d : m_D) (v0 v1 v2 : Int) (h : m_H) : m_Con l d yX3_fillRow cX3_fillRow 7 (some .boolean) 5 (fun r => [m_i (m_b2i r)]) [m_r v0, m_r v1, m_i v2] h (t3_fillRow v0 v1 v2 h) :=
  m_con2 (by decide +kernel) (Nat.le_of_ble_eq_true rfl) (fun Y hN hRm hr hI S hfin => s3_fillRow S (m_end_z S hr hfin) hRm (Nat.le_refl _) hN v0 v1 v2 h)
set_option maxRecDepth 100000 in
theorem e3_firstFailing : ∀ q ∈ ([(0, .iconst 0, 1), (1, .istore_n 3, 1), (2, .iload_n 3, 1), (3, .aload_n 1, 1), (4, .getfield 33, 3), (7, .if_icmp .ge 56, 3), (10, .aload_n 0, 1), (11, .getfield 22, 3), (14, .iload_n 3, 1), (15, .aload_n 0, 1), (16, .aload_n 1, 1), (17, .iload_n 3, 1), (18, .iload_n 2, 1), (19, .invokevirtual 39, 3), (22, .invokestatic 43, 3), (25, .aload_n 1, 1), (26, .iload_n 3, 1), (27, .invokevirtual 47, 3), (30, .ifCond .eq 12, 3), (33, .aload_n 0, 1), (34, .aload_n 1, 1), (35, .iload_n 3, 1), (36, .invokevirtual 51, 3), (39, .goto 9, 3), (42, .aload_n 0, 1), (43, .aload_n 1, 1), (44, .iload_n 3, 1), (45, .invokevirtual 55, 3), (48, .istore 4, 2), (50, .iload 4, 2), (52, .ifCond .ne 5, 3), (55, .iload_n 3, 1), (56, .ireturn, 1), (57, .iinc 3 1, 3), (60, .goto (-58), 3), (63, .iconst (-1), 1), (64, .ireturn, 1)] : List (Nat × Instr × Nat)), decode cX3_firstFailing q.1 = .ok q.2 := by decide +kernel
set_option maxHeartbeats 4000000 in
set_option maxRecDepth 20000 in
theorem s3_firstFailing_c2 {Y : m_Y Int} (S : m_Std Y RX3 cX3_firstFailing) (E : m_End Y cX3_firstFailing .ireturn (fun r => [m_i r])) {F : Nat} (hF : m_Rm Y F) (hFn : 6 ≤ F) (hN : Y.2.2.2.1 = 5) : ∀ (v0 v1 v2 v3 : Int) (h : m_H), m_Sim Y 2 [(0, m_r v0), (1, m_r v1), (2, m_i v2), (3, m_i v3)] [] h (t3_firstFailing_c2 v0 v1 v2 v3 h) := by
  intro v0 v1 v2 v3 h
  refine ms_all fun r e => ?_
  refine t3_firstFailing_c2.partial_correctness v0 v1 v2 (motive := fun v3 h r => m_Sim Y 2 [(0, m_r v0), (1, m_r v1), (2, m_i v2), (3, m_i v3)] [] h (some r)) ?_ v3 h r e
  intro f ih v3 h r e
  have ih : ∀ (v3 : Int) (h : m_H), m_Sim Y 2 [(0, m_r v0), (1, m_r v1), (2, m_i v2), (3, m_i v3)] [] h (f v3 h ) := fun v3 h  => ms_all fun r e => ih v3 h r e
  refine ms_use ?_ e
  clear e r
  refine ms_iload_n (pc := 2) S 3 rfl rfl (m_dec e3_firstFailing 2 rfl) ?_
  refine ms_aload_n (pc := 3) S 1 rfl rfl (m_dec e3_firstFailing 3 rfl) ?_
  refine ms_grd fun g1 => ?_
  refine ms_getf (pc := 4) S lf_X3_33 rfl (m_dec e3_firstFailing 4 rfl) g1 ?_
  refine ms_icmp_ge (pc := 7) S (m_dec e3_firstFailing 5 rfl) rfl (fun q2 => ?_) (fun q2 => ?_)
  · refine ms_aload_n (pc := 10) S 0 rfl rfl (m_dec e3_firstFailing 6 rfl) ?_
    refine ms_grd fun g3 => ?_
    refine ms_getf (pc := 11) S lf_X3_22 rfl (m_dec e3_firstFailing 7 rfl) g3 ?_
    refine ms_iload_n (pc := 14) S 3 rfl rfl (m_dec e3_firstFailing 8 rfl) ?_
    refine ms_aload_n (pc := 15) S 0 rfl rfl (m_dec e3_firstFailing 9 rfl) ?_
    refine ms_aload_n (pc := 16) S 1 rfl rfl (m_dec e3_firstFailing 10 rfl) ?_
    refine ms_iload_n (pc := 17) S 3 rfl rfl (m_dec e3_firstFailing 11 rfl) ?_
    refine ms_iload_n (pc := 18) S 2 rfl rfl (m_dec e3_firstFailing 12 rfl) ?_
    refine ms_callVi (pc := 19) S hF (vals := [m_r v1, m_i v3, m_i v2]) (st := [m_i v3, m_r (m_g h v0 3)]) (hc := vw_3) (hci := by decide) (hcy := rfl) (ht := g3) (hC := (k3_stripOf _ _ v0 v1 v3 v2 h)) (hM := lm_X3_39) (hfr := (Nat.le_trans (by decide) hFn)) (hstk := rfl) (hcat := Nat.le_of_ble_eq_true rfl) (hd := (m_dec e3_firstFailing 13 rfl)) (k1 := fun r5 h4 => ?_)
    refine ms_callSv (pc := 22) S hF (vals := [m_r (m_g h v0 3), m_i v3, m_i r5]) (st := [])  (hC := (k10_setEntry _ _ (m_g h v0 3) v3 r5 h4)) (hM := lm_X3_43) (hfr := (Nat.le_trans (by decide) hFn)) (hstk := rfl) (hcat := Nat.le_of_ble_eq_true rfl) (hd := (m_dec e3_firstFailing 14 rfl)) (k1 := fun h6 => ?_)
    refine ms_aload_n (pc := 25) S 1 rfl rfl (m_dec e3_firstFailing 15 rfl) ?_
    refine ms_iload_n (pc := 26) S 3 rfl rfl (m_dec e3_firstFailing 16 rfl) ?_
    refine ms_grd fun g8 => ?_
    refine ms_callVz (pc := 27) S hF (vals := [m_i v3]) (st := []) (hc := vw_6) (hci := by decide) (hcy := rfl) (ht := g8) (hC := (k6_isPut _ _ v1 v3 h6)) (hM := lm_X3_47) (hfr := (Nat.le_trans (by decide) hFn)) (hstk := rfl) (hcat := Nat.le_of_ble_eq_true rfl) (hd := (m_dec e3_firstFailing 17 rfl)) (k1 := fun r10 h9 => ?_)
    refine ms_ifb_eq (pc := 30) S (m_dec e3_firstFailing 18 rfl) rfl (fun q11 => ?_) (fun q11 => ?_)
    · refine ms_aload_n (pc := 33) S 0 rfl rfl (m_dec e3_firstFailing 19 rfl) ?_
      refine ms_aload_n (pc := 34) S 1 rfl rfl (m_dec e3_firstFailing 20 rfl) ?_
      refine ms_iload_n (pc := 35) S 3 rfl rfl (m_dec e3_firstFailing 21 rfl) ?_
      refine ms_grd fun g12 => ?_
      refine ms_callVz (pc := 36) S hF (vals := [m_r v1, m_i v3]) (st := []) (hc := vw_3) (hci := by decide) (hcy := rfl) (ht := g12) (hC := (k3_canPut _ _ v0 v1 v3 h9)) (hM := lm_X3_51) (hfr := (Nat.le_trans (by decide) hFn)) (hstk := rfl) (hcat := Nat.le_of_ble_eq_true rfl) (hd := (m_dec e3_firstFailing 22 rfl)) (k1 := fun r14 h13 => ?_)
      refine ms_goto (pc := 39) S (m_dec e3_firstFailing 23 rfl) rfl ?_
      refine ms_nm (st := fun x15 => [m_i x15]) fun x15 => ?_
      refine ms_istore (pc := 48) S (L' := [(0, m_r v0), (1, m_r v1), (2, m_i v2), (3, m_i v3), (4, m_i x15)]) [1, 2, 3, 4, 0] rfl (m_lt hN rfl) (m_dec e3_firstFailing 28 rfl) ?_
      refine ms_iload (pc := 50) S 4 rfl (m_dec e3_firstFailing 29 rfl) ?_
      refine ms_if_ne (pc := 52) S (m_dec e3_firstFailing 30 rfl) rfl (fun q16 => ?_) (fun q16 => ?_)
      · refine ms_iload_n (pc := 55) S 3 rfl rfl (m_dec e3_firstFailing 31 rfl) ?_
        exact ms_ret (pc := 56) E (m_dec e3_firstFailing 32 rfl) rfl
      · refine ms_iinc (pc := 57) S (L' := [(0, m_r v0), (1, m_r v1), (2, m_i v2), (3, m_i (v3 + 1))]) 3 rfl [1, 2, 3, 0] rfl (m_lt hN rfl) (m_dec e3_firstFailing 33 rfl) ?_
        refine ms_goto (pc := 60) S (m_dec e3_firstFailing 34 rfl) rfl ?_
        exact ih (v3 + 1) h13
    · refine ms_aload_n (pc := 42) S 0 rfl rfl (m_dec e3_firstFailing 24 rfl) ?_
      refine ms_aload_n (pc := 43) S 1 rfl rfl (m_dec e3_firstFailing 25 rfl) ?_
      refine ms_iload_n (pc := 44) S 3 rfl rfl (m_dec e3_firstFailing 26 rfl) ?_
      refine ms_grd fun g17 => ?_
      refine ms_callVz (pc := 45) S hF (vals := [m_r v1, m_i v3]) (st := []) (hc := vw_3) (hci := by decide) (hcy := rfl) (ht := g17) (hC := (k3_fillRow _ _ v0 v1 v3 h9)) (hM := lm_X3_55) (hfr := (Nat.le_trans (by decide) hFn)) (hstk := rfl) (hcat := Nat.le_of_ble_eq_true rfl) (hd := (m_dec e3_firstFailing 27 rfl)) (k1 := fun r19 h18 => ?_)
      refine ms_nm (st := fun x20 => [m_i x20]) fun x20 => ?_
      refine ms_istore (pc := 48) S (L' := [(0, m_r v0), (1, m_r v1), (2, m_i v2), (3, m_i v3), (4, m_i x20)]) [1, 2, 3, 4, 0] rfl (m_lt hN rfl) (m_dec e3_firstFailing 28 rfl) ?_
      refine ms_iload (pc := 50) S 4 rfl (m_dec e3_firstFailing 29 rfl) ?_
      refine ms_if_ne (pc := 52) S (m_dec e3_firstFailing 30 rfl) rfl (fun q21 => ?_) (fun q21 => ?_)
      · refine ms_iload_n (pc := 55) S 3 rfl rfl (m_dec e3_firstFailing 31 rfl) ?_
        exact ms_ret (pc := 56) E (m_dec e3_firstFailing 32 rfl) rfl
      · refine ms_iinc (pc := 57) S (L' := [(0, m_r v0), (1, m_r v1), (2, m_i v2), (3, m_i (v3 + 1))]) 3 rfl [1, 2, 3, 0] rfl (m_lt hN rfl) (m_dec e3_firstFailing 33 rfl) ?_
        refine ms_goto (pc := 60) S (m_dec e3_firstFailing 34 rfl) rfl ?_
        exact ih (v3 + 1) h18
  · refine ms_iconst (pc := 63) S (m_dec e3_firstFailing 35 rfl) ?_
    exact ms_ret (pc := 64) E (m_dec e3_firstFailing 36 rfl) rfl
set_option maxHeartbeats 4000000 in
set_option maxRecDepth 20000 in
theorem s3_firstFailing {Y : m_Y Int} (S : m_Std Y RX3 cX3_firstFailing) (E : m_End Y cX3_firstFailing .ireturn (fun r => [m_i r])) {F : Nat} (hF : m_Rm Y F) (hFn : 6 ≤ F) (hN : Y.2.2.2.1 = 5) (v0 v1 v2 : Int) (h : m_H) : m_Sim Y 0 [(0, m_r v0), (1, m_r v1), (2, m_i v2)] [] h (t3_firstFailing v0 v1 v2 h) := by
  unfold t3_firstFailing
  refine ms_iconst (pc := 0) S (m_dec e3_firstFailing 0 rfl) ?_
  refine ms_istore_n (pc := 1) S (L' := [(0, m_r v0), (1, m_r v1), (2, m_i v2), (3, m_i 0)]) [1, 2, 3, 0] rfl rfl (m_lt hN rfl) (m_dec e3_firstFailing 1 rfl) ?_
  exact s3_firstFailing_c2 S E hF hFn hN v0 v1 v2 0 h
theorem k3_firstFailing (l : Launch) (d : m_D) (v0 v1 v2 : Int) (h : m_H) : m_Con l d yX3_firstFailing cX3_firstFailing 5 (some .int) 6 (fun r => [m_i r]) [m_r v0, m_r v1, m_i v2] h (t3_firstFailing v0 v1 v2 h) :=
  m_con2 (by decide +kernel) (Nat.le_of_ble_eq_true rfl) (fun Y hN hRm hr hI S hfin => s3_firstFailing S (m_end_i S hr hfin) hRm (Nat.le_refl _) hN v0 v1 v2 h)
set_option maxRecDepth 100000 in
theorem e3_noteLeads : ∀ q ∈ ([(0, .aload_n 1, 1), (1, .iconst 1, 1), (2, .putfield 183, 3), (5, .iconst 0, 1), (6, .istore_n 2, 1), (7, .iload_n 2, 1), (8, .aload_n 1, 1), (9, .getfield 33, 3), (12, .if_icmp .ge 26, 3), (15, .aload_n 1, 1), (16, .getfield 187, 3), (19, .iload_n 2, 1), (20, .aload_n 0, 1), (21, .getfield 22, 3), (24, .iload_n 2, 1), (25, .iconst (-1), 1), (26, .invokestatic 89, 3), (29, .invokestatic 43, 3), (32, .iinc 2 1, 3), (35, .goto (-28), 3), (38, .return_, 1)] : List (Nat × Instr × Nat)), decode cX3_noteLeads q.1 = .ok q.2 := by decide +kernel
set_option maxHeartbeats 4000000 in
set_option maxRecDepth 20000 in
theorem s3_noteLeads_c7 {Y : m_Y Unit} (S : m_Std Y RX3 cX3_noteLeads) (E : m_End Y cX3_noteLeads .return_ (fun _ => [])) {F : Nat} (hF : m_Rm Y F) (hFn : 1 ≤ F) (hN : Y.2.2.2.1 = 3) : ∀ (v0 v1 v2 : Int) (h : m_H), m_Sim Y 7 [(0, m_r v0), (1, m_r v1), (2, m_i v2)] [] h (t3_noteLeads_c7 v0 v1 v2 h) := by
  intro v0 v1 v2 h
  refine ms_all fun r e => ?_
  refine t3_noteLeads_c7.partial_correctness v0 v1 (motive := fun v2 h r => m_Sim Y 7 [(0, m_r v0), (1, m_r v1), (2, m_i v2)] [] h (some r)) ?_ v2 h r e
  intro f ih v2 h r e
  have ih : ∀ (v2 : Int) (h : m_H), m_Sim Y 7 [(0, m_r v0), (1, m_r v1), (2, m_i v2)] [] h (f v2 h ) := fun v2 h  => ms_all fun r e => ih v2 h r e
  refine ms_use ?_ e
  clear e r
  refine ms_iload_n (pc := 7) S 2 rfl rfl (m_dec e3_noteLeads 5 rfl) ?_
  refine ms_aload_n (pc := 8) S 1 rfl rfl (m_dec e3_noteLeads 6 rfl) ?_
  refine ms_grd fun g1 => ?_
  refine ms_getf (pc := 9) S lf_X3_33 rfl (m_dec e3_noteLeads 7 rfl) g1 ?_
  refine ms_icmp_ge (pc := 12) S (m_dec e3_noteLeads 8 rfl) rfl (fun q2 => ?_) (fun q2 => ?_)
  · refine ms_aload_n (pc := 15) S 1 rfl rfl (m_dec e3_noteLeads 9 rfl) ?_
    refine ms_getf (pc := 16) S lf_X3_187 rfl (m_dec e3_noteLeads 10 rfl) g1 ?_
    refine ms_iload_n (pc := 19) S 2 rfl rfl (m_dec e3_noteLeads 11 rfl) ?_
    refine ms_aload_n (pc := 20) S 0 rfl rfl (m_dec e3_noteLeads 12 rfl) ?_
    refine ms_grd fun g3 => ?_
    refine ms_getf (pc := 21) S lf_X3_22 rfl (m_dec e3_noteLeads 13 rfl) g3 ?_
    refine ms_iload_n (pc := 24) S 2 rfl rfl (m_dec e3_noteLeads 14 rfl) ?_
    refine ms_iconst (pc := 25) S (m_dec e3_noteLeads 15 rfl) ?_
    refine ms_callSi (pc := 26) S hF (vals := [m_r (m_g h v0 3), m_i v2, m_i (-1)]) (st := [m_i v2, m_r (m_g h v1 3)])  (hC := (k10_entry _ _ (m_g h v0 3) v2 (-1) h)) (hM := lm_X3_89) (hfr := (Nat.le_trans (by decide) hFn)) (hstk := rfl) (hcat := Nat.le_of_ble_eq_true rfl) (hd := (m_dec e3_noteLeads 16 rfl)) (k1 := fun r5 h4 => ?_)
    refine ms_callSv (pc := 29) S hF (vals := [m_r (m_g h v1 3), m_i v2, m_i r5]) (st := [])  (hC := (k10_setEntry _ _ (m_g h v1 3) v2 r5 h4)) (hM := lm_X3_43) (hfr := (Nat.le_trans (by decide) hFn)) (hstk := rfl) (hcat := Nat.le_of_ble_eq_true rfl) (hd := (m_dec e3_noteLeads 17 rfl)) (k1 := fun h6 => ?_)
    refine ms_iinc (pc := 32) S (L' := [(0, m_r v0), (1, m_r v1), (2, m_i (v2 + 1))]) 2 rfl [1, 2, 0] rfl (m_lt hN rfl) (m_dec e3_noteLeads 18 rfl) ?_
    refine ms_goto (pc := 35) S (m_dec e3_noteLeads 19 rfl) rfl ?_
    exact ih (v2 + 1) h6
  · exact ms_ret (pc := 38) E (m_dec e3_noteLeads 20 rfl) rfl
set_option maxHeartbeats 4000000 in
set_option maxRecDepth 20000 in
theorem s3_noteLeads {Y : m_Y Unit} (S : m_Std Y RX3 cX3_noteLeads) (E : m_End Y cX3_noteLeads .return_ (fun _ => [])) {F : Nat} (hF : m_Rm Y F) (hFn : 1 ≤ F) (hN : Y.2.2.2.1 = 3) (v0 v1 : Int) (h : m_H) : m_Sim Y 0 [(0, m_r v0), (1, m_r v1)] [] h (t3_noteLeads v0 v1 h) := by
  unfold t3_noteLeads
  refine ms_aload_n (pc := 0) S 1 rfl rfl (m_dec e3_noteLeads 0 rfl) ?_
  refine ms_iconst (pc := 1) S (m_dec e3_noteLeads 1 rfl) ?_
  refine ms_grd fun g1 => ?_
  refine ms_putf (pc := 2) S lp_X3_183 (fun z => by cases z) rfl (fun d => m_fitZ1 d) (m_dec e3_noteLeads 2 rfl) g1 (fun h2 => ?_)
  refine ms_iconst (pc := 5) S (m_dec e3_noteLeads 3 rfl) ?_
  refine ms_istore_n (pc := 6) S (L' := [(0, m_r v0), (1, m_r v1), (2, m_i 0)]) [1, 2, 0] rfl rfl (m_lt hN rfl) (m_dec e3_noteLeads 4 rfl) ?_
  exact s3_noteLeads_c7 S E hF hFn hN v0 v1 0 h2
theorem k3_noteLeads (l : Launch) (d : m_D) (v0 v1 : Int) (h : m_H) : m_Con l d yX3_noteLeads cX3_noteLeads 3 none 1 (fun _ => []) [m_r v0, m_r v1] h (t3_noteLeads v0 v1 h) :=
  m_con2 (by decide +kernel) (Nat.le_of_ble_eq_true rfl) (fun Y hN hRm hr hI S hfin => s3_noteLeads S (m_end_v S hr hfin) hRm (Nat.le_refl _) hN v0 v1 h)
set_option maxRecDepth 100000 in
theorem e3_leadsOtherwise : ∀ q ∈ ([(0, .iconst 0, 1), (1, .istore_n 2, 1), (2, .iload_n 2, 1), (3, .aload_n 1, 1), (4, .getfield 33, 3), (7, .if_icmp .ge 41, 3), (10, .aload_n 1, 1), (11, .iload_n 2, 1), (12, .invokevirtual 62, 3), (15, .iconst 1, 1), (16, .if_icmp .ne 26, 3), (19, .aload_n 0, 1), (20, .getfield 22, 3), (23, .iload_n 2, 1), (24, .iconst (-1), 1), (25, .invokestatic 89, 3), (28, .aload_n 1, 1), (29, .getfield 187, 3), (32, .iload_n 2, 1), (33, .iconst (-1), 1), (34, .invokestatic 89, 3), (37, .if_icmp .eq 5, 3), (40, .iconst 1, 1), (41, .ireturn, 1), (42, .iinc 2 1, 3), (45, .goto (-43), 3), (48, .iconst 0, 1), (49, .ireturn, 1)] : List (Nat × Instr × Nat)), decode cX3_leadsOtherwise q.1 = .ok q.2 := by decide +kernel
set_option maxHeartbeats 4000000 in
set_option maxRecDepth 20000 in
theorem s3_leadsOtherwise_c2 {Y : m_Y Bool} (S : m_Std Y RX3 cX3_leadsOtherwise) (E : m_End Y cX3_leadsOtherwise .ireturn (fun r => [m_i (m_b2i r)])) {F : Nat} (hF : m_Rm Y F) (hFn : 2 ≤ F) (hN : Y.2.2.2.1 = 3) : ∀ (v0 v1 v2 : Int) (h : m_H), m_Sim Y 2 [(0, m_r v0), (1, m_r v1), (2, m_i v2)] [] h (t3_leadsOtherwise_c2 v0 v1 v2 h) := by
  intro v0 v1 v2 h
  refine ms_all fun r e => ?_
  refine t3_leadsOtherwise_c2.partial_correctness v0 v1 (motive := fun v2 h r => m_Sim Y 2 [(0, m_r v0), (1, m_r v1), (2, m_i v2)] [] h (some r)) ?_ v2 h r e
  intro f ih v2 h r e
  have ih : ∀ (v2 : Int) (h : m_H), m_Sim Y 2 [(0, m_r v0), (1, m_r v1), (2, m_i v2)] [] h (f v2 h ) := fun v2 h  => ms_all fun r e => ih v2 h r e
  refine ms_use ?_ e
  clear e r
  refine ms_iload_n (pc := 2) S 2 rfl rfl (m_dec e3_leadsOtherwise 2 rfl) ?_
  refine ms_aload_n (pc := 3) S 1 rfl rfl (m_dec e3_leadsOtherwise 3 rfl) ?_
  refine ms_grd fun g1 => ?_
  refine ms_getf (pc := 4) S lf_X3_33 rfl (m_dec e3_leadsOtherwise 4 rfl) g1 ?_
  refine ms_icmp_ge (pc := 7) S (m_dec e3_leadsOtherwise 5 rfl) rfl (fun q2 => ?_) (fun q2 => ?_)
  · refine ms_aload_n (pc := 10) S 1 rfl rfl (m_dec e3_leadsOtherwise 6 rfl) ?_
    refine ms_iload_n (pc := 11) S 2 rfl rfl (m_dec e3_leadsOtherwise 7 rfl) ?_
    refine ms_callVi (pc := 12) S hF (vals := [m_i v2]) (st := []) (hc := vw_6) (hci := by decide) (hcy := rfl) (ht := g1) (hC := (k6_verb _ _ v1 v2 h)) (hM := lm_X3_62) (hfr := (Nat.le_trans (by decide) hFn)) (hstk := rfl) (hcat := Nat.le_of_ble_eq_true rfl) (hd := (m_dec e3_leadsOtherwise 8 rfl)) (k1 := fun r4 h3 => ?_)
    refine ms_iconst (pc := 15) S (m_dec e3_leadsOtherwise 9 rfl) ?_
    refine ms_icmp_ne (pc := 16) S (m_dec e3_leadsOtherwise 10 rfl) rfl (fun q5 => ?_) (fun q5 => ?_)
    · refine ms_aload_n (pc := 19) S 0 rfl rfl (m_dec e3_leadsOtherwise 11 rfl) ?_
      refine ms_grd fun g6 => ?_
      refine ms_getf (pc := 20) S lf_X3_22 rfl (m_dec e3_leadsOtherwise 12 rfl) g6 ?_
      refine ms_iload_n (pc := 23) S 2 rfl rfl (m_dec e3_leadsOtherwise 13 rfl) ?_
      refine ms_iconst (pc := 24) S (m_dec e3_leadsOtherwise 14 rfl) ?_
      refine ms_callSi (pc := 25) S hF (vals := [m_r (m_g h3 v0 3), m_i v2, m_i (-1)]) (st := [])  (hC := (k10_entry _ _ (m_g h3 v0 3) v2 (-1) h3)) (hM := lm_X3_89) (hfr := (Nat.le_trans (by decide) hFn)) (hstk := rfl) (hcat := Nat.le_of_ble_eq_true rfl) (hd := (m_dec e3_leadsOtherwise 15 rfl)) (k1 := fun r8 h7 => ?_)
      refine ms_aload_n (pc := 28) S 1 rfl rfl (m_dec e3_leadsOtherwise 16 rfl) ?_
      refine ms_grd fun g9 => ?_
      refine ms_getf (pc := 29) S lf_X3_187 rfl (m_dec e3_leadsOtherwise 17 rfl) g9 ?_
      refine ms_iload_n (pc := 32) S 2 rfl rfl (m_dec e3_leadsOtherwise 18 rfl) ?_
      refine ms_iconst (pc := 33) S (m_dec e3_leadsOtherwise 19 rfl) ?_
      refine ms_callSi (pc := 34) S hF (vals := [m_r (m_g h7 v1 3), m_i v2, m_i (-1)]) (st := [m_i r8])  (hC := (k10_entry _ _ (m_g h7 v1 3) v2 (-1) h7)) (hM := lm_X3_89) (hfr := (Nat.le_trans (by decide) hFn)) (hstk := rfl) (hcat := Nat.le_of_ble_eq_true rfl) (hd := (m_dec e3_leadsOtherwise 20 rfl)) (k1 := fun r11 h10 => ?_)
      refine ms_icmp_eq (pc := 37) S (m_dec e3_leadsOtherwise 21 rfl) rfl (fun q12 => ?_) (fun q12 => ?_)
      · refine ms_iinc (pc := 42) S (L' := [(0, m_r v0), (1, m_r v1), (2, m_i (v2 + 1))]) 2 rfl [1, 2, 0] rfl (m_lt hN rfl) (m_dec e3_leadsOtherwise 24 rfl) ?_
        refine ms_goto (pc := 45) S (m_dec e3_leadsOtherwise 25 rfl) rfl ?_
        exact ih (v2 + 1) h10
      · refine ms_iconst (pc := 40) S (m_dec e3_leadsOtherwise 22 rfl) ?_
        exact ms_ret (pc := 41) E (m_dec e3_leadsOtherwise 23 rfl) rfl
    · refine ms_iinc (pc := 42) S (L' := [(0, m_r v0), (1, m_r v1), (2, m_i (v2 + 1))]) 2 rfl [1, 2, 0] rfl (m_lt hN rfl) (m_dec e3_leadsOtherwise 24 rfl) ?_
      refine ms_goto (pc := 45) S (m_dec e3_leadsOtherwise 25 rfl) rfl ?_
      exact ih (v2 + 1) h3
  · refine ms_iconst (pc := 48) S (m_dec e3_leadsOtherwise 26 rfl) ?_
    exact ms_ret (pc := 49) E (m_dec e3_leadsOtherwise 27 rfl) rfl
set_option maxHeartbeats 4000000 in
set_option maxRecDepth 20000 in
theorem s3_leadsOtherwise {Y : m_Y Bool} (S : m_Std Y RX3 cX3_leadsOtherwise) (E : m_End Y cX3_leadsOtherwise .ireturn (fun r => [m_i (m_b2i r)])) {F : Nat} (hF : m_Rm Y F) (hFn : 2 ≤ F) (hN : Y.2.2.2.1 = 3) (v0 v1 : Int) (h : m_H) : m_Sim Y 0 [(0, m_r v0), (1, m_r v1)] [] h (t3_leadsOtherwise v0 v1 h) := by
  unfold t3_leadsOtherwise
  refine ms_iconst (pc := 0) S (m_dec e3_leadsOtherwise 0 rfl) ?_
  refine ms_istore_n (pc := 1) S (L' := [(0, m_r v0), (1, m_r v1), (2, m_i 0)]) [1, 2, 0] rfl rfl (m_lt hN rfl) (m_dec e3_leadsOtherwise 1 rfl) ?_
  exact s3_leadsOtherwise_c2 S E hF hFn hN v0 v1 0 h
theorem k3_leadsOtherwise (l : Launch) (d : m_D) (v0 v1 : Int) (h : m_H) : m_Con l d yX3_leadsOtherwise cX3_leadsOtherwise 3 (some .boolean) 2 (fun r => [m_i (m_b2i r)]) [m_r v0, m_r v1] h (t3_leadsOtherwise v0 v1 h) :=
  m_con2 (by decide +kernel) (Nat.le_of_ble_eq_true rfl) (fun Y hN hRm hr hI S hfin => s3_leadsOtherwise S (m_end_z S hr hfin) hRm (Nat.le_refl _) hN v0 v1 h)
set_option maxRecDepth 100000 in
theorem e3_depthOf : ∀ q ∈ ([(0, .aload_n 1, 1), (1, .iload_n 2, 1), (2, .invokevirtual 195, 3), (5, .ifCond .eq 37, 3), (8, .aload_n 0, 1), (9, .getfield 29, 3), (12, .aload_n 0, 1), (13, .aload_n 1, 1), (14, .iload_n 2, 1), (15, .aload_n 0, 1), (16, .getfield 29, 3), (19, .getfield 198, 3), (22, .invokevirtual 39, 3), (25, .invokevirtual 71, 3), (28, .astore_n 3, 1), (29, .aload_n 3, 1), (30, .ifnonnull 7, 3), (33, .iconst 0, 1), (34, .goto 7, 3), (37, .aload_n 3, 1), (38, .getfield 201, 3), (41, .ireturn, 1), (42, .aload_n 1, 1), (43, .iload_n 2, 1), (44, .invokevirtual 62, 3), (47, .istore_n 3, 1), (48, .iload_n 3, 1), (49, .iconst 4, 1), (50, .if_icmp .eq 21, 3), (53, .iload_n 3, 1), (54, .bipush 8, 2), (56, .if_icmp .eq 15, 3), (59, .iload_n 3, 1), (60, .bipush 7, 2), (62, .if_icmp .eq 9, 3), (65, .iload_n 3, 1), (66, .bipush 9, 2), (68, .if_icmp .ne 7, 3), (71, .iconst 1, 1), (72, .goto 4, 3), (75, .iconst 0, 1), (76, .istore 4, 2), (78, .iload 4, 2), (80, .aload_n 0, 1), (81, .getfield 26, 3), (84, .aload_n 1, 1), (85, .iload_n 2, 1), (86, .invokevirtual 78, 3), (89, .iconst 0, 1), (90, .invokestatic 89, 3), (93, .aload_n 0, 1), (94, .getfield 26, 3), (97, .aload_n 1, 1), (98, .iload_n 2, 1), (99, .invokevirtual 108, 3), (102, .iconst 0, 1), (103, .invokestatic 89, 3), (106, .invokestatic 192, 3), (109, .iadd, 1), (110, .ireturn, 1)] : List (Nat × Instr × Nat)), decode cX3_depthOf q.1 = .ok q.2 := by decide +kernel
set_option maxHeartbeats 4000000 in
set_option maxRecDepth 20000 in
theorem s3_depthOf_c76 {Y : m_Y Int} (S : m_Std Y RX3 cX3_depthOf) (E : m_End Y cX3_depthOf .ireturn (fun r => [m_i r])) {F : Nat} (hF : m_Rm Y F) (hFn : 4 ≤ F) (hN : Y.2.2.2.1 = 5) (v0 v1 v2 s0 : Int) (h : m_H) : m_Sim Y 76 [(0, m_r v0), (1, m_r v1), (2, m_i v2)] [m_i s0] h (t3_depthOf_c76 v0 v1 v2 s0 h) := by
  unfold t3_depthOf_c76
  refine ms_istore (pc := 76) S (L' := [(0, m_r v0), (1, m_r v1), (2, m_i v2), (4, m_i s0)]) [1, 2, 3, 0] rfl (m_lt hN rfl) (m_dec e3_depthOf 41 rfl) ?_
  refine ms_iload (pc := 78) S 3 rfl (m_dec e3_depthOf 42 rfl) ?_
  refine ms_aload_n (pc := 80) S 0 rfl rfl (m_dec e3_depthOf 43 rfl) ?_
  refine ms_grd fun g1 => ?_
  refine ms_getf (pc := 81) S lf_X3_26 rfl (m_dec e3_depthOf 44 rfl) g1 ?_
  refine ms_aload_n (pc := 84) S 1 rfl rfl (m_dec e3_depthOf 45 rfl) ?_
  refine ms_iload_n (pc := 85) S 2 rfl rfl (m_dec e3_depthOf 46 rfl) ?_
  refine ms_grd fun g2 => ?_
  refine ms_callVi (pc := 86) S hF (vals := [m_i v2]) (st := [m_r (m_g h v0 4), m_i s0]) (hc := vw_6) (hci := by decide) (hcy := rfl) (ht := g2) (hC := (k6_one _ _ v1 v2 h)) (hM := lm_X3_78) (hfr := (Nat.le_trans (by decide) hFn)) (hstk := rfl) (hcat := Nat.le_of_ble_eq_true rfl) (hd := (m_dec e3_depthOf 47 rfl)) (k1 := fun r4 h3 => ?_)
  refine ms_iconst (pc := 89) S (m_dec e3_depthOf 48 rfl) ?_
  refine ms_callSi (pc := 90) S hF (vals := [m_r (m_g h v0 4), m_i r4, m_i 0]) (st := [m_i s0])  (hC := (k10_entry _ _ (m_g h v0 4) r4 0 h3)) (hM := lm_X3_89) (hfr := (Nat.le_trans (by decide) hFn)) (hstk := rfl) (hcat := Nat.le_of_ble_eq_true rfl) (hd := (m_dec e3_depthOf 49 rfl)) (k1 := fun r6 h5 => ?_)
  refine ms_aload_n (pc := 93) S 0 rfl rfl (m_dec e3_depthOf 50 rfl) ?_
  refine ms_grd fun g7 => ?_
  refine ms_getf (pc := 94) S lf_X3_26 rfl (m_dec e3_depthOf 51 rfl) g7 ?_
  refine ms_aload_n (pc := 97) S 1 rfl rfl (m_dec e3_depthOf 52 rfl) ?_
  refine ms_iload_n (pc := 98) S 2 rfl rfl (m_dec e3_depthOf 53 rfl) ?_
  refine ms_grd fun g8 => ?_
  refine ms_callVi (pc := 99) S hF (vals := [m_i v2]) (st := [m_r (m_g h5 v0 4), m_i r6, m_i s0]) (hc := vw_6) (hci := by decide) (hcy := rfl) (ht := g8) (hC := (k6_other _ _ v1 v2 h5)) (hM := lm_X3_108) (hfr := (Nat.le_trans (by decide) hFn)) (hstk := rfl) (hcat := Nat.le_of_ble_eq_true rfl) (hd := (m_dec e3_depthOf 54 rfl)) (k1 := fun r10 h9 => ?_)
  refine ms_iconst (pc := 102) S (m_dec e3_depthOf 55 rfl) ?_
  refine ms_callSi (pc := 103) S hF (vals := [m_r (m_g h5 v0 4), m_i r10, m_i 0]) (st := [m_i r6, m_i s0])  (hC := (k10_entry _ _ (m_g h5 v0 4) r10 0 h9)) (hM := lm_X3_89) (hfr := (Nat.le_trans (by decide) hFn)) (hstk := rfl) (hcat := Nat.le_of_ble_eq_true rfl) (hd := (m_dec e3_depthOf 56 rfl)) (k1 := fun r12 h11 => ?_)
  refine ms_mmax (pc := 106) S hF (Nat.le_trans (by decide) hFn) ⟨w_1332, w_485, w_136, w_486⟩ (Nat.le_of_ble_eq_true rfl) (m_dec e3_depthOf 57 rfl) ?_
  refine ms_iadd (pc := 109) S (m_dec e3_depthOf 58 rfl) ?_
  exact ms_ret (pc := 110) E (m_dec e3_depthOf 59 rfl) rfl
set_option maxHeartbeats 4000000 in
set_option maxRecDepth 20000 in
theorem s3_depthOf_c71 {Y : m_Y Int} (S : m_Std Y RX3 cX3_depthOf) (E : m_End Y cX3_depthOf .ireturn (fun r => [m_i r])) {F : Nat} (hF : m_Rm Y F) (hFn : 4 ≤ F) (hN : Y.2.2.2.1 = 5) (v0 v1 v2 : Int) (h : m_H) : m_Sim Y 71 [(0, m_r v0), (1, m_r v1), (2, m_i v2)] [] h (t3_depthOf_c71 v0 v1 v2 h) := by
  unfold t3_depthOf_c71
  refine ms_iconst (pc := 71) S (m_dec e3_depthOf 38 rfl) ?_
  refine ms_goto (pc := 72) S (m_dec e3_depthOf 39 rfl) rfl ?_
  exact s3_depthOf_c76 S E hF hFn hN v0 v1 v2 1 h
set_option maxHeartbeats 4000000 in
set_option maxRecDepth 20000 in
theorem s3_depthOf {Y : m_Y Int} (S : m_Std Y RX3 cX3_depthOf) (E : m_End Y cX3_depthOf .ireturn (fun r => [m_i r])) {F : Nat} (hF : m_Rm Y F) (hFn : 4 ≤ F) (hN : Y.2.2.2.1 = 5) (v0 v1 v2 : Int) (h : m_H) : m_Sim Y 0 [(0, m_r v0), (1, m_r v1), (2, m_i v2)] [] h (t3_depthOf v0 v1 v2 h) := by
  unfold t3_depthOf
  refine ms_aload_n (pc := 0) S 1 rfl rfl (m_dec e3_depthOf 0 rfl) ?_
  refine ms_iload_n (pc := 1) S 2 rfl rfl (m_dec e3_depthOf 1 rfl) ?_
  refine ms_grd fun g1 => ?_
  refine ms_callVz (pc := 2) S hF (vals := [m_i v2]) (st := []) (hc := vw_6) (hci := by decide) (hcy := rfl) (ht := g1) (hC := (k6_isSource _ _ v1 v2 h)) (hM := lm_X3_195) (hfr := (Nat.le_trans (by decide) hFn)) (hstk := rfl) (hcat := Nat.le_of_ble_eq_true rfl) (hd := (m_dec e3_depthOf 2 rfl)) (k1 := fun r3 h2 => ?_)
  refine ms_ifb_eq (pc := 5) S (m_dec e3_depthOf 3 rfl) rfl (fun q4 => ?_) (fun q4 => ?_)
  · refine ms_aload_n (pc := 8) S 0 rfl rfl (m_dec e3_depthOf 4 rfl) ?_
    refine ms_grd fun g5 => ?_
    refine ms_getf (pc := 9) S lf_X3_29 rfl (m_dec e3_depthOf 5 rfl) g5 ?_
    refine ms_aload_n (pc := 12) S 0 rfl rfl (m_dec e3_depthOf 6 rfl) ?_
    refine ms_aload_n (pc := 13) S 1 rfl rfl (m_dec e3_depthOf 7 rfl) ?_
    refine ms_iload_n (pc := 14) S 2 rfl rfl (m_dec e3_depthOf 8 rfl) ?_
    refine ms_aload_n (pc := 15) S 0 rfl rfl (m_dec e3_depthOf 9 rfl) ?_
    refine ms_getf (pc := 16) S lf_X3_29 rfl (m_dec e3_depthOf 10 rfl) g5 ?_
    refine ms_grd fun g6 => ?_
    refine ms_getf (pc := 19) S lf_X3_198 rfl (m_dec e3_depthOf 11 rfl) g6 ?_
    refine ms_callVi (pc := 22) S hF (vals := [m_r v1, m_i v2, m_i (m_g h2 (m_g h2 v0 0) 3)]) (st := [m_r (m_g h2 v0 0)]) (hc := vw_3) (hci := by decide) (hcy := rfl) (ht := g5) (hC := (k3_stripOf _ _ v0 v1 v2 (m_g h2 (m_g h2 v0 0) 3) h2)) (hM := lm_X3_39) (hfr := (Nat.le_trans (by decide) hFn)) (hstk := rfl) (hcat := Nat.le_of_ble_eq_true rfl) (hd := (m_dec e3_depthOf 12 rfl)) (k1 := fun r8 h7 => ?_)
    refine ms_grd fun g9 => ?_
    refine ms_callVa (pc := 25) S hF (vals := [m_i r8]) (st := []) (hc := vw_7) (hci := by decide) (hcy := rfl) (ht := g9) (hC := (k7_there _ _ (m_g h2 v0 0) r8 h7)) (hM := lm_X3_71) (hfr := (Nat.le_trans (by decide) hFn)) (hstk := rfl) (hcat := Nat.le_of_ble_eq_true rfl) (hd := (m_dec e3_depthOf 13 rfl)) (k1 := fun r11 h10 => ?_)
    refine ms_astore_n (pc := 28) S (L' := [(3, m_r r11)]) [0] rfl rfl (m_lt hN rfl) (m_dec e3_depthOf 14 rfl) ?_
    refine ms_aload_n (pc := 29) S 0 rfl rfl (m_dec e3_depthOf 15 rfl) ?_
    refine ms_ifnonnull (pc := 30) S (m_dec e3_depthOf 16 rfl) rfl (fun q12 => ?_) (fun q12 => ?_)
    · refine ms_iconst (pc := 33) S (m_dec e3_depthOf 17 rfl) ?_
      refine ms_goto (pc := 34) S (m_dec e3_depthOf 18 rfl) rfl ?_
      exact ms_ret (pc := 41) E (m_dec e3_depthOf 21 rfl) rfl
    · refine ms_aload_n (pc := 37) S 0 rfl rfl (m_dec e3_depthOf 19 rfl) ?_
      refine ms_grd fun g13 => ?_
      refine ms_getf (pc := 38) S lf_X3_201 rfl (m_dec e3_depthOf 20 rfl) g13 ?_
      exact ms_ret (pc := 41) E (m_dec e3_depthOf 21 rfl) rfl
  · refine ms_aload_n (pc := 42) S 1 rfl rfl (m_dec e3_depthOf 22 rfl) ?_
    refine ms_iload_n (pc := 43) S 2 rfl rfl (m_dec e3_depthOf 23 rfl) ?_
    refine ms_grd fun g14 => ?_
    refine ms_callVi (pc := 44) S hF (vals := [m_i v2]) (st := []) (hc := vw_6) (hci := by decide) (hcy := rfl) (ht := g14) (hC := (k6_verb _ _ v1 v2 h2)) (hM := lm_X3_62) (hfr := (Nat.le_trans (by decide) hFn)) (hstk := rfl) (hcat := Nat.le_of_ble_eq_true rfl) (hd := (m_dec e3_depthOf 24 rfl)) (k1 := fun r16 h15 => ?_)
    refine ms_istore_n (pc := 47) S (L' := [(0, m_r v0), (1, m_r v1), (2, m_i v2), (3, m_i r16)]) [1, 2, 3, 0] rfl rfl (m_lt hN rfl) (m_dec e3_depthOf 25 rfl) ?_
    refine ms_iload_n (pc := 48) S 3 rfl rfl (m_dec e3_depthOf 26 rfl) ?_
    refine ms_iconst (pc := 49) S (m_dec e3_depthOf 27 rfl) ?_
    refine ms_icmp_eq (pc := 50) S (m_dec e3_depthOf 28 rfl) rfl (fun q17 => ?_) (fun q17 => ?_)
    · refine ms_sub (pc := 71) (L' := [(0, m_r v0), (1, m_r v1), (2, m_i v2)]) [0, 1, 2] rfl ?_
      exact s3_depthOf_c71 S E hF hFn hN v0 v1 v2 h15
    · refine ms_iload_n (pc := 53) S 3 rfl rfl (m_dec e3_depthOf 29 rfl) ?_
      refine ms_bipush (pc := 54) S (m_dec e3_depthOf 30 rfl) rfl ?_
      refine ms_icmp_eq (pc := 56) S (m_dec e3_depthOf 31 rfl) rfl (fun q18 => ?_) (fun q18 => ?_)
      · refine ms_sub (pc := 71) (L' := [(0, m_r v0), (1, m_r v1), (2, m_i v2)]) [0, 1, 2] rfl ?_
        exact s3_depthOf_c71 S E hF hFn hN v0 v1 v2 h15
      · refine ms_iload_n (pc := 59) S 3 rfl rfl (m_dec e3_depthOf 32 rfl) ?_
        refine ms_bipush (pc := 60) S (m_dec e3_depthOf 33 rfl) rfl ?_
        refine ms_icmp_eq (pc := 62) S (m_dec e3_depthOf 34 rfl) rfl (fun q19 => ?_) (fun q19 => ?_)
        · refine ms_sub (pc := 71) (L' := [(0, m_r v0), (1, m_r v1), (2, m_i v2)]) [0, 1, 2] rfl ?_
          exact s3_depthOf_c71 S E hF hFn hN v0 v1 v2 h15
        · refine ms_iload_n (pc := 65) S 3 rfl rfl (m_dec e3_depthOf 35 rfl) ?_
          refine ms_bipush (pc := 66) S (m_dec e3_depthOf 36 rfl) rfl ?_
          refine ms_icmp_ne (pc := 68) S (m_dec e3_depthOf 37 rfl) rfl (fun q20 => ?_) (fun q20 => ?_)
          · refine ms_sub (pc := 71) (L' := [(0, m_r v0), (1, m_r v1), (2, m_i v2)]) [0, 1, 2] rfl ?_
            exact s3_depthOf_c71 S E hF hFn hN v0 v1 v2 h15
          · refine ms_iconst (pc := 75) S (m_dec e3_depthOf 40 rfl) ?_
            refine ms_sub (pc := 76) (L' := [(0, m_r v0), (1, m_r v1), (2, m_i v2)]) [0, 1, 2] rfl ?_
            exact s3_depthOf_c76 S E hF hFn hN v0 v1 v2 0 h15
theorem k3_depthOf (l : Launch) (d : m_D) (v0 v1 v2 : Int) (h : m_H) : m_Con l d yX3_depthOf cX3_depthOf 5 (some .int) 4 (fun r => [m_i r]) [m_r v0, m_r v1, m_i v2] h (t3_depthOf v0 v1 v2 h) :=
  m_con2 (by decide +kernel) (Nat.le_of_ble_eq_true rfl) (fun Y hN hRm hr hI S hfin => s3_depthOf S (m_end_i S hr hfin) hRm (Nat.le_refl _) hN v0 v1 v2 h)
set_option maxRecDepth 100000 in
theorem e3_depth : ∀ q ∈ ([(0, .iconst (-1), 1), (1, .istore_n 2, 1), (2, .iconst 0, 1), (3, .istore_n 3, 1), (4, .iload_n 3, 1), (5, .aload_n 1, 1), (6, .getfield 33, 3), (9, .if_icmp .ge 42, 3), (12, .aload_n 0, 1), (13, .aload_n 1, 1), (14, .iload_n 3, 1), (15, .invokevirtual 188, 3), (18, .istore 4, 2), (20, .aload_n 0, 1), (21, .getfield 26, 3), (24, .iload_n 3, 1), (25, .iload 4, 2), (27, .invokestatic 43, 3), (30, .aload_n 1, 1), (31, .iload_n 3, 1), (32, .invokevirtual 47, 3), (35, .ifCond .eq 10, 3), (38, .iload_n 2, 1), (39, .iload 4, 2), (41, .invokestatic 192, 3), (44, .istore_n 2, 1), (45, .iinc 3 1, 3), (48, .goto (-44), 3), (51, .iload_n 2, 1), (52, .ireturn, 1)] : List (Nat × Instr × Nat)), decode cX3_depth q.1 = .ok q.2 := by decide +kernel
set_option maxHeartbeats 4000000 in
set_option maxRecDepth 20000 in
theorem s3_depth_c4 {Y : m_Y Int} (S : m_Std Y RX3 cX3_depth) (E : m_End Y cX3_depth .ireturn (fun r => [m_i r])) {F : Nat} (hF : m_Rm Y F) (hFn : 5 ≤ F) (hN : Y.2.2.2.1 = 5) : ∀ (v0 v1 v2 v3 : Int) (h : m_H), m_Sim Y 4 [(0, m_r v0), (1, m_r v1), (2, m_i v2), (3, m_i v3)] [] h (t3_depth_c4 v0 v1 v2 v3 h) := by
  intro v0 v1 v2 v3 h
  refine ms_all fun r e => ?_
  refine t3_depth_c4.partial_correctness v0 v1 (motive := fun v2 v3 h r => m_Sim Y 4 [(0, m_r v0), (1, m_r v1), (2, m_i v2), (3, m_i v3)] [] h (some r)) ?_ v2 v3 h r e
  intro f ih v2 v3 h r e
  have ih : ∀ (v2 v3 : Int) (h : m_H), m_Sim Y 4 [(0, m_r v0), (1, m_r v1), (2, m_i v2), (3, m_i v3)] [] h (f v2 v3 h ) := fun v2 v3 h  => ms_all fun r e => ih v2 v3 h r e
  refine ms_use ?_ e
  clear e r
  refine ms_iload_n (pc := 4) S 3 rfl rfl (m_dec e3_depth 4 rfl) ?_
  refine ms_aload_n (pc := 5) S 1 rfl rfl (m_dec e3_depth 5 rfl) ?_
  refine ms_grd fun g1 => ?_
  refine ms_getf (pc := 6) S lf_X3_33 rfl (m_dec e3_depth 6 rfl) g1 ?_
  refine ms_icmp_ge (pc := 9) S (m_dec e3_depth 7 rfl) rfl (fun q2 => ?_) (fun q2 => ?_)
  · refine ms_aload_n (pc := 12) S 0 rfl rfl (m_dec e3_depth 8 rfl) ?_
    refine ms_aload_n (pc := 13) S 1 rfl rfl (m_dec e3_depth 9 rfl) ?_
    refine ms_iload_n (pc := 14) S 3 rfl rfl (m_dec e3_depth 10 rfl) ?_
    refine ms_grd fun g3 => ?_
    refine ms_callVi (pc := 15) S hF (vals := [m_r v1, m_i v3]) (st := []) (hc := vw_3) (hci := by decide) (hcy := rfl) (ht := g3) (hC := (k3_depthOf _ _ v0 v1 v3 h)) (hM := lm_X3_188) (hfr := (Nat.le_trans (by decide) hFn)) (hstk := rfl) (hcat := Nat.le_of_ble_eq_true rfl) (hd := (m_dec e3_depth 11 rfl)) (k1 := fun r5 h4 => ?_)
    refine ms_istore (pc := 18) S (L' := [(0, m_r v0), (1, m_r v1), (2, m_i v2), (3, m_i v3), (4, m_i r5)]) [1, 2, 3, 4, 0] rfl (m_lt hN rfl) (m_dec e3_depth 12 rfl) ?_
    refine ms_aload_n (pc := 20) S 0 rfl rfl (m_dec e3_depth 13 rfl) ?_
    refine ms_grd fun g6 => ?_
    refine ms_getf (pc := 21) S lf_X3_26 rfl (m_dec e3_depth 14 rfl) g6 ?_
    refine ms_iload_n (pc := 24) S 3 rfl rfl (m_dec e3_depth 15 rfl) ?_
    refine ms_iload (pc := 25) S 4 rfl (m_dec e3_depth 16 rfl) ?_
    refine ms_callSv (pc := 27) S hF (vals := [m_r (m_g h4 v0 4), m_i v3, m_i r5]) (st := [])  (hC := (k10_setEntry _ _ (m_g h4 v0 4) v3 r5 h4)) (hM := lm_X3_43) (hfr := (Nat.le_trans (by decide) hFn)) (hstk := rfl) (hcat := Nat.le_of_ble_eq_true rfl) (hd := (m_dec e3_depth 17 rfl)) (k1 := fun h7 => ?_)
    refine ms_aload_n (pc := 30) S 1 rfl rfl (m_dec e3_depth 18 rfl) ?_
    refine ms_iload_n (pc := 31) S 3 rfl rfl (m_dec e3_depth 19 rfl) ?_
    refine ms_grd fun g9 => ?_
    refine ms_callVz (pc := 32) S hF (vals := [m_i v3]) (st := []) (hc := vw_6) (hci := by decide) (hcy := rfl) (ht := g9) (hC := (k6_isPut _ _ v1 v3 h7)) (hM := lm_X3_47) (hfr := (Nat.le_trans (by decide) hFn)) (hstk := rfl) (hcat := Nat.le_of_ble_eq_true rfl) (hd := (m_dec e3_depth 20 rfl)) (k1 := fun r11 h10 => ?_)
    refine ms_ifb_eq (pc := 35) S (m_dec e3_depth 21 rfl) rfl (fun q12 => ?_) (fun q12 => ?_)
    · refine ms_iload_n (pc := 38) S 2 rfl rfl (m_dec e3_depth 22 rfl) ?_
      refine ms_iload (pc := 39) S 4 rfl (m_dec e3_depth 23 rfl) ?_
      refine ms_mmax (pc := 41) S hF (Nat.le_trans (by decide) hFn) ⟨w_1332, w_485, w_136, w_486⟩ (Nat.le_of_ble_eq_true rfl) (m_dec e3_depth 24 rfl) ?_
      refine ms_nm (st := fun x13 => [m_i x13]) fun x13 => ?_
      refine ms_istore_n (pc := 44) S (L' := [(0, m_r v0), (1, m_r v1), (2, m_i x13), (3, m_i v3)]) [1, 2, 0, 3] rfl rfl (m_lt hN rfl) (m_dec e3_depth 25 rfl) ?_
      refine ms_iinc (pc := 45) S (L' := [(0, m_r v0), (1, m_r v1), (2, m_i x13), (3, m_i (v3 + 1))]) 3 rfl [1, 2, 3, 0] rfl (m_lt hN rfl) (m_dec e3_depth 26 rfl) ?_
      refine ms_goto (pc := 48) S (m_dec e3_depth 27 rfl) rfl ?_
      exact ih x13 (v3 + 1) h10
    · refine ms_iinc (pc := 45) S (L' := [(0, m_r v0), (1, m_r v1), (2, m_i v2), (3, m_i (v3 + 1))]) 3 rfl [1, 2, 3, 0] rfl (m_lt hN rfl) (m_dec e3_depth 26 rfl) ?_
      refine ms_goto (pc := 48) S (m_dec e3_depth 27 rfl) rfl ?_
      exact ih v2 (v3 + 1) h10
  · refine ms_iload_n (pc := 51) S 2 rfl rfl (m_dec e3_depth 28 rfl) ?_
    exact ms_ret (pc := 52) E (m_dec e3_depth 29 rfl) rfl
set_option maxHeartbeats 4000000 in
set_option maxRecDepth 20000 in
theorem s3_depth {Y : m_Y Int} (S : m_Std Y RX3 cX3_depth) (E : m_End Y cX3_depth .ireturn (fun r => [m_i r])) {F : Nat} (hF : m_Rm Y F) (hFn : 5 ≤ F) (hN : Y.2.2.2.1 = 5) (v0 v1 : Int) (h : m_H) : m_Sim Y 0 [(0, m_r v0), (1, m_r v1)] [] h (t3_depth v0 v1 h) := by
  unfold t3_depth
  refine ms_iconst (pc := 0) S (m_dec e3_depth 0 rfl) ?_
  refine ms_istore_n (pc := 1) S (L' := [(0, m_r v0), (1, m_r v1), (2, m_i (-1))]) [1, 2, 0] rfl rfl (m_lt hN rfl) (m_dec e3_depth 1 rfl) ?_
  refine ms_iconst (pc := 2) S (m_dec e3_depth 2 rfl) ?_
  refine ms_istore_n (pc := 3) S (L' := [(0, m_r v0), (1, m_r v1), (2, m_i (-1)), (3, m_i 0)]) [1, 2, 3, 0] rfl rfl (m_lt hN rfl) (m_dec e3_depth 3 rfl) ?_
  exact s3_depth_c4 S E hF hFn hN v0 v1 (-1) 0 h
theorem k3_depth (l : Launch) (d : m_D) (v0 v1 : Int) (h : m_H) : m_Con l d yX3_depth cX3_depth 5 (some .int) 5 (fun r => [m_i r]) [m_r v0, m_r v1] h (t3_depth v0 v1 h) :=
  m_con2 (by decide +kernel) (Nat.le_of_ble_eq_true rfl) (fun Y hN hRm hr hI S hfin => s3_depth S (m_end_i S hr hfin) hRm (Nat.le_refl _) hN v0 v1 h)
set_option maxRecDepth 100000 in
theorem e4_init : ∀ q ∈ ([(0, .aload_n 0, 1), (1, .invokespecial 3, 3), (4, .aload_n 0, 1), (5, .sipush 1200, 3), (8, .newarray .int, 2), (10, .putfield 9, 3), (13, .aload_n 0, 1), (14, .sipush 1201, 3), (17, .newarray .int, 2), (19, .putfield 15, 3), (22, .aload_n 0, 1), (23, .sipush 1201, 3), (26, .newarray .int, 2), (28, .putfield 18, 3), (31, .aload_n 0, 1), (32, .sipush 1201, 3), (35, .newarray .int, 2), (37, .putfield 21, 3), (40, .aload_n 0, 1), (41, .new 24, 3), (44, .dup, 1), (45, .sipush 320, 3), (48, .newarray .int, 2), (50, .iconst 0, 1), (51, .invokespecial 26, 3), (54, .putfield 29, 3), (57, .aload_n 0, 1), (58, .bipush 40, 2), (60, .newarray .int, 2), (62, .putfield 33, 3), (65, .return_, 1)] : List (Nat × Instr × Nat)), decode cX4_init q.1 = .ok q.2 := by decide +kernel
set_option maxHeartbeats 4000000 in
set_option maxRecDepth 20000 in
theorem s4_init {Y : m_Y Unit} (S : m_Std Y RX4 cX4_init) (E : m_End Y cX4_init .return_ (fun _ => [])) {F : Nat} (hF : m_Rm Y F) (hFn : 2 ≤ F) (hN : Y.2.2.2.1 = 1) (hI : Y.2.2.2.2.2 → Y.2.1.2.2.2.2.2.2.2.2.1.name = "<init>") (v0 : Int) (h : m_H) : m_Sim Y 0 [(0, m_r v0)] [] h (t4_init v0 h) := by
  unfold t4_init
  refine ms_aload_n (pc := 0) S 0 rfl rfl (m_dec e4_init 0 rfl) ?_
  refine ms_grd fun g1 => ?_
  refine ms_obj (pc := 1) S hF (Nat.le_trans (by decide) hFn) lo_X4_3 g1 (Nat.le_of_ble_eq_true rfl) (m_dec e4_init 1 rfl) ?_
  refine ms_aload_n (pc := 4) S 0 rfl rfl (m_dec e4_init 2 rfl) ?_
  refine ms_sipush (pc := 5) S (m_dec e4_init 3 rfl) rfl ?_
  refine ms_newa (pc := 8) S 20 (ty := .int) rfl (by decide) (fun _ => rfl) (fun _ => rfl) (by decide) (fun _ _ z => z) w_208 (by decide) (m_dec e4_init 4 rfl) (fun h2 => ?_)
  refine ms_grd fun g3 => ?_
  refine ms_putf (pc := 10) S lp_X4_9 (fun _ hf => hI hf) rfl (fun d => m_fitA _ d _) (m_dec e4_init 5 rfl) g3 (fun h4 => ?_)
  refine ms_aload_n (pc := 13) S 0 rfl rfl (m_dec e4_init 6 rfl) ?_
  refine ms_sipush (pc := 14) S (m_dec e4_init 7 rfl) rfl ?_
  refine ms_newa (pc := 17) S 20 (ty := .int) rfl (by decide) (fun _ => rfl) (fun _ => rfl) (by decide) (fun _ _ z => z) w_208 (by decide) (m_dec e4_init 8 rfl) (fun h5 => ?_)
  refine ms_grd fun g6 => ?_
  refine ms_putf (pc := 19) S lp_X4_15 (fun _ hf => hI hf) rfl (fun d => m_fitA _ d _) (m_dec e4_init 9 rfl) g6 (fun h7 => ?_)
  refine ms_aload_n (pc := 22) S 0 rfl rfl (m_dec e4_init 10 rfl) ?_
  refine ms_sipush (pc := 23) S (m_dec e4_init 11 rfl) rfl ?_
  refine ms_newa (pc := 26) S 20 (ty := .int) rfl (by decide) (fun _ => rfl) (fun _ => rfl) (by decide) (fun _ _ z => z) w_208 (by decide) (m_dec e4_init 12 rfl) (fun h8 => ?_)
  refine ms_grd fun g9 => ?_
  refine ms_putf (pc := 28) S lp_X4_18 (fun _ hf => hI hf) rfl (fun d => m_fitA _ d _) (m_dec e4_init 13 rfl) g9 (fun h10 => ?_)
  refine ms_aload_n (pc := 31) S 0 rfl rfl (m_dec e4_init 14 rfl) ?_
  refine ms_sipush (pc := 32) S (m_dec e4_init 15 rfl) rfl ?_
  refine ms_newa (pc := 35) S 20 (ty := .int) rfl (by decide) (fun _ => rfl) (fun _ => rfl) (by decide) (fun _ _ z => z) w_208 (by decide) (m_dec e4_init 16 rfl) (fun h11 => ?_)
  refine ms_grd fun g12 => ?_
  refine ms_putf (pc := 37) S lp_X4_21 (fun _ hf => hI hf) rfl (fun d => m_fitA _ d _) (m_dec e4_init 17 rfl) g12 (fun h13 => ?_)
  refine ms_aload_n (pc := 40) S 0 rfl rfl (m_dec e4_init 18 rfl) ?_
  refine ms_new (pc := 41) S ln_X4_24 rfl (m_dec e4_init 19 rfl) (fun h14 => ?_)
  refine ms_dup (pc := 44) S rfl (m_dec e4_init 20 rfl) ?_
  refine ms_sipush (pc := 45) S (m_dec e4_init 21 rfl) rfl ?_
  refine ms_newa (pc := 48) S 20 (ty := .int) rfl (by decide) (fun _ => rfl) (fun _ => rfl) (by decide) (fun _ _ z => z) w_208 (by decide) (m_dec e4_init 22 rfl) (fun h15 => ?_)
  refine ms_iconst (pc := 50) S (m_dec e4_init 23 rfl) ?_
  refine ms_grd fun g16 => ?_
  refine ms_callIv (pc := 51) S hF (vals := [m_r (m_n h14), m_i 0]) (st := [m_r (m_n h13), m_r v0]) (ht := g16) (hC := (k6_init _ _ (m_n h13) (m_n h14) 0 h15)) (hM := lm_X4_26) (hfr := (Nat.le_trans (by decide) hFn)) (hstk := rfl) (hcat := Nat.le_of_ble_eq_true rfl) (hd := (m_dec e4_init 24 rfl)) (k1 := fun h17 => ?_)
  refine ms_grd fun g19 => ?_
  refine ms_putf (pc := 54) S lp_X4_29 (fun _ hf => hI hf) rfl (fun d => m_fitO _ d _) (m_dec e4_init 25 rfl) g19 (fun h20 => ?_)
  refine ms_aload_n (pc := 57) S 0 rfl rfl (m_dec e4_init 26 rfl) ?_
  refine ms_bipush (pc := 58) S (m_dec e4_init 27 rfl) rfl ?_
  refine ms_newa (pc := 60) S 20 (ty := .int) rfl (by decide) (fun _ => rfl) (fun _ => rfl) (by decide) (fun _ _ z => z) w_208 (by decide) (m_dec e4_init 28 rfl) (fun h21 => ?_)
  refine ms_grd fun g22 => ?_
  refine ms_putf (pc := 62) S lp_X4_33 (fun _ hf => hI hf) rfl (fun d => m_fitA _ d _) (m_dec e4_init 29 rfl) g22 (fun h23 => ?_)
  exact ms_ret (pc := 65) E (m_dec e4_init 30 rfl) rfl
theorem k4_init (l : Launch) (d : m_D) (v0 : Int) (h : m_H) : m_Con l d yX4_init cX4_init 1 none 2 (fun _ => []) [m_r v0] h (t4_init v0 h) :=
  m_con2 (by decide +kernel) (Nat.le_of_ble_eq_true rfl) (fun Y hN hRm hr hI S hfin => s4_init S (m_end_v S hr hfin) hRm (Nat.le_refl _) hN hI v0 h)
set_option maxRecDepth 100000 in
theorem e4_addByte : ∀ q ∈ ([(0, .aload_n 0, 1), (1, .getfield 40, 3), (4, .aload_n 0, 1), (5, .getfield 9, 3), (8, .arraylength, 1), (9, .if_icmp .ge 23, 3), (12, .aload_n 0, 1), (13, .getfield 9, 3), (16, .aload_n 0, 1), (17, .getfield 40, 3), (20, .iload_n 1, 1), (21, .iastore, 1), (22, .aload_n 0, 1), (23, .dup, 1), (24, .getfield 40, 3), (27, .iconst 1, 1), (28, .iadd, 1), (29, .putfield 40, 3), (32, .return_, 1)] : List (Nat × Instr × Nat)), decode cX4_addByte q.1 = .ok q.2 := by decide +kernel
set_option maxHeartbeats 4000000 in
set_option maxRecDepth 20000 in
theorem s4_addByte {Y : m_Y Unit} (S : m_Std Y RX4 cX4_addByte) (E : m_End Y cX4_addByte .return_ (fun _ => [])) {F : Nat} (hF : m_Rm Y F) (hFn : 0 ≤ F) (hN : Y.2.2.2.1 = 2) (v0 v1 : Int) (h : m_H) : m_Sim Y 0 [(0, m_r v0), (1, m_i v1)] [] h (t4_addByte v0 v1 h) := by
  unfold t4_addByte
  refine ms_aload_n (pc := 0) S 0 rfl rfl (m_dec e4_addByte 0 rfl) ?_
  refine ms_grd fun g1 => ?_
  refine ms_getf (pc := 1) S lf_X4_40 rfl (m_dec e4_addByte 1 rfl) g1 ?_
  refine ms_aload_n (pc := 4) S 0 rfl rfl (m_dec e4_addByte 2 rfl) ?_
  refine ms_getf (pc := 5) S lf_X4_9 rfl (m_dec e4_addByte 3 rfl) g1 ?_
  refine ms_grd fun g2 => ?_
  refine ms_alen (pc := 8) S g2 (m_dec e4_addByte 4 rfl) ?_
  refine ms_icmp_ge (pc := 9) S (m_dec e4_addByte 5 rfl) rfl (fun q3 => ?_) (fun q3 => ?_)
  · refine ms_aload_n (pc := 12) S 0 rfl rfl (m_dec e4_addByte 6 rfl) ?_
    refine ms_getf (pc := 13) S lf_X4_9 rfl (m_dec e4_addByte 7 rfl) g1 ?_
    refine ms_aload_n (pc := 16) S 0 rfl rfl (m_dec e4_addByte 8 rfl) ?_
    refine ms_getf (pc := 17) S lf_X4_40 rfl (m_dec e4_addByte 9 rfl) g1 ?_
    refine ms_iload_n (pc := 20) S 1 rfl rfl (m_dec e4_addByte 10 rfl) ?_
    refine ms_grd fun g4 => ?_
    refine ms_iast (pc := 21) S g4 (m_dec e4_addByte 11 rfl) (fun h5 => ?_)
    refine ms_aload_n (pc := 22) S 0 rfl rfl (m_dec e4_addByte 12 rfl) ?_
    refine ms_dup (pc := 23) S rfl (m_dec e4_addByte 13 rfl) ?_
    refine ms_grd fun g6 => ?_
    refine ms_getf (pc := 24) S lf_X4_40 rfl (m_dec e4_addByte 14 rfl) g6 ?_
    refine ms_iconst (pc := 27) S (m_dec e4_addByte 15 rfl) ?_
    refine ms_iadd (pc := 28) S (m_dec e4_addByte 16 rfl) ?_
    refine ms_putf (pc := 29) S lp_X4_40 (fun z => by cases z) rfl (fun d => m_fitI d _) (m_dec e4_addByte 17 rfl) g6 (fun h7 => ?_)
    exact ms_ret (pc := 32) E (m_dec e4_addByte 18 rfl) rfl
  · exact ms_ret (pc := 32) E (m_dec e4_addByte 18 rfl) rfl
theorem k4_addByte (l : Launch) (d : m_D) (v0 v1 : Int) (h : m_H) : m_Con l d yX4_addByte cX4_addByte 2 none 0 (fun _ => []) [m_r v0, m_i v1] h (t4_addByte v0 v1 h) :=
  m_con2 (by decide +kernel) (Nat.le_of_ble_eq_true rfl) (fun Y hN hRm hr hI S hfin => s4_addByte S (m_end_v S hr hfin) hRm (Nat.le_refl _) hN v0 v1 h)
set_option maxRecDepth 100000 in
theorem e4_addFour : ∀ q ∈ ([(0, .aload_n 0, 1), (1, .iload_n 1, 1), (2, .bipush 24, 2), (4, .iushr, 1), (5, .invokevirtual 36, 3), (8, .aload_n 0, 1), (9, .iload_n 1, 1), (10, .bipush 16, 2), (12, .iushr, 1), (13, .sipush 255, 3), (16, .iand, 1), (17, .invokevirtual 36, 3), (20, .aload_n 0, 1), (21, .iload_n 1, 1), (22, .bipush 8, 2), (24, .iushr, 1), (25, .sipush 255, 3), (28, .iand, 1), (29, .invokevirtual 36, 3), (32, .aload_n 0, 1), (33, .iload_n 1, 1), (34, .sipush 255, 3), (37, .iand, 1), (38, .invokevirtual 36, 3), (41, .return_, 1)] : List (Nat × Instr × Nat)), decode cX4_addFour q.1 = .ok q.2 := by decide +kernel
set_option maxHeartbeats 4000000 in
set_option maxRecDepth 20000 in
theorem s4_addFour {Y : m_Y Unit} (S : m_Std Y RX4 cX4_addFour) (E : m_End Y cX4_addFour .return_ (fun _ => [])) {F : Nat} (hF : m_Rm Y F) (hFn : 1 ≤ F) (hN : Y.2.2.2.1 = 2) (v0 v1 : Int) (h : m_H) : m_Sim Y 0 [(0, m_r v0), (1, m_i v1)] [] h (t4_addFour v0 v1 h) := by
  unfold t4_addFour
  refine ms_aload_n (pc := 0) S 0 rfl rfl (m_dec e4_addFour 0 rfl) ?_
  refine ms_iload_n (pc := 1) S 1 rfl rfl (m_dec e4_addFour 1 rfl) ?_
  refine ms_bipush (pc := 2) S (m_dec e4_addFour 2 rfl) rfl ?_
  refine ms_iushr (pc := 4) S (m_dec e4_addFour 3 rfl) ?_
  refine ms_grd fun g1 => ?_
  refine ms_callVv (pc := 5) S hF (vals := [m_i (m_ushr v1 24)]) (st := []) (hc := vw_4) (hci := by decide) (hcy := rfl) (ht := g1) (hC := (k4_addByte _ _ v0 (m_ushr v1 24) h)) (hM := lm_X4_36) (hfr := (Nat.le_trans (by decide) hFn)) (hstk := rfl) (hcat := Nat.le_of_ble_eq_true rfl) (hd := (m_dec e4_addFour 4 rfl)) (k1 := fun h2 => ?_)
  refine ms_aload_n (pc := 8) S 0 rfl rfl (m_dec e4_addFour 5 rfl) ?_
  refine ms_iload_n (pc := 9) S 1 rfl rfl (m_dec e4_addFour 6 rfl) ?_
  refine ms_bipush (pc := 10) S (m_dec e4_addFour 7 rfl) rfl ?_
  refine ms_iushr (pc := 12) S (m_dec e4_addFour 8 rfl) ?_
  refine ms_sipush (pc := 13) S (m_dec e4_addFour 9 rfl) rfl ?_
  refine ms_iand (pc := 16) S (m_dec e4_addFour 10 rfl) ?_
  refine ms_grd fun g4 => ?_
  refine ms_callVv (pc := 17) S hF (vals := [m_i (m_and (m_ushr v1 16) 255)]) (st := []) (hc := vw_4) (hci := by decide) (hcy := rfl) (ht := g4) (hC := (k4_addByte _ _ v0 (m_and (m_ushr v1 16) 255) h2)) (hM := lm_X4_36) (hfr := (Nat.le_trans (by decide) hFn)) (hstk := rfl) (hcat := Nat.le_of_ble_eq_true rfl) (hd := (m_dec e4_addFour 11 rfl)) (k1 := fun h5 => ?_)
  refine ms_aload_n (pc := 20) S 0 rfl rfl (m_dec e4_addFour 12 rfl) ?_
  refine ms_iload_n (pc := 21) S 1 rfl rfl (m_dec e4_addFour 13 rfl) ?_
  refine ms_bipush (pc := 22) S (m_dec e4_addFour 14 rfl) rfl ?_
  refine ms_iushr (pc := 24) S (m_dec e4_addFour 15 rfl) ?_
  refine ms_sipush (pc := 25) S (m_dec e4_addFour 16 rfl) rfl ?_
  refine ms_iand (pc := 28) S (m_dec e4_addFour 17 rfl) ?_
  refine ms_grd fun g7 => ?_
  refine ms_callVv (pc := 29) S hF (vals := [m_i (m_and (m_ushr v1 8) 255)]) (st := []) (hc := vw_4) (hci := by decide) (hcy := rfl) (ht := g7) (hC := (k4_addByte _ _ v0 (m_and (m_ushr v1 8) 255) h5)) (hM := lm_X4_36) (hfr := (Nat.le_trans (by decide) hFn)) (hstk := rfl) (hcat := Nat.le_of_ble_eq_true rfl) (hd := (m_dec e4_addFour 18 rfl)) (k1 := fun h8 => ?_)
  refine ms_aload_n (pc := 32) S 0 rfl rfl (m_dec e4_addFour 19 rfl) ?_
  refine ms_iload_n (pc := 33) S 1 rfl rfl (m_dec e4_addFour 20 rfl) ?_
  refine ms_sipush (pc := 34) S (m_dec e4_addFour 21 rfl) rfl ?_
  refine ms_iand (pc := 37) S (m_dec e4_addFour 22 rfl) ?_
  refine ms_grd fun g10 => ?_
  refine ms_callVv (pc := 38) S hF (vals := [m_i (m_and v1 255)]) (st := []) (hc := vw_4) (hci := by decide) (hcy := rfl) (ht := g10) (hC := (k4_addByte _ _ v0 (m_and v1 255) h8)) (hM := lm_X4_36) (hfr := (Nat.le_trans (by decide) hFn)) (hstk := rfl) (hcat := Nat.le_of_ble_eq_true rfl) (hd := (m_dec e4_addFour 23 rfl)) (k1 := fun h11 => ?_)
  exact ms_ret (pc := 41) E (m_dec e4_addFour 24 rfl) rfl
theorem k4_addFour (l : Launch) (d : m_D) (v0 v1 : Int) (h : m_H) : m_Con l d yX4_addFour cX4_addFour 2 none 1 (fun _ => []) [m_r v0, m_i v1] h (t4_addFour v0 v1 h) :=
  m_con2 (by decide +kernel) (Nat.le_of_ble_eq_true rfl) (fun Y hN hRm hr hI S hfin => s4_addFour S (m_end_v S hr hfin) hRm (Nat.le_refl _) hN v0 v1 h)
set_option maxRecDepth 100000 in
theorem e4_byteAt : ∀ q ∈ ([(0, .iload_n 1, 1), (1, .ifCond .lt 29, 3), (4, .iload_n 1, 1), (5, .aload_n 0, 1), (6, .getfield 40, 3), (9, .if_icmp .ge 21, 3), (12, .iload_n 1, 1), (13, .aload_n 0, 1), (14, .getfield 9, 3), (17, .arraylength, 1), (18, .if_icmp .ge 12, 3), (21, .aload_n 0, 1), (22, .getfield 9, 3), (25, .iload_n 1, 1), (26, .iaload, 1), (27, .goto 4, 3), (30, .iconst (-1), 1), (31, .ireturn, 1)] : List (Nat × Instr × Nat)), decode cX4_byteAt q.1 = .ok q.2 := by decide +kernel
set_option maxHeartbeats 4000000 in
set_option maxRecDepth 20000 in
theorem s4_byteAt {Y : m_Y Int} (S : m_Std Y RX4 cX4_byteAt) (E : m_End Y cX4_byteAt .ireturn (fun r => [m_i r])) {F : Nat} (hF : m_Rm Y F) (hFn : 0 ≤ F) (hN : Y.2.2.2.1 = 2) (v0 v1 : Int) (h : m_H) : m_Sim Y 0 [(0, m_r v0), (1, m_i v1)] [] h (t4_byteAt v0 v1 h) := by
  unfold t4_byteAt
  refine ms_iload_n (pc := 0) S 1 rfl rfl (m_dec e4_byteAt 0 rfl) ?_
  refine ms_if_lt (pc := 1) S (m_dec e4_byteAt 1 rfl) rfl (fun q1 => ?_) (fun q1 => ?_)
  · refine ms_iconst (pc := 30) S (m_dec e4_byteAt 16 rfl) ?_
    exact ms_ret (pc := 31) E (m_dec e4_byteAt 17 rfl) rfl
  · refine ms_iload_n (pc := 4) S 1 rfl rfl (m_dec e4_byteAt 2 rfl) ?_
    refine ms_aload_n (pc := 5) S 0 rfl rfl (m_dec e4_byteAt 3 rfl) ?_
    refine ms_grd fun g2 => ?_
    refine ms_getf (pc := 6) S lf_X4_40 rfl (m_dec e4_byteAt 4 rfl) g2 ?_
    refine ms_icmp_ge (pc := 9) S (m_dec e4_byteAt 5 rfl) rfl (fun q3 => ?_) (fun q3 => ?_)
    · refine ms_iload_n (pc := 12) S 1 rfl rfl (m_dec e4_byteAt 6 rfl) ?_
      refine ms_aload_n (pc := 13) S 0 rfl rfl (m_dec e4_byteAt 7 rfl) ?_
      refine ms_getf (pc := 14) S lf_X4_9 rfl (m_dec e4_byteAt 8 rfl) g2 ?_
      refine ms_grd fun g4 => ?_
      refine ms_alen (pc := 17) S g4 (m_dec e4_byteAt 9 rfl) ?_
      refine ms_icmp_ge (pc := 18) S (m_dec e4_byteAt 10 rfl) rfl (fun q5 => ?_) (fun q5 => ?_)
      · refine ms_aload_n (pc := 21) S 0 rfl rfl (m_dec e4_byteAt 11 rfl) ?_
        refine ms_getf (pc := 22) S lf_X4_9 rfl (m_dec e4_byteAt 12 rfl) g2 ?_
        refine ms_iload_n (pc := 25) S 1 rfl rfl (m_dec e4_byteAt 13 rfl) ?_
        refine ms_grd fun g6 => ?_
        refine ms_iald (pc := 26) S g6 (m_dec e4_byteAt 14 rfl) ?_
        refine ms_goto (pc := 27) S (m_dec e4_byteAt 15 rfl) rfl ?_
        exact ms_ret (pc := 31) E (m_dec e4_byteAt 17 rfl) rfl
      · refine ms_iconst (pc := 30) S (m_dec e4_byteAt 16 rfl) ?_
        exact ms_ret (pc := 31) E (m_dec e4_byteAt 17 rfl) rfl
    · refine ms_iconst (pc := 30) S (m_dec e4_byteAt 16 rfl) ?_
      exact ms_ret (pc := 31) E (m_dec e4_byteAt 17 rfl) rfl
theorem k4_byteAt (l : Launch) (d : m_D) (v0 v1 : Int) (h : m_H) : m_Con l d yX4_byteAt cX4_byteAt 2 (some .int) 0 (fun r => [m_i r]) [m_r v0, m_i v1] h (t4_byteAt v0 v1 h) :=
  m_con2 (by decide +kernel) (Nat.le_of_ble_eq_true rfl) (fun Y hN hRm hr hI S hfin => s4_byteAt S (m_end_i S hr hfin) hRm (Nat.le_refl _) hN v0 v1 h)
set_option maxRecDepth 100000 in
theorem e4_isLetter : ∀ q ∈ ([(0, .iload_n 0, 1), (1, .bipush 97, 2), (3, .if_icmp .lt 13, 3), (6, .iload_n 0, 1), (7, .bipush 122, 2), (9, .if_icmp .gt 7, 3), (12, .iconst 1, 1), (13, .goto 4, 3), (16, .iconst 0, 1), (17, .ireturn, 1)] : List (Nat × Instr × Nat)), decode cX4_isLetter q.1 = .ok q.2 := by decide +kernel
set_option maxHeartbeats 4000000 in
set_option maxRecDepth 20000 in
theorem s4_isLetter {Y : m_Y Bool} (S : m_Std Y RX4 cX4_isLetter) (E : m_End Y cX4_isLetter .ireturn (fun r => [m_i (m_b2i r)])) {F : Nat} (hF : m_Rm Y F) (hFn : 0 ≤ F) (hN : Y.2.2.2.1 = 1) (v0 : Int) (h : m_H) : m_Sim Y 0 [(0, m_i v0)] [] h (t4_isLetter v0 h) := by
  unfold t4_isLetter
  refine ms_iload_n (pc := 0) S 0 rfl rfl (m_dec e4_isLetter 0 rfl) ?_
  refine ms_bipush (pc := 1) S (m_dec e4_isLetter 1 rfl) rfl ?_
  refine ms_icmp_lt (pc := 3) S (m_dec e4_isLetter 2 rfl) rfl (fun q1 => ?_) (fun q1 => ?_)
  · refine ms_iconst (pc := 16) S (m_dec e4_isLetter 8 rfl) ?_
    exact ms_ret (pc := 17) E (m_dec e4_isLetter 9 rfl) rfl
  · refine ms_iload_n (pc := 6) S 0 rfl rfl (m_dec e4_isLetter 3 rfl) ?_
    refine ms_bipush (pc := 7) S (m_dec e4_isLetter 4 rfl) rfl ?_
    refine ms_icmp_gt (pc := 9) S (m_dec e4_isLetter 5 rfl) rfl (fun q2 => ?_) (fun q2 => ?_)
    · refine ms_iconst (pc := 16) S (m_dec e4_isLetter 8 rfl) ?_
      exact ms_ret (pc := 17) E (m_dec e4_isLetter 9 rfl) rfl
    · refine ms_iconst (pc := 12) S (m_dec e4_isLetter 6 rfl) ?_
      refine ms_goto (pc := 13) S (m_dec e4_isLetter 7 rfl) rfl ?_
      exact ms_ret (pc := 17) E (m_dec e4_isLetter 9 rfl) rfl
theorem k4_isLetter (l : Launch) (d : m_D) (v0 : Int) (h : m_H) : m_Con l d yX4_isLetter cX4_isLetter 1 (some .boolean) 0 (fun r => [m_i (m_b2i r)]) [m_i v0] h (t4_isLetter v0 h) :=
  m_con2 (by decide +kernel) (Nat.le_of_ble_eq_true rfl) (fun Y hN hRm hr hI S hfin => s4_isLetter S (m_end_z S hr hfin) hRm (Nat.le_refl _) hN v0 h)
set_option maxRecDepth 100000 in
theorem e4_addToken : ∀ q ∈ ([(0, .aload_n 0, 1), (1, .getfield 15, 3), (4, .aload_n 0, 1), (5, .getfield 81, 3), (8, .iload_n 1, 1), (9, .invokestatic 111, 3), (12, .aload_n 0, 1), (13, .getfield 18, 3), (16, .aload_n 0, 1), (17, .getfield 81, 3), (20, .iload_n 2, 1), (21, .invokestatic 111, 3), (24, .aload_n 0, 1), (25, .getfield 21, 3), (28, .aload_n 0, 1), (29, .getfield 81, 3), (32, .iload_n 3, 1), (33, .invokestatic 111, 3), (36, .aload_n 0, 1), (37, .dup, 1), (38, .getfield 81, 3), (41, .iconst 1, 1), (42, .iadd, 1), (43, .putfield 81, 3), (46, .return_, 1)] : List (Nat × Instr × Nat)), decode cX4_addToken q.1 = .ok q.2 := by decide +kernel
set_option maxHeartbeats 4000000 in
set_option maxRecDepth 20000 in
theorem s4_addToken {Y : m_Y Unit} (S : m_Std Y RX4 cX4_addToken) (E : m_End Y cX4_addToken .return_ (fun _ => [])) {F : Nat} (hF : m_Rm Y F) (hFn : 1 ≤ F) (hN : Y.2.2.2.1 = 4) (v0 v1 v2 v3 : Int) (h : m_H) : m_Sim Y 0 [(0, m_r v0), (1, m_i v1), (2, m_i v2), (3, m_i v3)] [] h (t4_addToken v0 v1 v2 v3 h) := by
  unfold t4_addToken
  refine ms_aload_n (pc := 0) S 0 rfl rfl (m_dec e4_addToken 0 rfl) ?_
  refine ms_grd fun g1 => ?_
  refine ms_getf (pc := 1) S lf_X4_15 rfl (m_dec e4_addToken 1 rfl) g1 ?_
  refine ms_aload_n (pc := 4) S 0 rfl rfl (m_dec e4_addToken 2 rfl) ?_
  refine ms_getf (pc := 5) S lf_X4_81 rfl (m_dec e4_addToken 3 rfl) g1 ?_
  refine ms_iload_n (pc := 8) S 1 rfl rfl (m_dec e4_addToken 4 rfl) ?_
  refine ms_callSv (pc := 9) S hF (vals := [m_r (m_g h v0 2), m_i (m_g h v0 5), m_i v1]) (st := [])  (hC := (k10_setEntry _ _ (m_g h v0 2) (m_g h v0 5) v1 h)) (hM := lm_X4_111) (hfr := (Nat.le_trans (by decide) hFn)) (hstk := rfl) (hcat := Nat.le_of_ble_eq_true rfl) (hd := (m_dec e4_addToken 5 rfl)) (k1 := fun h2 => ?_)
  refine ms_aload_n (pc := 12) S 0 rfl rfl (m_dec e4_addToken 6 rfl) ?_
  refine ms_grd fun g4 => ?_
  refine ms_getf (pc := 13) S lf_X4_18 rfl (m_dec e4_addToken 7 rfl) g4 ?_
  refine ms_aload_n (pc := 16) S 0 rfl rfl (m_dec e4_addToken 8 rfl) ?_
  refine ms_getf (pc := 17) S lf_X4_81 rfl (m_dec e4_addToken 9 rfl) g4 ?_
  refine ms_iload_n (pc := 20) S 2 rfl rfl (m_dec e4_addToken 10 rfl) ?_
  refine ms_callSv (pc := 21) S hF (vals := [m_r (m_g h2 v0 3), m_i (m_g h2 v0 5), m_i v2]) (st := [])  (hC := (k10_setEntry _ _ (m_g h2 v0 3) (m_g h2 v0 5) v2 h2)) (hM := lm_X4_111) (hfr := (Nat.le_trans (by decide) hFn)) (hstk := rfl) (hcat := Nat.le_of_ble_eq_true rfl) (hd := (m_dec e4_addToken 11 rfl)) (k1 := fun h5 => ?_)
  refine ms_aload_n (pc := 24) S 0 rfl rfl (m_dec e4_addToken 12 rfl) ?_
  refine ms_grd fun g7 => ?_
  refine ms_getf (pc := 25) S lf_X4_21 rfl (m_dec e4_addToken 13 rfl) g7 ?_
  refine ms_aload_n (pc := 28) S 0 rfl rfl (m_dec e4_addToken 14 rfl) ?_
  refine ms_getf (pc := 29) S lf_X4_81 rfl (m_dec e4_addToken 15 rfl) g7 ?_
  refine ms_iload_n (pc := 32) S 3 rfl rfl (m_dec e4_addToken 16 rfl) ?_
  refine ms_callSv (pc := 33) S hF (vals := [m_r (m_g h5 v0 4), m_i (m_g h5 v0 5), m_i v3]) (st := [])  (hC := (k10_setEntry _ _ (m_g h5 v0 4) (m_g h5 v0 5) v3 h5)) (hM := lm_X4_111) (hfr := (Nat.le_trans (by decide) hFn)) (hstk := rfl) (hcat := Nat.le_of_ble_eq_true rfl) (hd := (m_dec e4_addToken 17 rfl)) (k1 := fun h8 => ?_)
  refine ms_aload_n (pc := 36) S 0 rfl rfl (m_dec e4_addToken 18 rfl) ?_
  refine ms_dup (pc := 37) S rfl (m_dec e4_addToken 19 rfl) ?_
  refine ms_grd fun g10 => ?_
  refine ms_getf (pc := 38) S lf_X4_81 rfl (m_dec e4_addToken 20 rfl) g10 ?_
  refine ms_iconst (pc := 41) S (m_dec e4_addToken 21 rfl) ?_
  refine ms_iadd (pc := 42) S (m_dec e4_addToken 22 rfl) ?_
  refine ms_putf (pc := 43) S lp_X4_81 (fun z => by cases z) rfl (fun d => m_fitI d _) (m_dec e4_addToken 23 rfl) g10 (fun h11 => ?_)
  exact ms_ret (pc := 46) E (m_dec e4_addToken 24 rfl) rfl
theorem k4_addToken (l : Launch) (d : m_D) (v0 v1 v2 v3 : Int) (h : m_H) : m_Con l d yX4_addToken cX4_addToken 4 none 1 (fun _ => []) [m_r v0, m_i v1, m_i v2, m_i v3] h (t4_addToken v0 v1 v2 v3 h) :=
  m_con2 (by decide +kernel) (Nat.le_of_ble_eq_true rfl) (fun Y hN hRm hr hI S hfin => s4_addToken S (m_end_v S hr hfin) hRm (Nat.le_refl _) hN v0 v1 v2 v3 h)
set_option maxRecDepth 100000 in
theorem e4_isKeyword : ∀ q ∈ ([(0, .iconst 0, 1), (1, .istore_n 3, 1), (2, .iload_n 3, 1), (3, .bipush 6, 2), (5, .if_icmp .ge 79, 3), (8, .bipush 6, 2), (10, .iload_n 1, 1), (11, .imul, 1), (12, .iload_n 3, 1), (13, .iadd, 1), (14, .istore 4, 2), (16, .iload 4, 2), (18, .ifCond .lt 23, 3), (21, .iload 4, 2), (23, .ldc 118, 2), (25, .invokevirtual 120, 3), (28, .if_icmp .ge 13, 3), (31, .ldc 118, 2), (33, .iload 4, 2), (35, .invokevirtual 125, 3), (38, .goto 5, 3), (41, .bipush 32, 2), (43, .istore 5, 2), (45, .iload_n 2, 1), (46, .iload_n 3, 1), (47, .iadd, 1), (48, .aload_n 0, 1), (49, .getfield 84, 3), (52, .if_icmp .ge 13, 3), (55, .aload_n 0, 1), (56, .iload_n 2, 1), (57, .iload_n 3, 1), (58, .iadd, 1), (59, .invokevirtual 87, 3), (62, .goto 5, 3), (65, .bipush 32, 2), (67, .istore 6, 2), (69, .iload 5, 2), (71, .iload 6, 2), (73, .if_icmp .eq 5, 3), (76, .iconst 0, 1), (77, .ireturn, 1), (78, .iinc 3 1, 3), (81, .goto (-79), 3), (84, .iconst 1, 1), (85, .ireturn, 1)] : List (Nat × Instr × Nat)), decode cX4_isKeyword q.1 = .ok q.2 := by decide +kernel
set_option maxHeartbeats 4000000 in
set_option maxRecDepth 20000 in
theorem s4_isKeyword_x2 {Y : m_Y Bool} (S : m_Std Y RX4 cX4_isKeyword) (E : m_End Y cX4_isKeyword .ireturn (fun r => [m_i (m_b2i r)])) {F : Nat} (hF : m_Rm Y F) (hFn : 6 ≤ F) (hN : Y.2.2.2.1 = 7) : ∀ (cc : Int) (v0 v1 v2 v3 : Int) (h : m_H) (r : Bool × m_H), t4_isKeyword_x2 cc v0 v1 v2 v3 h = some r → (cc = 2 → m_Sim Y 2 [(0, m_r v0), (1, m_i v1), (2, m_i v2), (3, m_i v3)] [] h (some r)) ∧ (cc = 41 → m_Sim Y 41 [(0, m_r v0), (1, m_i v1), (2, m_i v2), (3, m_i v3)] [] h (some r)) := by
  intro cc v0 v1 v2 v3 h r e
  refine t4_isKeyword_x2.partial_correctness v0 v1 v2 (motive := fun cc v3 h r => (cc = 2 → m_Sim Y 2 [(0, m_r v0), (1, m_i v1), (2, m_i v2), (3, m_i v3)] [] h (some r)) ∧ (cc = 41 → m_Sim Y 41 [(0, m_r v0), (1, m_i v1), (2, m_i v2), (3, m_i v3)] [] h (some r))) ?_ cc v3 h r e
  intro f ih cc v3 h r e
  have ih2 : ∀ (v3 : Int) (h : m_H), m_Sim Y 2 [(0, m_r v0), (1, m_i v1), (2, m_i v2), (3, m_i v3)] [] h (f 2 v3 h ) := fun v3 h  => ms_all fun r e => (ih 2 v3 h r e).1 rfl
  have ih41 : ∀ (v3 : Int) (h : m_H), m_Sim Y 41 [(0, m_r v0), (1, m_i v1), (2, m_i v2), (3, m_i v3)] [] h (f 41 v3 h ) := fun v3 h  => ms_all fun r e => (ih 41 v3 h r e).2 rfl
  refine ⟨?_, ?_⟩
  · intro q0
    subst q0
    rw [if_pos rfl] at e
    refine ms_use ?_ e
    clear e r
    refine ms_iload_n (pc := 2) S 3 rfl rfl (m_dec e4_isKeyword 2 rfl) ?_
    refine ms_bipush (pc := 3) S (m_dec e4_isKeyword 3 rfl) rfl ?_
    refine ms_icmp_ge (pc := 5) S (m_dec e4_isKeyword 4 rfl) rfl (fun q1 => ?_) (fun q1 => ?_)
    · refine ms_bipush (pc := 8) S (m_dec e4_isKeyword 5 rfl) rfl ?_
      refine ms_iload_n (pc := 10) S 1 rfl rfl (m_dec e4_isKeyword 6 rfl) ?_
      refine ms_imul (pc := 11) S (m_dec e4_isKeyword 7 rfl) ?_
      refine ms_iload_n (pc := 12) S 3 rfl rfl (m_dec e4_isKeyword 8 rfl) ?_
      refine ms_iadd (pc := 13) S (m_dec e4_isKeyword 9 rfl) ?_
      refine ms_nm (st := fun x2 => [m_i x2]) fun x2 => ?_
      refine ms_istore (pc := 14) S (L' := [(0, m_r v0), (1, m_i v1), (2, m_i v2), (3, m_i v3), (4, m_i x2)]) [1, 2, 3, 4, 0] rfl (m_lt hN rfl) (m_dec e4_isKeyword 10 rfl) ?_
      refine ms_iload (pc := 16) S 4 rfl (m_dec e4_isKeyword 11 rfl) ?_
      refine ms_if_lt (pc := 18) S (m_dec e4_isKeyword 12 rfl) rfl (fun q3 => ?_) (fun q3 => ?_)
      · refine ms_sub (pc := 41) (L' := [(0, m_r v0), (1, m_i v1), (2, m_i v2), (3, m_i v3)]) [0, 1, 2, 3] rfl ?_
        exact ih41 v3 h
      · refine ms_iload (pc := 21) S 4 rfl (m_dec e4_isKeyword 13 rfl) ?_
        refine ms_ldcS (pc := 23) S 0 rfl (m_dec e4_isKeyword 14 rfl) ?_
        refine ms_grd fun g4 => ?_
        refine ms_strlen (pc := 25) S hF (Nat.le_trans (by decide) hFn) lm_X4_120 g4 (Nat.le_of_ble_eq_true rfl) (m_dec e4_isKeyword 15 rfl) ?_
        refine ms_icmp_ge (pc := 28) S (m_dec e4_isKeyword 16 rfl) rfl (fun q5 => ?_) (fun q5 => ?_)
        · refine ms_ldcS (pc := 31) S 0 rfl (m_dec e4_isKeyword 17 rfl) ?_
          refine ms_iload (pc := 33) S 4 rfl (m_dec e4_isKeyword 18 rfl) ?_
          refine ms_grd fun g6 => ?_
          refine ms_strat (pc := 35) S hF (Nat.le_trans (by decide) hFn) lm_X4_125 g6 (Nat.le_of_ble_eq_true rfl) (m_dec e4_isKeyword 19 rfl) ?_
          refine ms_goto (pc := 38) S (m_dec e4_isKeyword 20 rfl) rfl ?_
          refine ms_nm (st := fun x7 => [m_i x7]) fun x7 => ?_
          refine ms_istore (pc := 43) S (L' := [(0, m_r v0), (1, m_i v1), (2, m_i v2), (3, m_i v3), (5, m_i x7)]) [1, 2, 3, 4, 0] rfl (m_lt hN rfl) (m_dec e4_isKeyword 22 rfl) ?_
          refine ms_iload_n (pc := 45) S 2 rfl rfl (m_dec e4_isKeyword 23 rfl) ?_
          refine ms_iload_n (pc := 46) S 3 rfl rfl (m_dec e4_isKeyword 24 rfl) ?_
          refine ms_iadd (pc := 47) S (m_dec e4_isKeyword 25 rfl) ?_
          refine ms_aload_n (pc := 48) S 0 rfl rfl (m_dec e4_isKeyword 26 rfl) ?_
          refine ms_grd fun g8 => ?_
          refine ms_getf (pc := 49) S lf_X4_84 rfl (m_dec e4_isKeyword 27 rfl) g8 ?_
          refine ms_icmp_ge (pc := 52) S (m_dec e4_isKeyword 28 rfl) rfl (fun q9 => ?_) (fun q9 => ?_)
          · refine ms_aload_n (pc := 55) S 0 rfl rfl (m_dec e4_isKeyword 29 rfl) ?_
            refine ms_iload_n (pc := 56) S 2 rfl rfl (m_dec e4_isKeyword 30 rfl) ?_
            refine ms_iload_n (pc := 57) S 3 rfl rfl (m_dec e4_isKeyword 31 rfl) ?_
            refine ms_iadd (pc := 58) S (m_dec e4_isKeyword 32 rfl) ?_
            refine ms_callVi (pc := 59) S hF (vals := [m_i (v2 + v3)]) (st := []) (hc := vw_4) (hci := by decide) (hcy := rfl) (ht := g8) (hC := (k4_byteAt _ _ v0 (v2 + v3) h)) (hM := lm_X4_87) (hfr := (Nat.le_trans (by decide) hFn)) (hstk := rfl) (hcat := Nat.le_of_ble_eq_true rfl) (hd := (m_dec e4_isKeyword 33 rfl)) (k1 := fun r11 h10 => ?_)
            refine ms_goto (pc := 62) S (m_dec e4_isKeyword 34 rfl) rfl ?_
            refine ms_istore (pc := 67) S (L' := [(0, m_r v0), (1, m_i v1), (2, m_i v2), (3, m_i v3), (5, m_i x7), (6, m_i r11)]) [1, 2, 3, 4, 5, 0] rfl (m_lt hN rfl) (m_dec e4_isKeyword 36 rfl) ?_
            refine ms_iload (pc := 69) S 4 rfl (m_dec e4_isKeyword 37 rfl) ?_
            refine ms_iload (pc := 71) S 5 rfl (m_dec e4_isKeyword 38 rfl) ?_
            refine ms_icmp_eq (pc := 73) S (m_dec e4_isKeyword 39 rfl) rfl (fun q12 => ?_) (fun q12 => ?_)
            · refine ms_iinc (pc := 78) S (L' := [(0, m_r v0), (1, m_i v1), (2, m_i v2), (3, m_i (v3 + 1))]) 3 rfl [1, 2, 3, 0] rfl (m_lt hN rfl) (m_dec e4_isKeyword 42 rfl) ?_
              refine ms_goto (pc := 81) S (m_dec e4_isKeyword 43 rfl) rfl ?_
              exact ih2 (v3 + 1) h10
            · refine ms_iconst (pc := 76) S (m_dec e4_isKeyword 40 rfl) ?_
              exact ms_ret (pc := 77) E (m_dec e4_isKeyword 41 rfl) rfl
          · refine ms_bipush (pc := 65) S (m_dec e4_isKeyword 35 rfl) rfl ?_
            refine ms_istore (pc := 67) S (L' := [(0, m_r v0), (1, m_i v1), (2, m_i v2), (3, m_i v3), (5, m_i x7), (6, m_i 32)]) [1, 2, 3, 4, 5, 0] rfl (m_lt hN rfl) (m_dec e4_isKeyword 36 rfl) ?_
            refine ms_iload (pc := 69) S 4 rfl (m_dec e4_isKeyword 37 rfl) ?_
            refine ms_iload (pc := 71) S 5 rfl (m_dec e4_isKeyword 38 rfl) ?_
            refine ms_icmp_eq (pc := 73) S (m_dec e4_isKeyword 39 rfl) rfl (fun q13 => ?_) (fun q13 => ?_)
            · refine ms_iinc (pc := 78) S (L' := [(0, m_r v0), (1, m_i v1), (2, m_i v2), (3, m_i (v3 + 1))]) 3 rfl [1, 2, 3, 0] rfl (m_lt hN rfl) (m_dec e4_isKeyword 42 rfl) ?_
              refine ms_goto (pc := 81) S (m_dec e4_isKeyword 43 rfl) rfl ?_
              exact ih2 (v3 + 1) h
            · refine ms_iconst (pc := 76) S (m_dec e4_isKeyword 40 rfl) ?_
              exact ms_ret (pc := 77) E (m_dec e4_isKeyword 41 rfl) rfl
        · refine ms_sub (pc := 41) (L' := [(0, m_r v0), (1, m_i v1), (2, m_i v2), (3, m_i v3)]) [0, 1, 2, 3] rfl ?_
          exact ih41 v3 h
    · refine ms_iconst (pc := 84) S (m_dec e4_isKeyword 44 rfl) ?_
      exact ms_ret (pc := 85) E (m_dec e4_isKeyword 45 rfl) rfl
  · intro q0
    subst q0
    rw [if_neg (by decide), if_pos rfl] at e
    refine ms_use ?_ e
    clear e r
    refine ms_bipush (pc := 41) S (m_dec e4_isKeyword 21 rfl) rfl ?_
    refine ms_istore (pc := 43) S (L' := [(0, m_r v0), (1, m_i v1), (2, m_i v2), (3, m_i v3), (5, m_i 32)]) [1, 2, 3, 4, 0] rfl (m_lt hN rfl) (m_dec e4_isKeyword 22 rfl) ?_
    refine ms_iload_n (pc := 45) S 2 rfl rfl (m_dec e4_isKeyword 23 rfl) ?_
    refine ms_iload_n (pc := 46) S 3 rfl rfl (m_dec e4_isKeyword 24 rfl) ?_
    refine ms_iadd (pc := 47) S (m_dec e4_isKeyword 25 rfl) ?_
    refine ms_aload_n (pc := 48) S 0 rfl rfl (m_dec e4_isKeyword 26 rfl) ?_
    refine ms_grd fun g1 => ?_
    refine ms_getf (pc := 49) S lf_X4_84 rfl (m_dec e4_isKeyword 27 rfl) g1 ?_
    refine ms_icmp_ge (pc := 52) S (m_dec e4_isKeyword 28 rfl) rfl (fun q2 => ?_) (fun q2 => ?_)
    · refine ms_aload_n (pc := 55) S 0 rfl rfl (m_dec e4_isKeyword 29 rfl) ?_
      refine ms_iload_n (pc := 56) S 2 rfl rfl (m_dec e4_isKeyword 30 rfl) ?_
      refine ms_iload_n (pc := 57) S 3 rfl rfl (m_dec e4_isKeyword 31 rfl) ?_
      refine ms_iadd (pc := 58) S (m_dec e4_isKeyword 32 rfl) ?_
      refine ms_callVi (pc := 59) S hF (vals := [m_i (v2 + v3)]) (st := []) (hc := vw_4) (hci := by decide) (hcy := rfl) (ht := g1) (hC := (k4_byteAt _ _ v0 (v2 + v3) h)) (hM := lm_X4_87) (hfr := (Nat.le_trans (by decide) hFn)) (hstk := rfl) (hcat := Nat.le_of_ble_eq_true rfl) (hd := (m_dec e4_isKeyword 33 rfl)) (k1 := fun r4 h3 => ?_)
      refine ms_goto (pc := 62) S (m_dec e4_isKeyword 34 rfl) rfl ?_
      refine ms_istore (pc := 67) S (L' := [(0, m_r v0), (1, m_i v1), (2, m_i v2), (3, m_i v3), (5, m_i 32), (6, m_i r4)]) [1, 2, 3, 4, 5, 0] rfl (m_lt hN rfl) (m_dec e4_isKeyword 36 rfl) ?_
      refine ms_iload (pc := 69) S 4 rfl (m_dec e4_isKeyword 37 rfl) ?_
      refine ms_iload (pc := 71) S 5 rfl (m_dec e4_isKeyword 38 rfl) ?_
      refine ms_icmp_eq (pc := 73) S (m_dec e4_isKeyword 39 rfl) rfl (fun q5 => ?_) (fun q5 => ?_)
      · refine ms_iinc (pc := 78) S (L' := [(0, m_r v0), (1, m_i v1), (2, m_i v2), (3, m_i (v3 + 1))]) 3 rfl [1, 2, 3, 0] rfl (m_lt hN rfl) (m_dec e4_isKeyword 42 rfl) ?_
        refine ms_goto (pc := 81) S (m_dec e4_isKeyword 43 rfl) rfl ?_
        exact ih2 (v3 + 1) h3
      · refine ms_iconst (pc := 76) S (m_dec e4_isKeyword 40 rfl) ?_
        exact ms_ret (pc := 77) E (m_dec e4_isKeyword 41 rfl) rfl
    · refine ms_bipush (pc := 65) S (m_dec e4_isKeyword 35 rfl) rfl ?_
      refine ms_istore (pc := 67) S (L' := [(0, m_r v0), (1, m_i v1), (2, m_i v2), (3, m_i v3), (5, m_i 32), (6, m_i 32)]) [1, 2, 3, 4, 5, 0] rfl (m_lt hN rfl) (m_dec e4_isKeyword 36 rfl) ?_
      refine ms_iload (pc := 69) S 4 rfl (m_dec e4_isKeyword 37 rfl) ?_
      refine ms_iload (pc := 71) S 5 rfl (m_dec e4_isKeyword 38 rfl) ?_
      refine ms_icmp_eq (pc := 73) S (m_dec e4_isKeyword 39 rfl) rfl (fun q6 => ?_) (fun q6 => ?_)
      · refine ms_iinc (pc := 78) S (L' := [(0, m_r v0), (1, m_i v1), (2, m_i v2), (3, m_i (v3 + 1))]) 3 rfl [1, 2, 3, 0] rfl (m_lt hN rfl) (m_dec e4_isKeyword 42 rfl) ?_
        refine ms_goto (pc := 81) S (m_dec e4_isKeyword 43 rfl) rfl ?_
        exact ih2 (v3 + 1) h
      · refine ms_iconst (pc := 76) S (m_dec e4_isKeyword 40 rfl) ?_
        exact ms_ret (pc := 77) E (m_dec e4_isKeyword 41 rfl) rfl
set_option maxHeartbeats 4000000 in
set_option maxRecDepth 20000 in
theorem s4_isKeyword_c2 {Y : m_Y Bool} (S : m_Std Y RX4 cX4_isKeyword) (E : m_End Y cX4_isKeyword .ireturn (fun r => [m_i (m_b2i r)])) {F : Nat} (hF : m_Rm Y F) (hFn : 6 ≤ F) (hN : Y.2.2.2.1 = 7) (v0 v1 v2 v3 : Int) (h : m_H) : m_Sim Y 2 [(0, m_r v0), (1, m_i v1), (2, m_i v2), (3, m_i v3)] [] h (t4_isKeyword_x2 2 v0 v1 v2 v3 h) := ms_all fun r e => (s4_isKeyword_x2 S E hF hFn hN 2 v0 v1 v2 v3 h r e).1 rfl
set_option maxHeartbeats 4000000 in
set_option maxRecDepth 20000 in
theorem s4_isKeyword_c41 {Y : m_Y Bool} (S : m_Std Y RX4 cX4_isKeyword) (E : m_End Y cX4_isKeyword .ireturn (fun r => [m_i (m_b2i r)])) {F : Nat} (hF : m_Rm Y F) (hFn : 6 ≤ F) (hN : Y.2.2.2.1 = 7) (v0 v1 v2 v3 : Int) (h : m_H) : m_Sim Y 41 [(0, m_r v0), (1, m_i v1), (2, m_i v2), (3, m_i v3)] [] h (t4_isKeyword_x2 41 v0 v1 v2 v3 h) := ms_all fun r e => (s4_isKeyword_x2 S E hF hFn hN 41 v0 v1 v2 v3 h r e).2 rfl
set_option maxHeartbeats 4000000 in
set_option maxRecDepth 20000 in
theorem s4_isKeyword {Y : m_Y Bool} (S : m_Std Y RX4 cX4_isKeyword) (E : m_End Y cX4_isKeyword .ireturn (fun r => [m_i (m_b2i r)])) {F : Nat} (hF : m_Rm Y F) (hFn : 6 ≤ F) (hN : Y.2.2.2.1 = 7) (v0 v1 v2 : Int) (h : m_H) : m_Sim Y 0 [(0, m_r v0), (1, m_i v1), (2, m_i v2)] [] h (t4_isKeyword v0 v1 v2 h) := by
  unfold t4_isKeyword
  refine ms_iconst (pc := 0) S (m_dec e4_isKeyword 0 rfl) ?_
  refine ms_istore_n (pc := 1) S (L' := [(0, m_r v0), (1, m_i v1), (2, m_i v2), (3, m_i 0)]) [1, 2, 3, 0] rfl rfl (m_lt hN rfl) (m_dec e4_isKeyword 1 rfl) ?_
  exact s4_isKeyword_c2 S E hF hFn hN v0 v1 v2 0 h
theorem k4_isKeyword (l : Launch) (d : m_D) (v0 v1 v2 : Int) (h : m_H) : m_Con l d yX4_isKeyword cX4_isKeyword 7 (some .boolean) 6 (fun r => [m_i (m_b2i r)]) [m_r v0, m_i v1, m_i v2] h (t4_isKeyword v0 v1 v2 h) :=
  m_con2 (by decide +kernel) (Nat.le_of_ble_eq_true rfl) (fun Y hN hRm hr hI S hfin => s4_isKeyword S (m_end_z S hr hfin) hRm (Nat.le_refl _) hN v0 v1 v2 h)
set_option maxRecDepth 100000 in
theorem e4_readWord : ∀ q ∈ ([(0, .aload_n 0, 1), (1, .iload_n 1, 1), (2, .invokevirtual 87, 3), (5, .bipush 97, 2), (7, .isub, 1), (8, .iconst 1, 1), (9, .iadd, 1), (10, .istore_n 2, 1), (11, .aload_n 0, 1), (12, .getfield 84, 3), (15, .aload_n 0, 1), (16, .getfield 40, 3), (19, .if_icmp .ge 48, 3), (22, .aload_n 0, 1), (23, .aload_n 0, 1), (24, .getfield 84, 3), (27, .invokevirtual 87, 3), (30, .invokestatic 91, 3), (33, .ifCond .eq 34, 3), (36, .iload_n 2, 1), (37, .iconst 5, 1), (38, .ishl, 1), (39, .aload_n 0, 1), (40, .aload_n 0, 1), (41, .getfield 84, 3), (44, .invokevirtual 87, 3), (47, .bipush 97, 2), (49, .isub, 1), (50, .iconst 1, 1), (51, .iadd, 1), (52, .ior, 1), (53, .istore_n 2, 1), (54, .aload_n 0, 1), (55, .dup, 1), (56, .getfield 84, 3), (59, .iconst 1, 1), (60, .iadd, 1), (61, .putfield 84, 3), (64, .goto (-53), 3), (67, .aload_n 0, 1), (68, .getfield 84, 3), (71, .iload_n 1, 1), (72, .isub, 1), (73, .bipush 6, 2), (75, .if_icmp .le 12, 3), (78, .aload_n 0, 1), (79, .iload_n 1, 1), (80, .bipush 26, 2), (82, .iconst (-1), 1), (83, .invokevirtual 107, 3), (86, .return_, 1), (87, .iconst (-1), 1), (88, .istore_n 3, 1), (89, .iconst 0, 1), (90, .istore 4, 2), (92, .iload 4, 2), (94, .bipush 24, 2), (96, .if_icmp .ge 27, 3), (99, .iload_n 3, 1), (100, .iconst (-1), 1), (101, .if_icmp .ne 22, 3), (104, .aload_n 0, 1), (105, .iload 4, 2), (107, .iload_n 1, 1), (108, .invokevirtual 115, 3), (111, .ifCond .eq 6, 3), (114, .iload 4, 2), (116, .istore_n 3, 1), (117, .iinc 4 1, 3), (120, .goto (-28), 3), (123, .aload_n 0, 1), (124, .iload_n 1, 1), (125, .iload_n 3, 1), (126, .iconst (-1), 1), (127, .if_icmp .ne 8, 3), (130, .bipush 24, 2), (132, .goto 4, 3), (135, .iload_n 3, 1), (136, .iload_n 2, 1), (137, .invokevirtual 107, 3), (140, .return_, 1)] : List (Nat × Instr × Nat)), decode cX4_readWord q.1 = .ok q.2 := by decide +kernel
set_option maxHeartbeats 4000000 in
set_option maxRecDepth 20000 in
theorem s4_readWord_c123 {Y : m_Y Unit} (S : m_Std Y RX4 cX4_readWord) (E : m_End Y cX4_readWord .return_ (fun _ => [])) {F : Nat} (hF : m_Rm Y F) (hFn : 7 ≤ F) (hN : Y.2.2.2.1 = 5) (v0 v1 v2 v3 : Int) (h : m_H) : m_Sim Y 123 [(0, m_r v0), (1, m_i v1), (2, m_i v2), (3, m_i v3)] [] h (t4_readWord_c123 v0 v1 v2 v3 h) := by
  unfold t4_readWord_c123
  refine ms_aload_n (pc := 123) S 0 rfl rfl (m_dec e4_readWord 70 rfl) ?_
  refine ms_iload_n (pc := 124) S 1 rfl rfl (m_dec e4_readWord 71 rfl) ?_
  refine ms_iload_n (pc := 125) S 3 rfl rfl (m_dec e4_readWord 72 rfl) ?_
  refine ms_iconst (pc := 126) S (m_dec e4_readWord 73 rfl) ?_
  refine ms_icmp_ne (pc := 127) S (m_dec e4_readWord 74 rfl) rfl (fun q1 => ?_) (fun q1 => ?_)
  · refine ms_bipush (pc := 130) S (m_dec e4_readWord 75 rfl) rfl ?_
    refine ms_goto (pc := 132) S (m_dec e4_readWord 76 rfl) rfl ?_
    refine ms_iload_n (pc := 136) S 2 rfl rfl (m_dec e4_readWord 78 rfl) ?_
    refine ms_grd fun g2 => ?_
    refine ms_callVv (pc := 137) S hF (vals := [m_i v1, m_i 24, m_i v2]) (st := []) (hc := vw_4) (hci := by decide) (hcy := rfl) (ht := g2) (hC := (k4_addToken _ _ v0 v1 24 v2 h)) (hM := lm_X4_107) (hfr := (Nat.le_trans (by decide) hFn)) (hstk := rfl) (hcat := Nat.le_of_ble_eq_true rfl) (hd := (m_dec e4_readWord 79 rfl)) (k1 := fun h3 => ?_)
    exact ms_ret (pc := 140) E (m_dec e4_readWord 80 rfl) rfl
  · refine ms_iload_n (pc := 135) S 3 rfl rfl (m_dec e4_readWord 77 rfl) ?_
    refine ms_iload_n (pc := 136) S 2 rfl rfl (m_dec e4_readWord 78 rfl) ?_
    refine ms_grd fun g5 => ?_
    refine ms_callVv (pc := 137) S hF (vals := [m_i v1, m_i v3, m_i v2]) (st := []) (hc := vw_4) (hci := by decide) (hcy := rfl) (ht := g5) (hC := (k4_addToken _ _ v0 v1 v3 v2 h)) (hM := lm_X4_107) (hfr := (Nat.le_trans (by decide) hFn)) (hstk := rfl) (hcat := Nat.le_of_ble_eq_true rfl) (hd := (m_dec e4_readWord 79 rfl)) (k1 := fun h6 => ?_)
    exact ms_ret (pc := 140) E (m_dec e4_readWord 80 rfl) rfl
set_option maxHeartbeats 4000000 in
set_option maxRecDepth 20000 in
theorem s4_readWord_c92 {Y : m_Y Unit} (S : m_Std Y RX4 cX4_readWord) (E : m_End Y cX4_readWord .return_ (fun _ => [])) {F : Nat} (hF : m_Rm Y F) (hFn : 7 ≤ F) (hN : Y.2.2.2.1 = 5) : ∀ (v0 v1 v2 v3 v4 : Int) (h : m_H), m_Sim Y 92 [(0, m_r v0), (1, m_i v1), (2, m_i v2), (3, m_i v3), (4, m_i v4)] [] h (t4_readWord_c92 v0 v1 v2 v3 v4 h) := by
  intro v0 v1 v2 v3 v4 h
  refine ms_all fun r e => ?_
  refine t4_readWord_c92.partial_correctness v0 v1 v2 (motive := fun v3 v4 h r => m_Sim Y 92 [(0, m_r v0), (1, m_i v1), (2, m_i v2), (3, m_i v3), (4, m_i v4)] [] h (some r)) ?_ v3 v4 h r e
  intro f ih v3 v4 h r e
  have ih : ∀ (v3 v4 : Int) (h : m_H), m_Sim Y 92 [(0, m_r v0), (1, m_i v1), (2, m_i v2), (3, m_i v3), (4, m_i v4)] [] h (f v3 v4 h ) := fun v3 v4 h  => ms_all fun r e => ih v3 v4 h r e
  refine ms_use ?_ e
  clear e r
  refine ms_iload (pc := 92) S 4 rfl (m_dec e4_readWord 55 rfl) ?_
  refine ms_bipush (pc := 94) S (m_dec e4_readWord 56 rfl) rfl ?_
  refine ms_icmp_ge (pc := 96) S (m_dec e4_readWord 57 rfl) rfl (fun q1 => ?_) (fun q1 => ?_)
  · refine ms_iload_n (pc := 99) S 3 rfl rfl (m_dec e4_readWord 58 rfl) ?_
    refine ms_iconst (pc := 100) S (m_dec e4_readWord 59 rfl) ?_
    refine ms_icmp_ne (pc := 101) S (m_dec e4_readWord 60 rfl) rfl (fun q2 => ?_) (fun q2 => ?_)
    · refine ms_aload_n (pc := 104) S 0 rfl rfl (m_dec e4_readWord 61 rfl) ?_
      refine ms_iload (pc := 105) S 4 rfl (m_dec e4_readWord 62 rfl) ?_
      refine ms_iload_n (pc := 107) S 1 rfl rfl (m_dec e4_readWord 63 rfl) ?_
      refine ms_grd fun g3 => ?_
      refine ms_callVz (pc := 108) S hF (vals := [m_i v4, m_i v1]) (st := []) (hc := vw_4) (hci := by decide) (hcy := rfl) (ht := g3) (hC := (k4_isKeyword _ _ v0 v4 v1 h)) (hM := lm_X4_115) (hfr := (Nat.le_trans (by decide) hFn)) (hstk := rfl) (hcat := Nat.le_of_ble_eq_true rfl) (hd := (m_dec e4_readWord 64 rfl)) (k1 := fun r5 h4 => ?_)
      refine ms_ifb_eq (pc := 111) S (m_dec e4_readWord 65 rfl) rfl (fun q6 => ?_) (fun q6 => ?_)
      · refine ms_iload (pc := 114) S 4 rfl (m_dec e4_readWord 66 rfl) ?_
        refine ms_istore_n (pc := 116) S (L' := [(0, m_r v0), (1, m_i v1), (2, m_i v2), (3, m_i v4), (4, m_i v4)]) [1, 2, 3, 0, 4] rfl rfl (m_lt hN rfl) (m_dec e4_readWord 67 rfl) ?_
        refine ms_iinc (pc := 117) S (L' := [(0, m_r v0), (1, m_i v1), (2, m_i v2), (3, m_i v4), (4, m_i (v4 + 1))]) 4 rfl [1, 2, 3, 4, 0] rfl (m_lt hN rfl) (m_dec e4_readWord 68 rfl) ?_
        refine ms_goto (pc := 120) S (m_dec e4_readWord 69 rfl) rfl ?_
        exact ih v4 (v4 + 1) h4
      · refine ms_iinc (pc := 117) S (L' := [(0, m_r v0), (1, m_i v1), (2, m_i v2), (3, m_i v3), (4, m_i (v4 + 1))]) 4 rfl [1, 2, 3, 4, 0] rfl (m_lt hN rfl) (m_dec e4_readWord 68 rfl) ?_
        refine ms_goto (pc := 120) S (m_dec e4_readWord 69 rfl) rfl ?_
        exact ih v3 (v4 + 1) h4
    · refine ms_sub (pc := 123) (L' := [(0, m_r v0), (1, m_i v1), (2, m_i v2), (3, m_i v3)]) [0, 1, 2, 3] rfl ?_
      exact s4_readWord_c123 S E hF hFn hN v0 v1 v2 v3 h
  · refine ms_sub (pc := 123) (L' := [(0, m_r v0), (1, m_i v1), (2, m_i v2), (3, m_i v3)]) [0, 1, 2, 3] rfl ?_
    exact s4_readWord_c123 S E hF hFn hN v0 v1 v2 v3 h
set_option maxHeartbeats 4000000 in
set_option maxRecDepth 20000 in
theorem s4_readWord_c67 {Y : m_Y Unit} (S : m_Std Y RX4 cX4_readWord) (E : m_End Y cX4_readWord .return_ (fun _ => [])) {F : Nat} (hF : m_Rm Y F) (hFn : 7 ≤ F) (hN : Y.2.2.2.1 = 5) (v0 v1 v2 : Int) (h : m_H) : m_Sim Y 67 [(0, m_r v0), (1, m_i v1), (2, m_i v2)] [] h (t4_readWord_c67 v0 v1 v2 h) := by
  unfold t4_readWord_c67
  refine ms_aload_n (pc := 67) S 0 rfl rfl (m_dec e4_readWord 39 rfl) ?_
  refine ms_grd fun g1 => ?_
  refine ms_getf (pc := 68) S lf_X4_84 rfl (m_dec e4_readWord 40 rfl) g1 ?_
  refine ms_iload_n (pc := 71) S 1 rfl rfl (m_dec e4_readWord 41 rfl) ?_
  refine ms_isub (pc := 72) S (m_dec e4_readWord 42 rfl) ?_
  refine ms_bipush (pc := 73) S (m_dec e4_readWord 43 rfl) rfl ?_
  refine ms_icmp_le (pc := 75) S (m_dec e4_readWord 44 rfl) rfl (fun q2 => ?_) (fun q2 => ?_)
  · refine ms_aload_n (pc := 78) S 0 rfl rfl (m_dec e4_readWord 45 rfl) ?_
    refine ms_iload_n (pc := 79) S 1 rfl rfl (m_dec e4_readWord 46 rfl) ?_
    refine ms_bipush (pc := 80) S (m_dec e4_readWord 47 rfl) rfl ?_
    refine ms_iconst (pc := 82) S (m_dec e4_readWord 48 rfl) ?_
    refine ms_callVv (pc := 83) S hF (vals := [m_i v1, m_i 26, m_i (-1)]) (st := []) (hc := vw_4) (hci := by decide) (hcy := rfl) (ht := g1) (hC := (k4_addToken _ _ v0 v1 26 (-1) h)) (hM := lm_X4_107) (hfr := (Nat.le_trans (by decide) hFn)) (hstk := rfl) (hcat := Nat.le_of_ble_eq_true rfl) (hd := (m_dec e4_readWord 49 rfl)) (k1 := fun h3 => ?_)
    exact ms_ret (pc := 86) E (m_dec e4_readWord 50 rfl) rfl
  · refine ms_iconst (pc := 87) S (m_dec e4_readWord 51 rfl) ?_
    refine ms_istore_n (pc := 88) S (L' := [(0, m_r v0), (1, m_i v1), (2, m_i v2), (3, m_i (-1))]) [1, 2, 3, 0] rfl rfl (m_lt hN rfl) (m_dec e4_readWord 52 rfl) ?_
    refine ms_iconst (pc := 89) S (m_dec e4_readWord 53 rfl) ?_
    refine ms_istore (pc := 90) S (L' := [(0, m_r v0), (1, m_i v1), (2, m_i v2), (3, m_i (-1)), (4, m_i 0)]) [1, 2, 3, 4, 0] rfl (m_lt hN rfl) (m_dec e4_readWord 54 rfl) ?_
    exact s4_readWord_c92 S E hF hFn hN v0 v1 v2 (-1) 0 h
set_option maxHeartbeats 4000000 in
set_option maxRecDepth 20000 in
theorem s4_readWord_c11 {Y : m_Y Unit} (S : m_Std Y RX4 cX4_readWord) (E : m_End Y cX4_readWord .return_ (fun _ => [])) {F : Nat} (hF : m_Rm Y F) (hFn : 7 ≤ F) (hN : Y.2.2.2.1 = 5) : ∀ (v0 v1 v2 : Int) (h : m_H), m_Sim Y 11 [(0, m_r v0), (1, m_i v1), (2, m_i v2)] [] h (t4_readWord_c11 v0 v1 v2 h) := by
  intro v0 v1 v2 h
  refine ms_all fun r e => ?_
  refine t4_readWord_c11.partial_correctness v0 v1 (motive := fun v2 h r => m_Sim Y 11 [(0, m_r v0), (1, m_i v1), (2, m_i v2)] [] h (some r)) ?_ v2 h r e
  intro f ih v2 h r e
  have ih : ∀ (v2 : Int) (h : m_H), m_Sim Y 11 [(0, m_r v0), (1, m_i v1), (2, m_i v2)] [] h (f v2 h ) := fun v2 h  => ms_all fun r e => ih v2 h r e
  refine ms_use ?_ e
  clear e r
  refine ms_aload_n (pc := 11) S 0 rfl rfl (m_dec e4_readWord 8 rfl) ?_
  refine ms_grd fun g1 => ?_
  refine ms_getf (pc := 12) S lf_X4_84 rfl (m_dec e4_readWord 9 rfl) g1 ?_
  refine ms_aload_n (pc := 15) S 0 rfl rfl (m_dec e4_readWord 10 rfl) ?_
  refine ms_getf (pc := 16) S lf_X4_40 rfl (m_dec e4_readWord 11 rfl) g1 ?_
  refine ms_icmp_ge (pc := 19) S (m_dec e4_readWord 12 rfl) rfl (fun q2 => ?_) (fun q2 => ?_)
  · refine ms_aload_n (pc := 22) S 0 rfl rfl (m_dec e4_readWord 13 rfl) ?_
    refine ms_aload_n (pc := 23) S 0 rfl rfl (m_dec e4_readWord 14 rfl) ?_
    refine ms_getf (pc := 24) S lf_X4_84 rfl (m_dec e4_readWord 15 rfl) g1 ?_
    refine ms_callVi (pc := 27) S hF (vals := [m_i (m_g h v0 6)]) (st := []) (hc := vw_4) (hci := by decide) (hcy := rfl) (ht := g1) (hC := (k4_byteAt _ _ v0 (m_g h v0 6) h)) (hM := lm_X4_87) (hfr := (Nat.le_trans (by decide) hFn)) (hstk := rfl) (hcat := Nat.le_of_ble_eq_true rfl) (hd := (m_dec e4_readWord 16 rfl)) (k1 := fun r4 h3 => ?_)
    refine ms_callSz (pc := 30) S hF (vals := [m_i r4]) (st := [])  (hC := (k4_isLetter _ _ r4 h3)) (hM := lm_X4_91) (hfr := (Nat.le_trans (by decide) hFn)) (hstk := rfl) (hcat := Nat.le_of_ble_eq_true rfl) (hd := (m_dec e4_readWord 17 rfl)) (k1 := fun r6 h5 => ?_)
    refine ms_ifb_eq (pc := 33) S (m_dec e4_readWord 18 rfl) rfl (fun q7 => ?_) (fun q7 => ?_)
    · refine ms_iload_n (pc := 36) S 2 rfl rfl (m_dec e4_readWord 19 rfl) ?_
      refine ms_iconst (pc := 37) S (m_dec e4_readWord 20 rfl) ?_
      refine ms_ishl (pc := 38) S (m_dec e4_readWord 21 rfl) ?_
      refine ms_aload_n (pc := 39) S 0 rfl rfl (m_dec e4_readWord 22 rfl) ?_
      refine ms_aload_n (pc := 40) S 0 rfl rfl (m_dec e4_readWord 23 rfl) ?_
      refine ms_grd fun g8 => ?_
      refine ms_getf (pc := 41) S lf_X4_84 rfl (m_dec e4_readWord 24 rfl) g8 ?_
      refine ms_callVi (pc := 44) S hF (vals := [m_i (m_g h5 v0 6)]) (st := [m_i (m_shl v2 5)]) (hc := vw_4) (hci := by decide) (hcy := rfl) (ht := g8) (hC := (k4_byteAt _ _ v0 (m_g h5 v0 6) h5)) (hM := lm_X4_87) (hfr := (Nat.le_trans (by decide) hFn)) (hstk := rfl) (hcat := Nat.le_of_ble_eq_true rfl) (hd := (m_dec e4_readWord 25 rfl)) (k1 := fun r10 h9 => ?_)
      refine ms_bipush (pc := 47) S (m_dec e4_readWord 26 rfl) rfl ?_
      refine ms_isub (pc := 49) S (m_dec e4_readWord 27 rfl) ?_
      refine ms_iconst (pc := 50) S (m_dec e4_readWord 28 rfl) ?_
      refine ms_iadd (pc := 51) S (m_dec e4_readWord 29 rfl) ?_
      refine ms_ior (pc := 52) S (m_dec e4_readWord 30 rfl) ?_
      refine ms_nm (st := fun x11 => [m_i x11]) fun x11 => ?_
      refine ms_istore_n (pc := 53) S (L' := [(0, m_r v0), (1, m_i v1), (2, m_i x11)]) [1, 2, 0] rfl rfl (m_lt hN rfl) (m_dec e4_readWord 31 rfl) ?_
      refine ms_aload_n (pc := 54) S 0 rfl rfl (m_dec e4_readWord 32 rfl) ?_
      refine ms_dup (pc := 55) S rfl (m_dec e4_readWord 33 rfl) ?_
      refine ms_grd fun g12 => ?_
      refine ms_getf (pc := 56) S lf_X4_84 rfl (m_dec e4_readWord 34 rfl) g12 ?_
      refine ms_iconst (pc := 59) S (m_dec e4_readWord 35 rfl) ?_
      refine ms_iadd (pc := 60) S (m_dec e4_readWord 36 rfl) ?_
      refine ms_putf (pc := 61) S lp_X4_84 (fun z => by cases z) rfl (fun d => m_fitI d _) (m_dec e4_readWord 37 rfl) g12 (fun h13 => ?_)
      refine ms_goto (pc := 64) S (m_dec e4_readWord 38 rfl) rfl ?_
      exact ih x11 h13
    · exact s4_readWord_c67 S E hF hFn hN v0 v1 v2 h5
  · exact s4_readWord_c67 S E hF hFn hN v0 v1 v2 h
set_option maxHeartbeats 4000000 in
set_option maxRecDepth 20000 in
theorem s4_readWord {Y : m_Y Unit} (S : m_Std Y RX4 cX4_readWord) (E : m_End Y cX4_readWord .return_ (fun _ => [])) {F : Nat} (hF : m_Rm Y F) (hFn : 7 ≤ F) (hN : Y.2.2.2.1 = 5) (v0 v1 : Int) (h : m_H) : m_Sim Y 0 [(0, m_r v0), (1, m_i v1)] [] h (t4_readWord v0 v1 h) := by
  unfold t4_readWord
  refine ms_aload_n (pc := 0) S 0 rfl rfl (m_dec e4_readWord 0 rfl) ?_
  refine ms_iload_n (pc := 1) S 1 rfl rfl (m_dec e4_readWord 1 rfl) ?_
  refine ms_grd fun g1 => ?_
  refine ms_callVi (pc := 2) S hF (vals := [m_i v1]) (st := []) (hc := vw_4) (hci := by decide) (hcy := rfl) (ht := g1) (hC := (k4_byteAt _ _ v0 v1 h)) (hM := lm_X4_87) (hfr := (Nat.le_trans (by decide) hFn)) (hstk := rfl) (hcat := Nat.le_of_ble_eq_true rfl) (hd := (m_dec e4_readWord 2 rfl)) (k1 := fun r3 h2 => ?_)
  refine ms_bipush (pc := 5) S (m_dec e4_readWord 3 rfl) rfl ?_
  refine ms_isub (pc := 7) S (m_dec e4_readWord 4 rfl) ?_
  refine ms_iconst (pc := 8) S (m_dec e4_readWord 5 rfl) ?_
  refine ms_iadd (pc := 9) S (m_dec e4_readWord 6 rfl) ?_
  refine ms_nm (st := fun x4 => [m_i x4]) fun x4 => ?_
  refine ms_istore_n (pc := 10) S (L' := [(0, m_r v0), (1, m_i v1), (2, m_i x4)]) [1, 2, 0] rfl rfl (m_lt hN rfl) (m_dec e4_readWord 7 rfl) ?_
  exact s4_readWord_c11 S E hF hFn hN v0 v1 x4 h2
theorem k4_readWord (l : Launch) (d : m_D) (v0 v1 : Int) (h : m_H) : m_Con l d yX4_readWord cX4_readWord 5 none 7 (fun _ => []) [m_r v0, m_i v1] h (t4_readWord v0 v1 h) :=
  m_con2 (by decide +kernel) (Nat.le_of_ble_eq_true rfl) (fun Y hN hRm hr hI S hfin => s4_readWord S (m_end_v S hr hfin) hRm (Nat.le_refl _) hN v0 v1 h)
set_option maxRecDepth 100000 in
theorem e4_isDigit : ∀ q ∈ ([(0, .iload_n 0, 1), (1, .bipush 48, 2), (3, .if_icmp .lt 13, 3), (6, .iload_n 0, 1), (7, .bipush 57, 2), (9, .if_icmp .gt 7, 3), (12, .iconst 1, 1), (13, .goto 4, 3), (16, .iconst 0, 1), (17, .ireturn, 1)] : List (Nat × Instr × Nat)), decode cX4_isDigit q.1 = .ok q.2 := by decide +kernel
set_option maxHeartbeats 4000000 in
set_option maxRecDepth 20000 in
theorem s4_isDigit {Y : m_Y Bool} (S : m_Std Y RX4 cX4_isDigit) (E : m_End Y cX4_isDigit .ireturn (fun r => [m_i (m_b2i r)])) {F : Nat} (hF : m_Rm Y F) (hFn : 0 ≤ F) (hN : Y.2.2.2.1 = 1) (v0 : Int) (h : m_H) : m_Sim Y 0 [(0, m_i v0)] [] h (t4_isDigit v0 h) := by
  unfold t4_isDigit
  refine ms_iload_n (pc := 0) S 0 rfl rfl (m_dec e4_isDigit 0 rfl) ?_
  refine ms_bipush (pc := 1) S (m_dec e4_isDigit 1 rfl) rfl ?_
  refine ms_icmp_lt (pc := 3) S (m_dec e4_isDigit 2 rfl) rfl (fun q1 => ?_) (fun q1 => ?_)
  · refine ms_iconst (pc := 16) S (m_dec e4_isDigit 8 rfl) ?_
    exact ms_ret (pc := 17) E (m_dec e4_isDigit 9 rfl) rfl
  · refine ms_iload_n (pc := 6) S 0 rfl rfl (m_dec e4_isDigit 3 rfl) ?_
    refine ms_bipush (pc := 7) S (m_dec e4_isDigit 4 rfl) rfl ?_
    refine ms_icmp_gt (pc := 9) S (m_dec e4_isDigit 5 rfl) rfl (fun q2 => ?_) (fun q2 => ?_)
    · refine ms_iconst (pc := 16) S (m_dec e4_isDigit 8 rfl) ?_
      exact ms_ret (pc := 17) E (m_dec e4_isDigit 9 rfl) rfl
    · refine ms_iconst (pc := 12) S (m_dec e4_isDigit 6 rfl) ?_
      refine ms_goto (pc := 13) S (m_dec e4_isDigit 7 rfl) rfl ?_
      exact ms_ret (pc := 17) E (m_dec e4_isDigit 9 rfl) rfl
theorem k4_isDigit (l : Launch) (d : m_D) (v0 : Int) (h : m_H) : m_Con l d yX4_isDigit cX4_isDigit 1 (some .boolean) 0 (fun r => [m_i (m_b2i r)]) [m_i v0] h (t4_isDigit v0 h) :=
  m_con2 (by decide +kernel) (Nat.le_of_ble_eq_true rfl) (fun Y hN hRm hr hI S hfin => s4_isDigit S (m_end_z S hr hfin) hRm (Nat.le_refl _) hN v0 h)
set_option maxRecDepth 100000 in
theorem e4_readNumber : ∀ q ∈ ([(0, .aload_n 0, 1), (1, .iload_n 1, 1), (2, .invokevirtual 87, 3), (5, .bipush 48, 2), (7, .isub, 1), (8, .istore_n 2, 1), (9, .aload_n 0, 1), (10, .getfield 84, 3), (13, .aload_n 0, 1), (14, .getfield 40, 3), (17, .if_icmp .ge 52, 3), (20, .aload_n 0, 1), (21, .aload_n 0, 1), (22, .getfield 84, 3), (25, .invokevirtual 87, 3), (28, .invokestatic 98, 3), (31, .ifCond .eq 38, 3), (34, .ldc 129, 2), (36, .iload_n 2, 1), (37, .bipush 10, 2), (39, .imul, 1), (40, .aload_n 0, 1), (41, .aload_n 0, 1), (42, .getfield 84, 3), (45, .invokevirtual 87, 3), (48, .iadd, 1), (49, .bipush 48, 2), (51, .isub, 1), (52, .invokestatic 130, 3), (55, .istore_n 2, 1), (56, .aload_n 0, 1), (57, .dup, 1), (58, .getfield 84, 3), (61, .iconst 1, 1), (62, .iadd, 1), (63, .putfield 84, 3), (66, .goto (-57), 3), (69, .aload_n 0, 1), (70, .iload_n 1, 1), (71, .bipush 25, 2), (73, .iload_n 2, 1), (74, .invokevirtual 107, 3), (77, .return_, 1)] : List (Nat × Instr × Nat)), decode cX4_readNumber q.1 = .ok q.2 := by decide +kernel
set_option maxHeartbeats 4000000 in
set_option maxRecDepth 20000 in
theorem s4_readNumber_c69 {Y : m_Y Unit} (S : m_Std Y RX4 cX4_readNumber) (E : m_End Y cX4_readNumber .return_ (fun _ => [])) {F : Nat} (hF : m_Rm Y F) (hFn : 2 ≤ F) (hN : Y.2.2.2.1 = 3) (v0 v1 v2 : Int) (h : m_H) : m_Sim Y 69 [(0, m_r v0), (1, m_i v1), (2, m_i v2)] [] h (t4_readNumber_c69 v0 v1 v2 h) := by
  unfold t4_readNumber_c69
  refine ms_aload_n (pc := 69) S 0 rfl rfl (m_dec e4_readNumber 37 rfl) ?_
  refine ms_iload_n (pc := 70) S 1 rfl rfl (m_dec e4_readNumber 38 rfl) ?_
  refine ms_bipush (pc := 71) S (m_dec e4_readNumber 39 rfl) rfl ?_
  refine ms_iload_n (pc := 73) S 2 rfl rfl (m_dec e4_readNumber 40 rfl) ?_
  refine ms_grd fun g1 => ?_
  refine ms_callVv (pc := 74) S hF (vals := [m_i v1, m_i 25, m_i v2]) (st := []) (hc := vw_4) (hci := by decide) (hcy := rfl) (ht := g1) (hC := (k4_addToken _ _ v0 v1 25 v2 h)) (hM := lm_X4_107) (hfr := (Nat.le_trans (by decide) hFn)) (hstk := rfl) (hcat := Nat.le_of_ble_eq_true rfl) (hd := (m_dec e4_readNumber 41 rfl)) (k1 := fun h2 => ?_)
  exact ms_ret (pc := 77) E (m_dec e4_readNumber 42 rfl) rfl
set_option maxHeartbeats 4000000 in
set_option maxRecDepth 20000 in
theorem s4_readNumber_c9 {Y : m_Y Unit} (S : m_Std Y RX4 cX4_readNumber) (E : m_End Y cX4_readNumber .return_ (fun _ => [])) {F : Nat} (hF : m_Rm Y F) (hFn : 2 ≤ F) (hN : Y.2.2.2.1 = 3) : ∀ (v0 v1 v2 : Int) (h : m_H), m_Sim Y 9 [(0, m_r v0), (1, m_i v1), (2, m_i v2)] [] h (t4_readNumber_c9 v0 v1 v2 h) := by
  intro v0 v1 v2 h
  refine ms_all fun r e => ?_
  refine t4_readNumber_c9.partial_correctness v0 v1 (motive := fun v2 h r => m_Sim Y 9 [(0, m_r v0), (1, m_i v1), (2, m_i v2)] [] h (some r)) ?_ v2 h r e
  intro f ih v2 h r e
  have ih : ∀ (v2 : Int) (h : m_H), m_Sim Y 9 [(0, m_r v0), (1, m_i v1), (2, m_i v2)] [] h (f v2 h ) := fun v2 h  => ms_all fun r e => ih v2 h r e
  refine ms_use ?_ e
  clear e r
  refine ms_aload_n (pc := 9) S 0 rfl rfl (m_dec e4_readNumber 6 rfl) ?_
  refine ms_grd fun g1 => ?_
  refine ms_getf (pc := 10) S lf_X4_84 rfl (m_dec e4_readNumber 7 rfl) g1 ?_
  refine ms_aload_n (pc := 13) S 0 rfl rfl (m_dec e4_readNumber 8 rfl) ?_
  refine ms_getf (pc := 14) S lf_X4_40 rfl (m_dec e4_readNumber 9 rfl) g1 ?_
  refine ms_icmp_ge (pc := 17) S (m_dec e4_readNumber 10 rfl) rfl (fun q2 => ?_) (fun q2 => ?_)
  · refine ms_aload_n (pc := 20) S 0 rfl rfl (m_dec e4_readNumber 11 rfl) ?_
    refine ms_aload_n (pc := 21) S 0 rfl rfl (m_dec e4_readNumber 12 rfl) ?_
    refine ms_getf (pc := 22) S lf_X4_84 rfl (m_dec e4_readNumber 13 rfl) g1 ?_
    refine ms_callVi (pc := 25) S hF (vals := [m_i (m_g h v0 6)]) (st := []) (hc := vw_4) (hci := by decide) (hcy := rfl) (ht := g1) (hC := (k4_byteAt _ _ v0 (m_g h v0 6) h)) (hM := lm_X4_87) (hfr := (Nat.le_trans (by decide) hFn)) (hstk := rfl) (hcat := Nat.le_of_ble_eq_true rfl) (hd := (m_dec e4_readNumber 14 rfl)) (k1 := fun r4 h3 => ?_)
    refine ms_callSz (pc := 28) S hF (vals := [m_i r4]) (st := [])  (hC := (k4_isDigit _ _ r4 h3)) (hM := lm_X4_98) (hfr := (Nat.le_trans (by decide) hFn)) (hstk := rfl) (hcat := Nat.le_of_ble_eq_true rfl) (hd := (m_dec e4_readNumber 15 rfl)) (k1 := fun r6 h5 => ?_)
    refine ms_ifb_eq (pc := 31) S (m_dec e4_readNumber 16 rfl) rfl (fun q7 => ?_) (fun q7 => ?_)
    · refine ms_ldc (pc := 34) S (n := 1000000) w_933 (m_dec e4_readNumber 17 rfl) ?_
      refine ms_iload_n (pc := 36) S 2 rfl rfl (m_dec e4_readNumber 18 rfl) ?_
      refine ms_bipush (pc := 37) S (m_dec e4_readNumber 19 rfl) rfl ?_
      refine ms_imul (pc := 39) S (m_dec e4_readNumber 20 rfl) ?_
      refine ms_aload_n (pc := 40) S 0 rfl rfl (m_dec e4_readNumber 21 rfl) ?_
      refine ms_aload_n (pc := 41) S 0 rfl rfl (m_dec e4_readNumber 22 rfl) ?_
      refine ms_grd fun g8 => ?_
      refine ms_getf (pc := 42) S lf_X4_84 rfl (m_dec e4_readNumber 23 rfl) g8 ?_
      refine ms_callVi (pc := 45) S hF (vals := [m_i (m_g h5 v0 6)]) (st := [m_i (v2 * 10), m_i 1000000]) (hc := vw_4) (hci := by decide) (hcy := rfl) (ht := g8) (hC := (k4_byteAt _ _ v0 (m_g h5 v0 6) h5)) (hM := lm_X4_87) (hfr := (Nat.le_trans (by decide) hFn)) (hstk := rfl) (hcat := Nat.le_of_ble_eq_true rfl) (hd := (m_dec e4_readNumber 24 rfl)) (k1 := fun r10 h9 => ?_)
      refine ms_iadd (pc := 48) S (m_dec e4_readNumber 25 rfl) ?_
      refine ms_bipush (pc := 49) S (m_dec e4_readNumber 26 rfl) rfl ?_
      refine ms_isub (pc := 51) S (m_dec e4_readNumber 27 rfl) ?_
      refine ms_mmin (pc := 52) S hF (Nat.le_trans (by decide) hFn) ⟨w_934, w_498, w_136, w_499⟩ (Nat.le_of_ble_eq_true rfl) (m_dec e4_readNumber 28 rfl) ?_
      refine ms_nm (st := fun x11 => [m_i x11]) fun x11 => ?_
      refine ms_istore_n (pc := 55) S (L' := [(0, m_r v0), (1, m_i v1), (2, m_i x11)]) [1, 2, 0] rfl rfl (m_lt hN rfl) (m_dec e4_readNumber 29 rfl) ?_
      refine ms_aload_n (pc := 56) S 0 rfl rfl (m_dec e4_readNumber 30 rfl) ?_
      refine ms_dup (pc := 57) S rfl (m_dec e4_readNumber 31 rfl) ?_
      refine ms_grd fun g12 => ?_
      refine ms_getf (pc := 58) S lf_X4_84 rfl (m_dec e4_readNumber 32 rfl) g12 ?_
      refine ms_iconst (pc := 61) S (m_dec e4_readNumber 33 rfl) ?_
      refine ms_iadd (pc := 62) S (m_dec e4_readNumber 34 rfl) ?_
      refine ms_putf (pc := 63) S lp_X4_84 (fun z => by cases z) rfl (fun d => m_fitI d _) (m_dec e4_readNumber 35 rfl) g12 (fun h13 => ?_)
      refine ms_goto (pc := 66) S (m_dec e4_readNumber 36 rfl) rfl ?_
      exact ih x11 h13
    · exact s4_readNumber_c69 S E hF hFn hN v0 v1 v2 h5
  · exact s4_readNumber_c69 S E hF hFn hN v0 v1 v2 h
set_option maxHeartbeats 4000000 in
set_option maxRecDepth 20000 in
theorem s4_readNumber {Y : m_Y Unit} (S : m_Std Y RX4 cX4_readNumber) (E : m_End Y cX4_readNumber .return_ (fun _ => [])) {F : Nat} (hF : m_Rm Y F) (hFn : 2 ≤ F) (hN : Y.2.2.2.1 = 3) (v0 v1 : Int) (h : m_H) : m_Sim Y 0 [(0, m_r v0), (1, m_i v1)] [] h (t4_readNumber v0 v1 h) := by
  unfold t4_readNumber
  refine ms_aload_n (pc := 0) S 0 rfl rfl (m_dec e4_readNumber 0 rfl) ?_
  refine ms_iload_n (pc := 1) S 1 rfl rfl (m_dec e4_readNumber 1 rfl) ?_
  refine ms_grd fun g1 => ?_
  refine ms_callVi (pc := 2) S hF (vals := [m_i v1]) (st := []) (hc := vw_4) (hci := by decide) (hcy := rfl) (ht := g1) (hC := (k4_byteAt _ _ v0 v1 h)) (hM := lm_X4_87) (hfr := (Nat.le_trans (by decide) hFn)) (hstk := rfl) (hcat := Nat.le_of_ble_eq_true rfl) (hd := (m_dec e4_readNumber 2 rfl)) (k1 := fun r3 h2 => ?_)
  refine ms_bipush (pc := 5) S (m_dec e4_readNumber 3 rfl) rfl ?_
  refine ms_isub (pc := 7) S (m_dec e4_readNumber 4 rfl) ?_
  refine ms_nm (st := fun x4 => [m_i x4]) fun x4 => ?_
  refine ms_istore_n (pc := 8) S (L' := [(0, m_r v0), (1, m_i v1), (2, m_i x4)]) [1, 2, 0] rfl rfl (m_lt hN rfl) (m_dec e4_readNumber 5 rfl) ?_
  exact s4_readNumber_c9 S E hF hFn hN v0 v1 x4 h2
theorem k4_readNumber (l : Launch) (d : m_D) (v0 v1 : Int) (h : m_H) : m_Con l d yX4_readNumber cX4_readNumber 3 none 2 (fun _ => []) [m_r v0, m_i v1] h (t4_readNumber v0 v1 h) :=
  m_con2 (by decide +kernel) (Nat.le_of_ble_eq_true rfl) (fun Y hN hRm hr hI S hfin => s4_readNumber S (m_end_v S hr hfin) hRm (Nat.le_refl _) hN v0 v1 h)
set_option maxRecDepth 100000 in
theorem e4_isSign : ∀ q ∈ ([(0, .iload_n 0, 1), (1, .bipush 61, 2), (3, .if_icmp .eq 27, 3), (6, .iload_n 0, 1), (7, .bipush 59, 2), (9, .if_icmp .eq 21, 3), (12, .iload_n 0, 1), (13, .bipush 47, 2), (15, .if_icmp .eq 15, 3), (18, .iload_n 0, 1), (19, .bipush 123, 2), (21, .if_icmp .eq 9, 3), (24, .iload_n 0, 1), (25, .bipush 125, 2), (27, .if_icmp .ne 7, 3), (30, .iconst 1, 1), (31, .goto 4, 3), (34, .iconst 0, 1), (35, .ireturn, 1)] : List (Nat × Instr × Nat)), decode cX4_isSign q.1 = .ok q.2 := by decide +kernel
set_option maxHeartbeats 4000000 in
set_option maxRecDepth 20000 in
theorem s4_isSign {Y : m_Y Bool} (S : m_Std Y RX4 cX4_isSign) (E : m_End Y cX4_isSign .ireturn (fun r => [m_i (m_b2i r)])) {F : Nat} (hF : m_Rm Y F) (hFn : 0 ≤ F) (hN : Y.2.2.2.1 = 1) (v0 : Int) (h : m_H) : m_Sim Y 0 [(0, m_i v0)] [] h (t4_isSign v0 h) := by
  unfold t4_isSign
  refine ms_iload_n (pc := 0) S 0 rfl rfl (m_dec e4_isSign 0 rfl) ?_
  refine ms_bipush (pc := 1) S (m_dec e4_isSign 1 rfl) rfl ?_
  refine ms_icmp_eq (pc := 3) S (m_dec e4_isSign 2 rfl) rfl (fun q1 => ?_) (fun q1 => ?_)
  · refine ms_iconst (pc := 30) S (m_dec e4_isSign 15 rfl) ?_
    refine ms_goto (pc := 31) S (m_dec e4_isSign 16 rfl) rfl ?_
    exact ms_ret (pc := 35) E (m_dec e4_isSign 18 rfl) rfl
  · refine ms_iload_n (pc := 6) S 0 rfl rfl (m_dec e4_isSign 3 rfl) ?_
    refine ms_bipush (pc := 7) S (m_dec e4_isSign 4 rfl) rfl ?_
    refine ms_icmp_eq (pc := 9) S (m_dec e4_isSign 5 rfl) rfl (fun q2 => ?_) (fun q2 => ?_)
    · refine ms_iconst (pc := 30) S (m_dec e4_isSign 15 rfl) ?_
      refine ms_goto (pc := 31) S (m_dec e4_isSign 16 rfl) rfl ?_
      exact ms_ret (pc := 35) E (m_dec e4_isSign 18 rfl) rfl
    · refine ms_iload_n (pc := 12) S 0 rfl rfl (m_dec e4_isSign 6 rfl) ?_
      refine ms_bipush (pc := 13) S (m_dec e4_isSign 7 rfl) rfl ?_
      refine ms_icmp_eq (pc := 15) S (m_dec e4_isSign 8 rfl) rfl (fun q3 => ?_) (fun q3 => ?_)
      · refine ms_iconst (pc := 30) S (m_dec e4_isSign 15 rfl) ?_
        refine ms_goto (pc := 31) S (m_dec e4_isSign 16 rfl) rfl ?_
        exact ms_ret (pc := 35) E (m_dec e4_isSign 18 rfl) rfl
      · refine ms_iload_n (pc := 18) S 0 rfl rfl (m_dec e4_isSign 9 rfl) ?_
        refine ms_bipush (pc := 19) S (m_dec e4_isSign 10 rfl) rfl ?_
        refine ms_icmp_eq (pc := 21) S (m_dec e4_isSign 11 rfl) rfl (fun q4 => ?_) (fun q4 => ?_)
        · refine ms_iconst (pc := 30) S (m_dec e4_isSign 15 rfl) ?_
          refine ms_goto (pc := 31) S (m_dec e4_isSign 16 rfl) rfl ?_
          exact ms_ret (pc := 35) E (m_dec e4_isSign 18 rfl) rfl
        · refine ms_iload_n (pc := 24) S 0 rfl rfl (m_dec e4_isSign 12 rfl) ?_
          refine ms_bipush (pc := 25) S (m_dec e4_isSign 13 rfl) rfl ?_
          refine ms_icmp_ne (pc := 27) S (m_dec e4_isSign 14 rfl) rfl (fun q5 => ?_) (fun q5 => ?_)
          · refine ms_iconst (pc := 30) S (m_dec e4_isSign 15 rfl) ?_
            refine ms_goto (pc := 31) S (m_dec e4_isSign 16 rfl) rfl ?_
            exact ms_ret (pc := 35) E (m_dec e4_isSign 18 rfl) rfl
          · refine ms_iconst (pc := 34) S (m_dec e4_isSign 17 rfl) ?_
            exact ms_ret (pc := 35) E (m_dec e4_isSign 18 rfl) rfl
theorem k4_isSign (l : Launch) (d : m_D) (v0 : Int) (h : m_H) : m_Con l d yX4_isSign cX4_isSign 1 (some .boolean) 0 (fun r => [m_i (m_b2i r)]) [m_i v0] h (t4_isSign v0 h) :=
  m_con2 (by decide +kernel) (Nat.le_of_ble_eq_true rfl) (fun Y hN hRm hr hI S hfin => s4_isSign S (m_end_z S hr hfin) hRm (Nat.le_refl _) hN v0 h)
set_option maxRecDepth 100000 in
theorem e4_readTokens : ∀ q ∈ ([(0, .aload_n 0, 1), (1, .iconst 0, 1), (2, .putfield 81, 3), (5, .aload_n 0, 1), (6, .iconst 0, 1), (7, .putfield 84, 3), (10, .aload_n 0, 1), (11, .getfield 84, 3), (14, .aload_n 0, 1), (15, .getfield 40, 3), (18, .if_icmp .ge 88, 3), (21, .aload_n 0, 1), (22, .getfield 84, 3), (25, .istore_n 1, 1), (26, .aload_n 0, 1), (27, .iload_n 1, 1), (28, .invokevirtual 87, 3), (31, .istore_n 2, 1), (32, .aload_n 0, 1), (33, .dup, 1), (34, .getfield 84, 3), (37, .iconst 1, 1), (38, .iadd, 1), (39, .putfield 84, 3), (42, .iload_n 2, 1), (43, .invokestatic 91, 3), (46, .ifCond .eq 11, 3), (49, .aload_n 0, 1), (50, .iload_n 1, 1), (51, .invokevirtual 95, 3), (54, .goto 49, 3), (57, .iload_n 2, 1), (58, .invokestatic 98, 3), (61, .ifCond .eq 11, 3), (64, .aload_n 0, 1), (65, .iload_n 1, 1), (66, .invokevirtual 101, 3), (69, .goto 34, 3), (72, .iload_n 2, 1), (73, .bipush 32, 2), (75, .if_icmp .eq 28, 3), (78, .iload_n 2, 1), (79, .bipush 10, 2), (81, .if_icmp .eq 22, 3), (84, .aload_n 0, 1), (85, .iload_n 1, 1), (86, .iload_n 2, 1), (87, .invokestatic 104, 3), (90, .ifCond .eq 7, 3), (93, .iload_n 2, 1), (94, .goto 5, 3), (97, .bipush 26, 2), (99, .iconst (-1), 1), (100, .invokevirtual 107, 3), (103, .goto (-93), 3), (106, .aload_n 0, 1), (107, .aload_n 0, 1), (108, .getfield 40, 3), (111, .bipush 27, 2), (113, .iconst (-1), 1), (114, .invokevirtual 107, 3), (117, .return_, 1)] : List (Nat × Instr × Nat)), decode cX4_readTokens q.1 = .ok q.2 := by decide +kernel
set_option maxHeartbeats 4000000 in
set_option maxRecDepth 20000 in
theorem s4_readTokens_c10 {Y : m_Y Unit} (S : m_Std Y RX4 cX4_readTokens) (E : m_End Y cX4_readTokens .return_ (fun _ => [])) {F : Nat} (hF : m_Rm Y F) (hFn : 8 ≤ F) (hN : Y.2.2.2.1 = 3) : ∀ (v0 : Int) (h : m_H), m_Sim Y 10 [(0, m_r v0)] [] h (t4_readTokens_c10 v0 h) := by
  intro v0 h
  refine ms_all fun r e => ?_
  refine t4_readTokens_c10.partial_correctness v0 (motive := fun h r => m_Sim Y 10 [(0, m_r v0)] [] h (some r)) ?_ h r e
  intro f ih h r e
  have ih : ∀ (h : m_H), m_Sim Y 10 [(0, m_r v0)] [] h (f h ) := fun h  => ms_all fun r e => ih h r e
  refine ms_use ?_ e
  clear e r
  refine ms_aload_n (pc := 10) S 0 rfl rfl (m_dec e4_readTokens 6 rfl) ?_
  refine ms_grd fun g1 => ?_
  refine ms_getf (pc := 11) S lf_X4_84 rfl (m_dec e4_readTokens 7 rfl) g1 ?_
  refine ms_aload_n (pc := 14) S 0 rfl rfl (m_dec e4_readTokens 8 rfl) ?_
  refine ms_getf (pc := 15) S lf_X4_40 rfl (m_dec e4_readTokens 9 rfl) g1 ?_
  refine ms_icmp_ge (pc := 18) S (m_dec e4_readTokens 10 rfl) rfl (fun q2 => ?_) (fun q2 => ?_)
  · refine ms_aload_n (pc := 21) S 0 rfl rfl (m_dec e4_readTokens 11 rfl) ?_
    refine ms_getf (pc := 22) S lf_X4_84 rfl (m_dec e4_readTokens 12 rfl) g1 ?_
    refine ms_nm (st := fun x3 => [m_i x3]) fun x3 => ?_
    refine ms_istore_n (pc := 25) S (L' := [(0, m_r v0), (1, m_i x3)]) [1, 0] rfl rfl (m_lt hN rfl) (m_dec e4_readTokens 13 rfl) ?_
    refine ms_aload_n (pc := 26) S 0 rfl rfl (m_dec e4_readTokens 14 rfl) ?_
    refine ms_iload_n (pc := 27) S 1 rfl rfl (m_dec e4_readTokens 15 rfl) ?_
    refine ms_callVi (pc := 28) S hF (vals := [m_i x3]) (st := []) (hc := vw_4) (hci := by decide) (hcy := rfl) (ht := g1) (hC := (k4_byteAt _ _ v0 x3 h)) (hM := lm_X4_87) (hfr := (Nat.le_trans (by decide) hFn)) (hstk := rfl) (hcat := Nat.le_of_ble_eq_true rfl) (hd := (m_dec e4_readTokens 16 rfl)) (k1 := fun r5 h4 => ?_)
    refine ms_istore_n (pc := 31) S (L' := [(0, m_r v0), (1, m_i x3), (2, m_i r5)]) [1, 2, 0] rfl rfl (m_lt hN rfl) (m_dec e4_readTokens 17 rfl) ?_
    refine ms_aload_n (pc := 32) S 0 rfl rfl (m_dec e4_readTokens 18 rfl) ?_
    refine ms_dup (pc := 33) S rfl (m_dec e4_readTokens 19 rfl) ?_
    refine ms_grd fun g6 => ?_
    refine ms_getf (pc := 34) S lf_X4_84 rfl (m_dec e4_readTokens 20 rfl) g6 ?_
    refine ms_iconst (pc := 37) S (m_dec e4_readTokens 21 rfl) ?_
    refine ms_iadd (pc := 38) S (m_dec e4_readTokens 22 rfl) ?_
    refine ms_putf (pc := 39) S lp_X4_84 (fun z => by cases z) rfl (fun d => m_fitI d _) (m_dec e4_readTokens 23 rfl) g6 (fun h7 => ?_)
    refine ms_iload_n (pc := 42) S 2 rfl rfl (m_dec e4_readTokens 24 rfl) ?_
    refine ms_callSz (pc := 43) S hF (vals := [m_i r5]) (st := [])  (hC := (k4_isLetter _ _ r5 h7)) (hM := lm_X4_91) (hfr := (Nat.le_trans (by decide) hFn)) (hstk := rfl) (hcat := Nat.le_of_ble_eq_true rfl) (hd := (m_dec e4_readTokens 25 rfl)) (k1 := fun r9 h8 => ?_)
    refine ms_ifb_eq (pc := 46) S (m_dec e4_readTokens 26 rfl) rfl (fun q10 => ?_) (fun q10 => ?_)
    · refine ms_aload_n (pc := 49) S 0 rfl rfl (m_dec e4_readTokens 27 rfl) ?_
      refine ms_iload_n (pc := 50) S 1 rfl rfl (m_dec e4_readTokens 28 rfl) ?_
      refine ms_grd fun g11 => ?_
      refine ms_callVv (pc := 51) S hF (vals := [m_i x3]) (st := []) (hc := vw_4) (hci := by decide) (hcy := rfl) (ht := g11) (hC := (k4_readWord _ _ v0 x3 h8)) (hM := lm_X4_95) (hfr := (Nat.le_trans (by decide) hFn)) (hstk := rfl) (hcat := Nat.le_of_ble_eq_true rfl) (hd := (m_dec e4_readTokens 29 rfl)) (k1 := fun h12 => ?_)
      refine ms_goto (pc := 54) S (m_dec e4_readTokens 30 rfl) rfl ?_
      refine ms_goto (pc := 103) S (m_dec e4_readTokens 54 rfl) rfl ?_
      refine ms_sub (pc := 10) (L' := [(0, m_r v0)]) [0] rfl ?_
      exact ih h12
    · refine ms_iload_n (pc := 57) S 2 rfl rfl (m_dec e4_readTokens 31 rfl) ?_
      refine ms_callSz (pc := 58) S hF (vals := [m_i r5]) (st := [])  (hC := (k4_isDigit _ _ r5 h8)) (hM := lm_X4_98) (hfr := (Nat.le_trans (by decide) hFn)) (hstk := rfl) (hcat := Nat.le_of_ble_eq_true rfl) (hd := (m_dec e4_readTokens 32 rfl)) (k1 := fun r15 h14 => ?_)
      refine ms_ifb_eq (pc := 61) S (m_dec e4_readTokens 33 rfl) rfl (fun q16 => ?_) (fun q16 => ?_)
      · refine ms_aload_n (pc := 64) S 0 rfl rfl (m_dec e4_readTokens 34 rfl) ?_
        refine ms_iload_n (pc := 65) S 1 rfl rfl (m_dec e4_readTokens 35 rfl) ?_
        refine ms_grd fun g17 => ?_
        refine ms_callVv (pc := 66) S hF (vals := [m_i x3]) (st := []) (hc := vw_4) (hci := by decide) (hcy := rfl) (ht := g17) (hC := (k4_readNumber _ _ v0 x3 h14)) (hM := lm_X4_101) (hfr := (Nat.le_trans (by decide) hFn)) (hstk := rfl) (hcat := Nat.le_of_ble_eq_true rfl) (hd := (m_dec e4_readTokens 36 rfl)) (k1 := fun h18 => ?_)
        refine ms_goto (pc := 69) S (m_dec e4_readTokens 37 rfl) rfl ?_
        refine ms_goto (pc := 103) S (m_dec e4_readTokens 54 rfl) rfl ?_
        refine ms_sub (pc := 10) (L' := [(0, m_r v0)]) [0] rfl ?_
        exact ih h18
      · refine ms_iload_n (pc := 72) S 2 rfl rfl (m_dec e4_readTokens 38 rfl) ?_
        refine ms_bipush (pc := 73) S (m_dec e4_readTokens 39 rfl) rfl ?_
        refine ms_icmp_eq (pc := 75) S (m_dec e4_readTokens 40 rfl) rfl (fun q20 => ?_) (fun q20 => ?_)
        · refine ms_goto (pc := 103) S (m_dec e4_readTokens 54 rfl) rfl ?_
          refine ms_sub (pc := 10) (L' := [(0, m_r v0)]) [0] rfl ?_
          exact ih h14
        · refine ms_iload_n (pc := 78) S 2 rfl rfl (m_dec e4_readTokens 41 rfl) ?_
          refine ms_bipush (pc := 79) S (m_dec e4_readTokens 42 rfl) rfl ?_
          refine ms_icmp_eq (pc := 81) S (m_dec e4_readTokens 43 rfl) rfl (fun q21 => ?_) (fun q21 => ?_)
          · refine ms_goto (pc := 103) S (m_dec e4_readTokens 54 rfl) rfl ?_
            refine ms_sub (pc := 10) (L' := [(0, m_r v0)]) [0] rfl ?_
            exact ih h14
          · refine ms_aload_n (pc := 84) S 0 rfl rfl (m_dec e4_readTokens 44 rfl) ?_
            refine ms_iload_n (pc := 85) S 1 rfl rfl (m_dec e4_readTokens 45 rfl) ?_
            refine ms_iload_n (pc := 86) S 2 rfl rfl (m_dec e4_readTokens 46 rfl) ?_
            refine ms_callSz (pc := 87) S hF (vals := [m_i r5]) (st := [m_i x3, m_r v0])  (hC := (k4_isSign _ _ r5 h14)) (hM := lm_X4_104) (hfr := (Nat.le_trans (by decide) hFn)) (hstk := rfl) (hcat := Nat.le_of_ble_eq_true rfl) (hd := (m_dec e4_readTokens 47 rfl)) (k1 := fun r23 h22 => ?_)
            refine ms_ifb_eq (pc := 90) S (m_dec e4_readTokens 48 rfl) rfl (fun q24 => ?_) (fun q24 => ?_)
            · refine ms_iload_n (pc := 93) S 2 rfl rfl (m_dec e4_readTokens 49 rfl) ?_
              refine ms_goto (pc := 94) S (m_dec e4_readTokens 50 rfl) rfl ?_
              refine ms_iconst (pc := 99) S (m_dec e4_readTokens 52 rfl) ?_
              refine ms_grd fun g25 => ?_
              refine ms_callVv (pc := 100) S hF (vals := [m_i x3, m_i r5, m_i (-1)]) (st := []) (hc := vw_4) (hci := by decide) (hcy := rfl) (ht := g25) (hC := (k4_addToken _ _ v0 x3 r5 (-1) h22)) (hM := lm_X4_107) (hfr := (Nat.le_trans (by decide) hFn)) (hstk := rfl) (hcat := Nat.le_of_ble_eq_true rfl) (hd := (m_dec e4_readTokens 53 rfl)) (k1 := fun h26 => ?_)
              refine ms_goto (pc := 103) S (m_dec e4_readTokens 54 rfl) rfl ?_
              refine ms_sub (pc := 10) (L' := [(0, m_r v0)]) [0] rfl ?_
              exact ih h26
            · refine ms_bipush (pc := 97) S (m_dec e4_readTokens 51 rfl) rfl ?_
              refine ms_iconst (pc := 99) S (m_dec e4_readTokens 52 rfl) ?_
              refine ms_grd fun g28 => ?_
              refine ms_callVv (pc := 100) S hF (vals := [m_i x3, m_i 26, m_i (-1)]) (st := []) (hc := vw_4) (hci := by decide) (hcy := rfl) (ht := g28) (hC := (k4_addToken _ _ v0 x3 26 (-1) h22)) (hM := lm_X4_107) (hfr := (Nat.le_trans (by decide) hFn)) (hstk := rfl) (hcat := Nat.le_of_ble_eq_true rfl) (hd := (m_dec e4_readTokens 53 rfl)) (k1 := fun h29 => ?_)
              refine ms_goto (pc := 103) S (m_dec e4_readTokens 54 rfl) rfl ?_
              refine ms_sub (pc := 10) (L' := [(0, m_r v0)]) [0] rfl ?_
              exact ih h29
  · refine ms_aload_n (pc := 106) S 0 rfl rfl (m_dec e4_readTokens 55 rfl) ?_
    refine ms_aload_n (pc := 107) S 0 rfl rfl (m_dec e4_readTokens 56 rfl) ?_
    refine ms_getf (pc := 108) S lf_X4_40 rfl (m_dec e4_readTokens 57 rfl) g1 ?_
    refine ms_bipush (pc := 111) S (m_dec e4_readTokens 58 rfl) rfl ?_
    refine ms_iconst (pc := 113) S (m_dec e4_readTokens 59 rfl) ?_
    refine ms_callVv (pc := 114) S hF (vals := [m_i (m_g h v0 1), m_i 27, m_i (-1)]) (st := []) (hc := vw_4) (hci := by decide) (hcy := rfl) (ht := g1) (hC := (k4_addToken _ _ v0 (m_g h v0 1) 27 (-1) h)) (hM := lm_X4_107) (hfr := (Nat.le_trans (by decide) hFn)) (hstk := rfl) (hcat := Nat.le_of_ble_eq_true rfl) (hd := (m_dec e4_readTokens 60 rfl)) (k1 := fun h31 => ?_)
    exact ms_ret (pc := 117) E (m_dec e4_readTokens 61 rfl) rfl
set_option maxHeartbeats 4000000 in
set_option maxRecDepth 20000 in
theorem s4_readTokens {Y : m_Y Unit} (S : m_Std Y RX4 cX4_readTokens) (E : m_End Y cX4_readTokens .return_ (fun _ => [])) {F : Nat} (hF : m_Rm Y F) (hFn : 8 ≤ F) (hN : Y.2.2.2.1 = 3) (v0 : Int) (h : m_H) : m_Sim Y 0 [(0, m_r v0)] [] h (t4_readTokens v0 h) := by
  unfold t4_readTokens
  refine ms_aload_n (pc := 0) S 0 rfl rfl (m_dec e4_readTokens 0 rfl) ?_
  refine ms_iconst (pc := 1) S (m_dec e4_readTokens 1 rfl) ?_
  refine ms_grd fun g1 => ?_
  refine ms_putf (pc := 2) S lp_X4_81 (fun z => by cases z) rfl (fun d => m_fitI d _) (m_dec e4_readTokens 2 rfl) g1 (fun h2 => ?_)
  refine ms_aload_n (pc := 5) S 0 rfl rfl (m_dec e4_readTokens 3 rfl) ?_
  refine ms_iconst (pc := 6) S (m_dec e4_readTokens 4 rfl) ?_
  refine ms_grd fun g3 => ?_
  refine ms_putf (pc := 7) S lp_X4_84 (fun z => by cases z) rfl (fun d => m_fitI d _) (m_dec e4_readTokens 5 rfl) g3 (fun h4 => ?_)
  exact s4_readTokens_c10 S E hF hFn hN v0 h4
theorem k4_readTokens (l : Launch) (d : m_D) (v0 : Int) (h : m_H) : m_Con l d yX4_readTokens cX4_readTokens 3 none 8 (fun _ => []) [m_r v0] h (t4_readTokens v0 h) :=
  m_con2 (by decide +kernel) (Nat.le_of_ble_eq_true rfl) (fun Y hN hRm hr hI S hfin => s4_readTokens S (m_end_v S hr hfin) hRm (Nat.le_refl _) hN v0 h)
set_option maxRecDepth 100000 in
theorem e4_kind : ∀ q ∈ ([(0, .aload_n 0, 1), (1, .getfield 47, 3), (4, .ifCond .lt 27, 3), (7, .aload_n 0, 1), (8, .getfield 47, 3), (11, .aload_n 0, 1), (12, .getfield 18, 3), (15, .arraylength, 1), (16, .if_icmp .ge 15, 3), (19, .aload_n 0, 1), (20, .getfield 18, 3), (23, .aload_n 0, 1), (24, .getfield 47, 3), (27, .iaload, 1), (28, .goto 5, 3), (31, .bipush 27, 2), (33, .ireturn, 1)] : List (Nat × Instr × Nat)), decode cX4_kind q.1 = .ok q.2 := by decide +kernel
set_option maxHeartbeats 4000000 in
set_option maxRecDepth 20000 in
theorem s4_kind {Y : m_Y Int} (S : m_Std Y RX4 cX4_kind) (E : m_End Y cX4_kind .ireturn (fun r => [m_i r])) {F : Nat} (hF : m_Rm Y F) (hFn : 0 ≤ F) (hN : Y.2.2.2.1 = 1) (v0 : Int) (h : m_H) : m_Sim Y 0 [(0, m_r v0)] [] h (t4_kind v0 h) := by
  unfold t4_kind
  refine ms_aload_n (pc := 0) S 0 rfl rfl (m_dec e4_kind 0 rfl) ?_
  refine ms_grd fun g1 => ?_
  refine ms_getf (pc := 1) S lf_X4_47 rfl (m_dec e4_kind 1 rfl) g1 ?_
  refine ms_if_lt (pc := 4) S (m_dec e4_kind 2 rfl) rfl (fun q2 => ?_) (fun q2 => ?_)
  · refine ms_bipush (pc := 31) S (m_dec e4_kind 15 rfl) rfl ?_
    exact ms_ret (pc := 33) E (m_dec e4_kind 16 rfl) rfl
  · refine ms_aload_n (pc := 7) S 0 rfl rfl (m_dec e4_kind 3 rfl) ?_
    refine ms_getf (pc := 8) S lf_X4_47 rfl (m_dec e4_kind 4 rfl) g1 ?_
    refine ms_aload_n (pc := 11) S 0 rfl rfl (m_dec e4_kind 5 rfl) ?_
    refine ms_getf (pc := 12) S lf_X4_18 rfl (m_dec e4_kind 6 rfl) g1 ?_
    refine ms_grd fun g3 => ?_
    refine ms_alen (pc := 15) S g3 (m_dec e4_kind 7 rfl) ?_
    refine ms_icmp_ge (pc := 16) S (m_dec e4_kind 8 rfl) rfl (fun q4 => ?_) (fun q4 => ?_)
    · refine ms_aload_n (pc := 19) S 0 rfl rfl (m_dec e4_kind 9 rfl) ?_
      refine ms_getf (pc := 20) S lf_X4_18 rfl (m_dec e4_kind 10 rfl) g1 ?_
      refine ms_aload_n (pc := 23) S 0 rfl rfl (m_dec e4_kind 11 rfl) ?_
      refine ms_getf (pc := 24) S lf_X4_47 rfl (m_dec e4_kind 12 rfl) g1 ?_
      refine ms_grd fun g5 => ?_
      refine ms_iald (pc := 27) S g5 (m_dec e4_kind 13 rfl) ?_
      refine ms_goto (pc := 28) S (m_dec e4_kind 14 rfl) rfl ?_
      exact ms_ret (pc := 33) E (m_dec e4_kind 16 rfl) rfl
    · refine ms_bipush (pc := 31) S (m_dec e4_kind 15 rfl) rfl ?_
      exact ms_ret (pc := 33) E (m_dec e4_kind 16 rfl) rfl
theorem k4_kind (l : Launch) (d : m_D) (v0 : Int) (h : m_H) : m_Con l d yX4_kind cX4_kind 1 (some .int) 0 (fun r => [m_i r]) [m_r v0] h (t4_kind v0 h) :=
  m_con2 (by decide +kernel) (Nat.le_of_ble_eq_true rfl) (fun Y hN hRm hr hI S hfin => s4_kind S (m_end_i S hr hfin) hRm (Nat.le_refl _) hN v0 h)
set_option maxRecDepth 100000 in
theorem e4_value : ∀ q ∈ ([(0, .aload_n 0, 1), (1, .getfield 47, 3), (4, .ifCond .lt 27, 3), (7, .aload_n 0, 1), (8, .getfield 47, 3), (11, .aload_n 0, 1), (12, .getfield 21, 3), (15, .arraylength, 1), (16, .if_icmp .ge 15, 3), (19, .aload_n 0, 1), (20, .getfield 21, 3), (23, .aload_n 0, 1), (24, .getfield 47, 3), (27, .iaload, 1), (28, .goto 4, 3), (31, .iconst (-1), 1), (32, .ireturn, 1)] : List (Nat × Instr × Nat)), decode cX4_value q.1 = .ok q.2 := by decide +kernel
set_option maxHeartbeats 4000000 in
set_option maxRecDepth 20000 in
theorem s4_value {Y : m_Y Int} (S : m_Std Y RX4 cX4_value) (E : m_End Y cX4_value .ireturn (fun r => [m_i r])) {F : Nat} (hF : m_Rm Y F) (hFn : 0 ≤ F) (hN : Y.2.2.2.1 = 1) (v0 : Int) (h : m_H) : m_Sim Y 0 [(0, m_r v0)] [] h (t4_value v0 h) := by
  unfold t4_value
  refine ms_aload_n (pc := 0) S 0 rfl rfl (m_dec e4_value 0 rfl) ?_
  refine ms_grd fun g1 => ?_
  refine ms_getf (pc := 1) S lf_X4_47 rfl (m_dec e4_value 1 rfl) g1 ?_
  refine ms_if_lt (pc := 4) S (m_dec e4_value 2 rfl) rfl (fun q2 => ?_) (fun q2 => ?_)
  · refine ms_iconst (pc := 31) S (m_dec e4_value 15 rfl) ?_
    exact ms_ret (pc := 32) E (m_dec e4_value 16 rfl) rfl
  · refine ms_aload_n (pc := 7) S 0 rfl rfl (m_dec e4_value 3 rfl) ?_
    refine ms_getf (pc := 8) S lf_X4_47 rfl (m_dec e4_value 4 rfl) g1 ?_
    refine ms_aload_n (pc := 11) S 0 rfl rfl (m_dec e4_value 5 rfl) ?_
    refine ms_getf (pc := 12) S lf_X4_21 rfl (m_dec e4_value 6 rfl) g1 ?_
    refine ms_grd fun g3 => ?_
    refine ms_alen (pc := 15) S g3 (m_dec e4_value 7 rfl) ?_
    refine ms_icmp_ge (pc := 16) S (m_dec e4_value 8 rfl) rfl (fun q4 => ?_) (fun q4 => ?_)
    · refine ms_aload_n (pc := 19) S 0 rfl rfl (m_dec e4_value 9 rfl) ?_
      refine ms_getf (pc := 20) S lf_X4_21 rfl (m_dec e4_value 10 rfl) g1 ?_
      refine ms_aload_n (pc := 23) S 0 rfl rfl (m_dec e4_value 11 rfl) ?_
      refine ms_getf (pc := 24) S lf_X4_47 rfl (m_dec e4_value 12 rfl) g1 ?_
      refine ms_grd fun g5 => ?_
      refine ms_iald (pc := 27) S g5 (m_dec e4_value 13 rfl) ?_
      refine ms_goto (pc := 28) S (m_dec e4_value 14 rfl) rfl ?_
      exact ms_ret (pc := 32) E (m_dec e4_value 16 rfl) rfl
    · refine ms_iconst (pc := 31) S (m_dec e4_value 15 rfl) ?_
      exact ms_ret (pc := 32) E (m_dec e4_value 16 rfl) rfl
theorem k4_value (l : Launch) (d : m_D) (v0 : Int) (h : m_H) : m_Con l d yX4_value cX4_value 1 (some .int) 0 (fun r => [m_i r]) [m_r v0] h (t4_value v0 h) :=
  m_con2 (by decide +kernel) (Nat.le_of_ble_eq_true rfl) (fun Y hN hRm hr hI S hfin => s4_value S (m_end_i S hr hfin) hRm (Nat.le_refl _) hN v0 h)
set_option maxRecDepth 100000 in
theorem e4_isNumber : ∀ q ∈ ([(0, .aload_n 0, 1), (1, .invokevirtual 53, 3), (4, .bipush 25, 2), (6, .if_icmp .ne 23, 3), (9, .aload_n 0, 1), (10, .invokevirtual 136, 3), (13, .iload_n 1, 1), (14, .if_icmp .lt 15, 3), (17, .aload_n 0, 1), (18, .invokevirtual 136, 3), (21, .iload_n 2, 1), (22, .if_icmp .gt 7, 3), (25, .iconst 1, 1), (26, .goto 4, 3), (29, .iconst 0, 1), (30, .ireturn, 1)] : List (Nat × Instr × Nat)), decode cX4_isNumber q.1 = .ok q.2 := by decide +kernel
set_option maxHeartbeats 4000000 in
set_option maxRecDepth 20000 in
theorem s4_isNumber {Y : m_Y Bool} (S : m_Std Y RX4 cX4_isNumber) (E : m_End Y cX4_isNumber .ireturn (fun r => [m_i (m_b2i r)])) {F : Nat} (hF : m_Rm Y F) (hFn : 1 ≤ F) (hN : Y.2.2.2.1 = 3) (v0 v1 v2 : Int) (h : m_H) : m_Sim Y 0 [(0, m_r v0), (1, m_i v1), (2, m_i v2)] [] h (t4_isNumber v0 v1 v2 h) := by
  unfold t4_isNumber
  refine ms_aload_n (pc := 0) S 0 rfl rfl (m_dec e4_isNumber 0 rfl) ?_
  refine ms_grd fun g1 => ?_
  refine ms_callVi (pc := 1) S hF (vals := []) (st := []) (hc := vw_4) (hci := by decide) (hcy := rfl) (ht := g1) (hC := (k4_kind _ _ v0 h)) (hM := lm_X4_53) (hfr := (Nat.le_trans (by decide) hFn)) (hstk := rfl) (hcat := Nat.le_of_ble_eq_true rfl) (hd := (m_dec e4_isNumber 1 rfl)) (k1 := fun r3 h2 => ?_)
  refine ms_bipush (pc := 4) S (m_dec e4_isNumber 2 rfl) rfl ?_
  refine ms_icmp_ne (pc := 6) S (m_dec e4_isNumber 3 rfl) rfl (fun q4 => ?_) (fun q4 => ?_)
  · refine ms_aload_n (pc := 9) S 0 rfl rfl (m_dec e4_isNumber 4 rfl) ?_
    refine ms_grd fun g5 => ?_
    refine ms_callVi (pc := 10) S hF (vals := []) (st := []) (hc := vw_4) (hci := by decide) (hcy := rfl) (ht := g5) (hC := (k4_value _ _ v0 h2)) (hM := lm_X4_136) (hfr := (Nat.le_trans (by decide) hFn)) (hstk := rfl) (hcat := Nat.le_of_ble_eq_true rfl) (hd := (m_dec e4_isNumber 5 rfl)) (k1 := fun r7 h6 => ?_)
    refine ms_iload_n (pc := 13) S 1 rfl rfl (m_dec e4_isNumber 6 rfl) ?_
    refine ms_icmp_lt (pc := 14) S (m_dec e4_isNumber 7 rfl) rfl (fun q8 => ?_) (fun q8 => ?_)
    · refine ms_iconst (pc := 29) S (m_dec e4_isNumber 14 rfl) ?_
      exact ms_ret (pc := 30) E (m_dec e4_isNumber 15 rfl) rfl
    · refine ms_aload_n (pc := 17) S 0 rfl rfl (m_dec e4_isNumber 8 rfl) ?_
      refine ms_grd fun g9 => ?_
      refine ms_callVi (pc := 18) S hF (vals := []) (st := []) (hc := vw_4) (hci := by decide) (hcy := rfl) (ht := g9) (hC := (k4_value _ _ v0 h6)) (hM := lm_X4_136) (hfr := (Nat.le_trans (by decide) hFn)) (hstk := rfl) (hcat := Nat.le_of_ble_eq_true rfl) (hd := (m_dec e4_isNumber 9 rfl)) (k1 := fun r11 h10 => ?_)
      refine ms_iload_n (pc := 21) S 2 rfl rfl (m_dec e4_isNumber 10 rfl) ?_
      refine ms_icmp_gt (pc := 22) S (m_dec e4_isNumber 11 rfl) rfl (fun q12 => ?_) (fun q12 => ?_)
      · refine ms_iconst (pc := 29) S (m_dec e4_isNumber 14 rfl) ?_
        exact ms_ret (pc := 30) E (m_dec e4_isNumber 15 rfl) rfl
      · refine ms_iconst (pc := 25) S (m_dec e4_isNumber 12 rfl) ?_
        refine ms_goto (pc := 26) S (m_dec e4_isNumber 13 rfl) rfl ?_
        exact ms_ret (pc := 30) E (m_dec e4_isNumber 15 rfl) rfl
  · refine ms_iconst (pc := 29) S (m_dec e4_isNumber 14 rfl) ?_
    exact ms_ret (pc := 30) E (m_dec e4_isNumber 15 rfl) rfl
theorem k4_isNumber (l : Launch) (d : m_D) (v0 v1 v2 : Int) (h : m_H) : m_Con l d yX4_isNumber cX4_isNumber 3 (some .boolean) 1 (fun r => [m_i (m_b2i r)]) [m_r v0, m_i v1, m_i v2] h (t4_isNumber v0 v1 v2 h) :=
  m_con2 (by decide +kernel) (Nat.le_of_ble_eq_true rfl) (fun Y hN hRm hr hI S hfin => s4_isNumber S (m_end_z S hr hfin) hRm (Nat.le_refl _) hN v0 v1 v2 h)
set_option maxRecDepth 100000 in
theorem e4_pass : ∀ q ∈ ([(0, .aload_n 0, 1), (1, .invokevirtual 53, 3), (4, .iload_n 1, 1), (5, .if_icmp .eq 5, 3), (8, .iconst 0, 1), (9, .ireturn, 1), (10, .aload_n 0, 1), (11, .dup, 1), (12, .getfield 47, 3), (15, .iconst 1, 1), (16, .iadd, 1), (17, .putfield 47, 3), (20, .iconst 1, 1), (21, .ireturn, 1)] : List (Nat × Instr × Nat)), decode cX4_pass q.1 = .ok q.2 := by decide +kernel
set_option maxHeartbeats 4000000 in
set_option maxRecDepth 20000 in
theorem s4_pass {Y : m_Y Bool} (S : m_Std Y RX4 cX4_pass) (E : m_End Y cX4_pass .ireturn (fun r => [m_i (m_b2i r)])) {F : Nat} (hF : m_Rm Y F) (hFn : 1 ≤ F) (hN : Y.2.2.2.1 = 2) (v0 v1 : Int) (h : m_H) : m_Sim Y 0 [(0, m_r v0), (1, m_i v1)] [] h (t4_pass v0 v1 h) := by
  unfold t4_pass
  refine ms_aload_n (pc := 0) S 0 rfl rfl (m_dec e4_pass 0 rfl) ?_
  refine ms_grd fun g1 => ?_
  refine ms_callVi (pc := 1) S hF (vals := []) (st := []) (hc := vw_4) (hci := by decide) (hcy := rfl) (ht := g1) (hC := (k4_kind _ _ v0 h)) (hM := lm_X4_53) (hfr := (Nat.le_trans (by decide) hFn)) (hstk := rfl) (hcat := Nat.le_of_ble_eq_true rfl) (hd := (m_dec e4_pass 1 rfl)) (k1 := fun r3 h2 => ?_)
  refine ms_iload_n (pc := 4) S 1 rfl rfl (m_dec e4_pass 2 rfl) ?_
  refine ms_icmp_eq (pc := 5) S (m_dec e4_pass 3 rfl) rfl (fun q4 => ?_) (fun q4 => ?_)
  · refine ms_aload_n (pc := 10) S 0 rfl rfl (m_dec e4_pass 6 rfl) ?_
    refine ms_dup (pc := 11) S rfl (m_dec e4_pass 7 rfl) ?_
    refine ms_grd fun g5 => ?_
    refine ms_getf (pc := 12) S lf_X4_47 rfl (m_dec e4_pass 8 rfl) g5 ?_
    refine ms_iconst (pc := 15) S (m_dec e4_pass 9 rfl) ?_
    refine ms_iadd (pc := 16) S (m_dec e4_pass 10 rfl) ?_
    refine ms_putf (pc := 17) S lp_X4_47 (fun z => by cases z) rfl (fun d => m_fitI d _) (m_dec e4_pass 11 rfl) g5 (fun h6 => ?_)
    refine ms_iconst (pc := 20) S (m_dec e4_pass 12 rfl) ?_
    exact ms_ret (pc := 21) E (m_dec e4_pass 13 rfl) rfl
  · refine ms_iconst (pc := 8) S (m_dec e4_pass 4 rfl) ?_
    exact ms_ret (pc := 9) E (m_dec e4_pass 5 rfl) rfl
theorem k4_pass (l : Launch) (d : m_D) (v0 v1 : Int) (h : m_H) : m_Con l d yX4_pass cX4_pass 2 (some .boolean) 1 (fun r => [m_i (m_b2i r)]) [m_r v0, m_i v1] h (t4_pass v0 v1 h) :=
  m_con2 (by decide +kernel) (Nat.le_of_ble_eq_true rfl) (fun Y hN hRm hr hI S hfin => s4_pass S (m_end_z S hr hfin) hRm (Nat.le_refl _) hN v0 v1 h)
set_option maxRecDepth 100000 in
theorem e4_setCell : ∀ q ∈ ([(0, .aload_n 0, 1), (1, .getfield 29, 3), (4, .getfield 72, 3), (7, .aload_n 0, 1), (8, .getfield 29, 3), (11, .getfield 50, 3), (14, .bipush 8, 2), (16, .imul, 1), (17, .iload_n 1, 1), (18, .iadd, 1), (19, .iload_n 2, 1), (20, .invokestatic 111, 3), (23, .return_, 1)] : List (Nat × Instr × Nat)), decode cX4_setCell q.1 = .ok q.2 := by decide +kernel
set_option maxHeartbeats 4000000 in
set_option maxRecDepth 20000 in
theorem s4_setCell {Y : m_Y Unit} (S : m_Std Y RX4 cX4_setCell) (E : m_End Y cX4_setCell .return_ (fun _ => [])) {F : Nat} (hF : m_Rm Y F) (hFn : 1 ≤ F) (hN : Y.2.2.2.1 = 3) (v0 v1 v2 : Int) (h : m_H) : m_Sim Y 0 [(0, m_r v0), (1, m_i v1), (2, m_i v2)] [] h (t4_setCell v0 v1 v2 h) := by
  unfold t4_setCell
  refine ms_aload_n (pc := 0) S 0 rfl rfl (m_dec e4_setCell 0 rfl) ?_
  refine ms_grd fun g1 => ?_
  refine ms_getf (pc := 1) S lf_X4_29 rfl (m_dec e4_setCell 1 rfl) g1 ?_
  refine ms_grd fun g2 => ?_
  refine ms_getf (pc := 4) S lf_X4_72 rfl (m_dec e4_setCell 2 rfl) g2 ?_
  refine ms_aload_n (pc := 7) S 0 rfl rfl (m_dec e4_setCell 3 rfl) ?_
  refine ms_getf (pc := 8) S lf_X4_29 rfl (m_dec e4_setCell 4 rfl) g1 ?_
  refine ms_getf (pc := 11) S lf_X4_50 rfl (m_dec e4_setCell 5 rfl) g2 ?_
  refine ms_bipush (pc := 14) S (m_dec e4_setCell 6 rfl) rfl ?_
  refine ms_imul (pc := 16) S (m_dec e4_setCell 7 rfl) ?_
  refine ms_iload_n (pc := 17) S 1 rfl rfl (m_dec e4_setCell 8 rfl) ?_
  refine ms_iadd (pc := 18) S (m_dec e4_setCell 9 rfl) ?_
  refine ms_iload_n (pc := 19) S 2 rfl rfl (m_dec e4_setCell 10 rfl) ?_
  refine ms_callSv (pc := 20) S hF (vals := [m_r (m_g h (m_g h v0 8) 0), m_i (((m_g h (m_g h v0 8) 1) * 8) + v1), m_i v2]) (st := [])  (hC := (k10_setEntry _ _ (m_g h (m_g h v0 8) 0) (((m_g h (m_g h v0 8) 1) * 8) + v1) v2 h)) (hM := lm_X4_111) (hfr := (Nat.le_trans (by decide) hFn)) (hstk := rfl) (hcat := Nat.le_of_ble_eq_true rfl) (hd := (m_dec e4_setCell 11 rfl)) (k1 := fun h3 => ?_)
  exact ms_ret (pc := 23) E (m_dec e4_setCell 12 rfl) rfl
theorem k4_setCell (l : Launch) (d : m_D) (v0 v1 v2 : Int) (h : m_H) : m_Con l d yX4_setCell cX4_setCell 3 none 1 (fun _ => []) [m_r v0, m_i v1, m_i v2] h (t4_setCell v0 v1 v2 h) :=
  m_con2 (by decide +kernel) (Nat.le_of_ble_eq_true rfl) (fun Y hN hRm hr hI S hfin => s4_setCell S (m_end_v S hr hfin) hRm (Nat.le_refl _) hN v0 v1 v2 h)
set_option maxRecDepth 100000 in
theorem e4_beginOrder : ∀ q ∈ ([(0, .aload_n 0, 1), (1, .iconst 0, 1), (2, .iload_n 1, 1), (3, .invokevirtual 145, 3), (6, .aload_n 0, 1), (7, .iconst 1, 1), (8, .iconst (-1), 1), (9, .invokevirtual 145, 3), (12, .aload_n 0, 1), (13, .iconst 2, 1), (14, .iconst (-1), 1), (15, .invokevirtual 145, 3), (18, .aload_n 0, 1), (19, .bipush 6, 2), (21, .iconst 0, 1), (22, .invokevirtual 145, 3), (25, .aload_n 0, 1), (26, .bipush 7, 2), (28, .iconst 0, 1), (29, .invokevirtual 145, 3), (32, .aload_n 0, 1), (33, .getfield 33, 3), (36, .aload_n 0, 1), (37, .getfield 29, 3), (40, .getfield 50, 3), (43, .iload_n 2, 1), (44, .invokestatic 111, 3), (47, .aload_n 0, 1), (48, .iconst 0, 1), (49, .putfield 142, 3), (52, .return_, 1)] : List (Nat × Instr × Nat)), decode cX4_beginOrder q.1 = .ok q.2 := by decide +kernel
set_option maxHeartbeats 4000000 in
set_option maxRecDepth 20000 in
theorem s4_beginOrder {Y : m_Y Unit} (S : m_Std Y RX4 cX4_beginOrder) (E : m_End Y cX4_beginOrder .return_ (fun _ => [])) {F : Nat} (hF : m_Rm Y F) (hFn : 2 ≤ F) (hN : Y.2.2.2.1 = 3) (v0 v1 v2 : Int) (h : m_H) : m_Sim Y 0 [(0, m_r v0), (1, m_i v1), (2, m_i v2)] [] h (t4_beginOrder v0 v1 v2 h) := by
  unfold t4_beginOrder
  refine ms_aload_n (pc := 0) S 0 rfl rfl (m_dec e4_beginOrder 0 rfl) ?_
  refine ms_iconst (pc := 1) S (m_dec e4_beginOrder 1 rfl) ?_
  refine ms_iload_n (pc := 2) S 1 rfl rfl (m_dec e4_beginOrder 2 rfl) ?_
  refine ms_grd fun g1 => ?_
  refine ms_callVv (pc := 3) S hF (vals := [m_i 0, m_i v1]) (st := []) (hc := vw_4) (hci := by decide) (hcy := rfl) (ht := g1) (hC := (k4_setCell _ _ v0 0 v1 h)) (hM := lm_X4_145) (hfr := (Nat.le_trans (by decide) hFn)) (hstk := rfl) (hcat := Nat.le_of_ble_eq_true rfl) (hd := (m_dec e4_beginOrder 3 rfl)) (k1 := fun h2 => ?_)
  refine ms_aload_n (pc := 6) S 0 rfl rfl (m_dec e4_beginOrder 4 rfl) ?_
  refine ms_iconst (pc := 7) S (m_dec e4_beginOrder 5 rfl) ?_
  refine ms_iconst (pc := 8) S (m_dec e4_beginOrder 6 rfl) ?_
  refine ms_grd fun g4 => ?_
  refine ms_callVv (pc := 9) S hF (vals := [m_i 1, m_i (-1)]) (st := []) (hc := vw_4) (hci := by decide) (hcy := rfl) (ht := g4) (hC := (k4_setCell _ _ v0 1 (-1) h2)) (hM := lm_X4_145) (hfr := (Nat.le_trans (by decide) hFn)) (hstk := rfl) (hcat := Nat.le_of_ble_eq_true rfl) (hd := (m_dec e4_beginOrder 7 rfl)) (k1 := fun h5 => ?_)
  refine ms_aload_n (pc := 12) S 0 rfl rfl (m_dec e4_beginOrder 8 rfl) ?_
  refine ms_iconst (pc := 13) S (m_dec e4_beginOrder 9 rfl) ?_
  refine ms_iconst (pc := 14) S (m_dec e4_beginOrder 10 rfl) ?_
  refine ms_grd fun g7 => ?_
  refine ms_callVv (pc := 15) S hF (vals := [m_i 2, m_i (-1)]) (st := []) (hc := vw_4) (hci := by decide) (hcy := rfl) (ht := g7) (hC := (k4_setCell _ _ v0 2 (-1) h5)) (hM := lm_X4_145) (hfr := (Nat.le_trans (by decide) hFn)) (hstk := rfl) (hcat := Nat.le_of_ble_eq_true rfl) (hd := (m_dec e4_beginOrder 11 rfl)) (k1 := fun h8 => ?_)
  refine ms_aload_n (pc := 18) S 0 rfl rfl (m_dec e4_beginOrder 12 rfl) ?_
  refine ms_bipush (pc := 19) S (m_dec e4_beginOrder 13 rfl) rfl ?_
  refine ms_iconst (pc := 21) S (m_dec e4_beginOrder 14 rfl) ?_
  refine ms_grd fun g10 => ?_
  refine ms_callVv (pc := 22) S hF (vals := [m_i 6, m_i 0]) (st := []) (hc := vw_4) (hci := by decide) (hcy := rfl) (ht := g10) (hC := (k4_setCell _ _ v0 6 0 h8)) (hM := lm_X4_145) (hfr := (Nat.le_trans (by decide) hFn)) (hstk := rfl) (hcat := Nat.le_of_ble_eq_true rfl) (hd := (m_dec e4_beginOrder 15 rfl)) (k1 := fun h11 => ?_)
  refine ms_aload_n (pc := 25) S 0 rfl rfl (m_dec e4_beginOrder 16 rfl) ?_
  refine ms_bipush (pc := 26) S (m_dec e4_beginOrder 17 rfl) rfl ?_
  refine ms_iconst (pc := 28) S (m_dec e4_beginOrder 18 rfl) ?_
  refine ms_grd fun g13 => ?_
  refine ms_callVv (pc := 29) S hF (vals := [m_i 7, m_i 0]) (st := []) (hc := vw_4) (hci := by decide) (hcy := rfl) (ht := g13) (hC := (k4_setCell _ _ v0 7 0 h11)) (hM := lm_X4_145) (hfr := (Nat.le_trans (by decide) hFn)) (hstk := rfl) (hcat := Nat.le_of_ble_eq_true rfl) (hd := (m_dec e4_beginOrder 19 rfl)) (k1 := fun h14 => ?_)
  refine ms_aload_n (pc := 32) S 0 rfl rfl (m_dec e4_beginOrder 20 rfl) ?_
  refine ms_grd fun g16 => ?_
  refine ms_getf (pc := 33) S lf_X4_33 rfl (m_dec e4_beginOrder 21 rfl) g16 ?_
  refine ms_aload_n (pc := 36) S 0 rfl rfl (m_dec e4_beginOrder 22 rfl) ?_
  refine ms_getf (pc := 37) S lf_X4_29 rfl (m_dec e4_beginOrder 23 rfl) g16 ?_
  refine ms_grd fun g17 => ?_
  refine ms_getf (pc := 40) S lf_X4_50 rfl (m_dec e4_beginOrder 24 rfl) g17 ?_
  refine ms_iload_n (pc := 43) S 2 rfl rfl (m_dec e4_beginOrder 25 rfl) ?_
  refine ms_callSv (pc := 44) S hF (vals := [m_r (m_g h14 v0 9), m_i (m_g h14 (m_g h14 v0 8) 1), m_i v2]) (st := [])  (hC := (k10_setEntry _ _ (m_g h14 v0 9) (m_g h14 (m_g h14 v0 8) 1) v2 h14)) (hM := lm_X4_111) (hfr := (Nat.le_trans (by decide) hFn)) (hstk := rfl) (hcat := Nat.le_of_ble_eq_true rfl) (hd := (m_dec e4_beginOrder 26 rfl)) (k1 := fun h18 => ?_)
  refine ms_aload_n (pc := 47) S 0 rfl rfl (m_dec e4_beginOrder 27 rfl) ?_
  refine ms_iconst (pc := 48) S (m_dec e4_beginOrder 28 rfl) ?_
  refine ms_grd fun g20 => ?_
  refine ms_putf (pc := 49) S lp_X4_142 (fun z => by cases z) rfl (fun d => m_fitI d _) (m_dec e4_beginOrder 29 rfl) g20 (fun h21 => ?_)
  exact ms_ret (pc := 52) E (m_dec e4_beginOrder 30 rfl) rfl
theorem k4_beginOrder (l : Launch) (d : m_D) (v0 v1 v2 : Int) (h : m_H) : m_Con l d yX4_beginOrder cX4_beginOrder 3 none 2 (fun _ => []) [m_r v0, m_i v1, m_i v2] h (t4_beginOrder v0 v1 v2 h) :=
  m_con2 (by decide +kernel) (Nat.le_of_ble_eq_true rfl) (fun Y hN hRm hr hI S hfin => s4_beginOrder S (m_end_v S hr hfin) hRm (Nat.le_refl _) hN v0 v1 v2 h)
set_option maxRecDepth 100000 in
theorem e4_namedOrder : ∀ q ∈ ([(0, .iconst 0, 1), (1, .istore_n 1, 1), (2, .iload_n 1, 1), (3, .aload_n 0, 1), (4, .getfield 29, 3), (7, .getfield 50, 3), (10, .if_icmp .ge 36, 3), (13, .aload_n 0, 1), (14, .invokevirtual 53, 3), (17, .bipush 24, 2), (19, .if_icmp .ne 27, 3), (22, .aload_n 0, 1), (23, .getfield 33, 3), (26, .iload_n 1, 1), (27, .iconst (-1), 1), (28, .invokestatic 68, 3), (31, .aload_n 0, 1), (32, .invokevirtual 136, 3), (35, .if_icmp .ne 5, 3), (38, .iload_n 1, 1), (39, .ireturn, 1), (40, .iinc 1 1, 3), (43, .goto (-41), 3), (46, .iconst (-1), 1), (47, .ireturn, 1)] : List (Nat × Instr × Nat)), decode cX4_namedOrder q.1 = .ok q.2 := by decide +kernel
set_option maxHeartbeats 4000000 in
set_option maxRecDepth 20000 in
theorem s4_namedOrder_c2 {Y : m_Y Int} (S : m_Std Y RX4 cX4_namedOrder) (E : m_End Y cX4_namedOrder .ireturn (fun r => [m_i r])) {F : Nat} (hF : m_Rm Y F) (hFn : 1 ≤ F) (hN : Y.2.2.2.1 = 2) : ∀ (v0 v1 : Int) (h : m_H), m_Sim Y 2 [(0, m_r v0), (1, m_i v1)] [] h (t4_namedOrder_c2 v0 v1 h) := by
  intro v0 v1 h
  refine ms_all fun r e => ?_
  refine t4_namedOrder_c2.partial_correctness v0 (motive := fun v1 h r => m_Sim Y 2 [(0, m_r v0), (1, m_i v1)] [] h (some r)) ?_ v1 h r e
  intro f ih v1 h r e
  have ih : ∀ (v1 : Int) (h : m_H), m_Sim Y 2 [(0, m_r v0), (1, m_i v1)] [] h (f v1 h ) := fun v1 h  => ms_all fun r e => ih v1 h r e
  refine ms_use ?_ e
  clear e r
  refine ms_iload_n (pc := 2) S 1 rfl rfl (m_dec e4_namedOrder 2 rfl) ?_
  refine ms_aload_n (pc := 3) S 0 rfl rfl (m_dec e4_namedOrder 3 rfl) ?_
  refine ms_grd fun g1 => ?_
  refine ms_getf (pc := 4) S lf_X4_29 rfl (m_dec e4_namedOrder 4 rfl) g1 ?_
  refine ms_grd fun g2 => ?_
  refine ms_getf (pc := 7) S lf_X4_50 rfl (m_dec e4_namedOrder 5 rfl) g2 ?_
  refine ms_icmp_ge (pc := 10) S (m_dec e4_namedOrder 6 rfl) rfl (fun q3 => ?_) (fun q3 => ?_)
  · refine ms_aload_n (pc := 13) S 0 rfl rfl (m_dec e4_namedOrder 7 rfl) ?_
    refine ms_callVi (pc := 14) S hF (vals := []) (st := []) (hc := vw_4) (hci := by decide) (hcy := rfl) (ht := g1) (hC := (k4_kind _ _ v0 h)) (hM := lm_X4_53) (hfr := (Nat.le_trans (by decide) hFn)) (hstk := rfl) (hcat := Nat.le_of_ble_eq_true rfl) (hd := (m_dec e4_namedOrder 8 rfl)) (k1 := fun r5 h4 => ?_)
    refine ms_bipush (pc := 17) S (m_dec e4_namedOrder 9 rfl) rfl ?_
    refine ms_icmp_ne (pc := 19) S (m_dec e4_namedOrder 10 rfl) rfl (fun q6 => ?_) (fun q6 => ?_)
    · refine ms_aload_n (pc := 22) S 0 rfl rfl (m_dec e4_namedOrder 11 rfl) ?_
      refine ms_grd fun g7 => ?_
      refine ms_getf (pc := 23) S lf_X4_33 rfl (m_dec e4_namedOrder 12 rfl) g7 ?_
      refine ms_iload_n (pc := 26) S 1 rfl rfl (m_dec e4_namedOrder 13 rfl) ?_
      refine ms_iconst (pc := 27) S (m_dec e4_namedOrder 14 rfl) ?_
      refine ms_callSi (pc := 28) S hF (vals := [m_r (m_g h4 v0 9), m_i v1, m_i (-1)]) (st := [])  (hC := (k10_entry _ _ (m_g h4 v0 9) v1 (-1) h4)) (hM := lm_X4_68) (hfr := (Nat.le_trans (by decide) hFn)) (hstk := rfl) (hcat := Nat.le_of_ble_eq_true rfl) (hd := (m_dec e4_namedOrder 15 rfl)) (k1 := fun r9 h8 => ?_)
      refine ms_aload_n (pc := 31) S 0 rfl rfl (m_dec e4_namedOrder 16 rfl) ?_
      refine ms_grd fun g10 => ?_
      refine ms_callVi (pc := 32) S hF (vals := []) (st := [m_i r9]) (hc := vw_4) (hci := by decide) (hcy := rfl) (ht := g10) (hC := (k4_value _ _ v0 h8)) (hM := lm_X4_136) (hfr := (Nat.le_trans (by decide) hFn)) (hstk := rfl) (hcat := Nat.le_of_ble_eq_true rfl) (hd := (m_dec e4_namedOrder 17 rfl)) (k1 := fun r12 h11 => ?_)
      refine ms_icmp_ne (pc := 35) S (m_dec e4_namedOrder 18 rfl) rfl (fun q13 => ?_) (fun q13 => ?_)
      · refine ms_iload_n (pc := 38) S 1 rfl rfl (m_dec e4_namedOrder 19 rfl) ?_
        exact ms_ret (pc := 39) E (m_dec e4_namedOrder 20 rfl) rfl
      · refine ms_iinc (pc := 40) S (L' := [(0, m_r v0), (1, m_i (v1 + 1))]) 1 rfl [1, 0] rfl (m_lt hN rfl) (m_dec e4_namedOrder 21 rfl) ?_
        refine ms_goto (pc := 43) S (m_dec e4_namedOrder 22 rfl) rfl ?_
        exact ih (v1 + 1) h11
    · refine ms_iconst (pc := 46) S (m_dec e4_namedOrder 23 rfl) ?_
      exact ms_ret (pc := 47) E (m_dec e4_namedOrder 24 rfl) rfl
  · refine ms_iconst (pc := 46) S (m_dec e4_namedOrder 23 rfl) ?_
    exact ms_ret (pc := 47) E (m_dec e4_namedOrder 24 rfl) rfl
set_option maxHeartbeats 4000000 in
set_option maxRecDepth 20000 in
theorem s4_namedOrder {Y : m_Y Int} (S : m_Std Y RX4 cX4_namedOrder) (E : m_End Y cX4_namedOrder .ireturn (fun r => [m_i r])) {F : Nat} (hF : m_Rm Y F) (hFn : 1 ≤ F) (hN : Y.2.2.2.1 = 2) (v0 : Int) (h : m_H) : m_Sim Y 0 [(0, m_r v0)] [] h (t4_namedOrder v0 h) := by
  unfold t4_namedOrder
  refine ms_iconst (pc := 0) S (m_dec e4_namedOrder 0 rfl) ?_
  refine ms_istore_n (pc := 1) S (L' := [(0, m_r v0), (1, m_i 0)]) [1, 0] rfl rfl (m_lt hN rfl) (m_dec e4_namedOrder 1 rfl) ?_
  exact s4_namedOrder_c2 S E hF hFn hN v0 0 h
theorem k4_namedOrder (l : Launch) (d : m_D) (v0 : Int) (h : m_H) : m_Con l d yX4_namedOrder cX4_namedOrder 2 (some .int) 1 (fun r => [m_i r]) [m_r v0] h (t4_namedOrder v0 h) :=
  m_con2 (by decide +kernel) (Nat.le_of_ble_eq_true rfl) (fun Y hN hRm hr hI S hfin => s4_namedOrder S (m_end_i S hr hfin) hRm (Nat.le_refl _) hN v0 h)
set_option maxRecDepth 100000 in
theorem e4_passRow : ∀ q ∈ ([(0, .aload_n 0, 1), (1, .invokevirtual 149, 3), (4, .istore_n 2, 1), (5, .iload_n 2, 1), (6, .iconst (-1), 1), (7, .if_icmp .ne 5, 3), (10, .iconst 0, 1), (11, .ireturn, 1), (12, .aload_n 0, 1), (13, .iload_n 1, 1), (14, .iload_n 2, 1), (15, .invokevirtual 145, 3), (18, .aload_n 0, 1), (19, .dup, 1), (20, .getfield 47, 3), (23, .iconst 1, 1), (24, .iadd, 1), (25, .putfield 47, 3), (28, .iconst 1, 1), (29, .ireturn, 1)] : List (Nat × Instr × Nat)), decode cX4_passRow q.1 = .ok q.2 := by decide +kernel
set_option maxHeartbeats 4000000 in
set_option maxRecDepth 20000 in
theorem s4_passRow {Y : m_Y Bool} (S : m_Std Y RX4 cX4_passRow) (E : m_End Y cX4_passRow .ireturn (fun r => [m_i (m_b2i r)])) {F : Nat} (hF : m_Rm Y F) (hFn : 2 ≤ F) (hN : Y.2.2.2.1 = 3) (v0 v1 : Int) (h : m_H) : m_Sim Y 0 [(0, m_r v0), (1, m_i v1)] [] h (t4_passRow v0 v1 h) := by
  unfold t4_passRow
  refine ms_aload_n (pc := 0) S 0 rfl rfl (m_dec e4_passRow 0 rfl) ?_
  refine ms_grd fun g1 => ?_
  refine ms_callVi (pc := 1) S hF (vals := []) (st := []) (hc := vw_4) (hci := by decide) (hcy := rfl) (ht := g1) (hC := (k4_namedOrder _ _ v0 h)) (hM := lm_X4_149) (hfr := (Nat.le_trans (by decide) hFn)) (hstk := rfl) (hcat := Nat.le_of_ble_eq_true rfl) (hd := (m_dec e4_passRow 1 rfl)) (k1 := fun r3 h2 => ?_)
  refine ms_istore_n (pc := 4) S (L' := [(0, m_r v0), (1, m_i v1), (2, m_i r3)]) [1, 2, 0] rfl rfl (m_lt hN rfl) (m_dec e4_passRow 2 rfl) ?_
  refine ms_iload_n (pc := 5) S 2 rfl rfl (m_dec e4_passRow 3 rfl) ?_
  refine ms_iconst (pc := 6) S (m_dec e4_passRow 4 rfl) ?_
  refine ms_icmp_ne (pc := 7) S (m_dec e4_passRow 5 rfl) rfl (fun q4 => ?_) (fun q4 => ?_)
  · refine ms_iconst (pc := 10) S (m_dec e4_passRow 6 rfl) ?_
    exact ms_ret (pc := 11) E (m_dec e4_passRow 7 rfl) rfl
  · refine ms_aload_n (pc := 12) S 0 rfl rfl (m_dec e4_passRow 8 rfl) ?_
    refine ms_iload_n (pc := 13) S 1 rfl rfl (m_dec e4_passRow 9 rfl) ?_
    refine ms_iload_n (pc := 14) S 2 rfl rfl (m_dec e4_passRow 10 rfl) ?_
    refine ms_grd fun g5 => ?_
    refine ms_callVv (pc := 15) S hF (vals := [m_i v1, m_i r3]) (st := []) (hc := vw_4) (hci := by decide) (hcy := rfl) (ht := g5) (hC := (k4_setCell _ _ v0 v1 r3 h2)) (hM := lm_X4_145) (hfr := (Nat.le_trans (by decide) hFn)) (hstk := rfl) (hcat := Nat.le_of_ble_eq_true rfl) (hd := (m_dec e4_passRow 11 rfl)) (k1 := fun h6 => ?_)
    refine ms_aload_n (pc := 18) S 0 rfl rfl (m_dec e4_passRow 12 rfl) ?_
    refine ms_dup (pc := 19) S rfl (m_dec e4_passRow 13 rfl) ?_
    refine ms_grd fun g8 => ?_
    refine ms_getf (pc := 20) S lf_X4_47 rfl (m_dec e4_passRow 14 rfl) g8 ?_
    refine ms_iconst (pc := 23) S (m_dec e4_passRow 15 rfl) ?_
    refine ms_iadd (pc := 24) S (m_dec e4_passRow 16 rfl) ?_
    refine ms_putf (pc := 25) S lp_X4_47 (fun z => by cases z) rfl (fun d => m_fitI d _) (m_dec e4_passRow 17 rfl) g8 (fun h9 => ?_)
    refine ms_iconst (pc := 28) S (m_dec e4_passRow 18 rfl) ?_
    exact ms_ret (pc := 29) E (m_dec e4_passRow 19 rfl) rfl
theorem k4_passRow (l : Launch) (d : m_D) (v0 v1 : Int) (h : m_H) : m_Con l d yX4_passRow cX4_passRow 3 (some .boolean) 2 (fun r => [m_i (m_b2i r)]) [m_r v0, m_i v1] h (t4_passRow v0 v1 h) :=
  m_con2 (by decide +kernel) (Nat.le_of_ble_eq_true rfl) (fun Y hN hRm hr hI S hfin => s4_passRow S (m_end_z S hr hfin) hRm (Nat.le_refl _) hN v0 v1 h)
set_option maxRecDepth 100000 in
theorem e4_passNumber : ∀ q ∈ ([(0, .aload_n 0, 1), (1, .iload_n 1, 1), (2, .iload_n 2, 1), (3, .invokevirtual 139, 3), (6, .ifCond .ne 5, 3), (9, .iconst 0, 1), (10, .ireturn, 1), (11, .aload_n 0, 1), (12, .iconst 3, 1), (13, .aload_n 0, 1), (14, .getfield 142, 3), (17, .iadd, 1), (18, .aload_n 0, 1), (19, .invokevirtual 136, 3), (22, .invokevirtual 145, 3), (25, .aload_n 0, 1), (26, .dup, 1), (27, .getfield 142, 3), (30, .iconst 1, 1), (31, .iadd, 1), (32, .putfield 142, 3), (35, .aload_n 0, 1), (36, .dup, 1), (37, .getfield 47, 3), (40, .iconst 1, 1), (41, .iadd, 1), (42, .putfield 47, 3), (45, .iconst 1, 1), (46, .ireturn, 1)] : List (Nat × Instr × Nat)), decode cX4_passNumber q.1 = .ok q.2 := by decide +kernel
set_option maxHeartbeats 4000000 in
set_option maxRecDepth 20000 in
theorem s4_passNumber {Y : m_Y Bool} (S : m_Std Y RX4 cX4_passNumber) (E : m_End Y cX4_passNumber .ireturn (fun r => [m_i (m_b2i r)])) {F : Nat} (hF : m_Rm Y F) (hFn : 2 ≤ F) (hN : Y.2.2.2.1 = 3) (v0 v1 v2 : Int) (h : m_H) : m_Sim Y 0 [(0, m_r v0), (1, m_i v1), (2, m_i v2)] [] h (t4_passNumber v0 v1 v2 h) := by
  unfold t4_passNumber
  refine ms_aload_n (pc := 0) S 0 rfl rfl (m_dec e4_passNumber 0 rfl) ?_
  refine ms_iload_n (pc := 1) S 1 rfl rfl (m_dec e4_passNumber 1 rfl) ?_
  refine ms_iload_n (pc := 2) S 2 rfl rfl (m_dec e4_passNumber 2 rfl) ?_
  refine ms_grd fun g1 => ?_
  refine ms_callVz (pc := 3) S hF (vals := [m_i v1, m_i v2]) (st := []) (hc := vw_4) (hci := by decide) (hcy := rfl) (ht := g1) (hC := (k4_isNumber _ _ v0 v1 v2 h)) (hM := lm_X4_139) (hfr := (Nat.le_trans (by decide) hFn)) (hstk := rfl) (hcat := Nat.le_of_ble_eq_true rfl) (hd := (m_dec e4_passNumber 3 rfl)) (k1 := fun r3 h2 => ?_)
  refine ms_ifb_ne (pc := 6) S (m_dec e4_passNumber 4 rfl) rfl (fun q4 => ?_) (fun q4 => ?_)
  · refine ms_aload_n (pc := 11) S 0 rfl rfl (m_dec e4_passNumber 7 rfl) ?_
    refine ms_iconst (pc := 12) S (m_dec e4_passNumber 8 rfl) ?_
    refine ms_aload_n (pc := 13) S 0 rfl rfl (m_dec e4_passNumber 9 rfl) ?_
    refine ms_grd fun g5 => ?_
    refine ms_getf (pc := 14) S lf_X4_142 rfl (m_dec e4_passNumber 10 rfl) g5 ?_
    refine ms_iadd (pc := 17) S (m_dec e4_passNumber 11 rfl) ?_
    refine ms_aload_n (pc := 18) S 0 rfl rfl (m_dec e4_passNumber 12 rfl) ?_
    refine ms_callVi (pc := 19) S hF (vals := []) (st := [m_i (3 + (m_g h2 v0 10)), m_r v0]) (hc := vw_4) (hci := by decide) (hcy := rfl) (ht := g5) (hC := (k4_value _ _ v0 h2)) (hM := lm_X4_136) (hfr := (Nat.le_trans (by decide) hFn)) (hstk := rfl) (hcat := Nat.le_of_ble_eq_true rfl) (hd := (m_dec e4_passNumber 13 rfl)) (k1 := fun r7 h6 => ?_)
    refine ms_grd fun g8 => ?_
    refine ms_callVv (pc := 22) S hF (vals := [m_i (3 + (m_g h2 v0 10)), m_i r7]) (st := []) (hc := vw_4) (hci := by decide) (hcy := rfl) (ht := g8) (hC := (k4_setCell _ _ v0 (3 + (m_g h2 v0 10)) r7 h6)) (hM := lm_X4_145) (hfr := (Nat.le_trans (by decide) hFn)) (hstk := rfl) (hcat := Nat.le_of_ble_eq_true rfl) (hd := (m_dec e4_passNumber 14 rfl)) (k1 := fun h9 => ?_)
    refine ms_aload_n (pc := 25) S 0 rfl rfl (m_dec e4_passNumber 15 rfl) ?_
    refine ms_dup (pc := 26) S rfl (m_dec e4_passNumber 16 rfl) ?_
    refine ms_grd fun g11 => ?_
    refine ms_getf (pc := 27) S lf_X4_142 rfl (m_dec e4_passNumber 17 rfl) g11 ?_
    refine ms_iconst (pc := 30) S (m_dec e4_passNumber 18 rfl) ?_
    refine ms_iadd (pc := 31) S (m_dec e4_passNumber 19 rfl) ?_
    refine ms_putf (pc := 32) S lp_X4_142 (fun z => by cases z) rfl (fun d => m_fitI d _) (m_dec e4_passNumber 20 rfl) g11 (fun h12 => ?_)
    refine ms_aload_n (pc := 35) S 0 rfl rfl (m_dec e4_passNumber 21 rfl) ?_
    refine ms_dup (pc := 36) S rfl (m_dec e4_passNumber 22 rfl) ?_
    refine ms_grd fun g13 => ?_
    refine ms_getf (pc := 37) S lf_X4_47 rfl (m_dec e4_passNumber 23 rfl) g13 ?_
    refine ms_iconst (pc := 40) S (m_dec e4_passNumber 24 rfl) ?_
    refine ms_iadd (pc := 41) S (m_dec e4_passNumber 25 rfl) ?_
    refine ms_putf (pc := 42) S lp_X4_47 (fun z => by cases z) rfl (fun d => m_fitI d _) (m_dec e4_passNumber 26 rfl) g13 (fun h14 => ?_)
    refine ms_iconst (pc := 45) S (m_dec e4_passNumber 27 rfl) ?_
    exact ms_ret (pc := 46) E (m_dec e4_passNumber 28 rfl) rfl
  · refine ms_iconst (pc := 9) S (m_dec e4_passNumber 5 rfl) ?_
    exact ms_ret (pc := 10) E (m_dec e4_passNumber 6 rfl) rfl
theorem k4_passNumber (l : Launch) (d : m_D) (v0 v1 v2 : Int) (h : m_H) : m_Con l d yX4_passNumber cX4_passNumber 3 (some .boolean) 2 (fun r => [m_i (m_b2i r)]) [m_r v0, m_i v1, m_i v2] h (t4_passNumber v0 v1 v2 h) :=
  m_con2 (by decide +kernel) (Nat.le_of_ble_eq_true rfl) (fun Y hN hRm hr hI S hfin => s4_passNumber S (m_end_z S hr hfin) hRm (Nat.le_refl _) hN v0 v1 v2 h)
set_option maxRecDepth 100000 in
theorem e4_endOrder : ∀ q ∈ ([(0, .aload_n 0, 1), (1, .bipush 59, 2), (3, .invokevirtual 152, 3), (6, .ifCond .ne 5, 3), (9, .iconst 0, 1), (10, .ireturn, 1), (11, .aload_n 0, 1), (12, .getfield 29, 3), (15, .dup, 1), (16, .getfield 50, 3), (19, .iconst 1, 1), (20, .iadd, 1), (21, .putfield 50, 3), (24, .iconst 1, 1), (25, .ireturn, 1)] : List (Nat × Instr × Nat)), decode cX4_endOrder q.1 = .ok q.2 := by decide +kernel
set_option maxHeartbeats 4000000 in
set_option maxRecDepth 20000 in
theorem s4_endOrder {Y : m_Y Bool} (S : m_Std Y RX4 cX4_endOrder) (E : m_End Y cX4_endOrder .ireturn (fun r => [m_i (m_b2i r)])) {F : Nat} (hF : m_Rm Y F) (hFn : 2 ≤ F) (hN : Y.2.2.2.1 = 1) (v0 : Int) (h : m_H) : m_Sim Y 0 [(0, m_r v0)] [] h (t4_endOrder v0 h) := by
  unfold t4_endOrder
  refine ms_aload_n (pc := 0) S 0 rfl rfl (m_dec e4_endOrder 0 rfl) ?_
  refine ms_bipush (pc := 1) S (m_dec e4_endOrder 1 rfl) rfl ?_
  refine ms_grd fun g1 => ?_
  refine ms_callVz (pc := 3) S hF (vals := [m_i 59]) (st := []) (hc := vw_4) (hci := by decide) (hcy := rfl) (ht := g1) (hC := (k4_pass _ _ v0 59 h)) (hM := lm_X4_152) (hfr := (Nat.le_trans (by decide) hFn)) (hstk := rfl) (hcat := Nat.le_of_ble_eq_true rfl) (hd := (m_dec e4_endOrder 2 rfl)) (k1 := fun r3 h2 => ?_)
  refine ms_ifb_ne (pc := 6) S (m_dec e4_endOrder 3 rfl) rfl (fun q4 => ?_) (fun q4 => ?_)
  · refine ms_aload_n (pc := 11) S 0 rfl rfl (m_dec e4_endOrder 6 rfl) ?_
    refine ms_grd fun g5 => ?_
    refine ms_getf (pc := 12) S lf_X4_29 rfl (m_dec e4_endOrder 7 rfl) g5 ?_
    refine ms_dup (pc := 15) S rfl (m_dec e4_endOrder 8 rfl) ?_
    refine ms_grd fun g6 => ?_
    refine ms_getf (pc := 16) S lf_X4_50 rfl (m_dec e4_endOrder 9 rfl) g6 ?_
    refine ms_iconst (pc := 19) S (m_dec e4_endOrder 10 rfl) ?_
    refine ms_iadd (pc := 20) S (m_dec e4_endOrder 11 rfl) ?_
    refine ms_putf (pc := 21) S lp_X4_50 (fun z => by cases z) rfl (fun d => m_fitI d _) (m_dec e4_endOrder 12 rfl) g6 (fun h7 => ?_)
    refine ms_iconst (pc := 24) S (m_dec e4_endOrder 13 rfl) ?_
    exact ms_ret (pc := 25) E (m_dec e4_endOrder 14 rfl) rfl
  · refine ms_iconst (pc := 9) S (m_dec e4_endOrder 4 rfl) ?_
    exact ms_ret (pc := 10) E (m_dec e4_endOrder 5 rfl) rfl
theorem k4_endOrder (l : Launch) (d : m_D) (v0 : Int) (h : m_H) : m_Con l d yX4_endOrder cX4_endOrder 1 (some .boolean) 2 (fun r => [m_i (m_b2i r)]) [m_r v0] h (t4_endOrder v0 h) :=
  m_con2 (by decide +kernel) (Nat.le_of_ble_eq_true rfl) (fun Y hN hRm hr hI S hfin => s4_endOrder S (m_end_z S hr hfin) hRm (Nat.le_refl _) hN v0 h)
set_option maxRecDepth 100000 in
theorem e4_readPut : ∀ q ∈ ([(0, .aload_n 0, 1), (1, .getfield 29, 3), (4, .getfield 50, 3), (7, .bipush 40, 2), (9, .if_icmp .lt 5, 3), (12, .iconst 0, 1), (13, .ireturn, 1), (14, .aload_n 0, 1), (15, .bipush 12, 2), (17, .iconst (-1), 1), (18, .invokevirtual 155, 3), (21, .aload_n 0, 1), (22, .bipush 6, 2), (24, .iload_n 1, 1), (25, .invokevirtual 145, 3), (28, .aload_n 0, 1), (29, .bipush 7, 2), (31, .iload_n 2, 1), (32, .invokevirtual 145, 3), (35, .aload_n 0, 1), (36, .bipush 12, 2), (38, .invokevirtual 152, 3), (41, .ifCond .eq 61, 3), (44, .aload_n 0, 1), (45, .iconst 1, 1), (46, .invokevirtual 158, 3), (49, .ifCond .eq 53, 3), (52, .aload_n 0, 1), (53, .bipush 23, 2), (55, .invokevirtual 152, 3), (58, .ifCond .eq 44, 3), (61, .aload_n 0, 1), (62, .iconst 0, 1), (63, .sipush 1500, 3), (66, .invokevirtual 161, 3), (69, .ifCond .eq 33, 3), (72, .aload_n 0, 1), (73, .bipush 20, 2), (75, .invokevirtual 152, 3), (78, .ifCond .eq 24, 3), (81, .aload_n 0, 1), (82, .iconst 0, 1), (83, .bipush 15, 2), (85, .invokevirtual 161, 3), (88, .ifCond .eq 14, 3), (91, .aload_n 0, 1), (92, .invokevirtual 164, 3), (95, .ifCond .eq 7, 3), (98, .iconst 1, 1), (99, .goto 4, 3), (102, .iconst 0, 1), (103, .ireturn, 1)] : List (Nat × Instr × Nat)), decode cX4_readPut q.1 = .ok q.2 := by decide +kernel
set_option maxHeartbeats 4000000 in
set_option maxRecDepth 20000 in
theorem s4_readPut {Y : m_Y Bool} (S : m_Std Y RX4 cX4_readPut) (E : m_End Y cX4_readPut .ireturn (fun r => [m_i (m_b2i r)])) {F : Nat} (hF : m_Rm Y F) (hFn : 3 ≤ F) (hN : Y.2.2.2.1 = 3) (v0 v1 v2 : Int) (h : m_H) : m_Sim Y 0 [(0, m_r v0), (1, m_i v1), (2, m_i v2)] [] h (t4_readPut v0 v1 v2 h) := by
  unfold t4_readPut
  refine ms_aload_n (pc := 0) S 0 rfl rfl (m_dec e4_readPut 0 rfl) ?_
  refine ms_grd fun g1 => ?_
  refine ms_getf (pc := 1) S lf_X4_29 rfl (m_dec e4_readPut 1 rfl) g1 ?_
  refine ms_grd fun g2 => ?_
  refine ms_getf (pc := 4) S lf_X4_50 rfl (m_dec e4_readPut 2 rfl) g2 ?_
  refine ms_bipush (pc := 7) S (m_dec e4_readPut 3 rfl) rfl ?_
  refine ms_icmp_lt (pc := 9) S (m_dec e4_readPut 4 rfl) rfl (fun q3 => ?_) (fun q3 => ?_)
  · refine ms_aload_n (pc := 14) S 0 rfl rfl (m_dec e4_readPut 7 rfl) ?_
    refine ms_bipush (pc := 15) S (m_dec e4_readPut 8 rfl) rfl ?_
    refine ms_iconst (pc := 17) S (m_dec e4_readPut 9 rfl) ?_
    refine ms_callVv (pc := 18) S hF (vals := [m_i 12, m_i (-1)]) (st := []) (hc := vw_4) (hci := by decide) (hcy := rfl) (ht := g1) (hC := (k4_beginOrder _ _ v0 12 (-1) h)) (hM := lm_X4_155) (hfr := (Nat.le_trans (by decide) hFn)) (hstk := rfl) (hcat := Nat.le_of_ble_eq_true rfl) (hd := (m_dec e4_readPut 10 rfl)) (k1 := fun h4 => ?_)
    refine ms_aload_n (pc := 21) S 0 rfl rfl (m_dec e4_readPut 11 rfl) ?_
    refine ms_bipush (pc := 22) S (m_dec e4_readPut 12 rfl) rfl ?_
    refine ms_iload_n (pc := 24) S 1 rfl rfl (m_dec e4_readPut 13 rfl) ?_
    refine ms_grd fun g6 => ?_
    refine ms_callVv (pc := 25) S hF (vals := [m_i 6, m_i v1]) (st := []) (hc := vw_4) (hci := by decide) (hcy := rfl) (ht := g6) (hC := (k4_setCell _ _ v0 6 v1 h4)) (hM := lm_X4_145) (hfr := (Nat.le_trans (by decide) hFn)) (hstk := rfl) (hcat := Nat.le_of_ble_eq_true rfl) (hd := (m_dec e4_readPut 14 rfl)) (k1 := fun h7 => ?_)
    refine ms_aload_n (pc := 28) S 0 rfl rfl (m_dec e4_readPut 15 rfl) ?_
    refine ms_bipush (pc := 29) S (m_dec e4_readPut 16 rfl) rfl ?_
    refine ms_iload_n (pc := 31) S 2 rfl rfl (m_dec e4_readPut 17 rfl) ?_
    refine ms_grd fun g9 => ?_
    refine ms_callVv (pc := 32) S hF (vals := [m_i 7, m_i v2]) (st := []) (hc := vw_4) (hci := by decide) (hcy := rfl) (ht := g9) (hC := (k4_setCell _ _ v0 7 v2 h7)) (hM := lm_X4_145) (hfr := (Nat.le_trans (by decide) hFn)) (hstk := rfl) (hcat := Nat.le_of_ble_eq_true rfl) (hd := (m_dec e4_readPut 18 rfl)) (k1 := fun h10 => ?_)
    refine ms_aload_n (pc := 35) S 0 rfl rfl (m_dec e4_readPut 19 rfl) ?_
    refine ms_bipush (pc := 36) S (m_dec e4_readPut 20 rfl) rfl ?_
    refine ms_grd fun g12 => ?_
    refine ms_callVz (pc := 38) S hF (vals := [m_i 12]) (st := []) (hc := vw_4) (hci := by decide) (hcy := rfl) (ht := g12) (hC := (k4_pass _ _ v0 12 h10)) (hM := lm_X4_152) (hfr := (Nat.le_trans (by decide) hFn)) (hstk := rfl) (hcat := Nat.le_of_ble_eq_true rfl) (hd := (m_dec e4_readPut 21 rfl)) (k1 := fun r14 h13 => ?_)
    refine ms_ifb_eq (pc := 41) S (m_dec e4_readPut 22 rfl) rfl (fun q15 => ?_) (fun q15 => ?_)
    · refine ms_aload_n (pc := 44) S 0 rfl rfl (m_dec e4_readPut 23 rfl) ?_
      refine ms_iconst (pc := 45) S (m_dec e4_readPut 24 rfl) ?_
      refine ms_grd fun g16 => ?_
      refine ms_callVz (pc := 46) S hF (vals := [m_i 1]) (st := []) (hc := vw_4) (hci := by decide) (hcy := rfl) (ht := g16) (hC := (k4_passRow _ _ v0 1 h13)) (hM := lm_X4_158) (hfr := (Nat.le_trans (by decide) hFn)) (hstk := rfl) (hcat := Nat.le_of_ble_eq_true rfl) (hd := (m_dec e4_readPut 25 rfl)) (k1 := fun r18 h17 => ?_)
      refine ms_ifb_eq (pc := 49) S (m_dec e4_readPut 26 rfl) rfl (fun q19 => ?_) (fun q19 => ?_)
      · refine ms_aload_n (pc := 52) S 0 rfl rfl (m_dec e4_readPut 27 rfl) ?_
        refine ms_bipush (pc := 53) S (m_dec e4_readPut 28 rfl) rfl ?_
        refine ms_grd fun g20 => ?_
        refine ms_callVz (pc := 55) S hF (vals := [m_i 23]) (st := []) (hc := vw_4) (hci := by decide) (hcy := rfl) (ht := g20) (hC := (k4_pass _ _ v0 23 h17)) (hM := lm_X4_152) (hfr := (Nat.le_trans (by decide) hFn)) (hstk := rfl) (hcat := Nat.le_of_ble_eq_true rfl) (hd := (m_dec e4_readPut 29 rfl)) (k1 := fun r22 h21 => ?_)
        refine ms_ifb_eq (pc := 58) S (m_dec e4_readPut 30 rfl) rfl (fun q23 => ?_) (fun q23 => ?_)
        · refine ms_aload_n (pc := 61) S 0 rfl rfl (m_dec e4_readPut 31 rfl) ?_
          refine ms_iconst (pc := 62) S (m_dec e4_readPut 32 rfl) ?_
          refine ms_sipush (pc := 63) S (m_dec e4_readPut 33 rfl) rfl ?_
          refine ms_grd fun g24 => ?_
          refine ms_callVz (pc := 66) S hF (vals := [m_i 0, m_i 1500]) (st := []) (hc := vw_4) (hci := by decide) (hcy := rfl) (ht := g24) (hC := (k4_passNumber _ _ v0 0 1500 h21)) (hM := lm_X4_161) (hfr := (Nat.le_trans (by decide) hFn)) (hstk := rfl) (hcat := Nat.le_of_ble_eq_true rfl) (hd := (m_dec e4_readPut 34 rfl)) (k1 := fun r26 h25 => ?_)
          refine ms_ifb_eq (pc := 69) S (m_dec e4_readPut 35 rfl) rfl (fun q27 => ?_) (fun q27 => ?_)
          · refine ms_aload_n (pc := 72) S 0 rfl rfl (m_dec e4_readPut 36 rfl) ?_
            refine ms_bipush (pc := 73) S (m_dec e4_readPut 37 rfl) rfl ?_
            refine ms_grd fun g28 => ?_
            refine ms_callVz (pc := 75) S hF (vals := [m_i 20]) (st := []) (hc := vw_4) (hci := by decide) (hcy := rfl) (ht := g28) (hC := (k4_pass _ _ v0 20 h25)) (hM := lm_X4_152) (hfr := (Nat.le_trans (by decide) hFn)) (hstk := rfl) (hcat := Nat.le_of_ble_eq_true rfl) (hd := (m_dec e4_readPut 38 rfl)) (k1 := fun r30 h29 => ?_)
            refine ms_ifb_eq (pc := 78) S (m_dec e4_readPut 39 rfl) rfl (fun q31 => ?_) (fun q31 => ?_)
            · refine ms_aload_n (pc := 81) S 0 rfl rfl (m_dec e4_readPut 40 rfl) ?_
              refine ms_iconst (pc := 82) S (m_dec e4_readPut 41 rfl) ?_
              refine ms_bipush (pc := 83) S (m_dec e4_readPut 42 rfl) rfl ?_
              refine ms_grd fun g32 => ?_
              refine ms_callVz (pc := 85) S hF (vals := [m_i 0, m_i 15]) (st := []) (hc := vw_4) (hci := by decide) (hcy := rfl) (ht := g32) (hC := (k4_passNumber _ _ v0 0 15 h29)) (hM := lm_X4_161) (hfr := (Nat.le_trans (by decide) hFn)) (hstk := rfl) (hcat := Nat.le_of_ble_eq_true rfl) (hd := (m_dec e4_readPut 43 rfl)) (k1 := fun r34 h33 => ?_)
              refine ms_ifb_eq (pc := 88) S (m_dec e4_readPut 44 rfl) rfl (fun q35 => ?_) (fun q35 => ?_)
              · refine ms_aload_n (pc := 91) S 0 rfl rfl (m_dec e4_readPut 45 rfl) ?_
                refine ms_grd fun g36 => ?_
                refine ms_callVz (pc := 92) S hF (vals := []) (st := []) (hc := vw_4) (hci := by decide) (hcy := rfl) (ht := g36) (hC := (k4_endOrder _ _ v0 h33)) (hM := lm_X4_164) (hfr := (Nat.le_trans (by decide) hFn)) (hstk := rfl) (hcat := Nat.le_of_ble_eq_true rfl) (hd := (m_dec e4_readPut 46 rfl)) (k1 := fun r38 h37 => ?_)
                refine ms_ifb_eq (pc := 95) S (m_dec e4_readPut 47 rfl) rfl (fun q39 => ?_) (fun q39 => ?_)
                · refine ms_iconst (pc := 98) S (m_dec e4_readPut 48 rfl) ?_
                  refine ms_goto (pc := 99) S (m_dec e4_readPut 49 rfl) rfl ?_
                  exact ms_ret (pc := 103) E (m_dec e4_readPut 51 rfl) rfl
                · refine ms_iconst (pc := 102) S (m_dec e4_readPut 50 rfl) ?_
                  exact ms_ret (pc := 103) E (m_dec e4_readPut 51 rfl) rfl
              · refine ms_iconst (pc := 102) S (m_dec e4_readPut 50 rfl) ?_
                exact ms_ret (pc := 103) E (m_dec e4_readPut 51 rfl) rfl
            · refine ms_iconst (pc := 102) S (m_dec e4_readPut 50 rfl) ?_
              exact ms_ret (pc := 103) E (m_dec e4_readPut 51 rfl) rfl
          · refine ms_iconst (pc := 102) S (m_dec e4_readPut 50 rfl) ?_
            exact ms_ret (pc := 103) E (m_dec e4_readPut 51 rfl) rfl
        · refine ms_iconst (pc := 102) S (m_dec e4_readPut 50 rfl) ?_
          exact ms_ret (pc := 103) E (m_dec e4_readPut 51 rfl) rfl
      · refine ms_iconst (pc := 102) S (m_dec e4_readPut 50 rfl) ?_
        exact ms_ret (pc := 103) E (m_dec e4_readPut 51 rfl) rfl
    · refine ms_iconst (pc := 102) S (m_dec e4_readPut 50 rfl) ?_
      exact ms_ret (pc := 103) E (m_dec e4_readPut 51 rfl) rfl
  · refine ms_iconst (pc := 12) S (m_dec e4_readPut 5 rfl) ?_
    exact ms_ret (pc := 13) E (m_dec e4_readPut 6 rfl) rfl
theorem k4_readPut (l : Launch) (d : m_D) (v0 v1 v2 : Int) (h : m_H) : m_Con l d yX4_readPut cX4_readPut 3 (some .boolean) 3 (fun r => [m_i (m_b2i r)]) [m_r v0, m_i v1, m_i v2] h (t4_readPut v0 v1 v2 h) :=
  m_con2 (by decide +kernel) (Nat.le_of_ble_eq_true rfl) (fun Y hN hRm hr hI S hfin => s4_readPut S (m_end_z S hr hfin) hRm (Nat.le_refl _) hN v0 v1 v2 h)
set_option maxRecDepth 100000 in
theorem e4_readAgain : ∀ q ∈ ([(0, .aload_n 0, 1), (1, .dup, 1), (2, .getfield 47, 3), (5, .iconst 1, 1), (6, .iadd, 1), (7, .putfield 47, 3), (10, .aload_n 0, 1), (11, .invokevirtual 136, 3), (14, .istore_n 1, 1), (15, .aload_n 0, 1), (16, .iconst 1, 1), (17, .bipush 9, 2), (19, .invokevirtual 139, 3), (22, .ifCond .ne 5, 3), (25, .iconst 0, 1), (26, .ireturn, 1), (27, .aload_n 0, 1), (28, .dup, 1), (29, .getfield 47, 3), (32, .iconst 1, 1), (33, .iadd, 1), (34, .putfield 47, 3), (37, .aload_n 0, 1), (38, .bipush 19, 2), (40, .invokevirtual 152, 3), (43, .ifCond .ne 5, 3), (46, .iconst 0, 1), (47, .ireturn, 1), (48, .aload_n 0, 1), (49, .invokevirtual 136, 3), (52, .istore_n 2, 1), (53, .aload_n 0, 1), (54, .iconst 0, 1), (55, .sipush 999, 3), (58, .invokevirtual 139, 3), (61, .ifCond .ne 5, 3), (64, .iconst 0, 1), (65, .ireturn, 1), (66, .aload_n 0, 1), (67, .dup, 1), (68, .getfield 47, 3), (71, .iconst 1, 1), (72, .iadd, 1), (73, .putfield 47, 3), (76, .aload_n 0, 1), (77, .bipush 123, 2), (79, .invokevirtual 152, 3), (82, .ifCond .ne 5, 3), (85, .iconst 0, 1), (86, .ireturn, 1), (87, .iconst 0, 1), (88, .istore_n 3, 1), (89, .iload_n 3, 1), (90, .bipush 40, 2), (92, .if_icmp .gt 31, 3), (95, .aload_n 0, 1), (96, .iload_n 1, 1), (97, .iload_n 2, 1), (98, .invokevirtual 61, 3), (101, .ifCond .ne 5, 3), (104, .iconst 0, 1), (105, .ireturn, 1), (106, .aload_n 0, 1), (107, .bipush 125, 2), (109, .invokevirtual 152, 3), (112, .ifCond .eq 5, 3), (115, .iconst 1, 1), (116, .ireturn, 1), (117, .iinc 3 1, 3), (120, .goto (-31), 3), (123, .iconst 0, 1), (124, .ireturn, 1)] : List (Nat × Instr × Nat)), decode cX4_readAgain q.1 = .ok q.2 := by decide +kernel
set_option maxHeartbeats 4000000 in
set_option maxRecDepth 20000 in
theorem s4_readAgain_c89 {Y : m_Y Bool} (S : m_Std Y RX4 cX4_readAgain) (E : m_End Y cX4_readAgain .ireturn (fun r => [m_i (m_b2i r)])) {F : Nat} (hF : m_Rm Y F) (hFn : 4 ≤ F) (hN : Y.2.2.2.1 = 4) : ∀ (v0 v1 v2 v3 : Int) (h : m_H), m_Sim Y 89 [(0, m_r v0), (1, m_i v1), (2, m_i v2), (3, m_i v3)] [] h (t4_readAgain_c89 v0 v1 v2 v3 h) := by
  intro v0 v1 v2 v3 h
  refine ms_all fun r e => ?_
  refine t4_readAgain_c89.partial_correctness v0 v1 v2 (motive := fun v3 h r => m_Sim Y 89 [(0, m_r v0), (1, m_i v1), (2, m_i v2), (3, m_i v3)] [] h (some r)) ?_ v3 h r e
  intro f ih v3 h r e
  have ih : ∀ (v3 : Int) (h : m_H), m_Sim Y 89 [(0, m_r v0), (1, m_i v1), (2, m_i v2), (3, m_i v3)] [] h (f v3 h ) := fun v3 h  => ms_all fun r e => ih v3 h r e
  refine ms_use ?_ e
  clear e r
  refine ms_iload_n (pc := 89) S 3 rfl rfl (m_dec e4_readAgain 52 rfl) ?_
  refine ms_bipush (pc := 90) S (m_dec e4_readAgain 53 rfl) rfl ?_
  refine ms_icmp_gt (pc := 92) S (m_dec e4_readAgain 54 rfl) rfl (fun q1 => ?_) (fun q1 => ?_)
  · refine ms_iconst (pc := 123) S (m_dec e4_readAgain 70 rfl) ?_
    exact ms_ret (pc := 124) E (m_dec e4_readAgain 71 rfl) rfl
  · refine ms_aload_n (pc := 95) S 0 rfl rfl (m_dec e4_readAgain 55 rfl) ?_
    refine ms_iload_n (pc := 96) S 1 rfl rfl (m_dec e4_readAgain 56 rfl) ?_
    refine ms_iload_n (pc := 97) S 2 rfl rfl (m_dec e4_readAgain 57 rfl) ?_
    refine ms_grd fun g2 => ?_
    refine ms_callVz (pc := 98) S hF (vals := [m_i v1, m_i v2]) (st := []) (hc := vw_4) (hci := by decide) (hcy := rfl) (ht := g2) (hC := (k4_readPut _ _ v0 v1 v2 h)) (hM := lm_X4_61) (hfr := (Nat.le_trans (by decide) hFn)) (hstk := rfl) (hcat := Nat.le_of_ble_eq_true rfl) (hd := (m_dec e4_readAgain 58 rfl)) (k1 := fun r4 h3 => ?_)
    refine ms_ifb_ne (pc := 101) S (m_dec e4_readAgain 59 rfl) rfl (fun q5 => ?_) (fun q5 => ?_)
    · refine ms_aload_n (pc := 106) S 0 rfl rfl (m_dec e4_readAgain 62 rfl) ?_
      refine ms_bipush (pc := 107) S (m_dec e4_readAgain 63 rfl) rfl ?_
      refine ms_grd fun g6 => ?_
      refine ms_callVz (pc := 109) S hF (vals := [m_i 125]) (st := []) (hc := vw_4) (hci := by decide) (hcy := rfl) (ht := g6) (hC := (k4_pass _ _ v0 125 h3)) (hM := lm_X4_152) (hfr := (Nat.le_trans (by decide) hFn)) (hstk := rfl) (hcat := Nat.le_of_ble_eq_true rfl) (hd := (m_dec e4_readAgain 64 rfl)) (k1 := fun r8 h7 => ?_)
      refine ms_ifb_eq (pc := 112) S (m_dec e4_readAgain 65 rfl) rfl (fun q9 => ?_) (fun q9 => ?_)
      · refine ms_iconst (pc := 115) S (m_dec e4_readAgain 66 rfl) ?_
        exact ms_ret (pc := 116) E (m_dec e4_readAgain 67 rfl) rfl
      · refine ms_iinc (pc := 117) S (L' := [(0, m_r v0), (1, m_i v1), (2, m_i v2), (3, m_i (v3 + 1))]) 3 rfl [1, 2, 3, 0] rfl (m_lt hN rfl) (m_dec e4_readAgain 68 rfl) ?_
        refine ms_goto (pc := 120) S (m_dec e4_readAgain 69 rfl) rfl ?_
        exact ih (v3 + 1) h7
    · refine ms_iconst (pc := 104) S (m_dec e4_readAgain 60 rfl) ?_
      exact ms_ret (pc := 105) E (m_dec e4_readAgain 61 rfl) rfl
set_option maxHeartbeats 4000000 in
set_option maxRecDepth 20000 in
theorem s4_readAgain {Y : m_Y Bool} (S : m_Std Y RX4 cX4_readAgain) (E : m_End Y cX4_readAgain .ireturn (fun r => [m_i (m_b2i r)])) {F : Nat} (hF : m_Rm Y F) (hFn : 4 ≤ F) (hN : Y.2.2.2.1 = 4) (v0 : Int) (h : m_H) : m_Sim Y 0 [(0, m_r v0)] [] h (t4_readAgain v0 h) := by
  unfold t4_readAgain
  refine ms_aload_n (pc := 0) S 0 rfl rfl (m_dec e4_readAgain 0 rfl) ?_
  refine ms_dup (pc := 1) S rfl (m_dec e4_readAgain 1 rfl) ?_
  refine ms_grd fun g1 => ?_
  refine ms_getf (pc := 2) S lf_X4_47 rfl (m_dec e4_readAgain 2 rfl) g1 ?_
  refine ms_iconst (pc := 5) S (m_dec e4_readAgain 3 rfl) ?_
  refine ms_iadd (pc := 6) S (m_dec e4_readAgain 4 rfl) ?_
  refine ms_putf (pc := 7) S lp_X4_47 (fun z => by cases z) rfl (fun d => m_fitI d _) (m_dec e4_readAgain 5 rfl) g1 (fun h2 => ?_)
  refine ms_aload_n (pc := 10) S 0 rfl rfl (m_dec e4_readAgain 6 rfl) ?_
  refine ms_grd fun g3 => ?_
  refine ms_callVi (pc := 11) S hF (vals := []) (st := []) (hc := vw_4) (hci := by decide) (hcy := rfl) (ht := g3) (hC := (k4_value _ _ v0 h2)) (hM := lm_X4_136) (hfr := (Nat.le_trans (by decide) hFn)) (hstk := rfl) (hcat := Nat.le_of_ble_eq_true rfl) (hd := (m_dec e4_readAgain 7 rfl)) (k1 := fun r5 h4 => ?_)
  refine ms_istore_n (pc := 14) S (L' := [(0, m_r v0), (1, m_i r5)]) [1, 0] rfl rfl (m_lt hN rfl) (m_dec e4_readAgain 8 rfl) ?_
  refine ms_aload_n (pc := 15) S 0 rfl rfl (m_dec e4_readAgain 9 rfl) ?_
  refine ms_iconst (pc := 16) S (m_dec e4_readAgain 10 rfl) ?_
  refine ms_bipush (pc := 17) S (m_dec e4_readAgain 11 rfl) rfl ?_
  refine ms_grd fun g6 => ?_
  refine ms_callVz (pc := 19) S hF (vals := [m_i 1, m_i 9]) (st := []) (hc := vw_4) (hci := by decide) (hcy := rfl) (ht := g6) (hC := (k4_isNumber _ _ v0 1 9 h4)) (hM := lm_X4_139) (hfr := (Nat.le_trans (by decide) hFn)) (hstk := rfl) (hcat := Nat.le_of_ble_eq_true rfl) (hd := (m_dec e4_readAgain 12 rfl)) (k1 := fun r8 h7 => ?_)
  refine ms_ifb_ne (pc := 22) S (m_dec e4_readAgain 13 rfl) rfl (fun q9 => ?_) (fun q9 => ?_)
  · refine ms_aload_n (pc := 27) S 0 rfl rfl (m_dec e4_readAgain 16 rfl) ?_
    refine ms_dup (pc := 28) S rfl (m_dec e4_readAgain 17 rfl) ?_
    refine ms_grd fun g10 => ?_
    refine ms_getf (pc := 29) S lf_X4_47 rfl (m_dec e4_readAgain 18 rfl) g10 ?_
    refine ms_iconst (pc := 32) S (m_dec e4_readAgain 19 rfl) ?_
    refine ms_iadd (pc := 33) S (m_dec e4_readAgain 20 rfl) ?_
    refine ms_putf (pc := 34) S lp_X4_47 (fun z => by cases z) rfl (fun d => m_fitI d _) (m_dec e4_readAgain 21 rfl) g10 (fun h11 => ?_)
    refine ms_aload_n (pc := 37) S 0 rfl rfl (m_dec e4_readAgain 22 rfl) ?_
    refine ms_bipush (pc := 38) S (m_dec e4_readAgain 23 rfl) rfl ?_
    refine ms_grd fun g12 => ?_
    refine ms_callVz (pc := 40) S hF (vals := [m_i 19]) (st := []) (hc := vw_4) (hci := by decide) (hcy := rfl) (ht := g12) (hC := (k4_pass _ _ v0 19 h11)) (hM := lm_X4_152) (hfr := (Nat.le_trans (by decide) hFn)) (hstk := rfl) (hcat := Nat.le_of_ble_eq_true rfl) (hd := (m_dec e4_readAgain 24 rfl)) (k1 := fun r14 h13 => ?_)
    refine ms_ifb_ne (pc := 43) S (m_dec e4_readAgain 25 rfl) rfl (fun q15 => ?_) (fun q15 => ?_)
    · refine ms_aload_n (pc := 48) S 0 rfl rfl (m_dec e4_readAgain 28 rfl) ?_
      refine ms_grd fun g16 => ?_
      refine ms_callVi (pc := 49) S hF (vals := []) (st := []) (hc := vw_4) (hci := by decide) (hcy := rfl) (ht := g16) (hC := (k4_value _ _ v0 h13)) (hM := lm_X4_136) (hfr := (Nat.le_trans (by decide) hFn)) (hstk := rfl) (hcat := Nat.le_of_ble_eq_true rfl) (hd := (m_dec e4_readAgain 29 rfl)) (k1 := fun r18 h17 => ?_)
      refine ms_istore_n (pc := 52) S (L' := [(0, m_r v0), (1, m_i r5), (2, m_i r18)]) [1, 2, 0] rfl rfl (m_lt hN rfl) (m_dec e4_readAgain 30 rfl) ?_
      refine ms_aload_n (pc := 53) S 0 rfl rfl (m_dec e4_readAgain 31 rfl) ?_
      refine ms_iconst (pc := 54) S (m_dec e4_readAgain 32 rfl) ?_
      refine ms_sipush (pc := 55) S (m_dec e4_readAgain 33 rfl) rfl ?_
      refine ms_grd fun g19 => ?_
      refine ms_callVz (pc := 58) S hF (vals := [m_i 0, m_i 999]) (st := []) (hc := vw_4) (hci := by decide) (hcy := rfl) (ht := g19) (hC := (k4_isNumber _ _ v0 0 999 h17)) (hM := lm_X4_139) (hfr := (Nat.le_trans (by decide) hFn)) (hstk := rfl) (hcat := Nat.le_of_ble_eq_true rfl) (hd := (m_dec e4_readAgain 34 rfl)) (k1 := fun r21 h20 => ?_)
      refine ms_ifb_ne (pc := 61) S (m_dec e4_readAgain 35 rfl) rfl (fun q22 => ?_) (fun q22 => ?_)
      · refine ms_aload_n (pc := 66) S 0 rfl rfl (m_dec e4_readAgain 38 rfl) ?_
        refine ms_dup (pc := 67) S rfl (m_dec e4_readAgain 39 rfl) ?_
        refine ms_grd fun g23 => ?_
        refine ms_getf (pc := 68) S lf_X4_47 rfl (m_dec e4_readAgain 40 rfl) g23 ?_
        refine ms_iconst (pc := 71) S (m_dec e4_readAgain 41 rfl) ?_
        refine ms_iadd (pc := 72) S (m_dec e4_readAgain 42 rfl) ?_
        refine ms_putf (pc := 73) S lp_X4_47 (fun z => by cases z) rfl (fun d => m_fitI d _) (m_dec e4_readAgain 43 rfl) g23 (fun h24 => ?_)
        refine ms_aload_n (pc := 76) S 0 rfl rfl (m_dec e4_readAgain 44 rfl) ?_
        refine ms_bipush (pc := 77) S (m_dec e4_readAgain 45 rfl) rfl ?_
        refine ms_grd fun g25 => ?_
        refine ms_callVz (pc := 79) S hF (vals := [m_i 123]) (st := []) (hc := vw_4) (hci := by decide) (hcy := rfl) (ht := g25) (hC := (k4_pass _ _ v0 123 h24)) (hM := lm_X4_152) (hfr := (Nat.le_trans (by decide) hFn)) (hstk := rfl) (hcat := Nat.le_of_ble_eq_true rfl) (hd := (m_dec e4_readAgain 46 rfl)) (k1 := fun r27 h26 => ?_)
        refine ms_ifb_ne (pc := 82) S (m_dec e4_readAgain 47 rfl) rfl (fun q28 => ?_) (fun q28 => ?_)
        · refine ms_iconst (pc := 87) S (m_dec e4_readAgain 50 rfl) ?_
          refine ms_istore_n (pc := 88) S (L' := [(0, m_r v0), (1, m_i r5), (2, m_i r18), (3, m_i 0)]) [1, 2, 3, 0] rfl rfl (m_lt hN rfl) (m_dec e4_readAgain 51 rfl) ?_
          exact s4_readAgain_c89 S E hF hFn hN v0 r5 r18 0 h26
        · refine ms_iconst (pc := 85) S (m_dec e4_readAgain 48 rfl) ?_
          exact ms_ret (pc := 86) E (m_dec e4_readAgain 49 rfl) rfl
      · refine ms_iconst (pc := 64) S (m_dec e4_readAgain 36 rfl) ?_
        exact ms_ret (pc := 65) E (m_dec e4_readAgain 37 rfl) rfl
    · refine ms_iconst (pc := 46) S (m_dec e4_readAgain 26 rfl) ?_
      exact ms_ret (pc := 47) E (m_dec e4_readAgain 27 rfl) rfl
  · refine ms_iconst (pc := 25) S (m_dec e4_readAgain 14 rfl) ?_
    exact ms_ret (pc := 26) E (m_dec e4_readAgain 15 rfl) rfl
theorem k4_readAgain (l : Launch) (d : m_D) (v0 : Int) (h : m_H) : m_Con l d yX4_readAgain cX4_readAgain 4 (some .boolean) 4 (fun r => [m_i (m_b2i r)]) [m_r v0] h (t4_readAgain v0 h) :=
  m_con2 (by decide +kernel) (Nat.le_of_ble_eq_true rfl) (fun Y hN hRm hr hI S hfin => s4_readAgain S (m_end_z S hr hfin) hRm (Nat.le_refl _) hN v0 h)
