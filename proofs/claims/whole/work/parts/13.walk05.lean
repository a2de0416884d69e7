/-! the walks of the methods, 5 -/
set_option maxRecDepth 100000 in
theorem e9_gather : ∀ q ∈ ([(0, .aload_n 0, 1), (1, .iconst 0, 1), (2, .putfield 60, 3), (5, .iconst 0, 1), (6, .istore_n 1, 1), (7, .iload_n 1, 1), (8, .aload_n 0, 1), (9, .getfield 24, 3), (12, .getfield 48, 3), (15, .if_icmp .ge 121, 3), (18, .aload_n 0, 1), (19, .getfield 18, 3), (22, .iload_n 1, 1), (23, .iconst (-1), 1), (24, .invokestatic 61, 3), (27, .aload_n 0, 1), (28, .getfield 24, 3), (31, .iload_n 1, 1), (32, .invokevirtual 65, 3), (35, .ifCond .ne 95, 3), (38, .aload_n 0, 1), (39, .getfield 24, 3), (42, .iload_n 1, 1), (43, .invokevirtual 69, 3), (46, .ifCond .ne 84, 3), (49, .aload_n 0, 1), (50, .getfield 60, 3), (53, .bipush 9, 2), (55, .if_icmp .lt 5, 3), (58, .iconst 0, 1), (59, .ireturn, 1), (60, .aload_n 0, 1), (61, .getfield 18, 3), (64, .iload_n 1, 1), (65, .aload_n 0, 1), (66, .getfield 60, 3), (69, .invokestatic 61, 3), (72, .aload_n 0, 1), (73, .getfield 9, 3), (76, .aload_n 0, 1), (77, .getfield 60, 3), (80, .iload_n 1, 1), (81, .invokestatic 61, 3), (84, .aload_n 0, 1), (85, .getfield 15, 3), (88, .aload_n 0, 1), (89, .getfield 60, 3), (92, .aload_n 0, 1), (93, .aload_n 0, 1), (94, .getfield 24, 3), (97, .iload_n 1, 1), (98, .invokevirtual 72, 3), (101, .invokevirtual 75, 3), (104, .aload_n 0, 1), (105, .aload_n 0, 1), (106, .getfield 24, 3), (109, .iload_n 1, 1), (110, .invokevirtual 78, 3), (113, .invokevirtual 75, 3), (116, .ior, 1), (117, .invokestatic 61, 3), (120, .aload_n 0, 1), (121, .dup, 1), (122, .getfield 60, 3), (125, .iconst 1, 1), (126, .iadd, 1), (127, .putfield 60, 3), (130, .iinc 1 1, 3), (133, .goto (-126), 3), (136, .aload_n 0, 1), (137, .getfield 60, 3), (140, .ifCond .le 7, 3), (143, .iconst 1, 1), (144, .goto 4, 3), (147, .iconst 0, 1), (148, .ireturn, 1)] : List (Nat × Instr × Nat)), decode cX9_gather q.1 = .ok q.2 := by decide +kernel
set_option maxHeartbeats 4000000 in
set_option maxRecDepth 20000 in
theorem s9_gather_c7 {Y : m_Y Bool} (S : m_Std Y RX9 cX9_gather) (E : m_End Y cX9_gather .ireturn (fun r => [m_i (m_b2i r)])) {F : Nat} (hF : m_Rm Y F) (hFn : 2 ≤ F) (hN : Y.2.2.2.1 = 2) : ∀ (v0 v1 : Int) (h : m_H), m_Sim Y 7 [(0, m_r v0), (1, m_i v1)] [] h (t9_gather_c7 v0 v1 h) := by
  intro v0 v1 h
  refine ms_all fun r e => ?_
  refine t9_gather_c7.partial_correctness v0 (motive := fun v1 h r => m_Sim Y 7 [(0, m_r v0), (1, m_i v1)] [] h (some r)) ?_ v1 h r e
  intro f ih v1 h r e
  have ih : ∀ (v1 : Int) (h : m_H), m_Sim Y 7 [(0, m_r v0), (1, m_i v1)] [] h (f v1 h ) := fun v1 h  => ms_all fun r e => ih v1 h r e
  refine ms_use ?_ e
  clear e r
  refine ms_iload_n (pc := 7) S 1 rfl rfl (m_dec e9_gather 5 rfl) ?_
  refine ms_aload_n (pc := 8) S 0 rfl rfl (m_dec e9_gather 6 rfl) ?_
  refine ms_grd fun g1 => ?_
  refine ms_getf (pc := 9) S lf_X9_24 rfl (m_dec e9_gather 7 rfl) g1 ?_
  refine ms_grd fun g2 => ?_
  refine ms_getf (pc := 12) S lf_X9_48 rfl (m_dec e9_gather 8 rfl) g2 ?_
  refine ms_icmp_ge (pc := 15) S (m_dec e9_gather 9 rfl) rfl (fun q3 => ?_) (fun q3 => ?_)
  · refine ms_aload_n (pc := 18) S 0 rfl rfl (m_dec e9_gather 10 rfl) ?_
    refine ms_getf (pc := 19) S lf_X9_18 rfl (m_dec e9_gather 11 rfl) g1 ?_
    refine ms_iload_n (pc := 22) S 1 rfl rfl (m_dec e9_gather 12 rfl) ?_
    refine ms_iconst (pc := 23) S (m_dec e9_gather 13 rfl) ?_
    refine ms_callSv (pc := 24) S hF (vals := [m_r (m_g h v0 2), m_i v1, m_i (-1)]) (st := [])  (hC := (k10_setEntry _ _ (m_g h v0 2) v1 (-1) h)) (hM := lm_X9_61) (hfr := (Nat.le_trans (by decide) hFn)) (hstk := rfl) (hcat := Nat.le_of_ble_eq_true rfl) (hd := (m_dec e9_gather 14 rfl)) (k1 := fun h4 => ?_)
    refine ms_aload_n (pc := 27) S 0 rfl rfl (m_dec e9_gather 15 rfl) ?_
    refine ms_grd fun g6 => ?_
    refine ms_getf (pc := 28) S lf_X9_24 rfl (m_dec e9_gather 16 rfl) g6 ?_
    refine ms_iload_n (pc := 31) S 1 rfl rfl (m_dec e9_gather 17 rfl) ?_
    refine ms_grd fun g7 => ?_
    refine ms_callVz (pc := 32) S hF (vals := [m_i v1]) (st := []) (hc := vw_6) (hci := by decide) (hcy := rfl) (ht := g7) (hC := (k6_isSource _ _ (m_g h4 v0 4) v1 h4)) (hM := lm_X9_65) (hfr := (Nat.le_trans (by decide) hFn)) (hstk := rfl) (hcat := Nat.le_of_ble_eq_true rfl) (hd := (m_dec e9_gather 18 rfl)) (k1 := fun r9 h8 => ?_)
    refine ms_ifb_ne (pc := 35) S (m_dec e9_gather 19 rfl) rfl (fun q10 => ?_) (fun q10 => ?_)
    · refine ms_iinc (pc := 130) S (L' := [(0, m_r v0), (1, m_i (v1 + 1))]) 1 rfl [1, 0] rfl (m_lt hN rfl) (m_dec e9_gather 67 rfl) ?_
      refine ms_goto (pc := 133) S (m_dec e9_gather 68 rfl) rfl ?_
      exact ih (v1 + 1) h8
    · refine ms_aload_n (pc := 38) S 0 rfl rfl (m_dec e9_gather 20 rfl) ?_
      refine ms_grd fun g11 => ?_
      refine ms_getf (pc := 39) S lf_X9_24 rfl (m_dec e9_gather 21 rfl) g11 ?_
      refine ms_iload_n (pc := 42) S 1 rfl rfl (m_dec e9_gather 22 rfl) ?_
      refine ms_grd fun g12 => ?_
      refine ms_callVz (pc := 43) S hF (vals := [m_i v1]) (st := []) (hc := vw_6) (hci := by decide) (hcy := rfl) (ht := g12) (hC := (k6_isPut _ _ (m_g h8 v0 4) v1 h8)) (hM := lm_X9_69) (hfr := (Nat.le_trans (by decide) hFn)) (hstk := rfl) (hcat := Nat.le_of_ble_eq_true rfl) (hd := (m_dec e9_gather 23 rfl)) (k1 := fun r14 h13 => ?_)
      refine ms_ifb_ne (pc := 46) S (m_dec e9_gather 24 rfl) rfl (fun q15 => ?_) (fun q15 => ?_)
      · refine ms_iinc (pc := 130) S (L' := [(0, m_r v0), (1, m_i (v1 + 1))]) 1 rfl [1, 0] rfl (m_lt hN rfl) (m_dec e9_gather 67 rfl) ?_
        refine ms_goto (pc := 133) S (m_dec e9_gather 68 rfl) rfl ?_
        exact ih (v1 + 1) h13
      · refine ms_aload_n (pc := 49) S 0 rfl rfl (m_dec e9_gather 25 rfl) ?_
        refine ms_grd fun g16 => ?_
        refine ms_getf (pc := 50) S lf_X9_60 rfl (m_dec e9_gather 26 rfl) g16 ?_
        refine ms_bipush (pc := 53) S (m_dec e9_gather 27 rfl) rfl ?_
        refine ms_icmp_lt (pc := 55) S (m_dec e9_gather 28 rfl) rfl (fun q17 => ?_) (fun q17 => ?_)
        · refine ms_aload_n (pc := 60) S 0 rfl rfl (m_dec e9_gather 31 rfl) ?_
          refine ms_getf (pc := 61) S lf_X9_18 rfl (m_dec e9_gather 32 rfl) g16 ?_
          refine ms_iload_n (pc := 64) S 1 rfl rfl (m_dec e9_gather 33 rfl) ?_
          refine ms_aload_n (pc := 65) S 0 rfl rfl (m_dec e9_gather 34 rfl) ?_
          refine ms_getf (pc := 66) S lf_X9_60 rfl (m_dec e9_gather 35 rfl) g16 ?_
          refine ms_callSv (pc := 69) S hF (vals := [m_r (m_g h13 v0 2), m_i v1, m_i (m_g h13 v0 5)]) (st := [])  (hC := (k10_setEntry _ _ (m_g h13 v0 2) v1 (m_g h13 v0 5) h13)) (hM := lm_X9_61) (hfr := (Nat.le_trans (by decide) hFn)) (hstk := rfl) (hcat := Nat.le_of_ble_eq_true rfl) (hd := (m_dec e9_gather 36 rfl)) (k1 := fun h18 => ?_)
          refine ms_aload_n (pc := 72) S 0 rfl rfl (m_dec e9_gather 37 rfl) ?_
          refine ms_grd fun g20 => ?_
          refine ms_getf (pc := 73) S lf_X9_9 rfl (m_dec e9_gather 38 rfl) g20 ?_
          refine ms_aload_n (pc := 76) S 0 rfl rfl (m_dec e9_gather 39 rfl) ?_
          refine ms_getf (pc := 77) S lf_X9_60 rfl (m_dec e9_gather 40 rfl) g20 ?_
          refine ms_iload_n (pc := 80) S 1 rfl rfl (m_dec e9_gather 41 rfl) ?_
          refine ms_callSv (pc := 81) S hF (vals := [m_r (m_g h18 v0 0), m_i (m_g h18 v0 5), m_i v1]) (st := [])  (hC := (k10_setEntry _ _ (m_g h18 v0 0) (m_g h18 v0 5) v1 h18)) (hM := lm_X9_61) (hfr := (Nat.le_trans (by decide) hFn)) (hstk := rfl) (hcat := Nat.le_of_ble_eq_true rfl) (hd := (m_dec e9_gather 42 rfl)) (k1 := fun h21 => ?_)
          refine ms_aload_n (pc := 84) S 0 rfl rfl (m_dec e9_gather 43 rfl) ?_
          refine ms_grd fun g23 => ?_
          refine ms_getf (pc := 85) S lf_X9_15 rfl (m_dec e9_gather 44 rfl) g23 ?_
          refine ms_aload_n (pc := 88) S 0 rfl rfl (m_dec e9_gather 45 rfl) ?_
          refine ms_getf (pc := 89) S lf_X9_60 rfl (m_dec e9_gather 46 rfl) g23 ?_
          refine ms_aload_n (pc := 92) S 0 rfl rfl (m_dec e9_gather 47 rfl) ?_
          refine ms_aload_n (pc := 93) S 0 rfl rfl (m_dec e9_gather 48 rfl) ?_
          refine ms_getf (pc := 94) S lf_X9_24 rfl (m_dec e9_gather 49 rfl) g23 ?_
          refine ms_iload_n (pc := 97) S 1 rfl rfl (m_dec e9_gather 50 rfl) ?_
          refine ms_grd fun g24 => ?_
          refine ms_callVi (pc := 98) S hF (vals := [m_i v1]) (st := [m_r v0, m_i (m_g h21 v0 5), m_r (m_g h21 v0 1)]) (hc := vw_6) (hci := by decide) (hcy := rfl) (ht := g24) (hC := (k6_one _ _ (m_g h21 v0 4) v1 h21)) (hM := lm_X9_72) (hfr := (Nat.le_trans (by decide) hFn)) (hstk := rfl) (hcat := Nat.le_of_ble_eq_true rfl) (hd := (m_dec e9_gather 51 rfl)) (k1 := fun r26 h25 => ?_)
          refine ms_grd fun g27 => ?_
          refine ms_callVi (pc := 101) S hF (vals := [m_i r26]) (st := [m_i (m_g h21 v0 5), m_r (m_g h21 v0 1)]) (hc := vw_9) (hci := by decide) (hcy := rfl) (ht := g27) (hC := (k9_stepBit _ _ v0 r26 h25)) (hM := lm_X9_75) (hfr := (Nat.le_trans (by decide) hFn)) (hstk := rfl) (hcat := Nat.le_of_ble_eq_true rfl) (hd := (m_dec e9_gather 52 rfl)) (k1 := fun r29 h28 => ?_)
          refine ms_aload_n (pc := 104) S 0 rfl rfl (m_dec e9_gather 53 rfl) ?_
          refine ms_aload_n (pc := 105) S 0 rfl rfl (m_dec e9_gather 54 rfl) ?_
          refine ms_grd fun g30 => ?_
          refine ms_getf (pc := 106) S lf_X9_24 rfl (m_dec e9_gather 55 rfl) g30 ?_
          refine ms_iload_n (pc := 109) S 1 rfl rfl (m_dec e9_gather 56 rfl) ?_
          refine ms_grd fun g31 => ?_
          refine ms_callVi (pc := 110) S hF (vals := [m_i v1]) (st := [m_r v0, m_i r29, m_i (m_g h21 v0 5), m_r (m_g h21 v0 1)]) (hc := vw_6) (hci := by decide) (hcy := rfl) (ht := g31) (hC := (k6_other _ _ (m_g h28 v0 4) v1 h28)) (hM := lm_X9_78) (hfr := (Nat.le_trans (by decide) hFn)) (hstk := rfl) (hcat := Nat.le_of_ble_eq_true rfl) (hd := (m_dec e9_gather 57 rfl)) (k1 := fun r33 h32 => ?_)
          refine ms_grd fun g34 => ?_
          refine ms_callVi (pc := 113) S hF (vals := [m_i r33]) (st := [m_i r29, m_i (m_g h21 v0 5), m_r (m_g h21 v0 1)]) (hc := vw_9) (hci := by decide) (hcy := rfl) (ht := g34) (hC := (k9_stepBit _ _ v0 r33 h32)) (hM := lm_X9_75) (hfr := (Nat.le_trans (by decide) hFn)) (hstk := rfl) (hcat := Nat.le_of_ble_eq_true rfl) (hd := (m_dec e9_gather 58 rfl)) (k1 := fun r36 h35 => ?_)
          refine ms_ior (pc := 116) S (m_dec e9_gather 59 rfl) ?_
          refine ms_callSv (pc := 117) S hF (vals := [m_r (m_g h21 v0 1), m_i (m_g h21 v0 5), m_i (m_or r29 r36)]) (st := [])  (hC := (k10_setEntry _ _ (m_g h21 v0 1) (m_g h21 v0 5) (m_or r29 r36) h35)) (hM := lm_X9_61) (hfr := (Nat.le_trans (by decide) hFn)) (hstk := rfl) (hcat := Nat.le_of_ble_eq_true rfl) (hd := (m_dec e9_gather 60 rfl)) (k1 := fun h37 => ?_)
          refine ms_aload_n (pc := 120) S 0 rfl rfl (m_dec e9_gather 61 rfl) ?_
          refine ms_dup (pc := 121) S rfl (m_dec e9_gather 62 rfl) ?_
          refine ms_grd fun g39 => ?_
          refine ms_getf (pc := 122) S lf_X9_60 rfl (m_dec e9_gather 63 rfl) g39 ?_
          refine ms_iconst (pc := 125) S (m_dec e9_gather 64 rfl) ?_
          refine ms_iadd (pc := 126) S (m_dec e9_gather 65 rfl) ?_
          refine ms_putf (pc := 127) S lp_X9_60 (fun z => by cases z) rfl (fun d => m_fitI d _) (m_dec e9_gather 66 rfl) g39 (fun h40 => ?_)
          refine ms_iinc (pc := 130) S (L' := [(0, m_r v0), (1, m_i (v1 + 1))]) 1 rfl [1, 0] rfl (m_lt hN rfl) (m_dec e9_gather 67 rfl) ?_
          refine ms_goto (pc := 133) S (m_dec e9_gather 68 rfl) rfl ?_
          exact ih (v1 + 1) h40
        · refine ms_iconst (pc := 58) S (m_dec e9_gather 29 rfl) ?_
          exact ms_ret (pc := 59) E (m_dec e9_gather 30 rfl) rfl
  · refine ms_aload_n (pc := 136) S 0 rfl rfl (m_dec e9_gather 69 rfl) ?_
    refine ms_getf (pc := 137) S lf_X9_60 rfl (m_dec e9_gather 70 rfl) g1 ?_
    refine ms_if_le (pc := 140) S (m_dec e9_gather 71 rfl) rfl (fun q41 => ?_) (fun q41 => ?_)
    · refine ms_iconst (pc := 143) S (m_dec e9_gather 72 rfl) ?_
      refine ms_goto (pc := 144) S (m_dec e9_gather 73 rfl) rfl ?_
      exact ms_ret (pc := 148) E (m_dec e9_gather 75 rfl) rfl
    · refine ms_iconst (pc := 147) S (m_dec e9_gather 74 rfl) ?_
      exact ms_ret (pc := 148) E (m_dec e9_gather 75 rfl) rfl
set_option maxHeartbeats 4000000 in
set_option maxRecDepth 20000 in
theorem s9_gather {Y : m_Y Bool} (S : m_Std Y RX9 cX9_gather) (E : m_End Y cX9_gather .ireturn (fun r => [m_i (m_b2i r)])) {F : Nat} (hF : m_Rm Y F) (hFn : 2 ≤ F) (hN : Y.2.2.2.1 = 2) (v0 : Int) (h : m_H) : m_Sim Y 0 [(0, m_r v0)] [] h (t9_gather v0 h) := by
  unfold t9_gather
  refine ms_aload_n (pc := 0) S 0 rfl rfl (m_dec e9_gather 0 rfl) ?_
  refine ms_iconst (pc := 1) S (m_dec e9_gather 1 rfl) ?_
  refine ms_grd fun g1 => ?_
  refine ms_putf (pc := 2) S lp_X9_60 (fun z => by cases z) rfl (fun d => m_fitI d _) (m_dec e9_gather 2 rfl) g1 (fun h2 => ?_)
  refine ms_iconst (pc := 5) S (m_dec e9_gather 3 rfl) ?_
  refine ms_istore_n (pc := 6) S (L' := [(0, m_r v0), (1, m_i 0)]) [1, 0] rfl rfl (m_lt hN rfl) (m_dec e9_gather 4 rfl) ?_
  exact s9_gather_c7 S E hF hFn hN v0 0 h2
theorem k9_gather (l : Launch) (d : m_D) (v0 : Int) (h : m_H) : m_Con l d yX9_gather cX9_gather 2 (some .boolean) 2 (fun r => [m_i (m_b2i r)]) [m_r v0] h (t9_gather v0 h) :=
  m_con2 (by decide +kernel) (Nat.le_of_ble_eq_true rfl) (fun Y hN hRm hr hI S hfin => s9_gather S (m_end_z S hr hfin) hRm (Nat.le_refl _) hN v0 h)
set_option maxRecDepth 100000 in
theorem e9_readyAfter : ∀ q ∈ ([(0, .iconst 0, 1), (1, .istore_n 2, 1), (2, .iconst 0, 1), (3, .istore_n 3, 1), (4, .iload_n 3, 1), (5, .aload_n 0, 1), (6, .getfield 60, 3), (9, .if_icmp .ge 39, 3), (12, .iload_n 1, 1), (13, .iload_n 3, 1), (14, .ishr, 1), (15, .iconst 1, 1), (16, .iand, 1), (17, .ifCond .ne 25, 3), (20, .aload_n 0, 1), (21, .getfield 15, 3), (24, .iload_n 3, 1), (25, .iconst 0, 1), (26, .invokestatic 53, 3), (29, .iload_n 1, 1), (30, .iconst (-1), 1), (31, .ixor, 1), (32, .iand, 1), (33, .ifCond .ne 9, 3), (36, .iload_n 2, 1), (37, .iconst 1, 1), (38, .iload_n 3, 1), (39, .ishl, 1), (40, .ior, 1), (41, .istore_n 2, 1), (42, .iinc 3 1, 3), (45, .goto (-41), 3), (48, .iload_n 2, 1), (49, .ireturn, 1)] : List (Nat × Instr × Nat)), decode cX9_readyAfter q.1 = .ok q.2 := by decide +kernel
set_option maxHeartbeats 4000000 in
set_option maxRecDepth 20000 in
theorem s9_readyAfter_c4 {Y : m_Y Int} (S : m_Std Y RX9 cX9_readyAfter) (E : m_End Y cX9_readyAfter .ireturn (fun r => [m_i r])) {F : Nat} (hF : m_Rm Y F) (hFn : 1 ≤ F) (hN : Y.2.2.2.1 = 4) : ∀ (v0 v1 v2 v3 : Int) (h : m_H), m_Sim Y 4 [(0, m_r v0), (1, m_i v1), (2, m_i v2), (3, m_i v3)] [] h (t9_readyAfter_c4 v0 v1 v2 v3 h) := by
  intro v0 v1 v2 v3 h
  refine ms_all fun r e => ?_
  refine t9_readyAfter_c4.partial_correctness v0 v1 (motive := fun v2 v3 h r => m_Sim Y 4 [(0, m_r v0), (1, m_i v1), (2, m_i v2), (3, m_i v3)] [] h (some r)) ?_ v2 v3 h r e
  intro f ih v2 v3 h r e
  have ih : ∀ (v2 v3 : Int) (h : m_H), m_Sim Y 4 [(0, m_r v0), (1, m_i v1), (2, m_i v2), (3, m_i v3)] [] h (f v2 v3 h ) := fun v2 v3 h  => ms_all fun r e => ih v2 v3 h r e
  refine ms_use ?_ e
  clear e r
  refine ms_iload_n (pc := 4) S 3 rfl rfl (m_dec e9_readyAfter 4 rfl) ?_
  refine ms_aload_n (pc := 5) S 0 rfl rfl (m_dec e9_readyAfter 5 rfl) ?_
  refine ms_grd fun g1 => ?_
  refine ms_getf (pc := 6) S lf_X9_60 rfl (m_dec e9_readyAfter 6 rfl) g1 ?_
  refine ms_icmp_ge (pc := 9) S (m_dec e9_readyAfter 7 rfl) rfl (fun q2 => ?_) (fun q2 => ?_)
  · refine ms_iload_n (pc := 12) S 1 rfl rfl (m_dec e9_readyAfter 8 rfl) ?_
    refine ms_iload_n (pc := 13) S 3 rfl rfl (m_dec e9_readyAfter 9 rfl) ?_
    refine ms_ishr (pc := 14) S (m_dec e9_readyAfter 10 rfl) ?_
    refine ms_iconst (pc := 15) S (m_dec e9_readyAfter 11 rfl) ?_
    refine ms_iand (pc := 16) S (m_dec e9_readyAfter 12 rfl) ?_
    refine ms_if_ne (pc := 17) S (m_dec e9_readyAfter 13 rfl) rfl (fun q3 => ?_) (fun q3 => ?_)
    · refine ms_aload_n (pc := 20) S 0 rfl rfl (m_dec e9_readyAfter 14 rfl) ?_
      refine ms_getf (pc := 21) S lf_X9_15 rfl (m_dec e9_readyAfter 15 rfl) g1 ?_
      refine ms_iload_n (pc := 24) S 3 rfl rfl (m_dec e9_readyAfter 16 rfl) ?_
      refine ms_iconst (pc := 25) S (m_dec e9_readyAfter 17 rfl) ?_
      refine ms_callSi (pc := 26) S hF (vals := [m_r (m_g h v0 1), m_i v3, m_i 0]) (st := [])  (hC := (k10_entry _ _ (m_g h v0 1) v3 0 h)) (hM := lm_X9_53) (hfr := (Nat.le_trans (by decide) hFn)) (hstk := rfl) (hcat := Nat.le_of_ble_eq_true rfl) (hd := (m_dec e9_readyAfter 18 rfl)) (k1 := fun r5 h4 => ?_)
      refine ms_iload_n (pc := 29) S 1 rfl rfl (m_dec e9_readyAfter 19 rfl) ?_
      refine ms_iconst (pc := 30) S (m_dec e9_readyAfter 20 rfl) ?_
      refine ms_ixor (pc := 31) S (m_dec e9_readyAfter 21 rfl) ?_
      refine ms_iand (pc := 32) S (m_dec e9_readyAfter 22 rfl) ?_
      refine ms_if_ne (pc := 33) S (m_dec e9_readyAfter 23 rfl) rfl (fun q6 => ?_) (fun q6 => ?_)
      · refine ms_iload_n (pc := 36) S 2 rfl rfl (m_dec e9_readyAfter 24 rfl) ?_
        refine ms_iconst (pc := 37) S (m_dec e9_readyAfter 25 rfl) ?_
        refine ms_iload_n (pc := 38) S 3 rfl rfl (m_dec e9_readyAfter 26 rfl) ?_
        refine ms_ishl (pc := 39) S (m_dec e9_readyAfter 27 rfl) ?_
        refine ms_ior (pc := 40) S (m_dec e9_readyAfter 28 rfl) ?_
        refine ms_nm (st := fun x7 => [m_i x7]) fun x7 => ?_
        refine ms_istore_n (pc := 41) S (L' := [(0, m_r v0), (1, m_i v1), (2, m_i x7), (3, m_i v3)]) [1, 2, 0, 3] rfl rfl (m_lt hN rfl) (m_dec e9_readyAfter 29 rfl) ?_
        refine ms_iinc (pc := 42) S (L' := [(0, m_r v0), (1, m_i v1), (2, m_i x7), (3, m_i (v3 + 1))]) 3 rfl [1, 2, 3, 0] rfl (m_lt hN rfl) (m_dec e9_readyAfter 30 rfl) ?_
        refine ms_goto (pc := 45) S (m_dec e9_readyAfter 31 rfl) rfl ?_
        exact ih x7 (v3 + 1) h4
      · refine ms_iinc (pc := 42) S (L' := [(0, m_r v0), (1, m_i v1), (2, m_i v2), (3, m_i (v3 + 1))]) 3 rfl [1, 2, 3, 0] rfl (m_lt hN rfl) (m_dec e9_readyAfter 30 rfl) ?_
        refine ms_goto (pc := 45) S (m_dec e9_readyAfter 31 rfl) rfl ?_
        exact ih v2 (v3 + 1) h4
    · refine ms_iinc (pc := 42) S (L' := [(0, m_r v0), (1, m_i v1), (2, m_i v2), (3, m_i (v3 + 1))]) 3 rfl [1, 2, 3, 0] rfl (m_lt hN rfl) (m_dec e9_readyAfter 30 rfl) ?_
      refine ms_goto (pc := 45) S (m_dec e9_readyAfter 31 rfl) rfl ?_
      exact ih v2 (v3 + 1) h
  · refine ms_iload_n (pc := 48) S 2 rfl rfl (m_dec e9_readyAfter 32 rfl) ?_
    exact ms_ret (pc := 49) E (m_dec e9_readyAfter 33 rfl) rfl
set_option maxHeartbeats 4000000 in
set_option maxRecDepth 20000 in
theorem s9_readyAfter {Y : m_Y Int} (S : m_Std Y RX9 cX9_readyAfter) (E : m_End Y cX9_readyAfter .ireturn (fun r => [m_i r])) {F : Nat} (hF : m_Rm Y F) (hFn : 1 ≤ F) (hN : Y.2.2.2.1 = 4) (v0 v1 : Int) (h : m_H) : m_Sim Y 0 [(0, m_r v0), (1, m_i v1)] [] h (t9_readyAfter v0 v1 h) := by
  unfold t9_readyAfter
  refine ms_iconst (pc := 0) S (m_dec e9_readyAfter 0 rfl) ?_
  refine ms_istore_n (pc := 1) S (L' := [(0, m_r v0), (1, m_i v1), (2, m_i 0)]) [1, 2, 0] rfl rfl (m_lt hN rfl) (m_dec e9_readyAfter 1 rfl) ?_
  refine ms_iconst (pc := 2) S (m_dec e9_readyAfter 2 rfl) ?_
  refine ms_istore_n (pc := 3) S (L' := [(0, m_r v0), (1, m_i v1), (2, m_i 0), (3, m_i 0)]) [1, 2, 3, 0] rfl rfl (m_lt hN rfl) (m_dec e9_readyAfter 3 rfl) ?_
  exact s9_readyAfter_c4 S E hF hFn hN v0 v1 0 0 h
theorem k9_readyAfter (l : Launch) (d : m_D) (v0 v1 : Int) (h : m_H) : m_Con l d yX9_readyAfter cX9_readyAfter 4 (some .int) 1 (fun r => [m_i r]) [m_r v0, m_i v1] h (t9_readyAfter v0 v1 h) :=
  m_con2 (by decide +kernel) (Nat.le_of_ble_eq_true rfl) (fun Y hN hRm hr hI S hfin => s9_readyAfter S (m_end_i S hr hfin) hRm (Nat.le_refl _) hN v0 v1 h)
set_option maxRecDepth 100000 in
theorem e9_leftFrom : ∀ q ∈ ([(0, .aload_n 0, 1), (1, .getfield 21, 3), (4, .iload_n 1, 1), (5, .ldc 43, 2), (7, .invokestatic 53, 3), (10, .ireturn, 1)] : List (Nat × Instr × Nat)), decode cX9_leftFrom q.1 = .ok q.2 := by decide +kernel
set_option maxHeartbeats 4000000 in
set_option maxRecDepth 20000 in
theorem s9_leftFrom {Y : m_Y Int} (S : m_Std Y RX9 cX9_leftFrom) (E : m_End Y cX9_leftFrom .ireturn (fun r => [m_i r])) {F : Nat} (hF : m_Rm Y F) (hFn : 1 ≤ F) (hN : Y.2.2.2.1 = 2) (v0 v1 : Int) (h : m_H) : m_Sim Y 0 [(0, m_r v0), (1, m_i v1)] [] h (t9_leftFrom v0 v1 h) := by
  unfold t9_leftFrom
  refine ms_aload_n (pc := 0) S 0 rfl rfl (m_dec e9_leftFrom 0 rfl) ?_
  refine ms_grd fun g1 => ?_
  refine ms_getf (pc := 1) S lf_X9_21 rfl (m_dec e9_leftFrom 1 rfl) g1 ?_
  refine ms_iload_n (pc := 4) S 1 rfl rfl (m_dec e9_leftFrom 2 rfl) ?_
  refine ms_ldc (pc := 5) S (n := 1000000) w_1291 (m_dec e9_leftFrom 3 rfl) ?_
  refine ms_callSi (pc := 7) S hF (vals := [m_r (m_g h v0 3), m_i v1, m_i 1000000]) (st := [])  (hC := (k10_entry _ _ (m_g h v0 3) v1 1000000 h)) (hM := lm_X9_53) (hfr := (Nat.le_trans (by decide) hFn)) (hstk := rfl) (hcat := Nat.le_of_ble_eq_true rfl) (hd := (m_dec e9_leftFrom 4 rfl)) (k1 := fun r3 h2 => ?_)
  exact ms_ret (pc := 10) E (m_dec e9_leftFrom 5 rfl) rfl
theorem k9_leftFrom (l : Launch) (d : m_D) (v0 v1 : Int) (h : m_H) : m_Con l d yX9_leftFrom cX9_leftFrom 2 (some .int) 1 (fun r => [m_i r]) [m_r v0, m_i v1] h (t9_leftFrom v0 v1 h) :=
  m_con2 (by decide +kernel) (Nat.le_of_ble_eq_true rfl) (fun Y hN hRm hr hI S hfin => s9_leftFrom S (m_end_i S hr hfin) hRm (Nat.le_refl _) hN v0 v1 h)
set_option maxRecDepth 100000 in
theorem e9_fitsRoom : ∀ q ∈ ([(0, .iconst 0, 1), (1, .istore_n 2, 1), (2, .iconst 0, 1), (3, .istore_n 3, 1), (4, .iconst 0, 1), (5, .istore 4, 2), (7, .iconst 0, 1), (8, .istore 5, 2), (10, .iload 5, 2), (12, .aload_n 0, 1), (13, .getfield 60, 3), (16, .if_icmp .ge 110, 3), (19, .aload_n 0, 1), (20, .getfield 9, 3), (23, .iload 5, 2), (25, .iconst (-1), 1), (26, .invokestatic 53, 3), (29, .istore 6, 2), (31, .iload_n 1, 1), (32, .iload 5, 2), (34, .ishr, 1), (35, .iconst 1, 1), (36, .iand, 1), (37, .ifCond .ne 6, 3), (40, .goto 80, 3), (43, .aload_n 0, 1), (44, .getfield 24, 3), (47, .iload 6, 2), (49, .invokevirtual 87, 3), (52, .ifCond .eq 9, 3), (55, .iinc 2 1, 3), (58, .goto 62, 3), (61, .iinc 3 1, 3), (64, .aload_n 0, 1), (65, .getfield 24, 3), (68, .iload 6, 2), (70, .invokevirtual 90, 3), (73, .bipush 8, 2), (75, .if_icmp .ne 45, 3), (78, .aload_n 0, 1), (79, .getfield 24, 3), (82, .iload 6, 2), (84, .iconst 0, 1), (85, .invokevirtual 93, 3), (88, .istore 7, 2), (90, .iload 7, 2), (92, .aload_n 0, 1), (93, .getfield 28, 3), (96, .if_icmp .ge 13, 3), (99, .iload 4, 2), (101, .iload 7, 2), (103, .ishr, 1), (104, .iconst 1, 1), (105, .iand, 1), (106, .ifCond .eq 5, 3), (109, .iconst 0, 1), (110, .ireturn, 1), (111, .iload 4, 2), (113, .iconst 1, 1), (114, .iload 7, 2), (116, .ishl, 1), (117, .ior, 1), (118, .istore 4, 2), (120, .iinc 5 1, 3), (123, .goto (-113), 3), (126, .iload_n 2, 1), (127, .iconst 1, 1), (128, .if_icmp .gt 15, 3), (131, .iload_n 3, 1), (132, .aload_n 0, 1), (133, .getfield 28, 3), (136, .if_icmp .gt 7, 3), (139, .iconst 1, 1), (140, .goto 4, 3), (143, .iconst 0, 1), (144, .ireturn, 1)] : List (Nat × Instr × Nat)), decode cX9_fitsRoom q.1 = .ok q.2 := by decide +kernel
set_option maxHeartbeats 4000000 in
set_option maxRecDepth 20000 in
theorem s9_fitsRoom_c10 {Y : m_Y Bool} (S : m_Std Y RX9 cX9_fitsRoom) (E : m_End Y cX9_fitsRoom .ireturn (fun r => [m_i (m_b2i r)])) {F : Nat} (hF : m_Rm Y F) (hFn : 2 ≤ F) (hN : Y.2.2.2.1 = 8) : ∀ (v0 v1 v2 v3 v4 v5 : Int) (h : m_H), m_Sim Y 10 [(0, m_r v0), (1, m_i v1), (2, m_i v2), (3, m_i v3), (4, m_i v4), (5, m_i v5)] [] h (t9_fitsRoom_c10 v0 v1 v2 v3 v4 v5 h) := by
  intro v0 v1 v2 v3 v4 v5 h
  refine ms_all fun r e => ?_
  refine t9_fitsRoom_c10.partial_correctness v0 v1 (motive := fun v2 v3 v4 v5 h r => m_Sim Y 10 [(0, m_r v0), (1, m_i v1), (2, m_i v2), (3, m_i v3), (4, m_i v4), (5, m_i v5)] [] h (some r)) ?_ v2 v3 v4 v5 h r e
  intro f ih v2 v3 v4 v5 h r e
  have ih : ∀ (v2 v3 v4 v5 : Int) (h : m_H), m_Sim Y 10 [(0, m_r v0), (1, m_i v1), (2, m_i v2), (3, m_i v3), (4, m_i v4), (5, m_i v5)] [] h (f v2 v3 v4 v5 h ) := fun v2 v3 v4 v5 h  => ms_all fun r e => ih v2 v3 v4 v5 h r e
  refine ms_use ?_ e
  clear e r
  refine ms_iload (pc := 10) S 5 rfl (m_dec e9_fitsRoom 8 rfl) ?_
  refine ms_aload_n (pc := 12) S 0 rfl rfl (m_dec e9_fitsRoom 9 rfl) ?_
  refine ms_grd fun g1 => ?_
  refine ms_getf (pc := 13) S lf_X9_60 rfl (m_dec e9_fitsRoom 10 rfl) g1 ?_
  refine ms_icmp_ge (pc := 16) S (m_dec e9_fitsRoom 11 rfl) rfl (fun q2 => ?_) (fun q2 => ?_)
  · refine ms_aload_n (pc := 19) S 0 rfl rfl (m_dec e9_fitsRoom 12 rfl) ?_
    refine ms_getf (pc := 20) S lf_X9_9 rfl (m_dec e9_fitsRoom 13 rfl) g1 ?_
    refine ms_iload (pc := 23) S 5 rfl (m_dec e9_fitsRoom 14 rfl) ?_
    refine ms_iconst (pc := 25) S (m_dec e9_fitsRoom 15 rfl) ?_
    refine ms_callSi (pc := 26) S hF (vals := [m_r (m_g h v0 0), m_i v5, m_i (-1)]) (st := [])  (hC := (k10_entry _ _ (m_g h v0 0) v5 (-1) h)) (hM := lm_X9_53) (hfr := (Nat.le_trans (by decide) hFn)) (hstk := rfl) (hcat := Nat.le_of_ble_eq_true rfl) (hd := (m_dec e9_fitsRoom 16 rfl)) (k1 := fun r4 h3 => ?_)
    refine ms_istore (pc := 29) S (L' := [(0, m_r v0), (1, m_i v1), (2, m_i v2), (3, m_i v3), (4, m_i v4), (5, m_i v5), (6, m_i r4)]) [1, 2, 3, 4, 5, 6, 0] rfl (m_lt hN rfl) (m_dec e9_fitsRoom 17 rfl) ?_
    refine ms_iload_n (pc := 31) S 1 rfl rfl (m_dec e9_fitsRoom 18 rfl) ?_
    refine ms_iload (pc := 32) S 5 rfl (m_dec e9_fitsRoom 19 rfl) ?_
    refine ms_ishr (pc := 34) S (m_dec e9_fitsRoom 20 rfl) ?_
    refine ms_iconst (pc := 35) S (m_dec e9_fitsRoom 21 rfl) ?_
    refine ms_iand (pc := 36) S (m_dec e9_fitsRoom 22 rfl) ?_
    refine ms_if_ne (pc := 37) S (m_dec e9_fitsRoom 23 rfl) rfl (fun q5 => ?_) (fun q5 => ?_)
    · refine ms_goto (pc := 40) S (m_dec e9_fitsRoom 24 rfl) rfl ?_
      refine ms_iinc (pc := 120) S (L' := [(0, m_r v0), (1, m_i v1), (2, m_i v2), (3, m_i v3), (4, m_i v4), (5, m_i (v5 + 1))]) 5 rfl [1, 2, 3, 4, 5, 0] rfl (m_lt hN rfl) (m_dec e9_fitsRoom 63 rfl) ?_
      refine ms_goto (pc := 123) S (m_dec e9_fitsRoom 64 rfl) rfl ?_
      exact ih v2 v3 v4 (v5 + 1) h3
    · refine ms_aload_n (pc := 43) S 0 rfl rfl (m_dec e9_fitsRoom 25 rfl) ?_
      refine ms_grd fun g6 => ?_
      refine ms_getf (pc := 44) S lf_X9_24 rfl (m_dec e9_fitsRoom 26 rfl) g6 ?_
      refine ms_iload (pc := 47) S 6 rfl (m_dec e9_fitsRoom 27 rfl) ?_
      refine ms_grd fun g7 => ?_
      refine ms_callVz (pc := 49) S hF (vals := [m_i r4]) (st := []) (hc := vw_6) (hci := by decide) (hcy := rfl) (ht := g7) (hC := (k6_isBench _ _ (m_g h3 v0 4) r4 h3)) (hM := lm_X9_87) (hfr := (Nat.le_trans (by decide) hFn)) (hstk := rfl) (hcat := Nat.le_of_ble_eq_true rfl) (hd := (m_dec e9_fitsRoom 28 rfl)) (k1 := fun r9 h8 => ?_)
      refine ms_ifb_eq (pc := 52) S (m_dec e9_fitsRoom 29 rfl) rfl (fun q10 => ?_) (fun q10 => ?_)
      · refine ms_iinc (pc := 55) S (L' := [(0, m_r v0), (1, m_i v1), (2, m_i (v2 + 1)), (3, m_i v3), (4, m_i v4), (5, m_i v5)]) 2 rfl [1, 2, 0, 3, 4, 5] rfl (m_lt hN rfl) (m_dec e9_fitsRoom 30 rfl) ?_
        refine ms_goto (pc := 58) S (m_dec e9_fitsRoom 31 rfl) rfl ?_
        refine ms_iinc (pc := 120) S (L' := [(0, m_r v0), (1, m_i v1), (2, m_i (v2 + 1)), (3, m_i v3), (4, m_i v4), (5, m_i (v5 + 1))]) 5 rfl [1, 2, 3, 4, 5, 0] rfl (m_lt hN rfl) (m_dec e9_fitsRoom 63 rfl) ?_
        refine ms_goto (pc := 123) S (m_dec e9_fitsRoom 64 rfl) rfl ?_
        exact ih (v2 + 1) v3 v4 (v5 + 1) h8
      · refine ms_iinc (pc := 61) S (L' := [(0, m_r v0), (1, m_i v1), (2, m_i v2), (3, m_i (v3 + 1)), (4, m_i v4), (5, m_i v5), (6, m_i r4)]) 3 rfl [1, 2, 3, 0, 4, 5, 6] rfl (m_lt hN rfl) (m_dec e9_fitsRoom 32 rfl) ?_
        refine ms_aload_n (pc := 64) S 0 rfl rfl (m_dec e9_fitsRoom 33 rfl) ?_
        refine ms_grd fun g11 => ?_
        refine ms_getf (pc := 65) S lf_X9_24 rfl (m_dec e9_fitsRoom 34 rfl) g11 ?_
        refine ms_iload (pc := 68) S 6 rfl (m_dec e9_fitsRoom 35 rfl) ?_
        refine ms_grd fun g12 => ?_
        refine ms_callVi (pc := 70) S hF (vals := [m_i r4]) (st := []) (hc := vw_6) (hci := by decide) (hcy := rfl) (ht := g12) (hC := (k6_verb _ _ (m_g h8 v0 4) r4 h8)) (hM := lm_X9_90) (hfr := (Nat.le_trans (by decide) hFn)) (hstk := rfl) (hcat := Nat.le_of_ble_eq_true rfl) (hd := (m_dec e9_fitsRoom 36 rfl)) (k1 := fun r14 h13 => ?_)
        refine ms_bipush (pc := 73) S (m_dec e9_fitsRoom 37 rfl) rfl ?_
        refine ms_icmp_ne (pc := 75) S (m_dec e9_fitsRoom 38 rfl) rfl (fun q15 => ?_) (fun q15 => ?_)
        · refine ms_aload_n (pc := 78) S 0 rfl rfl (m_dec e9_fitsRoom 39 rfl) ?_
          refine ms_grd fun g16 => ?_
          refine ms_getf (pc := 79) S lf_X9_24 rfl (m_dec e9_fitsRoom 40 rfl) g16 ?_
          refine ms_iload (pc := 82) S 6 rfl (m_dec e9_fitsRoom 41 rfl) ?_
          refine ms_iconst (pc := 84) S (m_dec e9_fitsRoom 42 rfl) ?_
          refine ms_grd fun g17 => ?_
          refine ms_callVi (pc := 85) S hF (vals := [m_i r4, m_i 0]) (st := []) (hc := vw_6) (hci := by decide) (hcy := rfl) (ht := g17) (hC := (k6_number _ _ (m_g h13 v0 4) r4 0 h13)) (hM := lm_X9_93) (hfr := (Nat.le_trans (by decide) hFn)) (hstk := rfl) (hcat := Nat.le_of_ble_eq_true rfl) (hd := (m_dec e9_fitsRoom 43 rfl)) (k1 := fun r19 h18 => ?_)
          refine ms_istore (pc := 88) S (L' := [(0, m_r v0), (1, m_i v1), (2, m_i v2), (3, m_i (v3 + 1)), (4, m_i v4), (5, m_i v5), (7, m_i r19)]) [1, 2, 3, 4, 5, 6, 0] rfl (m_lt hN rfl) (m_dec e9_fitsRoom 44 rfl) ?_
          refine ms_iload (pc := 90) S 6 rfl (m_dec e9_fitsRoom 45 rfl) ?_
          refine ms_aload_n (pc := 92) S 0 rfl rfl (m_dec e9_fitsRoom 46 rfl) ?_
          refine ms_grd fun g20 => ?_
          refine ms_getf (pc := 93) S lf_X9_28 rfl (m_dec e9_fitsRoom 47 rfl) g20 ?_
          refine ms_icmp_ge (pc := 96) S (m_dec e9_fitsRoom 48 rfl) rfl (fun q21 => ?_) (fun q21 => ?_)
          · refine ms_iload (pc := 99) S 4 rfl (m_dec e9_fitsRoom 49 rfl) ?_
            refine ms_iload (pc := 101) S 6 rfl (m_dec e9_fitsRoom 50 rfl) ?_
            refine ms_ishr (pc := 103) S (m_dec e9_fitsRoom 51 rfl) ?_
            refine ms_iconst (pc := 104) S (m_dec e9_fitsRoom 52 rfl) ?_
            refine ms_iand (pc := 105) S (m_dec e9_fitsRoom 53 rfl) ?_
            refine ms_if_eq (pc := 106) S (m_dec e9_fitsRoom 54 rfl) rfl (fun q22 => ?_) (fun q22 => ?_)
            · refine ms_iload (pc := 111) S 4 rfl (m_dec e9_fitsRoom 57 rfl) ?_
              refine ms_iconst (pc := 113) S (m_dec e9_fitsRoom 58 rfl) ?_
              refine ms_iload (pc := 114) S 6 rfl (m_dec e9_fitsRoom 59 rfl) ?_
              refine ms_ishl (pc := 116) S (m_dec e9_fitsRoom 60 rfl) ?_
              refine ms_ior (pc := 117) S (m_dec e9_fitsRoom 61 rfl) ?_
              refine ms_nm (st := fun x23 => [m_i x23]) fun x23 => ?_
              refine ms_istore (pc := 118) S (L' := [(0, m_r v0), (1, m_i v1), (2, m_i v2), (3, m_i (v3 + 1)), (4, m_i x23), (5, m_i v5)]) [1, 2, 3, 4, 0, 5] rfl (m_lt hN rfl) (m_dec e9_fitsRoom 62 rfl) ?_
              refine ms_iinc (pc := 120) S (L' := [(0, m_r v0), (1, m_i v1), (2, m_i v2), (3, m_i (v3 + 1)), (4, m_i x23), (5, m_i (v5 + 1))]) 5 rfl [1, 2, 3, 4, 5, 0] rfl (m_lt hN rfl) (m_dec e9_fitsRoom 63 rfl) ?_
              refine ms_goto (pc := 123) S (m_dec e9_fitsRoom 64 rfl) rfl ?_
              exact ih v2 (v3 + 1) x23 (v5 + 1) h18
            · refine ms_iconst (pc := 109) S (m_dec e9_fitsRoom 55 rfl) ?_
              exact ms_ret (pc := 110) E (m_dec e9_fitsRoom 56 rfl) rfl
          · refine ms_iconst (pc := 109) S (m_dec e9_fitsRoom 55 rfl) ?_
            exact ms_ret (pc := 110) E (m_dec e9_fitsRoom 56 rfl) rfl
        · refine ms_iinc (pc := 120) S (L' := [(0, m_r v0), (1, m_i v1), (2, m_i v2), (3, m_i (v3 + 1)), (4, m_i v4), (5, m_i (v5 + 1))]) 5 rfl [1, 2, 3, 4, 5, 0] rfl (m_lt hN rfl) (m_dec e9_fitsRoom 63 rfl) ?_
          refine ms_goto (pc := 123) S (m_dec e9_fitsRoom 64 rfl) rfl ?_
          exact ih v2 (v3 + 1) v4 (v5 + 1) h13
  · refine ms_iload_n (pc := 126) S 2 rfl rfl (m_dec e9_fitsRoom 65 rfl) ?_
    refine ms_iconst (pc := 127) S (m_dec e9_fitsRoom 66 rfl) ?_
    refine ms_icmp_gt (pc := 128) S (m_dec e9_fitsRoom 67 rfl) rfl (fun q24 => ?_) (fun q24 => ?_)
    · refine ms_iconst (pc := 143) S (m_dec e9_fitsRoom 74 rfl) ?_
      exact ms_ret (pc := 144) E (m_dec e9_fitsRoom 75 rfl) rfl
    · refine ms_iload_n (pc := 131) S 3 rfl rfl (m_dec e9_fitsRoom 68 rfl) ?_
      refine ms_aload_n (pc := 132) S 0 rfl rfl (m_dec e9_fitsRoom 69 rfl) ?_
      refine ms_getf (pc := 133) S lf_X9_28 rfl (m_dec e9_fitsRoom 70 rfl) g1 ?_
      refine ms_icmp_gt (pc := 136) S (m_dec e9_fitsRoom 71 rfl) rfl (fun q25 => ?_) (fun q25 => ?_)
      · refine ms_iconst (pc := 143) S (m_dec e9_fitsRoom 74 rfl) ?_
        exact ms_ret (pc := 144) E (m_dec e9_fitsRoom 75 rfl) rfl
      · refine ms_iconst (pc := 139) S (m_dec e9_fitsRoom 72 rfl) ?_
        refine ms_goto (pc := 140) S (m_dec e9_fitsRoom 73 rfl) rfl ?_
        exact ms_ret (pc := 144) E (m_dec e9_fitsRoom 75 rfl) rfl
set_option maxHeartbeats 4000000 in
set_option maxRecDepth 20000 in
theorem s9_fitsRoom {Y : m_Y Bool} (S : m_Std Y RX9 cX9_fitsRoom) (E : m_End Y cX9_fitsRoom .ireturn (fun r => [m_i (m_b2i r)])) {F : Nat} (hF : m_Rm Y F) (hFn : 2 ≤ F) (hN : Y.2.2.2.1 = 8) (v0 v1 : Int) (h : m_H) : m_Sim Y 0 [(0, m_r v0), (1, m_i v1)] [] h (t9_fitsRoom v0 v1 h) := by
  unfold t9_fitsRoom
  refine ms_iconst (pc := 0) S (m_dec e9_fitsRoom 0 rfl) ?_
  refine ms_istore_n (pc := 1) S (L' := [(0, m_r v0), (1, m_i v1), (2, m_i 0)]) [1, 2, 0] rfl rfl (m_lt hN rfl) (m_dec e9_fitsRoom 1 rfl) ?_
  refine ms_iconst (pc := 2) S (m_dec e9_fitsRoom 2 rfl) ?_
  refine ms_istore_n (pc := 3) S (L' := [(0, m_r v0), (1, m_i v1), (2, m_i 0), (3, m_i 0)]) [1, 2, 3, 0] rfl rfl (m_lt hN rfl) (m_dec e9_fitsRoom 3 rfl) ?_
  refine ms_iconst (pc := 4) S (m_dec e9_fitsRoom 4 rfl) ?_
  refine ms_istore (pc := 5) S (L' := [(0, m_r v0), (1, m_i v1), (2, m_i 0), (3, m_i 0), (4, m_i 0)]) [1, 2, 3, 4, 0] rfl (m_lt hN rfl) (m_dec e9_fitsRoom 5 rfl) ?_
  refine ms_iconst (pc := 7) S (m_dec e9_fitsRoom 6 rfl) ?_
  refine ms_istore (pc := 8) S (L' := [(0, m_r v0), (1, m_i v1), (2, m_i 0), (3, m_i 0), (4, m_i 0), (5, m_i 0)]) [1, 2, 3, 4, 5, 0] rfl (m_lt hN rfl) (m_dec e9_fitsRoom 7 rfl) ?_
  exact s9_fitsRoom_c10 S E hF hFn hN v0 v1 0 0 0 0 h
theorem k9_fitsRoom (l : Launch) (d : m_D) (v0 v1 : Int) (h : m_H) : m_Con l d yX9_fitsRoom cX9_fitsRoom 8 (some .boolean) 2 (fun r => [m_i (m_b2i r)]) [m_r v0, m_i v1] h (t9_fitsRoom v0 v1 h) :=
  m_con2 (by decide +kernel) (Nat.le_of_ble_eq_true rfl) (fun Y hN hRm hr hI S hfin => s9_fitsRoom S (m_end_z S hr hfin) hRm (Nat.le_refl _) hN v0 v1 h)
set_option maxRecDepth 100000 in
theorem e9_weigh : ∀ q ∈ ([(0, .iconst 1, 1), (1, .aload_n 0, 1), (2, .getfield 60, 3), (5, .ishl, 1), (6, .iconst 1, 1), (7, .isub, 1), (8, .istore_n 1, 1), (9, .aload_n 0, 1), (10, .getfield 21, 3), (13, .iload_n 1, 1), (14, .iconst 0, 1), (15, .invokestatic 61, 3), (18, .iload_n 1, 1), (19, .iconst 1, 1), (20, .isub, 1), (21, .istore_n 2, 1), (22, .iload_n 2, 1), (23, .ifCond .lt 84, 3), (26, .aload_n 0, 1), (27, .iload_n 2, 1), (28, .invokevirtual 81, 3), (31, .istore_n 3, 1), (32, .ldc 43, 2), (34, .istore 4, 2), (36, .iload_n 3, 1), (37, .istore 5, 2), (39, .iload 5, 2), (41, .ifCond .le 50, 3), (44, .aload_n 0, 1), (45, .iload_n 2, 1), (46, .iload 5, 2), (48, .ior, 1), (49, .invokevirtual 39, 3), (52, .iconst 1, 1), (53, .iadd, 1), (54, .iload 4, 2), (56, .if_icmp .ge 24, 3), (59, .aload_n 0, 1), (60, .iload 5, 2), (62, .invokevirtual 84, 3), (65, .ifCond .eq 15, 3), (68, .aload_n 0, 1), (69, .iload_n 2, 1), (70, .iload 5, 2), (72, .ior, 1), (73, .invokevirtual 39, 3), (76, .iconst 1, 1), (77, .iadd, 1), (78, .istore 4, 2), (80, .iload 5, 2), (82, .iconst 1, 1), (83, .isub, 1), (84, .iload_n 3, 1), (85, .iand, 1), (86, .istore 5, 2), (88, .goto (-49), 3), (91, .aload_n 0, 1), (92, .getfield 21, 3), (95, .iload_n 2, 1), (96, .iload 4, 2), (98, .invokestatic 61, 3), (101, .iinc 2 (-1), 3), (104, .goto (-82), 3), (107, .return_, 1)] : List (Nat × Instr × Nat)), decode cX9_weigh q.1 = .ok q.2 := by decide +kernel
set_option maxHeartbeats 4000000 in
set_option maxRecDepth 20000 in
theorem s9_weigh_x22 {Y : m_Y Unit} (S : m_Std Y RX9 cX9_weigh) (E : m_End Y cX9_weigh .return_ (fun _ => [])) {F : Nat} (hF : m_Rm Y F) (hFn : 3 ≤ F) (hN : Y.2.2.2.1 = 6) : ∀ (cc : Int) (v0 v2 v3 v4 v5 : Int) (h : m_H) (r : Unit × m_H), t9_weigh_x22 cc v0 v2 v3 v4 v5 h = some r → (cc = 22 → m_Sim Y 22 [(0, m_r v0), (2, m_i v2)] [] h (some r)) ∧ (cc = 39 → m_Sim Y 39 [(0, m_r v0), (2, m_i v2), (3, m_i v3), (4, m_i v4), (5, m_i v5)] [] h (some r)) ∧ (cc = 80 → m_Sim Y 80 [(0, m_r v0), (2, m_i v2), (3, m_i v3), (4, m_i v4), (5, m_i v5)] [] h (some r)) := by
  intro cc v0 v2 v3 v4 v5 h r e
  refine t9_weigh_x22.partial_correctness v0 (motive := fun cc v2 v3 v4 v5 h r => (cc = 22 → m_Sim Y 22 [(0, m_r v0), (2, m_i v2)] [] h (some r)) ∧ (cc = 39 → m_Sim Y 39 [(0, m_r v0), (2, m_i v2), (3, m_i v3), (4, m_i v4), (5, m_i v5)] [] h (some r)) ∧ (cc = 80 → m_Sim Y 80 [(0, m_r v0), (2, m_i v2), (3, m_i v3), (4, m_i v4), (5, m_i v5)] [] h (some r))) ?_ cc v2 v3 v4 v5 h r e
  intro f ih cc v2 v3 v4 v5 h r e
  have ih22 : ∀ (v2 v3 v4 v5 : Int) (h : m_H), m_Sim Y 22 [(0, m_r v0), (2, m_i v2)] [] h (f 22 v2 v3 v4 v5 h ) := fun v2 v3 v4 v5 h  => ms_all fun r e => (ih 22 v2 v3 v4 v5 h r e).1 rfl
  have ih39 : ∀ (v2 v3 v4 v5 : Int) (h : m_H), m_Sim Y 39 [(0, m_r v0), (2, m_i v2), (3, m_i v3), (4, m_i v4), (5, m_i v5)] [] h (f 39 v2 v3 v4 v5 h ) := fun v2 v3 v4 v5 h  => ms_all fun r e => (ih 39 v2 v3 v4 v5 h r e).2.1 rfl
  have ih80 : ∀ (v2 v3 v4 v5 : Int) (h : m_H), m_Sim Y 80 [(0, m_r v0), (2, m_i v2), (3, m_i v3), (4, m_i v4), (5, m_i v5)] [] h (f 80 v2 v3 v4 v5 h ) := fun v2 v3 v4 v5 h  => ms_all fun r e => (ih 80 v2 v3 v4 v5 h r e).2.2 rfl
  refine ⟨?_, ?_, ?_⟩
  · intro q0
    subst q0
    rw [if_pos rfl] at e
    refine ms_use ?_ e
    clear e r
    refine ms_iload_n (pc := 22) S 1 rfl rfl (m_dec e9_weigh 16 rfl) ?_
    refine ms_if_lt (pc := 23) S (m_dec e9_weigh 17 rfl) rfl (fun q1 => ?_) (fun q1 => ?_)
    · exact ms_ret (pc := 107) E (m_dec e9_weigh 63 rfl) rfl
    · refine ms_aload_n (pc := 26) S 0 rfl rfl (m_dec e9_weigh 18 rfl) ?_
      refine ms_iload_n (pc := 27) S 1 rfl rfl (m_dec e9_weigh 19 rfl) ?_
      refine ms_grd fun g2 => ?_
      refine ms_callVi (pc := 28) S hF (vals := [m_i v2]) (st := []) (hc := vw_9) (hci := by decide) (hcy := rfl) (ht := g2) (hC := (k9_readyAfter _ _ v0 v2 h)) (hM := lm_X9_81) (hfr := (Nat.le_trans (by decide) hFn)) (hstk := rfl) (hcat := Nat.le_of_ble_eq_true rfl) (hd := (m_dec e9_weigh 20 rfl)) (k1 := fun r4 h3 => ?_)
      refine ms_istore_n (pc := 31) S (L' := [(0, m_r v0), (2, m_i v2), (3, m_i r4)]) [1, 2, 0] rfl rfl (m_lt hN rfl) (m_dec e9_weigh 21 rfl) ?_
      refine ms_ldc (pc := 32) S (n := 1000000) w_1291 (m_dec e9_weigh 22 rfl) ?_
      refine ms_istore (pc := 34) S (L' := [(0, m_r v0), (2, m_i v2), (3, m_i r4), (4, m_i 1000000)]) [1, 2, 3, 0] rfl (m_lt hN rfl) (m_dec e9_weigh 23 rfl) ?_
      refine ms_iload_n (pc := 36) S 2 rfl rfl (m_dec e9_weigh 24 rfl) ?_
      refine ms_istore (pc := 37) S (L' := [(0, m_r v0), (2, m_i v2), (3, m_i r4), (4, m_i 1000000), (5, m_i r4)]) [1, 2, 3, 4, 0] rfl (m_lt hN rfl) (m_dec e9_weigh 25 rfl) ?_
      exact ih39 v2 r4 1000000 r4 h3
  · intro q0
    subst q0
    rw [if_neg (by decide), if_pos rfl] at e
    refine ms_use ?_ e
    clear e r
    refine ms_iload (pc := 39) S 4 rfl (m_dec e9_weigh 26 rfl) ?_
    refine ms_if_le (pc := 41) S (m_dec e9_weigh 27 rfl) rfl (fun q1 => ?_) (fun q1 => ?_)
    · refine ms_aload_n (pc := 44) S 0 rfl rfl (m_dec e9_weigh 28 rfl) ?_
      refine ms_iload_n (pc := 45) S 1 rfl rfl (m_dec e9_weigh 29 rfl) ?_
      refine ms_iload (pc := 46) S 4 rfl (m_dec e9_weigh 30 rfl) ?_
      refine ms_ior (pc := 48) S (m_dec e9_weigh 31 rfl) ?_
      refine ms_grd fun g2 => ?_
      refine ms_callVi (pc := 49) S hF (vals := [m_i (m_or v2 v5)]) (st := []) (hc := vw_9) (hci := by decide) (hcy := rfl) (ht := g2) (hC := (k9_leftFrom _ _ v0 (m_or v2 v5) h)) (hM := lm_X9_39) (hfr := (Nat.le_trans (by decide) hFn)) (hstk := rfl) (hcat := Nat.le_of_ble_eq_true rfl) (hd := (m_dec e9_weigh 32 rfl)) (k1 := fun r4 h3 => ?_)
      refine ms_iconst (pc := 52) S (m_dec e9_weigh 33 rfl) ?_
      refine ms_iadd (pc := 53) S (m_dec e9_weigh 34 rfl) ?_
      refine ms_iload (pc := 54) S 3 rfl (m_dec e9_weigh 35 rfl) ?_
      refine ms_icmp_ge (pc := 56) S (m_dec e9_weigh 36 rfl) rfl (fun q5 => ?_) (fun q5 => ?_)
      · refine ms_aload_n (pc := 59) S 0 rfl rfl (m_dec e9_weigh 37 rfl) ?_
        refine ms_iload (pc := 60) S 4 rfl (m_dec e9_weigh 38 rfl) ?_
        refine ms_grd fun g6 => ?_
        refine ms_callVz (pc := 62) S hF (vals := [m_i v5]) (st := []) (hc := vw_9) (hci := by decide) (hcy := rfl) (ht := g6) (hC := (k9_fitsRoom _ _ v0 v5 h3)) (hM := lm_X9_84) (hfr := (Nat.le_trans (by decide) hFn)) (hstk := rfl) (hcat := Nat.le_of_ble_eq_true rfl) (hd := (m_dec e9_weigh 39 rfl)) (k1 := fun r8 h7 => ?_)
        refine ms_ifb_eq (pc := 65) S (m_dec e9_weigh 40 rfl) rfl (fun q9 => ?_) (fun q9 => ?_)
        · refine ms_aload_n (pc := 68) S 0 rfl rfl (m_dec e9_weigh 41 rfl) ?_
          refine ms_iload_n (pc := 69) S 1 rfl rfl (m_dec e9_weigh 42 rfl) ?_
          refine ms_iload (pc := 70) S 4 rfl (m_dec e9_weigh 43 rfl) ?_
          refine ms_ior (pc := 72) S (m_dec e9_weigh 44 rfl) ?_
          refine ms_grd fun g10 => ?_
          refine ms_callVi (pc := 73) S hF (vals := [m_i (m_or v2 v5)]) (st := []) (hc := vw_9) (hci := by decide) (hcy := rfl) (ht := g10) (hC := (k9_leftFrom _ _ v0 (m_or v2 v5) h7)) (hM := lm_X9_39) (hfr := (Nat.le_trans (by decide) hFn)) (hstk := rfl) (hcat := Nat.le_of_ble_eq_true rfl) (hd := (m_dec e9_weigh 45 rfl)) (k1 := fun r12 h11 => ?_)
          refine ms_iconst (pc := 76) S (m_dec e9_weigh 46 rfl) ?_
          refine ms_iadd (pc := 77) S (m_dec e9_weigh 47 rfl) ?_
          refine ms_nm (st := fun x13 => [m_i x13]) fun x13 => ?_
          refine ms_istore (pc := 78) S (L' := [(0, m_r v0), (2, m_i v2), (3, m_i v3), (4, m_i x13), (5, m_i v5)]) [1, 2, 3, 0, 4] rfl (m_lt hN rfl) (m_dec e9_weigh 48 rfl) ?_
          exact ih80 v2 v3 x13 v5 h11
        · exact ih80 v2 v3 v4 v5 h7
      · exact ih80 v2 v3 v4 v5 h3
    · refine ms_aload_n (pc := 91) S 0 rfl rfl (m_dec e9_weigh 56 rfl) ?_
      refine ms_grd fun g14 => ?_
      refine ms_getf (pc := 92) S lf_X9_21 rfl (m_dec e9_weigh 57 rfl) g14 ?_
      refine ms_iload_n (pc := 95) S 1 rfl rfl (m_dec e9_weigh 58 rfl) ?_
      refine ms_iload (pc := 96) S 3 rfl (m_dec e9_weigh 59 rfl) ?_
      refine ms_callSv (pc := 98) S hF (vals := [m_r (m_g h v0 3), m_i v2, m_i v4]) (st := [])  (hC := (k10_setEntry _ _ (m_g h v0 3) v2 v4 h)) (hM := lm_X9_61) (hfr := (Nat.le_trans (by decide) hFn)) (hstk := rfl) (hcat := Nat.le_of_ble_eq_true rfl) (hd := (m_dec e9_weigh 60 rfl)) (k1 := fun h15 => ?_)
      refine ms_iinc (pc := 101) S (L' := [(0, m_r v0), (2, m_i (v2 + (-1)))]) 1 rfl [1, 0] rfl (m_lt hN rfl) (m_dec e9_weigh 61 rfl) ?_
      refine ms_goto (pc := 104) S (m_dec e9_weigh 62 rfl) rfl ?_
      exact ih22 (v2 + (-1)) 0 0 0 h15
  · intro q0
    subst q0
    rw [if_neg (by decide), if_neg (by decide), if_pos rfl] at e
    refine ms_use ?_ e
    clear e r
    refine ms_iload (pc := 80) S 4 rfl (m_dec e9_weigh 49 rfl) ?_
    refine ms_iconst (pc := 82) S (m_dec e9_weigh 50 rfl) ?_
    refine ms_isub (pc := 83) S (m_dec e9_weigh 51 rfl) ?_
    refine ms_iload_n (pc := 84) S 2 rfl rfl (m_dec e9_weigh 52 rfl) ?_
    refine ms_iand (pc := 85) S (m_dec e9_weigh 53 rfl) ?_
    refine ms_nm (st := fun x1 => [m_i x1]) fun x1 => ?_
    refine ms_istore (pc := 86) S (L' := [(0, m_r v0), (2, m_i v2), (3, m_i v3), (4, m_i v4), (5, m_i x1)]) [1, 2, 3, 4, 0] rfl (m_lt hN rfl) (m_dec e9_weigh 54 rfl) ?_
    refine ms_goto (pc := 88) S (m_dec e9_weigh 55 rfl) rfl ?_
    exact ih39 v2 v3 v4 x1 h
set_option maxHeartbeats 4000000 in
set_option maxRecDepth 20000 in
theorem s9_weigh_c22 {Y : m_Y Unit} (S : m_Std Y RX9 cX9_weigh) (E : m_End Y cX9_weigh .return_ (fun _ => [])) {F : Nat} (hF : m_Rm Y F) (hFn : 3 ≤ F) (hN : Y.2.2.2.1 = 6) (v0 v2 v3 v4 v5 : Int) (h : m_H) : m_Sim Y 22 [(0, m_r v0), (2, m_i v2)] [] h (t9_weigh_x22 22 v0 v2 v3 v4 v5 h) := ms_all fun r e => (s9_weigh_x22 S E hF hFn hN 22 v0 v2 v3 v4 v5 h r e).1 rfl
set_option maxHeartbeats 4000000 in
set_option maxRecDepth 20000 in
theorem s9_weigh_c39 {Y : m_Y Unit} (S : m_Std Y RX9 cX9_weigh) (E : m_End Y cX9_weigh .return_ (fun _ => [])) {F : Nat} (hF : m_Rm Y F) (hFn : 3 ≤ F) (hN : Y.2.2.2.1 = 6) (v0 v2 v3 v4 v5 : Int) (h : m_H) : m_Sim Y 39 [(0, m_r v0), (2, m_i v2), (3, m_i v3), (4, m_i v4), (5, m_i v5)] [] h (t9_weigh_x22 39 v0 v2 v3 v4 v5 h) := ms_all fun r e => (s9_weigh_x22 S E hF hFn hN 39 v0 v2 v3 v4 v5 h r e).2.1 rfl
set_option maxHeartbeats 4000000 in
set_option maxRecDepth 20000 in
theorem s9_weigh_c80 {Y : m_Y Unit} (S : m_Std Y RX9 cX9_weigh) (E : m_End Y cX9_weigh .return_ (fun _ => [])) {F : Nat} (hF : m_Rm Y F) (hFn : 3 ≤ F) (hN : Y.2.2.2.1 = 6) (v0 v2 v3 v4 v5 : Int) (h : m_H) : m_Sim Y 80 [(0, m_r v0), (2, m_i v2), (3, m_i v3), (4, m_i v4), (5, m_i v5)] [] h (t9_weigh_x22 80 v0 v2 v3 v4 v5 h) := ms_all fun r e => (s9_weigh_x22 S E hF hFn hN 80 v0 v2 v3 v4 v5 h r e).2.2 rfl
set_option maxHeartbeats 4000000 in
set_option maxRecDepth 20000 in
theorem s9_weigh {Y : m_Y Unit} (S : m_Std Y RX9 cX9_weigh) (E : m_End Y cX9_weigh .return_ (fun _ => [])) {F : Nat} (hF : m_Rm Y F) (hFn : 3 ≤ F) (hN : Y.2.2.2.1 = 6) (v0 : Int) (h : m_H) : m_Sim Y 0 [(0, m_r v0)] [] h (t9_weigh v0 h) := by
  unfold t9_weigh
  refine ms_iconst (pc := 0) S (m_dec e9_weigh 0 rfl) ?_
  refine ms_aload_n (pc := 1) S 0 rfl rfl (m_dec e9_weigh 1 rfl) ?_
  refine ms_grd fun g1 => ?_
  refine ms_getf (pc := 2) S lf_X9_60 rfl (m_dec e9_weigh 2 rfl) g1 ?_
  refine ms_ishl (pc := 5) S (m_dec e9_weigh 3 rfl) ?_
  refine ms_iconst (pc := 6) S (m_dec e9_weigh 4 rfl) ?_
  refine ms_isub (pc := 7) S (m_dec e9_weigh 5 rfl) ?_
  refine ms_nm (st := fun x2 => [m_i x2]) fun x2 => ?_
  refine ms_istore_n (pc := 8) S (L' := [(0, m_r v0), (1, m_i x2)]) [1, 0] rfl rfl (m_lt hN rfl) (m_dec e9_weigh 6 rfl) ?_
  refine ms_aload_n (pc := 9) S 0 rfl rfl (m_dec e9_weigh 7 rfl) ?_
  refine ms_getf (pc := 10) S lf_X9_21 rfl (m_dec e9_weigh 8 rfl) g1 ?_
  refine ms_iload_n (pc := 13) S 1 rfl rfl (m_dec e9_weigh 9 rfl) ?_
  refine ms_iconst (pc := 14) S (m_dec e9_weigh 10 rfl) ?_
  refine ms_callSv (pc := 15) S hF (vals := [m_r (m_g h v0 3), m_i x2, m_i 0]) (st := [])  (hC := (k10_setEntry _ _ (m_g h v0 3) x2 0 h)) (hM := lm_X9_61) (hfr := (Nat.le_trans (by decide) hFn)) (hstk := rfl) (hcat := Nat.le_of_ble_eq_true rfl) (hd := (m_dec e9_weigh 11 rfl)) (k1 := fun h3 => ?_)
  refine ms_iload_n (pc := 18) S 1 rfl rfl (m_dec e9_weigh 12 rfl) ?_
  refine ms_iconst (pc := 19) S (m_dec e9_weigh 13 rfl) ?_
  refine ms_isub (pc := 20) S (m_dec e9_weigh 14 rfl) ?_
  refine ms_nm (st := fun x5 => [m_i x5]) fun x5 => ?_
  refine ms_istore_n (pc := 21) S (L' := [(0, m_r v0), (2, m_i x5)]) [1, 0] rfl rfl (m_lt hN rfl) (m_dec e9_weigh 15 rfl) ?_
  exact s9_weigh_c22 S E hF hFn hN v0 x5 0 0 0 h3
theorem k9_weigh (l : Launch) (d : m_D) (v0 : Int) (h : m_H) : m_Con l d yX9_weigh cX9_weigh 6 none 3 (fun _ => []) [m_r v0] h (t9_weigh v0 h) :=
  m_con2 (by decide +kernel) (Nat.le_of_ble_eq_true rfl) (fun Y hN hRm hr hI S hfin => s9_weigh S (m_end_v S hr hfin) hRm (Nat.le_refl _) hN v0 h)
set_option maxRecDepth 100000 in
theorem e9_leastTurns : ∀ q ∈ ([(0, .aload_n 0, 1), (1, .aload_n 1, 1), (2, .putfield 24, 3), (5, .aload_n 0, 1), (6, .iload_n 2, 1), (7, .putfield 28, 3), (10, .aload_n 0, 1), (11, .invokevirtual 32, 3), (14, .ifCond .ne 5, 3), (17, .iconst (-1), 1), (18, .ireturn, 1), (19, .aload_n 0, 1), (20, .invokevirtual 36, 3), (23, .aload_n 0, 1), (24, .iconst 0, 1), (25, .invokevirtual 39, 3), (28, .ldc 43, 2), (30, .if_icmp .lt 7, 3), (33, .iconst (-1), 1), (34, .goto 8, 3), (37, .aload_n 0, 1), (38, .iconst 0, 1), (39, .invokevirtual 39, 3), (42, .ireturn, 1)] : List (Nat × Instr × Nat)), decode cX9_leastTurns q.1 = .ok q.2 := by decide +kernel
set_option maxHeartbeats 4000000 in
set_option maxRecDepth 20000 in
theorem s9_leastTurns {Y : m_Y Int} (S : m_Std Y RX9 cX9_leastTurns) (E : m_End Y cX9_leastTurns .ireturn (fun r => [m_i r])) {F : Nat} (hF : m_Rm Y F) (hFn : 4 ≤ F) (hN : Y.2.2.2.1 = 3) (v0 v1 v2 : Int) (h : m_H) : m_Sim Y 0 [(0, m_r v0), (1, m_r v1), (2, m_i v2)] [] h (t9_leastTurns v0 v1 v2 h) := by
  unfold t9_leastTurns
  refine ms_aload_n (pc := 0) S 0 rfl rfl (m_dec e9_leastTurns 0 rfl) ?_
  refine ms_aload_n (pc := 1) S 1 rfl rfl (m_dec e9_leastTurns 1 rfl) ?_
  refine ms_grd fun g1 => ?_
  refine ms_putf (pc := 2) S lp_X9_24 (fun z => by cases z) rfl (fun d => m_fitO _ d _) (m_dec e9_leastTurns 2 rfl) g1 (fun h2 => ?_)
  refine ms_aload_n (pc := 5) S 0 rfl rfl (m_dec e9_leastTurns 3 rfl) ?_
  refine ms_iload_n (pc := 6) S 2 rfl rfl (m_dec e9_leastTurns 4 rfl) ?_
  refine ms_grd fun g3 => ?_
  refine ms_putf (pc := 7) S lp_X9_28 (fun z => by cases z) rfl (fun d => m_fitI d _) (m_dec e9_leastTurns 5 rfl) g3 (fun h4 => ?_)
  refine ms_aload_n (pc := 10) S 0 rfl rfl (m_dec e9_leastTurns 6 rfl) ?_
  refine ms_grd fun g5 => ?_
  refine ms_callVz (pc := 11) S hF (vals := []) (st := []) (hc := vw_9) (hci := by decide) (hcy := rfl) (ht := g5) (hC := (k9_gather _ _ v0 h4)) (hM := lm_X9_32) (hfr := (Nat.le_trans (by decide) hFn)) (hstk := rfl) (hcat := Nat.le_of_ble_eq_true rfl) (hd := (m_dec e9_leastTurns 7 rfl)) (k1 := fun r7 h6 => ?_)
  refine ms_ifb_ne (pc := 14) S (m_dec e9_leastTurns 8 rfl) rfl (fun q8 => ?_) (fun q8 => ?_)
  · refine ms_aload_n (pc := 19) S 0 rfl rfl (m_dec e9_leastTurns 11 rfl) ?_
    refine ms_grd fun g9 => ?_
    refine ms_callVv (pc := 20) S hF (vals := []) (st := []) (hc := vw_9) (hci := by decide) (hcy := rfl) (ht := g9) (hC := (k9_weigh _ _ v0 h6)) (hM := lm_X9_36) (hfr := (Nat.le_trans (by decide) hFn)) (hstk := rfl) (hcat := Nat.le_of_ble_eq_true rfl) (hd := (m_dec e9_leastTurns 12 rfl)) (k1 := fun h10 => ?_)
    refine ms_aload_n (pc := 23) S 0 rfl rfl (m_dec e9_leastTurns 13 rfl) ?_
    refine ms_iconst (pc := 24) S (m_dec e9_leastTurns 14 rfl) ?_
    refine ms_grd fun g12 => ?_
    refine ms_callVi (pc := 25) S hF (vals := [m_i 0]) (st := []) (hc := vw_9) (hci := by decide) (hcy := rfl) (ht := g12) (hC := (k9_leftFrom _ _ v0 0 h10)) (hM := lm_X9_39) (hfr := (Nat.le_trans (by decide) hFn)) (hstk := rfl) (hcat := Nat.le_of_ble_eq_true rfl) (hd := (m_dec e9_leastTurns 15 rfl)) (k1 := fun r14 h13 => ?_)
    refine ms_ldc (pc := 28) S (n := 1000000) w_1291 (m_dec e9_leastTurns 16 rfl) ?_
    refine ms_icmp_lt (pc := 30) S (m_dec e9_leastTurns 17 rfl) rfl (fun q15 => ?_) (fun q15 => ?_)
    · refine ms_aload_n (pc := 37) S 0 rfl rfl (m_dec e9_leastTurns 20 rfl) ?_
      refine ms_iconst (pc := 38) S (m_dec e9_leastTurns 21 rfl) ?_
      refine ms_grd fun g16 => ?_
      refine ms_callVi (pc := 39) S hF (vals := [m_i 0]) (st := []) (hc := vw_9) (hci := by decide) (hcy := rfl) (ht := g16) (hC := (k9_leftFrom _ _ v0 0 h13)) (hM := lm_X9_39) (hfr := (Nat.le_trans (by decide) hFn)) (hstk := rfl) (hcat := Nat.le_of_ble_eq_true rfl) (hd := (m_dec e9_leastTurns 22 rfl)) (k1 := fun r18 h17 => ?_)
      exact ms_ret (pc := 42) E (m_dec e9_leastTurns 23 rfl) rfl
    · refine ms_iconst (pc := 33) S (m_dec e9_leastTurns 18 rfl) ?_
      refine ms_goto (pc := 34) S (m_dec e9_leastTurns 19 rfl) rfl ?_
      exact ms_ret (pc := 42) E (m_dec e9_leastTurns 23 rfl) rfl
  · refine ms_iconst (pc := 17) S (m_dec e9_leastTurns 9 rfl) ?_
    exact ms_ret (pc := 18) E (m_dec e9_leastTurns 10 rfl) rfl
theorem k9_leastTurns (l : Launch) (d : m_D) (v0 v1 v2 : Int) (h : m_H) : m_Con l d yX9_leastTurns cX9_leastTurns 3 (some .int) 4 (fun r => [m_i r]) [m_r v0, m_r v1, m_i v2] h (t9_leastTurns v0 v1 v2 h) :=
  m_con2 (by decide +kernel) (Nat.le_of_ble_eq_true rfl) (fun Y hN hRm hr hI S hfin => s9_leastTurns S (m_end_i S hr hfin) hRm (Nat.le_refl _) hN v0 v1 v2 h)
set_option maxRecDepth 100000 in
theorem e9_firstHeap : ∀ q ∈ ([(0, .aload_n 0, 1), (1, .iload_n 1, 1), (2, .invokevirtual 81, 3), (5, .istore_n 2, 1), (6, .iconst 1, 1), (7, .istore_n 3, 1), (8, .iload_n 3, 1), (9, .iload_n 2, 1), (10, .if_icmp .gt 44, 3), (13, .iload_n 3, 1), (14, .iload_n 2, 1), (15, .iconst (-1), 1), (16, .ixor, 1), (17, .iand, 1), (18, .ifCond .ne 30, 3), (21, .aload_n 0, 1), (22, .iload_n 1, 1), (23, .iload_n 3, 1), (24, .ior, 1), (25, .invokevirtual 39, 3), (28, .iconst 1, 1), (29, .iadd, 1), (30, .aload_n 0, 1), (31, .iload_n 1, 1), (32, .invokevirtual 39, 3), (35, .if_icmp .ne 13, 3), (38, .aload_n 0, 1), (39, .iload_n 3, 1), (40, .invokevirtual 84, 3), (43, .ifCond .eq 5, 3), (46, .iload_n 3, 1), (47, .ireturn, 1), (48, .iinc 3 1, 3), (51, .goto (-43), 3), (54, .iconst 0, 1), (55, .ireturn, 1)] : List (Nat × Instr × Nat)), decode cX9_firstHeap q.1 = .ok q.2 := by decide +kernel
set_option maxHeartbeats 4000000 in
set_option maxRecDepth 20000 in
theorem s9_firstHeap_c8 {Y : m_Y Int} (S : m_Std Y RX9 cX9_firstHeap) (E : m_End Y cX9_firstHeap .ireturn (fun r => [m_i r])) {F : Nat} (hF : m_Rm Y F) (hFn : 3 ≤ F) (hN : Y.2.2.2.1 = 4) : ∀ (v0 v1 v2 v3 : Int) (h : m_H), m_Sim Y 8 [(0, m_r v0), (1, m_i v1), (2, m_i v2), (3, m_i v3)] [] h (t9_firstHeap_c8 v0 v1 v2 v3 h) := by
  intro v0 v1 v2 v3 h
  refine ms_all fun r e => ?_
  refine t9_firstHeap_c8.partial_correctness v0 v1 v2 (motive := fun v3 h r => m_Sim Y 8 [(0, m_r v0), (1, m_i v1), (2, m_i v2), (3, m_i v3)] [] h (some r)) ?_ v3 h r e
  intro f ih v3 h r e
  have ih : ∀ (v3 : Int) (h : m_H), m_Sim Y 8 [(0, m_r v0), (1, m_i v1), (2, m_i v2), (3, m_i v3)] [] h (f v3 h ) := fun v3 h  => ms_all fun r e => ih v3 h r e
  refine ms_use ?_ e
  clear e r
  refine ms_iload_n (pc := 8) S 3 rfl rfl (m_dec e9_firstHeap 6 rfl) ?_
  refine ms_iload_n (pc := 9) S 2 rfl rfl (m_dec e9_firstHeap 7 rfl) ?_
  refine ms_icmp_gt (pc := 10) S (m_dec e9_firstHeap 8 rfl) rfl (fun q1 => ?_) (fun q1 => ?_)
  · refine ms_iconst (pc := 54) S (m_dec e9_firstHeap 34 rfl) ?_
    exact ms_ret (pc := 55) E (m_dec e9_firstHeap 35 rfl) rfl
  · refine ms_iload_n (pc := 13) S 3 rfl rfl (m_dec e9_firstHeap 9 rfl) ?_
    refine ms_iload_n (pc := 14) S 2 rfl rfl (m_dec e9_firstHeap 10 rfl) ?_
    refine ms_iconst (pc := 15) S (m_dec e9_firstHeap 11 rfl) ?_
    refine ms_ixor (pc := 16) S (m_dec e9_firstHeap 12 rfl) ?_
    refine ms_iand (pc := 17) S (m_dec e9_firstHeap 13 rfl) ?_
    refine ms_if_ne (pc := 18) S (m_dec e9_firstHeap 14 rfl) rfl (fun q2 => ?_) (fun q2 => ?_)
    · refine ms_aload_n (pc := 21) S 0 rfl rfl (m_dec e9_firstHeap 15 rfl) ?_
      refine ms_iload_n (pc := 22) S 1 rfl rfl (m_dec e9_firstHeap 16 rfl) ?_
      refine ms_iload_n (pc := 23) S 3 rfl rfl (m_dec e9_firstHeap 17 rfl) ?_
      refine ms_ior (pc := 24) S (m_dec e9_firstHeap 18 rfl) ?_
      refine ms_grd fun g3 => ?_
      refine ms_callVi (pc := 25) S hF (vals := [m_i (m_or v1 v3)]) (st := []) (hc := vw_9) (hci := by decide) (hcy := rfl) (ht := g3) (hC := (k9_leftFrom _ _ v0 (m_or v1 v3) h)) (hM := lm_X9_39) (hfr := (Nat.le_trans (by decide) hFn)) (hstk := rfl) (hcat := Nat.le_of_ble_eq_true rfl) (hd := (m_dec e9_firstHeap 19 rfl)) (k1 := fun r5 h4 => ?_)
      refine ms_iconst (pc := 28) S (m_dec e9_firstHeap 20 rfl) ?_
      refine ms_iadd (pc := 29) S (m_dec e9_firstHeap 21 rfl) ?_
      refine ms_aload_n (pc := 30) S 0 rfl rfl (m_dec e9_firstHeap 22 rfl) ?_
      refine ms_iload_n (pc := 31) S 1 rfl rfl (m_dec e9_firstHeap 23 rfl) ?_
      refine ms_grd fun g6 => ?_
      refine ms_callVi (pc := 32) S hF (vals := [m_i v1]) (st := [m_i (r5 + 1)]) (hc := vw_9) (hci := by decide) (hcy := rfl) (ht := g6) (hC := (k9_leftFrom _ _ v0 v1 h4)) (hM := lm_X9_39) (hfr := (Nat.le_trans (by decide) hFn)) (hstk := rfl) (hcat := Nat.le_of_ble_eq_true rfl) (hd := (m_dec e9_firstHeap 24 rfl)) (k1 := fun r8 h7 => ?_)
      refine ms_icmp_ne (pc := 35) S (m_dec e9_firstHeap 25 rfl) rfl (fun q9 => ?_) (fun q9 => ?_)
      · refine ms_aload_n (pc := 38) S 0 rfl rfl (m_dec e9_firstHeap 26 rfl) ?_
        refine ms_iload_n (pc := 39) S 3 rfl rfl (m_dec e9_firstHeap 27 rfl) ?_
        refine ms_grd fun g10 => ?_
        refine ms_callVz (pc := 40) S hF (vals := [m_i v3]) (st := []) (hc := vw_9) (hci := by decide) (hcy := rfl) (ht := g10) (hC := (k9_fitsRoom _ _ v0 v3 h7)) (hM := lm_X9_84) (hfr := (Nat.le_trans (by decide) hFn)) (hstk := rfl) (hcat := Nat.le_of_ble_eq_true rfl) (hd := (m_dec e9_firstHeap 28 rfl)) (k1 := fun r12 h11 => ?_)
        refine ms_ifb_eq (pc := 43) S (m_dec e9_firstHeap 29 rfl) rfl (fun q13 => ?_) (fun q13 => ?_)
        · refine ms_iload_n (pc := 46) S 3 rfl rfl (m_dec e9_firstHeap 30 rfl) ?_
          exact ms_ret (pc := 47) E (m_dec e9_firstHeap 31 rfl) rfl
        · refine ms_iinc (pc := 48) S (L' := [(0, m_r v0), (1, m_i v1), (2, m_i v2), (3, m_i (v3 + 1))]) 3 rfl [1, 2, 3, 0] rfl (m_lt hN rfl) (m_dec e9_firstHeap 32 rfl) ?_
          refine ms_goto (pc := 51) S (m_dec e9_firstHeap 33 rfl) rfl ?_
          exact ih (v3 + 1) h11
      · refine ms_iinc (pc := 48) S (L' := [(0, m_r v0), (1, m_i v1), (2, m_i v2), (3, m_i (v3 + 1))]) 3 rfl [1, 2, 3, 0] rfl (m_lt hN rfl) (m_dec e9_firstHeap 32 rfl) ?_
        refine ms_goto (pc := 51) S (m_dec e9_firstHeap 33 rfl) rfl ?_
        exact ih (v3 + 1) h7
    · refine ms_iinc (pc := 48) S (L' := [(0, m_r v0), (1, m_i v1), (2, m_i v2), (3, m_i (v3 + 1))]) 3 rfl [1, 2, 3, 0] rfl (m_lt hN rfl) (m_dec e9_firstHeap 32 rfl) ?_
      refine ms_goto (pc := 51) S (m_dec e9_firstHeap 33 rfl) rfl ?_
      exact ih (v3 + 1) h
set_option maxHeartbeats 4000000 in
set_option maxRecDepth 20000 in
theorem s9_firstHeap {Y : m_Y Int} (S : m_Std Y RX9 cX9_firstHeap) (E : m_End Y cX9_firstHeap .ireturn (fun r => [m_i r])) {F : Nat} (hF : m_Rm Y F) (hFn : 3 ≤ F) (hN : Y.2.2.2.1 = 4) (v0 v1 : Int) (h : m_H) : m_Sim Y 0 [(0, m_r v0), (1, m_i v1)] [] h (t9_firstHeap v0 v1 h) := by
  unfold t9_firstHeap
  refine ms_aload_n (pc := 0) S 0 rfl rfl (m_dec e9_firstHeap 0 rfl) ?_
  refine ms_iload_n (pc := 1) S 1 rfl rfl (m_dec e9_firstHeap 1 rfl) ?_
  refine ms_grd fun g1 => ?_
  refine ms_callVi (pc := 2) S hF (vals := [m_i v1]) (st := []) (hc := vw_9) (hci := by decide) (hcy := rfl) (ht := g1) (hC := (k9_readyAfter _ _ v0 v1 h)) (hM := lm_X9_81) (hfr := (Nat.le_trans (by decide) hFn)) (hstk := rfl) (hcat := Nat.le_of_ble_eq_true rfl) (hd := (m_dec e9_firstHeap 2 rfl)) (k1 := fun r3 h2 => ?_)
  refine ms_istore_n (pc := 5) S (L' := [(0, m_r v0), (1, m_i v1), (2, m_i r3)]) [1, 2, 0] rfl rfl (m_lt hN rfl) (m_dec e9_firstHeap 3 rfl) ?_
  refine ms_iconst (pc := 6) S (m_dec e9_firstHeap 4 rfl) ?_
  refine ms_istore_n (pc := 7) S (L' := [(0, m_r v0), (1, m_i v1), (2, m_i r3), (3, m_i 1)]) [1, 2, 3, 0] rfl rfl (m_lt hN rfl) (m_dec e9_firstHeap 5 rfl) ?_
  exact s9_firstHeap_c8 S E hF hFn hN v0 v1 r3 1 h2
theorem k9_firstHeap (l : Launch) (d : m_D) (v0 v1 : Int) (h : m_H) : m_Con l d yX9_firstHeap cX9_firstHeap 4 (some .int) 3 (fun r => [m_i r]) [m_r v0, m_i v1] h (t9_firstHeap v0 v1 h) :=
  m_con2 (by decide +kernel) (Nat.le_of_ble_eq_true rfl) (fun Y hN hRm hr hI S hfin => s9_firstHeap S (m_end_i S hr hfin) hRm (Nat.le_refl _) hN v0 v1 h)
set_option maxRecDepth 100000 in
theorem e9_plannedTurn : ∀ q ∈ ([(0, .aload_n 0, 1), (1, .aload_n 1, 1), (2, .iload_n 2, 1), (3, .invokevirtual 44, 3), (6, .istore 4, 2), (8, .iload_n 3, 1), (9, .ifCond .lt 23, 3), (12, .iload_n 3, 1), (13, .aload_n 1, 1), (14, .getfield 48, 3), (17, .if_icmp .ge 15, 3), (20, .aload_n 0, 1), (21, .getfield 18, 3), (24, .iload_n 3, 1), (25, .iconst (-1), 1), (26, .invokestatic 53, 3), (29, .goto 4, 3), (32, .iconst (-1), 1), (33, .istore 5, 2), (35, .iload 4, 2), (37, .iconst (-1), 1), (38, .if_icmp .eq 9, 3), (41, .iload 5, 2), (43, .iconst (-1), 1), (44, .if_icmp .ne 5, 3), (47, .iconst (-1), 1), (48, .ireturn, 1), (49, .iconst 0, 1), (50, .istore 6, 2), (52, .iconst 1, 1), (53, .istore 7, 2), (55, .iload 7, 2), (57, .iload 4, 2), (59, .if_icmp .gt 37, 3), (62, .aload_n 0, 1), (63, .iload 6, 2), (65, .invokevirtual 57, 3), (68, .istore 8, 2), (70, .iload 8, 2), (72, .iload 5, 2), (74, .ishr, 1), (75, .iconst 1, 1), (76, .iand, 1), (77, .ifCond .eq 6, 3), (80, .iload 7, 2), (82, .ireturn, 1), (83, .iload 6, 2), (85, .iload 8, 2), (87, .ior, 1), (88, .istore 6, 2), (90, .iinc 7 1, 3), (93, .goto (-38), 3), (96, .iconst (-1), 1), (97, .ireturn, 1)] : List (Nat × Instr × Nat)), decode cX9_plannedTurn q.1 = .ok q.2 := by decide +kernel
set_option maxHeartbeats 4000000 in
set_option maxRecDepth 20000 in
theorem s9_plannedTurn_c55 {Y : m_Y Int} (S : m_Std Y RX9 cX9_plannedTurn) (E : m_End Y cX9_plannedTurn .ireturn (fun r => [m_i r])) {F : Nat} (hF : m_Rm Y F) (hFn : 5 ≤ F) (hN : Y.2.2.2.1 = 9) : ∀ (v0 v4 v5 v6 v7 : Int) (h : m_H), m_Sim Y 55 [(0, m_r v0), (4, m_i v4), (5, m_i v5), (6, m_i v6), (7, m_i v7)] [] h (t9_plannedTurn_c55 v0 v4 v5 v6 v7 h) := by
  intro v0 v4 v5 v6 v7 h
  refine ms_all fun r e => ?_
  refine t9_plannedTurn_c55.partial_correctness v0 v4 v5 (motive := fun v6 v7 h r => m_Sim Y 55 [(0, m_r v0), (4, m_i v4), (5, m_i v5), (6, m_i v6), (7, m_i v7)] [] h (some r)) ?_ v6 v7 h r e
  intro f ih v6 v7 h r e
  have ih : ∀ (v6 v7 : Int) (h : m_H), m_Sim Y 55 [(0, m_r v0), (4, m_i v4), (5, m_i v5), (6, m_i v6), (7, m_i v7)] [] h (f v6 v7 h ) := fun v6 v7 h  => ms_all fun r e => ih v6 v7 h r e
  refine ms_use ?_ e
  clear e r
  refine ms_iload (pc := 55) S 4 rfl (m_dec e9_plannedTurn 31 rfl) ?_
  refine ms_iload (pc := 57) S 1 rfl (m_dec e9_plannedTurn 32 rfl) ?_
  refine ms_icmp_gt (pc := 59) S (m_dec e9_plannedTurn 33 rfl) rfl (fun q1 => ?_) (fun q1 => ?_)
  · refine ms_iconst (pc := 96) S (m_dec e9_plannedTurn 52 rfl) ?_
    exact ms_ret (pc := 97) E (m_dec e9_plannedTurn 53 rfl) rfl
  · refine ms_aload_n (pc := 62) S 0 rfl rfl (m_dec e9_plannedTurn 34 rfl) ?_
    refine ms_iload (pc := 63) S 3 rfl (m_dec e9_plannedTurn 35 rfl) ?_
    refine ms_grd fun g2 => ?_
    refine ms_callVi (pc := 65) S hF (vals := [m_i v6]) (st := []) (hc := vw_9) (hci := by decide) (hcy := rfl) (ht := g2) (hC := (k9_firstHeap _ _ v0 v6 h)) (hM := lm_X9_57) (hfr := (Nat.le_trans (by decide) hFn)) (hstk := rfl) (hcat := Nat.le_of_ble_eq_true rfl) (hd := (m_dec e9_plannedTurn 36 rfl)) (k1 := fun r4 h3 => ?_)
    refine ms_istore (pc := 68) S (L' := [(0, m_r v0), (4, m_i v4), (5, m_i v5), (6, m_i v6), (7, m_i v7), (8, m_i r4)]) [1, 2, 3, 4, 5, 0] rfl (m_lt hN rfl) (m_dec e9_plannedTurn 37 rfl) ?_
    refine ms_iload (pc := 70) S 5 rfl (m_dec e9_plannedTurn 38 rfl) ?_
    refine ms_iload (pc := 72) S 2 rfl (m_dec e9_plannedTurn 39 rfl) ?_
    refine ms_ishr (pc := 74) S (m_dec e9_plannedTurn 40 rfl) ?_
    refine ms_iconst (pc := 75) S (m_dec e9_plannedTurn 41 rfl) ?_
    refine ms_iand (pc := 76) S (m_dec e9_plannedTurn 42 rfl) ?_
    refine ms_if_eq (pc := 77) S (m_dec e9_plannedTurn 43 rfl) rfl (fun q5 => ?_) (fun q5 => ?_)
    · refine ms_iload (pc := 83) S 3 rfl (m_dec e9_plannedTurn 46 rfl) ?_
      refine ms_iload (pc := 85) S 5 rfl (m_dec e9_plannedTurn 47 rfl) ?_
      refine ms_ior (pc := 87) S (m_dec e9_plannedTurn 48 rfl) ?_
      refine ms_nm (st := fun x6 => [m_i x6]) fun x6 => ?_
      refine ms_istore (pc := 88) S (L' := [(0, m_r v0), (4, m_i v4), (5, m_i v5), (6, m_i x6), (7, m_i v7)]) [1, 2, 3, 0, 4] rfl (m_lt hN rfl) (m_dec e9_plannedTurn 49 rfl) ?_
      refine ms_iinc (pc := 90) S (L' := [(0, m_r v0), (4, m_i v4), (5, m_i v5), (6, m_i x6), (7, m_i (v7 + 1))]) 4 rfl [1, 2, 3, 4, 0] rfl (m_lt hN rfl) (m_dec e9_plannedTurn 50 rfl) ?_
      refine ms_goto (pc := 93) S (m_dec e9_plannedTurn 51 rfl) rfl ?_
      exact ih x6 (v7 + 1) h3
    · refine ms_iload (pc := 80) S 4 rfl (m_dec e9_plannedTurn 44 rfl) ?_
      exact ms_ret (pc := 82) E (m_dec e9_plannedTurn 45 rfl) rfl
set_option maxHeartbeats 4000000 in
set_option maxRecDepth 20000 in
theorem s9_plannedTurn_c33 {Y : m_Y Int} (S : m_Std Y RX9 cX9_plannedTurn) (E : m_End Y cX9_plannedTurn .ireturn (fun r => [m_i r])) {F : Nat} (hF : m_Rm Y F) (hFn : 5 ≤ F) (hN : Y.2.2.2.1 = 9) (v0 v4 s0 : Int) (h : m_H) : m_Sim Y 33 [(0, m_r v0), (4, m_i v4)] [m_i s0] h (t9_plannedTurn_c33 v0 v4 s0 h) := by
  unfold t9_plannedTurn_c33
  refine ms_istore (pc := 33) S (L' := [(0, m_r v0), (4, m_i v4), (5, m_i s0)]) [1, 2, 0] rfl (m_lt hN rfl) (m_dec e9_plannedTurn 18 rfl) ?_
  refine ms_iload (pc := 35) S 1 rfl (m_dec e9_plannedTurn 19 rfl) ?_
  refine ms_iconst (pc := 37) S (m_dec e9_plannedTurn 20 rfl) ?_
  refine ms_icmp_eq (pc := 38) S (m_dec e9_plannedTurn 21 rfl) rfl (fun q1 => ?_) (fun q1 => ?_)
  · refine ms_iconst (pc := 47) S (m_dec e9_plannedTurn 25 rfl) ?_
    exact ms_ret (pc := 48) E (m_dec e9_plannedTurn 26 rfl) rfl
  · refine ms_iload (pc := 41) S 2 rfl (m_dec e9_plannedTurn 22 rfl) ?_
    refine ms_iconst (pc := 43) S (m_dec e9_plannedTurn 23 rfl) ?_
    refine ms_icmp_ne (pc := 44) S (m_dec e9_plannedTurn 24 rfl) rfl (fun q2 => ?_) (fun q2 => ?_)
    · refine ms_iconst (pc := 47) S (m_dec e9_plannedTurn 25 rfl) ?_
      exact ms_ret (pc := 48) E (m_dec e9_plannedTurn 26 rfl) rfl
    · refine ms_iconst (pc := 49) S (m_dec e9_plannedTurn 27 rfl) ?_
      refine ms_istore (pc := 50) S (L' := [(0, m_r v0), (4, m_i v4), (5, m_i s0), (6, m_i 0)]) [1, 2, 3, 0] rfl (m_lt hN rfl) (m_dec e9_plannedTurn 28 rfl) ?_
      refine ms_iconst (pc := 52) S (m_dec e9_plannedTurn 29 rfl) ?_
      refine ms_istore (pc := 53) S (L' := [(0, m_r v0), (4, m_i v4), (5, m_i s0), (6, m_i 0), (7, m_i 1)]) [1, 2, 3, 4, 0] rfl (m_lt hN rfl) (m_dec e9_plannedTurn 30 rfl) ?_
      exact s9_plannedTurn_c55 S E hF hFn hN v0 v4 s0 0 1 h
set_option maxHeartbeats 4000000 in
set_option maxRecDepth 20000 in
theorem s9_plannedTurn_c32 {Y : m_Y Int} (S : m_Std Y RX9 cX9_plannedTurn) (E : m_End Y cX9_plannedTurn .ireturn (fun r => [m_i r])) {F : Nat} (hF : m_Rm Y F) (hFn : 5 ≤ F) (hN : Y.2.2.2.1 = 9) (v0 v4 : Int) (h : m_H) : m_Sim Y 32 [(0, m_r v0), (4, m_i v4)] [] h (t9_plannedTurn_c32 v0 v4 h) := by
  unfold t9_plannedTurn_c32
  refine ms_iconst (pc := 32) S (m_dec e9_plannedTurn 17 rfl) ?_
  exact s9_plannedTurn_c33 S E hF hFn hN v0 v4 (-1) h
set_option maxHeartbeats 4000000 in
set_option maxRecDepth 20000 in
theorem s9_plannedTurn {Y : m_Y Int} (S : m_Std Y RX9 cX9_plannedTurn) (E : m_End Y cX9_plannedTurn .ireturn (fun r => [m_i r])) {F : Nat} (hF : m_Rm Y F) (hFn : 5 ≤ F) (hN : Y.2.2.2.1 = 9) (v0 v1 v2 v3 : Int) (h : m_H) : m_Sim Y 0 [(0, m_r v0), (1, m_r v1), (2, m_i v2), (3, m_i v3)] [] h (t9_plannedTurn v0 v1 v2 v3 h) := by
  unfold t9_plannedTurn
  refine ms_aload_n (pc := 0) S 0 rfl rfl (m_dec e9_plannedTurn 0 rfl) ?_
  refine ms_aload_n (pc := 1) S 1 rfl rfl (m_dec e9_plannedTurn 1 rfl) ?_
  refine ms_iload_n (pc := 2) S 2 rfl rfl (m_dec e9_plannedTurn 2 rfl) ?_
  refine ms_grd fun g1 => ?_
  refine ms_callVi (pc := 3) S hF (vals := [m_r v1, m_i v2]) (st := []) (hc := vw_9) (hci := by decide) (hcy := rfl) (ht := g1) (hC := (k9_leastTurns _ _ v0 v1 v2 h)) (hM := lm_X9_44) (hfr := (Nat.le_trans (by decide) hFn)) (hstk := rfl) (hcat := Nat.le_of_ble_eq_true rfl) (hd := (m_dec e9_plannedTurn 3 rfl)) (k1 := fun r3 h2 => ?_)
  refine ms_istore (pc := 6) S (L' := [(0, m_r v0), (1, m_r v1), (3, m_i v3), (4, m_i r3)]) [1, 2, 4, 0] rfl (m_lt hN rfl) (m_dec e9_plannedTurn 4 rfl) ?_
  refine ms_iload_n (pc := 8) S 2 rfl rfl (m_dec e9_plannedTurn 5 rfl) ?_
  refine ms_if_lt (pc := 9) S (m_dec e9_plannedTurn 6 rfl) rfl (fun q4 => ?_) (fun q4 => ?_)
  · refine ms_sub (pc := 32) (L' := [(0, m_r v0), (4, m_i r3)]) [0, 3] rfl ?_
    exact s9_plannedTurn_c32 S E hF hFn hN v0 r3 h2
  · refine ms_iload_n (pc := 12) S 2 rfl rfl (m_dec e9_plannedTurn 7 rfl) ?_
    refine ms_aload_n (pc := 13) S 1 rfl rfl (m_dec e9_plannedTurn 8 rfl) ?_
    refine ms_grd fun g5 => ?_
    refine ms_getf (pc := 14) S lf_X9_48 rfl (m_dec e9_plannedTurn 9 rfl) g5 ?_
    refine ms_icmp_ge (pc := 17) S (m_dec e9_plannedTurn 10 rfl) rfl (fun q6 => ?_) (fun q6 => ?_)
    · refine ms_aload_n (pc := 20) S 0 rfl rfl (m_dec e9_plannedTurn 11 rfl) ?_
      refine ms_grd fun g7 => ?_
      refine ms_getf (pc := 21) S lf_X9_18 rfl (m_dec e9_plannedTurn 12 rfl) g7 ?_
      refine ms_iload_n (pc := 24) S 2 rfl rfl (m_dec e9_plannedTurn 13 rfl) ?_
      refine ms_iconst (pc := 25) S (m_dec e9_plannedTurn 14 rfl) ?_
      refine ms_callSi (pc := 26) S hF (vals := [m_r (m_g h2 v0 2), m_i v3, m_i (-1)]) (st := [])  (hC := (k10_entry _ _ (m_g h2 v0 2) v3 (-1) h2)) (hM := lm_X9_53) (hfr := (Nat.le_trans (by decide) hFn)) (hstk := rfl) (hcat := Nat.le_of_ble_eq_true rfl) (hd := (m_dec e9_plannedTurn 15 rfl)) (k1 := fun r9 h8 => ?_)
      refine ms_goto (pc := 29) S (m_dec e9_plannedTurn 16 rfl) rfl ?_
      refine ms_sub (pc := 33) (L' := [(0, m_r v0), (4, m_i r3)]) [0, 3] rfl ?_
      exact s9_plannedTurn_c33 S E hF hFn hN v0 r3 r9 h8
    · refine ms_sub (pc := 32) (L' := [(0, m_r v0), (4, m_i r3)]) [0, 3] rfl ?_
      exact s9_plannedTurn_c32 S E hF hFn hN v0 r3 h2
theorem k9_plannedTurn (l : Launch) (d : m_D) (v0 v1 v2 v3 : Int) (h : m_H) : m_Con l d yX9_plannedTurn cX9_plannedTurn 9 (some .int) 5 (fun r => [m_i r]) [m_r v0, m_r v1, m_i v2, m_i v3] h (t9_plannedTurn v0 v1 v2 v3 h) :=
  m_con2 (by decide +kernel) (Nat.le_of_ble_eq_true rfl) (fun Y hN hRm hr hI S hfin => s9_plannedTurn S (m_end_i S hr hfin) hRm (Nat.le_refl _) hN v0 v1 v2 v3 h)
set_option maxRecDepth 100000 in
theorem e10_init : ∀ q ∈ ([(0, .aload_n 0, 1), (1, .invokespecial 1, 3), (4, .aload_n 0, 1), (5, .new 7, 3), (8, .dup, 1), (9, .invokespecial 9, 3), (12, .putfield 10, 3), (15, .aload_n 0, 1), (16, .new 16, 3), (19, .dup, 1), (20, .invokespecial 18, 3), (23, .putfield 19, 3), (26, .aload_n 0, 1), (27, .new 23, 3), (30, .dup, 1), (31, .invokespecial 25, 3), (34, .putfield 26, 3), (37, .aload_n 0, 1), (38, .bipush 8, 2), (40, .anewarray 30, 3), (43, .putfield 32, 3), (46, .aload_n 0, 1), (47, .new 36, 3), (50, .dup, 1), (51, .aload_n 0, 1), (52, .getfield 10, 3), (55, .invokespecial 38, 3), (58, .putfield 41, 3), (61, .aload_n 0, 1), (62, .new 45, 3), (65, .dup, 1), (66, .aload_n 0, 1), (67, .getfield 10, 3), (70, .invokespecial 47, 3), (73, .putfield 48, 3), (76, .aload_n 0, 1), (77, .new 52, 3), (80, .dup, 1), (81, .invokespecial 54, 3), (84, .putfield 55, 3), (87, .aload_n 0, 1), (88, .new 16, 3), (91, .dup, 1), (92, .invokespecial 18, 3), (95, .putfield 59, 3), (98, .aload_n 0, 1), (99, .new 62, 3), (102, .dup, 1), (103, .aload_n 0, 1), (104, .getfield 10, 3), (107, .aload_n 0, 1), (108, .getfield 59, 3), (111, .invokespecial 64, 3), (114, .putfield 67, 3), (117, .return_, 1)] : List (Nat × Instr × Nat)), decode cX10_init q.1 = .ok q.2 := by decide +kernel
set_option maxHeartbeats 4000000 in
set_option maxRecDepth 20000 in
theorem s10_init {Y : m_Y Unit} (S : m_Std Y RX10 cX10_init) (E : m_End Y cX10_init .return_ (fun _ => [])) {F : Nat} (hF : m_Rm Y F) (hFn : 3 ≤ F) (hN : Y.2.2.2.1 = 1) (hI : Y.2.2.2.2.2 → Y.2.1.2.2.2.2.2.2.2.2.1.name = "<init>") (v0 : Int) (h : m_H) : m_Sim Y 0 [(0, m_r v0)] [] h (t10_init v0 h) := by
  unfold t10_init
  refine ms_aload_n (pc := 0) S 0 rfl rfl (m_dec e10_init 0 rfl) ?_
  refine ms_grd fun g1 => ?_
  refine ms_obj (pc := 1) S hF (Nat.le_trans (by decide) hFn) lo_X10_1 g1 (Nat.le_of_ble_eq_true rfl) (m_dec e10_init 1 rfl) ?_
  refine ms_aload_n (pc := 4) S 0 rfl rfl (m_dec e10_init 2 rfl) ?_
  refine ms_new (pc := 5) S ln_X10_7 rfl (m_dec e10_init 3 rfl) (fun h2 => ?_)
  refine ms_dup (pc := 8) S rfl (m_dec e10_init 4 rfl) ?_
  refine ms_grd fun g3 => ?_
  refine ms_callIv (pc := 9) S hF (vals := []) (st := [m_r (m_n h), m_r v0]) (ht := g3) (hC := (k7_init _ _ (m_n h) h2)) (hM := lm_X10_9) (hfr := (Nat.le_trans (by decide) hFn)) (hstk := rfl) (hcat := Nat.le_of_ble_eq_true rfl) (hd := (m_dec e10_init 5 rfl)) (k1 := fun h4 => ?_)
  refine ms_grd fun g6 => ?_
  refine ms_putf (pc := 12) S lp_X10_10 (fun _ hf => hI hf) rfl (fun d => m_fitO _ d _) (m_dec e10_init 6 rfl) g6 (fun h7 => ?_)
  refine ms_aload_n (pc := 15) S 0 rfl rfl (m_dec e10_init 7 rfl) ?_
  refine ms_new (pc := 16) S ln_X10_16 rfl (m_dec e10_init 8 rfl) (fun h8 => ?_)
  refine ms_dup (pc := 19) S rfl (m_dec e10_init 9 rfl) ?_
  refine ms_grd fun g9 => ?_
  refine ms_callIv (pc := 20) S hF (vals := []) (st := [m_r (m_n h7), m_r v0]) (ht := g9) (hC := (k5_init _ _ (m_n h7) h8)) (hM := lm_X10_18) (hfr := (Nat.le_trans (by decide) hFn)) (hstk := rfl) (hcat := Nat.le_of_ble_eq_true rfl) (hd := (m_dec e10_init 10 rfl)) (k1 := fun h10 => ?_)
  refine ms_grd fun g12 => ?_
  refine ms_putf (pc := 23) S lp_X10_19 (fun _ hf => hI hf) rfl (fun d => m_fitO _ d _) (m_dec e10_init 11 rfl) g12 (fun h13 => ?_)
  refine ms_aload_n (pc := 26) S 0 rfl rfl (m_dec e10_init 12 rfl) ?_
  refine ms_new (pc := 27) S ln_X10_23 rfl (m_dec e10_init 13 rfl) (fun h14 => ?_)
  refine ms_dup (pc := 30) S rfl (m_dec e10_init 14 rfl) ?_
  refine ms_grd fun g15 => ?_
  refine ms_callIv (pc := 31) S hF (vals := []) (st := [m_r (m_n h13), m_r v0]) (ht := g15) (hC := (k4_init _ _ (m_n h13) h14)) (hM := lm_X10_25) (hfr := (Nat.le_trans (by decide) hFn)) (hstk := rfl) (hcat := Nat.le_of_ble_eq_true rfl) (hd := (m_dec e10_init 15 rfl)) (k1 := fun h16 => ?_)
  refine ms_grd fun g18 => ?_
  refine ms_putf (pc := 34) S lp_X10_26 (fun _ hf => hI hf) rfl (fun d => m_fitO _ d _) (m_dec e10_init 16 rfl) g18 (fun h19 => ?_)
  refine ms_aload_n (pc := 37) S 0 rfl rfl (m_dec e10_init 17 rfl) ?_
  refine ms_bipush (pc := 38) S (m_dec e10_init 18 rfl) rfl ?_
  refine ms_anew (pc := 40) S 26 (by decide) (fun _ => rfl) ⟨w_291, w_292⟩ (by decide) (m_dec e10_init 19 rfl) (fun h20 => ?_)
  refine ms_grd fun g21 => ?_
  refine ms_putf (pc := 43) S lp_X10_32 (fun _ hf => hI hf) rfl (fun d => m_fitA _ d _) (m_dec e10_init 20 rfl) g21 (fun h22 => ?_)
  refine ms_aload_n (pc := 46) S 0 rfl rfl (m_dec e10_init 21 rfl) ?_
  refine ms_new (pc := 47) S ln_X10_36 rfl (m_dec e10_init 22 rfl) (fun h23 => ?_)
  refine ms_dup (pc := 50) S rfl (m_dec e10_init 23 rfl) ?_
  refine ms_aload_n (pc := 51) S 0 rfl rfl (m_dec e10_init 24 rfl) ?_
  refine ms_grd fun g24 => ?_
  refine ms_getf (pc := 52) S lf_X10_10 rfl (m_dec e10_init 25 rfl) g24 ?_
  refine ms_grd fun g25 => ?_
  refine ms_callIv (pc := 55) S hF (vals := [m_r (m_g h23 v0 0)]) (st := [m_r (m_n h22), m_r v0]) (ht := g25) (hC := (k3_init _ _ (m_n h22) (m_g h23 v0 0) h23)) (hM := lm_X10_38) (hfr := (Nat.le_trans (by decide) hFn)) (hstk := rfl) (hcat := Nat.le_of_ble_eq_true rfl) (hd := (m_dec e10_init 26 rfl)) (k1 := fun h26 => ?_)
  refine ms_grd fun g28 => ?_
  refine ms_putf (pc := 58) S lp_X10_41 (fun _ hf => hI hf) rfl (fun d => m_fitO _ d _) (m_dec e10_init 27 rfl) g28 (fun h29 => ?_)
  refine ms_aload_n (pc := 61) S 0 rfl rfl (m_dec e10_init 28 rfl) ?_
  refine ms_new (pc := 62) S ln_X10_45 rfl (m_dec e10_init 29 rfl) (fun h30 => ?_)
  refine ms_dup (pc := 65) S rfl (m_dec e10_init 30 rfl) ?_
  refine ms_aload_n (pc := 66) S 0 rfl rfl (m_dec e10_init 31 rfl) ?_
  refine ms_grd fun g31 => ?_
  refine ms_getf (pc := 67) S lf_X10_10 rfl (m_dec e10_init 32 rfl) g31 ?_
  refine ms_grd fun g32 => ?_
  refine ms_callIv (pc := 70) S hF (vals := [m_r (m_g h30 v0 0)]) (st := [m_r (m_n h29), m_r v0]) (ht := g32) (hC := (k2_init _ _ (m_n h29) (m_g h30 v0 0) h30)) (hM := lm_X10_47) (hfr := (Nat.le_trans (by decide) hFn)) (hstk := rfl) (hcat := Nat.le_of_ble_eq_true rfl) (hd := (m_dec e10_init 33 rfl)) (k1 := fun h33 => ?_)
  refine ms_grd fun g35 => ?_
  refine ms_putf (pc := 73) S lp_X10_48 (fun _ hf => hI hf) rfl (fun d => m_fitO _ d _) (m_dec e10_init 34 rfl) g35 (fun h36 => ?_)
  refine ms_aload_n (pc := 76) S 0 rfl rfl (m_dec e10_init 35 rfl) ?_
  refine ms_new (pc := 77) S ln_X10_52 rfl (m_dec e10_init 36 rfl) (fun h37 => ?_)
  refine ms_dup (pc := 80) S rfl (m_dec e10_init 37 rfl) ?_
  refine ms_grd fun g38 => ?_
  refine ms_callIv (pc := 81) S hF (vals := []) (st := [m_r (m_n h36), m_r v0]) (ht := g38) (hC := (k9_init _ _ (m_n h36) h37)) (hM := lm_X10_54) (hfr := (Nat.le_trans (by decide) hFn)) (hstk := rfl) (hcat := Nat.le_of_ble_eq_true rfl) (hd := (m_dec e10_init 38 rfl)) (k1 := fun h39 => ?_)
  refine ms_grd fun g41 => ?_
  refine ms_putf (pc := 84) S lp_X10_55 (fun _ hf => hI hf) rfl (fun d => m_fitO _ d _) (m_dec e10_init 39 rfl) g41 (fun h42 => ?_)
  refine ms_aload_n (pc := 87) S 0 rfl rfl (m_dec e10_init 40 rfl) ?_
  refine ms_new (pc := 88) S ln_X10_16 rfl (m_dec e10_init 41 rfl) (fun h43 => ?_)
  refine ms_dup (pc := 91) S rfl (m_dec e10_init 42 rfl) ?_
  refine ms_grd fun g44 => ?_
  refine ms_callIv (pc := 92) S hF (vals := []) (st := [m_r (m_n h42), m_r v0]) (ht := g44) (hC := (k5_init _ _ (m_n h42) h43)) (hM := lm_X10_18) (hfr := (Nat.le_trans (by decide) hFn)) (hstk := rfl) (hcat := Nat.le_of_ble_eq_true rfl) (hd := (m_dec e10_init 43 rfl)) (k1 := fun h45 => ?_)
  refine ms_grd fun g47 => ?_
  refine ms_putf (pc := 95) S lp_X10_59 (fun _ hf => hI hf) rfl (fun d => m_fitO _ d _) (m_dec e10_init 44 rfl) g47 (fun h48 => ?_)
  refine ms_aload_n (pc := 98) S 0 rfl rfl (m_dec e10_init 45 rfl) ?_
  refine ms_new (pc := 99) S ln_X10_62 rfl (m_dec e10_init 46 rfl) (fun h49 => ?_)
  refine ms_dup (pc := 102) S rfl (m_dec e10_init 47 rfl) ?_
  refine ms_aload_n (pc := 103) S 0 rfl rfl (m_dec e10_init 48 rfl) ?_
  refine ms_grd fun g50 => ?_
  refine ms_getf (pc := 104) S lf_X10_10 rfl (m_dec e10_init 49 rfl) g50 ?_
  refine ms_aload_n (pc := 107) S 0 rfl rfl (m_dec e10_init 50 rfl) ?_
  refine ms_getf (pc := 108) S lf_X10_59 rfl (m_dec e10_init 51 rfl) g50 ?_
  refine ms_grd fun g51 => ?_
  refine ms_callIv (pc := 111) S hF (vals := [m_r (m_g h49 v0 0), m_r (m_g h49 v0 8)]) (st := [m_r (m_n h48), m_r v0]) (ht := g51) (hC := (k1_init _ _ (m_n h48) (m_g h49 v0 0) (m_g h49 v0 8) h49)) (hM := lm_X10_64) (hfr := (Nat.le_trans (by decide) hFn)) (hstk := rfl) (hcat := Nat.le_of_ble_eq_true rfl) (hd := (m_dec e10_init 52 rfl)) (k1 := fun h52 => ?_)
  refine ms_grd fun g54 => ?_
  refine ms_putf (pc := 114) S lp_X10_67 (fun _ hf => hI hf) rfl (fun d => m_fitO _ d _) (m_dec e10_init 53 rfl) g54 (fun h55 => ?_)
  exact ms_ret (pc := 117) E (m_dec e10_init 54 rfl) rfl
theorem k10_init (l : Launch) (d : m_D) (v0 : Int) (h : m_H) : m_Con l d yX10_init cX10_init 1 none 3 (fun _ => []) [m_r v0] h (t10_init v0 h) :=
  m_con2 (by decide +kernel) (Nat.le_of_ble_eq_true rfl) (fun Y hN hRm hr hI S hfin => s10_init S (m_end_v S hr hfin) hRm (Nat.le_refl _) hN hI v0 h)
set_option maxRecDepth 100000 in
theorem e10_feedPair : ∀ q ∈ ([(0, .aload_n 0, 1), (1, .getfield 19, 3), (4, .iload_n 1, 1), (5, .bipush 16, 2), (7, .ishr, 1), (8, .invokevirtual 79, 3), (11, .aload_n 0, 1), (12, .getfield 19, 3), (15, .iload_n 1, 1), (16, .i2s, 1), (17, .invokevirtual 79, 3), (20, .return_, 1)] : List (Nat × Instr × Nat)), decode cX10_feedPair q.1 = .ok q.2 := by decide +kernel
set_option maxHeartbeats 4000000 in
set_option maxRecDepth 20000 in
theorem s10_feedPair {Y : m_Y Unit} (S : m_Std Y RX10 cX10_feedPair) (E : m_End Y cX10_feedPair .return_ (fun _ => [])) {F : Nat} (hF : m_Rm Y F) (hFn : 4 ≤ F) (hN : Y.2.2.2.1 = 2) (v0 v1 : Int) (h : m_H) : m_Sim Y 0 [(0, m_r v0), (1, m_i v1)] [] h (t10_feedPair v0 v1 h) := by
  unfold t10_feedPair
  refine ms_aload_n (pc := 0) S 0 rfl rfl (m_dec e10_feedPair 0 rfl) ?_
  refine ms_grd fun g1 => ?_
  refine ms_getf (pc := 1) S lf_X10_19 rfl (m_dec e10_feedPair 1 rfl) g1 ?_
  refine ms_iload_n (pc := 4) S 1 rfl rfl (m_dec e10_feedPair 2 rfl) ?_
  refine ms_bipush (pc := 5) S (m_dec e10_feedPair 3 rfl) rfl ?_
  refine ms_ishr (pc := 7) S (m_dec e10_feedPair 4 rfl) ?_
  refine ms_grd fun g2 => ?_
  refine ms_callVv (pc := 8) S hF (vals := [m_i (m_shr v1 16)]) (st := []) (hc := vw_5) (hci := by decide) (hcy := rfl) (ht := g2) (hC := (k5_add _ _ (m_g h v0 1) (m_shr v1 16) h)) (hM := lm_X10_79) (hfr := (Nat.le_trans (by decide) hFn)) (hstk := rfl) (hcat := Nat.le_of_ble_eq_true rfl) (hd := (m_dec e10_feedPair 5 rfl)) (k1 := fun h3 => ?_)
  refine ms_aload_n (pc := 11) S 0 rfl rfl (m_dec e10_feedPair 6 rfl) ?_
  refine ms_grd fun g5 => ?_
  refine ms_getf (pc := 12) S lf_X10_19 rfl (m_dec e10_feedPair 7 rfl) g5 ?_
  refine ms_iload_n (pc := 15) S 1 rfl rfl (m_dec e10_feedPair 8 rfl) ?_
  refine ms_i2s (pc := 16) S (m_dec e10_feedPair 9 rfl) ?_
  refine ms_grd fun g6 => ?_
  refine ms_callVv (pc := 17) S hF (vals := [m_i (m_i2s v1)]) (st := []) (hc := vw_5) (hci := by decide) (hcy := rfl) (ht := g6) (hC := (k5_add _ _ (m_g h3 v0 1) (m_i2s v1) h3)) (hM := lm_X10_79) (hfr := (Nat.le_trans (by decide) hFn)) (hstk := rfl) (hcat := Nat.le_of_ble_eq_true rfl) (hd := (m_dec e10_feedPair 10 rfl)) (k1 := fun h7 => ?_)
  exact ms_ret (pc := 20) E (m_dec e10_feedPair 11 rfl) rfl
theorem k10_feedPair (l : Launch) (d : m_D) (v0 v1 : Int) (h : m_H) : m_Con l d yX10_feedPair cX10_feedPair 2 none 4 (fun _ => []) [m_r v0, m_i v1] h (t10_feedPair v0 v1 h) :=
  m_con2 (by decide +kernel) (Nat.le_of_ble_eq_true rfl) (fun Y hN hRm hr hI S hfin => s10_feedPair S (m_end_v S hr hfin) hRm (Nat.le_refl _) hN v0 v1 h)
set_option maxRecDepth 100000 in
theorem e10_hand : ∀ q ∈ ([(0, .aload_n 0, 1), (1, .getfield 19, 3), (4, .invokevirtual 71, 3), (7, .bipush 10, 2), (9, .iadd, 1), (10, .sipush 300, 3), (13, .if_icmp .le 5, 3), (16, .iconst (-1), 1), (17, .ireturn, 1), (18, .aload_n 0, 1), (19, .iload_n 1, 1), (20, .invokevirtual 75, 3), (23, .aload_n 0, 1), (24, .iload_n 2, 1), (25, .invokevirtual 75, 3), (28, .aload_n 0, 1), (29, .iload_n 3, 1), (30, .invokevirtual 75, 3), (33, .aload_n 0, 1), (34, .iload 4, 2), (36, .invokevirtual 75, 3), (39, .aload_n 0, 1), (40, .iload 5, 2), (42, .invokevirtual 75, 3), (45, .aload_n 0, 1), (46, .getfield 19, 3), (49, .invokevirtual 71, 3), (52, .ireturn, 1)] : List (Nat × Instr × Nat)), decode cX10_hand q.1 = .ok q.2 := by decide +kernel
set_option maxHeartbeats 4000000 in
set_option maxRecDepth 20000 in
theorem s10_hand {Y : m_Y Int} (S : m_Std Y RX10 cX10_hand) (E : m_End Y cX10_hand .ireturn (fun r => [m_i r])) {F : Nat} (hF : m_Rm Y F) (hFn : 5 ≤ F) (hN : Y.2.2.2.1 = 6) (v0 v1 v2 v3 v4 v5 : Int) (h : m_H) : m_Sim Y 0 [(0, m_r v0), (1, m_i v1), (2, m_i v2), (3, m_i v3), (4, m_i v4), (5, m_i v5)] [] h (t10_hand v0 v1 v2 v3 v4 v5 h) := by
  unfold t10_hand
  refine ms_aload_n (pc := 0) S 0 rfl rfl (m_dec e10_hand 0 rfl) ?_
  refine ms_grd fun g1 => ?_
  refine ms_getf (pc := 1) S lf_X10_19 rfl (m_dec e10_hand 1 rfl) g1 ?_
  refine ms_grd fun g2 => ?_
  refine ms_callVi (pc := 4) S hF (vals := []) (st := []) (hc := vw_5) (hci := by decide) (hcy := rfl) (ht := g2) (hC := (k5_size _ _ (m_g h v0 1) h)) (hM := lm_X10_71) (hfr := (Nat.le_trans (by decide) hFn)) (hstk := rfl) (hcat := Nat.le_of_ble_eq_true rfl) (hd := (m_dec e10_hand 2 rfl)) (k1 := fun r4 h3 => ?_)
  refine ms_bipush (pc := 7) S (m_dec e10_hand 3 rfl) rfl ?_
  refine ms_iadd (pc := 9) S (m_dec e10_hand 4 rfl) ?_
  refine ms_sipush (pc := 10) S (m_dec e10_hand 5 rfl) rfl ?_
  refine ms_icmp_le (pc := 13) S (m_dec e10_hand 6 rfl) rfl (fun q5 => ?_) (fun q5 => ?_)
  · refine ms_iconst (pc := 16) S (m_dec e10_hand 7 rfl) ?_
    exact ms_ret (pc := 17) E (m_dec e10_hand 8 rfl) rfl
  · refine ms_aload_n (pc := 18) S 0 rfl rfl (m_dec e10_hand 9 rfl) ?_
    refine ms_iload_n (pc := 19) S 1 rfl rfl (m_dec e10_hand 10 rfl) ?_
    refine ms_grd fun g6 => ?_
    refine ms_callVv (pc := 20) S hF (vals := [m_i v1]) (st := []) (hc := vw_10) (hci := by decide) (hcy := rfl) (ht := g6) (hC := (k10_feedPair _ _ v0 v1 h3)) (hM := lm_X10_75) (hfr := (Nat.le_trans (by decide) hFn)) (hstk := rfl) (hcat := Nat.le_of_ble_eq_true rfl) (hd := (m_dec e10_hand 11 rfl)) (k1 := fun h7 => ?_)
    refine ms_aload_n (pc := 23) S 0 rfl rfl (m_dec e10_hand 12 rfl) ?_
    refine ms_iload_n (pc := 24) S 2 rfl rfl (m_dec e10_hand 13 rfl) ?_
    refine ms_grd fun g9 => ?_
    refine ms_callVv (pc := 25) S hF (vals := [m_i v2]) (st := []) (hc := vw_10) (hci := by decide) (hcy := rfl) (ht := g9) (hC := (k10_feedPair _ _ v0 v2 h7)) (hM := lm_X10_75) (hfr := (Nat.le_trans (by decide) hFn)) (hstk := rfl) (hcat := Nat.le_of_ble_eq_true rfl) (hd := (m_dec e10_hand 14 rfl)) (k1 := fun h10 => ?_)
    refine ms_aload_n (pc := 28) S 0 rfl rfl (m_dec e10_hand 15 rfl) ?_
    refine ms_iload_n (pc := 29) S 3 rfl rfl (m_dec e10_hand 16 rfl) ?_
    refine ms_grd fun g12 => ?_
    refine ms_callVv (pc := 30) S hF (vals := [m_i v3]) (st := []) (hc := vw_10) (hci := by decide) (hcy := rfl) (ht := g12) (hC := (k10_feedPair _ _ v0 v3 h10)) (hM := lm_X10_75) (hfr := (Nat.le_trans (by decide) hFn)) (hstk := rfl) (hcat := Nat.le_of_ble_eq_true rfl) (hd := (m_dec e10_hand 17 rfl)) (k1 := fun h13 => ?_)
    refine ms_aload_n (pc := 33) S 0 rfl rfl (m_dec e10_hand 18 rfl) ?_
    refine ms_iload (pc := 34) S 4 rfl (m_dec e10_hand 19 rfl) ?_
    refine ms_grd fun g15 => ?_
    refine ms_callVv (pc := 36) S hF (vals := [m_i v4]) (st := []) (hc := vw_10) (hci := by decide) (hcy := rfl) (ht := g15) (hC := (k10_feedPair _ _ v0 v4 h13)) (hM := lm_X10_75) (hfr := (Nat.le_trans (by decide) hFn)) (hstk := rfl) (hcat := Nat.le_of_ble_eq_true rfl) (hd := (m_dec e10_hand 20 rfl)) (k1 := fun h16 => ?_)
    refine ms_aload_n (pc := 39) S 0 rfl rfl (m_dec e10_hand 21 rfl) ?_
    refine ms_iload (pc := 40) S 5 rfl (m_dec e10_hand 22 rfl) ?_
    refine ms_grd fun g18 => ?_
    refine ms_callVv (pc := 42) S hF (vals := [m_i v5]) (st := []) (hc := vw_10) (hci := by decide) (hcy := rfl) (ht := g18) (hC := (k10_feedPair _ _ v0 v5 h16)) (hM := lm_X10_75) (hfr := (Nat.le_trans (by decide) hFn)) (hstk := rfl) (hcat := Nat.le_of_ble_eq_true rfl) (hd := (m_dec e10_hand 23 rfl)) (k1 := fun h19 => ?_)
    refine ms_aload_n (pc := 45) S 0 rfl rfl (m_dec e10_hand 24 rfl) ?_
    refine ms_grd fun g21 => ?_
    refine ms_getf (pc := 46) S lf_X10_19 rfl (m_dec e10_hand 25 rfl) g21 ?_
    refine ms_grd fun g22 => ?_
    refine ms_callVi (pc := 49) S hF (vals := []) (st := []) (hc := vw_5) (hci := by decide) (hcy := rfl) (ht := g22) (hC := (k5_size _ _ (m_g h19 v0 1) h19)) (hM := lm_X10_71) (hfr := (Nat.le_trans (by decide) hFn)) (hstk := rfl) (hcat := Nat.le_of_ble_eq_true rfl) (hd := (m_dec e10_hand 26 rfl)) (k1 := fun r24 h23 => ?_)
    exact ms_ret (pc := 52) E (m_dec e10_hand 27 rfl) rfl
theorem k10_hand (l : Launch) (d : m_D) (v0 v1 v2 v3 v4 v5 : Int) (h : m_H) : m_Con l d yX10_hand cX10_hand 6 (some .int) 5 (fun r => [m_i r]) [m_r v0, m_i v1, m_i v2, m_i v3, m_i v4, m_i v5] h (t10_hand v0 v1 v2 v3 v4 v5 h) :=
  m_con2 (by decide +kernel) (Nat.le_of_ble_eq_true rfl) (fun Y hN hRm hr hI S hfin => s10_hand S (m_end_i S hr hfin) hRm (Nat.le_refl _) hN v0 v1 v2 v3 v4 v5 h)
set_option maxRecDepth 100000 in
theorem e10_emptied : ∀ q ∈ ([(0, .aload_n 0, 1), (1, .invokevirtual 71, 3), (4, .istore_n 1, 1), (5, .aload_n 0, 1), (6, .iconst 0, 1), (7, .invokevirtual 285, 3), (10, .iload_n 1, 1), (11, .ireturn, 1)] : List (Nat × Instr × Nat)), decode cX10_emptied q.1 = .ok q.2 := by decide +kernel
set_option maxHeartbeats 4000000 in
set_option maxRecDepth 20000 in
theorem s10_emptied {Y : m_Y Int} (S : m_Std Y RX10 cX10_emptied) (E : m_End Y cX10_emptied .ireturn (fun r => [m_i r])) {F : Nat} (hF : m_Rm Y F) (hFn : 2 ≤ F) (hN : Y.2.2.2.1 = 2) (v0 : Int) (h : m_H) : m_Sim Y 0 [(0, m_r v0)] [] h (t10_emptied v0 h) := by
  unfold t10_emptied
  refine ms_aload_n (pc := 0) S 0 rfl rfl (m_dec e10_emptied 0 rfl) ?_
  refine ms_grd fun g1 => ?_
  refine ms_callVi (pc := 1) S hF (vals := []) (st := []) (hc := vw_5) (hci := by decide) (hcy := rfl) (ht := g1) (hC := (k5_size _ _ v0 h)) (hM := lm_X10_71) (hfr := (Nat.le_trans (by decide) hFn)) (hstk := rfl) (hcat := Nat.le_of_ble_eq_true rfl) (hd := (m_dec e10_emptied 1 rfl)) (k1 := fun r3 h2 => ?_)
  refine ms_istore_n (pc := 4) S (L' := [(0, m_r v0), (1, m_i r3)]) [1, 0] rfl rfl (m_lt hN rfl) (m_dec e10_emptied 2 rfl) ?_
  refine ms_aload_n (pc := 5) S 0 rfl rfl (m_dec e10_emptied 3 rfl) ?_
  refine ms_iconst (pc := 6) S (m_dec e10_emptied 4 rfl) ?_
  refine ms_grd fun g4 => ?_
  refine ms_callVv (pc := 7) S hF (vals := [m_i 0]) (st := []) (hc := vw_5) (hci := by decide) (hcy := rfl) (ht := g4) (hC := (k5_resize _ _ v0 0 h2)) (hM := lm_X10_285) (hfr := (Nat.le_trans (by decide) hFn)) (hstk := rfl) (hcat := Nat.le_of_ble_eq_true rfl) (hd := (m_dec e10_emptied 5 rfl)) (k1 := fun h5 => ?_)
  refine ms_iload_n (pc := 10) S 1 rfl rfl (m_dec e10_emptied 6 rfl) ?_
  exact ms_ret (pc := 11) E (m_dec e10_emptied 7 rfl) rfl
theorem k10_emptied (l : Launch) (d : m_D) (v0 : Int) (h : m_H) : m_Con l d yX10_emptied cX10_emptied 2 (some .int) 2 (fun r => [m_i r]) [m_r v0] h (t10_emptied v0 h) :=
  m_con2 (by decide +kernel) (Nat.le_of_ble_eq_true rfl) (fun Y hN hRm hr hI S hfin => s10_emptied S (m_end_i S hr hfin) hRm (Nat.le_refl _) hN v0 h)
set_option maxRecDepth 100000 in
theorem e10_drop : ∀ q ∈ ([(0, .aload_n 0, 1), (1, .getfield 19, 3), (4, .invokestatic 82, 3), (7, .ireturn, 1)] : List (Nat × Instr × Nat)), decode cX10_drop q.1 = .ok q.2 := by decide +kernel
set_option maxHeartbeats 4000000 in
set_option maxRecDepth 20000 in
theorem s10_drop {Y : m_Y Int} (S : m_Std Y RX10 cX10_drop) (E : m_End Y cX10_drop .ireturn (fun r => [m_i r])) {F : Nat} (hF : m_Rm Y F) (hFn : 3 ≤ F) (hN : Y.2.2.2.1 = 1) (v0 : Int) (h : m_H) : m_Sim Y 0 [(0, m_r v0)] [] h (t10_drop v0 h) := by
  unfold t10_drop
  refine ms_aload_n (pc := 0) S 0 rfl rfl (m_dec e10_drop 0 rfl) ?_
  refine ms_grd fun g1 => ?_
  refine ms_getf (pc := 1) S lf_X10_19 rfl (m_dec e10_drop 1 rfl) g1 ?_
  refine ms_callSi (pc := 4) S hF (vals := [m_r (m_g h v0 1)]) (st := [])  (hC := (k10_emptied _ _ (m_g h v0 1) h)) (hM := lm_X10_82) (hfr := (Nat.le_trans (by decide) hFn)) (hstk := rfl) (hcat := Nat.le_of_ble_eq_true rfl) (hd := (m_dec e10_drop 2 rfl)) (k1 := fun r3 h2 => ?_)
  exact ms_ret (pc := 7) E (m_dec e10_drop 3 rfl) rfl
theorem k10_drop (l : Launch) (d : m_D) (v0 : Int) (h : m_H) : m_Con l d yX10_drop cX10_drop 1 (some .int) 3 (fun r => [m_i r]) [m_r v0] h (t10_drop v0 h) :=
  m_con2 (by decide +kernel) (Nat.le_of_ble_eq_true rfl) (fun Y hN hRm hr hI S hfin => s10_drop S (m_end_i S hr hfin) hRm (Nat.le_refl _) hN v0 h)
set_option maxRecDepth 100000 in
theorem e10_strip : ∀ q ∈ ([(0, .iload_n 1, 1), (1, .iconst 1, 1), (2, .if_icmp .lt 26, 3), (5, .iload_n 1, 1), (6, .aload_n 0, 1), (7, .getfield 19, 3), (10, .invokevirtual 71, 3), (13, .if_icmp .gt 15, 3), (16, .aload_n 0, 1), (17, .getfield 10, 3), (20, .iconst 1, 1), (21, .iload_n 1, 1), (22, .invokevirtual 86, 3), (25, .ifCond .ne 5, 3), (28, .iconst (-1), 1), (29, .ireturn, 1), (30, .aload_n 0, 1), (31, .getfield 10, 3), (34, .aload_n 0, 1), (35, .getfield 19, 3), (38, .iload_n 1, 1), (39, .invokevirtual 90, 3), (42, .istore_n 2, 1), (43, .aload_n 0, 1), (44, .getfield 19, 3), (47, .iload_n 1, 1), (48, .invokevirtual 94, 3), (51, .iload_n 2, 1), (52, .ireturn, 1)] : List (Nat × Instr × Nat)), decode cX10_strip q.1 = .ok q.2 := by decide +kernel
set_option maxHeartbeats 4000000 in
set_option maxRecDepth 20000 in
theorem s10_strip {Y : m_Y Int} (S : m_Std Y RX10 cX10_strip) (E : m_End Y cX10_strip .ireturn (fun r => [m_i r])) {F : Nat} (hF : m_Rm Y F) (hFn : 5 ≤ F) (hN : Y.2.2.2.1 = 3) (v0 v1 : Int) (h : m_H) : m_Sim Y 0 [(0, m_r v0), (1, m_i v1)] [] h (t10_strip v0 v1 h) := by
  unfold t10_strip
  refine ms_iload_n (pc := 0) S 1 rfl rfl (m_dec e10_strip 0 rfl) ?_
  refine ms_iconst (pc := 1) S (m_dec e10_strip 1 rfl) ?_
  refine ms_icmp_lt (pc := 2) S (m_dec e10_strip 2 rfl) rfl (fun q1 => ?_) (fun q1 => ?_)
  · refine ms_iconst (pc := 28) S (m_dec e10_strip 14 rfl) ?_
    exact ms_ret (pc := 29) E (m_dec e10_strip 15 rfl) rfl
  · refine ms_iload_n (pc := 5) S 1 rfl rfl (m_dec e10_strip 3 rfl) ?_
    refine ms_aload_n (pc := 6) S 0 rfl rfl (m_dec e10_strip 4 rfl) ?_
    refine ms_grd fun g2 => ?_
    refine ms_getf (pc := 7) S lf_X10_19 rfl (m_dec e10_strip 5 rfl) g2 ?_
    refine ms_grd fun g3 => ?_
    refine ms_callVi (pc := 10) S hF (vals := []) (st := [m_i v1]) (hc := vw_5) (hci := by decide) (hcy := rfl) (ht := g3) (hC := (k5_size _ _ (m_g h v0 1) h)) (hM := lm_X10_71) (hfr := (Nat.le_trans (by decide) hFn)) (hstk := rfl) (hcat := Nat.le_of_ble_eq_true rfl) (hd := (m_dec e10_strip 6 rfl)) (k1 := fun r5 h4 => ?_)
    refine ms_icmp_gt (pc := 13) S (m_dec e10_strip 7 rfl) rfl (fun q6 => ?_) (fun q6 => ?_)
    · refine ms_iconst (pc := 28) S (m_dec e10_strip 14 rfl) ?_
      exact ms_ret (pc := 29) E (m_dec e10_strip 15 rfl) rfl
    · refine ms_aload_n (pc := 16) S 0 rfl rfl (m_dec e10_strip 8 rfl) ?_
      refine ms_grd fun g7 => ?_
      refine ms_getf (pc := 17) S lf_X10_10 rfl (m_dec e10_strip 9 rfl) g7 ?_
      refine ms_iconst (pc := 20) S (m_dec e10_strip 10 rfl) ?_
      refine ms_iload_n (pc := 21) S 1 rfl rfl (m_dec e10_strip 11 rfl) ?_
      refine ms_grd fun g8 => ?_
      refine ms_callVz (pc := 22) S hF (vals := [m_i 1, m_i v1]) (st := []) (hc := vw_7) (hci := by decide) (hcy := rfl) (ht := g8) (hC := (k7_hasRoom _ _ (m_g h4 v0 0) 1 v1 h4)) (hM := lm_X10_86) (hfr := (Nat.le_trans (by decide) hFn)) (hstk := rfl) (hcat := Nat.le_of_ble_eq_true rfl) (hd := (m_dec e10_strip 12 rfl)) (k1 := fun r10 h9 => ?_)
      refine ms_ifb_ne (pc := 25) S (m_dec e10_strip 13 rfl) rfl (fun q11 => ?_) (fun q11 => ?_)
      · refine ms_aload_n (pc := 30) S 0 rfl rfl (m_dec e10_strip 16 rfl) ?_
        refine ms_grd fun g12 => ?_
        refine ms_getf (pc := 31) S lf_X10_10 rfl (m_dec e10_strip 17 rfl) g12 ?_
        refine ms_aload_n (pc := 34) S 0 rfl rfl (m_dec e10_strip 18 rfl) ?_
        refine ms_getf (pc := 35) S lf_X10_19 rfl (m_dec e10_strip 19 rfl) g12 ?_
        refine ms_iload_n (pc := 38) S 1 rfl rfl (m_dec e10_strip 20 rfl) ?_
        refine ms_grd fun g13 => ?_
        refine ms_callVi (pc := 39) S hF (vals := [m_r (m_g h9 v0 1), m_i v1]) (st := []) (hc := vw_7) (hci := by decide) (hcy := rfl) (ht := g13) (hC := (k7_layStrip _ _ (m_g h9 v0 0) (m_g h9 v0 1) v1 h9)) (hM := lm_X10_90) (hfr := (Nat.le_trans (by decide) hFn)) (hstk := rfl) (hcat := Nat.le_of_ble_eq_true rfl) (hd := (m_dec e10_strip 21 rfl)) (k1 := fun r15 h14 => ?_)
        refine ms_istore_n (pc := 42) S (L' := [(0, m_r v0), (1, m_i v1), (2, m_i r15)]) [1, 2, 0] rfl rfl (m_lt hN rfl) (m_dec e10_strip 22 rfl) ?_
        refine ms_aload_n (pc := 43) S 0 rfl rfl (m_dec e10_strip 23 rfl) ?_
        refine ms_grd fun g16 => ?_
        refine ms_getf (pc := 44) S lf_X10_19 rfl (m_dec e10_strip 24 rfl) g16 ?_
        refine ms_iload_n (pc := 47) S 1 rfl rfl (m_dec e10_strip 25 rfl) ?_
        refine ms_grd fun g17 => ?_
        refine ms_callVv (pc := 48) S hF (vals := [m_i v1]) (st := []) (hc := vw_5) (hci := by decide) (hcy := rfl) (ht := g17) (hC := (k5_dropFirst _ _ (m_g h14 v0 1) v1 h14)) (hM := lm_X10_94) (hfr := (Nat.le_trans (by decide) hFn)) (hstk := rfl) (hcat := Nat.le_of_ble_eq_true rfl) (hd := (m_dec e10_strip 26 rfl)) (k1 := fun h18 => ?_)
        refine ms_iload_n (pc := 51) S 2 rfl rfl (m_dec e10_strip 27 rfl) ?_
        exact ms_ret (pc := 52) E (m_dec e10_strip 28 rfl) rfl
      · refine ms_iconst (pc := 28) S (m_dec e10_strip 14 rfl) ?_
        exact ms_ret (pc := 29) E (m_dec e10_strip 15 rfl) rfl
theorem k10_strip (l : Launch) (d : m_D) (v0 v1 : Int) (h : m_H) : m_Con l d yX10_strip cX10_strip 3 (some .int) 5 (fun r => [m_i r]) [m_r v0, m_i v1] h (t10_strip v0 v1 h) :=
  m_con2 (by decide +kernel) (Nat.le_of_ble_eq_true rfl) (fun Y hN hRm hr hI S hfin => s10_strip S (m_end_i S hr hfin) hRm (Nat.le_refl _) hN v0 v1 h)
set_option maxRecDepth 100000 in
theorem e10_sliver : ∀ q ∈ ([(0, .iload_n 1, 1), (1, .ifCond .lt 9, 3), (4, .iload_n 1, 1), (5, .bipush 9, 2), (7, .if_icmp .le 5, 3), (10, .iconst 0, 1), (11, .ireturn, 1), (12, .aload_n 0, 1), (13, .getfield 10, 3), (16, .iload_n 1, 1), (17, .putfield 97, 3), (20, .iconst 1, 1), (21, .ireturn, 1)] : List (Nat × Instr × Nat)), decode cX10_sliver q.1 = .ok q.2 := by decide +kernel
set_option maxHeartbeats 4000000 in
set_option maxRecDepth 20000 in
theorem s10_sliver {Y : m_Y Bool} (S : m_Std Y RX10 cX10_sliver) (E : m_End Y cX10_sliver .ireturn (fun r => [m_i (m_b2i r)])) {F : Nat} (hF : m_Rm Y F) (hFn : 0 ≤ F) (hN : Y.2.2.2.1 = 2) (v0 v1 : Int) (h : m_H) : m_Sim Y 0 [(0, m_r v0), (1, m_i v1)] [] h (t10_sliver v0 v1 h) := by
  unfold t10_sliver
  refine ms_iload_n (pc := 0) S 1 rfl rfl (m_dec e10_sliver 0 rfl) ?_
  refine ms_if_lt (pc := 1) S (m_dec e10_sliver 1 rfl) rfl (fun q1 => ?_) (fun q1 => ?_)
  · refine ms_iconst (pc := 10) S (m_dec e10_sliver 5 rfl) ?_
    exact ms_ret (pc := 11) E (m_dec e10_sliver 6 rfl) rfl
  · refine ms_iload_n (pc := 4) S 1 rfl rfl (m_dec e10_sliver 2 rfl) ?_
    refine ms_bipush (pc := 5) S (m_dec e10_sliver 3 rfl) rfl ?_
    refine ms_icmp_le (pc := 7) S (m_dec e10_sliver 4 rfl) rfl (fun q2 => ?_) (fun q2 => ?_)
    · refine ms_iconst (pc := 10) S (m_dec e10_sliver 5 rfl) ?_
      exact ms_ret (pc := 11) E (m_dec e10_sliver 6 rfl) rfl
    · refine ms_aload_n (pc := 12) S 0 rfl rfl (m_dec e10_sliver 7 rfl) ?_
      refine ms_grd fun g3 => ?_
      refine ms_getf (pc := 13) S lf_X10_10 rfl (m_dec e10_sliver 8 rfl) g3 ?_
      refine ms_iload_n (pc := 16) S 1 rfl rfl (m_dec e10_sliver 9 rfl) ?_
      refine ms_grd fun g4 => ?_
      refine ms_putf (pc := 17) S lp_X10_97 (fun z => by cases z) rfl (fun d => m_fitI d _) (m_dec e10_sliver 10 rfl) g4 (fun h5 => ?_)
      refine ms_iconst (pc := 20) S (m_dec e10_sliver 11 rfl) ?_
      exact ms_ret (pc := 21) E (m_dec e10_sliver 12 rfl) rfl
theorem k10_sliver (l : Launch) (d : m_D) (v0 v1 : Int) (h : m_H) : m_Con l d yX10_sliver cX10_sliver 2 (some .boolean) 0 (fun r => [m_i (m_b2i r)]) [m_r v0, m_i v1] h (t10_sliver v0 v1 h) :=
  m_con2 (by decide +kernel) (Nat.le_of_ble_eq_true rfl) (fun Y hN hRm hr hI S hfin => s10_sliver S (m_end_z S hr hfin) hRm (Nat.le_refl _) hN v0 v1 h)
set_option maxRecDepth 100000 in
theorem e10_cut : ∀ q ∈ ([(0, .aload_n 0, 1), (1, .getfield 10, 3), (4, .iload_n 1, 1), (5, .iload_n 2, 1), (6, .invokevirtual 101, 3), (9, .ireturn, 1)] : List (Nat × Instr × Nat)), decode cX10_cut q.1 = .ok q.2 := by decide +kernel
set_option maxHeartbeats 4000000 in
set_option maxRecDepth 20000 in
theorem s10_cut {Y : m_Y Int} (S : m_Std Y RX10 cX10_cut) (E : m_End Y cX10_cut .ireturn (fun r => [m_i r])) {F : Nat} (hF : m_Rm Y F) (hFn : 7 ≤ F) (hN : Y.2.2.2.1 = 3) (v0 v1 v2 : Int) (h : m_H) : m_Sim Y 0 [(0, m_r v0), (1, m_i v1), (2, m_i v2)] [] h (t10_cut v0 v1 v2 h) := by
  unfold t10_cut
  refine ms_aload_n (pc := 0) S 0 rfl rfl (m_dec e10_cut 0 rfl) ?_
  refine ms_grd fun g1 => ?_
  refine ms_getf (pc := 1) S lf_X10_10 rfl (m_dec e10_cut 1 rfl) g1 ?_
  refine ms_iload_n (pc := 4) S 1 rfl rfl (m_dec e10_cut 2 rfl) ?_
  refine ms_iload_n (pc := 5) S 2 rfl rfl (m_dec e10_cut 3 rfl) ?_
  refine ms_grd fun g2 => ?_
  refine ms_callVi (pc := 6) S hF (vals := [m_i v1, m_i v2]) (st := []) (hc := vw_7) (hci := by decide) (hcy := rfl) (ht := g2) (hC := (k7_cutAt _ _ (m_g h v0 0) v1 v2 h)) (hM := lm_X10_101) (hfr := (Nat.le_trans (by decide) hFn)) (hstk := rfl) (hcat := Nat.le_of_ble_eq_true rfl) (hd := (m_dec e10_cut 4 rfl)) (k1 := fun r4 h3 => ?_)
  exact ms_ret (pc := 9) E (m_dec e10_cut 5 rfl) rfl
theorem k10_cut (l : Launch) (d : m_D) (v0 v1 v2 : Int) (h : m_H) : m_Con l d yX10_cut cX10_cut 3 (some .int) 7 (fun r => [m_i r]) [m_r v0, m_i v1, m_i v2] h (t10_cut v0 v1 v2 h) :=
  m_con2 (by decide +kernel) (Nat.le_of_ble_eq_true rfl) (fun Y hN hRm hr hI S hfin => s10_cut S (m_end_i S hr hfin) hRm (Nat.le_refl _) hN v0 v1 v2 h)
set_option maxRecDepth 100000 in
theorem e10_turn : ∀ q ∈ ([(0, .aload_n 0, 1), (1, .getfield 10, 3), (4, .iload_n 1, 1), (5, .invokevirtual 105, 3), (8, .ireturn, 1)] : List (Nat × Instr × Nat)), decode cX10_turn q.1 = .ok q.2 := by decide +kernel
set_option maxHeartbeats 4000000 in
set_option maxRecDepth 20000 in
theorem s10_turn {Y : m_Y Int} (S : m_Std Y RX10 cX10_turn) (E : m_End Y cX10_turn .ireturn (fun r => [m_i r])) {F : Nat} (hF : m_Rm Y F) (hFn : 6 ≤ F) (hN : Y.2.2.2.1 = 2) (v0 v1 : Int) (h : m_H) : m_Sim Y 0 [(0, m_r v0), (1, m_i v1)] [] h (t10_turn v0 v1 h) := by
  unfold t10_turn
  refine ms_aload_n (pc := 0) S 0 rfl rfl (m_dec e10_turn 0 rfl) ?_
  refine ms_grd fun g1 => ?_
  refine ms_getf (pc := 1) S lf_X10_10 rfl (m_dec e10_turn 1 rfl) g1 ?_
  refine ms_iload_n (pc := 4) S 1 rfl rfl (m_dec e10_turn 2 rfl) ?_
  refine ms_grd fun g2 => ?_
  refine ms_callVi (pc := 5) S hF (vals := [m_i v1]) (st := []) (hc := vw_7) (hci := by decide) (hcy := rfl) (ht := g2) (hC := (k7_turnedOf _ _ (m_g h v0 0) v1 h)) (hM := lm_X10_105) (hfr := (Nat.le_trans (by decide) hFn)) (hstk := rfl) (hcat := Nat.le_of_ble_eq_true rfl) (hd := (m_dec e10_turn 3 rfl)) (k1 := fun r4 h3 => ?_)
  exact ms_ret (pc := 8) E (m_dec e10_turn 4 rfl) rfl
theorem k10_turn (l : Launch) (d : m_D) (v0 v1 : Int) (h : m_H) : m_Con l d yX10_turn cX10_turn 2 (some .int) 6 (fun r => [m_i r]) [m_r v0, m_i v1] h (t10_turn v0 v1 h) :=
  m_con2 (by decide +kernel) (Nat.le_of_ble_eq_true rfl) (fun Y hN hRm hr hI S hfin => s10_turn S (m_end_i S hr hfin) hRm (Nat.le_refl _) hN v0 v1 h)
set_option maxRecDepth 100000 in
theorem e10_loop : ∀ q ∈ ([(0, .aload_n 0, 1), (1, .getfield 10, 3), (4, .iload_n 1, 1), (5, .invokevirtual 109, 3), (8, .ireturn, 1)] : List (Nat × Instr × Nat)), decode cX10_loop q.1 = .ok q.2 := by decide +kernel
set_option maxHeartbeats 4000000 in
set_option maxRecDepth 20000 in
theorem s10_loop {Y : m_Y Int} (S : m_Std Y RX10 cX10_loop) (E : m_End Y cX10_loop .ireturn (fun r => [m_i r])) {F : Nat} (hF : m_Rm Y F) (hFn : 6 ≤ F) (hN : Y.2.2.2.1 = 2) (v0 v1 : Int) (h : m_H) : m_Sim Y 0 [(0, m_r v0), (1, m_i v1)] [] h (t10_loop v0 v1 h) := by
  unfold t10_loop
  refine ms_aload_n (pc := 0) S 0 rfl rfl (m_dec e10_loop 0 rfl) ?_
  refine ms_grd fun g1 => ?_
  refine ms_getf (pc := 1) S lf_X10_10 rfl (m_dec e10_loop 1 rfl) g1 ?_
  refine ms_iload_n (pc := 4) S 1 rfl rfl (m_dec e10_loop 2 rfl) ?_
  refine ms_grd fun g2 => ?_
  refine ms_callVi (pc := 5) S hF (vals := [m_i v1]) (st := []) (hc := vw_7) (hci := by decide) (hcy := rfl) (ht := g2) (hC := (k7_loopOf _ _ (m_g h v0 0) v1 h)) (hM := lm_X10_109) (hfr := (Nat.le_trans (by decide) hFn)) (hstk := rfl) (hcat := Nat.le_of_ble_eq_true rfl) (hd := (m_dec e10_loop 3 rfl)) (k1 := fun r4 h3 => ?_)
  exact ms_ret (pc := 8) E (m_dec e10_loop 4 rfl) rfl
theorem k10_loop (l : Launch) (d : m_D) (v0 v1 : Int) (h : m_H) : m_Con l d yX10_loop cX10_loop 2 (some .int) 6 (fun r => [m_i r]) [m_r v0, m_i v1] h (t10_loop v0 v1 h) :=
  m_con2 (by decide +kernel) (Nat.le_of_ble_eq_true rfl) (fun Y hN hRm hr hI S hfin => s10_loop S (m_end_i S hr hfin) hRm (Nat.le_refl _) hN v0 v1 h)
set_option maxRecDepth 100000 in
theorem e10_seam : ∀ q ∈ ([(0, .aload_n 0, 1), (1, .getfield 10, 3), (4, .iload_n 1, 1), (5, .invokevirtual 112, 3), (8, .astore_n 2, 1), (9, .aload_n 2, 1), (10, .ifnull 11, 3), (13, .aload_n 2, 1), (14, .getfield 116, 3), (17, .iconst 3, 1), (18, .if_icmp .eq 5, 3), (21, .iconst (-1), 1), (22, .ireturn, 1), (23, .aload_n 2, 1), (24, .getfield 121, 3), (27, .iconst 0, 1), (28, .invokevirtual 124, 3), (31, .aload_n 2, 1), (32, .getfield 121, 3), (35, .aload_n 2, 1), (36, .getfield 121, 3), (39, .invokevirtual 71, 3), (42, .iconst 1, 1), (43, .isub, 1), (44, .invokevirtual 124, 3), (47, .isub, 1), (48, .invokestatic 127, 3), (51, .ireturn, 1)] : List (Nat × Instr × Nat)), decode cX10_seam q.1 = .ok q.2 := by decide +kernel
set_option maxHeartbeats 4000000 in
set_option maxRecDepth 20000 in
theorem s10_seam {Y : m_Y Int} (S : m_Std Y RX10 cX10_seam) (E : m_End Y cX10_seam .ireturn (fun r => [m_i r])) {F : Nat} (hF : m_Rm Y F) (hFn : 1 ≤ F) (hN : Y.2.2.2.1 = 3) (v0 v1 : Int) (h : m_H) : m_Sim Y 0 [(0, m_r v0), (1, m_i v1)] [] h (t10_seam v0 v1 h) := by
  unfold t10_seam
  refine ms_aload_n (pc := 0) S 0 rfl rfl (m_dec e10_seam 0 rfl) ?_
  refine ms_grd fun g1 => ?_
  refine ms_getf (pc := 1) S lf_X10_10 rfl (m_dec e10_seam 1 rfl) g1 ?_
  refine ms_iload_n (pc := 4) S 1 rfl rfl (m_dec e10_seam 2 rfl) ?_
  refine ms_grd fun g2 => ?_
  refine ms_callVa (pc := 5) S hF (vals := [m_i v1]) (st := []) (hc := vw_7) (hci := by decide) (hcy := rfl) (ht := g2) (hC := (k7_known _ _ (m_g h v0 0) v1 h)) (hM := lm_X10_112) (hfr := (Nat.le_trans (by decide) hFn)) (hstk := rfl) (hcat := Nat.le_of_ble_eq_true rfl) (hd := (m_dec e10_seam 3 rfl)) (k1 := fun r4 h3 => ?_)
  refine ms_astore_n (pc := 8) S (L' := [(2, m_r r4)]) [0] rfl rfl (m_lt hN rfl) (m_dec e10_seam 4 rfl) ?_
  refine ms_aload_n (pc := 9) S 0 rfl rfl (m_dec e10_seam 5 rfl) ?_
  refine ms_ifnull (pc := 10) S (m_dec e10_seam 6 rfl) rfl (fun q5 => ?_) (fun q5 => ?_)
  · refine ms_iconst (pc := 21) S (m_dec e10_seam 11 rfl) ?_
    exact ms_ret (pc := 22) E (m_dec e10_seam 12 rfl) rfl
  · refine ms_aload_n (pc := 13) S 0 rfl rfl (m_dec e10_seam 7 rfl) ?_
    refine ms_grd fun g6 => ?_
    refine ms_getf (pc := 14) S lf_X10_116 rfl (m_dec e10_seam 8 rfl) g6 ?_
    refine ms_iconst (pc := 17) S (m_dec e10_seam 9 rfl) ?_
    refine ms_icmp_eq (pc := 18) S (m_dec e10_seam 10 rfl) rfl (fun q7 => ?_) (fun q7 => ?_)
    · refine ms_aload_n (pc := 23) S 0 rfl rfl (m_dec e10_seam 13 rfl) ?_
      refine ms_getf (pc := 24) S lf_X10_121 rfl (m_dec e10_seam 14 rfl) g6 ?_
      refine ms_iconst (pc := 27) S (m_dec e10_seam 15 rfl) ?_
      refine ms_grd fun g8 => ?_
      refine ms_callVi (pc := 28) S hF (vals := [m_i 0]) (st := []) (hc := vw_5) (hci := by decide) (hcy := rfl) (ht := g8) (hC := (k5_get _ _ (m_g h3 r4 3) 0 h3)) (hM := lm_X10_124) (hfr := (Nat.le_trans (by decide) hFn)) (hstk := rfl) (hcat := Nat.le_of_ble_eq_true rfl) (hd := (m_dec e10_seam 16 rfl)) (k1 := fun r10 h9 => ?_)
      refine ms_aload_n (pc := 31) S 0 rfl rfl (m_dec e10_seam 17 rfl) ?_
      refine ms_grd fun g11 => ?_
      refine ms_getf (pc := 32) S lf_X10_121 rfl (m_dec e10_seam 18 rfl) g11 ?_
      refine ms_aload_n (pc := 35) S 0 rfl rfl (m_dec e10_seam 19 rfl) ?_
      refine ms_getf (pc := 36) S lf_X10_121 rfl (m_dec e10_seam 20 rfl) g11 ?_
      refine ms_grd fun g12 => ?_
      refine ms_callVi (pc := 39) S hF (vals := []) (st := [m_r (m_g h9 r4 3), m_i r10]) (hc := vw_5) (hci := by decide) (hcy := rfl) (ht := g12) (hC := (k5_size _ _ (m_g h9 r4 3) h9)) (hM := lm_X10_71) (hfr := (Nat.le_trans (by decide) hFn)) (hstk := rfl) (hcat := Nat.le_of_ble_eq_true rfl) (hd := (m_dec e10_seam 21 rfl)) (k1 := fun r14 h13 => ?_)
      refine ms_iconst (pc := 42) S (m_dec e10_seam 22 rfl) ?_
      refine ms_isub (pc := 43) S (m_dec e10_seam 23 rfl) ?_
      refine ms_grd fun g15 => ?_
      refine ms_callVi (pc := 44) S hF (vals := [m_i (r14 - 1)]) (st := [m_i r10]) (hc := vw_5) (hci := by decide) (hcy := rfl) (ht := g15) (hC := (k5_get _ _ (m_g h9 r4 3) (r14 - 1) h13)) (hM := lm_X10_124) (hfr := (Nat.le_trans (by decide) hFn)) (hstk := rfl) (hcat := Nat.le_of_ble_eq_true rfl) (hd := (m_dec e10_seam 24 rfl)) (k1 := fun r17 h16 => ?_)
      refine ms_isub (pc := 47) S (m_dec e10_seam 25 rfl) ?_
      refine ms_mabs (pc := 48) S hF (Nat.le_trans (by decide) hFn) ⟨w_669, w_670, w_136, w_671⟩ (Nat.le_of_ble_eq_true rfl) (m_dec e10_seam 26 rfl) ?_
      exact ms_ret (pc := 51) E (m_dec e10_seam 27 rfl) rfl
    · refine ms_iconst (pc := 21) S (m_dec e10_seam 11 rfl) ?_
      exact ms_ret (pc := 22) E (m_dec e10_seam 12 rfl) rfl
theorem k10_seam (l : Launch) (d : m_D) (v0 v1 : Int) (h : m_H) : m_Con l d yX10_seam cX10_seam 3 (some .int) 1 (fun r => [m_i r]) [m_r v0, m_i v1] h (t10_seam v0 v1 h) :=
  m_con2 (by decide +kernel) (Nat.le_of_ble_eq_true rfl) (fun Y hN hRm hr hI S hfin => s10_seam S (m_end_i S hr hfin) hRm (Nat.le_refl _) hN v0 v1 h)
set_option maxRecDepth 100000 in
theorem e10_splice : ∀ q ∈ ([(0, .aload_n 0, 1), (1, .getfield 10, 3), (4, .iload_n 1, 1), (5, .iload_n 2, 1), (6, .iload_n 3, 1), (7, .invokevirtual 132, 3), (10, .ireturn, 1)] : List (Nat × Instr × Nat)), decode cX10_splice q.1 = .ok q.2 := by decide +kernel
set_option maxHeartbeats 4000000 in
set_option maxRecDepth 20000 in
theorem s10_splice {Y : m_Y Int} (S : m_Std Y RX10 cX10_splice) (E : m_End Y cX10_splice .ireturn (fun r => [m_i r])) {F : Nat} (hF : m_Rm Y F) (hFn : 6 ≤ F) (hN : Y.2.2.2.1 = 4) (v0 v1 v2 v3 : Int) (h : m_H) : m_Sim Y 0 [(0, m_r v0), (1, m_i v1), (2, m_i v2), (3, m_i v3)] [] h (t10_splice v0 v1 v2 v3 h) := by
  unfold t10_splice
  refine ms_aload_n (pc := 0) S 0 rfl rfl (m_dec e10_splice 0 rfl) ?_
  refine ms_grd fun g1 => ?_
  refine ms_getf (pc := 1) S lf_X10_10 rfl (m_dec e10_splice 1 rfl) g1 ?_
  refine ms_iload_n (pc := 4) S 1 rfl rfl (m_dec e10_splice 2 rfl) ?_
  refine ms_iload_n (pc := 5) S 2 rfl rfl (m_dec e10_splice 3 rfl) ?_
  refine ms_iload_n (pc := 6) S 3 rfl rfl (m_dec e10_splice 4 rfl) ?_
  refine ms_grd fun g2 => ?_
  refine ms_callVi (pc := 7) S hF (vals := [m_i v1, m_i v2, m_i v3]) (st := []) (hc := vw_7) (hci := by decide) (hcy := rfl) (ht := g2) (hC := (k7_joinedOf _ _ (m_g h v0 0) v1 v2 v3 h)) (hM := lm_X10_132) (hfr := (Nat.le_trans (by decide) hFn)) (hstk := rfl) (hcat := Nat.le_of_ble_eq_true rfl) (hd := (m_dec e10_splice 5 rfl)) (k1 := fun r4 h3 => ?_)
  exact ms_ret (pc := 10) E (m_dec e10_splice 6 rfl) rfl
theorem k10_splice (l : Launch) (d : m_D) (v0 v1 v2 v3 : Int) (h : m_H) : m_Con l d yX10_splice cX10_splice 4 (some .int) 6 (fun r => [m_i r]) [m_r v0, m_i v1, m_i v2, m_i v3] h (t10_splice v0 v1 v2 v3 h) :=
  m_con2 (by decide +kernel) (Nat.le_of_ble_eq_true rfl) (fun Y hN hRm hr hI S hfin => s10_splice S (m_end_i S hr hfin) hRm (Nat.le_refl _) hN v0 v1 v2 v3 h)
set_option maxRecDepth 100000 in
theorem e10_machine : ∀ q ∈ ([(0, .aload_n 0, 1), (1, .getfield 10, 3), (4, .iload_n 1, 1), (5, .iload_n 2, 1), (6, .iload_n 3, 1), (7, .invokevirtual 136, 3), (10, .ireturn, 1)] : List (Nat × Instr × Nat)), decode cX10_machine q.1 = .ok q.2 := by decide +kernel
set_option maxHeartbeats 4000000 in
set_option maxRecDepth 20000 in
theorem s10_machine {Y : m_Y Int} (S : m_Std Y RX10 cX10_machine) (E : m_End Y cX10_machine .ireturn (fun r => [m_i r])) {F : Nat} (hF : m_Rm Y F) (hFn : 3 ≤ F) (hN : Y.2.2.2.1 = 4) (v0 v1 v2 v3 : Int) (h : m_H) : m_Sim Y 0 [(0, m_r v0), (1, m_i v1), (2, m_i v2), (3, m_i v3)] [] h (t10_machine v0 v1 v2 v3 h) := by
  unfold t10_machine
  refine ms_aload_n (pc := 0) S 0 rfl rfl (m_dec e10_machine 0 rfl) ?_
  refine ms_grd fun g1 => ?_
  refine ms_getf (pc := 1) S lf_X10_10 rfl (m_dec e10_machine 1 rfl) g1 ?_
  refine ms_iload_n (pc := 4) S 1 rfl rfl (m_dec e10_machine 2 rfl) ?_
  refine ms_iload_n (pc := 5) S 2 rfl rfl (m_dec e10_machine 3 rfl) ?_
  refine ms_iload_n (pc := 6) S 3 rfl rfl (m_dec e10_machine 4 rfl) ?_
  refine ms_grd fun g2 => ?_
  refine ms_callVi (pc := 7) S hF (vals := [m_i v1, m_i v2, m_i v3]) (st := []) (hc := vw_7) (hci := by decide) (hcy := rfl) (ht := g2) (hC := (k7_addMachine _ _ (m_g h v0 0) v1 v2 v3 h)) (hM := lm_X10_136) (hfr := (Nat.le_trans (by decide) hFn)) (hstk := rfl) (hcat := Nat.le_of_ble_eq_true rfl) (hd := (m_dec e10_machine 5 rfl)) (k1 := fun r4 h3 => ?_)
  exact ms_ret (pc := 10) E (m_dec e10_machine 6 rfl) rfl
theorem k10_machine (l : Launch) (d : m_D) (v0 v1 v2 v3 : Int) (h : m_H) : m_Con l d yX10_machine cX10_machine 4 (some .int) 3 (fun r => [m_i r]) [m_r v0, m_i v1, m_i v2, m_i v3] h (t10_machine v0 v1 v2 v3 h) :=
  m_con2 (by decide +kernel) (Nat.le_of_ble_eq_true rfl) (fun Y hN hRm hr hI S hfin => s10_machine S (m_end_i S hr hfin) hRm (Nat.le_refl _) hN v0 v1 v2 v3 h)
set_option maxRecDepth 100000 in
theorem e10_copy : ∀ q ∈ ([(0, .aload_n 0, 1), (1, .getfield 10, 3), (4, .iload_n 1, 1), (5, .iload_n 2, 1), (6, .invokevirtual 139, 3), (9, .ireturn, 1)] : List (Nat × Instr × Nat)), decode cX10_copy q.1 = .ok q.2 := by decide +kernel
set_option maxHeartbeats 4000000 in
set_option maxRecDepth 20000 in
theorem s10_copy {Y : m_Y Int} (S : m_Std Y RX10 cX10_copy) (E : m_End Y cX10_copy .ireturn (fun r => [m_i r])) {F : Nat} (hF : m_Rm Y F) (hFn : 6 ≤ F) (hN : Y.2.2.2.1 = 3) (v0 v1 v2 : Int) (h : m_H) : m_Sim Y 0 [(0, m_r v0), (1, m_i v1), (2, m_i v2)] [] h (t10_copy v0 v1 v2 h) := by
  unfold t10_copy
  refine ms_aload_n (pc := 0) S 0 rfl rfl (m_dec e10_copy 0 rfl) ?_
  refine ms_grd fun g1 => ?_
  refine ms_getf (pc := 1) S lf_X10_10 rfl (m_dec e10_copy 1 rfl) g1 ?_
  refine ms_iload_n (pc := 4) S 1 rfl rfl (m_dec e10_copy 2 rfl) ?_
  refine ms_iload_n (pc := 5) S 2 rfl rfl (m_dec e10_copy 3 rfl) ?_
  refine ms_grd fun g2 => ?_
  refine ms_callVi (pc := 6) S hF (vals := [m_i v1, m_i v2]) (st := []) (hc := vw_7) (hci := by decide) (hcy := rfl) (ht := g2) (hC := (k7_copiedOf _ _ (m_g h v0 0) v1 v2 h)) (hM := lm_X10_139) (hfr := (Nat.le_trans (by decide) hFn)) (hstk := rfl) (hcat := Nat.le_of_ble_eq_true rfl) (hd := (m_dec e10_copy 4 rfl)) (k1 := fun r4 h3 => ?_)
  exact ms_ret (pc := 9) E (m_dec e10_copy 5 rfl) rfl
theorem k10_copy (l : Launch) (d : m_D) (v0 v1 v2 : Int) (h : m_H) : m_Con l d yX10_copy cX10_copy 3 (some .int) 6 (fun r => [m_i r]) [m_r v0, m_i v1, m_i v2] h (t10_copy v0 v1 v2 h) :=
  m_con2 (by decide +kernel) (Nat.le_of_ble_eq_true rfl) (fun Y hN hRm hr hI S hfin => s10_copy S (m_end_i S hr hfin) hRm (Nat.le_refl _) hN v0 v1 v2 h)
set_option maxRecDepth 100000 in
theorem e10_speed : ∀ q ∈ ([(0, .aload_n 0, 1), (1, .getfield 10, 3), (4, .iload_n 1, 1), (5, .iload_n 2, 1), (6, .iload_n 3, 1), (7, .iload 4, 2), (9, .invokevirtual 142, 3), (12, .ireturn, 1)] : List (Nat × Instr × Nat)), decode cX10_speed q.1 = .ok q.2 := by decide +kernel
set_option maxHeartbeats 4000000 in
set_option maxRecDepth 20000 in
theorem s10_speed {Y : m_Y Int} (S : m_Std Y RX10 cX10_speed) (E : m_End Y cX10_speed .ireturn (fun r => [m_i r])) {F : Nat} (hF : m_Rm Y F) (hFn : 6 ≤ F) (hN : Y.2.2.2.1 = 5) (v0 v1 v2 v3 v4 : Int) (h : m_H) : m_Sim Y 0 [(0, m_r v0), (1, m_i v1), (2, m_i v2), (3, m_i v3), (4, m_i v4)] [] h (t10_speed v0 v1 v2 v3 v4 h) := by
  unfold t10_speed
  refine ms_aload_n (pc := 0) S 0 rfl rfl (m_dec e10_speed 0 rfl) ?_
  refine ms_grd fun g1 => ?_
  refine ms_getf (pc := 1) S lf_X10_10 rfl (m_dec e10_speed 1 rfl) g1 ?_
  refine ms_iload_n (pc := 4) S 1 rfl rfl (m_dec e10_speed 2 rfl) ?_
  refine ms_iload_n (pc := 5) S 2 rfl rfl (m_dec e10_speed 3 rfl) ?_
  refine ms_iload_n (pc := 6) S 3 rfl rfl (m_dec e10_speed 4 rfl) ?_
  refine ms_iload (pc := 7) S 4 rfl (m_dec e10_speed 5 rfl) ?_
  refine ms_grd fun g2 => ?_
  refine ms_callVi (pc := 9) S hF (vals := [m_i v1, m_i v2, m_i v3, m_i v4]) (st := []) (hc := vw_7) (hci := by decide) (hcy := rfl) (ht := g2) (hC := (k7_speededOf _ _ (m_g h v0 0) v1 v2 v3 v4 h)) (hM := lm_X10_142) (hfr := (Nat.le_trans (by decide) hFn)) (hstk := rfl) (hcat := Nat.le_of_ble_eq_true rfl) (hd := (m_dec e10_speed 6 rfl)) (k1 := fun r4 h3 => ?_)
  exact ms_ret (pc := 12) E (m_dec e10_speed 7 rfl) rfl
theorem k10_speed (l : Launch) (d : m_D) (v0 v1 v2 v3 v4 : Int) (h : m_H) : m_Con l d yX10_speed cX10_speed 5 (some .int) 6 (fun r => [m_i r]) [m_r v0, m_i v1, m_i v2, m_i v3, m_i v4] h (t10_speed v0 v1 v2 v3 v4 h) :=
  m_con2 (by decide +kernel) (Nat.le_of_ble_eq_true rfl) (fun Y hN hRm hr hI S hfin => s10_speed S (m_end_i S hr hfin) hRm (Nat.le_refl _) hN v0 v1 v2 v3 v4 h)
set_option maxRecDepth 100000 in
theorem e10_lose : ∀ q ∈ ([(0, .aload_n 0, 1), (1, .getfield 10, 3), (4, .iload_n 1, 1), (5, .invokevirtual 146, 3), (8, .astore_n 2, 1), (9, .aload_n 2, 1), (10, .ifnonnull 5, 3), (13, .iconst 0, 1), (14, .ireturn, 1), (15, .aload_n 0, 1), (16, .getfield 10, 3), (19, .aload_n 2, 1), (20, .iconst 2, 1), (21, .invokevirtual 149, 3), (24, .iconst 1, 1), (25, .ireturn, 1)] : List (Nat × Instr × Nat)), decode cX10_lose q.1 = .ok q.2 := by decide +kernel
set_option maxHeartbeats 4000000 in
set_option maxRecDepth 20000 in
theorem s10_lose {Y : m_Y Bool} (S : m_Std Y RX10 cX10_lose) (E : m_End Y cX10_lose .ireturn (fun r => [m_i (m_b2i r)])) {F : Nat} (hF : m_Rm Y F) (hFn : 2 ≤ F) (hN : Y.2.2.2.1 = 3) (v0 v1 : Int) (h : m_H) : m_Sim Y 0 [(0, m_r v0), (1, m_i v1)] [] h (t10_lose v0 v1 h) := by
  unfold t10_lose
  refine ms_aload_n (pc := 0) S 0 rfl rfl (m_dec e10_lose 0 rfl) ?_
  refine ms_grd fun g1 => ?_
  refine ms_getf (pc := 1) S lf_X10_10 rfl (m_dec e10_lose 1 rfl) g1 ?_
  refine ms_iload_n (pc := 4) S 1 rfl rfl (m_dec e10_lose 2 rfl) ?_
  refine ms_grd fun g2 => ?_
  refine ms_callVa (pc := 5) S hF (vals := [m_i v1]) (st := []) (hc := vw_7) (hci := by decide) (hcy := rfl) (ht := g2) (hC := (k7_there _ _ (m_g h v0 0) v1 h)) (hM := lm_X10_146) (hfr := (Nat.le_trans (by decide) hFn)) (hstk := rfl) (hcat := Nat.le_of_ble_eq_true rfl) (hd := (m_dec e10_lose 3 rfl)) (k1 := fun r4 h3 => ?_)
  refine ms_astore_n (pc := 8) S (L' := [(0, m_r v0), (2, m_r r4)]) [1, 0] rfl rfl (m_lt hN rfl) (m_dec e10_lose 4 rfl) ?_
  refine ms_aload_n (pc := 9) S 1 rfl rfl (m_dec e10_lose 5 rfl) ?_
  refine ms_ifnonnull (pc := 10) S (m_dec e10_lose 6 rfl) rfl (fun q5 => ?_) (fun q5 => ?_)
  · refine ms_iconst (pc := 13) S (m_dec e10_lose 7 rfl) ?_
    exact ms_ret (pc := 14) E (m_dec e10_lose 8 rfl) rfl
  · refine ms_aload_n (pc := 15) S 0 rfl rfl (m_dec e10_lose 9 rfl) ?_
    refine ms_grd fun g6 => ?_
    refine ms_getf (pc := 16) S lf_X10_10 rfl (m_dec e10_lose 10 rfl) g6 ?_
    refine ms_aload_n (pc := 19) S 1 rfl rfl (m_dec e10_lose 11 rfl) ?_
    refine ms_iconst (pc := 20) S (m_dec e10_lose 12 rfl) ?_
    refine ms_grd fun g7 => ?_
    refine ms_callVv (pc := 21) S hF (vals := [m_r r4, m_i 2]) (st := []) (hc := vw_7) (hci := by decide) (hcy := rfl) (ht := g7) (hC := (k7_takeAway _ _ (m_g h3 v0 0) r4 2 h3)) (hM := lm_X10_149) (hfr := (Nat.le_trans (by decide) hFn)) (hstk := rfl) (hcat := Nat.le_of_ble_eq_true rfl) (hd := (m_dec e10_lose 13 rfl)) (k1 := fun h8 => ?_)
    refine ms_iconst (pc := 24) S (m_dec e10_lose 14 rfl) ?_
    exact ms_ret (pc := 25) E (m_dec e10_lose 15 rfl) rfl
theorem k10_lose (l : Launch) (d : m_D) (v0 v1 : Int) (h : m_H) : m_Con l d yX10_lose cX10_lose 3 (some .boolean) 2 (fun r => [m_i (m_b2i r)]) [m_r v0, m_i v1] h (t10_lose v0 v1 h) :=
  m_con2 (by decide +kernel) (Nat.le_of_ble_eq_true rfl) (fun Y hN hRm hr hI S hfin => s10_lose S (m_end_z S hr hfin) hRm (Nat.le_refl _) hN v0 v1 h)
set_option maxRecDepth 100000 in
theorem e10_hang : ∀ q ∈ ([(0, .aload_n 0, 1), (1, .getfield 10, 3), (4, .iload_n 1, 1), (5, .invokevirtual 146, 3), (8, .astore_n 3, 1), (9, .aload_n 3, 1), (10, .ifnull 14, 3), (13, .iload_n 2, 1), (14, .iconst (-1), 1), (15, .if_icmp .lt 9, 3), (18, .iload_n 2, 1), (19, .bipush 29, 2), (21, .if_icmp .le 5, 3), (24, .iconst 0, 1), (25, .ireturn, 1), (26, .aload_n 0, 1), (27, .getfield 10, 3), (30, .iload_n 2, 1), (31, .invokevirtual 153, 3), (34, .istore 4, 2), (36, .iload 4, 2), (38, .iconst (-1), 1), (39, .if_icmp .eq 11, 3), (42, .iload 4, 2), (44, .iload_n 1, 1), (45, .if_icmp .eq 5, 3), (48, .iconst 0, 1), (49, .ireturn, 1), (50, .aload_n 3, 1), (51, .iload_n 2, 1), (52, .putfield 156, 3), (55, .iconst 1, 1), (56, .ireturn, 1)] : List (Nat × Instr × Nat)), decode cX10_hang q.1 = .ok q.2 := by decide +kernel
set_option maxHeartbeats 4000000 in
set_option maxRecDepth 20000 in
theorem s10_hang {Y : m_Y Bool} (S : m_Std Y RX10 cX10_hang) (E : m_End Y cX10_hang .ireturn (fun r => [m_i (m_b2i r)])) {F : Nat} (hF : m_Rm Y F) (hFn : 3 ≤ F) (hN : Y.2.2.2.1 = 5) (v0 v1 v2 : Int) (h : m_H) : m_Sim Y 0 [(0, m_r v0), (1, m_i v1), (2, m_i v2)] [] h (t10_hang v0 v1 v2 h) := by
  unfold t10_hang
  refine ms_aload_n (pc := 0) S 0 rfl rfl (m_dec e10_hang 0 rfl) ?_
  refine ms_grd fun g1 => ?_
  refine ms_getf (pc := 1) S lf_X10_10 rfl (m_dec e10_hang 1 rfl) g1 ?_
  refine ms_iload_n (pc := 4) S 1 rfl rfl (m_dec e10_hang 2 rfl) ?_
  refine ms_grd fun g2 => ?_
  refine ms_callVa (pc := 5) S hF (vals := [m_i v1]) (st := []) (hc := vw_7) (hci := by decide) (hcy := rfl) (ht := g2) (hC := (k7_there _ _ (m_g h v0 0) v1 h)) (hM := lm_X10_146) (hfr := (Nat.le_trans (by decide) hFn)) (hstk := rfl) (hcat := Nat.le_of_ble_eq_true rfl) (hd := (m_dec e10_hang 3 rfl)) (k1 := fun r4 h3 => ?_)
  refine ms_astore_n (pc := 8) S (L' := [(0, m_r v0), (1, m_i v1), (2, m_i v2), (3, m_r r4)]) [1, 2, 3, 0] rfl rfl (m_lt hN rfl) (m_dec e10_hang 4 rfl) ?_
  refine ms_aload_n (pc := 9) S 3 rfl rfl (m_dec e10_hang 5 rfl) ?_
  refine ms_ifnull (pc := 10) S (m_dec e10_hang 6 rfl) rfl (fun q5 => ?_) (fun q5 => ?_)
  · refine ms_iconst (pc := 24) S (m_dec e10_hang 13 rfl) ?_
    exact ms_ret (pc := 25) E (m_dec e10_hang 14 rfl) rfl
  · refine ms_iload_n (pc := 13) S 2 rfl rfl (m_dec e10_hang 7 rfl) ?_
    refine ms_iconst (pc := 14) S (m_dec e10_hang 8 rfl) ?_
    refine ms_icmp_lt (pc := 15) S (m_dec e10_hang 9 rfl) rfl (fun q6 => ?_) (fun q6 => ?_)
    · refine ms_iconst (pc := 24) S (m_dec e10_hang 13 rfl) ?_
      exact ms_ret (pc := 25) E (m_dec e10_hang 14 rfl) rfl
    · refine ms_iload_n (pc := 18) S 2 rfl rfl (m_dec e10_hang 10 rfl) ?_
      refine ms_bipush (pc := 19) S (m_dec e10_hang 11 rfl) rfl ?_
      refine ms_icmp_le (pc := 21) S (m_dec e10_hang 12 rfl) rfl (fun q7 => ?_) (fun q7 => ?_)
      · refine ms_iconst (pc := 24) S (m_dec e10_hang 13 rfl) ?_
        exact ms_ret (pc := 25) E (m_dec e10_hang 14 rfl) rfl
      · refine ms_aload_n (pc := 26) S 0 rfl rfl (m_dec e10_hang 15 rfl) ?_
        refine ms_grd fun g8 => ?_
        refine ms_getf (pc := 27) S lf_X10_10 rfl (m_dec e10_hang 16 rfl) g8 ?_
        refine ms_iload_n (pc := 30) S 2 rfl rfl (m_dec e10_hang 17 rfl) ?_
        refine ms_grd fun g9 => ?_
        refine ms_callVi (pc := 31) S hF (vals := [m_i v2]) (st := []) (hc := vw_7) (hci := by decide) (hcy := rfl) (ht := g9) (hC := (k7_hangingOn _ _ (m_g h3 v0 0) v2 h3)) (hM := lm_X10_153) (hfr := (Nat.le_trans (by decide) hFn)) (hstk := rfl) (hcat := Nat.le_of_ble_eq_true rfl) (hd := (m_dec e10_hang 18 rfl)) (k1 := fun r11 h10 => ?_)
        refine ms_istore (pc := 34) S (L' := [(1, m_i v1), (2, m_i v2), (3, m_r r4), (4, m_i r11)]) [2, 3, 4, 0] rfl (m_lt hN rfl) (m_dec e10_hang 19 rfl) ?_
        refine ms_iload (pc := 36) S 3 rfl (m_dec e10_hang 20 rfl) ?_
        refine ms_iconst (pc := 38) S (m_dec e10_hang 21 rfl) ?_
        refine ms_icmp_eq (pc := 39) S (m_dec e10_hang 22 rfl) rfl (fun q12 => ?_) (fun q12 => ?_)
        · refine ms_aload_n (pc := 50) S 2 rfl rfl (m_dec e10_hang 28 rfl) ?_
          refine ms_iload_n (pc := 51) S 1 rfl rfl (m_dec e10_hang 29 rfl) ?_
          refine ms_grd fun g13 => ?_
          refine ms_putf (pc := 52) S lp_X10_156 (fun z => by cases z) rfl (fun d => m_fitI d _) (m_dec e10_hang 30 rfl) g13 (fun h14 => ?_)
          refine ms_iconst (pc := 55) S (m_dec e10_hang 31 rfl) ?_
          exact ms_ret (pc := 56) E (m_dec e10_hang 32 rfl) rfl
        · refine ms_iload (pc := 42) S 3 rfl (m_dec e10_hang 23 rfl) ?_
          refine ms_iload_n (pc := 44) S 0 rfl rfl (m_dec e10_hang 24 rfl) ?_
          refine ms_icmp_eq (pc := 45) S (m_dec e10_hang 25 rfl) rfl (fun q15 => ?_) (fun q15 => ?_)
          · refine ms_aload_n (pc := 50) S 2 rfl rfl (m_dec e10_hang 28 rfl) ?_
            refine ms_iload_n (pc := 51) S 1 rfl rfl (m_dec e10_hang 29 rfl) ?_
            refine ms_grd fun g16 => ?_
            refine ms_putf (pc := 52) S lp_X10_156 (fun z => by cases z) rfl (fun d => m_fitI d _) (m_dec e10_hang 30 rfl) g16 (fun h17 => ?_)
            refine ms_iconst (pc := 55) S (m_dec e10_hang 31 rfl) ?_
            exact ms_ret (pc := 56) E (m_dec e10_hang 32 rfl) rfl
          · refine ms_iconst (pc := 48) S (m_dec e10_hang 26 rfl) ?_
            exact ms_ret (pc := 49) E (m_dec e10_hang 27 rfl) rfl
theorem k10_hang (l : Launch) (d : m_D) (v0 v1 v2 : Int) (h : m_H) : m_Con l d yX10_hang cX10_hang 5 (some .boolean) 3 (fun r => [m_i (m_b2i r)]) [m_r v0, m_i v1, m_i v2] h (t10_hang v0 v1 v2 h) :=
  m_con2 (by decide +kernel) (Nat.le_of_ble_eq_true rfl) (fun Y hN hRm hr hI S hfin => s10_hang S (m_end_z S hr hfin) hRm (Nat.le_refl _) hN v0 v1 v2 h)
set_option maxRecDepth 100000 in
theorem e10_nail : ∀ q ∈ ([(0, .aload_n 0, 1), (1, .getfield 10, 3), (4, .iload_n 1, 1), (5, .invokevirtual 153, 3), (8, .ireturn, 1)] : List (Nat × Instr × Nat)), decode cX10_nail q.1 = .ok q.2 := by decide +kernel
set_option maxHeartbeats 4000000 in
set_option maxRecDepth 20000 in
theorem s10_nail {Y : m_Y Int} (S : m_Std Y RX10 cX10_nail) (E : m_End Y cX10_nail .ireturn (fun r => [m_i r])) {F : Nat} (hF : m_Rm Y F) (hFn : 3 ≤ F) (hN : Y.2.2.2.1 = 2) (v0 v1 : Int) (h : m_H) : m_Sim Y 0 [(0, m_r v0), (1, m_i v1)] [] h (t10_nail v0 v1 h) := by
  unfold t10_nail
  refine ms_aload_n (pc := 0) S 0 rfl rfl (m_dec e10_nail 0 rfl) ?_
  refine ms_grd fun g1 => ?_
  refine ms_getf (pc := 1) S lf_X10_10 rfl (m_dec e10_nail 1 rfl) g1 ?_
  refine ms_iload_n (pc := 4) S 1 rfl rfl (m_dec e10_nail 2 rfl) ?_
  refine ms_grd fun g2 => ?_
  refine ms_callVi (pc := 5) S hF (vals := [m_i v1]) (st := []) (hc := vw_7) (hci := by decide) (hcy := rfl) (ht := g2) (hC := (k7_hangingOn _ _ (m_g h v0 0) v1 h)) (hM := lm_X10_153) (hfr := (Nat.le_trans (by decide) hFn)) (hstk := rfl) (hcat := Nat.le_of_ble_eq_true rfl) (hd := (m_dec e10_nail 3 rfl)) (k1 := fun r4 h3 => ?_)
  exact ms_ret (pc := 8) E (m_dec e10_nail 4 rfl) rfl
theorem k10_nail (l : Launch) (d : m_D) (v0 v1 : Int) (h : m_H) : m_Con l d yX10_nail cX10_nail 2 (some .int) 3 (fun r => [m_i r]) [m_r v0, m_i v1] h (t10_nail v0 v1 h) :=
  m_con2 (by decide +kernel) (Nat.le_of_ble_eq_true rfl) (fun Y hN hRm hr hI S hfin => s10_nail S (m_end_i S hr hfin) hRm (Nat.le_refl _) hN v0 v1 h)
set_option maxRecDepth 100000 in
theorem e10_read : ∀ q ∈ ([(0, .aload_n 0, 1), (1, .getfield 10, 3), (4, .iload_n 1, 1), (5, .iload_n 2, 1), (6, .invokevirtual 159, 3), (9, .ireturn, 1)] : List (Nat × Instr × Nat)), decode cX10_read q.1 = .ok q.2 := by decide +kernel
set_option maxHeartbeats 4000000 in
set_option maxRecDepth 20000 in
theorem s10_read {Y : m_Y Bool} (S : m_Std Y RX10 cX10_read) (E : m_End Y cX10_read .ireturn (fun r => [m_i (m_b2i r)])) {F : Nat} (hF : m_Rm Y F) (hFn : 2 ≤ F) (hN : Y.2.2.2.1 = 3) (v0 v1 v2 : Int) (h : m_H) : m_Sim Y 0 [(0, m_r v0), (1, m_i v1), (2, m_i v2)] [] h (t10_read v0 v1 v2 h) := by
  unfold t10_read
  refine ms_aload_n (pc := 0) S 0 rfl rfl (m_dec e10_read 0 rfl) ?_
  refine ms_grd fun g1 => ?_
  refine ms_getf (pc := 1) S lf_X10_10 rfl (m_dec e10_read 1 rfl) g1 ?_
  refine ms_iload_n (pc := 4) S 1 rfl rfl (m_dec e10_read 2 rfl) ?_
  refine ms_iload_n (pc := 5) S 2 rfl rfl (m_dec e10_read 3 rfl) ?_
  refine ms_grd fun g2 => ?_
  refine ms_callVz (pc := 6) S hF (vals := [m_i v1, m_i v2]) (st := []) (hc := vw_7) (hci := by decide) (hcy := rfl) (ht := g2) (hC := (k7_readMark _ _ (m_g h v0 0) v1 v2 h)) (hM := lm_X10_159) (hfr := (Nat.le_trans (by decide) hFn)) (hstk := rfl) (hcat := Nat.le_of_ble_eq_true rfl) (hd := (m_dec e10_read 4 rfl)) (k1 := fun r4 h3 => ?_)
  exact ms_ret (pc := 9) E (m_dec e10_read 5 rfl) rfl
theorem k10_read (l : Launch) (d : m_D) (v0 v1 v2 : Int) (h : m_H) : m_Con l d yX10_read cX10_read 3 (some .boolean) 2 (fun r => [m_i (m_b2i r)]) [m_r v0, m_i v1, m_i v2] h (t10_read v0 v1 v2 h) :=
  m_con2 (by decide +kernel) (Nat.le_of_ble_eq_true rfl) (fun Y hN hRm hr hI S hfin => s10_read S (m_end_z S hr hfin) hRm (Nat.le_refl _) hN v0 v1 v2 h)
set_option maxRecDepth 100000 in
theorem e10_marked : ∀ q ∈ ([(0, .iload_n 2, 1), (1, .ifCond .lt 10, 3), (4, .iload_n 2, 1), (5, .sipush 400, 3), (8, .if_icmp .le 5, 3), (11, .iconst (-1), 1), (12, .ireturn, 1), (13, .aload_n 0, 1), (14, .getfield 10, 3), (17, .iload_n 1, 1), (18, .iload_n 2, 1), (19, .invokevirtual 162, 3), (22, .ireturn, 1)] : List (Nat × Instr × Nat)), decode cX10_marked q.1 = .ok q.2 := by decide +kernel
set_option maxHeartbeats 4000000 in
set_option maxRecDepth 20000 in
theorem s10_marked {Y : m_Y Int} (S : m_Std Y RX10 cX10_marked) (E : m_End Y cX10_marked .ireturn (fun r => [m_i r])) {F : Nat} (hF : m_Rm Y F) (hFn : 2 ≤ F) (hN : Y.2.2.2.1 = 3) (v0 v1 v2 : Int) (h : m_H) : m_Sim Y 0 [(0, m_r v0), (1, m_i v1), (2, m_i v2)] [] h (t10_marked v0 v1 v2 h) := by
  unfold t10_marked
  refine ms_iload_n (pc := 0) S 2 rfl rfl (m_dec e10_marked 0 rfl) ?_
  refine ms_if_lt (pc := 1) S (m_dec e10_marked 1 rfl) rfl (fun q1 => ?_) (fun q1 => ?_)
  · refine ms_iconst (pc := 11) S (m_dec e10_marked 5 rfl) ?_
    exact ms_ret (pc := 12) E (m_dec e10_marked 6 rfl) rfl
  · refine ms_iload_n (pc := 4) S 2 rfl rfl (m_dec e10_marked 2 rfl) ?_
    refine ms_sipush (pc := 5) S (m_dec e10_marked 3 rfl) rfl ?_
    refine ms_icmp_le (pc := 8) S (m_dec e10_marked 4 rfl) rfl (fun q2 => ?_) (fun q2 => ?_)
    · refine ms_iconst (pc := 11) S (m_dec e10_marked 5 rfl) ?_
      exact ms_ret (pc := 12) E (m_dec e10_marked 6 rfl) rfl
    · refine ms_aload_n (pc := 13) S 0 rfl rfl (m_dec e10_marked 7 rfl) ?_
      refine ms_grd fun g3 => ?_
      refine ms_getf (pc := 14) S lf_X10_10 rfl (m_dec e10_marked 8 rfl) g3 ?_
      refine ms_iload_n (pc := 17) S 1 rfl rfl (m_dec e10_marked 9 rfl) ?_
      refine ms_iload_n (pc := 18) S 2 rfl rfl (m_dec e10_marked 10 rfl) ?_
      refine ms_grd fun g4 => ?_
      refine ms_callVi (pc := 19) S hF (vals := [m_i v1, m_i v2]) (st := []) (hc := vw_7) (hci := by decide) (hcy := rfl) (ht := g4) (hC := (k7_markOf _ _ (m_g h v0 0) v1 v2 h)) (hM := lm_X10_162) (hfr := (Nat.le_trans (by decide) hFn)) (hstk := rfl) (hcat := Nat.le_of_ble_eq_true rfl) (hd := (m_dec e10_marked 11 rfl)) (k1 := fun r6 h5 => ?_)
      exact ms_ret (pc := 22) E (m_dec e10_marked 12 rfl) rfl
theorem k10_marked (l : Launch) (d : m_D) (v0 v1 v2 : Int) (h : m_H) : m_Con l d yX10_marked cX10_marked 3 (some .int) 2 (fun r => [m_i r]) [m_r v0, m_i v1, m_i v2] h (t10_marked v0 v1 v2 h) :=
  m_con2 (by decide +kernel) (Nat.le_of_ble_eq_true rfl) (fun Y hN hRm hr hI S hfin => s10_marked S (m_end_i S hr hfin) hRm (Nat.le_refl _) hN v0 v1 v2 h)
set_option maxRecDepth 100000 in
theorem e10_go : ∀ q ∈ ([(0, .iload_n 1, 1), (1, .ifCond .lt 9, 3), (4, .iload_n 1, 1), (5, .bipush 100, 2), (7, .if_icmp .le 5, 3), (10, .iconst (-1), 1), (11, .ireturn, 1), (12, .aload_n 0, 1), (13, .getfield 10, 3), (16, .sipush 400, 3), (19, .aload_n 0, 1), (20, .getfield 10, 3), (23, .getfield 165, 3), (26, .iload_n 1, 1), (27, .iadd, 1), (28, .invokestatic 168, 3), (31, .putfield 165, 3), (34, .aload_n 0, 1), (35, .getfield 10, 3), (38, .getfield 165, 3), (41, .ireturn, 1)] : List (Nat × Instr × Nat)), decode cX10_go q.1 = .ok q.2 := by decide +kernel
set_option maxHeartbeats 4000000 in
set_option maxRecDepth 20000 in
theorem s10_go {Y : m_Y Int} (S : m_Std Y RX10 cX10_go) (E : m_End Y cX10_go .ireturn (fun r => [m_i r])) {F : Nat} (hF : m_Rm Y F) (hFn : 1 ≤ F) (hN : Y.2.2.2.1 = 2) (v0 v1 : Int) (h : m_H) : m_Sim Y 0 [(0, m_r v0), (1, m_i v1)] [] h (t10_go v0 v1 h) := by
  unfold t10_go
  refine ms_iload_n (pc := 0) S 1 rfl rfl (m_dec e10_go 0 rfl) ?_
  refine ms_if_lt (pc := 1) S (m_dec e10_go 1 rfl) rfl (fun q1 => ?_) (fun q1 => ?_)
  · refine ms_iconst (pc := 10) S (m_dec e10_go 5 rfl) ?_
    exact ms_ret (pc := 11) E (m_dec e10_go 6 rfl) rfl
  · refine ms_iload_n (pc := 4) S 1 rfl rfl (m_dec e10_go 2 rfl) ?_
    refine ms_bipush (pc := 5) S (m_dec e10_go 3 rfl) rfl ?_
    refine ms_icmp_le (pc := 7) S (m_dec e10_go 4 rfl) rfl (fun q2 => ?_) (fun q2 => ?_)
    · refine ms_iconst (pc := 10) S (m_dec e10_go 5 rfl) ?_
      exact ms_ret (pc := 11) E (m_dec e10_go 6 rfl) rfl
    · refine ms_aload_n (pc := 12) S 0 rfl rfl (m_dec e10_go 7 rfl) ?_
      refine ms_grd fun g3 => ?_
      refine ms_getf (pc := 13) S lf_X10_10 rfl (m_dec e10_go 8 rfl) g3 ?_
      refine ms_sipush (pc := 16) S (m_dec e10_go 9 rfl) rfl ?_
      refine ms_aload_n (pc := 19) S 0 rfl rfl (m_dec e10_go 10 rfl) ?_
      refine ms_getf (pc := 20) S lf_X10_10 rfl (m_dec e10_go 11 rfl) g3 ?_
      refine ms_grd fun g4 => ?_
      refine ms_getf (pc := 23) S lf_X10_165 rfl (m_dec e10_go 12 rfl) g4 ?_
      refine ms_iload_n (pc := 26) S 1 rfl rfl (m_dec e10_go 13 rfl) ?_
      refine ms_iadd (pc := 27) S (m_dec e10_go 14 rfl) ?_
      refine ms_mmin (pc := 28) S hF (Nat.le_trans (by decide) hFn) ⟨w_497, w_498, w_136, w_499⟩ (Nat.le_of_ble_eq_true rfl) (m_dec e10_go 15 rfl) ?_
      refine ms_putf (pc := 31) S lp_X10_165 (fun z => by cases z) rfl (fun d => m_fitI d _) (m_dec e10_go 16 rfl) g4 (fun h5 => ?_)
      refine ms_aload_n (pc := 34) S 0 rfl rfl (m_dec e10_go 17 rfl) ?_
      refine ms_grd fun g6 => ?_
      refine ms_getf (pc := 35) S lf_X10_10 rfl (m_dec e10_go 18 rfl) g6 ?_
      refine ms_grd fun g7 => ?_
      refine ms_getf (pc := 38) S lf_X10_165 rfl (m_dec e10_go 19 rfl) g7 ?_
      exact ms_ret (pc := 41) E (m_dec e10_go 20 rfl) rfl
theorem k10_go (l : Launch) (d : m_D) (v0 v1 : Int) (h : m_H) : m_Con l d yX10_go cX10_go 2 (some .int) 1 (fun r => [m_i r]) [m_r v0, m_i v1] h (t10_go v0 v1 h) :=
  m_con2 (by decide +kernel) (Nat.le_of_ble_eq_true rfl) (fun Y hN hRm hr hI S hfin => s10_go S (m_end_i S hr hfin) hRm (Nat.le_refl _) hN v0 v1 h)
set_option maxRecDepth 100000 in
theorem e10_sampleOf : ∀ q ∈ ([(0, .iload_n 1, 1), (1, .ifCond .lt 19, 3), (4, .iload_n 1, 1), (5, .aload_n 0, 1), (6, .invokevirtual 71, 3), (9, .if_icmp .ge 11, 3), (12, .aload_n 0, 1), (13, .iload_n 1, 1), (14, .invokevirtual 124, 3), (17, .goto 5, 3), (20, .ldc 171, 2), (22, .ireturn, 1)] : List (Nat × Instr × Nat)), decode cX10_sampleOf q.1 = .ok q.2 := by decide +kernel
set_option maxHeartbeats 4000000 in
set_option maxRecDepth 20000 in
theorem s10_sampleOf {Y : m_Y Int} (S : m_Std Y RX10 cX10_sampleOf) (E : m_End Y cX10_sampleOf .ireturn (fun r => [m_i r])) {F : Nat} (hF : m_Rm Y F) (hFn : 1 ≤ F) (hN : Y.2.2.2.1 = 2) (v0 v1 : Int) (h : m_H) : m_Sim Y 0 [(0, m_r v0), (1, m_i v1)] [] h (t10_sampleOf v0 v1 h) := by
  unfold t10_sampleOf
  refine ms_iload_n (pc := 0) S 1 rfl rfl (m_dec e10_sampleOf 0 rfl) ?_
  refine ms_if_lt (pc := 1) S (m_dec e10_sampleOf 1 rfl) rfl (fun q1 => ?_) (fun q1 => ?_)
  · refine ms_ldc (pc := 20) S (n := (-2147483648)) w_816 (m_dec e10_sampleOf 10 rfl) ?_
    exact ms_ret (pc := 22) E (m_dec e10_sampleOf 11 rfl) rfl
  · refine ms_iload_n (pc := 4) S 1 rfl rfl (m_dec e10_sampleOf 2 rfl) ?_
    refine ms_aload_n (pc := 5) S 0 rfl rfl (m_dec e10_sampleOf 3 rfl) ?_
    refine ms_grd fun g2 => ?_
    refine ms_callVi (pc := 6) S hF (vals := []) (st := [m_i v1]) (hc := vw_5) (hci := by decide) (hcy := rfl) (ht := g2) (hC := (k5_size _ _ v0 h)) (hM := lm_X10_71) (hfr := (Nat.le_trans (by decide) hFn)) (hstk := rfl) (hcat := Nat.le_of_ble_eq_true rfl) (hd := (m_dec e10_sampleOf 4 rfl)) (k1 := fun r4 h3 => ?_)
    refine ms_icmp_ge (pc := 9) S (m_dec e10_sampleOf 5 rfl) rfl (fun q5 => ?_) (fun q5 => ?_)
    · refine ms_aload_n (pc := 12) S 0 rfl rfl (m_dec e10_sampleOf 6 rfl) ?_
      refine ms_iload_n (pc := 13) S 1 rfl rfl (m_dec e10_sampleOf 7 rfl) ?_
      refine ms_grd fun g6 => ?_
      refine ms_callVi (pc := 14) S hF (vals := [m_i v1]) (st := []) (hc := vw_5) (hci := by decide) (hcy := rfl) (ht := g6) (hC := (k5_get _ _ v0 v1 h3)) (hM := lm_X10_124) (hfr := (Nat.le_trans (by decide) hFn)) (hstk := rfl) (hcat := Nat.le_of_ble_eq_true rfl) (hd := (m_dec e10_sampleOf 8 rfl)) (k1 := fun r8 h7 => ?_)
      refine ms_goto (pc := 17) S (m_dec e10_sampleOf 9 rfl) rfl ?_
      exact ms_ret (pc := 22) E (m_dec e10_sampleOf 11 rfl) rfl
    · refine ms_ldc (pc := 20) S (n := (-2147483648)) w_816 (m_dec e10_sampleOf 10 rfl) ?_
      exact ms_ret (pc := 22) E (m_dec e10_sampleOf 11 rfl) rfl
theorem k10_sampleOf (l : Launch) (d : m_D) (v0 v1 : Int) (h : m_H) : m_Con l d yX10_sampleOf cX10_sampleOf 2 (some .int) 1 (fun r => [m_i r]) [m_r v0, m_i v1] h (t10_sampleOf v0 v1 h) :=
  m_con2 (by decide +kernel) (Nat.le_of_ble_eq_true rfl) (fun Y hN hRm hr hI S hfin => s10_sampleOf S (m_end_i S hr hfin) hRm (Nat.le_refl _) hN v0 v1 h)
set_option maxRecDepth 100000 in
theorem e10_sample : ∀ q ∈ ([(0, .aload_n 0, 1), (1, .getfield 10, 3), (4, .iload_n 1, 1), (5, .invokevirtual 112, 3), (8, .astore_n 3, 1), (9, .aload_n 3, 1), (10, .ifnonnull 8, 3), (13, .ldc 171, 2), (15, .goto 11, 3), (18, .aload_n 3, 1), (19, .getfield 121, 3), (22, .iload_n 2, 1), (23, .invokestatic 172, 3), (26, .ireturn, 1)] : List (Nat × Instr × Nat)), decode cX10_sample q.1 = .ok q.2 := by decide +kernel
set_option maxHeartbeats 4000000 in
set_option maxRecDepth 20000 in
theorem s10_sample {Y : m_Y Int} (S : m_Std Y RX10 cX10_sample) (E : m_End Y cX10_sample .ireturn (fun r => [m_i r])) {F : Nat} (hF : m_Rm Y F) (hFn : 2 ≤ F) (hN : Y.2.2.2.1 = 4) (v0 v1 v2 : Int) (h : m_H) : m_Sim Y 0 [(0, m_r v0), (1, m_i v1), (2, m_i v2)] [] h (t10_sample v0 v1 v2 h) := by
  unfold t10_sample
  refine ms_aload_n (pc := 0) S 0 rfl rfl (m_dec e10_sample 0 rfl) ?_
  refine ms_grd fun g1 => ?_
  refine ms_getf (pc := 1) S lf_X10_10 rfl (m_dec e10_sample 1 rfl) g1 ?_
  refine ms_iload_n (pc := 4) S 1 rfl rfl (m_dec e10_sample 2 rfl) ?_
  refine ms_grd fun g2 => ?_
  refine ms_callVa (pc := 5) S hF (vals := [m_i v1]) (st := []) (hc := vw_7) (hci := by decide) (hcy := rfl) (ht := g2) (hC := (k7_known _ _ (m_g h v0 0) v1 h)) (hM := lm_X10_112) (hfr := (Nat.le_trans (by decide) hFn)) (hstk := rfl) (hcat := Nat.le_of_ble_eq_true rfl) (hd := (m_dec e10_sample 3 rfl)) (k1 := fun r4 h3 => ?_)
  refine ms_astore_n (pc := 8) S (L' := [(2, m_i v2), (3, m_r r4)]) [3, 0] rfl rfl (m_lt hN rfl) (m_dec e10_sample 4 rfl) ?_
  refine ms_aload_n (pc := 9) S 1 rfl rfl (m_dec e10_sample 5 rfl) ?_
  refine ms_ifnonnull (pc := 10) S (m_dec e10_sample 6 rfl) rfl (fun q5 => ?_) (fun q5 => ?_)
  · refine ms_ldc (pc := 13) S (n := (-2147483648)) w_816 (m_dec e10_sample 7 rfl) ?_
    refine ms_goto (pc := 15) S (m_dec e10_sample 8 rfl) rfl ?_
    exact ms_ret (pc := 26) E (m_dec e10_sample 13 rfl) rfl
  · refine ms_aload_n (pc := 18) S 1 rfl rfl (m_dec e10_sample 9 rfl) ?_
    refine ms_grd fun g6 => ?_
    refine ms_getf (pc := 19) S lf_X10_121 rfl (m_dec e10_sample 10 rfl) g6 ?_
    refine ms_iload_n (pc := 22) S 0 rfl rfl (m_dec e10_sample 11 rfl) ?_
    refine ms_callSi (pc := 23) S hF (vals := [m_r (m_g h3 r4 3), m_i v2]) (st := [])  (hC := (k10_sampleOf _ _ (m_g h3 r4 3) v2 h3)) (hM := lm_X10_172) (hfr := (Nat.le_trans (by decide) hFn)) (hstk := rfl) (hcat := Nat.le_of_ble_eq_true rfl) (hd := (m_dec e10_sample 12 rfl)) (k1 := fun r8 h7 => ?_)
    exact ms_ret (pc := 26) E (m_dec e10_sample 13 rfl) rfl
theorem k10_sample (l : Launch) (d : m_D) (v0 v1 v2 : Int) (h : m_H) : m_Con l d yX10_sample cX10_sample 4 (some .int) 2 (fun r => [m_i r]) [m_r v0, m_i v1, m_i v2] h (t10_sample v0 v1 v2 h) :=
  m_con2 (by decide +kernel) (Nat.le_of_ble_eq_true rfl) (fun Y hN hRm hr hI S hfin => s10_sample S (m_end_i S hr hfin) hRm (Nat.le_refl _) hN v0 v1 v2 h)
set_option maxRecDepth 100000 in
theorem e10_told : ∀ q ∈ ([(0, .aload_n 0, 1), (1, .getfield 10, 3), (4, .iload_n 1, 1), (5, .invokevirtual 112, 3), (8, .astore_n 3, 1), (9, .aload_n 3, 1), (10, .ifnonnull 7, 3), (13, .iconst (-1), 1), (14, .goto 8, 3), (17, .aload_n 3, 1), (18, .iload_n 2, 1), (19, .invokevirtual 175, 3), (22, .ireturn, 1)] : List (Nat × Instr × Nat)), decode cX10_told q.1 = .ok q.2 := by decide +kernel
set_option maxHeartbeats 4000000 in
set_option maxRecDepth 20000 in
theorem s10_told {Y : m_Y Int} (S : m_Std Y RX10 cX10_told) (E : m_End Y cX10_told .ireturn (fun r => [m_i r])) {F : Nat} (hF : m_Rm Y F) (hFn : 2 ≤ F) (hN : Y.2.2.2.1 = 4) (v0 v1 v2 : Int) (h : m_H) : m_Sim Y 0 [(0, m_r v0), (1, m_i v1), (2, m_i v2)] [] h (t10_told v0 v1 v2 h) := by
  unfold t10_told
  refine ms_aload_n (pc := 0) S 0 rfl rfl (m_dec e10_told 0 rfl) ?_
  refine ms_grd fun g1 => ?_
  refine ms_getf (pc := 1) S lf_X10_10 rfl (m_dec e10_told 1 rfl) g1 ?_
  refine ms_iload_n (pc := 4) S 1 rfl rfl (m_dec e10_told 2 rfl) ?_
  refine ms_grd fun g2 => ?_
  refine ms_callVa (pc := 5) S hF (vals := [m_i v1]) (st := []) (hc := vw_7) (hci := by decide) (hcy := rfl) (ht := g2) (hC := (k7_known _ _ (m_g h v0 0) v1 h)) (hM := lm_X10_112) (hfr := (Nat.le_trans (by decide) hFn)) (hstk := rfl) (hcat := Nat.le_of_ble_eq_true rfl) (hd := (m_dec e10_told 3 rfl)) (k1 := fun r4 h3 => ?_)
  refine ms_astore_n (pc := 8) S (L' := [(2, m_i v2), (3, m_r r4)]) [3, 0] rfl rfl (m_lt hN rfl) (m_dec e10_told 4 rfl) ?_
  refine ms_aload_n (pc := 9) S 1 rfl rfl (m_dec e10_told 5 rfl) ?_
  refine ms_ifnonnull (pc := 10) S (m_dec e10_told 6 rfl) rfl (fun q5 => ?_) (fun q5 => ?_)
  · refine ms_iconst (pc := 13) S (m_dec e10_told 7 rfl) ?_
    refine ms_goto (pc := 14) S (m_dec e10_told 8 rfl) rfl ?_
    exact ms_ret (pc := 22) E (m_dec e10_told 12 rfl) rfl
  · refine ms_aload_n (pc := 17) S 1 rfl rfl (m_dec e10_told 9 rfl) ?_
    refine ms_iload_n (pc := 18) S 0 rfl rfl (m_dec e10_told 10 rfl) ?_
    refine ms_grd fun g6 => ?_
    refine ms_callVi (pc := 19) S hF (vals := [m_i v2]) (st := []) (hc := vw_8) (hci := by decide) (hcy := rfl) (ht := g6) (hC := (k8_fact _ _ r4 v2 h3)) (hM := lm_X10_175) (hfr := (Nat.le_trans (by decide) hFn)) (hstk := rfl) (hcat := Nat.le_of_ble_eq_true rfl) (hd := (m_dec e10_told 11 rfl)) (k1 := fun r8 h7 => ?_)
    exact ms_ret (pc := 22) E (m_dec e10_told 12 rfl) rfl
theorem k10_told (l : Launch) (d : m_D) (v0 v1 v2 : Int) (h : m_H) : m_Con l d yX10_told cX10_told 4 (some .int) 2 (fun r => [m_i r]) [m_r v0, m_i v1, m_i v2] h (t10_told v0 v1 v2 h) :=
  m_con2 (by decide +kernel) (Nat.le_of_ble_eq_true rfl) (fun Y hN hRm hr hI S hfin => s10_told S (m_end_i S hr hfin) hRm (Nat.le_refl _) hN v0 v1 v2 h)
set_option maxRecDepth 100000 in
theorem e10_feed : ∀ q ∈ ([(0, .aload_n 0, 1), (1, .getfield 26, 3), (4, .getfield 178, 3), (7, .bipush 20, 2), (9, .iadd, 1), (10, .sipush 1200, 3), (13, .if_icmp .le 5, 3), (16, .iconst (-1), 1), (17, .ireturn, 1), (18, .aload_n 0, 1), (19, .getfield 26, 3), (22, .iload_n 1, 1), (23, .invokevirtual 180, 3), (26, .aload_n 0, 1), (27, .getfield 26, 3), (30, .iload_n 2, 1), (31, .invokevirtual 180, 3), (34, .aload_n 0, 1), (35, .getfield 26, 3), (38, .iload_n 3, 1), (39, .invokevirtual 180, 3), (42, .aload_n 0, 1), (43, .getfield 26, 3), (46, .iload 4, 2), (48, .invokevirtual 180, 3), (51, .aload_n 0, 1), (52, .getfield 26, 3), (55, .iload 5, 2), (57, .invokevirtual 180, 3), (60, .aload_n 0, 1), (61, .getfield 26, 3), (64, .getfield 178, 3), (67, .ireturn, 1)] : List (Nat × Instr × Nat)), decode cX10_feed q.1 = .ok q.2 := by decide +kernel
set_option maxHeartbeats 4000000 in
set_option maxRecDepth 20000 in
theorem s10_feed {Y : m_Y Int} (S : m_Std Y RX10 cX10_feed) (E : m_End Y cX10_feed .ireturn (fun r => [m_i r])) {F : Nat} (hF : m_Rm Y F) (hFn : 2 ≤ F) (hN : Y.2.2.2.1 = 6) (v0 v1 v2 v3 v4 v5 : Int) (h : m_H) : m_Sim Y 0 [(0, m_r v0), (1, m_i v1), (2, m_i v2), (3, m_i v3), (4, m_i v4), (5, m_i v5)] [] h (t10_feed v0 v1 v2 v3 v4 v5 h) := by
  unfold t10_feed
  refine ms_aload_n (pc := 0) S 0 rfl rfl (m_dec e10_feed 0 rfl) ?_
  refine ms_grd fun g1 => ?_
  refine ms_getf (pc := 1) S lf_X10_26 rfl (m_dec e10_feed 1 rfl) g1 ?_
  refine ms_grd fun g2 => ?_
  refine ms_getf (pc := 4) S lf_X10_178 rfl (m_dec e10_feed 2 rfl) g2 ?_
  refine ms_bipush (pc := 7) S (m_dec e10_feed 3 rfl) rfl ?_
  refine ms_iadd (pc := 9) S (m_dec e10_feed 4 rfl) ?_
  refine ms_sipush (pc := 10) S (m_dec e10_feed 5 rfl) rfl ?_
  refine ms_icmp_le (pc := 13) S (m_dec e10_feed 6 rfl) rfl (fun q3 => ?_) (fun q3 => ?_)
  · refine ms_iconst (pc := 16) S (m_dec e10_feed 7 rfl) ?_
    exact ms_ret (pc := 17) E (m_dec e10_feed 8 rfl) rfl
  · refine ms_aload_n (pc := 18) S 0 rfl rfl (m_dec e10_feed 9 rfl) ?_
    refine ms_getf (pc := 19) S lf_X10_26 rfl (m_dec e10_feed 10 rfl) g1 ?_
    refine ms_iload_n (pc := 22) S 1 rfl rfl (m_dec e10_feed 11 rfl) ?_
    refine ms_callVv (pc := 23) S hF (vals := [m_i v1]) (st := []) (hc := vw_4) (hci := by decide) (hcy := rfl) (ht := g2) (hC := (k4_addFour _ _ (m_g h v0 2) v1 h)) (hM := lm_X10_180) (hfr := (Nat.le_trans (by decide) hFn)) (hstk := rfl) (hcat := Nat.le_of_ble_eq_true rfl) (hd := (m_dec e10_feed 12 rfl)) (k1 := fun h4 => ?_)
    refine ms_aload_n (pc := 26) S 0 rfl rfl (m_dec e10_feed 13 rfl) ?_
    refine ms_grd fun g6 => ?_
    refine ms_getf (pc := 27) S lf_X10_26 rfl (m_dec e10_feed 14 rfl) g6 ?_
    refine ms_iload_n (pc := 30) S 2 rfl rfl (m_dec e10_feed 15 rfl) ?_
    refine ms_grd fun g7 => ?_
    refine ms_callVv (pc := 31) S hF (vals := [m_i v2]) (st := []) (hc := vw_4) (hci := by decide) (hcy := rfl) (ht := g7) (hC := (k4_addFour _ _ (m_g h4 v0 2) v2 h4)) (hM := lm_X10_180) (hfr := (Nat.le_trans (by decide) hFn)) (hstk := rfl) (hcat := Nat.le_of_ble_eq_true rfl) (hd := (m_dec e10_feed 16 rfl)) (k1 := fun h8 => ?_)
    refine ms_aload_n (pc := 34) S 0 rfl rfl (m_dec e10_feed 17 rfl) ?_
    refine ms_grd fun g10 => ?_
    refine ms_getf (pc := 35) S lf_X10_26 rfl (m_dec e10_feed 18 rfl) g10 ?_
    refine ms_iload_n (pc := 38) S 3 rfl rfl (m_dec e10_feed 19 rfl) ?_
    refine ms_grd fun g11 => ?_
    refine ms_callVv (pc := 39) S hF (vals := [m_i v3]) (st := []) (hc := vw_4) (hci := by decide) (hcy := rfl) (ht := g11) (hC := (k4_addFour _ _ (m_g h8 v0 2) v3 h8)) (hM := lm_X10_180) (hfr := (Nat.le_trans (by decide) hFn)) (hstk := rfl) (hcat := Nat.le_of_ble_eq_true rfl) (hd := (m_dec e10_feed 20 rfl)) (k1 := fun h12 => ?_)
    refine ms_aload_n (pc := 42) S 0 rfl rfl (m_dec e10_feed 21 rfl) ?_
    refine ms_grd fun g14 => ?_
    refine ms_getf (pc := 43) S lf_X10_26 rfl (m_dec e10_feed 22 rfl) g14 ?_
    refine ms_iload (pc := 46) S 4 rfl (m_dec e10_feed 23 rfl) ?_
    refine ms_grd fun g15 => ?_
    refine ms_callVv (pc := 48) S hF (vals := [m_i v4]) (st := []) (hc := vw_4) (hci := by decide) (hcy := rfl) (ht := g15) (hC := (k4_addFour _ _ (m_g h12 v0 2) v4 h12)) (hM := lm_X10_180) (hfr := (Nat.le_trans (by decide) hFn)) (hstk := rfl) (hcat := Nat.le_of_ble_eq_true rfl) (hd := (m_dec e10_feed 24 rfl)) (k1 := fun h16 => ?_)
    refine ms_aload_n (pc := 51) S 0 rfl rfl (m_dec e10_feed 25 rfl) ?_
    refine ms_grd fun g18 => ?_
    refine ms_getf (pc := 52) S lf_X10_26 rfl (m_dec e10_feed 26 rfl) g18 ?_
    refine ms_iload (pc := 55) S 5 rfl (m_dec e10_feed 27 rfl) ?_
    refine ms_grd fun g19 => ?_
    refine ms_callVv (pc := 57) S hF (vals := [m_i v5]) (st := []) (hc := vw_4) (hci := by decide) (hcy := rfl) (ht := g19) (hC := (k4_addFour _ _ (m_g h16 v0 2) v5 h16)) (hM := lm_X10_180) (hfr := (Nat.le_trans (by decide) hFn)) (hstk := rfl) (hcat := Nat.le_of_ble_eq_true rfl) (hd := (m_dec e10_feed 28 rfl)) (k1 := fun h20 => ?_)
    refine ms_aload_n (pc := 60) S 0 rfl rfl (m_dec e10_feed 29 rfl) ?_
    refine ms_grd fun g22 => ?_
    refine ms_getf (pc := 61) S lf_X10_26 rfl (m_dec e10_feed 30 rfl) g22 ?_
    refine ms_grd fun g23 => ?_
    refine ms_getf (pc := 64) S lf_X10_178 rfl (m_dec e10_feed 31 rfl) g23 ?_
    exact ms_ret (pc := 67) E (m_dec e10_feed 32 rfl) rfl
theorem k10_feed (l : Launch) (d : m_D) (v0 v1 v2 v3 v4 v5 : Int) (h : m_H) : m_Con l d yX10_feed cX10_feed 6 (some .int) 2 (fun r => [m_i r]) [m_r v0, m_i v1, m_i v2, m_i v3, m_i v4, m_i v5] h (t10_feed v0 v1 v2 v3 v4 v5 h) :=
  m_con2 (by decide +kernel) (Nat.le_of_ble_eq_true rfl) (fun Y hN hRm hr hI S hfin => s10_feed S (m_end_i S hr hfin) hRm (Nat.le_refl _) hN v0 v1 v2 v3 v4 v5 h)
set_option maxRecDepth 100000 in
theorem e10_end : ∀ q ∈ ([(0, .iload_n 1, 1), (1, .ifCond .lt 14, 3), (4, .iload_n 1, 1), (5, .aload_n 0, 1), (6, .getfield 26, 3), (9, .getfield 178, 3), (12, .if_icmp .le 5, 3), (15, .iconst 0, 1), (16, .ireturn, 1), (17, .aload_n 0, 1), (18, .getfield 26, 3), (21, .iload_n 1, 1), (22, .putfield 178, 3), (25, .iconst 1, 1), (26, .ireturn, 1)] : List (Nat × Instr × Nat)), decode cX10_end q.1 = .ok q.2 := by decide +kernel
set_option maxHeartbeats 4000000 in
set_option maxRecDepth 20000 in
theorem s10_end {Y : m_Y Bool} (S : m_Std Y RX10 cX10_end) (E : m_End Y cX10_end .ireturn (fun r => [m_i (m_b2i r)])) {F : Nat} (hF : m_Rm Y F) (hFn : 0 ≤ F) (hN : Y.2.2.2.1 = 2) (v0 v1 : Int) (h : m_H) : m_Sim Y 0 [(0, m_r v0), (1, m_i v1)] [] h (t10_end v0 v1 h) := by
  unfold t10_end
  refine ms_iload_n (pc := 0) S 1 rfl rfl (m_dec e10_end 0 rfl) ?_
  refine ms_if_lt (pc := 1) S (m_dec e10_end 1 rfl) rfl (fun q1 => ?_) (fun q1 => ?_)
  · refine ms_iconst (pc := 15) S (m_dec e10_end 7 rfl) ?_
    exact ms_ret (pc := 16) E (m_dec e10_end 8 rfl) rfl
  · refine ms_iload_n (pc := 4) S 1 rfl rfl (m_dec e10_end 2 rfl) ?_
    refine ms_aload_n (pc := 5) S 0 rfl rfl (m_dec e10_end 3 rfl) ?_
    refine ms_grd fun g2 => ?_
    refine ms_getf (pc := 6) S lf_X10_26 rfl (m_dec e10_end 4 rfl) g2 ?_
    refine ms_grd fun g3 => ?_
    refine ms_getf (pc := 9) S lf_X10_178 rfl (m_dec e10_end 5 rfl) g3 ?_
    refine ms_icmp_le (pc := 12) S (m_dec e10_end 6 rfl) rfl (fun q4 => ?_) (fun q4 => ?_)
    · refine ms_iconst (pc := 15) S (m_dec e10_end 7 rfl) ?_
      exact ms_ret (pc := 16) E (m_dec e10_end 8 rfl) rfl
    · refine ms_aload_n (pc := 17) S 0 rfl rfl (m_dec e10_end 9 rfl) ?_
      refine ms_getf (pc := 18) S lf_X10_26 rfl (m_dec e10_end 10 rfl) g2 ?_
      refine ms_iload_n (pc := 21) S 1 rfl rfl (m_dec e10_end 11 rfl) ?_
      refine ms_putf (pc := 22) S lp_X10_178 (fun z => by cases z) rfl (fun d => m_fitI d _) (m_dec e10_end 12 rfl) g3 (fun h5 => ?_)
      refine ms_iconst (pc := 25) S (m_dec e10_end 13 rfl) ?_
      exact ms_ret (pc := 26) E (m_dec e10_end 14 rfl) rfl
theorem k10_end (l : Launch) (d : m_D) (v0 v1 : Int) (h : m_H) : m_Con l d yX10_end cX10_end 2 (some .boolean) 0 (fun r => [m_i (m_b2i r)]) [m_r v0, m_i v1] h (t10_end v0 v1 h) :=
  m_con2 (by decide +kernel) (Nat.le_of_ble_eq_true rfl) (fun Y hN hRm hr hI S hfin => s10_end S (m_end_z S hr hfin) hRm (Nat.le_refl _) hN v0 v1 h)
set_option maxRecDepth 100000 in
theorem e10_fault : ∀ q ∈ ([(0, .aload_n 0, 1), (1, .getfield 26, 3), (4, .invokevirtual 183, 3), (7, .ireturn, 1)] : List (Nat × Instr × Nat)), decode cX10_fault q.1 = .ok q.2 := by decide +kernel
set_option maxHeartbeats 4000000 in
set_option maxRecDepth 20000 in
theorem s10_fault {Y : m_Y Int} (S : m_Std Y RX10 cX10_fault) (E : m_End Y cX10_fault .ireturn (fun r => [m_i r])) {F : Nat} (hF : m_Rm Y F) (hFn : 10 ≤ F) (hN : Y.2.2.2.1 = 1) (v0 : Int) (h : m_H) : m_Sim Y 0 [(0, m_r v0)] [] h (t10_fault v0 h) := by
  unfold t10_fault
  refine ms_aload_n (pc := 0) S 0 rfl rfl (m_dec e10_fault 0 rfl) ?_
  refine ms_grd fun g1 => ?_
  refine ms_getf (pc := 1) S lf_X10_26 rfl (m_dec e10_fault 1 rfl) g1 ?_
  refine ms_grd fun g2 => ?_
  refine ms_callVi (pc := 4) S hF (vals := []) (st := []) (hc := vw_4) (hci := by decide) (hcy := rfl) (ht := g2) (hC := (k4_firstFault _ _ (m_g h v0 2) h)) (hM := lm_X10_183) (hfr := (Nat.le_trans (by decide) hFn)) (hstk := rfl) (hcat := Nat.le_of_ble_eq_true rfl) (hd := (m_dec e10_fault 2 rfl)) (k1 := fun r4 h3 => ?_)
  exact ms_ret (pc := 7) E (m_dec e10_fault 3 rfl) rfl
theorem k10_fault (l : Launch) (d : m_D) (v0 : Int) (h : m_H) : m_Con l d yX10_fault cX10_fault 1 (some .int) 10 (fun r => [m_i r]) [m_r v0] h (t10_fault v0 h) :=
  m_con2 (by decide +kernel) (Nat.le_of_ble_eq_true rfl) (fun Y hN hRm hr hI S hfin => s10_fault S (m_end_i S hr hfin) hRm (Nat.le_refl _) hN v0 h)
set_option maxRecDepth 100000 in
theorem e10_score : ∀ q ∈ ([(0, .aload_n 0, 1), (1, .getfield 186, 3), (4, .aload_n 0, 1), (5, .getfield 32, 3), (8, .arraylength, 1), (9, .if_icmp .ge 14, 3), (12, .aload_n 0, 1), (13, .getfield 26, 3), (16, .invokevirtual 183, 3), (19, .iconst (-1), 1), (20, .if_icmp .eq 5, 3), (23, .iconst (-1), 1), (24, .ireturn, 1), (25, .aload_n 0, 1), (26, .getfield 32, 3), (29, .aload_n 0, 1), (30, .getfield 186, 3), (33, .aload_n 0, 1), (34, .getfield 26, 3), (37, .invokevirtual 189, 3), (40, .aastore, 1), (41, .aload_n 0, 1), (42, .getfield 26, 3), (45, .iconst 0, 1), (46, .putfield 178, 3), (49, .aload_n 0, 1), (50, .dup, 1), (51, .getfield 186, 3), (54, .iconst 1, 1), (55, .iadd, 1), (56, .putfield 186, 3), (59, .aload_n 0, 1), (60, .getfield 186, 3), (63, .iconst 1, 1), (64, .isub, 1), (65, .ireturn, 1)] : List (Nat × Instr × Nat)), decode cX10_score q.1 = .ok q.2 := by decide +kernel
set_option maxHeartbeats 4000000 in
set_option maxRecDepth 20000 in
theorem s10_score {Y : m_Y Int} (S : m_Std Y RX10 cX10_score) (E : m_End Y cX10_score .ireturn (fun r => [m_i r])) {F : Nat} (hF : m_Rm Y F) (hFn : 10 ≤ F) (hN : Y.2.2.2.1 = 1) (v0 : Int) (h : m_H) : m_Sim Y 0 [(0, m_r v0)] [] h (t10_score v0 h) := by
  unfold t10_score
  refine ms_aload_n (pc := 0) S 0 rfl rfl (m_dec e10_score 0 rfl) ?_
  refine ms_grd fun g1 => ?_
  refine ms_getf (pc := 1) S lf_X10_186 rfl (m_dec e10_score 1 rfl) g1 ?_
  refine ms_aload_n (pc := 4) S 0 rfl rfl (m_dec e10_score 2 rfl) ?_
  refine ms_getf (pc := 5) S lf_X10_32 rfl (m_dec e10_score 3 rfl) g1 ?_
  refine ms_grd fun g2 => ?_
  refine ms_alen (pc := 8) S g2 (m_dec e10_score 4 rfl) ?_
  refine ms_icmp_ge (pc := 9) S (m_dec e10_score 5 rfl) rfl (fun q3 => ?_) (fun q3 => ?_)
  · refine ms_aload_n (pc := 12) S 0 rfl rfl (m_dec e10_score 6 rfl) ?_
    refine ms_getf (pc := 13) S lf_X10_26 rfl (m_dec e10_score 7 rfl) g1 ?_
    refine ms_grd fun g4 => ?_
    refine ms_callVi (pc := 16) S hF (vals := []) (st := []) (hc := vw_4) (hci := by decide) (hcy := rfl) (ht := g4) (hC := (k4_firstFault _ _ (m_g h v0 2) h)) (hM := lm_X10_183) (hfr := (Nat.le_trans (by decide) hFn)) (hstk := rfl) (hcat := Nat.le_of_ble_eq_true rfl) (hd := (m_dec e10_score 8 rfl)) (k1 := fun r6 h5 => ?_)
    refine ms_iconst (pc := 19) S (m_dec e10_score 9 rfl) ?_
    refine ms_icmp_eq (pc := 20) S (m_dec e10_score 10 rfl) rfl (fun q7 => ?_) (fun q7 => ?_)
    · refine ms_aload_n (pc := 25) S 0 rfl rfl (m_dec e10_score 13 rfl) ?_
      refine ms_grd fun g8 => ?_
      refine ms_getf (pc := 26) S lf_X10_32 rfl (m_dec e10_score 14 rfl) g8 ?_
      refine ms_aload_n (pc := 29) S 0 rfl rfl (m_dec e10_score 15 rfl) ?_
      refine ms_getf (pc := 30) S lf_X10_186 rfl (m_dec e10_score 16 rfl) g8 ?_
      refine ms_aload_n (pc := 33) S 0 rfl rfl (m_dec e10_score 17 rfl) ?_
      refine ms_getf (pc := 34) S lf_X10_26 rfl (m_dec e10_score 18 rfl) g8 ?_
      refine ms_grd fun g9 => ?_
      refine ms_callVa (pc := 37) S hF (vals := []) (st := [m_i (m_g h5 v0 4), m_r (m_g h5 v0 3)]) (hc := vw_4) (hci := by decide) (hcy := rfl) (ht := g9) (hC := (k4_written _ _ (m_g h5 v0 2) h5)) (hM := lm_X10_189) (hfr := (Nat.le_trans (by decide) hFn)) (hstk := rfl) (hcat := Nat.le_of_ble_eq_true rfl) (hd := (m_dec e10_score 19 rfl)) (k1 := fun r11 h10 => ?_)
      refine ms_grd fun g12 => ?_
      refine ms_aast (pc := 40) S 26 6 (by decide) vw_6 (by decide) (fun _ => rfl) g12 (m_dec e10_score 20 rfl) (fun h13 => ?_)
      refine ms_aload_n (pc := 41) S 0 rfl rfl (m_dec e10_score 21 rfl) ?_
      refine ms_grd fun g14 => ?_
      refine ms_getf (pc := 42) S lf_X10_26 rfl (m_dec e10_score 22 rfl) g14 ?_
      refine ms_iconst (pc := 45) S (m_dec e10_score 23 rfl) ?_
      refine ms_grd fun g15 => ?_
      refine ms_putf (pc := 46) S lp_X10_178 (fun z => by cases z) rfl (fun d => m_fitI d _) (m_dec e10_score 24 rfl) g15 (fun h16 => ?_)
      refine ms_aload_n (pc := 49) S 0 rfl rfl (m_dec e10_score 25 rfl) ?_
      refine ms_dup (pc := 50) S rfl (m_dec e10_score 26 rfl) ?_
      refine ms_grd fun g17 => ?_
      refine ms_getf (pc := 51) S lf_X10_186 rfl (m_dec e10_score 27 rfl) g17 ?_
      refine ms_iconst (pc := 54) S (m_dec e10_score 28 rfl) ?_
      refine ms_iadd (pc := 55) S (m_dec e10_score 29 rfl) ?_
      refine ms_putf (pc := 56) S lp_X10_186 (fun z => by cases z) rfl (fun d => m_fitI d _) (m_dec e10_score 30 rfl) g17 (fun h18 => ?_)
      refine ms_aload_n (pc := 59) S 0 rfl rfl (m_dec e10_score 31 rfl) ?_
      refine ms_grd fun g19 => ?_
      refine ms_getf (pc := 60) S lf_X10_186 rfl (m_dec e10_score 32 rfl) g19 ?_
      refine ms_iconst (pc := 63) S (m_dec e10_score 33 rfl) ?_
      refine ms_isub (pc := 64) S (m_dec e10_score 34 rfl) ?_
      exact ms_ret (pc := 65) E (m_dec e10_score 35 rfl) rfl
    · refine ms_iconst (pc := 23) S (m_dec e10_score 11 rfl) ?_
      exact ms_ret (pc := 24) E (m_dec e10_score 12 rfl) rfl
  · refine ms_iconst (pc := 23) S (m_dec e10_score 11 rfl) ?_
    exact ms_ret (pc := 24) E (m_dec e10_score 12 rfl) rfl
theorem k10_score (l : Launch) (d : m_D) (v0 : Int) (h : m_H) : m_Con l d yX10_score cX10_score 1 (some .int) 10 (fun r => [m_i r]) [m_r v0] h (t10_score v0 h) :=
  m_con2 (by decide +kernel) (Nat.le_of_ble_eq_true rfl) (fun Y hN hRm hr hI S hfin => s10_score S (m_end_i S hr hfin) hRm (Nat.le_refl _) hN v0 h)
set_option maxRecDepth 100000 in
theorem e10_scoreOf : ∀ q ∈ ([(0, .iload_n 1, 1), (1, .ifCond .lt 29, 3), (4, .iload_n 1, 1), (5, .aload_n 0, 1), (6, .getfield 186, 3), (9, .if_icmp .ge 21, 3), (12, .iload_n 1, 1), (13, .aload_n 0, 1), (14, .getfield 32, 3), (17, .arraylength, 1), (18, .if_icmp .ge 12, 3), (21, .aload_n 0, 1), (22, .getfield 32, 3), (25, .iload_n 1, 1), (26, .aaload, 1), (27, .goto 4, 3), (30, .aconst_null, 1), (31, .areturn, 1)] : List (Nat × Instr × Nat)), decode cX10_scoreOf q.1 = .ok q.2 := by decide +kernel
set_option maxHeartbeats 4000000 in
set_option maxRecDepth 20000 in
theorem s10_scoreOf {Y : m_Y Int} (S : m_Std Y RX10 cX10_scoreOf) (E : m_End Y cX10_scoreOf .areturn (fun r => [m_r r])) {F : Nat} (hF : m_Rm Y F) (hFn : 0 ≤ F) (hN : Y.2.2.2.1 = 2) (v0 v1 : Int) (h : m_H) : m_Sim Y 0 [(0, m_r v0), (1, m_i v1)] [] h (t10_scoreOf v0 v1 h) := by
  unfold t10_scoreOf
  refine ms_iload_n (pc := 0) S 1 rfl rfl (m_dec e10_scoreOf 0 rfl) ?_
  refine ms_if_lt (pc := 1) S (m_dec e10_scoreOf 1 rfl) rfl (fun q1 => ?_) (fun q1 => ?_)
  · refine ms_null (pc := 30) S (m_dec e10_scoreOf 16 rfl) ?_
    exact ms_ret (pc := 31) E (m_dec e10_scoreOf 17 rfl) rfl
  · refine ms_iload_n (pc := 4) S 1 rfl rfl (m_dec e10_scoreOf 2 rfl) ?_
    refine ms_aload_n (pc := 5) S 0 rfl rfl (m_dec e10_scoreOf 3 rfl) ?_
    refine ms_grd fun g2 => ?_
    refine ms_getf (pc := 6) S lf_X10_186 rfl (m_dec e10_scoreOf 4 rfl) g2 ?_
    refine ms_icmp_ge (pc := 9) S (m_dec e10_scoreOf 5 rfl) rfl (fun q3 => ?_) (fun q3 => ?_)
    · refine ms_iload_n (pc := 12) S 1 rfl rfl (m_dec e10_scoreOf 6 rfl) ?_
      refine ms_aload_n (pc := 13) S 0 rfl rfl (m_dec e10_scoreOf 7 rfl) ?_
      refine ms_getf (pc := 14) S lf_X10_32 rfl (m_dec e10_scoreOf 8 rfl) g2 ?_
      refine ms_grd fun g4 => ?_
      refine ms_alen (pc := 17) S g4 (m_dec e10_scoreOf 9 rfl) ?_
      refine ms_icmp_ge (pc := 18) S (m_dec e10_scoreOf 10 rfl) rfl (fun q5 => ?_) (fun q5 => ?_)
      · refine ms_aload_n (pc := 21) S 0 rfl rfl (m_dec e10_scoreOf 11 rfl) ?_
        refine ms_getf (pc := 22) S lf_X10_32 rfl (m_dec e10_scoreOf 12 rfl) g2 ?_
        refine ms_iload_n (pc := 25) S 1 rfl rfl (m_dec e10_scoreOf 13 rfl) ?_
        refine ms_grd fun g6 => ?_
        refine ms_aald (pc := 26) S 26 (by decide) (fun _ => rfl) rfl g6 (m_dec e10_scoreOf 14 rfl) ?_
        refine ms_goto (pc := 27) S (m_dec e10_scoreOf 15 rfl) rfl ?_
        exact ms_ret (pc := 31) E (m_dec e10_scoreOf 17 rfl) rfl
      · refine ms_null (pc := 30) S (m_dec e10_scoreOf 16 rfl) ?_
        exact ms_ret (pc := 31) E (m_dec e10_scoreOf 17 rfl) rfl
    · refine ms_null (pc := 30) S (m_dec e10_scoreOf 16 rfl) ?_
      exact ms_ret (pc := 31) E (m_dec e10_scoreOf 17 rfl) rfl
theorem k10_scoreOf (l : Launch) (d : m_D) (v0 v1 : Int) (h : m_H) : m_Con l d yX10_scoreOf cX10_scoreOf 2 (some (.object "TapeStudio$Score")) 0 (fun r => [m_r r]) [m_r v0, m_i v1] h (t10_scoreOf v0 v1 h) :=
  m_con2 (by decide +kernel) (Nat.le_of_ble_eq_true rfl) (fun Y hN hRm hr hI S hfin => s10_scoreOf S (m_end_a S (by first | exact Or.inl ⟨_, rfl⟩ | exact Or.inr ⟨_, rfl⟩) hr hfin) hRm (Nat.le_refl _) hN v0 v1 h)
set_option maxRecDepth 100000 in
theorem e10_isPast : ∀ q ∈ ([(0, .iload_n 1, 1), (1, .ifCond .lt 18, 3), (4, .iload_n 1, 1), (5, .aload_n 0, 1), (6, .getfield 10, 3), (9, .getfield 165, 3), (12, .if_icmp .gt 7, 3), (15, .iconst 1, 1), (16, .goto 4, 3), (19, .iconst 0, 1), (20, .ireturn, 1)] : List (Nat × Instr × Nat)), decode cX10_isPast q.1 = .ok q.2 := by decide +kernel
set_option maxHeartbeats 4000000 in
set_option maxRecDepth 20000 in
theorem s10_isPast {Y : m_Y Bool} (S : m_Std Y RX10 cX10_isPast) (E : m_End Y cX10_isPast .ireturn (fun r => [m_i (m_b2i r)])) {F : Nat} (hF : m_Rm Y F) (hFn : 0 ≤ F) (hN : Y.2.2.2.1 = 2) (v0 v1 : Int) (h : m_H) : m_Sim Y 0 [(0, m_r v0), (1, m_i v1)] [] h (t10_isPast v0 v1 h) := by
  unfold t10_isPast
  refine ms_iload_n (pc := 0) S 1 rfl rfl (m_dec e10_isPast 0 rfl) ?_
  refine ms_if_lt (pc := 1) S (m_dec e10_isPast 1 rfl) rfl (fun q1 => ?_) (fun q1 => ?_)
  · refine ms_iconst (pc := 19) S (m_dec e10_isPast 9 rfl) ?_
    exact ms_ret (pc := 20) E (m_dec e10_isPast 10 rfl) rfl
  · refine ms_iload_n (pc := 4) S 1 rfl rfl (m_dec e10_isPast 2 rfl) ?_
    refine ms_aload_n (pc := 5) S 0 rfl rfl (m_dec e10_isPast 3 rfl) ?_
    refine ms_grd fun g2 => ?_
    refine ms_getf (pc := 6) S lf_X10_10 rfl (m_dec e10_isPast 4 rfl) g2 ?_
    refine ms_grd fun g3 => ?_
    refine ms_getf (pc := 9) S lf_X10_165 rfl (m_dec e10_isPast 5 rfl) g3 ?_
    refine ms_icmp_gt (pc := 12) S (m_dec e10_isPast 6 rfl) rfl (fun q4 => ?_) (fun q4 => ?_)
    · refine ms_iconst (pc := 19) S (m_dec e10_isPast 9 rfl) ?_
      exact ms_ret (pc := 20) E (m_dec e10_isPast 10 rfl) rfl
    · refine ms_iconst (pc := 15) S (m_dec e10_isPast 7 rfl) ?_
      refine ms_goto (pc := 16) S (m_dec e10_isPast 8 rfl) rfl ?_
      exact ms_ret (pc := 20) E (m_dec e10_isPast 10 rfl) rfl
theorem k10_isPast (l : Launch) (d : m_D) (v0 v1 : Int) (h : m_H) : m_Con l d yX10_isPast cX10_isPast 2 (some .boolean) 0 (fun r => [m_i (m_b2i r)]) [m_r v0, m_i v1] h (t10_isPast v0 v1 h) :=
  m_con2 (by decide +kernel) (Nat.le_of_ble_eq_true rfl) (fun Y hN hRm hr hI S hfin => s10_isPast S (m_end_z S hr hfin) hRm (Nat.le_refl _) hN v0 v1 h)
set_option maxRecDepth 100000 in
theorem e10_make : ∀ q ∈ ([(0, .aload_n 0, 1), (1, .iload_n 1, 1), (2, .invokevirtual 193, 3), (5, .astore_n 3, 1), (6, .aload_n 3, 1), (7, .ifnull 24, 3), (10, .aload_n 0, 1), (11, .iload_n 2, 1), (12, .invokevirtual 197, 3), (15, .ifCond .eq 16, 3), (18, .aload_n 0, 1), (19, .getfield 41, 3), (22, .aload_n 3, 1), (23, .iload_n 2, 1), (24, .invokevirtual 201, 3), (27, .iconst (-1), 1), (28, .if_icmp .eq 5, 3), (31, .iconst (-1), 1), (32, .ireturn, 1), (33, .aload_n 0, 1), (34, .getfield 41, 3), (37, .aload_n 3, 1), (38, .invokevirtual 205, 3), (41, .aload_n 0, 1), (42, .getfield 48, 3), (45, .aload_n 3, 1), (46, .iload_n 1, 1), (47, .aload_n 0, 1), (48, .getfield 41, 3), (51, .invokevirtual 209, 3), (54, .aload_n 0, 1), (55, .getfield 48, 3), (58, .getfield 213, 3), (61, .invokevirtual 71, 3), (64, .ireturn, 1)] : List (Nat × Instr × Nat)), decode cX10_make q.1 = .ok q.2 := by decide +kernel
set_option maxHeartbeats 4000000 in
set_option maxRecDepth 20000 in
theorem s10_make {Y : m_Y Int} (S : m_Std Y RX10 cX10_make) (E : m_End Y cX10_make .ireturn (fun r => [m_i r])) {F : Nat} (hF : m_Rm Y F) (hFn : 7 ≤ F) (hN : Y.2.2.2.1 = 4) (v0 v1 v2 : Int) (h : m_H) : m_Sim Y 0 [(0, m_r v0), (1, m_i v1), (2, m_i v2)] [] h (t10_make v0 v1 v2 h) := by
  unfold t10_make
  refine ms_aload_n (pc := 0) S 0 rfl rfl (m_dec e10_make 0 rfl) ?_
  refine ms_iload_n (pc := 1) S 1 rfl rfl (m_dec e10_make 1 rfl) ?_
  refine ms_grd fun g1 => ?_
  refine ms_callVa (pc := 2) S hF (vals := [m_i v1]) (st := []) (hc := vw_10) (hci := by decide) (hcy := rfl) (ht := g1) (hC := (k10_scoreOf _ _ v0 v1 h)) (hM := lm_X10_193) (hfr := (Nat.le_trans (by decide) hFn)) (hstk := rfl) (hcat := Nat.le_of_ble_eq_true rfl) (hd := (m_dec e10_make 2 rfl)) (k1 := fun r3 h2 => ?_)
  refine ms_astore_n (pc := 5) S (L' := [(0, m_r v0), (1, m_i v1), (2, m_i v2), (3, m_r r3)]) [1, 2, 3, 0] rfl rfl (m_lt hN rfl) (m_dec e10_make 3 rfl) ?_
  refine ms_aload_n (pc := 6) S 3 rfl rfl (m_dec e10_make 4 rfl) ?_
  refine ms_ifnull (pc := 7) S (m_dec e10_make 5 rfl) rfl (fun q4 => ?_) (fun q4 => ?_)
  · refine ms_iconst (pc := 31) S (m_dec e10_make 17 rfl) ?_
    exact ms_ret (pc := 32) E (m_dec e10_make 18 rfl) rfl
  · refine ms_aload_n (pc := 10) S 0 rfl rfl (m_dec e10_make 6 rfl) ?_
    refine ms_iload_n (pc := 11) S 2 rfl rfl (m_dec e10_make 7 rfl) ?_
    refine ms_grd fun g5 => ?_
    refine ms_callVz (pc := 12) S hF (vals := [m_i v2]) (st := []) (hc := vw_10) (hci := by decide) (hcy := rfl) (ht := g5) (hC := (k10_isPast _ _ v0 v2 h2)) (hM := lm_X10_197) (hfr := (Nat.le_trans (by decide) hFn)) (hstk := rfl) (hcat := Nat.le_of_ble_eq_true rfl) (hd := (m_dec e10_make 8 rfl)) (k1 := fun r7 h6 => ?_)
    refine ms_ifb_eq (pc := 15) S (m_dec e10_make 9 rfl) rfl (fun q8 => ?_) (fun q8 => ?_)
    · refine ms_aload_n (pc := 18) S 0 rfl rfl (m_dec e10_make 10 rfl) ?_
      refine ms_grd fun g9 => ?_
      refine ms_getf (pc := 19) S lf_X10_41 rfl (m_dec e10_make 11 rfl) g9 ?_
      refine ms_aload_n (pc := 22) S 3 rfl rfl (m_dec e10_make 12 rfl) ?_
      refine ms_iload_n (pc := 23) S 2 rfl rfl (m_dec e10_make 13 rfl) ?_
      refine ms_grd fun g10 => ?_
      refine ms_callVi (pc := 24) S hF (vals := [m_r r3, m_i v2]) (st := []) (hc := vw_3) (hci := by decide) (hcy := rfl) (ht := g10) (hC := (k3_firstFailing _ _ (m_g h6 v0 5) r3 v2 h6)) (hM := lm_X10_201) (hfr := (Nat.le_trans (by decide) hFn)) (hstk := rfl) (hcat := Nat.le_of_ble_eq_true rfl) (hd := (m_dec e10_make 14 rfl)) (k1 := fun r12 h11 => ?_)
      refine ms_iconst (pc := 27) S (m_dec e10_make 15 rfl) ?_
      refine ms_icmp_eq (pc := 28) S (m_dec e10_make 16 rfl) rfl (fun q13 => ?_) (fun q13 => ?_)
      · refine ms_aload_n (pc := 33) S 0 rfl rfl (m_dec e10_make 19 rfl) ?_
        refine ms_grd fun g14 => ?_
        refine ms_getf (pc := 34) S lf_X10_41 rfl (m_dec e10_make 20 rfl) g14 ?_
        refine ms_aload_n (pc := 37) S 3 rfl rfl (m_dec e10_make 21 rfl) ?_
        refine ms_grd fun g15 => ?_
        refine ms_callVv (pc := 38) S hF (vals := [m_r r3]) (st := []) (hc := vw_3) (hci := by decide) (hcy := rfl) (ht := g15) (hC := (k3_noteLeads _ _ (m_g h11 v0 5) r3 h11)) (hM := lm_X10_205) (hfr := (Nat.le_trans (by decide) hFn)) (hstk := rfl) (hcat := Nat.le_of_ble_eq_true rfl) (hd := (m_dec e10_make 22 rfl)) (k1 := fun h16 => ?_)
        refine ms_aload_n (pc := 41) S 0 rfl rfl (m_dec e10_make 23 rfl) ?_
        refine ms_grd fun g18 => ?_
        refine ms_getf (pc := 42) S lf_X10_48 rfl (m_dec e10_make 24 rfl) g18 ?_
        refine ms_aload_n (pc := 45) S 3 rfl rfl (m_dec e10_make 25 rfl) ?_
        refine ms_iload_n (pc := 46) S 1 rfl rfl (m_dec e10_make 26 rfl) ?_
        refine ms_aload_n (pc := 47) S 0 rfl rfl (m_dec e10_make 27 rfl) ?_
        refine ms_getf (pc := 48) S lf_X10_41 rfl (m_dec e10_make 28 rfl) g18 ?_
        refine ms_grd fun g19 => ?_
        refine ms_callVv (pc := 51) S hF (vals := [m_r r3, m_i v1, m_r (m_g h16 v0 5)]) (st := []) (hc := vw_2) (hci := by decide) (hcy := rfl) (ht := g19) (hC := (k2_layAll _ _ (m_g h16 v0 6) r3 v1 (m_g h16 v0 5) h16)) (hM := lm_X10_209) (hfr := (Nat.le_trans (by decide) hFn)) (hstk := rfl) (hcat := Nat.le_of_ble_eq_true rfl) (hd := (m_dec e10_make 29 rfl)) (k1 := fun h20 => ?_)
        refine ms_aload_n (pc := 54) S 0 rfl rfl (m_dec e10_make 30 rfl) ?_
        refine ms_grd fun g22 => ?_
        refine ms_getf (pc := 55) S lf_X10_48 rfl (m_dec e10_make 31 rfl) g22 ?_
        refine ms_grd fun g23 => ?_
        refine ms_getf (pc := 58) S lf_X10_213 rfl (m_dec e10_make 32 rfl) g23 ?_
        refine ms_grd fun g24 => ?_
        refine ms_callVi (pc := 61) S hF (vals := []) (st := []) (hc := vw_5) (hci := by decide) (hcy := rfl) (ht := g24) (hC := (k5_size _ _ (m_g h20 (m_g h20 v0 6) 1) h20)) (hM := lm_X10_71) (hfr := (Nat.le_trans (by decide) hFn)) (hstk := rfl) (hcat := Nat.le_of_ble_eq_true rfl) (hd := (m_dec e10_make 33 rfl)) (k1 := fun r26 h25 => ?_)
        exact ms_ret (pc := 64) E (m_dec e10_make 34 rfl) rfl
      · refine ms_iconst (pc := 31) S (m_dec e10_make 17 rfl) ?_
        exact ms_ret (pc := 32) E (m_dec e10_make 18 rfl) rfl
    · refine ms_iconst (pc := 31) S (m_dec e10_make 17 rfl) ?_
      exact ms_ret (pc := 32) E (m_dec e10_make 18 rfl) rfl
theorem k10_make (l : Launch) (d : m_D) (v0 v1 v2 : Int) (h : m_H) : m_Con l d yX10_make cX10_make 4 (some .int) 7 (fun r => [m_i r]) [m_r v0, m_i v1, m_i v2] h (t10_make v0 v1 v2 h) :=
  m_con2 (by decide +kernel) (Nat.le_of_ble_eq_true rfl) (fun Y hN hRm hr hI S hfin => s10_make S (m_end_i S hr hfin) hRm (Nat.le_refl _) hN v0 v1 v2 h)
set_option maxRecDepth 100000 in
theorem e10_fails : ∀ q ∈ ([(0, .aload_n 0, 1), (1, .iload_n 1, 1), (2, .invokevirtual 193, 3), (5, .astore_n 3, 1), (6, .aload_n 3, 1), (7, .ifnull 11, 3), (10, .aload_n 0, 1), (11, .iload_n 2, 1), (12, .invokevirtual 197, 3), (15, .ifCond .ne 7, 3), (18, .iconst (-1), 1), (19, .goto 12, 3), (22, .aload_n 0, 1), (23, .getfield 41, 3), (26, .aload_n 3, 1), (27, .iload_n 2, 1), (28, .invokevirtual 201, 3), (31, .ireturn, 1)] : List (Nat × Instr × Nat)), decode cX10_fails q.1 = .ok q.2 := by decide +kernel
set_option maxHeartbeats 4000000 in
set_option maxRecDepth 20000 in
theorem s10_fails {Y : m_Y Int} (S : m_Std Y RX10 cX10_fails) (E : m_End Y cX10_fails .ireturn (fun r => [m_i r])) {F : Nat} (hF : m_Rm Y F) (hFn : 7 ≤ F) (hN : Y.2.2.2.1 = 4) (v0 v1 v2 : Int) (h : m_H) : m_Sim Y 0 [(0, m_r v0), (1, m_i v1), (2, m_i v2)] [] h (t10_fails v0 v1 v2 h) := by
  unfold t10_fails
  refine ms_aload_n (pc := 0) S 0 rfl rfl (m_dec e10_fails 0 rfl) ?_
  refine ms_iload_n (pc := 1) S 1 rfl rfl (m_dec e10_fails 1 rfl) ?_
  refine ms_grd fun g1 => ?_
  refine ms_callVa (pc := 2) S hF (vals := [m_i v1]) (st := []) (hc := vw_10) (hci := by decide) (hcy := rfl) (ht := g1) (hC := (k10_scoreOf _ _ v0 v1 h)) (hM := lm_X10_193) (hfr := (Nat.le_trans (by decide) hFn)) (hstk := rfl) (hcat := Nat.le_of_ble_eq_true rfl) (hd := (m_dec e10_fails 2 rfl)) (k1 := fun r3 h2 => ?_)
  refine ms_astore_n (pc := 5) S (L' := [(0, m_r v0), (2, m_i v2), (3, m_r r3)]) [1, 3, 0] rfl rfl (m_lt hN rfl) (m_dec e10_fails 3 rfl) ?_
  refine ms_aload_n (pc := 6) S 2 rfl rfl (m_dec e10_fails 4 rfl) ?_
  refine ms_ifnull (pc := 7) S (m_dec e10_fails 5 rfl) rfl (fun q4 => ?_) (fun q4 => ?_)
  · refine ms_iconst (pc := 18) S (m_dec e10_fails 10 rfl) ?_
    refine ms_goto (pc := 19) S (m_dec e10_fails 11 rfl) rfl ?_
    exact ms_ret (pc := 31) E (m_dec e10_fails 17 rfl) rfl
  · refine ms_aload_n (pc := 10) S 0 rfl rfl (m_dec e10_fails 6 rfl) ?_
    refine ms_iload_n (pc := 11) S 1 rfl rfl (m_dec e10_fails 7 rfl) ?_
    refine ms_grd fun g5 => ?_
    refine ms_callVz (pc := 12) S hF (vals := [m_i v2]) (st := []) (hc := vw_10) (hci := by decide) (hcy := rfl) (ht := g5) (hC := (k10_isPast _ _ v0 v2 h2)) (hM := lm_X10_197) (hfr := (Nat.le_trans (by decide) hFn)) (hstk := rfl) (hcat := Nat.le_of_ble_eq_true rfl) (hd := (m_dec e10_fails 8 rfl)) (k1 := fun r7 h6 => ?_)
    refine ms_ifb_ne (pc := 15) S (m_dec e10_fails 9 rfl) rfl (fun q8 => ?_) (fun q8 => ?_)
    · refine ms_aload_n (pc := 22) S 0 rfl rfl (m_dec e10_fails 12 rfl) ?_
      refine ms_grd fun g9 => ?_
      refine ms_getf (pc := 23) S lf_X10_41 rfl (m_dec e10_fails 13 rfl) g9 ?_
      refine ms_aload_n (pc := 26) S 2 rfl rfl (m_dec e10_fails 14 rfl) ?_
      refine ms_iload_n (pc := 27) S 1 rfl rfl (m_dec e10_fails 15 rfl) ?_
      refine ms_grd fun g10 => ?_
      refine ms_callVi (pc := 28) S hF (vals := [m_r r3, m_i v2]) (st := []) (hc := vw_3) (hci := by decide) (hcy := rfl) (ht := g10) (hC := (k3_firstFailing _ _ (m_g h6 v0 5) r3 v2 h6)) (hM := lm_X10_201) (hfr := (Nat.le_trans (by decide) hFn)) (hstk := rfl) (hcat := Nat.le_of_ble_eq_true rfl) (hd := (m_dec e10_fails 16 rfl)) (k1 := fun r12 h11 => ?_)
      exact ms_ret (pc := 31) E (m_dec e10_fails 17 rfl) rfl
    · refine ms_iconst (pc := 18) S (m_dec e10_fails 10 rfl) ?_
      refine ms_goto (pc := 19) S (m_dec e10_fails 11 rfl) rfl ?_
      exact ms_ret (pc := 31) E (m_dec e10_fails 17 rfl) rfl
theorem k10_fails (l : Launch) (d : m_D) (v0 v1 v2 : Int) (h : m_H) : m_Con l d yX10_fails cX10_fails 4 (some .int) 7 (fun r => [m_i r]) [m_r v0, m_i v1, m_i v2] h (t10_fails v0 v1 v2 h) :=
  m_con2 (by decide +kernel) (Nat.le_of_ble_eq_true rfl) (fun Y hN hRm hr hI S hfin => s10_fails S (m_end_i S hr hfin) hRm (Nat.le_refl _) hN v0 v1 v2 h)
set_option maxRecDepth 100000 in
theorem e10_out : ∀ q ∈ ([(0, .aload_n 0, 1), (1, .getfield 48, 3), (4, .getfield 213, 3), (7, .iload_n 1, 1), (8, .invokestatic 172, 3), (11, .ireturn, 1)] : List (Nat × Instr × Nat)), decode cX10_out q.1 = .ok q.2 := by decide +kernel
set_option maxHeartbeats 4000000 in
set_option maxRecDepth 20000 in
theorem s10_out {Y : m_Y Int} (S : m_Std Y RX10 cX10_out) (E : m_End Y cX10_out .ireturn (fun r => [m_i r])) {F : Nat} (hF : m_Rm Y F) (hFn : 2 ≤ F) (hN : Y.2.2.2.1 = 2) (v0 v1 : Int) (h : m_H) : m_Sim Y 0 [(0, m_r v0), (1, m_i v1)] [] h (t10_out v0 v1 h) := by
  unfold t10_out
  refine ms_aload_n (pc := 0) S 0 rfl rfl (m_dec e10_out 0 rfl) ?_
  refine ms_grd fun g1 => ?_
  refine ms_getf (pc := 1) S lf_X10_48 rfl (m_dec e10_out 1 rfl) g1 ?_
  refine ms_grd fun g2 => ?_
  refine ms_getf (pc := 4) S lf_X10_213 rfl (m_dec e10_out 2 rfl) g2 ?_
  refine ms_iload_n (pc := 7) S 1 rfl rfl (m_dec e10_out 3 rfl) ?_
  refine ms_callSi (pc := 8) S hF (vals := [m_r (m_g h (m_g h v0 6) 1), m_i v1]) (st := [])  (hC := (k10_sampleOf _ _ (m_g h (m_g h v0 6) 1) v1 h)) (hM := lm_X10_172) (hfr := (Nat.le_trans (by decide) hFn)) (hstk := rfl) (hcat := Nat.le_of_ble_eq_true rfl) (hd := (m_dec e10_out 4 rfl)) (k1 := fun r4 h3 => ?_)
  exact ms_ret (pc := 11) E (m_dec e10_out 5 rfl) rfl
theorem k10_out (l : Launch) (d : m_D) (v0 v1 : Int) (h : m_H) : m_Con l d yX10_out cX10_out 2 (some .int) 2 (fun r => [m_i r]) [m_r v0, m_i v1] h (t10_out v0 v1 h) :=
  m_con2 (by decide +kernel) (Nat.le_of_ble_eq_true rfl) (fun Y hN hRm hr hI S hfin => s10_out S (m_end_i S hr hfin) hRm (Nat.le_refl _) hN v0 v1 h)
set_option maxRecDepth 100000 in
theorem e10_why : ∀ q ∈ ([(0, .aload_n 0, 1), (1, .getfield 48, 3), (4, .iload_n 1, 1), (5, .iload_n 2, 1), (6, .invokevirtual 216, 3), (9, .ireturn, 1)] : List (Nat × Instr × Nat)), decode cX10_why q.1 = .ok q.2 := by decide +kernel
set_option maxHeartbeats 4000000 in
set_option maxRecDepth 20000 in
theorem s10_why {Y : m_Y Int} (S : m_Std Y RX10 cX10_why) (E : m_End Y cX10_why .ireturn (fun r => [m_i r])) {F : Nat} (hF : m_Rm Y F) (hFn : 5 ≤ F) (hN : Y.2.2.2.1 = 3) (v0 v1 v2 : Int) (h : m_H) : m_Sim Y 0 [(0, m_r v0), (1, m_i v1), (2, m_i v2)] [] h (t10_why v0 v1 v2 h) := by
  unfold t10_why
  refine ms_aload_n (pc := 0) S 0 rfl rfl (m_dec e10_why 0 rfl) ?_
  refine ms_grd fun g1 => ?_
  refine ms_getf (pc := 1) S lf_X10_48 rfl (m_dec e10_why 1 rfl) g1 ?_
  refine ms_iload_n (pc := 4) S 1 rfl rfl (m_dec e10_why 2 rfl) ?_
  refine ms_iload_n (pc := 5) S 2 rfl rfl (m_dec e10_why 3 rfl) ?_
  refine ms_grd fun g2 => ?_
  refine ms_callVi (pc := 6) S hF (vals := [m_i v1, m_i v2]) (st := []) (hc := vw_2) (hci := by decide) (hcy := rfl) (ht := g2) (hC := (k2_reason _ _ (m_g h v0 6) v1 v2 h)) (hM := lm_X10_216) (hfr := (Nat.le_trans (by decide) hFn)) (hstk := rfl) (hcat := Nat.le_of_ble_eq_true rfl) (hd := (m_dec e10_why 4 rfl)) (k1 := fun r4 h3 => ?_)
  exact ms_ret (pc := 9) E (m_dec e10_why 5 rfl) rfl
theorem k10_why (l : Launch) (d : m_D) (v0 v1 v2 : Int) (h : m_H) : m_Con l d yX10_why cX10_why 3 (some .int) 5 (fun r => [m_i r]) [m_r v0, m_i v1, m_i v2] h (t10_why v0 v1 v2 h) :=
  m_con2 (by decide +kernel) (Nat.le_of_ble_eq_true rfl) (fun Y hN hRm hr hI S hfin => s10_why S (m_end_i S hr hfin) hRm (Nat.le_refl _) hN v0 v1 v2 h)
set_option maxRecDepth 100000 in
theorem e10_lead : ∀ q ∈ ([(0, .aload_n 0, 1), (1, .getfield 48, 3), (4, .iload_n 1, 1), (5, .iload_n 2, 1), (6, .iload_n 3, 1), (7, .invokevirtual 219, 3), (10, .ireturn, 1)] : List (Nat × Instr × Nat)), decode cX10_lead q.1 = .ok q.2 := by decide +kernel
set_option maxHeartbeats 4000000 in
set_option maxRecDepth 20000 in
theorem s10_lead {Y : m_Y Int} (S : m_Std Y RX10 cX10_lead) (E : m_End Y cX10_lead .ireturn (fun r => [m_i r])) {F : Nat} (hF : m_Rm Y F) (hFn : 5 ≤ F) (hN : Y.2.2.2.1 = 4) (v0 v1 v2 v3 : Int) (h : m_H) : m_Sim Y 0 [(0, m_r v0), (1, m_i v1), (2, m_i v2), (3, m_i v3)] [] h (t10_lead v0 v1 v2 v3 h) := by
  unfold t10_lead
  refine ms_aload_n (pc := 0) S 0 rfl rfl (m_dec e10_lead 0 rfl) ?_
  refine ms_grd fun g1 => ?_
  refine ms_getf (pc := 1) S lf_X10_48 rfl (m_dec e10_lead 1 rfl) g1 ?_
  refine ms_iload_n (pc := 4) S 1 rfl rfl (m_dec e10_lead 2 rfl) ?_
  refine ms_iload_n (pc := 5) S 2 rfl rfl (m_dec e10_lead 3 rfl) ?_
  refine ms_iload_n (pc := 6) S 3 rfl rfl (m_dec e10_lead 4 rfl) ?_
  refine ms_grd fun g2 => ?_
  refine ms_callVi (pc := 7) S hF (vals := [m_i v1, m_i v2, m_i v3]) (st := []) (hc := vw_2) (hci := by decide) (hcy := rfl) (ht := g2) (hC := (k2_leadTo _ _ (m_g h v0 6) v1 v2 v3 h)) (hM := lm_X10_219) (hfr := (Nat.le_trans (by decide) hFn)) (hstk := rfl) (hcat := Nat.le_of_ble_eq_true rfl) (hd := (m_dec e10_lead 5 rfl)) (k1 := fun r4 h3 => ?_)
  exact ms_ret (pc := 10) E (m_dec e10_lead 6 rfl) rfl
theorem k10_lead (l : Launch) (d : m_D) (v0 v1 v2 v3 : Int) (h : m_H) : m_Con l d yX10_lead cX10_lead 4 (some .int) 5 (fun r => [m_i r]) [m_r v0, m_i v1, m_i v2, m_i v3] h (t10_lead v0 v1 v2 v3 h) :=
  m_con2 (by decide +kernel) (Nat.le_of_ble_eq_true rfl) (fun Y hN hRm hr hI S hfin => s10_lead S (m_end_i S hr hfin) hRm (Nat.le_refl _) hN v0 v1 v2 v3 h)
set_option maxRecDepth 100000 in
theorem e10_quarrel : ∀ q ∈ ([(0, .aload_n 0, 1), (1, .getfield 48, 3), (4, .iload_n 1, 1), (5, .invokevirtual 222, 3), (8, .ireturn, 1)] : List (Nat × Instr × Nat)), decode cX10_quarrel q.1 = .ok q.2 := by decide +kernel
set_option maxHeartbeats 4000000 in
set_option maxRecDepth 20000 in
theorem s10_quarrel {Y : m_Y Int} (S : m_Std Y RX10 cX10_quarrel) (E : m_End Y cX10_quarrel .ireturn (fun r => [m_i r])) {F : Nat} (hF : m_Rm Y F) (hFn : 4 ≤ F) (hN : Y.2.2.2.1 = 2) (v0 v1 : Int) (h : m_H) : m_Sim Y 0 [(0, m_r v0), (1, m_i v1)] [] h (t10_quarrel v0 v1 h) := by
  unfold t10_quarrel
  refine ms_aload_n (pc := 0) S 0 rfl rfl (m_dec e10_quarrel 0 rfl) ?_
  refine ms_grd fun g1 => ?_
  refine ms_getf (pc := 1) S lf_X10_48 rfl (m_dec e10_quarrel 1 rfl) g1 ?_
  refine ms_iload_n (pc := 4) S 1 rfl rfl (m_dec e10_quarrel 2 rfl) ?_
  refine ms_grd fun g2 => ?_
  refine ms_callVi (pc := 5) S hF (vals := [m_i v1]) (st := []) (hc := vw_2) (hci := by decide) (hcy := rfl) (ht := g2) (hC := (k2_quarrelAt _ _ (m_g h v0 6) v1 h)) (hM := lm_X10_222) (hfr := (Nat.le_trans (by decide) hFn)) (hstk := rfl) (hcat := Nat.le_of_ble_eq_true rfl) (hd := (m_dec e10_quarrel 3 rfl)) (k1 := fun r4 h3 => ?_)
  exact ms_ret (pc := 8) E (m_dec e10_quarrel 4 rfl) rfl
theorem k10_quarrel (l : Launch) (d : m_D) (v0 v1 : Int) (h : m_H) : m_Con l d yX10_quarrel cX10_quarrel 2 (some .int) 4 (fun r => [m_i r]) [m_r v0, m_i v1] h (t10_quarrel v0 v1 h) :=
  m_con2 (by decide +kernel) (Nat.le_of_ble_eq_true rfl) (fun Y hN hRm hr hI S hfin => s10_quarrel S (m_end_i S hr hfin) hRm (Nat.le_refl _) hN v0 v1 h)
set_option maxRecDepth 100000 in
theorem e10_open : ∀ q ∈ ([(0, .aload_n 0, 1), (1, .iload_n 1, 1), (2, .invokevirtual 193, 3), (5, .astore_n 2, 1), (6, .aload_n 2, 1), (7, .ifnull 10, 3), (10, .aload_n 2, 1), (11, .getfield 225, 3), (14, .ifCond .ne 5, 3), (17, .iconst (-1), 1), (18, .ireturn, 1), (19, .aload_n 0, 1), (20, .getfield 41, 3), (23, .aload_n 2, 1), (24, .aload_n 0, 1), (25, .getfield 10, 3), (28, .getfield 165, 3), (31, .invokevirtual 201, 3), (34, .iconst (-1), 1), (35, .if_icmp .eq 7, 3), (38, .iconst 1, 1), (39, .goto 4, 3), (42, .iconst 0, 1), (43, .istore_n 3, 1), (44, .iload_n 3, 1), (45, .ifCond .ne 14, 3), (48, .aload_n 0, 1), (49, .getfield 41, 3), (52, .aload_n 2, 1), (53, .invokevirtual 229, 3), (56, .ifCond .eq 7, 3), (59, .iconst 1, 1), (60, .goto 4, 3), (63, .iconst 0, 1), (64, .ireturn, 1)] : List (Nat × Instr × Nat)), decode cX10_open q.1 = .ok q.2 := by decide +kernel
set_option maxHeartbeats 4000000 in
set_option maxRecDepth 20000 in
theorem s10_open_c43 {Y : m_Y Int} (S : m_Std Y RX10 cX10_open) (E : m_End Y cX10_open .ireturn (fun r => [m_i r])) {F : Nat} (hF : m_Rm Y F) (hFn : 7 ≤ F) (hN : Y.2.2.2.1 = 4) (v0 v2 s0 : Int) (h : m_H) : m_Sim Y 43 [(0, m_r v0), (2, m_r v2)] [m_i s0] h (t10_open_c43 v0 v2 s0 h) := by
  unfold t10_open_c43
  refine ms_istore_n (pc := 43) S (L' := [(0, m_r v0), (2, m_r v2), (3, m_i s0)]) [1, 2, 0] rfl rfl (m_lt hN rfl) (m_dec e10_open 23 rfl) ?_
  refine ms_iload_n (pc := 44) S 2 rfl rfl (m_dec e10_open 24 rfl) ?_
  refine ms_if_ne (pc := 45) S (m_dec e10_open 25 rfl) rfl (fun q1 => ?_) (fun q1 => ?_)
  · refine ms_aload_n (pc := 48) S 0 rfl rfl (m_dec e10_open 26 rfl) ?_
    refine ms_grd fun g2 => ?_
    refine ms_getf (pc := 49) S lf_X10_41 rfl (m_dec e10_open 27 rfl) g2 ?_
    refine ms_aload_n (pc := 52) S 1 rfl rfl (m_dec e10_open 28 rfl) ?_
    refine ms_grd fun g3 => ?_
    refine ms_callVz (pc := 53) S hF (vals := [m_r v2]) (st := []) (hc := vw_3) (hci := by decide) (hcy := rfl) (ht := g3) (hC := (k3_leadsOtherwise _ _ (m_g h v0 5) v2 h)) (hM := lm_X10_229) (hfr := (Nat.le_trans (by decide) hFn)) (hstk := rfl) (hcat := Nat.le_of_ble_eq_true rfl) (hd := (m_dec e10_open 29 rfl)) (k1 := fun r5 h4 => ?_)
    refine ms_ifb_eq (pc := 56) S (m_dec e10_open 30 rfl) rfl (fun q6 => ?_) (fun q6 => ?_)
    · refine ms_iconst (pc := 59) S (m_dec e10_open 31 rfl) ?_
      refine ms_goto (pc := 60) S (m_dec e10_open 32 rfl) rfl ?_
      exact ms_ret (pc := 64) E (m_dec e10_open 34 rfl) rfl
    · refine ms_iconst (pc := 63) S (m_dec e10_open 33 rfl) ?_
      exact ms_ret (pc := 64) E (m_dec e10_open 34 rfl) rfl
  · refine ms_iconst (pc := 59) S (m_dec e10_open 31 rfl) ?_
    refine ms_goto (pc := 60) S (m_dec e10_open 32 rfl) rfl ?_
    exact ms_ret (pc := 64) E (m_dec e10_open 34 rfl) rfl
set_option maxHeartbeats 4000000 in
set_option maxRecDepth 20000 in
theorem s10_open {Y : m_Y Int} (S : m_Std Y RX10 cX10_open) (E : m_End Y cX10_open .ireturn (fun r => [m_i r])) {F : Nat} (hF : m_Rm Y F) (hFn : 7 ≤ F) (hN : Y.2.2.2.1 = 4) (v0 v1 : Int) (h : m_H) : m_Sim Y 0 [(0, m_r v0), (1, m_i v1)] [] h (t10_open v0 v1 h) := by
  unfold t10_open
  refine ms_aload_n (pc := 0) S 0 rfl rfl (m_dec e10_open 0 rfl) ?_
  refine ms_iload_n (pc := 1) S 1 rfl rfl (m_dec e10_open 1 rfl) ?_
  refine ms_grd fun g1 => ?_
  refine ms_callVa (pc := 2) S hF (vals := [m_i v1]) (st := []) (hc := vw_10) (hci := by decide) (hcy := rfl) (ht := g1) (hC := (k10_scoreOf _ _ v0 v1 h)) (hM := lm_X10_193) (hfr := (Nat.le_trans (by decide) hFn)) (hstk := rfl) (hcat := Nat.le_of_ble_eq_true rfl) (hd := (m_dec e10_open 2 rfl)) (k1 := fun r3 h2 => ?_)
  refine ms_astore_n (pc := 5) S (L' := [(0, m_r v0), (2, m_r r3)]) [1, 0] rfl rfl (m_lt hN rfl) (m_dec e10_open 3 rfl) ?_
  refine ms_aload_n (pc := 6) S 1 rfl rfl (m_dec e10_open 4 rfl) ?_
  refine ms_ifnull (pc := 7) S (m_dec e10_open 5 rfl) rfl (fun q4 => ?_) (fun q4 => ?_)
  · refine ms_iconst (pc := 17) S (m_dec e10_open 9 rfl) ?_
    exact ms_ret (pc := 18) E (m_dec e10_open 10 rfl) rfl
  · refine ms_aload_n (pc := 10) S 1 rfl rfl (m_dec e10_open 6 rfl) ?_
    refine ms_grd fun g5 => ?_
    refine ms_getf (pc := 11) S lf_X10_225 rfl (m_dec e10_open 7 rfl) g5 ?_
    refine ms_if_ne (pc := 14) S (m_dec e10_open 8 rfl) rfl (fun q6 => ?_) (fun q6 => ?_)
    · refine ms_iconst (pc := 17) S (m_dec e10_open 9 rfl) ?_
      exact ms_ret (pc := 18) E (m_dec e10_open 10 rfl) rfl
    · refine ms_aload_n (pc := 19) S 0 rfl rfl (m_dec e10_open 11 rfl) ?_
      refine ms_grd fun g7 => ?_
      refine ms_getf (pc := 20) S lf_X10_41 rfl (m_dec e10_open 12 rfl) g7 ?_
      refine ms_aload_n (pc := 23) S 1 rfl rfl (m_dec e10_open 13 rfl) ?_
      refine ms_aload_n (pc := 24) S 0 rfl rfl (m_dec e10_open 14 rfl) ?_
      refine ms_getf (pc := 25) S lf_X10_10 rfl (m_dec e10_open 15 rfl) g7 ?_
      refine ms_grd fun g8 => ?_
      refine ms_getf (pc := 28) S lf_X10_165 rfl (m_dec e10_open 16 rfl) g8 ?_
      refine ms_grd fun g9 => ?_
      refine ms_callVi (pc := 31) S hF (vals := [m_r r3, m_i (m_g h2 (m_g h2 v0 0) 3)]) (st := []) (hc := vw_3) (hci := by decide) (hcy := rfl) (ht := g9) (hC := (k3_firstFailing _ _ (m_g h2 v0 5) r3 (m_g h2 (m_g h2 v0 0) 3) h2)) (hM := lm_X10_201) (hfr := (Nat.le_trans (by decide) hFn)) (hstk := rfl) (hcat := Nat.le_of_ble_eq_true rfl) (hd := (m_dec e10_open 17 rfl)) (k1 := fun r11 h10 => ?_)
      refine ms_iconst (pc := 34) S (m_dec e10_open 18 rfl) ?_
      refine ms_icmp_eq (pc := 35) S (m_dec e10_open 19 rfl) rfl (fun q12 => ?_) (fun q12 => ?_)
      · refine ms_iconst (pc := 42) S (m_dec e10_open 22 rfl) ?_
        exact s10_open_c43 S E hF hFn hN v0 r3 0 h10
      · refine ms_iconst (pc := 38) S (m_dec e10_open 20 rfl) ?_
        refine ms_goto (pc := 39) S (m_dec e10_open 21 rfl) rfl ?_
        exact s10_open_c43 S E hF hFn hN v0 r3 1 h10
theorem k10_open (l : Launch) (d : m_D) (v0 v1 : Int) (h : m_H) : m_Con l d yX10_open cX10_open 4 (some .int) 7 (fun r => [m_i r]) [m_r v0, m_i v1] h (t10_open v0 v1 h) :=
  m_con2 (by decide +kernel) (Nat.le_of_ble_eq_true rfl) (fun Y hN hRm hr hI S hfin => s10_open S (m_end_i S hr hfin) hRm (Nat.le_refl _) hN v0 v1 h)
set_option maxRecDepth 100000 in
theorem e10_turns : ∀ q ∈ ([(0, .aload_n 0, 1), (1, .iload_n 1, 1), (2, .invokevirtual 193, 3), (5, .astore_n 2, 1), (6, .aload_n 2, 1), (7, .ifnonnull 7, 3), (10, .iconst (-1), 1), (11, .goto 18, 3), (14, .aload_n 0, 1), (15, .getfield 55, 3), (18, .aload_n 2, 1), (19, .aload_n 0, 1), (20, .getfield 10, 3), (23, .getfield 233, 3), (26, .invokevirtual 236, 3), (29, .ireturn, 1)] : List (Nat × Instr × Nat)), decode cX10_turns q.1 = .ok q.2 := by decide +kernel
set_option maxHeartbeats 4000000 in
set_option maxRecDepth 20000 in
theorem s10_turns {Y : m_Y Int} (S : m_Std Y RX10 cX10_turns) (E : m_End Y cX10_turns .ireturn (fun r => [m_i r])) {F : Nat} (hF : m_Rm Y F) (hFn : 5 ≤ F) (hN : Y.2.2.2.1 = 3) (v0 v1 : Int) (h : m_H) : m_Sim Y 0 [(0, m_r v0), (1, m_i v1)] [] h (t10_turns v0 v1 h) := by
  unfold t10_turns
  refine ms_aload_n (pc := 0) S 0 rfl rfl (m_dec e10_turns 0 rfl) ?_
  refine ms_iload_n (pc := 1) S 1 rfl rfl (m_dec e10_turns 1 rfl) ?_
  refine ms_grd fun g1 => ?_
  refine ms_callVa (pc := 2) S hF (vals := [m_i v1]) (st := []) (hc := vw_10) (hci := by decide) (hcy := rfl) (ht := g1) (hC := (k10_scoreOf _ _ v0 v1 h)) (hM := lm_X10_193) (hfr := (Nat.le_trans (by decide) hFn)) (hstk := rfl) (hcat := Nat.le_of_ble_eq_true rfl) (hd := (m_dec e10_turns 2 rfl)) (k1 := fun r3 h2 => ?_)
  refine ms_astore_n (pc := 5) S (L' := [(0, m_r v0), (2, m_r r3)]) [1, 0] rfl rfl (m_lt hN rfl) (m_dec e10_turns 3 rfl) ?_
  refine ms_aload_n (pc := 6) S 1 rfl rfl (m_dec e10_turns 4 rfl) ?_
  refine ms_ifnonnull (pc := 7) S (m_dec e10_turns 5 rfl) rfl (fun q4 => ?_) (fun q4 => ?_)
  · refine ms_iconst (pc := 10) S (m_dec e10_turns 6 rfl) ?_
    refine ms_goto (pc := 11) S (m_dec e10_turns 7 rfl) rfl ?_
    exact ms_ret (pc := 29) E (m_dec e10_turns 15 rfl) rfl
  · refine ms_aload_n (pc := 14) S 0 rfl rfl (m_dec e10_turns 8 rfl) ?_
    refine ms_grd fun g5 => ?_
    refine ms_getf (pc := 15) S lf_X10_55 rfl (m_dec e10_turns 9 rfl) g5 ?_
    refine ms_aload_n (pc := 18) S 1 rfl rfl (m_dec e10_turns 10 rfl) ?_
    refine ms_aload_n (pc := 19) S 0 rfl rfl (m_dec e10_turns 11 rfl) ?_
    refine ms_getf (pc := 20) S lf_X10_10 rfl (m_dec e10_turns 12 rfl) g5 ?_
    refine ms_grd fun g6 => ?_
    refine ms_getf (pc := 23) S lf_X10_233 rfl (m_dec e10_turns 13 rfl) g6 ?_
    refine ms_grd fun g7 => ?_
    refine ms_callVi (pc := 26) S hF (vals := [m_r r3, m_i (m_g h2 (m_g h2 v0 0) 6)]) (st := []) (hc := vw_9) (hci := by decide) (hcy := rfl) (ht := g7) (hC := (k9_leastTurns _ _ (m_g h2 v0 7) r3 (m_g h2 (m_g h2 v0 0) 6) h2)) (hM := lm_X10_236) (hfr := (Nat.le_trans (by decide) hFn)) (hstk := rfl) (hcat := Nat.le_of_ble_eq_true rfl) (hd := (m_dec e10_turns 14 rfl)) (k1 := fun r9 h8 => ?_)
    exact ms_ret (pc := 29) E (m_dec e10_turns 15 rfl) rfl
theorem k10_turns (l : Launch) (d : m_D) (v0 v1 : Int) (h : m_H) : m_Con l d yX10_turns cX10_turns 3 (some .int) 5 (fun r => [m_i r]) [m_r v0, m_i v1] h (t10_turns v0 v1 h) :=
  m_con2 (by decide +kernel) (Nat.le_of_ble_eq_true rfl) (fun Y hN hRm hr hI S hfin => s10_turns S (m_end_i S hr hfin) hRm (Nat.le_refl _) hN v0 v1 h)
set_option maxRecDepth 100000 in
theorem e10_turnOf : ∀ q ∈ ([(0, .aload_n 0, 1), (1, .iload_n 1, 1), (2, .invokevirtual 193, 3), (5, .astore_n 3, 1), (6, .aload_n 3, 1), (7, .ifnonnull 7, 3), (10, .iconst (-1), 1), (11, .goto 19, 3), (14, .aload_n 0, 1), (15, .getfield 55, 3), (18, .aload_n 3, 1), (19, .aload_n 0, 1), (20, .getfield 10, 3), (23, .getfield 233, 3), (26, .iload_n 2, 1), (27, .invokevirtual 239, 3), (30, .ireturn, 1)] : List (Nat × Instr × Nat)), decode cX10_turnOf q.1 = .ok q.2 := by decide +kernel
set_option maxHeartbeats 4000000 in
set_option maxRecDepth 20000 in
theorem s10_turnOf {Y : m_Y Int} (S : m_Std Y RX10 cX10_turnOf) (E : m_End Y cX10_turnOf .ireturn (fun r => [m_i r])) {F : Nat} (hF : m_Rm Y F) (hFn : 6 ≤ F) (hN : Y.2.2.2.1 = 4) (v0 v1 v2 : Int) (h : m_H) : m_Sim Y 0 [(0, m_r v0), (1, m_i v1), (2, m_i v2)] [] h (t10_turnOf v0 v1 v2 h) := by
  unfold t10_turnOf
  refine ms_aload_n (pc := 0) S 0 rfl rfl (m_dec e10_turnOf 0 rfl) ?_
  refine ms_iload_n (pc := 1) S 1 rfl rfl (m_dec e10_turnOf 1 rfl) ?_
  refine ms_grd fun g1 => ?_
  refine ms_callVa (pc := 2) S hF (vals := [m_i v1]) (st := []) (hc := vw_10) (hci := by decide) (hcy := rfl) (ht := g1) (hC := (k10_scoreOf _ _ v0 v1 h)) (hM := lm_X10_193) (hfr := (Nat.le_trans (by decide) hFn)) (hstk := rfl) (hcat := Nat.le_of_ble_eq_true rfl) (hd := (m_dec e10_turnOf 2 rfl)) (k1 := fun r3 h2 => ?_)
  refine ms_astore_n (pc := 5) S (L' := [(0, m_r v0), (2, m_i v2), (3, m_r r3)]) [1, 3, 0] rfl rfl (m_lt hN rfl) (m_dec e10_turnOf 3 rfl) ?_
  refine ms_aload_n (pc := 6) S 2 rfl rfl (m_dec e10_turnOf 4 rfl) ?_
  refine ms_ifnonnull (pc := 7) S (m_dec e10_turnOf 5 rfl) rfl (fun q4 => ?_) (fun q4 => ?_)
  · refine ms_iconst (pc := 10) S (m_dec e10_turnOf 6 rfl) ?_
    refine ms_goto (pc := 11) S (m_dec e10_turnOf 7 rfl) rfl ?_
    exact ms_ret (pc := 30) E (m_dec e10_turnOf 16 rfl) rfl
  · refine ms_aload_n (pc := 14) S 0 rfl rfl (m_dec e10_turnOf 8 rfl) ?_
    refine ms_grd fun g5 => ?_
    refine ms_getf (pc := 15) S lf_X10_55 rfl (m_dec e10_turnOf 9 rfl) g5 ?_
    refine ms_aload_n (pc := 18) S 2 rfl rfl (m_dec e10_turnOf 10 rfl) ?_
    refine ms_aload_n (pc := 19) S 0 rfl rfl (m_dec e10_turnOf 11 rfl) ?_
    refine ms_getf (pc := 20) S lf_X10_10 rfl (m_dec e10_turnOf 12 rfl) g5 ?_
    refine ms_grd fun g6 => ?_
    refine ms_getf (pc := 23) S lf_X10_233 rfl (m_dec e10_turnOf 13 rfl) g6 ?_
    refine ms_iload_n (pc := 26) S 1 rfl rfl (m_dec e10_turnOf 14 rfl) ?_
    refine ms_grd fun g7 => ?_
    refine ms_callVi (pc := 27) S hF (vals := [m_r r3, m_i (m_g h2 (m_g h2 v0 0) 6), m_i v2]) (st := []) (hc := vw_9) (hci := by decide) (hcy := rfl) (ht := g7) (hC := (k9_plannedTurn _ _ (m_g h2 v0 7) r3 (m_g h2 (m_g h2 v0 0) 6) v2 h2)) (hM := lm_X10_239) (hfr := (Nat.le_trans (by decide) hFn)) (hstk := rfl) (hcat := Nat.le_of_ble_eq_true rfl) (hd := (m_dec e10_turnOf 15 rfl)) (k1 := fun r9 h8 => ?_)
    exact ms_ret (pc := 30) E (m_dec e10_turnOf 16 rfl) rfl
theorem k10_turnOf (l : Launch) (d : m_D) (v0 v1 v2 : Int) (h : m_H) : m_Con l d yX10_turnOf cX10_turnOf 4 (some .int) 6 (fun r => [m_i r]) [m_r v0, m_i v1, m_i v2] h (t10_turnOf v0 v1 v2 h) :=
  m_con2 (by decide +kernel) (Nat.le_of_ble_eq_true rfl) (fun Y hN hRm hr hI S hfin => s10_turnOf S (m_end_i S hr hfin) hRm (Nat.le_refl _) hN v0 v1 v2 h)
set_option maxRecDepth 100000 in
theorem e10_deep : ∀ q ∈ ([(0, .aload_n 0, 1), (1, .iload_n 1, 1), (2, .invokevirtual 193, 3), (5, .astore_n 2, 1), (6, .aload_n 2, 1), (7, .ifnonnull 7, 3), (10, .iconst (-1), 1), (11, .goto 11, 3), (14, .aload_n 0, 1), (15, .getfield 41, 3), (18, .aload_n 2, 1), (19, .invokevirtual 243, 3), (22, .ireturn, 1)] : List (Nat × Instr × Nat)), decode cX10_deep q.1 = .ok q.2 := by decide +kernel
set_option maxHeartbeats 4000000 in
set_option maxRecDepth 20000 in
theorem s10_deep {Y : m_Y Int} (S : m_Std Y RX10 cX10_deep) (E : m_End Y cX10_deep .ireturn (fun r => [m_i r])) {F : Nat} (hF : m_Rm Y F) (hFn : 6 ≤ F) (hN : Y.2.2.2.1 = 3) (v0 v1 : Int) (h : m_H) : m_Sim Y 0 [(0, m_r v0), (1, m_i v1)] [] h (t10_deep v0 v1 h) := by
  unfold t10_deep
  refine ms_aload_n (pc := 0) S 0 rfl rfl (m_dec e10_deep 0 rfl) ?_
  refine ms_iload_n (pc := 1) S 1 rfl rfl (m_dec e10_deep 1 rfl) ?_
  refine ms_grd fun g1 => ?_
  refine ms_callVa (pc := 2) S hF (vals := [m_i v1]) (st := []) (hc := vw_10) (hci := by decide) (hcy := rfl) (ht := g1) (hC := (k10_scoreOf _ _ v0 v1 h)) (hM := lm_X10_193) (hfr := (Nat.le_trans (by decide) hFn)) (hstk := rfl) (hcat := Nat.le_of_ble_eq_true rfl) (hd := (m_dec e10_deep 2 rfl)) (k1 := fun r3 h2 => ?_)
  refine ms_astore_n (pc := 5) S (L' := [(0, m_r v0), (2, m_r r3)]) [1, 0] rfl rfl (m_lt hN rfl) (m_dec e10_deep 3 rfl) ?_
  refine ms_aload_n (pc := 6) S 1 rfl rfl (m_dec e10_deep 4 rfl) ?_
  refine ms_ifnonnull (pc := 7) S (m_dec e10_deep 5 rfl) rfl (fun q4 => ?_) (fun q4 => ?_)
  · refine ms_iconst (pc := 10) S (m_dec e10_deep 6 rfl) ?_
    refine ms_goto (pc := 11) S (m_dec e10_deep 7 rfl) rfl ?_
    exact ms_ret (pc := 22) E (m_dec e10_deep 12 rfl) rfl
  · refine ms_aload_n (pc := 14) S 0 rfl rfl (m_dec e10_deep 8 rfl) ?_
    refine ms_grd fun g5 => ?_
    refine ms_getf (pc := 15) S lf_X10_41 rfl (m_dec e10_deep 9 rfl) g5 ?_
    refine ms_aload_n (pc := 18) S 1 rfl rfl (m_dec e10_deep 10 rfl) ?_
    refine ms_grd fun g6 => ?_
    refine ms_callVi (pc := 19) S hF (vals := [m_r r3]) (st := []) (hc := vw_3) (hci := by decide) (hcy := rfl) (ht := g6) (hC := (k3_depth _ _ (m_g h2 v0 5) r3 h2)) (hM := lm_X10_243) (hfr := (Nat.le_trans (by decide) hFn)) (hstk := rfl) (hcat := Nat.le_of_ble_eq_true rfl) (hd := (m_dec e10_deep 11 rfl)) (k1 := fun r8 h7 => ?_)
    exact ms_ret (pc := 22) E (m_dec e10_deep 12 rfl) rfl
theorem k10_deep (l : Launch) (d : m_D) (v0 v1 : Int) (h : m_H) : m_Con l d yX10_deep cX10_deep 3 (some .int) 6 (fun r => [m_i r]) [m_r v0, m_i v1] h (t10_deep v0 v1 h) :=
  m_con2 (by decide +kernel) (Nat.le_of_ble_eq_true rfl) (fun Y hN hRm hr hI S hfin => s10_deep S (m_end_i S hr hfin) hRm (Nat.le_refl _) hN v0 v1 h)
set_option maxRecDepth 100000 in
theorem e10_tape : ∀ q ∈ ([(0, .iload_n 1, 1), (1, .iconst 1, 1), (2, .if_icmp .lt 29, 3), (5, .iload_n 1, 1), (6, .aload_n 0, 1), (7, .getfield 19, 3), (10, .invokevirtual 71, 3), (13, .if_icmp .gt 18, 3), (16, .aload_n 0, 1), (17, .getfield 59, 3), (20, .invokevirtual 71, 3), (23, .iload_n 1, 1), (24, .iadd, 1), (25, .sipush 1000, 3), (28, .if_icmp .le 5, 3), (31, .iconst (-1), 1), (32, .ireturn, 1), (33, .iconst 0, 1), (34, .istore_n 2, 1), (35, .iload_n 2, 1), (36, .iload_n 1, 1), (37, .if_icmp .ge 24, 3), (40, .aload_n 0, 1), (41, .getfield 59, 3), (44, .aload_n 0, 1), (45, .getfield 19, 3), (48, .iload_n 2, 1), (49, .invokevirtual 124, 3), (52, .invokevirtual 79, 3), (55, .iinc 2 1, 3), (58, .goto (-23), 3), (61, .aload_n 0, 1), (62, .getfield 19, 3), (65, .iload_n 1, 1), (66, .invokevirtual 94, 3), (69, .aload_n 0, 1), (70, .getfield 67, 3), (73, .invokevirtual 247, 3), (76, .aload_n 0, 1), (77, .getfield 59, 3), (80, .invokevirtual 71, 3), (83, .ireturn, 1)] : List (Nat × Instr × Nat)), decode cX10_tape q.1 = .ok q.2 := by decide +kernel
set_option maxHeartbeats 4000000 in
set_option maxRecDepth 20000 in
theorem s10_tape_c35 {Y : m_Y Int} (S : m_Std Y RX10 cX10_tape) (E : m_End Y cX10_tape .ireturn (fun r => [m_i r])) {F : Nat} (hF : m_Rm Y F) (hFn : 4 ≤ F) (hN : Y.2.2.2.1 = 3) : ∀ (v0 v1 v2 : Int) (h : m_H), m_Sim Y 35 [(0, m_r v0), (1, m_i v1), (2, m_i v2)] [] h (t10_tape_c35 v0 v1 v2 h) := by
  intro v0 v1 v2 h
  refine ms_all fun r e => ?_
  refine t10_tape_c35.partial_correctness v0 v1 (motive := fun v2 h r => m_Sim Y 35 [(0, m_r v0), (1, m_i v1), (2, m_i v2)] [] h (some r)) ?_ v2 h r e
  intro f ih v2 h r e
  have ih : ∀ (v2 : Int) (h : m_H), m_Sim Y 35 [(0, m_r v0), (1, m_i v1), (2, m_i v2)] [] h (f v2 h ) := fun v2 h  => ms_all fun r e => ih v2 h r e
  refine ms_use ?_ e
  clear e r
  refine ms_iload_n (pc := 35) S 2 rfl rfl (m_dec e10_tape 19 rfl) ?_
  refine ms_iload_n (pc := 36) S 1 rfl rfl (m_dec e10_tape 20 rfl) ?_
  refine ms_icmp_ge (pc := 37) S (m_dec e10_tape 21 rfl) rfl (fun q1 => ?_) (fun q1 => ?_)
  · refine ms_aload_n (pc := 40) S 0 rfl rfl (m_dec e10_tape 22 rfl) ?_
    refine ms_grd fun g2 => ?_
    refine ms_getf (pc := 41) S lf_X10_59 rfl (m_dec e10_tape 23 rfl) g2 ?_
    refine ms_aload_n (pc := 44) S 0 rfl rfl (m_dec e10_tape 24 rfl) ?_
    refine ms_getf (pc := 45) S lf_X10_19 rfl (m_dec e10_tape 25 rfl) g2 ?_
    refine ms_iload_n (pc := 48) S 2 rfl rfl (m_dec e10_tape 26 rfl) ?_
    refine ms_grd fun g3 => ?_
    refine ms_callVi (pc := 49) S hF (vals := [m_i v2]) (st := [m_r (m_g h v0 8)]) (hc := vw_5) (hci := by decide) (hcy := rfl) (ht := g3) (hC := (k5_get _ _ (m_g h v0 1) v2 h)) (hM := lm_X10_124) (hfr := (Nat.le_trans (by decide) hFn)) (hstk := rfl) (hcat := Nat.le_of_ble_eq_true rfl) (hd := (m_dec e10_tape 27 rfl)) (k1 := fun r5 h4 => ?_)
    refine ms_grd fun g6 => ?_
    refine ms_callVv (pc := 52) S hF (vals := [m_i r5]) (st := []) (hc := vw_5) (hci := by decide) (hcy := rfl) (ht := g6) (hC := (k5_add _ _ (m_g h v0 8) r5 h4)) (hM := lm_X10_79) (hfr := (Nat.le_trans (by decide) hFn)) (hstk := rfl) (hcat := Nat.le_of_ble_eq_true rfl) (hd := (m_dec e10_tape 28 rfl)) (k1 := fun h7 => ?_)
    refine ms_iinc (pc := 55) S (L' := [(0, m_r v0), (1, m_i v1), (2, m_i (v2 + 1))]) 2 rfl [1, 2, 0] rfl (m_lt hN rfl) (m_dec e10_tape 29 rfl) ?_
    refine ms_goto (pc := 58) S (m_dec e10_tape 30 rfl) rfl ?_
    exact ih (v2 + 1) h7
  · refine ms_aload_n (pc := 61) S 0 rfl rfl (m_dec e10_tape 31 rfl) ?_
    refine ms_grd fun g9 => ?_
    refine ms_getf (pc := 62) S lf_X10_19 rfl (m_dec e10_tape 32 rfl) g9 ?_
    refine ms_iload_n (pc := 65) S 1 rfl rfl (m_dec e10_tape 33 rfl) ?_
    refine ms_grd fun g10 => ?_
    refine ms_callVv (pc := 66) S hF (vals := [m_i v1]) (st := []) (hc := vw_5) (hci := by decide) (hcy := rfl) (ht := g10) (hC := (k5_dropFirst _ _ (m_g h v0 1) v1 h)) (hM := lm_X10_94) (hfr := (Nat.le_trans (by decide) hFn)) (hstk := rfl) (hcat := Nat.le_of_ble_eq_true rfl) (hd := (m_dec e10_tape 34 rfl)) (k1 := fun h11 => ?_)
    refine ms_aload_n (pc := 69) S 0 rfl rfl (m_dec e10_tape 35 rfl) ?_
    refine ms_grd fun g13 => ?_
    refine ms_getf (pc := 70) S lf_X10_67 rfl (m_dec e10_tape 36 rfl) g13 ?_
    refine ms_grd fun g14 => ?_
    refine ms_callVv (pc := 73) S hF (vals := []) (st := []) (hc := vw_1) (hci := by decide) (hcy := rfl) (ht := g14) (hC := (k1_forget _ _ (m_g h11 v0 9) h11)) (hM := lm_X10_247) (hfr := (Nat.le_trans (by decide) hFn)) (hstk := rfl) (hcat := Nat.le_of_ble_eq_true rfl) (hd := (m_dec e10_tape 37 rfl)) (k1 := fun h15 => ?_)
    refine ms_aload_n (pc := 76) S 0 rfl rfl (m_dec e10_tape 38 rfl) ?_
    refine ms_grd fun g17 => ?_
    refine ms_getf (pc := 77) S lf_X10_59 rfl (m_dec e10_tape 39 rfl) g17 ?_
    refine ms_grd fun g18 => ?_
    refine ms_callVi (pc := 80) S hF (vals := []) (st := []) (hc := vw_5) (hci := by decide) (hcy := rfl) (ht := g18) (hC := (k5_size _ _ (m_g h15 v0 8) h15)) (hM := lm_X10_71) (hfr := (Nat.le_trans (by decide) hFn)) (hstk := rfl) (hcat := Nat.le_of_ble_eq_true rfl) (hd := (m_dec e10_tape 40 rfl)) (k1 := fun r20 h19 => ?_)
    exact ms_ret (pc := 83) E (m_dec e10_tape 41 rfl) rfl
set_option maxHeartbeats 4000000 in
set_option maxRecDepth 20000 in
theorem s10_tape {Y : m_Y Int} (S : m_Std Y RX10 cX10_tape) (E : m_End Y cX10_tape .ireturn (fun r => [m_i r])) {F : Nat} (hF : m_Rm Y F) (hFn : 4 ≤ F) (hN : Y.2.2.2.1 = 3) (v0 v1 : Int) (h : m_H) : m_Sim Y 0 [(0, m_r v0), (1, m_i v1)] [] h (t10_tape v0 v1 h) := by
  unfold t10_tape
  refine ms_iload_n (pc := 0) S 1 rfl rfl (m_dec e10_tape 0 rfl) ?_
  refine ms_iconst (pc := 1) S (m_dec e10_tape 1 rfl) ?_
  refine ms_icmp_lt (pc := 2) S (m_dec e10_tape 2 rfl) rfl (fun q1 => ?_) (fun q1 => ?_)
  · refine ms_iconst (pc := 31) S (m_dec e10_tape 15 rfl) ?_
    exact ms_ret (pc := 32) E (m_dec e10_tape 16 rfl) rfl
  · refine ms_iload_n (pc := 5) S 1 rfl rfl (m_dec e10_tape 3 rfl) ?_
    refine ms_aload_n (pc := 6) S 0 rfl rfl (m_dec e10_tape 4 rfl) ?_
    refine ms_grd fun g2 => ?_
    refine ms_getf (pc := 7) S lf_X10_19 rfl (m_dec e10_tape 5 rfl) g2 ?_
    refine ms_grd fun g3 => ?_
    refine ms_callVi (pc := 10) S hF (vals := []) (st := [m_i v1]) (hc := vw_5) (hci := by decide) (hcy := rfl) (ht := g3) (hC := (k5_size _ _ (m_g h v0 1) h)) (hM := lm_X10_71) (hfr := (Nat.le_trans (by decide) hFn)) (hstk := rfl) (hcat := Nat.le_of_ble_eq_true rfl) (hd := (m_dec e10_tape 6 rfl)) (k1 := fun r5 h4 => ?_)
    refine ms_icmp_gt (pc := 13) S (m_dec e10_tape 7 rfl) rfl (fun q6 => ?_) (fun q6 => ?_)
    · refine ms_iconst (pc := 31) S (m_dec e10_tape 15 rfl) ?_
      exact ms_ret (pc := 32) E (m_dec e10_tape 16 rfl) rfl
    · refine ms_aload_n (pc := 16) S 0 rfl rfl (m_dec e10_tape 8 rfl) ?_
      refine ms_grd fun g7 => ?_
      refine ms_getf (pc := 17) S lf_X10_59 rfl (m_dec e10_tape 9 rfl) g7 ?_
      refine ms_grd fun g8 => ?_
      refine ms_callVi (pc := 20) S hF (vals := []) (st := []) (hc := vw_5) (hci := by decide) (hcy := rfl) (ht := g8) (hC := (k5_size _ _ (m_g h4 v0 8) h4)) (hM := lm_X10_71) (hfr := (Nat.le_trans (by decide) hFn)) (hstk := rfl) (hcat := Nat.le_of_ble_eq_true rfl) (hd := (m_dec e10_tape 10 rfl)) (k1 := fun r10 h9 => ?_)
      refine ms_iload_n (pc := 23) S 1 rfl rfl (m_dec e10_tape 11 rfl) ?_
      refine ms_iadd (pc := 24) S (m_dec e10_tape 12 rfl) ?_
      refine ms_sipush (pc := 25) S (m_dec e10_tape 13 rfl) rfl ?_
      refine ms_icmp_le (pc := 28) S (m_dec e10_tape 14 rfl) rfl (fun q11 => ?_) (fun q11 => ?_)
      · refine ms_iconst (pc := 31) S (m_dec e10_tape 15 rfl) ?_
        exact ms_ret (pc := 32) E (m_dec e10_tape 16 rfl) rfl
      · refine ms_iconst (pc := 33) S (m_dec e10_tape 17 rfl) ?_
        refine ms_istore_n (pc := 34) S (L' := [(0, m_r v0), (1, m_i v1), (2, m_i 0)]) [1, 2, 0] rfl rfl (m_lt hN rfl) (m_dec e10_tape 18 rfl) ?_
        exact s10_tape_c35 S E hF hFn hN v0 v1 0 h9
theorem k10_tape (l : Launch) (d : m_D) (v0 v1 : Int) (h : m_H) : m_Con l d yX10_tape cX10_tape 3 (some .int) 4 (fun r => [m_i r]) [m_r v0, m_i v1] h (t10_tape v0 v1 h) :=
  m_con2 (by decide +kernel) (Nat.le_of_ble_eq_true rfl) (fun Y hN hRm hr hI S hfin => s10_tape S (m_end_i S hr hfin) hRm (Nat.le_refl _) hN v0 v1 h)
set_option maxRecDepth 100000 in
theorem e10_wipe : ∀ q ∈ ([(0, .aload_n 0, 1), (1, .getfield 67, 3), (4, .invokevirtual 247, 3), (7, .aload_n 0, 1), (8, .getfield 59, 3), (11, .invokestatic 82, 3), (14, .ireturn, 1)] : List (Nat × Instr × Nat)), decode cX10_wipe q.1 = .ok q.2 := by decide +kernel
set_option maxHeartbeats 4000000 in
set_option maxRecDepth 20000 in
theorem s10_wipe {Y : m_Y Int} (S : m_Std Y RX10 cX10_wipe) (E : m_End Y cX10_wipe .ireturn (fun r => [m_i r])) {F : Nat} (hF : m_Rm Y F) (hFn : 3 ≤ F) (hN : Y.2.2.2.1 = 1) (v0 : Int) (h : m_H) : m_Sim Y 0 [(0, m_r v0)] [] h (t10_wipe v0 h) := by
  unfold t10_wipe
  refine ms_aload_n (pc := 0) S 0 rfl rfl (m_dec e10_wipe 0 rfl) ?_
  refine ms_grd fun g1 => ?_
  refine ms_getf (pc := 1) S lf_X10_67 rfl (m_dec e10_wipe 1 rfl) g1 ?_
  refine ms_grd fun g2 => ?_
  refine ms_callVv (pc := 4) S hF (vals := []) (st := []) (hc := vw_1) (hci := by decide) (hcy := rfl) (ht := g2) (hC := (k1_forget _ _ (m_g h v0 9) h)) (hM := lm_X10_247) (hfr := (Nat.le_trans (by decide) hFn)) (hstk := rfl) (hcat := Nat.le_of_ble_eq_true rfl) (hd := (m_dec e10_wipe 2 rfl)) (k1 := fun h3 => ?_)
  refine ms_aload_n (pc := 7) S 0 rfl rfl (m_dec e10_wipe 3 rfl) ?_
  refine ms_grd fun g5 => ?_
  refine ms_getf (pc := 8) S lf_X10_59 rfl (m_dec e10_wipe 4 rfl) g5 ?_
  refine ms_callSi (pc := 11) S hF (vals := [m_r (m_g h3 v0 8)]) (st := [])  (hC := (k10_emptied _ _ (m_g h3 v0 8) h3)) (hM := lm_X10_82) (hfr := (Nat.le_trans (by decide) hFn)) (hstk := rfl) (hcat := Nat.le_of_ble_eq_true rfl) (hd := (m_dec e10_wipe 5 rfl)) (k1 := fun r7 h6 => ?_)
  exact ms_ret (pc := 14) E (m_dec e10_wipe 6 rfl) rfl
theorem k10_wipe (l : Launch) (d : m_D) (v0 : Int) (h : m_H) : m_Con l d yX10_wipe cX10_wipe 1 (some .int) 3 (fun r => [m_i r]) [m_r v0] h (t10_wipe v0 h) :=
  m_con2 (by decide +kernel) (Nat.le_of_ble_eq_true rfl) (fun Y hN hRm hr hI S hfin => s10_wipe S (m_end_i S hr hfin) hRm (Nat.le_refl _) hN v0 h)
set_option maxRecDepth 100000 in
theorem e10_near : ∀ q ∈ ([(0, .aload_n 0, 1), (1, .getfield 67, 3), (4, .iload_n 1, 1), (5, .iload_n 2, 1), (6, .iload_n 3, 1), (7, .invokevirtual 250, 3), (10, .ifCond .eq 15, 3), (13, .aload_n 0, 1), (14, .getfield 67, 3), (17, .iload 4, 2), (19, .invokevirtual 254, 3), (22, .goto 4, 3), (25, .iconst (-1), 1), (26, .ireturn, 1)] : List (Nat × Instr × Nat)), decode cX10_near q.1 = .ok q.2 := by decide +kernel
set_option maxHeartbeats 4000000 in
set_option maxRecDepth 20000 in
theorem s10_near {Y : m_Y Int} (S : m_Std Y RX10 cX10_near) (E : m_End Y cX10_near .ireturn (fun r => [m_i r])) {F : Nat} (hF : m_Rm Y F) (hFn : 6 ≤ F) (hN : Y.2.2.2.1 = 5) (v0 v1 v2 v3 v4 : Int) (h : m_H) : m_Sim Y 0 [(0, m_r v0), (1, m_i v1), (2, m_i v2), (3, m_i v3), (4, m_i v4)] [] h (t10_near v0 v1 v2 v3 v4 h) := by
  unfold t10_near
  refine ms_aload_n (pc := 0) S 0 rfl rfl (m_dec e10_near 0 rfl) ?_
  refine ms_grd fun g1 => ?_
  refine ms_getf (pc := 1) S lf_X10_67 rfl (m_dec e10_near 1 rfl) g1 ?_
  refine ms_iload_n (pc := 4) S 1 rfl rfl (m_dec e10_near 2 rfl) ?_
  refine ms_iload_n (pc := 5) S 2 rfl rfl (m_dec e10_near 3 rfl) ?_
  refine ms_iload_n (pc := 6) S 3 rfl rfl (m_dec e10_near 4 rfl) ?_
  refine ms_grd fun g2 => ?_
  refine ms_callVz (pc := 7) S hF (vals := [m_i v1, m_i v2, m_i v3]) (st := []) (hc := vw_1) (hci := by decide) (hcy := rfl) (ht := g2) (hC := (k1_search _ _ (m_g h v0 9) v1 v2 v3 h)) (hM := lm_X10_250) (hfr := (Nat.le_trans (by decide) hFn)) (hstk := rfl) (hcat := Nat.le_of_ble_eq_true rfl) (hd := (m_dec e10_near 5 rfl)) (k1 := fun r4 h3 => ?_)
  refine ms_ifb_eq (pc := 10) S (m_dec e10_near 6 rfl) rfl (fun q5 => ?_) (fun q5 => ?_)
  · refine ms_aload_n (pc := 13) S 0 rfl rfl (m_dec e10_near 7 rfl) ?_
    refine ms_grd fun g6 => ?_
    refine ms_getf (pc := 14) S lf_X10_67 rfl (m_dec e10_near 8 rfl) g6 ?_
    refine ms_iload (pc := 17) S 4 rfl (m_dec e10_near 9 rfl) ?_
    refine ms_grd fun g7 => ?_
    refine ms_callVi (pc := 19) S hF (vals := [m_i v4]) (st := []) (hc := vw_1) (hci := by decide) (hcy := rfl) (ht := g7) (hC := (k1_best _ _ (m_g h3 v0 9) v4 h3)) (hM := lm_X10_254) (hfr := (Nat.le_trans (by decide) hFn)) (hstk := rfl) (hcat := Nat.le_of_ble_eq_true rfl) (hd := (m_dec e10_near 10 rfl)) (k1 := fun r9 h8 => ?_)
    refine ms_goto (pc := 22) S (m_dec e10_near 11 rfl) rfl ?_
    exact ms_ret (pc := 26) E (m_dec e10_near 13 rfl) rfl
  · refine ms_iconst (pc := 25) S (m_dec e10_near 12 rfl) ?_
    exact ms_ret (pc := 26) E (m_dec e10_near 13 rfl) rfl
theorem k10_near (l : Launch) (d : m_D) (v0 v1 v2 v3 v4 : Int) (h : m_H) : m_Con l d yX10_near cX10_near 5 (some .int) 6 (fun r => [m_i r]) [m_r v0, m_i v1, m_i v2, m_i v3, m_i v4] h (t10_near v0 v1 v2 v3 v4 h) :=
  m_con2 (by decide +kernel) (Nat.le_of_ble_eq_true rfl) (fun Y hN hRm hr hI S hfin => s10_near S (m_end_i S hr hfin) hRm (Nat.le_refl _) hN v0 v1 v2 v3 v4 h)
set_option maxRecDepth 100000 in
theorem e10_rivals : ∀ q ∈ ([(0, .aload_n 0, 1), (1, .getfield 67, 3), (4, .iload_n 1, 1), (5, .iload_n 2, 1), (6, .iload_n 3, 1), (7, .invokevirtual 250, 3), (10, .ifCond .eq 15, 3), (13, .aload_n 0, 1), (14, .getfield 67, 3), (17, .getfield 257, 3), (20, .iconst 1, 1), (21, .isub, 1), (22, .goto 4, 3), (25, .iconst (-1), 1), (26, .ireturn, 1)] : List (Nat × Instr × Nat)), decode cX10_rivals q.1 = .ok q.2 := by decide +kernel
set_option maxHeartbeats 4000000 in
set_option maxRecDepth 20000 in
theorem s10_rivals {Y : m_Y Int} (S : m_Std Y RX10 cX10_rivals) (E : m_End Y cX10_rivals .ireturn (fun r => [m_i r])) {F : Nat} (hF : m_Rm Y F) (hFn : 6 ≤ F) (hN : Y.2.2.2.1 = 4) (v0 v1 v2 v3 : Int) (h : m_H) : m_Sim Y 0 [(0, m_r v0), (1, m_i v1), (2, m_i v2), (3, m_i v3)] [] h (t10_rivals v0 v1 v2 v3 h) := by
  unfold t10_rivals
  refine ms_aload_n (pc := 0) S 0 rfl rfl (m_dec e10_rivals 0 rfl) ?_
  refine ms_grd fun g1 => ?_
  refine ms_getf (pc := 1) S lf_X10_67 rfl (m_dec e10_rivals 1 rfl) g1 ?_
  refine ms_iload_n (pc := 4) S 1 rfl rfl (m_dec e10_rivals 2 rfl) ?_
  refine ms_iload_n (pc := 5) S 2 rfl rfl (m_dec e10_rivals 3 rfl) ?_
  refine ms_iload_n (pc := 6) S 3 rfl rfl (m_dec e10_rivals 4 rfl) ?_
  refine ms_grd fun g2 => ?_
  refine ms_callVz (pc := 7) S hF (vals := [m_i v1, m_i v2, m_i v3]) (st := []) (hc := vw_1) (hci := by decide) (hcy := rfl) (ht := g2) (hC := (k1_search _ _ (m_g h v0 9) v1 v2 v3 h)) (hM := lm_X10_250) (hfr := (Nat.le_trans (by decide) hFn)) (hstk := rfl) (hcat := Nat.le_of_ble_eq_true rfl) (hd := (m_dec e10_rivals 5 rfl)) (k1 := fun r4 h3 => ?_)
  refine ms_ifb_eq (pc := 10) S (m_dec e10_rivals 6 rfl) rfl (fun q5 => ?_) (fun q5 => ?_)
  · refine ms_aload_n (pc := 13) S 0 rfl rfl (m_dec e10_rivals 7 rfl) ?_
    refine ms_grd fun g6 => ?_
    refine ms_getf (pc := 14) S lf_X10_67 rfl (m_dec e10_rivals 8 rfl) g6 ?_
    refine ms_grd fun g7 => ?_
    refine ms_getf (pc := 17) S lf_X10_257 rfl (m_dec e10_rivals 9 rfl) g7 ?_
    refine ms_iconst (pc := 20) S (m_dec e10_rivals 10 rfl) ?_
    refine ms_isub (pc := 21) S (m_dec e10_rivals 11 rfl) ?_
    refine ms_goto (pc := 22) S (m_dec e10_rivals 12 rfl) rfl ?_
    exact ms_ret (pc := 26) E (m_dec e10_rivals 14 rfl) rfl
  · refine ms_iconst (pc := 25) S (m_dec e10_rivals 13 rfl) ?_
    exact ms_ret (pc := 26) E (m_dec e10_rivals 14 rfl) rfl
theorem k10_rivals (l : Launch) (d : m_D) (v0 v1 v2 v3 : Int) (h : m_H) : m_Con l d yX10_rivals cX10_rivals 4 (some .int) 6 (fun r => [m_i r]) [m_r v0, m_i v1, m_i v2, m_i v3] h (t10_rivals v0 v1 v2 v3 h) :=
  m_con2 (by decide +kernel) (Nat.le_of_ble_eq_true rfl) (fun Y hN hRm hr hI S hfin => s10_rivals S (m_end_i S hr hfin) hRm (Nat.le_refl _) hN v0 v1 v2 v3 h)
set_option maxRecDepth 100000 in
theorem e10_remade : ∀ q ∈ ([(0, .aload_n 0, 1), (1, .getfield 67, 3), (4, .iload_n 1, 1), (5, .iload_n 2, 1), (6, .invokevirtual 260, 3), (9, .ifCond .eq 13, 3), (12, .aload_n 0, 1), (13, .getfield 67, 3), (16, .invokevirtual 263, 3), (19, .goto 4, 3), (22, .iconst (-1), 1), (23, .ireturn, 1)] : List (Nat × Instr × Nat)), decode cX10_remade q.1 = .ok q.2 := by decide +kernel
set_option maxHeartbeats 4000000 in
set_option maxRecDepth 20000 in
theorem s10_remade {Y : m_Y Int} (S : m_Std Y RX10 cX10_remade) (E : m_End Y cX10_remade .ireturn (fun r => [m_i r])) {F : Nat} (hF : m_Rm Y F) (hFn : 7 ≤ F) (hN : Y.2.2.2.1 = 3) (v0 v1 v2 : Int) (h : m_H) : m_Sim Y 0 [(0, m_r v0), (1, m_i v1), (2, m_i v2)] [] h (t10_remade v0 v1 v2 h) := by
  unfold t10_remade
  refine ms_aload_n (pc := 0) S 0 rfl rfl (m_dec e10_remade 0 rfl) ?_
  refine ms_grd fun g1 => ?_
  refine ms_getf (pc := 1) S lf_X10_67 rfl (m_dec e10_remade 1 rfl) g1 ?_
  refine ms_iload_n (pc := 4) S 1 rfl rfl (m_dec e10_remade 2 rfl) ?_
  refine ms_iload_n (pc := 5) S 2 rfl rfl (m_dec e10_remade 3 rfl) ?_
  refine ms_grd fun g2 => ?_
  refine ms_callVz (pc := 6) S hF (vals := [m_i v1, m_i v2]) (st := []) (hc := vw_1) (hci := by decide) (hcy := rfl) (ht := g2) (hC := (k1_coveredBy _ _ (m_g h v0 9) v1 v2 h)) (hM := lm_X10_260) (hfr := (Nat.le_trans (by decide) hFn)) (hstk := rfl) (hcat := Nat.le_of_ble_eq_true rfl) (hd := (m_dec e10_remade 4 rfl)) (k1 := fun r4 h3 => ?_)
  refine ms_ifb_eq (pc := 9) S (m_dec e10_remade 5 rfl) rfl (fun q5 => ?_) (fun q5 => ?_)
  · refine ms_aload_n (pc := 12) S 0 rfl rfl (m_dec e10_remade 6 rfl) ?_
    refine ms_grd fun g6 => ?_
    refine ms_getf (pc := 13) S lf_X10_67 rfl (m_dec e10_remade 7 rfl) g6 ?_
    refine ms_grd fun g7 => ?_
    refine ms_callVi (pc := 16) S hF (vals := []) (st := []) (hc := vw_1) (hci := by decide) (hcy := rfl) (ht := g7) (hC := (k1_stretches _ _ (m_g h3 v0 9) h3)) (hM := lm_X10_263) (hfr := (Nat.le_trans (by decide) hFn)) (hstk := rfl) (hcat := Nat.le_of_ble_eq_true rfl) (hd := (m_dec e10_remade 8 rfl)) (k1 := fun r9 h8 => ?_)
    refine ms_goto (pc := 19) S (m_dec e10_remade 9 rfl) rfl ?_
    exact ms_ret (pc := 23) E (m_dec e10_remade 11 rfl) rfl
  · refine ms_iconst (pc := 22) S (m_dec e10_remade 10 rfl) ?_
    exact ms_ret (pc := 23) E (m_dec e10_remade 11 rfl) rfl
theorem k10_remade (l : Launch) (d : m_D) (v0 v1 v2 : Int) (h : m_H) : m_Con l d yX10_remade cX10_remade 3 (some .int) 7 (fun r => [m_i r]) [m_r v0, m_i v1, m_i v2] h (t10_remade v0 v1 v2 h) :=
  m_con2 (by decide +kernel) (Nat.le_of_ble_eq_true rfl) (fun Y hN hRm hr hI S hfin => s10_remade S (m_end_i S hr hfin) hRm (Nat.le_refl _) hN v0 v1 v2 h)
set_option maxRecDepth 100000 in
theorem e10_stretch : ∀ q ∈ ([(0, .aload_n 0, 1), (1, .getfield 67, 3), (4, .iload_n 1, 1), (5, .iload_n 2, 1), (6, .invokevirtual 260, 3), (9, .ifCond .eq 15, 3), (12, .aload_n 0, 1), (13, .getfield 67, 3), (16, .iload_n 1, 1), (17, .iload_n 3, 1), (18, .invokevirtual 266, 3), (21, .goto 4, 3), (24, .iconst (-1), 1), (25, .ireturn, 1)] : List (Nat × Instr × Nat)), decode cX10_stretch q.1 = .ok q.2 := by decide +kernel
set_option maxHeartbeats 4000000 in
set_option maxRecDepth 20000 in
theorem s10_stretch {Y : m_Y Int} (S : m_Std Y RX10 cX10_stretch) (E : m_End Y cX10_stretch .ireturn (fun r => [m_i r])) {F : Nat} (hF : m_Rm Y F) (hFn : 7 ≤ F) (hN : Y.2.2.2.1 = 4) (v0 v1 v2 v3 : Int) (h : m_H) : m_Sim Y 0 [(0, m_r v0), (1, m_i v1), (2, m_i v2), (3, m_i v3)] [] h (t10_stretch v0 v1 v2 v3 h) := by
  unfold t10_stretch
  refine ms_aload_n (pc := 0) S 0 rfl rfl (m_dec e10_stretch 0 rfl) ?_
  refine ms_grd fun g1 => ?_
  refine ms_getf (pc := 1) S lf_X10_67 rfl (m_dec e10_stretch 1 rfl) g1 ?_
  refine ms_iload_n (pc := 4) S 1 rfl rfl (m_dec e10_stretch 2 rfl) ?_
  refine ms_iload_n (pc := 5) S 2 rfl rfl (m_dec e10_stretch 3 rfl) ?_
  refine ms_grd fun g2 => ?_
  refine ms_callVz (pc := 6) S hF (vals := [m_i v1, m_i v2]) (st := []) (hc := vw_1) (hci := by decide) (hcy := rfl) (ht := g2) (hC := (k1_coveredBy _ _ (m_g h v0 9) v1 v2 h)) (hM := lm_X10_260) (hfr := (Nat.le_trans (by decide) hFn)) (hstk := rfl) (hcat := Nat.le_of_ble_eq_true rfl) (hd := (m_dec e10_stretch 4 rfl)) (k1 := fun r4 h3 => ?_)
  refine ms_ifb_eq (pc := 9) S (m_dec e10_stretch 5 rfl) rfl (fun q5 => ?_) (fun q5 => ?_)
  · refine ms_aload_n (pc := 12) S 0 rfl rfl (m_dec e10_stretch 6 rfl) ?_
    refine ms_grd fun g6 => ?_
    refine ms_getf (pc := 13) S lf_X10_67 rfl (m_dec e10_stretch 7 rfl) g6 ?_
    refine ms_iload_n (pc := 16) S 1 rfl rfl (m_dec e10_stretch 8 rfl) ?_
    refine ms_iload_n (pc := 17) S 3 rfl rfl (m_dec e10_stretch 9 rfl) ?_
    refine ms_grd fun g7 => ?_
    refine ms_callVi (pc := 18) S hF (vals := [m_i v1, m_i v3]) (st := []) (hc := vw_1) (hci := by decide) (hcy := rfl) (ht := g7) (hC := (k1_stretchBegin _ _ (m_g h3 v0 9) v1 v3 h3)) (hM := lm_X10_266) (hfr := (Nat.le_trans (by decide) hFn)) (hstk := rfl) (hcat := Nat.le_of_ble_eq_true rfl) (hd := (m_dec e10_stretch 10 rfl)) (k1 := fun r9 h8 => ?_)
    refine ms_goto (pc := 21) S (m_dec e10_stretch 11 rfl) rfl ?_
    exact ms_ret (pc := 25) E (m_dec e10_stretch 13 rfl) rfl
  · refine ms_iconst (pc := 24) S (m_dec e10_stretch 12 rfl) ?_
    exact ms_ret (pc := 25) E (m_dec e10_stretch 13 rfl) rfl
theorem k10_stretch (l : Launch) (d : m_D) (v0 v1 v2 v3 : Int) (h : m_H) : m_Con l d yX10_stretch cX10_stretch 4 (some .int) 7 (fun r => [m_i r]) [m_r v0, m_i v1, m_i v2, m_i v3] h (t10_stretch v0 v1 v2 v3 h) :=
  m_con2 (by decide +kernel) (Nat.le_of_ble_eq_true rfl) (fun Y hN hRm hr hI S hfin => s10_stretch S (m_end_i S hr hfin) hRm (Nat.le_refl _) hN v0 v1 v2 v3 h)
set_option maxRecDepth 100000 in
theorem e10_unfound : ∀ q ∈ ([(0, .aload_n 0, 1), (1, .getfield 67, 3), (4, .iload_n 1, 1), (5, .iload_n 2, 1), (6, .invokevirtual 269, 3), (9, .ireturn, 1)] : List (Nat × Instr × Nat)), decode cX10_unfound q.1 = .ok q.2 := by decide +kernel
set_option maxHeartbeats 4000000 in
set_option maxRecDepth 20000 in
theorem s10_unfound {Y : m_Y Int} (S : m_Std Y RX10 cX10_unfound) (E : m_End Y cX10_unfound .ireturn (fun r => [m_i r])) {F : Nat} (hF : m_Rm Y F) (hFn : 7 ≤ F) (hN : Y.2.2.2.1 = 3) (v0 v1 v2 : Int) (h : m_H) : m_Sim Y 0 [(0, m_r v0), (1, m_i v1), (2, m_i v2)] [] h (t10_unfound v0 v1 v2 h) := by
  unfold t10_unfound
  refine ms_aload_n (pc := 0) S 0 rfl rfl (m_dec e10_unfound 0 rfl) ?_
  refine ms_grd fun g1 => ?_
  refine ms_getf (pc := 1) S lf_X10_67 rfl (m_dec e10_unfound 1 rfl) g1 ?_
  refine ms_iload_n (pc := 4) S 1 rfl rfl (m_dec e10_unfound 2 rfl) ?_
  refine ms_iload_n (pc := 5) S 2 rfl rfl (m_dec e10_unfound 3 rfl) ?_
  refine ms_grd fun g2 => ?_
  refine ms_callVi (pc := 6) S hF (vals := [m_i v1, m_i v2]) (st := []) (hc := vw_1) (hci := by decide) (hcy := rfl) (ht := g2) (hC := (k1_firstUnfound _ _ (m_g h v0 9) v1 v2 h)) (hM := lm_X10_269) (hfr := (Nat.le_trans (by decide) hFn)) (hstk := rfl) (hcat := Nat.le_of_ble_eq_true rfl) (hd := (m_dec e10_unfound 4 rfl)) (k1 := fun r4 h3 => ?_)
  exact ms_ret (pc := 9) E (m_dec e10_unfound 5 rfl) rfl
theorem k10_unfound (l : Launch) (d : m_D) (v0 v1 v2 : Int) (h : m_H) : m_Con l d yX10_unfound cX10_unfound 3 (some .int) 7 (fun r => [m_i r]) [m_r v0, m_i v1, m_i v2] h (t10_unfound v0 v1 v2 h) :=
  m_con2 (by decide +kernel) (Nat.le_of_ble_eq_true rfl) (fun Y hN hRm hr hI S hfin => s10_unfound S (m_end_i S hr hfin) hRm (Nat.le_refl _) hN v0 v1 v2 h)
