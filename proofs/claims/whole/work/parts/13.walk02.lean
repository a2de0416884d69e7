/-! the walks of the methods, 2 -/
set_option maxRecDepth 100000 in
theorem e2_layAll : ∀ q ∈ ([(0, .aload_n 0, 1), (1, .aload_n 1, 1), (2, .putfield 23, 3), (5, .aload_n 0, 1), (6, .iload_n 2, 1), (7, .putfield 27, 3), (10, .iconst 0, 1), (11, .istore 4, 2), (13, .iconst 0, 1), (14, .istore 5, 2), (16, .iload 5, 2), (18, .aload_n 0, 1), (19, .getfield 23, 3), (22, .getfield 42, 3), (25, .if_icmp .ge 110, 3), (28, .aload_n 0, 1), (29, .getfield 35, 3), (32, .iload 5, 2), (34, .aload_n 3, 1), (35, .getfield 45, 3), (38, .iload 5, 2), (40, .iconst (-1), 1), (41, .invokestatic 48, 3), (44, .invokestatic 52, 3), (47, .aload_n 0, 1), (48, .getfield 31, 3), (51, .iload 5, 2), (53, .aload_n 3, 1), (54, .aload_n 0, 1), (55, .getfield 23, 3), (58, .iload 5, 2), (60, .invokevirtual 56, 3), (63, .ifCond .eq 15, 3), (66, .aload_n 0, 1), (67, .getfield 23, 3), (70, .iload 5, 2), (72, .invokevirtual 60, 3), (75, .goto 5, 3), (78, .iload 5, 2), (80, .invokevirtual 64, 3), (83, .invokevirtual 68, 3), (86, .invokestatic 52, 3), (89, .aload_n 0, 1), (90, .getfield 23, 3), (93, .iload 5, 2), (95, .invokevirtual 56, 3), (98, .ifCond .eq 31, 3), (101, .iload 4, 2), (103, .aload_n 0, 1), (104, .iload 5, 2), (106, .aload_n 0, 1), (107, .iload 5, 2), (109, .invokevirtual 72, 3), (112, .iconst 1, 1), (113, .isub, 1), (114, .invokevirtual 75, 3), (117, .aload_n 0, 1), (118, .iload 5, 2), (120, .invokevirtual 79, 3), (123, .iadd, 1), (124, .invokestatic 82, 3), (127, .istore 4, 2), (129, .iinc 5 1, 3), (132, .goto (-116), 3), (135, .aload_n 0, 1), (136, .getfield 12, 3), (139, .iload 4, 2), (141, .invokevirtual 87, 3), (144, .iconst 0, 1), (145, .istore 5, 2), (147, .iload 5, 2), (149, .aload_n 0, 1), (150, .getfield 23, 3), (153, .getfield 42, 3), (156, .if_icmp .ge 28, 3), (159, .aload_n 0, 1), (160, .iload 5, 2), (162, .aload_n 3, 1), (163, .aload_n 0, 1), (164, .getfield 23, 3), (167, .iload 5, 2), (169, .invokevirtual 60, 3), (172, .invokevirtual 64, 3), (175, .invokevirtual 91, 3), (178, .iinc 5 1, 3), (181, .goto (-34), 3), (184, .aload_n 0, 1), (185, .getfield 12, 3), (188, .invokevirtual 95, 3), (191, .return_, 1)] : List (Nat × Instr × Nat)), decode cX2_layAll q.1 = .ok q.2 := by decide +kernel
set_option maxHeartbeats 4000000 in
set_option maxRecDepth 20000 in
theorem s2_layAll_c147 {Y : m_Y Unit} (S : m_Std Y RX2 cX2_layAll) (E : m_End Y cX2_layAll .return_ (fun _ => [])) {F : Nat} (hF : m_Rm Y F) (hFn : 4 ≤ F) (hN : Y.2.2.2.1 = 6) : ∀ (v0 v3 v5 : Int) (h : m_H), m_Sim Y 147 [(0, m_r v0), (3, m_r v3), (5, m_i v5)] [] h (t2_layAll_c147 v0 v3 v5 h) := by
  intro v0 v3 v5 h
  refine ms_all fun r e => ?_
  refine t2_layAll_c147.partial_correctness v0 v3 (motive := fun v5 h r => m_Sim Y 147 [(0, m_r v0), (3, m_r v3), (5, m_i v5)] [] h (some r)) ?_ v5 h r e
  intro f ih v5 h r e
  have ih : ∀ (v5 : Int) (h : m_H), m_Sim Y 147 [(0, m_r v0), (3, m_r v3), (5, m_i v5)] [] h (f v5 h ) := fun v5 h  => ms_all fun r e => ih v5 h r e
  refine ms_use ?_ e
  clear e r
  refine ms_iload (pc := 147) S 2 rfl (m_dec e2_layAll 70 rfl) ?_
  refine ms_aload_n (pc := 149) S 0 rfl rfl (m_dec e2_layAll 71 rfl) ?_
  refine ms_grd fun g1 => ?_
  refine ms_getf (pc := 150) S lf_X2_23 rfl (m_dec e2_layAll 72 rfl) g1 ?_
  refine ms_grd fun g2 => ?_
  refine ms_getf (pc := 153) S lf_X2_42 rfl (m_dec e2_layAll 73 rfl) g2 ?_
  refine ms_icmp_ge (pc := 156) S (m_dec e2_layAll 74 rfl) rfl (fun q3 => ?_) (fun q3 => ?_)
  · refine ms_aload_n (pc := 159) S 0 rfl rfl (m_dec e2_layAll 75 rfl) ?_
    refine ms_iload (pc := 160) S 2 rfl (m_dec e2_layAll 76 rfl) ?_
    refine ms_aload_n (pc := 162) S 1 rfl rfl (m_dec e2_layAll 77 rfl) ?_
    refine ms_aload_n (pc := 163) S 0 rfl rfl (m_dec e2_layAll 78 rfl) ?_
    refine ms_getf (pc := 164) S lf_X2_23 rfl (m_dec e2_layAll 79 rfl) g1 ?_
    refine ms_iload (pc := 167) S 2 rfl (m_dec e2_layAll 80 rfl) ?_
    refine ms_callVi (pc := 169) S hF (vals := [m_i v5]) (st := [m_r v3, m_i v5, m_r v0]) (hc := vw_6) (hci := by decide) (hcy := rfl) (ht := g2) (hC := (k6_one _ _ (m_g h v0 2) v5 h)) (hM := lm_X2_60) (hfr := (Nat.le_trans (by decide) hFn)) (hstk := rfl) (hcat := Nat.le_of_ble_eq_true rfl) (hd := (m_dec e2_layAll 81 rfl)) (k1 := fun r5 h4 => ?_)
    refine ms_grd fun g6 => ?_
    refine ms_callVa (pc := 172) S hF (vals := [m_i r5]) (st := [m_i v5, m_r v0]) (hc := vw_3) (hci := by decide) (hcy := rfl) (ht := g6) (hC := (k3_row _ _ v3 r5 h4)) (hM := lm_X2_64) (hfr := (Nat.le_trans (by decide) hFn)) (hstk := rfl) (hcat := Nat.le_of_ble_eq_true rfl) (hd := (m_dec e2_layAll 82 rfl)) (k1 := fun r8 h7 => ?_)
    refine ms_grd fun g9 => ?_
    refine ms_callVv (pc := 175) S hF (vals := [m_i v5, m_r r8]) (st := []) (hc := vw_2) (hci := by decide) (hcy := rfl) (ht := g9) (hC := (k2_layPut _ _ v0 v5 r8 h7)) (hM := lm_X2_91) (hfr := (Nat.le_trans (by decide) hFn)) (hstk := rfl) (hcat := Nat.le_of_ble_eq_true rfl) (hd := (m_dec e2_layAll 83 rfl)) (k1 := fun h10 => ?_)
    refine ms_iinc (pc := 178) S (L' := [(0, m_r v0), (3, m_r v3), (5, m_i (v5 + 1))]) 2 rfl [1, 2, 0] rfl (m_lt hN rfl) (m_dec e2_layAll 84 rfl) ?_
    refine ms_goto (pc := 181) S (m_dec e2_layAll 85 rfl) rfl ?_
    exact ih (v5 + 1) h10
  · refine ms_aload_n (pc := 184) S 0 rfl rfl (m_dec e2_layAll 86 rfl) ?_
    refine ms_getf (pc := 185) S lf_X2_12 rfl (m_dec e2_layAll 87 rfl) g1 ?_
    refine ms_grd fun g12 => ?_
    refine ms_callVv (pc := 188) S hF (vals := []) (st := []) (hc := vw_5) (hci := by decide) (hcy := rfl) (ht := g12) (hC := (k5_limit _ _ (m_g h v0 1) h)) (hM := lm_X2_95) (hfr := (Nat.le_trans (by decide) hFn)) (hstk := rfl) (hcat := Nat.le_of_ble_eq_true rfl) (hd := (m_dec e2_layAll 88 rfl)) (k1 := fun h13 => ?_)
    exact ms_ret (pc := 191) E (m_dec e2_layAll 89 rfl) rfl
set_option maxHeartbeats 4000000 in
set_option maxRecDepth 20000 in
theorem s2_layAll_c16 {Y : m_Y Unit} (S : m_Std Y RX2 cX2_layAll) (E : m_End Y cX2_layAll .return_ (fun _ => [])) {F : Nat} (hF : m_Rm Y F) (hFn : 4 ≤ F) (hN : Y.2.2.2.1 = 6) : ∀ (v0 v3 v4 v5 : Int) (h : m_H), m_Sim Y 16 [(0, m_r v0), (3, m_r v3), (4, m_i v4), (5, m_i v5)] [] h (t2_layAll_c16 v0 v3 v4 v5 h) := by
  intro v0 v3 v4 v5 h
  refine ms_all fun r e => ?_
  refine t2_layAll_c16.partial_correctness v0 v3 (motive := fun v4 v5 h r => m_Sim Y 16 [(0, m_r v0), (3, m_r v3), (4, m_i v4), (5, m_i v5)] [] h (some r)) ?_ v4 v5 h r e
  intro f ih v4 v5 h r e
  have ih : ∀ (v4 v5 : Int) (h : m_H), m_Sim Y 16 [(0, m_r v0), (3, m_r v3), (4, m_i v4), (5, m_i v5)] [] h (f v4 v5 h ) := fun v4 v5 h  => ms_all fun r e => ih v4 v5 h r e
  refine ms_use ?_ e
  clear e r
  refine ms_iload (pc := 16) S 3 rfl (m_dec e2_layAll 10 rfl) ?_
  refine ms_aload_n (pc := 18) S 0 rfl rfl (m_dec e2_layAll 11 rfl) ?_
  refine ms_grd fun g1 => ?_
  refine ms_getf (pc := 19) S lf_X2_23 rfl (m_dec e2_layAll 12 rfl) g1 ?_
  refine ms_grd fun g2 => ?_
  refine ms_getf (pc := 22) S lf_X2_42 rfl (m_dec e2_layAll 13 rfl) g2 ?_
  refine ms_icmp_ge (pc := 25) S (m_dec e2_layAll 14 rfl) rfl (fun q3 => ?_) (fun q3 => ?_)
  · refine ms_aload_n (pc := 28) S 0 rfl rfl (m_dec e2_layAll 15 rfl) ?_
    refine ms_getf (pc := 29) S lf_X2_35 rfl (m_dec e2_layAll 16 rfl) g1 ?_
    refine ms_iload (pc := 32) S 3 rfl (m_dec e2_layAll 17 rfl) ?_
    refine ms_aload_n (pc := 34) S 1 rfl rfl (m_dec e2_layAll 18 rfl) ?_
    refine ms_grd fun g4 => ?_
    refine ms_getf (pc := 35) S lf_X2_45 rfl (m_dec e2_layAll 19 rfl) g4 ?_
    refine ms_iload (pc := 38) S 3 rfl (m_dec e2_layAll 20 rfl) ?_
    refine ms_iconst (pc := 40) S (m_dec e2_layAll 21 rfl) ?_
    refine ms_callSi (pc := 41) S hF (vals := [m_r (m_g h v3 3), m_i v5, m_i (-1)]) (st := [m_i v5, m_r (m_g h v0 5)])  (hC := (k10_entry _ _ (m_g h v3 3) v5 (-1) h)) (hM := lm_X2_48) (hfr := (Nat.le_trans (by decide) hFn)) (hstk := rfl) (hcat := Nat.le_of_ble_eq_true rfl) (hd := (m_dec e2_layAll 22 rfl)) (k1 := fun r6 h5 => ?_)
    refine ms_callSv (pc := 44) S hF (vals := [m_r (m_g h v0 5), m_i v5, m_i r6]) (st := [])  (hC := (k10_setEntry _ _ (m_g h v0 5) v5 r6 h5)) (hM := lm_X2_52) (hfr := (Nat.le_trans (by decide) hFn)) (hstk := rfl) (hcat := Nat.le_of_ble_eq_true rfl) (hd := (m_dec e2_layAll 23 rfl)) (k1 := fun h7 => ?_)
    refine ms_aload_n (pc := 47) S 0 rfl rfl (m_dec e2_layAll 24 rfl) ?_
    refine ms_grd fun g9 => ?_
    refine ms_getf (pc := 48) S lf_X2_31 rfl (m_dec e2_layAll 25 rfl) g9 ?_
    refine ms_iload (pc := 51) S 3 rfl (m_dec e2_layAll 26 rfl) ?_
    refine ms_aload_n (pc := 53) S 1 rfl rfl (m_dec e2_layAll 27 rfl) ?_
    refine ms_aload_n (pc := 54) S 0 rfl rfl (m_dec e2_layAll 28 rfl) ?_
    refine ms_getf (pc := 55) S lf_X2_23 rfl (m_dec e2_layAll 29 rfl) g9 ?_
    refine ms_iload (pc := 58) S 3 rfl (m_dec e2_layAll 30 rfl) ?_
    refine ms_grd fun g10 => ?_
    refine ms_callVz (pc := 60) S hF (vals := [m_i v5]) (st := [m_r v3, m_i v5, m_r (m_g h7 v0 4)]) (hc := vw_6) (hci := by decide) (hcy := rfl) (ht := g10) (hC := (k6_isPut _ _ (m_g h7 v0 2) v5 h7)) (hM := lm_X2_56) (hfr := (Nat.le_trans (by decide) hFn)) (hstk := rfl) (hcat := Nat.le_of_ble_eq_true rfl) (hd := (m_dec e2_layAll 31 rfl)) (k1 := fun r12 h11 => ?_)
    refine ms_ifb_eq (pc := 63) S (m_dec e2_layAll 32 rfl) rfl (fun q13 => ?_) (fun q13 => ?_)
    · refine ms_aload_n (pc := 66) S 0 rfl rfl (m_dec e2_layAll 33 rfl) ?_
      refine ms_grd fun g14 => ?_
      refine ms_getf (pc := 67) S lf_X2_23 rfl (m_dec e2_layAll 34 rfl) g14 ?_
      refine ms_iload (pc := 70) S 3 rfl (m_dec e2_layAll 35 rfl) ?_
      refine ms_grd fun g15 => ?_
      refine ms_callVi (pc := 72) S hF (vals := [m_i v5]) (st := [m_r v3, m_i v5, m_r (m_g h7 v0 4)]) (hc := vw_6) (hci := by decide) (hcy := rfl) (ht := g15) (hC := (k6_one _ _ (m_g h11 v0 2) v5 h11)) (hM := lm_X2_60) (hfr := (Nat.le_trans (by decide) hFn)) (hstk := rfl) (hcat := Nat.le_of_ble_eq_true rfl) (hd := (m_dec e2_layAll 36 rfl)) (k1 := fun r17 h16 => ?_)
      refine ms_goto (pc := 75) S (m_dec e2_layAll 37 rfl) rfl ?_
      refine ms_grd fun g18 => ?_
      refine ms_callVa (pc := 80) S hF (vals := [m_i r17]) (st := [m_i v5, m_r (m_g h7 v0 4)]) (hc := vw_3) (hci := by decide) (hcy := rfl) (ht := g18) (hC := (k3_row _ _ v3 r17 h16)) (hM := lm_X2_64) (hfr := (Nat.le_trans (by decide) hFn)) (hstk := rfl) (hcat := Nat.le_of_ble_eq_true rfl) (hd := (m_dec e2_layAll 39 rfl)) (k1 := fun r20 h19 => ?_)
      refine ms_grd fun g21 => ?_
      refine ms_callVi (pc := 83) S hF (vals := []) (st := [m_i v5, m_r (m_g h7 v0 4)]) (hc := vw_5) (hci := by decide) (hcy := rfl) (ht := g21) (hC := (k5_size _ _ r20 h19)) (hM := lm_X2_68) (hfr := (Nat.le_trans (by decide) hFn)) (hstk := rfl) (hcat := Nat.le_of_ble_eq_true rfl) (hd := (m_dec e2_layAll 40 rfl)) (k1 := fun r23 h22 => ?_)
      refine ms_callSv (pc := 86) S hF (vals := [m_r (m_g h7 v0 4), m_i v5, m_i r23]) (st := [])  (hC := (k10_setEntry _ _ (m_g h7 v0 4) v5 r23 h22)) (hM := lm_X2_52) (hfr := (Nat.le_trans (by decide) hFn)) (hstk := rfl) (hcat := Nat.le_of_ble_eq_true rfl) (hd := (m_dec e2_layAll 41 rfl)) (k1 := fun h24 => ?_)
      refine ms_aload_n (pc := 89) S 0 rfl rfl (m_dec e2_layAll 42 rfl) ?_
      refine ms_grd fun g26 => ?_
      refine ms_getf (pc := 90) S lf_X2_23 rfl (m_dec e2_layAll 43 rfl) g26 ?_
      refine ms_iload (pc := 93) S 3 rfl (m_dec e2_layAll 44 rfl) ?_
      refine ms_grd fun g27 => ?_
      refine ms_callVz (pc := 95) S hF (vals := [m_i v5]) (st := []) (hc := vw_6) (hci := by decide) (hcy := rfl) (ht := g27) (hC := (k6_isPut _ _ (m_g h24 v0 2) v5 h24)) (hM := lm_X2_56) (hfr := (Nat.le_trans (by decide) hFn)) (hstk := rfl) (hcat := Nat.le_of_ble_eq_true rfl) (hd := (m_dec e2_layAll 45 rfl)) (k1 := fun r29 h28 => ?_)
      refine ms_ifb_eq (pc := 98) S (m_dec e2_layAll 46 rfl) rfl (fun q30 => ?_) (fun q30 => ?_)
      · refine ms_iload (pc := 101) S 2 rfl (m_dec e2_layAll 47 rfl) ?_
        refine ms_aload_n (pc := 103) S 0 rfl rfl (m_dec e2_layAll 48 rfl) ?_
        refine ms_iload (pc := 104) S 3 rfl (m_dec e2_layAll 49 rfl) ?_
        refine ms_aload_n (pc := 106) S 0 rfl rfl (m_dec e2_layAll 50 rfl) ?_
        refine ms_iload (pc := 107) S 3 rfl (m_dec e2_layAll 51 rfl) ?_
        refine ms_grd fun g31 => ?_
        refine ms_callVi (pc := 109) S hF (vals := [m_i v5]) (st := [m_i v5, m_r v0, m_i v4]) (hc := vw_2) (hci := by decide) (hcy := rfl) (ht := g31) (hC := (k2_times _ _ v0 v5 h28)) (hM := lm_X2_72) (hfr := (Nat.le_trans (by decide) hFn)) (hstk := rfl) (hcat := Nat.le_of_ble_eq_true rfl) (hd := (m_dec e2_layAll 52 rfl)) (k1 := fun r33 h32 => ?_)
        refine ms_iconst (pc := 112) S (m_dec e2_layAll 53 rfl) ?_
        refine ms_isub (pc := 113) S (m_dec e2_layAll 54 rfl) ?_
        refine ms_grd fun g34 => ?_
        refine ms_callVi (pc := 114) S hF (vals := [m_i v5, m_i (r33 - 1)]) (st := [m_i v4]) (hc := vw_2) (hci := by decide) (hcy := rfl) (ht := g34) (hC := (k2_beginOf _ _ v0 v5 (r33 - 1) h32)) (hM := lm_X2_75) (hfr := (Nat.le_trans (by decide) hFn)) (hstk := rfl) (hcat := Nat.le_of_ble_eq_true rfl) (hd := (m_dec e2_layAll 55 rfl)) (k1 := fun r36 h35 => ?_)
        refine ms_aload_n (pc := 117) S 0 rfl rfl (m_dec e2_layAll 56 rfl) ?_
        refine ms_iload (pc := 118) S 3 rfl (m_dec e2_layAll 57 rfl) ?_
        refine ms_grd fun g37 => ?_
        refine ms_callVi (pc := 120) S hF (vals := [m_i v5]) (st := [m_i r36, m_i v4]) (hc := vw_2) (hci := by decide) (hcy := rfl) (ht := g37) (hC := (k2_length _ _ v0 v5 h35)) (hM := lm_X2_79) (hfr := (Nat.le_trans (by decide) hFn)) (hstk := rfl) (hcat := Nat.le_of_ble_eq_true rfl) (hd := (m_dec e2_layAll 58 rfl)) (k1 := fun r39 h38 => ?_)
        refine ms_iadd (pc := 123) S (m_dec e2_layAll 59 rfl) ?_
        refine ms_mmax (pc := 124) S hF (Nat.le_trans (by decide) hFn) ⟨w_1161, w_485, w_136, w_486⟩ (Nat.le_of_ble_eq_true rfl) (m_dec e2_layAll 60 rfl) ?_
        refine ms_nm (st := fun x40 => [m_i x40]) fun x40 => ?_
        refine ms_istore (pc := 127) S (L' := [(0, m_r v0), (3, m_r v3), (4, m_i x40), (5, m_i v5)]) [1, 2, 0, 3] rfl (m_lt hN rfl) (m_dec e2_layAll 61 rfl) ?_
        refine ms_iinc (pc := 129) S (L' := [(0, m_r v0), (3, m_r v3), (4, m_i x40), (5, m_i (v5 + 1))]) 3 rfl [1, 2, 3, 0] rfl (m_lt hN rfl) (m_dec e2_layAll 62 rfl) ?_
        refine ms_goto (pc := 132) S (m_dec e2_layAll 63 rfl) rfl ?_
        exact ih x40 (v5 + 1) h38
      · refine ms_iinc (pc := 129) S (L' := [(0, m_r v0), (3, m_r v3), (4, m_i v4), (5, m_i (v5 + 1))]) 3 rfl [1, 2, 3, 0] rfl (m_lt hN rfl) (m_dec e2_layAll 62 rfl) ?_
        refine ms_goto (pc := 132) S (m_dec e2_layAll 63 rfl) rfl ?_
        exact ih v4 (v5 + 1) h28
    · refine ms_iload (pc := 78) S 3 rfl (m_dec e2_layAll 38 rfl) ?_
      refine ms_grd fun g41 => ?_
      refine ms_callVa (pc := 80) S hF (vals := [m_i v5]) (st := [m_i v5, m_r (m_g h7 v0 4)]) (hc := vw_3) (hci := by decide) (hcy := rfl) (ht := g41) (hC := (k3_row _ _ v3 v5 h11)) (hM := lm_X2_64) (hfr := (Nat.le_trans (by decide) hFn)) (hstk := rfl) (hcat := Nat.le_of_ble_eq_true rfl) (hd := (m_dec e2_layAll 39 rfl)) (k1 := fun r43 h42 => ?_)
      refine ms_grd fun g44 => ?_
      refine ms_callVi (pc := 83) S hF (vals := []) (st := [m_i v5, m_r (m_g h7 v0 4)]) (hc := vw_5) (hci := by decide) (hcy := rfl) (ht := g44) (hC := (k5_size _ _ r43 h42)) (hM := lm_X2_68) (hfr := (Nat.le_trans (by decide) hFn)) (hstk := rfl) (hcat := Nat.le_of_ble_eq_true rfl) (hd := (m_dec e2_layAll 40 rfl)) (k1 := fun r46 h45 => ?_)
      refine ms_callSv (pc := 86) S hF (vals := [m_r (m_g h7 v0 4), m_i v5, m_i r46]) (st := [])  (hC := (k10_setEntry _ _ (m_g h7 v0 4) v5 r46 h45)) (hM := lm_X2_52) (hfr := (Nat.le_trans (by decide) hFn)) (hstk := rfl) (hcat := Nat.le_of_ble_eq_true rfl) (hd := (m_dec e2_layAll 41 rfl)) (k1 := fun h47 => ?_)
      refine ms_aload_n (pc := 89) S 0 rfl rfl (m_dec e2_layAll 42 rfl) ?_
      refine ms_grd fun g49 => ?_
      refine ms_getf (pc := 90) S lf_X2_23 rfl (m_dec e2_layAll 43 rfl) g49 ?_
      refine ms_iload (pc := 93) S 3 rfl (m_dec e2_layAll 44 rfl) ?_
      refine ms_grd fun g50 => ?_
      refine ms_callVz (pc := 95) S hF (vals := [m_i v5]) (st := []) (hc := vw_6) (hci := by decide) (hcy := rfl) (ht := g50) (hC := (k6_isPut _ _ (m_g h47 v0 2) v5 h47)) (hM := lm_X2_56) (hfr := (Nat.le_trans (by decide) hFn)) (hstk := rfl) (hcat := Nat.le_of_ble_eq_true rfl) (hd := (m_dec e2_layAll 45 rfl)) (k1 := fun r52 h51 => ?_)
      refine ms_ifb_eq (pc := 98) S (m_dec e2_layAll 46 rfl) rfl (fun q53 => ?_) (fun q53 => ?_)
      · refine ms_iload (pc := 101) S 2 rfl (m_dec e2_layAll 47 rfl) ?_
        refine ms_aload_n (pc := 103) S 0 rfl rfl (m_dec e2_layAll 48 rfl) ?_
        refine ms_iload (pc := 104) S 3 rfl (m_dec e2_layAll 49 rfl) ?_
        refine ms_aload_n (pc := 106) S 0 rfl rfl (m_dec e2_layAll 50 rfl) ?_
        refine ms_iload (pc := 107) S 3 rfl (m_dec e2_layAll 51 rfl) ?_
        refine ms_grd fun g54 => ?_
        refine ms_callVi (pc := 109) S hF (vals := [m_i v5]) (st := [m_i v5, m_r v0, m_i v4]) (hc := vw_2) (hci := by decide) (hcy := rfl) (ht := g54) (hC := (k2_times _ _ v0 v5 h51)) (hM := lm_X2_72) (hfr := (Nat.le_trans (by decide) hFn)) (hstk := rfl) (hcat := Nat.le_of_ble_eq_true rfl) (hd := (m_dec e2_layAll 52 rfl)) (k1 := fun r56 h55 => ?_)
        refine ms_iconst (pc := 112) S (m_dec e2_layAll 53 rfl) ?_
        refine ms_isub (pc := 113) S (m_dec e2_layAll 54 rfl) ?_
        refine ms_grd fun g57 => ?_
        refine ms_callVi (pc := 114) S hF (vals := [m_i v5, m_i (r56 - 1)]) (st := [m_i v4]) (hc := vw_2) (hci := by decide) (hcy := rfl) (ht := g57) (hC := (k2_beginOf _ _ v0 v5 (r56 - 1) h55)) (hM := lm_X2_75) (hfr := (Nat.le_trans (by decide) hFn)) (hstk := rfl) (hcat := Nat.le_of_ble_eq_true rfl) (hd := (m_dec e2_layAll 55 rfl)) (k1 := fun r59 h58 => ?_)
        refine ms_aload_n (pc := 117) S 0 rfl rfl (m_dec e2_layAll 56 rfl) ?_
        refine ms_iload (pc := 118) S 3 rfl (m_dec e2_layAll 57 rfl) ?_
        refine ms_grd fun g60 => ?_
        refine ms_callVi (pc := 120) S hF (vals := [m_i v5]) (st := [m_i r59, m_i v4]) (hc := vw_2) (hci := by decide) (hcy := rfl) (ht := g60) (hC := (k2_length _ _ v0 v5 h58)) (hM := lm_X2_79) (hfr := (Nat.le_trans (by decide) hFn)) (hstk := rfl) (hcat := Nat.le_of_ble_eq_true rfl) (hd := (m_dec e2_layAll 58 rfl)) (k1 := fun r62 h61 => ?_)
        refine ms_iadd (pc := 123) S (m_dec e2_layAll 59 rfl) ?_
        refine ms_mmax (pc := 124) S hF (Nat.le_trans (by decide) hFn) ⟨w_1161, w_485, w_136, w_486⟩ (Nat.le_of_ble_eq_true rfl) (m_dec e2_layAll 60 rfl) ?_
        refine ms_nm (st := fun x63 => [m_i x63]) fun x63 => ?_
        refine ms_istore (pc := 127) S (L' := [(0, m_r v0), (3, m_r v3), (4, m_i x63), (5, m_i v5)]) [1, 2, 0, 3] rfl (m_lt hN rfl) (m_dec e2_layAll 61 rfl) ?_
        refine ms_iinc (pc := 129) S (L' := [(0, m_r v0), (3, m_r v3), (4, m_i x63), (5, m_i (v5 + 1))]) 3 rfl [1, 2, 3, 0] rfl (m_lt hN rfl) (m_dec e2_layAll 62 rfl) ?_
        refine ms_goto (pc := 132) S (m_dec e2_layAll 63 rfl) rfl ?_
        exact ih x63 (v5 + 1) h61
      · refine ms_iinc (pc := 129) S (L' := [(0, m_r v0), (3, m_r v3), (4, m_i v4), (5, m_i (v5 + 1))]) 3 rfl [1, 2, 3, 0] rfl (m_lt hN rfl) (m_dec e2_layAll 62 rfl) ?_
        refine ms_goto (pc := 132) S (m_dec e2_layAll 63 rfl) rfl ?_
        exact ih v4 (v5 + 1) h51
  · refine ms_aload_n (pc := 135) S 0 rfl rfl (m_dec e2_layAll 64 rfl) ?_
    refine ms_getf (pc := 136) S lf_X2_12 rfl (m_dec e2_layAll 65 rfl) g1 ?_
    refine ms_iload (pc := 139) S 2 rfl (m_dec e2_layAll 66 rfl) ?_
    refine ms_grd fun g64 => ?_
    refine ms_callVv (pc := 141) S hF (vals := [m_i v4]) (st := []) (hc := vw_5) (hci := by decide) (hcy := rfl) (ht := g64) (hC := (k5_silence _ _ (m_g h v0 1) v4 h)) (hM := lm_X2_87) (hfr := (Nat.le_trans (by decide) hFn)) (hstk := rfl) (hcat := Nat.le_of_ble_eq_true rfl) (hd := (m_dec e2_layAll 67 rfl)) (k1 := fun h65 => ?_)
    refine ms_iconst (pc := 144) S (m_dec e2_layAll 68 rfl) ?_
    refine ms_istore (pc := 145) S (L' := [(0, m_r v0), (3, m_r v3), (5, m_i 0)]) [1, 2, 0] rfl (m_lt hN rfl) (m_dec e2_layAll 69 rfl) ?_
    exact s2_layAll_c147 S E hF hFn hN v0 v3 0 h65
set_option maxHeartbeats 4000000 in
set_option maxRecDepth 20000 in
theorem s2_layAll {Y : m_Y Unit} (S : m_Std Y RX2 cX2_layAll) (E : m_End Y cX2_layAll .return_ (fun _ => [])) {F : Nat} (hF : m_Rm Y F) (hFn : 4 ≤ F) (hN : Y.2.2.2.1 = 6) (v0 v1 v2 v3 : Int) (h : m_H) : m_Sim Y 0 [(0, m_r v0), (1, m_r v1), (2, m_i v2), (3, m_r v3)] [] h (t2_layAll v0 v1 v2 v3 h) := by
  unfold t2_layAll
  refine ms_aload_n (pc := 0) S 0 rfl rfl (m_dec e2_layAll 0 rfl) ?_
  refine ms_aload_n (pc := 1) S 1 rfl rfl (m_dec e2_layAll 1 rfl) ?_
  refine ms_grd fun g1 => ?_
  refine ms_putf (pc := 2) S lp_X2_23 (fun z => by cases z) rfl (fun d => m_fitO _ d _) (m_dec e2_layAll 2 rfl) g1 (fun h2 => ?_)
  refine ms_aload_n (pc := 5) S 0 rfl rfl (m_dec e2_layAll 3 rfl) ?_
  refine ms_iload_n (pc := 6) S 2 rfl rfl (m_dec e2_layAll 4 rfl) ?_
  refine ms_grd fun g3 => ?_
  refine ms_putf (pc := 7) S lp_X2_27 (fun z => by cases z) rfl (fun d => m_fitI d _) (m_dec e2_layAll 5 rfl) g3 (fun h4 => ?_)
  refine ms_iconst (pc := 10) S (m_dec e2_layAll 6 rfl) ?_
  refine ms_istore (pc := 11) S (L' := [(0, m_r v0), (3, m_r v3), (4, m_i 0)]) [1, 4, 0] rfl (m_lt hN rfl) (m_dec e2_layAll 7 rfl) ?_
  refine ms_iconst (pc := 13) S (m_dec e2_layAll 8 rfl) ?_
  refine ms_istore (pc := 14) S (L' := [(0, m_r v0), (3, m_r v3), (4, m_i 0), (5, m_i 0)]) [1, 2, 3, 0] rfl (m_lt hN rfl) (m_dec e2_layAll 9 rfl) ?_
  exact s2_layAll_c16 S E hF hFn hN v0 v3 0 0 h4
theorem k2_layAll (l : Launch) (d : m_D) (v0 v1 v2 v3 : Int) (h : m_H) : m_Con l d yX2_layAll cX2_layAll 6 none 4 (fun _ => []) [m_r v0, m_r v1, m_i v2, m_r v3] h (t2_layAll v0 v1 v2 v3 h) :=
  m_con2 (by decide +kernel) (Nat.le_of_ble_eq_true rfl) (fun Y hN hRm hr hI S hfin => s2_layAll S (m_end_v S hr hfin) hRm (Nat.le_refl _) hN v0 v1 v2 v3 h)
set_option maxRecDepth 100000 in
theorem e2_track : ∀ q ∈ ([(0, .aload_n 0, 1), (1, .getfield 23, 3), (4, .iload_n 1, 1), (5, .iconst 4, 1), (6, .invokevirtual 105, 3), (9, .ireturn, 1)] : List (Nat × Instr × Nat)), decode cX2_track q.1 = .ok q.2 := by decide +kernel
set_option maxHeartbeats 4000000 in
set_option maxRecDepth 20000 in
theorem s2_track {Y : m_Y Int} (S : m_Std Y RX2 cX2_track) (E : m_End Y cX2_track .ireturn (fun r => [m_i r])) {F : Nat} (hF : m_Rm Y F) (hFn : 1 ≤ F) (hN : Y.2.2.2.1 = 2) (v0 v1 : Int) (h : m_H) : m_Sim Y 0 [(0, m_r v0), (1, m_i v1)] [] h (t2_track v0 v1 h) := by
  unfold t2_track
  refine ms_aload_n (pc := 0) S 0 rfl rfl (m_dec e2_track 0 rfl) ?_
  refine ms_grd fun g1 => ?_
  refine ms_getf (pc := 1) S lf_X2_23 rfl (m_dec e2_track 1 rfl) g1 ?_
  refine ms_iload_n (pc := 4) S 1 rfl rfl (m_dec e2_track 2 rfl) ?_
  refine ms_iconst (pc := 5) S (m_dec e2_track 3 rfl) ?_
  refine ms_grd fun g2 => ?_
  refine ms_callVi (pc := 6) S hF (vals := [m_i v1, m_i 4]) (st := []) (hc := vw_6) (hci := by decide) (hcy := rfl) (ht := g2) (hC := (k6_cell _ _ (m_g h v0 2) v1 4 h)) (hM := lm_X2_105) (hfr := (Nat.le_trans (by decide) hFn)) (hstk := rfl) (hcat := Nat.le_of_ble_eq_true rfl) (hd := (m_dec e2_track 4 rfl)) (k1 := fun r4 h3 => ?_)
  exact ms_ret (pc := 9) E (m_dec e2_track 5 rfl) rfl
theorem k2_track (l : Launch) (d : m_D) (v0 v1 : Int) (h : m_H) : m_Con l d yX2_track cX2_track 2 (some .int) 1 (fun r => [m_i r]) [m_r v0, m_i v1] h (t2_track v0 v1 h) :=
  m_con2 (by decide +kernel) (Nat.le_of_ble_eq_true rfl) (fun Y hN hRm hr hI S hfin => s2_track S (m_end_i S hr hfin) hRm (Nat.le_refl _) hN v0 v1 h)
set_option maxRecDepth 100000 in
theorem e2_beginWith : ∀ q ∈ ([(0, .iconst 0, 1), (1, .istore_n 3, 1), (2, .iload_n 3, 1), (3, .aload_n 0, 1), (4, .iload_n 1, 1), (5, .invokevirtual 72, 3), (8, .if_icmp .ge 38, 3), (11, .aload_n 0, 1), (12, .iload_n 1, 1), (13, .iload_n 3, 1), (14, .invokevirtual 75, 3), (17, .istore 4, 2), (19, .iload_n 2, 1), (20, .iload 4, 2), (22, .if_icmp .lt 18, 3), (25, .iload_n 2, 1), (26, .iload 4, 2), (28, .aload_n 0, 1), (29, .iload_n 1, 1), (30, .invokevirtual 79, 3), (33, .iadd, 1), (34, .if_icmp .ge 6, 3), (37, .iload 4, 2), (39, .ireturn, 1), (40, .iinc 3 1, 3), (43, .goto (-41), 3), (46, .iconst (-1), 1), (47, .ireturn, 1)] : List (Nat × Instr × Nat)), decode cX2_beginWith q.1 = .ok q.2 := by decide +kernel
set_option maxHeartbeats 4000000 in
set_option maxRecDepth 20000 in
theorem s2_beginWith_c2 {Y : m_Y Int} (S : m_Std Y RX2 cX2_beginWith) (E : m_End Y cX2_beginWith .ireturn (fun r => [m_i r])) {F : Nat} (hF : m_Rm Y F) (hFn : 2 ≤ F) (hN : Y.2.2.2.1 = 5) : ∀ (v0 v1 v2 v3 : Int) (h : m_H), m_Sim Y 2 [(0, m_r v0), (1, m_i v1), (2, m_i v2), (3, m_i v3)] [] h (t2_beginWith_c2 v0 v1 v2 v3 h) := by
  intro v0 v1 v2 v3 h
  refine ms_all fun r e => ?_
  refine t2_beginWith_c2.partial_correctness v0 v1 v2 (motive := fun v3 h r => m_Sim Y 2 [(0, m_r v0), (1, m_i v1), (2, m_i v2), (3, m_i v3)] [] h (some r)) ?_ v3 h r e
  intro f ih v3 h r e
  have ih : ∀ (v3 : Int) (h : m_H), m_Sim Y 2 [(0, m_r v0), (1, m_i v1), (2, m_i v2), (3, m_i v3)] [] h (f v3 h ) := fun v3 h  => ms_all fun r e => ih v3 h r e
  refine ms_use ?_ e
  clear e r
  refine ms_iload_n (pc := 2) S 3 rfl rfl (m_dec e2_beginWith 2 rfl) ?_
  refine ms_aload_n (pc := 3) S 0 rfl rfl (m_dec e2_beginWith 3 rfl) ?_
  refine ms_iload_n (pc := 4) S 1 rfl rfl (m_dec e2_beginWith 4 rfl) ?_
  refine ms_grd fun g1 => ?_
  refine ms_callVi (pc := 5) S hF (vals := [m_i v1]) (st := [m_i v3]) (hc := vw_2) (hci := by decide) (hcy := rfl) (ht := g1) (hC := (k2_times _ _ v0 v1 h)) (hM := lm_X2_72) (hfr := (Nat.le_trans (by decide) hFn)) (hstk := rfl) (hcat := Nat.le_of_ble_eq_true rfl) (hd := (m_dec e2_beginWith 5 rfl)) (k1 := fun r3 h2 => ?_)
  refine ms_icmp_ge (pc := 8) S (m_dec e2_beginWith 6 rfl) rfl (fun q4 => ?_) (fun q4 => ?_)
  · refine ms_aload_n (pc := 11) S 0 rfl rfl (m_dec e2_beginWith 7 rfl) ?_
    refine ms_iload_n (pc := 12) S 1 rfl rfl (m_dec e2_beginWith 8 rfl) ?_
    refine ms_iload_n (pc := 13) S 3 rfl rfl (m_dec e2_beginWith 9 rfl) ?_
    refine ms_grd fun g5 => ?_
    refine ms_callVi (pc := 14) S hF (vals := [m_i v1, m_i v3]) (st := []) (hc := vw_2) (hci := by decide) (hcy := rfl) (ht := g5) (hC := (k2_beginOf _ _ v0 v1 v3 h2)) (hM := lm_X2_75) (hfr := (Nat.le_trans (by decide) hFn)) (hstk := rfl) (hcat := Nat.le_of_ble_eq_true rfl) (hd := (m_dec e2_beginWith 10 rfl)) (k1 := fun r7 h6 => ?_)
    refine ms_istore (pc := 17) S (L' := [(0, m_r v0), (1, m_i v1), (2, m_i v2), (3, m_i v3), (4, m_i r7)]) [1, 2, 3, 4, 0] rfl (m_lt hN rfl) (m_dec e2_beginWith 11 rfl) ?_
    refine ms_iload_n (pc := 19) S 2 rfl rfl (m_dec e2_beginWith 12 rfl) ?_
    refine ms_iload (pc := 20) S 4 rfl (m_dec e2_beginWith 13 rfl) ?_
    refine ms_icmp_lt (pc := 22) S (m_dec e2_beginWith 14 rfl) rfl (fun q8 => ?_) (fun q8 => ?_)
    · refine ms_iinc (pc := 40) S (L' := [(0, m_r v0), (1, m_i v1), (2, m_i v2), (3, m_i (v3 + 1))]) 3 rfl [1, 2, 3, 0] rfl (m_lt hN rfl) (m_dec e2_beginWith 24 rfl) ?_
      refine ms_goto (pc := 43) S (m_dec e2_beginWith 25 rfl) rfl ?_
      exact ih (v3 + 1) h6
    · refine ms_iload_n (pc := 25) S 2 rfl rfl (m_dec e2_beginWith 15 rfl) ?_
      refine ms_iload (pc := 26) S 4 rfl (m_dec e2_beginWith 16 rfl) ?_
      refine ms_aload_n (pc := 28) S 0 rfl rfl (m_dec e2_beginWith 17 rfl) ?_
      refine ms_iload_n (pc := 29) S 1 rfl rfl (m_dec e2_beginWith 18 rfl) ?_
      refine ms_grd fun g9 => ?_
      refine ms_callVi (pc := 30) S hF (vals := [m_i v1]) (st := [m_i r7, m_i v2]) (hc := vw_2) (hci := by decide) (hcy := rfl) (ht := g9) (hC := (k2_length _ _ v0 v1 h6)) (hM := lm_X2_79) (hfr := (Nat.le_trans (by decide) hFn)) (hstk := rfl) (hcat := Nat.le_of_ble_eq_true rfl) (hd := (m_dec e2_beginWith 19 rfl)) (k1 := fun r11 h10 => ?_)
      refine ms_iadd (pc := 33) S (m_dec e2_beginWith 20 rfl) ?_
      refine ms_icmp_ge (pc := 34) S (m_dec e2_beginWith 21 rfl) rfl (fun q12 => ?_) (fun q12 => ?_)
      · refine ms_iload (pc := 37) S 4 rfl (m_dec e2_beginWith 22 rfl) ?_
        exact ms_ret (pc := 39) E (m_dec e2_beginWith 23 rfl) rfl
      · refine ms_iinc (pc := 40) S (L' := [(0, m_r v0), (1, m_i v1), (2, m_i v2), (3, m_i (v3 + 1))]) 3 rfl [1, 2, 3, 0] rfl (m_lt hN rfl) (m_dec e2_beginWith 24 rfl) ?_
        refine ms_goto (pc := 43) S (m_dec e2_beginWith 25 rfl) rfl ?_
        exact ih (v3 + 1) h10
  · refine ms_iconst (pc := 46) S (m_dec e2_beginWith 26 rfl) ?_
    exact ms_ret (pc := 47) E (m_dec e2_beginWith 27 rfl) rfl
set_option maxHeartbeats 4000000 in
set_option maxRecDepth 20000 in
theorem s2_beginWith {Y : m_Y Int} (S : m_Std Y RX2 cX2_beginWith) (E : m_End Y cX2_beginWith .ireturn (fun r => [m_i r])) {F : Nat} (hF : m_Rm Y F) (hFn : 2 ≤ F) (hN : Y.2.2.2.1 = 5) (v0 v1 v2 : Int) (h : m_H) : m_Sim Y 0 [(0, m_r v0), (1, m_i v1), (2, m_i v2)] [] h (t2_beginWith v0 v1 v2 h) := by
  unfold t2_beginWith
  refine ms_iconst (pc := 0) S (m_dec e2_beginWith 0 rfl) ?_
  refine ms_istore_n (pc := 1) S (L' := [(0, m_r v0), (1, m_i v1), (2, m_i v2), (3, m_i 0)]) [1, 2, 3, 0] rfl rfl (m_lt hN rfl) (m_dec e2_beginWith 1 rfl) ?_
  exact s2_beginWith_c2 S E hF hFn hN v0 v1 v2 0 h
theorem k2_beginWith (l : Launch) (d : m_D) (v0 v1 v2 : Int) (h : m_H) : m_Con l d yX2_beginWith cX2_beginWith 5 (some .int) 2 (fun r => [m_i r]) [m_r v0, m_i v1, m_i v2] h (t2_beginWith v0 v1 v2 h) :=
  m_con2 (by decide +kernel) (Nat.le_of_ble_eq_true rfl) (fun Y hN hRm hr hI S hfin => s2_beginWith S (m_end_i S hr hfin) hRm (Nat.le_refl _) hN v0 v1 v2 h)
set_option maxRecDepth 100000 in
theorem e2_bit : ∀ q ∈ ([(0, .iload_n 0, 1), (1, .iconst (-1), 1), (2, .if_icmp .ne 7, 3), (5, .lconst 0, 1), (6, .goto 6, 3), (9, .lconst 1, 1), (10, .iload_n 0, 1), (11, .lshl, 1), (12, .lreturn, 1)] : List (Nat × Instr × Nat)), decode cX2_bit q.1 = .ok q.2 := by decide +kernel
set_option maxHeartbeats 4000000 in
set_option maxRecDepth 20000 in
theorem s2_bit {Y : m_Y Int} (S : m_Std Y RX2 cX2_bit) (E : m_End Y cX2_bit .lreturn (fun r => [m_j r])) {F : Nat} (hF : m_Rm Y F) (hFn : 0 ≤ F) (hN : Y.2.2.2.1 = 1) (v0 : Int) (h : m_H) : m_Sim Y 0 [(0, m_i v0)] [] h (t2_bit v0 h) := by
  unfold t2_bit
  refine ms_iload_n (pc := 0) S 0 rfl rfl (m_dec e2_bit 0 rfl) ?_
  refine ms_iconst (pc := 1) S (m_dec e2_bit 1 rfl) ?_
  refine ms_icmp_ne (pc := 2) S (m_dec e2_bit 2 rfl) rfl (fun q1 => ?_) (fun q1 => ?_)
  · refine ms_lconst (pc := 5) S (n := 0) rfl (m_dec e2_bit 3 rfl) ?_
    refine ms_goto (pc := 6) S (m_dec e2_bit 4 rfl) rfl ?_
    exact ms_ret (pc := 12) E (m_dec e2_bit 8 rfl) rfl
  · refine ms_lconst (pc := 9) S (n := 1) rfl (m_dec e2_bit 5 rfl) ?_
    refine ms_iload_n (pc := 10) S 0 rfl rfl (m_dec e2_bit 6 rfl) ?_
    refine ms_lshl (pc := 11) S (m_dec e2_bit 7 rfl) ?_
    exact ms_ret (pc := 12) E (m_dec e2_bit 8 rfl) rfl
theorem k2_bit (l : Launch) (d : m_D) (v0 : Int) (h : m_H) : m_Con l d yX2_bit cX2_bit 1 (some .long) 0 (fun r => [m_j r]) [m_i v0] h (t2_bit v0 h) :=
  m_con2 (by decide +kernel) (Nat.le_of_ble_eq_true rfl) (fun Y hN hRm hr hI S hfin => s2_bit S (m_end_l S hr hfin) hRm (Nat.le_refl _) hN v0 h)
set_option maxRecDepth 100000 in
theorem e6_other : ∀ q ∈ ([(0, .aload_n 0, 1), (1, .iload_n 1, 1), (2, .iconst 2, 1), (3, .invokevirtual 22, 3), (6, .ireturn, 1)] : List (Nat × Instr × Nat)), decode cX6_other q.1 = .ok q.2 := by decide +kernel
set_option maxHeartbeats 4000000 in
set_option maxRecDepth 20000 in
theorem s6_other {Y : m_Y Int} (S : m_Std Y RX6 cX6_other) (E : m_End Y cX6_other .ireturn (fun r => [m_i r])) {F : Nat} (hF : m_Rm Y F) (hFn : 1 ≤ F) (hN : Y.2.2.2.1 = 2) (v0 v1 : Int) (h : m_H) : m_Sim Y 0 [(0, m_r v0), (1, m_i v1)] [] h (t6_other v0 v1 h) := by
  unfold t6_other
  refine ms_aload_n (pc := 0) S 0 rfl rfl (m_dec e6_other 0 rfl) ?_
  refine ms_iload_n (pc := 1) S 1 rfl rfl (m_dec e6_other 1 rfl) ?_
  refine ms_iconst (pc := 2) S (m_dec e6_other 2 rfl) ?_
  refine ms_grd fun g1 => ?_
  refine ms_callVi (pc := 3) S hF (vals := [m_i v1, m_i 2]) (st := []) (hc := vw_6) (hci := by decide) (hcy := rfl) (ht := g1) (hC := (k6_cell _ _ v0 v1 2 h)) (hM := lm_X6_22) (hfr := (Nat.le_trans (by decide) hFn)) (hstk := rfl) (hcat := Nat.le_of_ble_eq_true rfl) (hd := (m_dec e6_other 3 rfl)) (k1 := fun r3 h2 => ?_)
  exact ms_ret (pc := 6) E (m_dec e6_other 4 rfl) rfl
theorem k6_other (l : Launch) (d : m_D) (v0 v1 : Int) (h : m_H) : m_Con l d yX6_other cX6_other 2 (some .int) 1 (fun r => [m_i r]) [m_r v0, m_i v1] h (t6_other v0 v1 h) :=
  m_con2 (by decide +kernel) (Nat.le_of_ble_eq_true rfl) (fun Y hN hRm hr hI S hfin => s6_other S (m_end_i S hr hfin) hRm (Nat.le_refl _) hN v0 v1 h)
set_option maxRecDepth 100000 in
theorem e2_reasons : ∀ q ∈ ([(0, .lconst 0, 1), (1, .lstore_n 2, 1), (2, .aload_n 0, 1), (3, .getfield 23, 3), (6, .getfield 42, 3), (9, .iconst 1, 1), (10, .isub, 1), (11, .istore 4, 2), (13, .iload 4, 2), (15, .ifCond .lt 66, 3), (18, .aload_n 0, 1), (19, .iload 4, 2), (21, .iload_n 1, 1), (22, .invokevirtual 112, 3), (25, .iconst (-1), 1), (26, .if_icmp .eq 10, 3), (29, .lload_n 2, 1), (30, .lconst 1, 1), (31, .iload 4, 2), (33, .lshl, 1), (34, .lor, 1), (35, .lstore_n 2, 1), (36, .lload_n 2, 1), (37, .iload 4, 2), (39, .lshr, 1), (40, .lconst 1, 1), (41, .land, 1), (42, .lconst 0, 1), (43, .lcmp, 1), (44, .ifCond .eq 31, 3), (47, .lload_n 2, 1), (48, .aload_n 0, 1), (49, .getfield 23, 3), (52, .iload 4, 2), (54, .invokevirtual 60, 3), (57, .invokestatic 115, 3), (60, .aload_n 0, 1), (61, .getfield 23, 3), (64, .iload 4, 2), (66, .invokevirtual 118, 3), (69, .invokestatic 115, 3), (72, .lor, 1), (73, .lor, 1), (74, .lstore_n 2, 1), (75, .iinc 4 (-1), 3), (78, .goto (-65), 3), (81, .lload_n 2, 1), (82, .lreturn, 1)] : List (Nat × Instr × Nat)), decode cX2_reasons q.1 = .ok q.2 := by decide +kernel
set_option maxHeartbeats 4000000 in
set_option maxRecDepth 20000 in
theorem s2_reasons_x13 {Y : m_Y Int} (S : m_Std Y RX2 cX2_reasons) (E : m_End Y cX2_reasons .lreturn (fun r => [m_j r])) {F : Nat} (hF : m_Rm Y F) (hFn : 3 ≤ F) (hN : Y.2.2.2.1 = 5) : ∀ (cc : Int) (v0 v1 v2 v4 : Int) (h : m_H) (r : Int × m_H), t2_reasons_x13 cc v0 v1 v2 v4 h = some r → (cc = 13 → m_Sim Y 13 [(0, m_r v0), (1, m_i v1), (2, m_j v2), (4, m_i v4)] [] h (some r)) ∧ (cc = 36 → m_Sim Y 36 [(0, m_r v0), (1, m_i v1), (2, m_j v2), (4, m_i v4)] [] h (some r)) := by
  intro cc v0 v1 v2 v4 h r e
  refine t2_reasons_x13.partial_correctness v0 v1 (motive := fun cc v2 v4 h r => (cc = 13 → m_Sim Y 13 [(0, m_r v0), (1, m_i v1), (2, m_j v2), (4, m_i v4)] [] h (some r)) ∧ (cc = 36 → m_Sim Y 36 [(0, m_r v0), (1, m_i v1), (2, m_j v2), (4, m_i v4)] [] h (some r))) ?_ cc v2 v4 h r e
  intro f ih cc v2 v4 h r e
  have ih13 : ∀ (v2 v4 : Int) (h : m_H), m_Sim Y 13 [(0, m_r v0), (1, m_i v1), (2, m_j v2), (4, m_i v4)] [] h (f 13 v2 v4 h ) := fun v2 v4 h  => ms_all fun r e => (ih 13 v2 v4 h r e).1 rfl
  have ih36 : ∀ (v2 v4 : Int) (h : m_H), m_Sim Y 36 [(0, m_r v0), (1, m_i v1), (2, m_j v2), (4, m_i v4)] [] h (f 36 v2 v4 h ) := fun v2 v4 h  => ms_all fun r e => (ih 36 v2 v4 h r e).2 rfl
  refine ⟨?_, ?_⟩
  · intro q0
    subst q0
    rw [if_pos rfl] at e
    refine ms_use ?_ e
    clear e r
    refine ms_iload (pc := 13) S 3 rfl (m_dec e2_reasons 8 rfl) ?_
    refine ms_if_lt (pc := 15) S (m_dec e2_reasons 9 rfl) rfl (fun q1 => ?_) (fun q1 => ?_)
    · refine ms_lload_n (pc := 81) S 2 rfl rfl (m_dec e2_reasons 46 rfl) ?_
      exact ms_ret (pc := 82) E (m_dec e2_reasons 47 rfl) rfl
    · refine ms_aload_n (pc := 18) S 0 rfl rfl (m_dec e2_reasons 10 rfl) ?_
      refine ms_iload (pc := 19) S 3 rfl (m_dec e2_reasons 11 rfl) ?_
      refine ms_iload_n (pc := 21) S 1 rfl rfl (m_dec e2_reasons 12 rfl) ?_
      refine ms_grd fun g2 => ?_
      refine ms_callVi (pc := 22) S hF (vals := [m_i v4, m_i v1]) (st := []) (hc := vw_2) (hci := by decide) (hcy := rfl) (ht := g2) (hC := (k2_beginWith _ _ v0 v4 v1 h)) (hM := lm_X2_112) (hfr := (Nat.le_trans (by decide) hFn)) (hstk := rfl) (hcat := Nat.le_of_ble_eq_true rfl) (hd := (m_dec e2_reasons 13 rfl)) (k1 := fun r4 h3 => ?_)
      refine ms_iconst (pc := 25) S (m_dec e2_reasons 14 rfl) ?_
      refine ms_icmp_eq (pc := 26) S (m_dec e2_reasons 15 rfl) rfl (fun q5 => ?_) (fun q5 => ?_)
      · exact ih36 v2 v4 h3
      · refine ms_lload_n (pc := 29) S 2 rfl rfl (m_dec e2_reasons 16 rfl) ?_
        refine ms_lconst (pc := 30) S (n := 1) rfl (m_dec e2_reasons 17 rfl) ?_
        refine ms_iload (pc := 31) S 3 rfl (m_dec e2_reasons 18 rfl) ?_
        refine ms_lshl (pc := 33) S (m_dec e2_reasons 19 rfl) ?_
        refine ms_lor (pc := 34) S (m_dec e2_reasons 20 rfl) ?_
        refine ms_nm (st := fun x6 => [m_j x6]) fun x6 => ?_
        refine ms_lstore_n (pc := 35) S (L' := [(0, m_r v0), (1, m_i v1), (2, m_j x6), (4, m_i v4)]) [1, 2, 0, 3] rfl rfl (m_lt hN rfl) (m_dec e2_reasons 21 rfl) ?_
        exact ih36 x6 v4 h3
  · intro q0
    subst q0
    rw [if_neg (by decide), if_pos rfl] at e
    refine ms_use ?_ e
    clear e r
    refine ms_lload_n (pc := 36) S 2 rfl rfl (m_dec e2_reasons 22 rfl) ?_
    refine ms_iload (pc := 37) S 3 rfl (m_dec e2_reasons 23 rfl) ?_
    refine ms_lshr (pc := 39) S (m_dec e2_reasons 24 rfl) ?_
    refine ms_lconst (pc := 40) S (n := 1) rfl (m_dec e2_reasons 25 rfl) ?_
    refine ms_land (pc := 41) S (m_dec e2_reasons 26 rfl) ?_
    refine ms_lconst (pc := 42) S (n := 0) rfl (m_dec e2_reasons 27 rfl) ?_
    refine ms_lcmp (pc := 43) S (m_dec e2_reasons 28 rfl) ?_
    refine ms_if_eq (pc := 44) S (m_dec e2_reasons 29 rfl) rfl (fun q1 => ?_) (fun q1 => ?_)
    · refine ms_iinc (pc := 75) S (L' := [(0, m_r v0), (1, m_i v1), (2, m_j v2), (4, m_i (v4 + (-1)))]) 3 rfl [1, 2, 3, 0] rfl (m_lt hN rfl) (m_dec e2_reasons 44 rfl) ?_
      refine ms_goto (pc := 78) S (m_dec e2_reasons 45 rfl) rfl ?_
      exact ih13 v2 (v4 + (-1)) h
    · refine ms_lload_n (pc := 47) S 2 rfl rfl (m_dec e2_reasons 30 rfl) ?_
      refine ms_aload_n (pc := 48) S 0 rfl rfl (m_dec e2_reasons 31 rfl) ?_
      refine ms_grd fun g2 => ?_
      refine ms_getf (pc := 49) S lf_X2_23 rfl (m_dec e2_reasons 32 rfl) g2 ?_
      refine ms_iload (pc := 52) S 3 rfl (m_dec e2_reasons 33 rfl) ?_
      refine ms_grd fun g3 => ?_
      refine ms_callVi (pc := 54) S hF (vals := [m_i v4]) (st := [m_j v2]) (hc := vw_6) (hci := by decide) (hcy := rfl) (ht := g3) (hC := (k6_one _ _ (m_g h v0 2) v4 h)) (hM := lm_X2_60) (hfr := (Nat.le_trans (by decide) hFn)) (hstk := rfl) (hcat := Nat.le_of_ble_eq_true rfl) (hd := (m_dec e2_reasons 34 rfl)) (k1 := fun r5 h4 => ?_)
      refine ms_callSl (pc := 57) S hF (vals := [m_i r5]) (st := [m_j v2])  (hC := (k2_bit _ _ r5 h4)) (hM := lm_X2_115) (hfr := (Nat.le_trans (by decide) hFn)) (hstk := rfl) (hcat := Nat.le_of_ble_eq_true rfl) (hd := (m_dec e2_reasons 35 rfl)) (k1 := fun r7 h6 => ?_)
      refine ms_aload_n (pc := 60) S 0 rfl rfl (m_dec e2_reasons 36 rfl) ?_
      refine ms_grd fun g8 => ?_
      refine ms_getf (pc := 61) S lf_X2_23 rfl (m_dec e2_reasons 37 rfl) g8 ?_
      refine ms_iload (pc := 64) S 3 rfl (m_dec e2_reasons 38 rfl) ?_
      refine ms_grd fun g9 => ?_
      refine ms_callVi (pc := 66) S hF (vals := [m_i v4]) (st := [m_j r7, m_j v2]) (hc := vw_6) (hci := by decide) (hcy := rfl) (ht := g9) (hC := (k6_other _ _ (m_g h6 v0 2) v4 h6)) (hM := lm_X2_118) (hfr := (Nat.le_trans (by decide) hFn)) (hstk := rfl) (hcat := Nat.le_of_ble_eq_true rfl) (hd := (m_dec e2_reasons 39 rfl)) (k1 := fun r11 h10 => ?_)
      refine ms_callSl (pc := 69) S hF (vals := [m_i r11]) (st := [m_j r7, m_j v2])  (hC := (k2_bit _ _ r11 h10)) (hM := lm_X2_115) (hfr := (Nat.le_trans (by decide) hFn)) (hstk := rfl) (hcat := Nat.le_of_ble_eq_true rfl) (hd := (m_dec e2_reasons 40 rfl)) (k1 := fun r13 h12 => ?_)
      refine ms_lor (pc := 72) S (m_dec e2_reasons 41 rfl) ?_
      refine ms_lor (pc := 73) S (m_dec e2_reasons 42 rfl) ?_
      refine ms_nm (st := fun x14 => [m_j x14]) fun x14 => ?_
      refine ms_lstore_n (pc := 74) S (L' := [(0, m_r v0), (1, m_i v1), (2, m_j x14), (4, m_i v4)]) [1, 2, 0, 3] rfl rfl (m_lt hN rfl) (m_dec e2_reasons 43 rfl) ?_
      refine ms_iinc (pc := 75) S (L' := [(0, m_r v0), (1, m_i v1), (2, m_j x14), (4, m_i (v4 + (-1)))]) 3 rfl [1, 2, 3, 0] rfl (m_lt hN rfl) (m_dec e2_reasons 44 rfl) ?_
      refine ms_goto (pc := 78) S (m_dec e2_reasons 45 rfl) rfl ?_
      exact ih13 x14 (v4 + (-1)) h12
set_option maxHeartbeats 4000000 in
set_option maxRecDepth 20000 in
theorem s2_reasons_c13 {Y : m_Y Int} (S : m_Std Y RX2 cX2_reasons) (E : m_End Y cX2_reasons .lreturn (fun r => [m_j r])) {F : Nat} (hF : m_Rm Y F) (hFn : 3 ≤ F) (hN : Y.2.2.2.1 = 5) (v0 v1 v2 v4 : Int) (h : m_H) : m_Sim Y 13 [(0, m_r v0), (1, m_i v1), (2, m_j v2), (4, m_i v4)] [] h (t2_reasons_x13 13 v0 v1 v2 v4 h) := ms_all fun r e => (s2_reasons_x13 S E hF hFn hN 13 v0 v1 v2 v4 h r e).1 rfl
set_option maxHeartbeats 4000000 in
set_option maxRecDepth 20000 in
theorem s2_reasons_c36 {Y : m_Y Int} (S : m_Std Y RX2 cX2_reasons) (E : m_End Y cX2_reasons .lreturn (fun r => [m_j r])) {F : Nat} (hF : m_Rm Y F) (hFn : 3 ≤ F) (hN : Y.2.2.2.1 = 5) (v0 v1 v2 v4 : Int) (h : m_H) : m_Sim Y 36 [(0, m_r v0), (1, m_i v1), (2, m_j v2), (4, m_i v4)] [] h (t2_reasons_x13 36 v0 v1 v2 v4 h) := ms_all fun r e => (s2_reasons_x13 S E hF hFn hN 36 v0 v1 v2 v4 h r e).2 rfl
set_option maxHeartbeats 4000000 in
set_option maxRecDepth 20000 in
theorem s2_reasons {Y : m_Y Int} (S : m_Std Y RX2 cX2_reasons) (E : m_End Y cX2_reasons .lreturn (fun r => [m_j r])) {F : Nat} (hF : m_Rm Y F) (hFn : 3 ≤ F) (hN : Y.2.2.2.1 = 5) (v0 v1 : Int) (h : m_H) : m_Sim Y 0 [(0, m_r v0), (1, m_i v1)] [] h (t2_reasons v0 v1 h) := by
  unfold t2_reasons
  refine ms_lconst (pc := 0) S (n := 0) rfl (m_dec e2_reasons 0 rfl) ?_
  refine ms_lstore_n (pc := 1) S (L' := [(0, m_r v0), (1, m_i v1), (2, m_j 0)]) [1, 2, 0] rfl rfl (m_lt hN rfl) (m_dec e2_reasons 1 rfl) ?_
  refine ms_aload_n (pc := 2) S 0 rfl rfl (m_dec e2_reasons 2 rfl) ?_
  refine ms_grd fun g1 => ?_
  refine ms_getf (pc := 3) S lf_X2_23 rfl (m_dec e2_reasons 3 rfl) g1 ?_
  refine ms_grd fun g2 => ?_
  refine ms_getf (pc := 6) S lf_X2_42 rfl (m_dec e2_reasons 4 rfl) g2 ?_
  refine ms_iconst (pc := 9) S (m_dec e2_reasons 5 rfl) ?_
  refine ms_isub (pc := 10) S (m_dec e2_reasons 6 rfl) ?_
  refine ms_nm (st := fun x3 => [m_i x3]) fun x3 => ?_
  refine ms_istore (pc := 11) S (L' := [(0, m_r v0), (1, m_i v1), (2, m_j 0), (4, m_i x3)]) [1, 2, 3, 0] rfl (m_lt hN rfl) (m_dec e2_reasons 7 rfl) ?_
  exact s2_reasons_c13 S E hF hFn hN v0 v1 0 x3 h
theorem k2_reasons (l : Launch) (d : m_D) (v0 v1 : Int) (h : m_H) : m_Con l d yX2_reasons cX2_reasons 5 (some .long) 3 (fun r => [m_j r]) [m_r v0, m_i v1] h (t2_reasons v0 v1 h) :=
  m_con2 (by decide +kernel) (Nat.le_of_ble_eq_true rfl) (fun Y hN hRm hr hI S hfin => s2_reasons S (m_end_l S hr hfin) hRm (Nat.le_refl _) hN v0 v1 h)
set_option maxRecDepth 100000 in
theorem e2_reason : ∀ q ∈ ([(0, .aload_n 0, 1), (1, .iload_n 1, 1), (2, .invokevirtual 108, 3), (5, .lstore_n 3, 1), (6, .iload_n 2, 1), (7, .istore 5, 2), (9, .iconst 0, 1), (10, .istore 6, 2), (12, .iload 6, 2), (14, .aload_n 0, 1), (15, .getfield 23, 3), (18, .getfield 42, 3), (21, .if_icmp .ge 36, 3), (24, .iload 5, 2), (26, .ifCond .lt 31, 3), (29, .lload_n 3, 1), (30, .iload 6, 2), (32, .lshr, 1), (33, .lconst 1, 1), (34, .land, 1), (35, .lconst 0, 1), (36, .lcmp, 1), (37, .ifCond .eq 14, 3), (40, .iload 5, 2), (42, .ifCond .ne 6, 3), (45, .iload 6, 2), (47, .ireturn, 1), (48, .iinc 5 (-1), 3), (51, .iinc 6 1, 3), (54, .goto (-42), 3), (57, .iconst (-1), 1), (58, .ireturn, 1)] : List (Nat × Instr × Nat)), decode cX2_reason q.1 = .ok q.2 := by decide +kernel
set_option maxHeartbeats 4000000 in
set_option maxRecDepth 20000 in
theorem s2_reason_c12 {Y : m_Y Int} (S : m_Std Y RX2 cX2_reason) (E : m_End Y cX2_reason .ireturn (fun r => [m_i r])) {F : Nat} (hF : m_Rm Y F) (hFn : 4 ≤ F) (hN : Y.2.2.2.1 = 7) : ∀ (v0 v3 v5 v6 : Int) (h : m_H), m_Sim Y 12 [(0, m_r v0), (3, m_j v3), (5, m_i v5), (6, m_i v6)] [] h (t2_reason_c12 v0 v3 v5 v6 h) := by
  intro v0 v3 v5 v6 h
  refine ms_all fun r e => ?_
  refine t2_reason_c12.partial_correctness v0 v3 h (motive := fun v5 v6 r => m_Sim Y 12 [(0, m_r v0), (3, m_j v3), (5, m_i v5), (6, m_i v6)] [] h (some r)) ?_ v5 v6 r e
  intro f ih v5 v6 r e
  have ih : ∀ (v5 v6 : Int) , m_Sim Y 12 [(0, m_r v0), (3, m_j v3), (5, m_i v5), (6, m_i v6)] [] h (f v5 v6 ) := fun v5 v6  => ms_all fun r e => ih v5 v6 r e
  refine ms_use ?_ e
  clear e r
  refine ms_iload (pc := 12) S 3 rfl (m_dec e2_reason 8 rfl) ?_
  refine ms_aload_n (pc := 14) S 0 rfl rfl (m_dec e2_reason 9 rfl) ?_
  refine ms_grd fun g1 => ?_
  refine ms_getf (pc := 15) S lf_X2_23 rfl (m_dec e2_reason 10 rfl) g1 ?_
  refine ms_grd fun g2 => ?_
  refine ms_getf (pc := 18) S lf_X2_42 rfl (m_dec e2_reason 11 rfl) g2 ?_
  refine ms_icmp_ge (pc := 21) S (m_dec e2_reason 12 rfl) rfl (fun q3 => ?_) (fun q3 => ?_)
  · refine ms_iload (pc := 24) S 2 rfl (m_dec e2_reason 13 rfl) ?_
    refine ms_if_lt (pc := 26) S (m_dec e2_reason 14 rfl) rfl (fun q4 => ?_) (fun q4 => ?_)
    · refine ms_iconst (pc := 57) S (m_dec e2_reason 30 rfl) ?_
      exact ms_ret (pc := 58) E (m_dec e2_reason 31 rfl) rfl
    · refine ms_lload_n (pc := 29) S 1 rfl rfl (m_dec e2_reason 15 rfl) ?_
      refine ms_iload (pc := 30) S 3 rfl (m_dec e2_reason 16 rfl) ?_
      refine ms_lshr (pc := 32) S (m_dec e2_reason 17 rfl) ?_
      refine ms_lconst (pc := 33) S (n := 1) rfl (m_dec e2_reason 18 rfl) ?_
      refine ms_land (pc := 34) S (m_dec e2_reason 19 rfl) ?_
      refine ms_lconst (pc := 35) S (n := 0) rfl (m_dec e2_reason 20 rfl) ?_
      refine ms_lcmp (pc := 36) S (m_dec e2_reason 21 rfl) ?_
      refine ms_if_eq (pc := 37) S (m_dec e2_reason 22 rfl) rfl (fun q5 => ?_) (fun q5 => ?_)
      · refine ms_iinc (pc := 51) S (L' := [(0, m_r v0), (3, m_j v3), (5, m_i v5), (6, m_i (v6 + 1))]) 3 rfl [1, 2, 3, 0] rfl (m_lt hN rfl) (m_dec e2_reason 28 rfl) ?_
        refine ms_goto (pc := 54) S (m_dec e2_reason 29 rfl) rfl ?_
        exact ih v5 (v6 + 1)
      · refine ms_iload (pc := 40) S 2 rfl (m_dec e2_reason 23 rfl) ?_
        refine ms_if_ne (pc := 42) S (m_dec e2_reason 24 rfl) rfl (fun q6 => ?_) (fun q6 => ?_)
        · refine ms_iload (pc := 45) S 3 rfl (m_dec e2_reason 25 rfl) ?_
          exact ms_ret (pc := 47) E (m_dec e2_reason 26 rfl) rfl
        · refine ms_iinc (pc := 48) S (L' := [(0, m_r v0), (3, m_j v3), (5, m_i (v5 + (-1))), (6, m_i v6)]) 2 rfl [1, 2, 0, 3] rfl (m_lt hN rfl) (m_dec e2_reason 27 rfl) ?_
          refine ms_iinc (pc := 51) S (L' := [(0, m_r v0), (3, m_j v3), (5, m_i (v5 + (-1))), (6, m_i (v6 + 1))]) 3 rfl [1, 2, 3, 0] rfl (m_lt hN rfl) (m_dec e2_reason 28 rfl) ?_
          refine ms_goto (pc := 54) S (m_dec e2_reason 29 rfl) rfl ?_
          exact ih (v5 + (-1)) (v6 + 1)
  · refine ms_iconst (pc := 57) S (m_dec e2_reason 30 rfl) ?_
    exact ms_ret (pc := 58) E (m_dec e2_reason 31 rfl) rfl
set_option maxHeartbeats 4000000 in
set_option maxRecDepth 20000 in
theorem s2_reason {Y : m_Y Int} (S : m_Std Y RX2 cX2_reason) (E : m_End Y cX2_reason .ireturn (fun r => [m_i r])) {F : Nat} (hF : m_Rm Y F) (hFn : 4 ≤ F) (hN : Y.2.2.2.1 = 7) (v0 v1 v2 : Int) (h : m_H) : m_Sim Y 0 [(0, m_r v0), (1, m_i v1), (2, m_i v2)] [] h (t2_reason v0 v1 v2 h) := by
  unfold t2_reason
  refine ms_aload_n (pc := 0) S 0 rfl rfl (m_dec e2_reason 0 rfl) ?_
  refine ms_iload_n (pc := 1) S 1 rfl rfl (m_dec e2_reason 1 rfl) ?_
  refine ms_grd fun g1 => ?_
  refine ms_callVl (pc := 2) S hF (vals := [m_i v1]) (st := []) (hc := vw_2) (hci := by decide) (hcy := rfl) (ht := g1) (hC := (k2_reasons _ _ v0 v1 h)) (hM := lm_X2_108) (hfr := (Nat.le_trans (by decide) hFn)) (hstk := rfl) (hcat := Nat.le_of_ble_eq_true rfl) (hd := (m_dec e2_reason 2 rfl)) (k1 := fun r3 h2 => ?_)
  refine ms_lstore_n (pc := 5) S (L' := [(0, m_r v0), (2, m_i v2), (3, m_j r3)]) [1, 3, 0] rfl rfl (m_lt hN rfl) (m_dec e2_reason 3 rfl) ?_
  refine ms_iload_n (pc := 6) S 1 rfl rfl (m_dec e2_reason 4 rfl) ?_
  refine ms_istore (pc := 7) S (L' := [(0, m_r v0), (3, m_j r3), (5, m_i v2)]) [1, 3, 0] rfl (m_lt hN rfl) (m_dec e2_reason 5 rfl) ?_
  refine ms_iconst (pc := 9) S (m_dec e2_reason 6 rfl) ?_
  refine ms_istore (pc := 10) S (L' := [(0, m_r v0), (3, m_j r3), (5, m_i v2), (6, m_i 0)]) [1, 2, 3, 0] rfl (m_lt hN rfl) (m_dec e2_reason 7 rfl) ?_
  exact s2_reason_c12 S E hF hFn hN v0 r3 v2 0 h2
theorem k2_reason (l : Launch) (d : m_D) (v0 v1 v2 : Int) (h : m_H) : m_Con l d yX2_reason cX2_reason 7 (some .int) 4 (fun r => [m_i r]) [m_r v0, m_i v1, m_i v2] h (t2_reason v0 v1 v2 h) :=
  m_con2 (by decide +kernel) (Nat.le_of_ble_eq_true rfl) (fun Y hN hRm hr hI S hfin => s2_reason S (m_end_i S hr hfin) hRm (Nat.le_refl _) hN v0 v1 v2 h)
set_option maxRecDepth 100000 in
theorem e2_firstPut : ∀ q ∈ ([(0, .iconst 0, 1), (1, .istore_n 3, 1), (2, .iload_n 3, 1), (3, .aload_n 0, 1), (4, .getfield 23, 3), (7, .getfield 42, 3), (10, .if_icmp .ge 30, 3), (13, .aload_n 0, 1), (14, .iload_n 3, 1), (15, .invokevirtual 136, 3), (18, .iload_n 2, 1), (19, .if_icmp .ne 15, 3), (22, .aload_n 0, 1), (23, .iload_n 3, 1), (24, .iload_n 1, 1), (25, .invokevirtual 112, 3), (28, .iconst (-1), 1), (29, .if_icmp .eq 5, 3), (32, .iload_n 3, 1), (33, .ireturn, 1), (34, .iinc 3 1, 3), (37, .goto (-35), 3), (40, .iconst (-1), 1), (41, .ireturn, 1)] : List (Nat × Instr × Nat)), decode cX2_firstPut q.1 = .ok q.2 := by decide +kernel
set_option maxHeartbeats 4000000 in
set_option maxRecDepth 20000 in
theorem s2_firstPut_c2 {Y : m_Y Int} (S : m_Std Y RX2 cX2_firstPut) (E : m_End Y cX2_firstPut .ireturn (fun r => [m_i r])) {F : Nat} (hF : m_Rm Y F) (hFn : 3 ≤ F) (hN : Y.2.2.2.1 = 4) : ∀ (v0 v1 v2 v3 : Int) (h : m_H), m_Sim Y 2 [(0, m_r v0), (1, m_i v1), (2, m_i v2), (3, m_i v3)] [] h (t2_firstPut_c2 v0 v1 v2 v3 h) := by
  intro v0 v1 v2 v3 h
  refine ms_all fun r e => ?_
  refine t2_firstPut_c2.partial_correctness v0 v1 v2 (motive := fun v3 h r => m_Sim Y 2 [(0, m_r v0), (1, m_i v1), (2, m_i v2), (3, m_i v3)] [] h (some r)) ?_ v3 h r e
  intro f ih v3 h r e
  have ih : ∀ (v3 : Int) (h : m_H), m_Sim Y 2 [(0, m_r v0), (1, m_i v1), (2, m_i v2), (3, m_i v3)] [] h (f v3 h ) := fun v3 h  => ms_all fun r e => ih v3 h r e
  refine ms_use ?_ e
  clear e r
  refine ms_iload_n (pc := 2) S 3 rfl rfl (m_dec e2_firstPut 2 rfl) ?_
  refine ms_aload_n (pc := 3) S 0 rfl rfl (m_dec e2_firstPut 3 rfl) ?_
  refine ms_grd fun g1 => ?_
  refine ms_getf (pc := 4) S lf_X2_23 rfl (m_dec e2_firstPut 4 rfl) g1 ?_
  refine ms_grd fun g2 => ?_
  refine ms_getf (pc := 7) S lf_X2_42 rfl (m_dec e2_firstPut 5 rfl) g2 ?_
  refine ms_icmp_ge (pc := 10) S (m_dec e2_firstPut 6 rfl) rfl (fun q3 => ?_) (fun q3 => ?_)
  · refine ms_aload_n (pc := 13) S 0 rfl rfl (m_dec e2_firstPut 7 rfl) ?_
    refine ms_iload_n (pc := 14) S 3 rfl rfl (m_dec e2_firstPut 8 rfl) ?_
    refine ms_callVi (pc := 15) S hF (vals := [m_i v3]) (st := []) (hc := vw_2) (hci := by decide) (hcy := rfl) (ht := g1) (hC := (k2_track _ _ v0 v3 h)) (hM := lm_X2_136) (hfr := (Nat.le_trans (by decide) hFn)) (hstk := rfl) (hcat := Nat.le_of_ble_eq_true rfl) (hd := (m_dec e2_firstPut 9 rfl)) (k1 := fun r5 h4 => ?_)
    refine ms_iload_n (pc := 18) S 2 rfl rfl (m_dec e2_firstPut 10 rfl) ?_
    refine ms_icmp_ne (pc := 19) S (m_dec e2_firstPut 11 rfl) rfl (fun q6 => ?_) (fun q6 => ?_)
    · refine ms_aload_n (pc := 22) S 0 rfl rfl (m_dec e2_firstPut 12 rfl) ?_
      refine ms_iload_n (pc := 23) S 3 rfl rfl (m_dec e2_firstPut 13 rfl) ?_
      refine ms_iload_n (pc := 24) S 1 rfl rfl (m_dec e2_firstPut 14 rfl) ?_
      refine ms_grd fun g7 => ?_
      refine ms_callVi (pc := 25) S hF (vals := [m_i v3, m_i v1]) (st := []) (hc := vw_2) (hci := by decide) (hcy := rfl) (ht := g7) (hC := (k2_beginWith _ _ v0 v3 v1 h4)) (hM := lm_X2_112) (hfr := (Nat.le_trans (by decide) hFn)) (hstk := rfl) (hcat := Nat.le_of_ble_eq_true rfl) (hd := (m_dec e2_firstPut 15 rfl)) (k1 := fun r9 h8 => ?_)
      refine ms_iconst (pc := 28) S (m_dec e2_firstPut 16 rfl) ?_
      refine ms_icmp_eq (pc := 29) S (m_dec e2_firstPut 17 rfl) rfl (fun q10 => ?_) (fun q10 => ?_)
      · refine ms_iinc (pc := 34) S (L' := [(0, m_r v0), (1, m_i v1), (2, m_i v2), (3, m_i (v3 + 1))]) 3 rfl [1, 2, 3, 0] rfl (m_lt hN rfl) (m_dec e2_firstPut 20 rfl) ?_
        refine ms_goto (pc := 37) S (m_dec e2_firstPut 21 rfl) rfl ?_
        exact ih (v3 + 1) h8
      · refine ms_iload_n (pc := 32) S 3 rfl rfl (m_dec e2_firstPut 18 rfl) ?_
        exact ms_ret (pc := 33) E (m_dec e2_firstPut 19 rfl) rfl
    · refine ms_iinc (pc := 34) S (L' := [(0, m_r v0), (1, m_i v1), (2, m_i v2), (3, m_i (v3 + 1))]) 3 rfl [1, 2, 3, 0] rfl (m_lt hN rfl) (m_dec e2_firstPut 20 rfl) ?_
      refine ms_goto (pc := 37) S (m_dec e2_firstPut 21 rfl) rfl ?_
      exact ih (v3 + 1) h4
  · refine ms_iconst (pc := 40) S (m_dec e2_firstPut 22 rfl) ?_
    exact ms_ret (pc := 41) E (m_dec e2_firstPut 23 rfl) rfl
set_option maxHeartbeats 4000000 in
set_option maxRecDepth 20000 in
theorem s2_firstPut {Y : m_Y Int} (S : m_Std Y RX2 cX2_firstPut) (E : m_End Y cX2_firstPut .ireturn (fun r => [m_i r])) {F : Nat} (hF : m_Rm Y F) (hFn : 3 ≤ F) (hN : Y.2.2.2.1 = 4) (v0 v1 v2 : Int) (h : m_H) : m_Sim Y 0 [(0, m_r v0), (1, m_i v1), (2, m_i v2)] [] h (t2_firstPut v0 v1 v2 h) := by
  unfold t2_firstPut
  refine ms_iconst (pc := 0) S (m_dec e2_firstPut 0 rfl) ?_
  refine ms_istore_n (pc := 1) S (L' := [(0, m_r v0), (1, m_i v1), (2, m_i v2), (3, m_i 0)]) [1, 2, 3, 0] rfl rfl (m_lt hN rfl) (m_dec e2_firstPut 1 rfl) ?_
  exact s2_firstPut_c2 S E hF hFn hN v0 v1 v2 0 h
theorem k2_firstPut (l : Launch) (d : m_D) (v0 v1 v2 : Int) (h : m_H) : m_Con l d yX2_firstPut cX2_firstPut 4 (some .int) 3 (fun r => [m_i r]) [m_r v0, m_i v1, m_i v2] h (t2_firstPut v0 v1 v2 h) :=
  m_con2 (by decide +kernel) (Nat.le_of_ble_eq_true rfl) (fun Y hN hRm hr hI S hfin => s2_firstPut S (m_end_i S hr hfin) hRm (Nat.le_refl _) hN v0 v1 v2 h)
set_option maxRecDepth 100000 in
theorem e6_isSource : ∀ q ∈ ([(0, .aload_n 0, 1), (1, .iload_n 1, 1), (2, .iconst 0, 1), (3, .invokevirtual 22, 3), (6, .istore_n 2, 1), (7, .iload_n 2, 1), (8, .ifCond .eq 8, 3), (11, .iload_n 2, 1), (12, .iconst 1, 1), (13, .if_icmp .ne 7, 3), (16, .iconst 1, 1), (17, .goto 4, 3), (20, .iconst 0, 1), (21, .ireturn, 1)] : List (Nat × Instr × Nat)), decode cX6_isSource q.1 = .ok q.2 := by decide +kernel
set_option maxHeartbeats 4000000 in
set_option maxRecDepth 20000 in
theorem s6_isSource {Y : m_Y Bool} (S : m_Std Y RX6 cX6_isSource) (E : m_End Y cX6_isSource .ireturn (fun r => [m_i (m_b2i r)])) {F : Nat} (hF : m_Rm Y F) (hFn : 1 ≤ F) (hN : Y.2.2.2.1 = 3) (v0 v1 : Int) (h : m_H) : m_Sim Y 0 [(0, m_r v0), (1, m_i v1)] [] h (t6_isSource v0 v1 h) := by
  unfold t6_isSource
  refine ms_aload_n (pc := 0) S 0 rfl rfl (m_dec e6_isSource 0 rfl) ?_
  refine ms_iload_n (pc := 1) S 1 rfl rfl (m_dec e6_isSource 1 rfl) ?_
  refine ms_iconst (pc := 2) S (m_dec e6_isSource 2 rfl) ?_
  refine ms_grd fun g1 => ?_
  refine ms_callVi (pc := 3) S hF (vals := [m_i v1, m_i 0]) (st := []) (hc := vw_6) (hci := by decide) (hcy := rfl) (ht := g1) (hC := (k6_cell _ _ v0 v1 0 h)) (hM := lm_X6_22) (hfr := (Nat.le_trans (by decide) hFn)) (hstk := rfl) (hcat := Nat.le_of_ble_eq_true rfl) (hd := (m_dec e6_isSource 3 rfl)) (k1 := fun r3 h2 => ?_)
  refine ms_istore_n (pc := 6) S (L' := [(2, m_i r3)]) [0] rfl rfl (m_lt hN rfl) (m_dec e6_isSource 4 rfl) ?_
  refine ms_iload_n (pc := 7) S 0 rfl rfl (m_dec e6_isSource 5 rfl) ?_
  refine ms_if_eq (pc := 8) S (m_dec e6_isSource 6 rfl) rfl (fun q4 => ?_) (fun q4 => ?_)
  · refine ms_iconst (pc := 16) S (m_dec e6_isSource 10 rfl) ?_
    refine ms_goto (pc := 17) S (m_dec e6_isSource 11 rfl) rfl ?_
    exact ms_ret (pc := 21) E (m_dec e6_isSource 13 rfl) rfl
  · refine ms_iload_n (pc := 11) S 0 rfl rfl (m_dec e6_isSource 7 rfl) ?_
    refine ms_iconst (pc := 12) S (m_dec e6_isSource 8 rfl) ?_
    refine ms_icmp_ne (pc := 13) S (m_dec e6_isSource 9 rfl) rfl (fun q5 => ?_) (fun q5 => ?_)
    · refine ms_iconst (pc := 16) S (m_dec e6_isSource 10 rfl) ?_
      refine ms_goto (pc := 17) S (m_dec e6_isSource 11 rfl) rfl ?_
      exact ms_ret (pc := 21) E (m_dec e6_isSource 13 rfl) rfl
    · refine ms_iconst (pc := 20) S (m_dec e6_isSource 12 rfl) ?_
      exact ms_ret (pc := 21) E (m_dec e6_isSource 13 rfl) rfl
theorem k6_isSource (l : Launch) (d : m_D) (v0 v1 : Int) (h : m_H) : m_Con l d yX6_isSource cX6_isSource 3 (some .boolean) 1 (fun r => [m_i (m_b2i r)]) [m_r v0, m_i v1] h (t6_isSource v0 v1 h) :=
  m_con2 (by decide +kernel) (Nat.le_of_ble_eq_true rfl) (fun Y hN hRm hr hI S hfin => s6_isSource S (m_end_z S hr hfin) hRm (Nat.le_refl _) hN v0 v1 h)
set_option maxRecDepth 100000 in
theorem e6_number : ∀ q ∈ ([(0, .aload_n 0, 1), (1, .iload_n 1, 1), (2, .iconst 3, 1), (3, .iload_n 2, 1), (4, .iadd, 1), (5, .invokevirtual 22, 3), (8, .ireturn, 1)] : List (Nat × Instr × Nat)), decode cX6_number q.1 = .ok q.2 := by decide +kernel
set_option maxHeartbeats 4000000 in
set_option maxRecDepth 20000 in
theorem s6_number {Y : m_Y Int} (S : m_Std Y RX6 cX6_number) (E : m_End Y cX6_number .ireturn (fun r => [m_i r])) {F : Nat} (hF : m_Rm Y F) (hFn : 1 ≤ F) (hN : Y.2.2.2.1 = 3) (v0 v1 v2 : Int) (h : m_H) : m_Sim Y 0 [(0, m_r v0), (1, m_i v1), (2, m_i v2)] [] h (t6_number v0 v1 v2 h) := by
  unfold t6_number
  refine ms_aload_n (pc := 0) S 0 rfl rfl (m_dec e6_number 0 rfl) ?_
  refine ms_iload_n (pc := 1) S 1 rfl rfl (m_dec e6_number 1 rfl) ?_
  refine ms_iconst (pc := 2) S (m_dec e6_number 2 rfl) ?_
  refine ms_iload_n (pc := 3) S 2 rfl rfl (m_dec e6_number 3 rfl) ?_
  refine ms_iadd (pc := 4) S (m_dec e6_number 4 rfl) ?_
  refine ms_grd fun g1 => ?_
  refine ms_callVi (pc := 5) S hF (vals := [m_i v1, m_i (3 + v2)]) (st := []) (hc := vw_6) (hci := by decide) (hcy := rfl) (ht := g1) (hC := (k6_cell _ _ v0 v1 (3 + v2) h)) (hM := lm_X6_22) (hfr := (Nat.le_trans (by decide) hFn)) (hstk := rfl) (hcat := Nat.le_of_ble_eq_true rfl) (hd := (m_dec e6_number 5 rfl)) (k1 := fun r3 h2 => ?_)
  exact ms_ret (pc := 8) E (m_dec e6_number 6 rfl) rfl
theorem k6_number (l : Launch) (d : m_D) (v0 v1 v2 : Int) (h : m_H) : m_Con l d yX6_number cX6_number 3 (some .int) 1 (fun r => [m_i r]) [m_r v0, m_i v1, m_i v2] h (t6_number v0 v1 v2 h) :=
  m_con2 (by decide +kernel) (Nat.le_of_ble_eq_true rfl) (fun Y hN hRm hr hI S hfin => s6_number S (m_end_i S hr hfin) hRm (Nat.le_refl _) hN v0 v1 v2 h)
set_option maxRecDepth 100000 in
theorem e6_verb : ∀ q ∈ ([(0, .aload_n 0, 1), (1, .iload_n 1, 1), (2, .iconst 0, 1), (3, .invokevirtual 22, 3), (6, .ireturn, 1)] : List (Nat × Instr × Nat)), decode cX6_verb q.1 = .ok q.2 := by decide +kernel
set_option maxHeartbeats 4000000 in
set_option maxRecDepth 20000 in
theorem s6_verb {Y : m_Y Int} (S : m_Std Y RX6 cX6_verb) (E : m_End Y cX6_verb .ireturn (fun r => [m_i r])) {F : Nat} (hF : m_Rm Y F) (hFn : 1 ≤ F) (hN : Y.2.2.2.1 = 2) (v0 v1 : Int) (h : m_H) : m_Sim Y 0 [(0, m_r v0), (1, m_i v1)] [] h (t6_verb v0 v1 h) := by
  unfold t6_verb
  refine ms_aload_n (pc := 0) S 0 rfl rfl (m_dec e6_verb 0 rfl) ?_
  refine ms_iload_n (pc := 1) S 1 rfl rfl (m_dec e6_verb 1 rfl) ?_
  refine ms_iconst (pc := 2) S (m_dec e6_verb 2 rfl) ?_
  refine ms_grd fun g1 => ?_
  refine ms_callVi (pc := 3) S hF (vals := [m_i v1, m_i 0]) (st := []) (hc := vw_6) (hci := by decide) (hcy := rfl) (ht := g1) (hC := (k6_cell _ _ v0 v1 0 h)) (hM := lm_X6_22) (hfr := (Nat.le_trans (by decide) hFn)) (hstk := rfl) (hcat := Nat.le_of_ble_eq_true rfl) (hd := (m_dec e6_verb 3 rfl)) (k1 := fun r3 h2 => ?_)
  exact ms_ret (pc := 6) E (m_dec e6_verb 4 rfl) rfl
theorem k6_verb (l : Launch) (d : m_D) (v0 v1 : Int) (h : m_H) : m_Con l d yX6_verb cX6_verb 2 (some .int) 1 (fun r => [m_i r]) [m_r v0, m_i v1] h (t6_verb v0 v1 h) :=
  m_con2 (by decide +kernel) (Nat.le_of_ble_eq_true rfl) (fun Y hN hRm hr hI S hfin => s6_verb S (m_end_i S hr hfin) hRm (Nat.le_refl _) hN v0 v1 h)
set_option maxRecDepth 100000 in
theorem e2_quotient : ∀ q ∈ ([(0, .iload_n 1, 1), (1, .iconst 1, 1), (2, .if_icmp .ge 7, 3), (5, .iconst 0, 1), (6, .goto 6, 3), (9, .iload_n 0, 1), (10, .iload_n 1, 1), (11, .idiv, 1), (12, .ireturn, 1)] : List (Nat × Instr × Nat)), decode cX2_quotient q.1 = .ok q.2 := by decide +kernel
set_option maxHeartbeats 4000000 in
set_option maxRecDepth 20000 in
theorem s2_quotient {Y : m_Y Int} (S : m_Std Y RX2 cX2_quotient) (E : m_End Y cX2_quotient .ireturn (fun r => [m_i r])) {F : Nat} (hF : m_Rm Y F) (hFn : 0 ≤ F) (hN : Y.2.2.2.1 = 2) (v0 v1 : Int) (h : m_H) : m_Sim Y 0 [(0, m_i v0), (1, m_i v1)] [] h (t2_quotient v0 v1 h) := by
  unfold t2_quotient
  refine ms_iload_n (pc := 0) S 1 rfl rfl (m_dec e2_quotient 0 rfl) ?_
  refine ms_iconst (pc := 1) S (m_dec e2_quotient 1 rfl) ?_
  refine ms_icmp_ge (pc := 2) S (m_dec e2_quotient 2 rfl) rfl (fun q1 => ?_) (fun q1 => ?_)
  · refine ms_iconst (pc := 5) S (m_dec e2_quotient 3 rfl) ?_
    refine ms_goto (pc := 6) S (m_dec e2_quotient 4 rfl) rfl ?_
    exact ms_ret (pc := 12) E (m_dec e2_quotient 8 rfl) rfl
  · refine ms_iload_n (pc := 9) S 0 rfl rfl (m_dec e2_quotient 5 rfl) ?_
    refine ms_iload_n (pc := 10) S 1 rfl rfl (m_dec e2_quotient 6 rfl) ?_
    refine ms_idiv (pc := 11) S (m_dec e2_quotient 7 rfl) ?_
    exact ms_ret (pc := 12) E (m_dec e2_quotient 8 rfl) rfl
theorem k2_quotient (l : Launch) (d : m_D) (v0 v1 : Int) (h : m_H) : m_Con l d yX2_quotient cX2_quotient 2 (some .int) 0 (fun r => [m_i r]) [m_i v0, m_i v1] h (t2_quotient v0 v1 h) :=
  m_con2 (by decide +kernel) (Nat.le_of_ble_eq_true rfl) (fun Y hN hRm hr hI S hfin => s2_quotient S (m_end_i S hr hfin) hRm (Nat.le_refl _) hN v0 v1 h)
set_option maxRecDepth 100000 in
theorem e7_machineOf : ∀ q ∈ ([(0, .iload_n 1, 1), (1, .ifCond .lt 29, 3), (4, .iload_n 1, 1), (5, .aload_n 0, 1), (6, .getfield 44, 3), (9, .if_icmp .ge 21, 3), (12, .iload_n 1, 1), (13, .aload_n 0, 1), (14, .getfield 19, 3), (17, .arraylength, 1), (18, .if_icmp .ge 12, 3), (21, .aload_n 0, 1), (22, .getfield 19, 3), (25, .iload_n 1, 1), (26, .aaload, 1), (27, .goto 4, 3), (30, .aconst_null, 1), (31, .areturn, 1)] : List (Nat × Instr × Nat)), decode cX7_machineOf q.1 = .ok q.2 := by decide +kernel
set_option maxHeartbeats 4000000 in
set_option maxRecDepth 20000 in
theorem s7_machineOf {Y : m_Y Int} (S : m_Std Y RX7 cX7_machineOf) (E : m_End Y cX7_machineOf .areturn (fun r => [m_r r])) {F : Nat} (hF : m_Rm Y F) (hFn : 0 ≤ F) (hN : Y.2.2.2.1 = 2) (v0 v1 : Int) (h : m_H) : m_Sim Y 0 [(0, m_r v0), (1, m_i v1)] [] h (t7_machineOf v0 v1 h) := by
  unfold t7_machineOf
  refine ms_iload_n (pc := 0) S 1 rfl rfl (m_dec e7_machineOf 0 rfl) ?_
  refine ms_if_lt (pc := 1) S (m_dec e7_machineOf 1 rfl) rfl (fun q1 => ?_) (fun q1 => ?_)
  · refine ms_null (pc := 30) S (m_dec e7_machineOf 16 rfl) ?_
    exact ms_ret (pc := 31) E (m_dec e7_machineOf 17 rfl) rfl
  · refine ms_iload_n (pc := 4) S 1 rfl rfl (m_dec e7_machineOf 2 rfl) ?_
    refine ms_aload_n (pc := 5) S 0 rfl rfl (m_dec e7_machineOf 3 rfl) ?_
    refine ms_grd fun g2 => ?_
    refine ms_getf (pc := 6) S lf_X7_44 rfl (m_dec e7_machineOf 4 rfl) g2 ?_
    refine ms_icmp_ge (pc := 9) S (m_dec e7_machineOf 5 rfl) rfl (fun q3 => ?_) (fun q3 => ?_)
    · refine ms_iload_n (pc := 12) S 1 rfl rfl (m_dec e7_machineOf 6 rfl) ?_
      refine ms_aload_n (pc := 13) S 0 rfl rfl (m_dec e7_machineOf 7 rfl) ?_
      refine ms_getf (pc := 14) S lf_X7_19 rfl (m_dec e7_machineOf 8 rfl) g2 ?_
      refine ms_grd fun g4 => ?_
      refine ms_alen (pc := 17) S g4 (m_dec e7_machineOf 9 rfl) ?_
      refine ms_icmp_ge (pc := 18) S (m_dec e7_machineOf 10 rfl) rfl (fun q5 => ?_) (fun q5 => ?_)
      · refine ms_aload_n (pc := 21) S 0 rfl rfl (m_dec e7_machineOf 11 rfl) ?_
        refine ms_getf (pc := 22) S lf_X7_19 rfl (m_dec e7_machineOf 12 rfl) g2 ?_
        refine ms_iload_n (pc := 25) S 1 rfl rfl (m_dec e7_machineOf 13 rfl) ?_
        refine ms_grd fun g6 => ?_
        refine ms_aald (pc := 26) S 25 (by decide) (fun _ => rfl) rfl g6 (m_dec e7_machineOf 14 rfl) ?_
        refine ms_goto (pc := 27) S (m_dec e7_machineOf 15 rfl) rfl ?_
        exact ms_ret (pc := 31) E (m_dec e7_machineOf 17 rfl) rfl
      · refine ms_null (pc := 30) S (m_dec e7_machineOf 16 rfl) ?_
        exact ms_ret (pc := 31) E (m_dec e7_machineOf 17 rfl) rfl
    · refine ms_null (pc := 30) S (m_dec e7_machineOf 16 rfl) ?_
      exact ms_ret (pc := 31) E (m_dec e7_machineOf 17 rfl) rfl
theorem k7_machineOf (l : Launch) (d : m_D) (v0 v1 : Int) (h : m_H) : m_Con l d yX7_machineOf cX7_machineOf 2 (some (.object "TapeStudio$Machine")) 0 (fun r => [m_r r]) [m_r v0, m_i v1] h (t7_machineOf v0 v1 h) :=
  m_con2 (by decide +kernel) (Nat.le_of_ble_eq_true rfl) (fun Y hN hRm hr hI S hfin => s7_machineOf S (m_end_a S (by first | exact Or.inl ⟨_, rfl⟩ | exact Or.inr ⟨_, rfl⟩) hr hfin) hRm (Nat.le_refl _) hN v0 v1 h)
set_option maxRecDepth 100000 in
theorem e2_stepBack : ∀ q ∈ ([(0, .aload_n 0, 1), (1, .getfield 124, 3), (4, .istore_n 1, 1), (5, .aload_n 0, 1), (6, .getfield 23, 3), (9, .iload_n 1, 1), (10, .invokevirtual 60, 3), (13, .istore_n 2, 1), (14, .aload_n 0, 1), (15, .getfield 23, 3), (18, .iload_n 1, 1), (19, .iconst 0, 1), (20, .invokevirtual 139, 3), (23, .istore_n 3, 1), (24, .aload_n 0, 1), (25, .iload_n 2, 1), (26, .putfield 124, 3), (29, .aload_n 0, 1), (30, .getfield 23, 3), (33, .iload_n 1, 1), (34, .invokevirtual 141, 3), (37, .tableswitch 216 2 8 #[43, 56, 75, 143, 186, 216, 100], 43), (80, .aload_n 0, 1), (81, .dup, 1), (82, .getfield 127, 3), (85, .iload_n 3, 1), (86, .iadd, 1), (87, .putfield 127, 3), (90, .goto 163, 3), (93, .aload_n 0, 1), (94, .aload_n 0, 1), (95, .iload_n 2, 1), (96, .invokevirtual 79, 3), (99, .iconst 1, 1), (100, .isub, 1), (101, .aload_n 0, 1), (102, .getfield 127, 3), (105, .isub, 1), (106, .putfield 127, 3), (109, .goto 144, 3), (112, .aload_n 0, 1), (113, .aload_n 0, 1), (114, .getfield 127, 3), (117, .iload_n 3, 1), (118, .imul, 1), (119, .aload_n 0, 1), (120, .getfield 23, 3), (123, .iload_n 1, 1), (124, .iconst 1, 1), (125, .invokevirtual 139, 3), (128, .invokestatic 144, 3), (131, .putfield 127, 3), (134, .goto 119, 3), (137, .aload_n 0, 1), (138, .getfield 38, 3), (141, .iload_n 3, 1), (142, .invokevirtual 147, 3), (145, .astore 4, 2), (147, .aload_n 0, 1), (148, .aload 4, 2), (150, .ifnonnull 10, 3), (153, .aload_n 0, 1), (154, .getfield 127, 3), (157, .goto 17, 3), (160, .aload_n 0, 1), (161, .getfield 127, 3), (164, .aload 4, 2), (166, .invokevirtual 153, 3), (169, .imul, 1), (170, .sipush 1000, 3), (173, .idiv, 1), (174, .putfield 127, 3), (177, .goto 76, 3), (180, .aload_n 0, 1), (181, .getfield 127, 3), (184, .aload_n 0, 1), (185, .iload_n 2, 1), (186, .invokevirtual 79, 3), (189, .if_icmp .lt 64, 3), (192, .aload_n 0, 1), (193, .aload_n 0, 1), (194, .getfield 23, 3), (197, .iload_n 1, 1), (198, .invokevirtual 118, 3), (201, .putfield 124, 3), (204, .aload_n 0, 1), (205, .dup, 1), (206, .getfield 127, 3), (209, .iload_n 3, 1), (210, .aload_n 0, 1), (211, .iload_n 2, 1), (212, .invokevirtual 79, 3), (215, .isub, 1), (216, .iadd, 1), (217, .putfield 127, 3), (220, .goto 33, 3), (223, .aload_n 0, 1), (224, .aload_n 0, 1), (225, .iload_n 2, 1), (226, .invokevirtual 79, 3), (229, .iconst 1, 1), (230, .if_icmp .ge 7, 3), (233, .iconst 0, 1), (234, .goto 13, 3), (237, .aload_n 0, 1), (238, .getfield 127, 3), (241, .aload_n 0, 1), (242, .iload_n 2, 1), (243, .invokevirtual 79, 3), (246, .irem, 1), (247, .putfield 127, 3), (250, .goto 3, 3), (253, .return_, 1)] : List (Nat × Instr × Nat)), decode cX2_stepBack q.1 = .ok q.2 := by decide +kernel
set_option maxHeartbeats 4000000 in
set_option maxRecDepth 20000 in
theorem s2_stepBack {Y : m_Y Unit} (S : m_Std Y RX2 cX2_stepBack) (E : m_End Y cX2_stepBack .return_ (fun _ => [])) {F : Nat} (hF : m_Rm Y F) (hFn : 2 ≤ F) (hN : Y.2.2.2.1 = 5) (v0 : Int) (h : m_H) : m_Sim Y 0 [(0, m_r v0)] [] h (t2_stepBack v0 h) := by
  unfold t2_stepBack
  refine ms_aload_n (pc := 0) S 0 rfl rfl (m_dec e2_stepBack 0 rfl) ?_
  refine ms_grd fun g1 => ?_
  refine ms_getf (pc := 1) S lf_X2_124 rfl (m_dec e2_stepBack 1 rfl) g1 ?_
  refine ms_nm (st := fun x2 => [m_i x2]) fun x2 => ?_
  refine ms_istore_n (pc := 4) S (L' := [(0, m_r v0), (1, m_i x2)]) [1, 0] rfl rfl (m_lt hN rfl) (m_dec e2_stepBack 2 rfl) ?_
  refine ms_aload_n (pc := 5) S 0 rfl rfl (m_dec e2_stepBack 3 rfl) ?_
  refine ms_getf (pc := 6) S lf_X2_23 rfl (m_dec e2_stepBack 4 rfl) g1 ?_
  refine ms_iload_n (pc := 9) S 1 rfl rfl (m_dec e2_stepBack 5 rfl) ?_
  refine ms_grd fun g3 => ?_
  refine ms_callVi (pc := 10) S hF (vals := [m_i x2]) (st := []) (hc := vw_6) (hci := by decide) (hcy := rfl) (ht := g3) (hC := (k6_one _ _ (m_g h v0 2) x2 h)) (hM := lm_X2_60) (hfr := (Nat.le_trans (by decide) hFn)) (hstk := rfl) (hcat := Nat.le_of_ble_eq_true rfl) (hd := (m_dec e2_stepBack 6 rfl)) (k1 := fun r5 h4 => ?_)
  refine ms_istore_n (pc := 13) S (L' := [(0, m_r v0), (1, m_i x2), (2, m_i r5)]) [1, 2, 0] rfl rfl (m_lt hN rfl) (m_dec e2_stepBack 7 rfl) ?_
  refine ms_aload_n (pc := 14) S 0 rfl rfl (m_dec e2_stepBack 8 rfl) ?_
  refine ms_grd fun g6 => ?_
  refine ms_getf (pc := 15) S lf_X2_23 rfl (m_dec e2_stepBack 9 rfl) g6 ?_
  refine ms_iload_n (pc := 18) S 1 rfl rfl (m_dec e2_stepBack 10 rfl) ?_
  refine ms_iconst (pc := 19) S (m_dec e2_stepBack 11 rfl) ?_
  refine ms_grd fun g7 => ?_
  refine ms_callVi (pc := 20) S hF (vals := [m_i x2, m_i 0]) (st := []) (hc := vw_6) (hci := by decide) (hcy := rfl) (ht := g7) (hC := (k6_number _ _ (m_g h4 v0 2) x2 0 h4)) (hM := lm_X2_139) (hfr := (Nat.le_trans (by decide) hFn)) (hstk := rfl) (hcat := Nat.le_of_ble_eq_true rfl) (hd := (m_dec e2_stepBack 12 rfl)) (k1 := fun r9 h8 => ?_)
  refine ms_istore_n (pc := 23) S (L' := [(0, m_r v0), (1, m_i x2), (2, m_i r5), (3, m_i r9)]) [1, 2, 3, 0] rfl rfl (m_lt hN rfl) (m_dec e2_stepBack 13 rfl) ?_
  refine ms_aload_n (pc := 24) S 0 rfl rfl (m_dec e2_stepBack 14 rfl) ?_
  refine ms_iload_n (pc := 25) S 2 rfl rfl (m_dec e2_stepBack 15 rfl) ?_
  refine ms_grd fun g10 => ?_
  refine ms_putf (pc := 26) S lp_X2_124 (fun z => by cases z) rfl (fun d => m_fitI d _) (m_dec e2_stepBack 16 rfl) g10 (fun h11 => ?_)
  refine ms_aload_n (pc := 29) S 0 rfl rfl (m_dec e2_stepBack 17 rfl) ?_
  refine ms_grd fun g12 => ?_
  refine ms_getf (pc := 30) S lf_X2_23 rfl (m_dec e2_stepBack 18 rfl) g12 ?_
  refine ms_iload_n (pc := 33) S 1 rfl rfl (m_dec e2_stepBack 19 rfl) ?_
  refine ms_grd fun g13 => ?_
  refine ms_callVi (pc := 34) S hF (vals := [m_i x2]) (st := []) (hc := vw_6) (hci := by decide) (hcy := rfl) (ht := g13) (hC := (k6_verb _ _ (m_g h11 v0 2) x2 h11)) (hM := lm_X2_141) (hfr := (Nat.le_trans (by decide) hFn)) (hstk := rfl) (hcat := Nat.le_of_ble_eq_true rfl) (hd := (m_dec e2_stepBack 20 rfl)) (k1 := fun r15 h14 => ?_)
  refine ms_ite (fun q16 => ?_) (fun q16 => ?_)
  · refine ms_swIn (pc := 37) S (m_dec e2_stepBack 21 rfl) 2 q16 (by decide) (by decide) rfl rfl ?_
    refine ms_aload_n (pc := 80) S 0 rfl rfl (m_dec e2_stepBack 22 rfl) ?_
    refine ms_dup (pc := 81) S rfl (m_dec e2_stepBack 23 rfl) ?_
    refine ms_grd fun g17 => ?_
    refine ms_getf (pc := 82) S lf_X2_127 rfl (m_dec e2_stepBack 24 rfl) g17 ?_
    refine ms_iload_n (pc := 85) S 3 rfl rfl (m_dec e2_stepBack 25 rfl) ?_
    refine ms_iadd (pc := 86) S (m_dec e2_stepBack 26 rfl) ?_
    refine ms_putf (pc := 87) S lp_X2_127 (fun z => by cases z) rfl (fun d => m_fitI d _) (m_dec e2_stepBack 27 rfl) g17 (fun h18 => ?_)
    refine ms_goto (pc := 90) S (m_dec e2_stepBack 28 rfl) rfl ?_
    exact ms_ret (pc := 253) E (m_dec e2_stepBack 112 rfl) rfl
  · refine ms_ite (fun q19 => ?_) (fun q19 => ?_)
    · refine ms_swIn (pc := 37) S (m_dec e2_stepBack 21 rfl) 3 q19 (by decide) (by decide) rfl rfl ?_
      refine ms_aload_n (pc := 93) S 0 rfl rfl (m_dec e2_stepBack 29 rfl) ?_
      refine ms_aload_n (pc := 94) S 0 rfl rfl (m_dec e2_stepBack 30 rfl) ?_
      refine ms_iload_n (pc := 95) S 2 rfl rfl (m_dec e2_stepBack 31 rfl) ?_
      refine ms_grd fun g20 => ?_
      refine ms_callVi (pc := 96) S hF (vals := [m_i r5]) (st := [m_r v0]) (hc := vw_2) (hci := by decide) (hcy := rfl) (ht := g20) (hC := (k2_length _ _ v0 r5 h14)) (hM := lm_X2_79) (hfr := (Nat.le_trans (by decide) hFn)) (hstk := rfl) (hcat := Nat.le_of_ble_eq_true rfl) (hd := (m_dec e2_stepBack 32 rfl)) (k1 := fun r22 h21 => ?_)
      refine ms_iconst (pc := 99) S (m_dec e2_stepBack 33 rfl) ?_
      refine ms_isub (pc := 100) S (m_dec e2_stepBack 34 rfl) ?_
      refine ms_aload_n (pc := 101) S 0 rfl rfl (m_dec e2_stepBack 35 rfl) ?_
      refine ms_grd fun g23 => ?_
      refine ms_getf (pc := 102) S lf_X2_127 rfl (m_dec e2_stepBack 36 rfl) g23 ?_
      refine ms_isub (pc := 105) S (m_dec e2_stepBack 37 rfl) ?_
      refine ms_putf (pc := 106) S lp_X2_127 (fun z => by cases z) rfl (fun d => m_fitI d _) (m_dec e2_stepBack 38 rfl) g23 (fun h24 => ?_)
      refine ms_goto (pc := 109) S (m_dec e2_stepBack 39 rfl) rfl ?_
      exact ms_ret (pc := 253) E (m_dec e2_stepBack 112 rfl) rfl
    · refine ms_ite (fun q25 => ?_) (fun q25 => ?_)
      · refine ms_swIn (pc := 37) S (m_dec e2_stepBack 21 rfl) 4 q25 (by decide) (by decide) rfl rfl ?_
        refine ms_aload_n (pc := 112) S 0 rfl rfl (m_dec e2_stepBack 40 rfl) ?_
        refine ms_aload_n (pc := 113) S 0 rfl rfl (m_dec e2_stepBack 41 rfl) ?_
        refine ms_grd fun g26 => ?_
        refine ms_getf (pc := 114) S lf_X2_127 rfl (m_dec e2_stepBack 42 rfl) g26 ?_
        refine ms_iload_n (pc := 117) S 3 rfl rfl (m_dec e2_stepBack 43 rfl) ?_
        refine ms_imul (pc := 118) S (m_dec e2_stepBack 44 rfl) ?_
        refine ms_aload_n (pc := 119) S 0 rfl rfl (m_dec e2_stepBack 45 rfl) ?_
        refine ms_getf (pc := 120) S lf_X2_23 rfl (m_dec e2_stepBack 46 rfl) g26 ?_
        refine ms_iload_n (pc := 123) S 1 rfl rfl (m_dec e2_stepBack 47 rfl) ?_
        refine ms_iconst (pc := 124) S (m_dec e2_stepBack 48 rfl) ?_
        refine ms_grd fun g27 => ?_
        refine ms_callVi (pc := 125) S hF (vals := [m_i x2, m_i 1]) (st := [m_i ((m_g h14 v0 7) * r9), m_r v0]) (hc := vw_6) (hci := by decide) (hcy := rfl) (ht := g27) (hC := (k6_number _ _ (m_g h14 v0 2) x2 1 h14)) (hM := lm_X2_139) (hfr := (Nat.le_trans (by decide) hFn)) (hstk := rfl) (hcat := Nat.le_of_ble_eq_true rfl) (hd := (m_dec e2_stepBack 49 rfl)) (k1 := fun r29 h28 => ?_)
        refine ms_callSi (pc := 128) S hF (vals := [m_i ((m_g h14 v0 7) * r9), m_i r29]) (st := [m_r v0])  (hC := (k2_quotient _ _ ((m_g h14 v0 7) * r9) r29 h28)) (hM := lm_X2_144) (hfr := (Nat.le_trans (by decide) hFn)) (hstk := rfl) (hcat := Nat.le_of_ble_eq_true rfl) (hd := (m_dec e2_stepBack 50 rfl)) (k1 := fun r31 h30 => ?_)
        refine ms_grd fun g32 => ?_
        refine ms_putf (pc := 131) S lp_X2_127 (fun z => by cases z) rfl (fun d => m_fitI d _) (m_dec e2_stepBack 51 rfl) g32 (fun h33 => ?_)
        refine ms_goto (pc := 134) S (m_dec e2_stepBack 52 rfl) rfl ?_
        exact ms_ret (pc := 253) E (m_dec e2_stepBack 112 rfl) rfl
      · refine ms_ite (fun q34 => ?_) (fun q34 => ?_)
        · refine ms_swIn (pc := 37) S (m_dec e2_stepBack 21 rfl) 5 q34 (by decide) (by decide) rfl rfl ?_
          refine ms_aload_n (pc := 180) S 0 rfl rfl (m_dec e2_stepBack 73 rfl) ?_
          refine ms_grd fun g35 => ?_
          refine ms_getf (pc := 181) S lf_X2_127 rfl (m_dec e2_stepBack 74 rfl) g35 ?_
          refine ms_aload_n (pc := 184) S 0 rfl rfl (m_dec e2_stepBack 75 rfl) ?_
          refine ms_iload_n (pc := 185) S 2 rfl rfl (m_dec e2_stepBack 76 rfl) ?_
          refine ms_callVi (pc := 186) S hF (vals := [m_i r5]) (st := [m_i (m_g h14 v0 7)]) (hc := vw_2) (hci := by decide) (hcy := rfl) (ht := g35) (hC := (k2_length _ _ v0 r5 h14)) (hM := lm_X2_79) (hfr := (Nat.le_trans (by decide) hFn)) (hstk := rfl) (hcat := Nat.le_of_ble_eq_true rfl) (hd := (m_dec e2_stepBack 77 rfl)) (k1 := fun r37 h36 => ?_)
          refine ms_icmp_lt (pc := 189) S (m_dec e2_stepBack 78 rfl) rfl (fun q38 => ?_) (fun q38 => ?_)
          · exact ms_ret (pc := 253) E (m_dec e2_stepBack 112 rfl) rfl
          · refine ms_aload_n (pc := 192) S 0 rfl rfl (m_dec e2_stepBack 79 rfl) ?_
            refine ms_aload_n (pc := 193) S 0 rfl rfl (m_dec e2_stepBack 80 rfl) ?_
            refine ms_grd fun g39 => ?_
            refine ms_getf (pc := 194) S lf_X2_23 rfl (m_dec e2_stepBack 81 rfl) g39 ?_
            refine ms_iload_n (pc := 197) S 1 rfl rfl (m_dec e2_stepBack 82 rfl) ?_
            refine ms_grd fun g40 => ?_
            refine ms_callVi (pc := 198) S hF (vals := [m_i x2]) (st := [m_r v0]) (hc := vw_6) (hci := by decide) (hcy := rfl) (ht := g40) (hC := (k6_other _ _ (m_g h36 v0 2) x2 h36)) (hM := lm_X2_118) (hfr := (Nat.le_trans (by decide) hFn)) (hstk := rfl) (hcat := Nat.le_of_ble_eq_true rfl) (hd := (m_dec e2_stepBack 83 rfl)) (k1 := fun r42 h41 => ?_)
            refine ms_grd fun g43 => ?_
            refine ms_putf (pc := 201) S lp_X2_124 (fun z => by cases z) rfl (fun d => m_fitI d _) (m_dec e2_stepBack 84 rfl) g43 (fun h44 => ?_)
            refine ms_aload_n (pc := 204) S 0 rfl rfl (m_dec e2_stepBack 85 rfl) ?_
            refine ms_dup (pc := 205) S rfl (m_dec e2_stepBack 86 rfl) ?_
            refine ms_grd fun g45 => ?_
            refine ms_getf (pc := 206) S lf_X2_127 rfl (m_dec e2_stepBack 87 rfl) g45 ?_
            refine ms_iload_n (pc := 209) S 3 rfl rfl (m_dec e2_stepBack 88 rfl) ?_
            refine ms_aload_n (pc := 210) S 0 rfl rfl (m_dec e2_stepBack 89 rfl) ?_
            refine ms_iload_n (pc := 211) S 2 rfl rfl (m_dec e2_stepBack 90 rfl) ?_
            refine ms_callVi (pc := 212) S hF (vals := [m_i r5]) (st := [m_i r9, m_i (m_g h44 v0 7), m_r v0]) (hc := vw_2) (hci := by decide) (hcy := rfl) (ht := g45) (hC := (k2_length _ _ v0 r5 h44)) (hM := lm_X2_79) (hfr := (Nat.le_trans (by decide) hFn)) (hstk := rfl) (hcat := Nat.le_of_ble_eq_true rfl) (hd := (m_dec e2_stepBack 91 rfl)) (k1 := fun r47 h46 => ?_)
            refine ms_isub (pc := 215) S (m_dec e2_stepBack 92 rfl) ?_
            refine ms_iadd (pc := 216) S (m_dec e2_stepBack 93 rfl) ?_
            refine ms_grd fun g48 => ?_
            refine ms_putf (pc := 217) S lp_X2_127 (fun z => by cases z) rfl (fun d => m_fitI d _) (m_dec e2_stepBack 94 rfl) g48 (fun h49 => ?_)
            refine ms_goto (pc := 220) S (m_dec e2_stepBack 95 rfl) rfl ?_
            exact ms_ret (pc := 253) E (m_dec e2_stepBack 112 rfl) rfl
        · refine ms_ite (fun q50 => ?_) (fun q50 => ?_)
          · refine ms_swIn (pc := 37) S (m_dec e2_stepBack 21 rfl) 6 q50 (by decide) (by decide) rfl rfl ?_
            refine ms_aload_n (pc := 223) S 0 rfl rfl (m_dec e2_stepBack 96 rfl) ?_
            refine ms_aload_n (pc := 224) S 0 rfl rfl (m_dec e2_stepBack 97 rfl) ?_
            refine ms_iload_n (pc := 225) S 2 rfl rfl (m_dec e2_stepBack 98 rfl) ?_
            refine ms_grd fun g51 => ?_
            refine ms_callVi (pc := 226) S hF (vals := [m_i r5]) (st := [m_r v0]) (hc := vw_2) (hci := by decide) (hcy := rfl) (ht := g51) (hC := (k2_length _ _ v0 r5 h14)) (hM := lm_X2_79) (hfr := (Nat.le_trans (by decide) hFn)) (hstk := rfl) (hcat := Nat.le_of_ble_eq_true rfl) (hd := (m_dec e2_stepBack 99 rfl)) (k1 := fun r53 h52 => ?_)
            refine ms_iconst (pc := 229) S (m_dec e2_stepBack 100 rfl) ?_
            refine ms_icmp_ge (pc := 230) S (m_dec e2_stepBack 101 rfl) rfl (fun q54 => ?_) (fun q54 => ?_)
            · refine ms_iconst (pc := 233) S (m_dec e2_stepBack 102 rfl) ?_
              refine ms_goto (pc := 234) S (m_dec e2_stepBack 103 rfl) rfl ?_
              refine ms_grd fun g55 => ?_
              refine ms_putf (pc := 247) S lp_X2_127 (fun z => by cases z) rfl (fun d => m_fitI d _) (m_dec e2_stepBack 110 rfl) g55 (fun h56 => ?_)
              refine ms_goto (pc := 250) S (m_dec e2_stepBack 111 rfl) rfl ?_
              exact ms_ret (pc := 253) E (m_dec e2_stepBack 112 rfl) rfl
            · refine ms_aload_n (pc := 237) S 0 rfl rfl (m_dec e2_stepBack 104 rfl) ?_
              refine ms_grd fun g57 => ?_
              refine ms_getf (pc := 238) S lf_X2_127 rfl (m_dec e2_stepBack 105 rfl) g57 ?_
              refine ms_aload_n (pc := 241) S 0 rfl rfl (m_dec e2_stepBack 106 rfl) ?_
              refine ms_iload_n (pc := 242) S 2 rfl rfl (m_dec e2_stepBack 107 rfl) ?_
              refine ms_callVi (pc := 243) S hF (vals := [m_i r5]) (st := [m_i (m_g h52 v0 7), m_r v0]) (hc := vw_2) (hci := by decide) (hcy := rfl) (ht := g57) (hC := (k2_length _ _ v0 r5 h52)) (hM := lm_X2_79) (hfr := (Nat.le_trans (by decide) hFn)) (hstk := rfl) (hcat := Nat.le_of_ble_eq_true rfl) (hd := (m_dec e2_stepBack 108 rfl)) (k1 := fun r59 h58 => ?_)
              refine ms_irem (pc := 246) S (m_dec e2_stepBack 109 rfl) ?_
              refine ms_grd fun g60 => ?_
              refine ms_putf (pc := 247) S lp_X2_127 (fun z => by cases z) rfl (fun d => m_fitI d _) (m_dec e2_stepBack 110 rfl) g60 (fun h61 => ?_)
              refine ms_goto (pc := 250) S (m_dec e2_stepBack 111 rfl) rfl ?_
              exact ms_ret (pc := 253) E (m_dec e2_stepBack 112 rfl) rfl
          · refine ms_ite (fun q62 => ?_) (fun q62 => ?_)
            · refine ms_swIn (pc := 37) S (m_dec e2_stepBack 21 rfl) 7 q62 (by decide) (by decide) rfl rfl ?_
              exact ms_ret (pc := 253) E (m_dec e2_stepBack 112 rfl) rfl
            · refine ms_ite (fun q63 => ?_) (fun q63 => ?_)
              · refine ms_swIn (pc := 37) S (m_dec e2_stepBack 21 rfl) 8 q63 (by decide) (by decide) rfl rfl ?_
                refine ms_aload_n (pc := 137) S 0 rfl rfl (m_dec e2_stepBack 53 rfl) ?_
                refine ms_grd fun g64 => ?_
                refine ms_getf (pc := 138) S lf_X2_38 rfl (m_dec e2_stepBack 54 rfl) g64 ?_
                refine ms_iload_n (pc := 141) S 3 rfl rfl (m_dec e2_stepBack 55 rfl) ?_
                refine ms_grd fun g65 => ?_
                refine ms_callVa (pc := 142) S hF (vals := [m_i r9]) (st := []) (hc := vw_7) (hci := by decide) (hcy := rfl) (ht := g65) (hC := (k7_machineOf _ _ (m_g h14 v0 0) r9 h14)) (hM := lm_X2_147) (hfr := (Nat.le_trans (by decide) hFn)) (hstk := rfl) (hcat := Nat.le_of_ble_eq_true rfl) (hd := (m_dec e2_stepBack 56 rfl)) (k1 := fun r67 h66 => ?_)
                refine ms_astore (pc := 145) S (L' := [(0, m_r v0), (4, m_r r67)]) [1, 0] rfl (m_lt hN rfl) (m_dec e2_stepBack 57 rfl) ?_
                refine ms_aload_n (pc := 147) S 0 rfl rfl (m_dec e2_stepBack 58 rfl) ?_
                refine ms_aload (pc := 148) S 1 rfl (m_dec e2_stepBack 59 rfl) ?_
                refine ms_ifnonnull (pc := 150) S (m_dec e2_stepBack 60 rfl) rfl (fun q68 => ?_) (fun q68 => ?_)
                · refine ms_aload_n (pc := 153) S 0 rfl rfl (m_dec e2_stepBack 61 rfl) ?_
                  refine ms_grd fun g69 => ?_
                  refine ms_getf (pc := 154) S lf_X2_127 rfl (m_dec e2_stepBack 62 rfl) g69 ?_
                  refine ms_goto (pc := 157) S (m_dec e2_stepBack 63 rfl) rfl ?_
                  refine ms_putf (pc := 174) S lp_X2_127 (fun z => by cases z) rfl (fun d => m_fitI d _) (m_dec e2_stepBack 71 rfl) g69 (fun h70 => ?_)
                  refine ms_goto (pc := 177) S (m_dec e2_stepBack 72 rfl) rfl ?_
                  exact ms_ret (pc := 253) E (m_dec e2_stepBack 112 rfl) rfl
                · refine ms_aload_n (pc := 160) S 0 rfl rfl (m_dec e2_stepBack 64 rfl) ?_
                  refine ms_grd fun g71 => ?_
                  refine ms_getf (pc := 161) S lf_X2_127 rfl (m_dec e2_stepBack 65 rfl) g71 ?_
                  refine ms_aload (pc := 164) S 1 rfl (m_dec e2_stepBack 66 rfl) ?_
                  refine ms_grd fun g72 => ?_
                  refine ms_callVi (pc := 166) S hF (vals := []) (st := [m_i (m_g h66 v0 7), m_r v0]) (hc := vw_0) (hci := by decide) (hcy := rfl) (ht := g72) (hC := (k0_copyPace _ _ r67 h66)) (hM := lm_X2_153) (hfr := (Nat.le_trans (by decide) hFn)) (hstk := rfl) (hcat := Nat.le_of_ble_eq_true rfl) (hd := (m_dec e2_stepBack 67 rfl)) (k1 := fun r74 h73 => ?_)
                  refine ms_imul (pc := 169) S (m_dec e2_stepBack 68 rfl) ?_
                  refine ms_sipush (pc := 170) S (m_dec e2_stepBack 69 rfl) rfl ?_
                  refine ms_idivN (pc := 173) S (by decide) (m_dec e2_stepBack 70 rfl) ?_
                  refine ms_grd fun g75 => ?_
                  refine ms_putf (pc := 174) S lp_X2_127 (fun z => by cases z) rfl (fun d => m_fitI d _) (m_dec e2_stepBack 71 rfl) g75 (fun h76 => ?_)
                  refine ms_goto (pc := 177) S (m_dec e2_stepBack 72 rfl) rfl ?_
                  exact ms_ret (pc := 253) E (m_dec e2_stepBack 112 rfl) rfl
              · refine ms_swOut (pc := 37) (a := r15) S (m_dec e2_stepBack 21 rfl) (by omega) rfl ?_
                exact ms_ret (pc := 253) E (m_dec e2_stepBack 112 rfl) rfl
theorem k2_stepBack (l : Launch) (d : m_D) (v0 : Int) (h : m_H) : m_Con l d yX2_stepBack cX2_stepBack 5 none 2 (fun _ => []) [m_r v0] h (t2_stepBack v0 h) :=
  m_con2 (by decide +kernel) (Nat.le_of_ble_eq_true rfl) (fun Y hN hRm hr hI S hfin => s2_stepBack S (m_end_v S hr hfin) hRm (Nat.le_refl _) hN v0 h)
set_option maxRecDepth 100000 in
theorem e2_leadTo : ∀ q ∈ ([(0, .aload_n 0, 1), (1, .iload_n 1, 1), (2, .iload_n 2, 1), (3, .invokevirtual 121, 3), (6, .istore 4, 2), (8, .iload 4, 2), (10, .iconst (-1), 1), (11, .if_icmp .eq 7, 3), (14, .iload_n 3, 1), (15, .ifCond .ne 6, 3), (18, .iload 4, 2), (20, .ireturn, 1), (21, .aload_n 0, 1), (22, .aload_n 0, 1), (23, .getfield 23, 3), (26, .iload 4, 2), (28, .invokevirtual 60, 3), (31, .putfield 124, 3), (34, .aload_n 0, 1), (35, .iload_n 1, 1), (36, .aload_n 0, 1), (37, .iload 4, 2), (39, .iload_n 1, 1), (40, .invokevirtual 112, 3), (43, .isub, 1), (44, .putfield 127, 3), (47, .iconst 0, 1), (48, .istore 5, 2), (50, .iload 5, 2), (52, .bipush 40, 2), (54, .if_icmp .ge 27, 3), (57, .aload_n 0, 1), (58, .getfield 23, 3), (61, .aload_n 0, 1), (62, .getfield 124, 3), (65, .invokevirtual 130, 3), (68, .ifCond .ne 13, 3), (71, .aload_n 0, 1), (72, .invokevirtual 133, 3), (75, .iinc 5 1, 3), (78, .goto (-28), 3), (81, .iload_n 3, 1), (82, .iconst 1, 1), (83, .if_icmp .ne 18, 3), (86, .aload_n 0, 1), (87, .getfield 35, 3), (90, .aload_n 0, 1), (91, .getfield 124, 3), (94, .iconst (-1), 1), (95, .invokestatic 48, 3), (98, .goto 16, 3), (101, .iload_n 3, 1), (102, .iconst 2, 1), (103, .if_icmp .ne 10, 3), (106, .aload_n 0, 1), (107, .getfield 127, 3), (110, .goto 4, 3), (113, .iconst (-1), 1), (114, .ireturn, 1)] : List (Nat × Instr × Nat)), decode cX2_leadTo q.1 = .ok q.2 := by decide +kernel
set_option maxHeartbeats 4000000 in
set_option maxRecDepth 20000 in
theorem s2_leadTo_c81 {Y : m_Y Int} (S : m_Std Y RX2 cX2_leadTo) (E : m_End Y cX2_leadTo .ireturn (fun r => [m_i r])) {F : Nat} (hF : m_Rm Y F) (hFn : 4 ≤ F) (hN : Y.2.2.2.1 = 6) (v0 v3 : Int) (h : m_H) : m_Sim Y 81 [(0, m_r v0), (3, m_i v3)] [] h (t2_leadTo_c81 v0 v3 h) := by
  unfold t2_leadTo_c81
  refine ms_iload_n (pc := 81) S 1 rfl rfl (m_dec e2_leadTo 41 rfl) ?_
  refine ms_iconst (pc := 82) S (m_dec e2_leadTo 42 rfl) ?_
  refine ms_icmp_ne (pc := 83) S (m_dec e2_leadTo 43 rfl) rfl (fun q1 => ?_) (fun q1 => ?_)
  · refine ms_aload_n (pc := 86) S 0 rfl rfl (m_dec e2_leadTo 44 rfl) ?_
    refine ms_grd fun g2 => ?_
    refine ms_getf (pc := 87) S lf_X2_35 rfl (m_dec e2_leadTo 45 rfl) g2 ?_
    refine ms_aload_n (pc := 90) S 0 rfl rfl (m_dec e2_leadTo 46 rfl) ?_
    refine ms_getf (pc := 91) S lf_X2_124 rfl (m_dec e2_leadTo 47 rfl) g2 ?_
    refine ms_iconst (pc := 94) S (m_dec e2_leadTo 48 rfl) ?_
    refine ms_callSi (pc := 95) S hF (vals := [m_r (m_g h v0 5), m_i (m_g h v0 6), m_i (-1)]) (st := [])  (hC := (k10_entry _ _ (m_g h v0 5) (m_g h v0 6) (-1) h)) (hM := lm_X2_48) (hfr := (Nat.le_trans (by decide) hFn)) (hstk := rfl) (hcat := Nat.le_of_ble_eq_true rfl) (hd := (m_dec e2_leadTo 49 rfl)) (k1 := fun r4 h3 => ?_)
    refine ms_goto (pc := 98) S (m_dec e2_leadTo 50 rfl) rfl ?_
    exact ms_ret (pc := 114) E (m_dec e2_leadTo 58 rfl) rfl
  · refine ms_iload_n (pc := 101) S 1 rfl rfl (m_dec e2_leadTo 51 rfl) ?_
    refine ms_iconst (pc := 102) S (m_dec e2_leadTo 52 rfl) ?_
    refine ms_icmp_ne (pc := 103) S (m_dec e2_leadTo 53 rfl) rfl (fun q5 => ?_) (fun q5 => ?_)
    · refine ms_aload_n (pc := 106) S 0 rfl rfl (m_dec e2_leadTo 54 rfl) ?_
      refine ms_grd fun g6 => ?_
      refine ms_getf (pc := 107) S lf_X2_127 rfl (m_dec e2_leadTo 55 rfl) g6 ?_
      refine ms_goto (pc := 110) S (m_dec e2_leadTo 56 rfl) rfl ?_
      exact ms_ret (pc := 114) E (m_dec e2_leadTo 58 rfl) rfl
    · refine ms_iconst (pc := 113) S (m_dec e2_leadTo 57 rfl) ?_
      exact ms_ret (pc := 114) E (m_dec e2_leadTo 58 rfl) rfl
set_option maxHeartbeats 4000000 in
set_option maxRecDepth 20000 in
theorem s2_leadTo_c50 {Y : m_Y Int} (S : m_Std Y RX2 cX2_leadTo) (E : m_End Y cX2_leadTo .ireturn (fun r => [m_i r])) {F : Nat} (hF : m_Rm Y F) (hFn : 4 ≤ F) (hN : Y.2.2.2.1 = 6) : ∀ (v0 v3 v5 : Int) (h : m_H), m_Sim Y 50 [(0, m_r v0), (3, m_i v3), (5, m_i v5)] [] h (t2_leadTo_c50 v0 v3 v5 h) := by
  intro v0 v3 v5 h
  refine ms_all fun r e => ?_
  refine t2_leadTo_c50.partial_correctness v0 v3 (motive := fun v5 h r => m_Sim Y 50 [(0, m_r v0), (3, m_i v3), (5, m_i v5)] [] h (some r)) ?_ v5 h r e
  intro f ih v5 h r e
  have ih : ∀ (v5 : Int) (h : m_H), m_Sim Y 50 [(0, m_r v0), (3, m_i v3), (5, m_i v5)] [] h (f v5 h ) := fun v5 h  => ms_all fun r e => ih v5 h r e
  refine ms_use ?_ e
  clear e r
  refine ms_iload (pc := 50) S 2 rfl (m_dec e2_leadTo 28 rfl) ?_
  refine ms_bipush (pc := 52) S (m_dec e2_leadTo 29 rfl) rfl ?_
  refine ms_icmp_ge (pc := 54) S (m_dec e2_leadTo 30 rfl) rfl (fun q1 => ?_) (fun q1 => ?_)
  · refine ms_aload_n (pc := 57) S 0 rfl rfl (m_dec e2_leadTo 31 rfl) ?_
    refine ms_grd fun g2 => ?_
    refine ms_getf (pc := 58) S lf_X2_23 rfl (m_dec e2_leadTo 32 rfl) g2 ?_
    refine ms_aload_n (pc := 61) S 0 rfl rfl (m_dec e2_leadTo 33 rfl) ?_
    refine ms_getf (pc := 62) S lf_X2_124 rfl (m_dec e2_leadTo 34 rfl) g2 ?_
    refine ms_grd fun g3 => ?_
    refine ms_callVz (pc := 65) S hF (vals := [m_i (m_g h v0 6)]) (st := []) (hc := vw_6) (hci := by decide) (hcy := rfl) (ht := g3) (hC := (k6_isSource _ _ (m_g h v0 2) (m_g h v0 6) h)) (hM := lm_X2_130) (hfr := (Nat.le_trans (by decide) hFn)) (hstk := rfl) (hcat := Nat.le_of_ble_eq_true rfl) (hd := (m_dec e2_leadTo 35 rfl)) (k1 := fun r5 h4 => ?_)
    refine ms_ifb_ne (pc := 68) S (m_dec e2_leadTo 36 rfl) rfl (fun q6 => ?_) (fun q6 => ?_)
    · refine ms_sub (pc := 81) (L' := [(0, m_r v0), (3, m_i v3)]) [0, 1] rfl ?_
      exact s2_leadTo_c81 S E hF hFn hN v0 v3 h4
    · refine ms_aload_n (pc := 71) S 0 rfl rfl (m_dec e2_leadTo 37 rfl) ?_
      refine ms_grd fun g7 => ?_
      refine ms_callVv (pc := 72) S hF (vals := []) (st := []) (hc := vw_2) (hci := by decide) (hcy := rfl) (ht := g7) (hC := (k2_stepBack _ _ v0 h4)) (hM := lm_X2_133) (hfr := (Nat.le_trans (by decide) hFn)) (hstk := rfl) (hcat := Nat.le_of_ble_eq_true rfl) (hd := (m_dec e2_leadTo 38 rfl)) (k1 := fun h8 => ?_)
      refine ms_iinc (pc := 75) S (L' := [(0, m_r v0), (3, m_i v3), (5, m_i (v5 + 1))]) 2 rfl [1, 2, 0] rfl (m_lt hN rfl) (m_dec e2_leadTo 39 rfl) ?_
      refine ms_goto (pc := 78) S (m_dec e2_leadTo 40 rfl) rfl ?_
      exact ih (v5 + 1) h8
  · refine ms_sub (pc := 81) (L' := [(0, m_r v0), (3, m_i v3)]) [0, 1] rfl ?_
    exact s2_leadTo_c81 S E hF hFn hN v0 v3 h
set_option maxHeartbeats 4000000 in
set_option maxRecDepth 20000 in
theorem s2_leadTo {Y : m_Y Int} (S : m_Std Y RX2 cX2_leadTo) (E : m_End Y cX2_leadTo .ireturn (fun r => [m_i r])) {F : Nat} (hF : m_Rm Y F) (hFn : 4 ≤ F) (hN : Y.2.2.2.1 = 6) (v0 v1 v2 v3 : Int) (h : m_H) : m_Sim Y 0 [(0, m_r v0), (1, m_i v1), (2, m_i v2), (3, m_i v3)] [] h (t2_leadTo v0 v1 v2 v3 h) := by
  unfold t2_leadTo
  refine ms_aload_n (pc := 0) S 0 rfl rfl (m_dec e2_leadTo 0 rfl) ?_
  refine ms_iload_n (pc := 1) S 1 rfl rfl (m_dec e2_leadTo 1 rfl) ?_
  refine ms_iload_n (pc := 2) S 2 rfl rfl (m_dec e2_leadTo 2 rfl) ?_
  refine ms_grd fun g1 => ?_
  refine ms_callVi (pc := 3) S hF (vals := [m_i v1, m_i v2]) (st := []) (hc := vw_2) (hci := by decide) (hcy := rfl) (ht := g1) (hC := (k2_firstPut _ _ v0 v1 v2 h)) (hM := lm_X2_121) (hfr := (Nat.le_trans (by decide) hFn)) (hstk := rfl) (hcat := Nat.le_of_ble_eq_true rfl) (hd := (m_dec e2_leadTo 3 rfl)) (k1 := fun r3 h2 => ?_)
  refine ms_istore (pc := 6) S (L' := [(0, m_r v0), (1, m_i v1), (3, m_i v3), (4, m_i r3)]) [1, 2, 4, 0] rfl (m_lt hN rfl) (m_dec e2_leadTo 4 rfl) ?_
  refine ms_iload (pc := 8) S 3 rfl (m_dec e2_leadTo 5 rfl) ?_
  refine ms_iconst (pc := 10) S (m_dec e2_leadTo 6 rfl) ?_
  refine ms_icmp_eq (pc := 11) S (m_dec e2_leadTo 7 rfl) rfl (fun q4 => ?_) (fun q4 => ?_)
  · refine ms_iload (pc := 18) S 3 rfl (m_dec e2_leadTo 10 rfl) ?_
    exact ms_ret (pc := 20) E (m_dec e2_leadTo 11 rfl) rfl
  · refine ms_iload_n (pc := 14) S 2 rfl rfl (m_dec e2_leadTo 8 rfl) ?_
    refine ms_if_ne (pc := 15) S (m_dec e2_leadTo 9 rfl) rfl (fun q5 => ?_) (fun q5 => ?_)
    · refine ms_iload (pc := 18) S 3 rfl (m_dec e2_leadTo 10 rfl) ?_
      exact ms_ret (pc := 20) E (m_dec e2_leadTo 11 rfl) rfl
    · refine ms_aload_n (pc := 21) S 0 rfl rfl (m_dec e2_leadTo 12 rfl) ?_
      refine ms_aload_n (pc := 22) S 0 rfl rfl (m_dec e2_leadTo 13 rfl) ?_
      refine ms_grd fun g6 => ?_
      refine ms_getf (pc := 23) S lf_X2_23 rfl (m_dec e2_leadTo 14 rfl) g6 ?_
      refine ms_iload (pc := 26) S 3 rfl (m_dec e2_leadTo 15 rfl) ?_
      refine ms_grd fun g7 => ?_
      refine ms_callVi (pc := 28) S hF (vals := [m_i r3]) (st := [m_r v0]) (hc := vw_6) (hci := by decide) (hcy := rfl) (ht := g7) (hC := (k6_one _ _ (m_g h2 v0 2) r3 h2)) (hM := lm_X2_60) (hfr := (Nat.le_trans (by decide) hFn)) (hstk := rfl) (hcat := Nat.le_of_ble_eq_true rfl) (hd := (m_dec e2_leadTo 16 rfl)) (k1 := fun r9 h8 => ?_)
      refine ms_grd fun g10 => ?_
      refine ms_putf (pc := 31) S lp_X2_124 (fun z => by cases z) rfl (fun d => m_fitI d _) (m_dec e2_leadTo 17 rfl) g10 (fun h11 => ?_)
      refine ms_aload_n (pc := 34) S 0 rfl rfl (m_dec e2_leadTo 18 rfl) ?_
      refine ms_iload_n (pc := 35) S 1 rfl rfl (m_dec e2_leadTo 19 rfl) ?_
      refine ms_aload_n (pc := 36) S 0 rfl rfl (m_dec e2_leadTo 20 rfl) ?_
      refine ms_iload (pc := 37) S 3 rfl (m_dec e2_leadTo 21 rfl) ?_
      refine ms_iload_n (pc := 39) S 1 rfl rfl (m_dec e2_leadTo 22 rfl) ?_
      refine ms_grd fun g12 => ?_
      refine ms_callVi (pc := 40) S hF (vals := [m_i r3, m_i v1]) (st := [m_i v1, m_r v0]) (hc := vw_2) (hci := by decide) (hcy := rfl) (ht := g12) (hC := (k2_beginWith _ _ v0 r3 v1 h11)) (hM := lm_X2_112) (hfr := (Nat.le_trans (by decide) hFn)) (hstk := rfl) (hcat := Nat.le_of_ble_eq_true rfl) (hd := (m_dec e2_leadTo 23 rfl)) (k1 := fun r14 h13 => ?_)
      refine ms_isub (pc := 43) S (m_dec e2_leadTo 24 rfl) ?_
      refine ms_grd fun g15 => ?_
      refine ms_putf (pc := 44) S lp_X2_127 (fun z => by cases z) rfl (fun d => m_fitI d _) (m_dec e2_leadTo 25 rfl) g15 (fun h16 => ?_)
      refine ms_iconst (pc := 47) S (m_dec e2_leadTo 26 rfl) ?_
      refine ms_istore (pc := 48) S (L' := [(0, m_r v0), (3, m_i v3), (5, m_i 0)]) [1, 3, 0] rfl (m_lt hN rfl) (m_dec e2_leadTo 27 rfl) ?_
      exact s2_leadTo_c50 S E hF hFn hN v0 v3 0 h16
theorem k2_leadTo (l : Launch) (d : m_D) (v0 v1 v2 v3 : Int) (h : m_H) : m_Con l d yX2_leadTo cX2_leadTo 6 (some .int) 4 (fun r => [m_i r]) [m_r v0, m_i v1, m_i v2, m_i v3] h (t2_leadTo v0 v1 v2 v3 h) :=
  m_con2 (by decide +kernel) (Nat.le_of_ble_eq_true rfl) (fun Y hN hRm hr hI S hfin => s2_leadTo S (m_end_i S hr hfin) hRm (Nat.le_refl _) hN v0 v1 v2 v3 h)
set_option maxRecDepth 100000 in
theorem e2_quarrels : ∀ q ∈ ([(0, .aload_n 0, 1), (1, .getfield 23, 3), (4, .iload_n 1, 1), (5, .invokevirtual 56, 3), (8, .ifCond .eq 27, 3), (11, .aload_n 0, 1), (12, .getfield 23, 3), (15, .iload_n 2, 1), (16, .invokevirtual 56, 3), (19, .ifCond .eq 16, 3), (22, .aload_n 0, 1), (23, .iload_n 1, 1), (24, .invokevirtual 136, 3), (27, .aload_n 0, 1), (28, .iload_n 2, 1), (29, .invokevirtual 136, 3), (32, .if_icmp .eq 5, 3), (35, .iconst 0, 1), (36, .ireturn, 1), (37, .iconst 0, 1), (38, .istore_n 3, 1), (39, .iload_n 3, 1), (40, .aload_n 0, 1), (41, .iload_n 1, 1), (42, .invokevirtual 72, 3), (45, .if_icmp .ge 78, 3), (48, .iload_n 1, 1), (49, .iload_n 2, 1), (50, .if_icmp .ne 9, 3), (53, .iload_n 3, 1), (54, .iconst 1, 1), (55, .iadd, 1), (56, .goto 4, 3), (59, .iconst 0, 1), (60, .istore 4, 2), (62, .iload 4, 2), (64, .aload_n 0, 1), (65, .iload_n 2, 1), (66, .invokevirtual 72, 3), (69, .if_icmp .ge 48, 3), (72, .aload_n 0, 1), (73, .iload_n 2, 1), (74, .iload 4, 2), (76, .invokevirtual 75, 3), (79, .aload_n 0, 1), (80, .iload_n 1, 1), (81, .iload_n 3, 1), (82, .invokevirtual 75, 3), (85, .isub, 1), (86, .istore 5, 2), (88, .iload 5, 2), (90, .aload_n 0, 1), (91, .iload_n 1, 1), (92, .invokevirtual 79, 3), (95, .if_icmp .ge 16, 3), (98, .iload 5, 2), (100, .ineg, 1), (101, .aload_n 0, 1), (102, .iload_n 2, 1), (103, .invokevirtual 79, 3), (106, .if_icmp .ge 5, 3), (109, .iconst 1, 1), (110, .ireturn, 1), (111, .iinc 4 1, 3), (114, .goto (-52), 3), (117, .iinc 3 1, 3), (120, .goto (-81), 3), (123, .iconst 0, 1), (124, .ireturn, 1)] : List (Nat × Instr × Nat)), decode cX2_quarrels q.1 = .ok q.2 := by decide +kernel
set_option maxHeartbeats 4000000 in
set_option maxRecDepth 20000 in
theorem s2_quarrels_x39 {Y : m_Y Bool} (S : m_Std Y RX2 cX2_quarrels) (E : m_End Y cX2_quarrels .ireturn (fun r => [m_i (m_b2i r)])) {F : Nat} (hF : m_Rm Y F) (hFn : 2 ≤ F) (hN : Y.2.2.2.1 = 6) : ∀ (cc : Int) (v0 v1 v2 v3 v4 : Int) (h : m_H) (r : Bool × m_H), t2_quarrels_x39 cc v0 v1 v2 v3 v4 h = some r → (cc = 39 → m_Sim Y 39 [(0, m_r v0), (1, m_i v1), (2, m_i v2), (3, m_i v3)] [] h (some r)) ∧ (cc = 62 → m_Sim Y 62 [(0, m_r v0), (1, m_i v1), (2, m_i v2), (3, m_i v3), (4, m_i v4)] [] h (some r)) := by
  intro cc v0 v1 v2 v3 v4 h r e
  refine t2_quarrels_x39.partial_correctness v0 v1 v2 (motive := fun cc v3 v4 h r => (cc = 39 → m_Sim Y 39 [(0, m_r v0), (1, m_i v1), (2, m_i v2), (3, m_i v3)] [] h (some r)) ∧ (cc = 62 → m_Sim Y 62 [(0, m_r v0), (1, m_i v1), (2, m_i v2), (3, m_i v3), (4, m_i v4)] [] h (some r))) ?_ cc v3 v4 h r e
  intro f ih cc v3 v4 h r e
  have ih39 : ∀ (v3 v4 : Int) (h : m_H), m_Sim Y 39 [(0, m_r v0), (1, m_i v1), (2, m_i v2), (3, m_i v3)] [] h (f 39 v3 v4 h ) := fun v3 v4 h  => ms_all fun r e => (ih 39 v3 v4 h r e).1 rfl
  have ih62 : ∀ (v3 v4 : Int) (h : m_H), m_Sim Y 62 [(0, m_r v0), (1, m_i v1), (2, m_i v2), (3, m_i v3), (4, m_i v4)] [] h (f 62 v3 v4 h ) := fun v3 v4 h  => ms_all fun r e => (ih 62 v3 v4 h r e).2 rfl
  refine ⟨?_, ?_⟩
  · intro q0
    subst q0
    rw [if_pos rfl] at e
    refine ms_use ?_ e
    clear e r
    refine ms_iload_n (pc := 39) S 3 rfl rfl (m_dec e2_quarrels 21 rfl) ?_
    refine ms_aload_n (pc := 40) S 0 rfl rfl (m_dec e2_quarrels 22 rfl) ?_
    refine ms_iload_n (pc := 41) S 1 rfl rfl (m_dec e2_quarrels 23 rfl) ?_
    refine ms_grd fun g1 => ?_
    refine ms_callVi (pc := 42) S hF (vals := [m_i v1]) (st := [m_i v3]) (hc := vw_2) (hci := by decide) (hcy := rfl) (ht := g1) (hC := (k2_times _ _ v0 v1 h)) (hM := lm_X2_72) (hfr := (Nat.le_trans (by decide) hFn)) (hstk := rfl) (hcat := Nat.le_of_ble_eq_true rfl) (hd := (m_dec e2_quarrels 24 rfl)) (k1 := fun r3 h2 => ?_)
    refine ms_icmp_ge (pc := 45) S (m_dec e2_quarrels 25 rfl) rfl (fun q4 => ?_) (fun q4 => ?_)
    · refine ms_iload_n (pc := 48) S 1 rfl rfl (m_dec e2_quarrels 26 rfl) ?_
      refine ms_iload_n (pc := 49) S 2 rfl rfl (m_dec e2_quarrels 27 rfl) ?_
      refine ms_icmp_ne (pc := 50) S (m_dec e2_quarrels 28 rfl) rfl (fun q5 => ?_) (fun q5 => ?_)
      · refine ms_iload_n (pc := 53) S 3 rfl rfl (m_dec e2_quarrels 29 rfl) ?_
        refine ms_iconst (pc := 54) S (m_dec e2_quarrels 30 rfl) ?_
        refine ms_iadd (pc := 55) S (m_dec e2_quarrels 31 rfl) ?_
        refine ms_goto (pc := 56) S (m_dec e2_quarrels 32 rfl) rfl ?_
        refine ms_nm (st := fun x6 => [m_i x6]) fun x6 => ?_
        refine ms_istore (pc := 60) S (L' := [(0, m_r v0), (1, m_i v1), (2, m_i v2), (3, m_i v3), (4, m_i x6)]) [1, 2, 3, 4, 0] rfl (m_lt hN rfl) (m_dec e2_quarrels 34 rfl) ?_
        exact ih62 v3 x6 h2
      · refine ms_iconst (pc := 59) S (m_dec e2_quarrels 33 rfl) ?_
        refine ms_istore (pc := 60) S (L' := [(0, m_r v0), (1, m_i v1), (2, m_i v2), (3, m_i v3), (4, m_i 0)]) [1, 2, 3, 4, 0] rfl (m_lt hN rfl) (m_dec e2_quarrels 34 rfl) ?_
        exact ih62 v3 0 h2
    · refine ms_iconst (pc := 123) S (m_dec e2_quarrels 67 rfl) ?_
      exact ms_ret (pc := 124) E (m_dec e2_quarrels 68 rfl) rfl
  · intro q0
    subst q0
    rw [if_neg (by decide), if_pos rfl] at e
    refine ms_use ?_ e
    clear e r
    refine ms_iload (pc := 62) S 4 rfl (m_dec e2_quarrels 35 rfl) ?_
    refine ms_aload_n (pc := 64) S 0 rfl rfl (m_dec e2_quarrels 36 rfl) ?_
    refine ms_iload_n (pc := 65) S 2 rfl rfl (m_dec e2_quarrels 37 rfl) ?_
    refine ms_grd fun g1 => ?_
    refine ms_callVi (pc := 66) S hF (vals := [m_i v2]) (st := [m_i v4]) (hc := vw_2) (hci := by decide) (hcy := rfl) (ht := g1) (hC := (k2_times _ _ v0 v2 h)) (hM := lm_X2_72) (hfr := (Nat.le_trans (by decide) hFn)) (hstk := rfl) (hcat := Nat.le_of_ble_eq_true rfl) (hd := (m_dec e2_quarrels 38 rfl)) (k1 := fun r3 h2 => ?_)
    refine ms_icmp_ge (pc := 69) S (m_dec e2_quarrels 39 rfl) rfl (fun q4 => ?_) (fun q4 => ?_)
    · refine ms_aload_n (pc := 72) S 0 rfl rfl (m_dec e2_quarrels 40 rfl) ?_
      refine ms_iload_n (pc := 73) S 2 rfl rfl (m_dec e2_quarrels 41 rfl) ?_
      refine ms_iload (pc := 74) S 4 rfl (m_dec e2_quarrels 42 rfl) ?_
      refine ms_grd fun g5 => ?_
      refine ms_callVi (pc := 76) S hF (vals := [m_i v2, m_i v4]) (st := []) (hc := vw_2) (hci := by decide) (hcy := rfl) (ht := g5) (hC := (k2_beginOf _ _ v0 v2 v4 h2)) (hM := lm_X2_75) (hfr := (Nat.le_trans (by decide) hFn)) (hstk := rfl) (hcat := Nat.le_of_ble_eq_true rfl) (hd := (m_dec e2_quarrels 43 rfl)) (k1 := fun r7 h6 => ?_)
      refine ms_aload_n (pc := 79) S 0 rfl rfl (m_dec e2_quarrels 44 rfl) ?_
      refine ms_iload_n (pc := 80) S 1 rfl rfl (m_dec e2_quarrels 45 rfl) ?_
      refine ms_iload_n (pc := 81) S 3 rfl rfl (m_dec e2_quarrels 46 rfl) ?_
      refine ms_grd fun g8 => ?_
      refine ms_callVi (pc := 82) S hF (vals := [m_i v1, m_i v3]) (st := [m_i r7]) (hc := vw_2) (hci := by decide) (hcy := rfl) (ht := g8) (hC := (k2_beginOf _ _ v0 v1 v3 h6)) (hM := lm_X2_75) (hfr := (Nat.le_trans (by decide) hFn)) (hstk := rfl) (hcat := Nat.le_of_ble_eq_true rfl) (hd := (m_dec e2_quarrels 47 rfl)) (k1 := fun r10 h9 => ?_)
      refine ms_isub (pc := 85) S (m_dec e2_quarrels 48 rfl) ?_
      refine ms_nm (st := fun x11 => [m_i x11]) fun x11 => ?_
      refine ms_istore (pc := 86) S (L' := [(0, m_r v0), (1, m_i v1), (2, m_i v2), (3, m_i v3), (4, m_i v4), (5, m_i x11)]) [1, 2, 3, 4, 5, 0] rfl (m_lt hN rfl) (m_dec e2_quarrels 49 rfl) ?_
      refine ms_iload (pc := 88) S 5 rfl (m_dec e2_quarrels 50 rfl) ?_
      refine ms_aload_n (pc := 90) S 0 rfl rfl (m_dec e2_quarrels 51 rfl) ?_
      refine ms_iload_n (pc := 91) S 1 rfl rfl (m_dec e2_quarrels 52 rfl) ?_
      refine ms_grd fun g12 => ?_
      refine ms_callVi (pc := 92) S hF (vals := [m_i v1]) (st := [m_i x11]) (hc := vw_2) (hci := by decide) (hcy := rfl) (ht := g12) (hC := (k2_length _ _ v0 v1 h9)) (hM := lm_X2_79) (hfr := (Nat.le_trans (by decide) hFn)) (hstk := rfl) (hcat := Nat.le_of_ble_eq_true rfl) (hd := (m_dec e2_quarrels 53 rfl)) (k1 := fun r14 h13 => ?_)
      refine ms_icmp_ge (pc := 95) S (m_dec e2_quarrels 54 rfl) rfl (fun q15 => ?_) (fun q15 => ?_)
      · refine ms_iload (pc := 98) S 5 rfl (m_dec e2_quarrels 55 rfl) ?_
        refine ms_ineg (pc := 100) S (m_dec e2_quarrels 56 rfl) ?_
        refine ms_aload_n (pc := 101) S 0 rfl rfl (m_dec e2_quarrels 57 rfl) ?_
        refine ms_iload_n (pc := 102) S 2 rfl rfl (m_dec e2_quarrels 58 rfl) ?_
        refine ms_grd fun g16 => ?_
        refine ms_callVi (pc := 103) S hF (vals := [m_i v2]) (st := [m_i (-x11)]) (hc := vw_2) (hci := by decide) (hcy := rfl) (ht := g16) (hC := (k2_length _ _ v0 v2 h13)) (hM := lm_X2_79) (hfr := (Nat.le_trans (by decide) hFn)) (hstk := rfl) (hcat := Nat.le_of_ble_eq_true rfl) (hd := (m_dec e2_quarrels 59 rfl)) (k1 := fun r18 h17 => ?_)
        refine ms_icmp_ge (pc := 106) S (m_dec e2_quarrels 60 rfl) rfl (fun q19 => ?_) (fun q19 => ?_)
        · refine ms_iconst (pc := 109) S (m_dec e2_quarrels 61 rfl) ?_
          exact ms_ret (pc := 110) E (m_dec e2_quarrels 62 rfl) rfl
        · refine ms_iinc (pc := 111) S (L' := [(0, m_r v0), (1, m_i v1), (2, m_i v2), (3, m_i v3), (4, m_i (v4 + 1))]) 4 rfl [1, 2, 3, 4, 0] rfl (m_lt hN rfl) (m_dec e2_quarrels 63 rfl) ?_
          refine ms_goto (pc := 114) S (m_dec e2_quarrels 64 rfl) rfl ?_
          exact ih62 v3 (v4 + 1) h17
      · refine ms_iinc (pc := 111) S (L' := [(0, m_r v0), (1, m_i v1), (2, m_i v2), (3, m_i v3), (4, m_i (v4 + 1))]) 4 rfl [1, 2, 3, 4, 0] rfl (m_lt hN rfl) (m_dec e2_quarrels 63 rfl) ?_
        refine ms_goto (pc := 114) S (m_dec e2_quarrels 64 rfl) rfl ?_
        exact ih62 v3 (v4 + 1) h13
    · refine ms_iinc (pc := 117) S (L' := [(0, m_r v0), (1, m_i v1), (2, m_i v2), (3, m_i (v3 + 1))]) 3 rfl [1, 2, 3, 0] rfl (m_lt hN rfl) (m_dec e2_quarrels 65 rfl) ?_
      refine ms_goto (pc := 120) S (m_dec e2_quarrels 66 rfl) rfl ?_
      exact ih39 (v3 + 1) 0 h2
set_option maxHeartbeats 4000000 in
set_option maxRecDepth 20000 in
theorem s2_quarrels_c39 {Y : m_Y Bool} (S : m_Std Y RX2 cX2_quarrels) (E : m_End Y cX2_quarrels .ireturn (fun r => [m_i (m_b2i r)])) {F : Nat} (hF : m_Rm Y F) (hFn : 2 ≤ F) (hN : Y.2.2.2.1 = 6) (v0 v1 v2 v3 v4 : Int) (h : m_H) : m_Sim Y 39 [(0, m_r v0), (1, m_i v1), (2, m_i v2), (3, m_i v3)] [] h (t2_quarrels_x39 39 v0 v1 v2 v3 v4 h) := ms_all fun r e => (s2_quarrels_x39 S E hF hFn hN 39 v0 v1 v2 v3 v4 h r e).1 rfl
set_option maxHeartbeats 4000000 in
set_option maxRecDepth 20000 in
theorem s2_quarrels_c62 {Y : m_Y Bool} (S : m_Std Y RX2 cX2_quarrels) (E : m_End Y cX2_quarrels .ireturn (fun r => [m_i (m_b2i r)])) {F : Nat} (hF : m_Rm Y F) (hFn : 2 ≤ F) (hN : Y.2.2.2.1 = 6) (v0 v1 v2 v3 v4 : Int) (h : m_H) : m_Sim Y 62 [(0, m_r v0), (1, m_i v1), (2, m_i v2), (3, m_i v3), (4, m_i v4)] [] h (t2_quarrels_x39 62 v0 v1 v2 v3 v4 h) := ms_all fun r e => (s2_quarrels_x39 S E hF hFn hN 62 v0 v1 v2 v3 v4 h r e).2 rfl
set_option maxHeartbeats 4000000 in
set_option maxRecDepth 20000 in
theorem s2_quarrels {Y : m_Y Bool} (S : m_Std Y RX2 cX2_quarrels) (E : m_End Y cX2_quarrels .ireturn (fun r => [m_i (m_b2i r)])) {F : Nat} (hF : m_Rm Y F) (hFn : 2 ≤ F) (hN : Y.2.2.2.1 = 6) (v0 v1 v2 : Int) (h : m_H) : m_Sim Y 0 [(0, m_r v0), (1, m_i v1), (2, m_i v2)] [] h (t2_quarrels v0 v1 v2 h) := by
  unfold t2_quarrels
  refine ms_aload_n (pc := 0) S 0 rfl rfl (m_dec e2_quarrels 0 rfl) ?_
  refine ms_grd fun g1 => ?_
  refine ms_getf (pc := 1) S lf_X2_23 rfl (m_dec e2_quarrels 1 rfl) g1 ?_
  refine ms_iload_n (pc := 4) S 1 rfl rfl (m_dec e2_quarrels 2 rfl) ?_
  refine ms_grd fun g2 => ?_
  refine ms_callVz (pc := 5) S hF (vals := [m_i v1]) (st := []) (hc := vw_6) (hci := by decide) (hcy := rfl) (ht := g2) (hC := (k6_isPut _ _ (m_g h v0 2) v1 h)) (hM := lm_X2_56) (hfr := (Nat.le_trans (by decide) hFn)) (hstk := rfl) (hcat := Nat.le_of_ble_eq_true rfl) (hd := (m_dec e2_quarrels 3 rfl)) (k1 := fun r4 h3 => ?_)
  refine ms_ifb_eq (pc := 8) S (m_dec e2_quarrels 4 rfl) rfl (fun q5 => ?_) (fun q5 => ?_)
  · refine ms_aload_n (pc := 11) S 0 rfl rfl (m_dec e2_quarrels 5 rfl) ?_
    refine ms_grd fun g6 => ?_
    refine ms_getf (pc := 12) S lf_X2_23 rfl (m_dec e2_quarrels 6 rfl) g6 ?_
    refine ms_iload_n (pc := 15) S 2 rfl rfl (m_dec e2_quarrels 7 rfl) ?_
    refine ms_grd fun g7 => ?_
    refine ms_callVz (pc := 16) S hF (vals := [m_i v2]) (st := []) (hc := vw_6) (hci := by decide) (hcy := rfl) (ht := g7) (hC := (k6_isPut _ _ (m_g h3 v0 2) v2 h3)) (hM := lm_X2_56) (hfr := (Nat.le_trans (by decide) hFn)) (hstk := rfl) (hcat := Nat.le_of_ble_eq_true rfl) (hd := (m_dec e2_quarrels 8 rfl)) (k1 := fun r9 h8 => ?_)
    refine ms_ifb_eq (pc := 19) S (m_dec e2_quarrels 9 rfl) rfl (fun q10 => ?_) (fun q10 => ?_)
    · refine ms_aload_n (pc := 22) S 0 rfl rfl (m_dec e2_quarrels 10 rfl) ?_
      refine ms_iload_n (pc := 23) S 1 rfl rfl (m_dec e2_quarrels 11 rfl) ?_
      refine ms_grd fun g11 => ?_
      refine ms_callVi (pc := 24) S hF (vals := [m_i v1]) (st := []) (hc := vw_2) (hci := by decide) (hcy := rfl) (ht := g11) (hC := (k2_track _ _ v0 v1 h8)) (hM := lm_X2_136) (hfr := (Nat.le_trans (by decide) hFn)) (hstk := rfl) (hcat := Nat.le_of_ble_eq_true rfl) (hd := (m_dec e2_quarrels 12 rfl)) (k1 := fun r13 h12 => ?_)
      refine ms_aload_n (pc := 27) S 0 rfl rfl (m_dec e2_quarrels 13 rfl) ?_
      refine ms_iload_n (pc := 28) S 2 rfl rfl (m_dec e2_quarrels 14 rfl) ?_
      refine ms_grd fun g14 => ?_
      refine ms_callVi (pc := 29) S hF (vals := [m_i v2]) (st := [m_i r13]) (hc := vw_2) (hci := by decide) (hcy := rfl) (ht := g14) (hC := (k2_track _ _ v0 v2 h12)) (hM := lm_X2_136) (hfr := (Nat.le_trans (by decide) hFn)) (hstk := rfl) (hcat := Nat.le_of_ble_eq_true rfl) (hd := (m_dec e2_quarrels 15 rfl)) (k1 := fun r16 h15 => ?_)
      refine ms_icmp_eq (pc := 32) S (m_dec e2_quarrels 16 rfl) rfl (fun q17 => ?_) (fun q17 => ?_)
      · refine ms_iconst (pc := 37) S (m_dec e2_quarrels 19 rfl) ?_
        refine ms_istore_n (pc := 38) S (L' := [(0, m_r v0), (1, m_i v1), (2, m_i v2), (3, m_i 0)]) [1, 2, 3, 0] rfl rfl (m_lt hN rfl) (m_dec e2_quarrels 20 rfl) ?_
        exact s2_quarrels_c39 S E hF hFn hN v0 v1 v2 0 0 h15
      · refine ms_iconst (pc := 35) S (m_dec e2_quarrels 17 rfl) ?_
        exact ms_ret (pc := 36) E (m_dec e2_quarrels 18 rfl) rfl
    · refine ms_iconst (pc := 35) S (m_dec e2_quarrels 17 rfl) ?_
      exact ms_ret (pc := 36) E (m_dec e2_quarrels 18 rfl) rfl
  · refine ms_iconst (pc := 35) S (m_dec e2_quarrels 17 rfl) ?_
    exact ms_ret (pc := 36) E (m_dec e2_quarrels 18 rfl) rfl
theorem k2_quarrels (l : Launch) (d : m_D) (v0 v1 v2 : Int) (h : m_H) : m_Con l d yX2_quarrels cX2_quarrels 6 (some .boolean) 2 (fun r => [m_i (m_b2i r)]) [m_r v0, m_i v1, m_i v2] h (t2_quarrels v0 v1 v2 h) :=
  m_con2 (by decide +kernel) (Nat.le_of_ble_eq_true rfl) (fun Y hN hRm hr hI S hfin => s2_quarrels S (m_end_z S hr hfin) hRm (Nat.le_refl _) hN v0 v1 v2 h)
set_option maxRecDepth 100000 in
theorem e2_quarrelAt : ∀ q ∈ ([(0, .iload_n 1, 1), (1, .istore_n 2, 1), (2, .iconst 0, 1), (3, .istore_n 3, 1), (4, .iload_n 3, 1), (5, .aload_n 0, 1), (6, .getfield 23, 3), (9, .getfield 42, 3), (12, .if_icmp .ge 59, 3), (15, .iload_n 2, 1), (16, .ifCond .lt 55, 3), (19, .iload_n 3, 1), (20, .istore 4, 2), (22, .iload 4, 2), (24, .aload_n 0, 1), (25, .getfield 23, 3), (28, .getfield 42, 3), (31, .if_icmp .ge 34, 3), (34, .aload_n 0, 1), (35, .iload_n 3, 1), (36, .iload 4, 2), (38, .invokevirtual 158, 3), (41, .ifCond .eq 18, 3), (44, .iload_n 2, 1), (45, .ifCond .ne 11, 3), (48, .iload_n 3, 1), (49, .bipush 100, 2), (51, .imul, 1), (52, .iload 4, 2), (54, .iadd, 1), (55, .ireturn, 1), (56, .iinc 2 (-1), 3), (59, .iinc 4 1, 3), (62, .goto (-40), 3), (65, .iinc 3 1, 3), (68, .goto (-64), 3), (71, .iconst (-1), 1), (72, .ireturn, 1)] : List (Nat × Instr × Nat)), decode cX2_quarrelAt q.1 = .ok q.2 := by decide +kernel
set_option maxHeartbeats 4000000 in
set_option maxRecDepth 20000 in
theorem s2_quarrelAt_x4 {Y : m_Y Int} (S : m_Std Y RX2 cX2_quarrelAt) (E : m_End Y cX2_quarrelAt .ireturn (fun r => [m_i r])) {F : Nat} (hF : m_Rm Y F) (hFn : 3 ≤ F) (hN : Y.2.2.2.1 = 5) : ∀ (cc : Int) (v0 v2 v3 v4 : Int) (h : m_H) (r : Int × m_H), t2_quarrelAt_x4 cc v0 v2 v3 v4 h = some r → (cc = 4 → m_Sim Y 4 [(0, m_r v0), (2, m_i v2), (3, m_i v3)] [] h (some r)) ∧ (cc = 22 → m_Sim Y 22 [(0, m_r v0), (2, m_i v2), (3, m_i v3), (4, m_i v4)] [] h (some r)) := by
  intro cc v0 v2 v3 v4 h r e
  refine t2_quarrelAt_x4.partial_correctness v0 (motive := fun cc v2 v3 v4 h r => (cc = 4 → m_Sim Y 4 [(0, m_r v0), (2, m_i v2), (3, m_i v3)] [] h (some r)) ∧ (cc = 22 → m_Sim Y 22 [(0, m_r v0), (2, m_i v2), (3, m_i v3), (4, m_i v4)] [] h (some r))) ?_ cc v2 v3 v4 h r e
  intro f ih cc v2 v3 v4 h r e
  have ih4 : ∀ (v2 v3 v4 : Int) (h : m_H), m_Sim Y 4 [(0, m_r v0), (2, m_i v2), (3, m_i v3)] [] h (f 4 v2 v3 v4 h ) := fun v2 v3 v4 h  => ms_all fun r e => (ih 4 v2 v3 v4 h r e).1 rfl
  have ih22 : ∀ (v2 v3 v4 : Int) (h : m_H), m_Sim Y 22 [(0, m_r v0), (2, m_i v2), (3, m_i v3), (4, m_i v4)] [] h (f 22 v2 v3 v4 h ) := fun v2 v3 v4 h  => ms_all fun r e => (ih 22 v2 v3 v4 h r e).2 rfl
  refine ⟨?_, ?_⟩
  · intro q0
    subst q0
    rw [if_pos rfl] at e
    refine ms_use ?_ e
    clear e r
    refine ms_iload_n (pc := 4) S 2 rfl rfl (m_dec e2_quarrelAt 4 rfl) ?_
    refine ms_aload_n (pc := 5) S 0 rfl rfl (m_dec e2_quarrelAt 5 rfl) ?_
    refine ms_grd fun g1 => ?_
    refine ms_getf (pc := 6) S lf_X2_23 rfl (m_dec e2_quarrelAt 6 rfl) g1 ?_
    refine ms_grd fun g2 => ?_
    refine ms_getf (pc := 9) S lf_X2_42 rfl (m_dec e2_quarrelAt 7 rfl) g2 ?_
    refine ms_icmp_ge (pc := 12) S (m_dec e2_quarrelAt 8 rfl) rfl (fun q3 => ?_) (fun q3 => ?_)
    · refine ms_iload_n (pc := 15) S 1 rfl rfl (m_dec e2_quarrelAt 9 rfl) ?_
      refine ms_if_lt (pc := 16) S (m_dec e2_quarrelAt 10 rfl) rfl (fun q4 => ?_) (fun q4 => ?_)
      · refine ms_iconst (pc := 71) S (m_dec e2_quarrelAt 36 rfl) ?_
        exact ms_ret (pc := 72) E (m_dec e2_quarrelAt 37 rfl) rfl
      · refine ms_iload_n (pc := 19) S 2 rfl rfl (m_dec e2_quarrelAt 11 rfl) ?_
        refine ms_istore (pc := 20) S (L' := [(0, m_r v0), (2, m_i v2), (3, m_i v3), (4, m_i v3)]) [1, 2, 3, 0] rfl (m_lt hN rfl) (m_dec e2_quarrelAt 12 rfl) ?_
        exact ih22 v2 v3 v3 h
    · refine ms_iconst (pc := 71) S (m_dec e2_quarrelAt 36 rfl) ?_
      exact ms_ret (pc := 72) E (m_dec e2_quarrelAt 37 rfl) rfl
  · intro q0
    subst q0
    rw [if_neg (by decide), if_pos rfl] at e
    refine ms_use ?_ e
    clear e r
    refine ms_iload (pc := 22) S 3 rfl (m_dec e2_quarrelAt 13 rfl) ?_
    refine ms_aload_n (pc := 24) S 0 rfl rfl (m_dec e2_quarrelAt 14 rfl) ?_
    refine ms_grd fun g1 => ?_
    refine ms_getf (pc := 25) S lf_X2_23 rfl (m_dec e2_quarrelAt 15 rfl) g1 ?_
    refine ms_grd fun g2 => ?_
    refine ms_getf (pc := 28) S lf_X2_42 rfl (m_dec e2_quarrelAt 16 rfl) g2 ?_
    refine ms_icmp_ge (pc := 31) S (m_dec e2_quarrelAt 17 rfl) rfl (fun q3 => ?_) (fun q3 => ?_)
    · refine ms_aload_n (pc := 34) S 0 rfl rfl (m_dec e2_quarrelAt 18 rfl) ?_
      refine ms_iload_n (pc := 35) S 2 rfl rfl (m_dec e2_quarrelAt 19 rfl) ?_
      refine ms_iload (pc := 36) S 3 rfl (m_dec e2_quarrelAt 20 rfl) ?_
      refine ms_callVz (pc := 38) S hF (vals := [m_i v3, m_i v4]) (st := []) (hc := vw_2) (hci := by decide) (hcy := rfl) (ht := g1) (hC := (k2_quarrels _ _ v0 v3 v4 h)) (hM := lm_X2_158) (hfr := (Nat.le_trans (by decide) hFn)) (hstk := rfl) (hcat := Nat.le_of_ble_eq_true rfl) (hd := (m_dec e2_quarrelAt 21 rfl)) (k1 := fun r5 h4 => ?_)
      refine ms_ifb_eq (pc := 41) S (m_dec e2_quarrelAt 22 rfl) rfl (fun q6 => ?_) (fun q6 => ?_)
      · refine ms_iload_n (pc := 44) S 1 rfl rfl (m_dec e2_quarrelAt 23 rfl) ?_
        refine ms_if_ne (pc := 45) S (m_dec e2_quarrelAt 24 rfl) rfl (fun q7 => ?_) (fun q7 => ?_)
        · refine ms_iload_n (pc := 48) S 2 rfl rfl (m_dec e2_quarrelAt 25 rfl) ?_
          refine ms_bipush (pc := 49) S (m_dec e2_quarrelAt 26 rfl) rfl ?_
          refine ms_imul (pc := 51) S (m_dec e2_quarrelAt 27 rfl) ?_
          refine ms_iload (pc := 52) S 3 rfl (m_dec e2_quarrelAt 28 rfl) ?_
          refine ms_iadd (pc := 54) S (m_dec e2_quarrelAt 29 rfl) ?_
          exact ms_ret (pc := 55) E (m_dec e2_quarrelAt 30 rfl) rfl
        · refine ms_iinc (pc := 56) S (L' := [(0, m_r v0), (2, m_i (v2 + (-1))), (3, m_i v3), (4, m_i v4)]) 1 rfl [1, 0, 2, 3] rfl (m_lt hN rfl) (m_dec e2_quarrelAt 31 rfl) ?_
          refine ms_iinc (pc := 59) S (L' := [(0, m_r v0), (2, m_i (v2 + (-1))), (3, m_i v3), (4, m_i (v4 + 1))]) 3 rfl [1, 2, 3, 0] rfl (m_lt hN rfl) (m_dec e2_quarrelAt 32 rfl) ?_
          refine ms_goto (pc := 62) S (m_dec e2_quarrelAt 33 rfl) rfl ?_
          exact ih22 (v2 + (-1)) v3 (v4 + 1) h4
      · refine ms_iinc (pc := 59) S (L' := [(0, m_r v0), (2, m_i v2), (3, m_i v3), (4, m_i (v4 + 1))]) 3 rfl [1, 2, 3, 0] rfl (m_lt hN rfl) (m_dec e2_quarrelAt 32 rfl) ?_
        refine ms_goto (pc := 62) S (m_dec e2_quarrelAt 33 rfl) rfl ?_
        exact ih22 v2 v3 (v4 + 1) h4
    · refine ms_iinc (pc := 65) S (L' := [(0, m_r v0), (2, m_i v2), (3, m_i (v3 + 1))]) 2 rfl [1, 2, 0] rfl (m_lt hN rfl) (m_dec e2_quarrelAt 34 rfl) ?_
      refine ms_goto (pc := 68) S (m_dec e2_quarrelAt 35 rfl) rfl ?_
      exact ih4 v2 (v3 + 1) 0 h
set_option maxHeartbeats 4000000 in
set_option maxRecDepth 20000 in
theorem s2_quarrelAt_c4 {Y : m_Y Int} (S : m_Std Y RX2 cX2_quarrelAt) (E : m_End Y cX2_quarrelAt .ireturn (fun r => [m_i r])) {F : Nat} (hF : m_Rm Y F) (hFn : 3 ≤ F) (hN : Y.2.2.2.1 = 5) (v0 v2 v3 v4 : Int) (h : m_H) : m_Sim Y 4 [(0, m_r v0), (2, m_i v2), (3, m_i v3)] [] h (t2_quarrelAt_x4 4 v0 v2 v3 v4 h) := ms_all fun r e => (s2_quarrelAt_x4 S E hF hFn hN 4 v0 v2 v3 v4 h r e).1 rfl
set_option maxHeartbeats 4000000 in
set_option maxRecDepth 20000 in
theorem s2_quarrelAt_c22 {Y : m_Y Int} (S : m_Std Y RX2 cX2_quarrelAt) (E : m_End Y cX2_quarrelAt .ireturn (fun r => [m_i r])) {F : Nat} (hF : m_Rm Y F) (hFn : 3 ≤ F) (hN : Y.2.2.2.1 = 5) (v0 v2 v3 v4 : Int) (h : m_H) : m_Sim Y 22 [(0, m_r v0), (2, m_i v2), (3, m_i v3), (4, m_i v4)] [] h (t2_quarrelAt_x4 22 v0 v2 v3 v4 h) := ms_all fun r e => (s2_quarrelAt_x4 S E hF hFn hN 22 v0 v2 v3 v4 h r e).2 rfl
set_option maxHeartbeats 4000000 in
set_option maxRecDepth 20000 in
theorem s2_quarrelAt {Y : m_Y Int} (S : m_Std Y RX2 cX2_quarrelAt) (E : m_End Y cX2_quarrelAt .ireturn (fun r => [m_i r])) {F : Nat} (hF : m_Rm Y F) (hFn : 3 ≤ F) (hN : Y.2.2.2.1 = 5) (v0 v1 : Int) (h : m_H) : m_Sim Y 0 [(0, m_r v0), (1, m_i v1)] [] h (t2_quarrelAt v0 v1 h) := by
  unfold t2_quarrelAt
  refine ms_iload_n (pc := 0) S 1 rfl rfl (m_dec e2_quarrelAt 0 rfl) ?_
  refine ms_istore_n (pc := 1) S (L' := [(0, m_r v0), (2, m_i v1)]) [1, 0] rfl rfl (m_lt hN rfl) (m_dec e2_quarrelAt 1 rfl) ?_
  refine ms_iconst (pc := 2) S (m_dec e2_quarrelAt 2 rfl) ?_
  refine ms_istore_n (pc := 3) S (L' := [(0, m_r v0), (2, m_i v1), (3, m_i 0)]) [1, 2, 0] rfl rfl (m_lt hN rfl) (m_dec e2_quarrelAt 3 rfl) ?_
  exact s2_quarrelAt_c4 S E hF hFn hN v0 v1 0 0 h
theorem k2_quarrelAt (l : Launch) (d : m_D) (v0 v1 : Int) (h : m_H) : m_Con l d yX2_quarrelAt cX2_quarrelAt 5 (some .int) 3 (fun r => [m_i r]) [m_r v0, m_i v1] h (t2_quarrelAt v0 v1 h) :=
  m_con2 (by decide +kernel) (Nat.le_of_ble_eq_true rfl) (fun Y hN hRm hr hI S hfin => s2_quarrelAt S (m_end_i S hr hfin) hRm (Nat.le_refl _) hN v0 v1 h)
set_option maxRecDepth 100000 in
theorem e3_init : ∀ q ∈ ([(0, .aload_n 0, 1), (1, .invokespecial 3, 3), (4, .aload_n 0, 1), (5, .bipush 40, 2), (7, .anewarray 9, 3), (10, .putfield 11, 3), (13, .aload_n 0, 1), (14, .new 9, 3), (17, .dup, 1), (18, .invokespecial 17, 3), (21, .putfield 18, 3), (24, .aload_n 0, 1), (25, .bipush 40, 2), (27, .newarray .int, 2), (29, .putfield 22, 3), (32, .aload_n 0, 1), (33, .bipush 40, 2), (35, .newarray .int, 2), (37, .putfield 26, 3), (40, .aload_n 0, 1), (41, .aload_n 1, 1), (42, .putfield 29, 3), (45, .iconst 0, 1), (46, .istore_n 2, 1), (47, .iload_n 2, 1), (48, .aload_n 0, 1), (49, .getfield 11, 3), (52, .arraylength, 1), (53, .if_icmp .ge 22, 3), (56, .aload_n 0, 1), (57, .getfield 11, 3), (60, .iload_n 2, 1), (61, .new 9, 3), (64, .dup, 1), (65, .invokespecial 17, 3), (68, .aastore, 1), (69, .iinc 2 1, 3), (72, .goto (-25), 3), (75, .return_, 1)] : List (Nat × Instr × Nat)), decode cX3_init q.1 = .ok q.2 := by decide +kernel
set_option maxHeartbeats 4000000 in
set_option maxRecDepth 20000 in
theorem s3_init_c47 {Y : m_Y Unit} (S : m_Std Y RX3 cX3_init) (E : m_End Y cX3_init .return_ (fun _ => [])) {F : Nat} (hF : m_Rm Y F) (hFn : 2 ≤ F) (hN : Y.2.2.2.1 = 3) (hI : Y.2.2.2.2.2 → Y.2.1.2.2.2.2.2.2.2.2.1.name = "<init>") : ∀ (v0 v2 : Int) (h : m_H), m_Sim Y 47 [(0, m_r v0), (2, m_i v2)] [] h (t3_init_c47 v0 v2 h) := by
  intro v0 v2 h
  refine ms_all fun r e => ?_
  refine t3_init_c47.partial_correctness v0 (motive := fun v2 h r => m_Sim Y 47 [(0, m_r v0), (2, m_i v2)] [] h (some r)) ?_ v2 h r e
  intro f ih v2 h r e
  have ih : ∀ (v2 : Int) (h : m_H), m_Sim Y 47 [(0, m_r v0), (2, m_i v2)] [] h (f v2 h ) := fun v2 h  => ms_all fun r e => ih v2 h r e
  refine ms_use ?_ e
  clear e r
  refine ms_iload_n (pc := 47) S 1 rfl rfl (m_dec e3_init 24 rfl) ?_
  refine ms_aload_n (pc := 48) S 0 rfl rfl (m_dec e3_init 25 rfl) ?_
  refine ms_grd fun g1 => ?_
  refine ms_getf (pc := 49) S lf_X3_11 rfl (m_dec e3_init 26 rfl) g1 ?_
  refine ms_grd fun g2 => ?_
  refine ms_alen (pc := 52) S g2 (m_dec e3_init 27 rfl) ?_
  refine ms_icmp_ge (pc := 53) S (m_dec e3_init 28 rfl) rfl (fun q3 => ?_) (fun q3 => ?_)
  · refine ms_aload_n (pc := 56) S 0 rfl rfl (m_dec e3_init 29 rfl) ?_
    refine ms_getf (pc := 57) S lf_X3_11 rfl (m_dec e3_init 30 rfl) g1 ?_
    refine ms_iload_n (pc := 60) S 1 rfl rfl (m_dec e3_init 31 rfl) ?_
    refine ms_new (pc := 61) S ln_X3_9 rfl (m_dec e3_init 32 rfl) (fun h4 => ?_)
    refine ms_dup (pc := 64) S rfl (m_dec e3_init 33 rfl) ?_
    refine ms_grd fun g5 => ?_
    refine ms_callIv (pc := 65) S hF (vals := []) (st := [m_r (m_n h), m_i v2, m_r (m_g h v0 1)]) (ht := g5) (hC := (k5_init _ _ (m_n h) h4)) (hM := lm_X3_17) (hfr := (Nat.le_trans (by decide) hFn)) (hstk := rfl) (hcat := Nat.le_of_ble_eq_true rfl) (hd := (m_dec e3_init 34 rfl)) (k1 := fun h6 => ?_)
    refine ms_grd fun g8 => ?_
    refine ms_aast (pc := 68) S 27 5 (by decide) vw_5 (by decide) (fun _ => rfl) g8 (m_dec e3_init 35 rfl) (fun h9 => ?_)
    refine ms_iinc (pc := 69) S (L' := [(0, m_r v0), (2, m_i (v2 + 1))]) 1 rfl [1, 0] rfl (m_lt hN rfl) (m_dec e3_init 36 rfl) ?_
    refine ms_goto (pc := 72) S (m_dec e3_init 37 rfl) rfl ?_
    exact ih (v2 + 1) h9
  · exact ms_ret (pc := 75) E (m_dec e3_init 38 rfl) rfl
set_option maxHeartbeats 4000000 in
set_option maxRecDepth 20000 in
theorem s3_init {Y : m_Y Unit} (S : m_Std Y RX3 cX3_init) (E : m_End Y cX3_init .return_ (fun _ => [])) {F : Nat} (hF : m_Rm Y F) (hFn : 2 ≤ F) (hN : Y.2.2.2.1 = 3) (hI : Y.2.2.2.2.2 → Y.2.1.2.2.2.2.2.2.2.2.1.name = "<init>") (v0 v1 : Int) (h : m_H) : m_Sim Y 0 [(0, m_r v0), (1, m_r v1)] [] h (t3_init v0 v1 h) := by
  unfold t3_init
  refine ms_aload_n (pc := 0) S 0 rfl rfl (m_dec e3_init 0 rfl) ?_
  refine ms_grd fun g1 => ?_
  refine ms_obj (pc := 1) S hF (Nat.le_trans (by decide) hFn) lo_X3_3 g1 (Nat.le_of_ble_eq_true rfl) (m_dec e3_init 1 rfl) ?_
  refine ms_aload_n (pc := 4) S 0 rfl rfl (m_dec e3_init 2 rfl) ?_
  refine ms_bipush (pc := 5) S (m_dec e3_init 3 rfl) rfl ?_
  refine ms_anew (pc := 7) S 27 (by decide) (fun _ => rfl) ⟨w_299, w_300⟩ (by decide) (m_dec e3_init 4 rfl) (fun h2 => ?_)
  refine ms_grd fun g3 => ?_
  refine ms_putf (pc := 10) S lp_X3_11 (fun _ hf => hI hf) rfl (fun d => m_fitA _ d _) (m_dec e3_init 5 rfl) g3 (fun h4 => ?_)
  refine ms_aload_n (pc := 13) S 0 rfl rfl (m_dec e3_init 6 rfl) ?_
  refine ms_new (pc := 14) S ln_X3_9 rfl (m_dec e3_init 7 rfl) (fun h5 => ?_)
  refine ms_dup (pc := 17) S rfl (m_dec e3_init 8 rfl) ?_
  refine ms_grd fun g6 => ?_
  refine ms_callIv (pc := 18) S hF (vals := []) (st := [m_r (m_n h4), m_r v0]) (ht := g6) (hC := (k5_init _ _ (m_n h4) h5)) (hM := lm_X3_17) (hfr := (Nat.le_trans (by decide) hFn)) (hstk := rfl) (hcat := Nat.le_of_ble_eq_true rfl) (hd := (m_dec e3_init 9 rfl)) (k1 := fun h7 => ?_)
  refine ms_grd fun g9 => ?_
  refine ms_putf (pc := 21) S lp_X3_18 (fun _ hf => hI hf) rfl (fun d => m_fitO _ d _) (m_dec e3_init 10 rfl) g9 (fun h10 => ?_)
  refine ms_aload_n (pc := 24) S 0 rfl rfl (m_dec e3_init 11 rfl) ?_
  refine ms_bipush (pc := 25) S (m_dec e3_init 12 rfl) rfl ?_
  refine ms_newa (pc := 27) S 20 (ty := .int) rfl (by decide) (fun _ => rfl) (fun _ => rfl) (by decide) (fun _ _ z => z) w_208 (by decide) (m_dec e3_init 13 rfl) (fun h11 => ?_)
  refine ms_grd fun g12 => ?_
  refine ms_putf (pc := 29) S lp_X3_22 (fun _ hf => hI hf) rfl (fun d => m_fitA _ d _) (m_dec e3_init 14 rfl) g12 (fun h13 => ?_)
  refine ms_aload_n (pc := 32) S 0 rfl rfl (m_dec e3_init 15 rfl) ?_
  refine ms_bipush (pc := 33) S (m_dec e3_init 16 rfl) rfl ?_
  refine ms_newa (pc := 35) S 20 (ty := .int) rfl (by decide) (fun _ => rfl) (fun _ => rfl) (by decide) (fun _ _ z => z) w_208 (by decide) (m_dec e3_init 17 rfl) (fun h14 => ?_)
  refine ms_grd fun g15 => ?_
  refine ms_putf (pc := 37) S lp_X3_26 (fun _ hf => hI hf) rfl (fun d => m_fitA _ d _) (m_dec e3_init 18 rfl) g15 (fun h16 => ?_)
  refine ms_aload_n (pc := 40) S 0 rfl rfl (m_dec e3_init 19 rfl) ?_
  refine ms_aload_n (pc := 41) S 1 rfl rfl (m_dec e3_init 20 rfl) ?_
  refine ms_grd fun g17 => ?_
  refine ms_putf (pc := 42) S lp_X3_29 (fun _ hf => hI hf) rfl (fun d => m_fitO _ d _) (m_dec e3_init 21 rfl) g17 (fun h18 => ?_)
  refine ms_iconst (pc := 45) S (m_dec e3_init 22 rfl) ?_
  refine ms_istore_n (pc := 46) S (L' := [(0, m_r v0), (2, m_i 0)]) [1, 0] rfl rfl (m_lt hN rfl) (m_dec e3_init 23 rfl) ?_
  exact s3_init_c47 S E hF hFn hN hI v0 0 h18
theorem k3_init (l : Launch) (d : m_D) (v0 v1 : Int) (h : m_H) : m_Con l d yX3_init cX3_init 3 none 2 (fun _ => []) [m_r v0, m_r v1] h (t3_init v0 v1 h) :=
  m_con2 (by decide +kernel) (Nat.le_of_ble_eq_true rfl) (fun Y hN hRm hr hI S hfin => s3_init S (m_end_v S hr hfin) hRm (Nat.le_refl _) hN hI v0 v1 h)
set_option maxRecDepth 100000 in
theorem e7_there : ∀ q ∈ ([(0, .aload_n 0, 1), (1, .iload_n 1, 1), (2, .invokevirtual 37, 3), (5, .astore_n 2, 1), (6, .aload_n 2, 1), (7, .ifnull 14, 3), (10, .aload_n 2, 1), (11, .getfield 41, 3), (14, .ifCond .ne 7, 3), (17, .aload_n 2, 1), (18, .goto 4, 3), (21, .aconst_null, 1), (22, .areturn, 1)] : List (Nat × Instr × Nat)), decode cX7_there q.1 = .ok q.2 := by decide +kernel
set_option maxHeartbeats 4000000 in
set_option maxRecDepth 20000 in
theorem s7_there {Y : m_Y Int} (S : m_Std Y RX7 cX7_there) (E : m_End Y cX7_there .areturn (fun r => [m_r r])) {F : Nat} (hF : m_Rm Y F) (hFn : 1 ≤ F) (hN : Y.2.2.2.1 = 3) (v0 v1 : Int) (h : m_H) : m_Sim Y 0 [(0, m_r v0), (1, m_i v1)] [] h (t7_there v0 v1 h) := by
  unfold t7_there
  refine ms_aload_n (pc := 0) S 0 rfl rfl (m_dec e7_there 0 rfl) ?_
  refine ms_iload_n (pc := 1) S 1 rfl rfl (m_dec e7_there 1 rfl) ?_
  refine ms_grd fun g1 => ?_
  refine ms_callVa (pc := 2) S hF (vals := [m_i v1]) (st := []) (hc := vw_7) (hci := by decide) (hcy := rfl) (ht := g1) (hC := (k7_known _ _ v0 v1 h)) (hM := lm_X7_37) (hfr := (Nat.le_trans (by decide) hFn)) (hstk := rfl) (hcat := Nat.le_of_ble_eq_true rfl) (hd := (m_dec e7_there 2 rfl)) (k1 := fun r3 h2 => ?_)
  refine ms_astore_n (pc := 5) S (L' := [(2, m_r r3)]) [0] rfl rfl (m_lt hN rfl) (m_dec e7_there 3 rfl) ?_
  refine ms_aload_n (pc := 6) S 0 rfl rfl (m_dec e7_there 4 rfl) ?_
  refine ms_ifnull (pc := 7) S (m_dec e7_there 5 rfl) rfl (fun q4 => ?_) (fun q4 => ?_)
  · refine ms_null (pc := 21) S (m_dec e7_there 11 rfl) ?_
    exact ms_ret (pc := 22) E (m_dec e7_there 12 rfl) rfl
  · refine ms_aload_n (pc := 10) S 0 rfl rfl (m_dec e7_there 6 rfl) ?_
    refine ms_grd fun g5 => ?_
    refine ms_getf (pc := 11) S lf_X7_41 rfl (m_dec e7_there 7 rfl) g5 ?_
    refine ms_if_ne (pc := 14) S (m_dec e7_there 8 rfl) rfl (fun q6 => ?_) (fun q6 => ?_)
    · refine ms_aload_n (pc := 17) S 0 rfl rfl (m_dec e7_there 9 rfl) ?_
      refine ms_goto (pc := 18) S (m_dec e7_there 10 rfl) rfl ?_
      exact ms_ret (pc := 22) E (m_dec e7_there 12 rfl) rfl
    · refine ms_null (pc := 21) S (m_dec e7_there 11 rfl) ?_
      exact ms_ret (pc := 22) E (m_dec e7_there 12 rfl) rfl
theorem k7_there (l : Launch) (d : m_D) (v0 v1 : Int) (h : m_H) : m_Con l d yX7_there cX7_there 3 (some (.object "TapeStudio$Strip")) 1 (fun r => [m_r r]) [m_r v0, m_i v1] h (t7_there v0 v1 h) :=
  m_con2 (by decide +kernel) (Nat.le_of_ble_eq_true rfl) (fun Y hN hRm hr hI S hfin => s7_there S (m_end_a S (by first | exact Or.inl ⟨_, rfl⟩ | exact Or.inr ⟨_, rfl⟩) hr hfin) hRm (Nat.le_refl _) hN v0 v1 h)
set_option maxRecDepth 100000 in
theorem e7_markOf : ∀ q ∈ ([(0, .aload_n 0, 1), (1, .getfield 187, 3), (4, .iconst 1, 1), (5, .isub, 1), (6, .istore_n 3, 1), (7, .iload_n 3, 1), (8, .ifCond .lt 47, 3), (11, .aload_n 0, 1), (12, .getfield 23, 3), (15, .iload_n 3, 1), (16, .iconst (-1), 1), (17, .invokestatic 194, 3), (20, .iload_n 1, 1), (21, .if_icmp .ne 28, 3), (24, .aload_n 0, 1), (25, .getfield 30, 3), (28, .iload_n 3, 1), (29, .sipush 400, 3), (32, .invokestatic 194, 3), (35, .iload_n 2, 1), (36, .if_icmp .gt 13, 3), (39, .aload_n 0, 1), (40, .getfield 27, 3), (43, .iload_n 3, 1), (44, .iconst (-1), 1), (45, .invokestatic 194, 3), (48, .ireturn, 1), (49, .iinc 3 (-1), 3), (52, .goto (-45), 3), (55, .iconst (-1), 1), (56, .ireturn, 1)] : List (Nat × Instr × Nat)), decode cX7_markOf q.1 = .ok q.2 := by decide +kernel
set_option maxHeartbeats 4000000 in
set_option maxRecDepth 20000 in
theorem s7_markOf_c7 {Y : m_Y Int} (S : m_Std Y RX7 cX7_markOf) (E : m_End Y cX7_markOf .ireturn (fun r => [m_i r])) {F : Nat} (hF : m_Rm Y F) (hFn : 1 ≤ F) (hN : Y.2.2.2.1 = 4) : ∀ (v0 v1 v2 v3 : Int) (h : m_H), m_Sim Y 7 [(0, m_r v0), (1, m_i v1), (2, m_i v2), (3, m_i v3)] [] h (t7_markOf_c7 v0 v1 v2 v3 h) := by
  intro v0 v1 v2 v3 h
  refine ms_all fun r e => ?_
  refine t7_markOf_c7.partial_correctness v0 v1 v2 (motive := fun v3 h r => m_Sim Y 7 [(0, m_r v0), (1, m_i v1), (2, m_i v2), (3, m_i v3)] [] h (some r)) ?_ v3 h r e
  intro f ih v3 h r e
  have ih : ∀ (v3 : Int) (h : m_H), m_Sim Y 7 [(0, m_r v0), (1, m_i v1), (2, m_i v2), (3, m_i v3)] [] h (f v3 h ) := fun v3 h  => ms_all fun r e => ih v3 h r e
  refine ms_use ?_ e
  clear e r
  refine ms_iload_n (pc := 7) S 3 rfl rfl (m_dec e7_markOf 5 rfl) ?_
  refine ms_if_lt (pc := 8) S (m_dec e7_markOf 6 rfl) rfl (fun q1 => ?_) (fun q1 => ?_)
  · refine ms_iconst (pc := 55) S (m_dec e7_markOf 29 rfl) ?_
    exact ms_ret (pc := 56) E (m_dec e7_markOf 30 rfl) rfl
  · refine ms_aload_n (pc := 11) S 0 rfl rfl (m_dec e7_markOf 7 rfl) ?_
    refine ms_grd fun g2 => ?_
    refine ms_getf (pc := 12) S lf_X7_23 rfl (m_dec e7_markOf 8 rfl) g2 ?_
    refine ms_iload_n (pc := 15) S 3 rfl rfl (m_dec e7_markOf 9 rfl) ?_
    refine ms_iconst (pc := 16) S (m_dec e7_markOf 10 rfl) ?_
    refine ms_callSi (pc := 17) S hF (vals := [m_r (m_g h v0 7), m_i v3, m_i (-1)]) (st := [])  (hC := (k10_entry _ _ (m_g h v0 7) v3 (-1) h)) (hM := lm_X7_194) (hfr := (Nat.le_trans (by decide) hFn)) (hstk := rfl) (hcat := Nat.le_of_ble_eq_true rfl) (hd := (m_dec e7_markOf 11 rfl)) (k1 := fun r4 h3 => ?_)
    refine ms_iload_n (pc := 20) S 1 rfl rfl (m_dec e7_markOf 12 rfl) ?_
    refine ms_icmp_ne (pc := 21) S (m_dec e7_markOf 13 rfl) rfl (fun q5 => ?_) (fun q5 => ?_)
    · refine ms_aload_n (pc := 24) S 0 rfl rfl (m_dec e7_markOf 14 rfl) ?_
      refine ms_grd fun g6 => ?_
      refine ms_getf (pc := 25) S lf_X7_30 rfl (m_dec e7_markOf 15 rfl) g6 ?_
      refine ms_iload_n (pc := 28) S 3 rfl rfl (m_dec e7_markOf 16 rfl) ?_
      refine ms_sipush (pc := 29) S (m_dec e7_markOf 17 rfl) rfl ?_
      refine ms_callSi (pc := 32) S hF (vals := [m_r (m_g h3 v0 9), m_i v3, m_i 400]) (st := [])  (hC := (k10_entry _ _ (m_g h3 v0 9) v3 400 h3)) (hM := lm_X7_194) (hfr := (Nat.le_trans (by decide) hFn)) (hstk := rfl) (hcat := Nat.le_of_ble_eq_true rfl) (hd := (m_dec e7_markOf 18 rfl)) (k1 := fun r8 h7 => ?_)
      refine ms_iload_n (pc := 35) S 2 rfl rfl (m_dec e7_markOf 19 rfl) ?_
      refine ms_icmp_gt (pc := 36) S (m_dec e7_markOf 20 rfl) rfl (fun q9 => ?_) (fun q9 => ?_)
      · refine ms_iinc (pc := 49) S (L' := [(0, m_r v0), (1, m_i v1), (2, m_i v2), (3, m_i (v3 + (-1)))]) 3 rfl [1, 2, 3, 0] rfl (m_lt hN rfl) (m_dec e7_markOf 27 rfl) ?_
        refine ms_goto (pc := 52) S (m_dec e7_markOf 28 rfl) rfl ?_
        exact ih (v3 + (-1)) h7
      · refine ms_aload_n (pc := 39) S 0 rfl rfl (m_dec e7_markOf 21 rfl) ?_
        refine ms_grd fun g10 => ?_
        refine ms_getf (pc := 40) S lf_X7_27 rfl (m_dec e7_markOf 22 rfl) g10 ?_
        refine ms_iload_n (pc := 43) S 3 rfl rfl (m_dec e7_markOf 23 rfl) ?_
        refine ms_iconst (pc := 44) S (m_dec e7_markOf 24 rfl) ?_
        refine ms_callSi (pc := 45) S hF (vals := [m_r (m_g h7 v0 8), m_i v3, m_i (-1)]) (st := [])  (hC := (k10_entry _ _ (m_g h7 v0 8) v3 (-1) h7)) (hM := lm_X7_194) (hfr := (Nat.le_trans (by decide) hFn)) (hstk := rfl) (hcat := Nat.le_of_ble_eq_true rfl) (hd := (m_dec e7_markOf 25 rfl)) (k1 := fun r12 h11 => ?_)
        exact ms_ret (pc := 48) E (m_dec e7_markOf 26 rfl) rfl
    · refine ms_iinc (pc := 49) S (L' := [(0, m_r v0), (1, m_i v1), (2, m_i v2), (3, m_i (v3 + (-1)))]) 3 rfl [1, 2, 3, 0] rfl (m_lt hN rfl) (m_dec e7_markOf 27 rfl) ?_
      refine ms_goto (pc := 52) S (m_dec e7_markOf 28 rfl) rfl ?_
      exact ih (v3 + (-1)) h3
set_option maxHeartbeats 4000000 in
set_option maxRecDepth 20000 in
theorem s7_markOf {Y : m_Y Int} (S : m_Std Y RX7 cX7_markOf) (E : m_End Y cX7_markOf .ireturn (fun r => [m_i r])) {F : Nat} (hF : m_Rm Y F) (hFn : 1 ≤ F) (hN : Y.2.2.2.1 = 4) (v0 v1 v2 : Int) (h : m_H) : m_Sim Y 0 [(0, m_r v0), (1, m_i v1), (2, m_i v2)] [] h (t7_markOf v0 v1 v2 h) := by
  unfold t7_markOf
  refine ms_aload_n (pc := 0) S 0 rfl rfl (m_dec e7_markOf 0 rfl) ?_
  refine ms_grd fun g1 => ?_
  refine ms_getf (pc := 1) S lf_X7_187 rfl (m_dec e7_markOf 1 rfl) g1 ?_
  refine ms_iconst (pc := 4) S (m_dec e7_markOf 2 rfl) ?_
  refine ms_isub (pc := 5) S (m_dec e7_markOf 3 rfl) ?_
  refine ms_nm (st := fun x2 => [m_i x2]) fun x2 => ?_
  refine ms_istore_n (pc := 6) S (L' := [(0, m_r v0), (1, m_i v1), (2, m_i v2), (3, m_i x2)]) [1, 2, 3, 0] rfl rfl (m_lt hN rfl) (m_dec e7_markOf 4 rfl) ?_
  exact s7_markOf_c7 S E hF hFn hN v0 v1 v2 x2 h
theorem k7_markOf (l : Launch) (d : m_D) (v0 v1 v2 : Int) (h : m_H) : m_Con l d yX7_markOf cX7_markOf 4 (some .int) 1 (fun r => [m_i r]) [m_r v0, m_i v1, m_i v2] h (t7_markOf v0 v1 v2 h) :=
  m_con2 (by decide +kernel) (Nat.le_of_ble_eq_true rfl) (fun Y hN hRm hr hI S hfin => s7_markOf S (m_end_i S hr hfin) hRm (Nat.le_refl _) hN v0 v1 v2 h)
set_option maxRecDepth 100000 in
theorem e7_leastMarked : ∀ q ∈ ([(0, .iconst 0, 1), (1, .istore_n 3, 1), (2, .iload_n 3, 1), (3, .aload_n 0, 1), (4, .getfield 33, 3), (7, .if_icmp .ge 29, 3), (10, .aload_n 0, 1), (11, .iload_n 3, 1), (12, .invokevirtual 47, 3), (15, .ifnull 15, 3), (18, .aload_n 0, 1), (19, .iload_n 3, 1), (20, .iload_n 2, 1), (21, .invokevirtual 198, 3), (24, .iload_n 1, 1), (25, .if_icmp .ne 5, 3), (28, .iload_n 3, 1), (29, .ireturn, 1), (30, .iinc 3 1, 3), (33, .goto (-31), 3), (36, .iconst (-1), 1), (37, .ireturn, 1)] : List (Nat × Instr × Nat)), decode cX7_leastMarked q.1 = .ok q.2 := by decide +kernel
set_option maxHeartbeats 4000000 in
set_option maxRecDepth 20000 in
theorem s7_leastMarked_c2 {Y : m_Y Int} (S : m_Std Y RX7 cX7_leastMarked) (E : m_End Y cX7_leastMarked .ireturn (fun r => [m_i r])) {F : Nat} (hF : m_Rm Y F) (hFn : 2 ≤ F) (hN : Y.2.2.2.1 = 4) : ∀ (v0 v1 v2 v3 : Int) (h : m_H), m_Sim Y 2 [(0, m_r v0), (1, m_i v1), (2, m_i v2), (3, m_i v3)] [] h (t7_leastMarked_c2 v0 v1 v2 v3 h) := by
  intro v0 v1 v2 v3 h
  refine ms_all fun r e => ?_
  refine t7_leastMarked_c2.partial_correctness v0 v1 v2 (motive := fun v3 h r => m_Sim Y 2 [(0, m_r v0), (1, m_i v1), (2, m_i v2), (3, m_i v3)] [] h (some r)) ?_ v3 h r e
  intro f ih v3 h r e
  have ih : ∀ (v3 : Int) (h : m_H), m_Sim Y 2 [(0, m_r v0), (1, m_i v1), (2, m_i v2), (3, m_i v3)] [] h (f v3 h ) := fun v3 h  => ms_all fun r e => ih v3 h r e
  refine ms_use ?_ e
  clear e r
  refine ms_iload_n (pc := 2) S 3 rfl rfl (m_dec e7_leastMarked 2 rfl) ?_
  refine ms_aload_n (pc := 3) S 0 rfl rfl (m_dec e7_leastMarked 3 rfl) ?_
  refine ms_grd fun g1 => ?_
  refine ms_getf (pc := 4) S lf_X7_33 rfl (m_dec e7_leastMarked 4 rfl) g1 ?_
  refine ms_icmp_ge (pc := 7) S (m_dec e7_leastMarked 5 rfl) rfl (fun q2 => ?_) (fun q2 => ?_)
  · refine ms_aload_n (pc := 10) S 0 rfl rfl (m_dec e7_leastMarked 6 rfl) ?_
    refine ms_iload_n (pc := 11) S 3 rfl rfl (m_dec e7_leastMarked 7 rfl) ?_
    refine ms_callVa (pc := 12) S hF (vals := [m_i v3]) (st := []) (hc := vw_7) (hci := by decide) (hcy := rfl) (ht := g1) (hC := (k7_there _ _ v0 v3 h)) (hM := lm_X7_47) (hfr := (Nat.le_trans (by decide) hFn)) (hstk := rfl) (hcat := Nat.le_of_ble_eq_true rfl) (hd := (m_dec e7_leastMarked 8 rfl)) (k1 := fun r4 h3 => ?_)
    refine ms_ifnull (pc := 15) S (m_dec e7_leastMarked 9 rfl) rfl (fun q5 => ?_) (fun q5 => ?_)
    · refine ms_iinc (pc := 30) S (L' := [(0, m_r v0), (1, m_i v1), (2, m_i v2), (3, m_i (v3 + 1))]) 3 rfl [1, 2, 3, 0] rfl (m_lt hN rfl) (m_dec e7_leastMarked 18 rfl) ?_
      refine ms_goto (pc := 33) S (m_dec e7_leastMarked 19 rfl) rfl ?_
      exact ih (v3 + 1) h3
    · refine ms_aload_n (pc := 18) S 0 rfl rfl (m_dec e7_leastMarked 10 rfl) ?_
      refine ms_iload_n (pc := 19) S 3 rfl rfl (m_dec e7_leastMarked 11 rfl) ?_
      refine ms_iload_n (pc := 20) S 2 rfl rfl (m_dec e7_leastMarked 12 rfl) ?_
      refine ms_grd fun g6 => ?_
      refine ms_callVi (pc := 21) S hF (vals := [m_i v3, m_i v2]) (st := []) (hc := vw_7) (hci := by decide) (hcy := rfl) (ht := g6) (hC := (k7_markOf _ _ v0 v3 v2 h3)) (hM := lm_X7_198) (hfr := (Nat.le_trans (by decide) hFn)) (hstk := rfl) (hcat := Nat.le_of_ble_eq_true rfl) (hd := (m_dec e7_leastMarked 13 rfl)) (k1 := fun r8 h7 => ?_)
      refine ms_iload_n (pc := 24) S 1 rfl rfl (m_dec e7_leastMarked 14 rfl) ?_
      refine ms_icmp_ne (pc := 25) S (m_dec e7_leastMarked 15 rfl) rfl (fun q9 => ?_) (fun q9 => ?_)
      · refine ms_iload_n (pc := 28) S 3 rfl rfl (m_dec e7_leastMarked 16 rfl) ?_
        exact ms_ret (pc := 29) E (m_dec e7_leastMarked 17 rfl) rfl
      · refine ms_iinc (pc := 30) S (L' := [(0, m_r v0), (1, m_i v1), (2, m_i v2), (3, m_i (v3 + 1))]) 3 rfl [1, 2, 3, 0] rfl (m_lt hN rfl) (m_dec e7_leastMarked 18 rfl) ?_
        refine ms_goto (pc := 33) S (m_dec e7_leastMarked 19 rfl) rfl ?_
        exact ih (v3 + 1) h7
  · refine ms_iconst (pc := 36) S (m_dec e7_leastMarked 20 rfl) ?_
    exact ms_ret (pc := 37) E (m_dec e7_leastMarked 21 rfl) rfl
set_option maxHeartbeats 4000000 in
set_option maxRecDepth 20000 in
theorem s7_leastMarked {Y : m_Y Int} (S : m_Std Y RX7 cX7_leastMarked) (E : m_End Y cX7_leastMarked .ireturn (fun r => [m_i r])) {F : Nat} (hF : m_Rm Y F) (hFn : 2 ≤ F) (hN : Y.2.2.2.1 = 4) (v0 v1 v2 : Int) (h : m_H) : m_Sim Y 0 [(0, m_r v0), (1, m_i v1), (2, m_i v2)] [] h (t7_leastMarked v0 v1 v2 h) := by
  unfold t7_leastMarked
  refine ms_iconst (pc := 0) S (m_dec e7_leastMarked 0 rfl) ?_
  refine ms_istore_n (pc := 1) S (L' := [(0, m_r v0), (1, m_i v1), (2, m_i v2), (3, m_i 0)]) [1, 2, 3, 0] rfl rfl (m_lt hN rfl) (m_dec e7_leastMarked 1 rfl) ?_
  exact s7_leastMarked_c2 S E hF hFn hN v0 v1 v2 0 h
theorem k7_leastMarked (l : Launch) (d : m_D) (v0 v1 v2 : Int) (h : m_H) : m_Con l d yX7_leastMarked cX7_leastMarked 4 (some .int) 2 (fun r => [m_i r]) [m_r v0, m_i v1, m_i v2] h (t7_leastMarked v0 v1 v2 h) :=
  m_con2 (by decide +kernel) (Nat.le_of_ble_eq_true rfl) (fun Y hN hRm hr hI S hfin => s7_leastMarked S (m_end_i S hr hfin) hRm (Nat.le_refl _) hN v0 v1 v2 h)
set_option maxRecDepth 100000 in
theorem e3_stripOf : ∀ q ∈ ([(0, .aload_n 1, 1), (1, .iload_n 2, 1), (2, .iconst 0, 1), (3, .invokevirtual 58, 3), (6, .istore 4, 2), (8, .aload_n 1, 1), (9, .iload_n 2, 1), (10, .invokevirtual 62, 3), (13, .iconst 1, 1), (14, .if_icmp .ne 14, 3), (17, .aload_n 0, 1), (18, .getfield 29, 3), (21, .iload 4, 2), (23, .iload_n 3, 1), (24, .invokevirtual 66, 3), (27, .ireturn, 1), (28, .aload_n 1, 1), (29, .iload_n 2, 1), (30, .invokevirtual 62, 3), (33, .ifCond .ne 20, 3), (36, .aload_n 0, 1), (37, .getfield 29, 3), (40, .iload 4, 2), (42, .invokevirtual 71, 3), (45, .ifnull 8, 3), (48, .iload 4, 2), (50, .goto 4, 3), (53, .iconst (-1), 1), (54, .ireturn, 1)] : List (Nat × Instr × Nat)), decode cX3_stripOf q.1 = .ok q.2 := by decide +kernel
set_option maxHeartbeats 4000000 in
set_option maxRecDepth 20000 in
theorem s3_stripOf {Y : m_Y Int} (S : m_Std Y RX3 cX3_stripOf) (E : m_End Y cX3_stripOf .ireturn (fun r => [m_i r])) {F : Nat} (hF : m_Rm Y F) (hFn : 3 ≤ F) (hN : Y.2.2.2.1 = 5) (v0 v1 v2 v3 : Int) (h : m_H) : m_Sim Y 0 [(0, m_r v0), (1, m_r v1), (2, m_i v2), (3, m_i v3)] [] h (t3_stripOf v0 v1 v2 v3 h) := by
  unfold t3_stripOf
  refine ms_aload_n (pc := 0) S 1 rfl rfl (m_dec e3_stripOf 0 rfl) ?_
  refine ms_iload_n (pc := 1) S 2 rfl rfl (m_dec e3_stripOf 1 rfl) ?_
  refine ms_iconst (pc := 2) S (m_dec e3_stripOf 2 rfl) ?_
  refine ms_grd fun g1 => ?_
  refine ms_callVi (pc := 3) S hF (vals := [m_i v2, m_i 0]) (st := []) (hc := vw_6) (hci := by decide) (hcy := rfl) (ht := g1) (hC := (k6_number _ _ v1 v2 0 h)) (hM := lm_X3_58) (hfr := (Nat.le_trans (by decide) hFn)) (hstk := rfl) (hcat := Nat.le_of_ble_eq_true rfl) (hd := (m_dec e3_stripOf 3 rfl)) (k1 := fun r3 h2 => ?_)
  refine ms_istore (pc := 6) S (L' := [(0, m_r v0), (1, m_r v1), (2, m_i v2), (3, m_i v3), (4, m_i r3)]) [1, 2, 3, 4, 0] rfl (m_lt hN rfl) (m_dec e3_stripOf 4 rfl) ?_
  refine ms_aload_n (pc := 8) S 1 rfl rfl (m_dec e3_stripOf 5 rfl) ?_
  refine ms_iload_n (pc := 9) S 2 rfl rfl (m_dec e3_stripOf 6 rfl) ?_
  refine ms_grd fun g4 => ?_
  refine ms_callVi (pc := 10) S hF (vals := [m_i v2]) (st := []) (hc := vw_6) (hci := by decide) (hcy := rfl) (ht := g4) (hC := (k6_verb _ _ v1 v2 h2)) (hM := lm_X3_62) (hfr := (Nat.le_trans (by decide) hFn)) (hstk := rfl) (hcat := Nat.le_of_ble_eq_true rfl) (hd := (m_dec e3_stripOf 7 rfl)) (k1 := fun r6 h5 => ?_)
  refine ms_iconst (pc := 13) S (m_dec e3_stripOf 8 rfl) ?_
  refine ms_icmp_ne (pc := 14) S (m_dec e3_stripOf 9 rfl) rfl (fun q7 => ?_) (fun q7 => ?_)
  · refine ms_aload_n (pc := 17) S 0 rfl rfl (m_dec e3_stripOf 10 rfl) ?_
    refine ms_grd fun g8 => ?_
    refine ms_getf (pc := 18) S lf_X3_29 rfl (m_dec e3_stripOf 11 rfl) g8 ?_
    refine ms_iload (pc := 21) S 4 rfl (m_dec e3_stripOf 12 rfl) ?_
    refine ms_iload_n (pc := 23) S 3 rfl rfl (m_dec e3_stripOf 13 rfl) ?_
    refine ms_grd fun g9 => ?_
    refine ms_callVi (pc := 24) S hF (vals := [m_i r3, m_i v3]) (st := []) (hc := vw_7) (hci := by decide) (hcy := rfl) (ht := g9) (hC := (k7_leastMarked _ _ (m_g h5 v0 0) r3 v3 h5)) (hM := lm_X3_66) (hfr := (Nat.le_trans (by decide) hFn)) (hstk := rfl) (hcat := Nat.le_of_ble_eq_true rfl) (hd := (m_dec e3_stripOf 14 rfl)) (k1 := fun r11 h10 => ?_)
    exact ms_ret (pc := 27) E (m_dec e3_stripOf 15 rfl) rfl
  · refine ms_aload_n (pc := 28) S 1 rfl rfl (m_dec e3_stripOf 16 rfl) ?_
    refine ms_iload_n (pc := 29) S 2 rfl rfl (m_dec e3_stripOf 17 rfl) ?_
    refine ms_grd fun g12 => ?_
    refine ms_callVi (pc := 30) S hF (vals := [m_i v2]) (st := []) (hc := vw_6) (hci := by decide) (hcy := rfl) (ht := g12) (hC := (k6_verb _ _ v1 v2 h5)) (hM := lm_X3_62) (hfr := (Nat.le_trans (by decide) hFn)) (hstk := rfl) (hcat := Nat.le_of_ble_eq_true rfl) (hd := (m_dec e3_stripOf 18 rfl)) (k1 := fun r14 h13 => ?_)
    refine ms_if_ne (pc := 33) S (m_dec e3_stripOf 19 rfl) rfl (fun q15 => ?_) (fun q15 => ?_)
    · refine ms_aload_n (pc := 36) S 0 rfl rfl (m_dec e3_stripOf 20 rfl) ?_
      refine ms_grd fun g16 => ?_
      refine ms_getf (pc := 37) S lf_X3_29 rfl (m_dec e3_stripOf 21 rfl) g16 ?_
      refine ms_iload (pc := 40) S 4 rfl (m_dec e3_stripOf 22 rfl) ?_
      refine ms_grd fun g17 => ?_
      refine ms_callVa (pc := 42) S hF (vals := [m_i r3]) (st := []) (hc := vw_7) (hci := by decide) (hcy := rfl) (ht := g17) (hC := (k7_there _ _ (m_g h13 v0 0) r3 h13)) (hM := lm_X3_71) (hfr := (Nat.le_trans (by decide) hFn)) (hstk := rfl) (hcat := Nat.le_of_ble_eq_true rfl) (hd := (m_dec e3_stripOf 23 rfl)) (k1 := fun r19 h18 => ?_)
      refine ms_ifnull (pc := 45) S (m_dec e3_stripOf 24 rfl) rfl (fun q20 => ?_) (fun q20 => ?_)
      · refine ms_iconst (pc := 53) S (m_dec e3_stripOf 27 rfl) ?_
        exact ms_ret (pc := 54) E (m_dec e3_stripOf 28 rfl) rfl
      · refine ms_iload (pc := 48) S 4 rfl (m_dec e3_stripOf 25 rfl) ?_
        refine ms_goto (pc := 50) S (m_dec e3_stripOf 26 rfl) rfl ?_
        exact ms_ret (pc := 54) E (m_dec e3_stripOf 28 rfl) rfl
    · refine ms_iconst (pc := 53) S (m_dec e3_stripOf 27 rfl) ?_
      exact ms_ret (pc := 54) E (m_dec e3_stripOf 28 rfl) rfl
theorem k3_stripOf (l : Launch) (d : m_D) (v0 v1 v2 v3 : Int) (h : m_H) : m_Con l d yX3_stripOf cX3_stripOf 5 (some .int) 3 (fun r => [m_i r]) [m_r v0, m_r v1, m_i v2, m_i v3] h (t3_stripOf v0 v1 v2 v3 h) :=
  m_con2 (by decide +kernel) (Nat.le_of_ble_eq_true rfl) (fun Y hN hRm hr hI S hfin => s3_stripOf S (m_end_i S hr hfin) hRm (Nat.le_refl _) hN v0 v1 v2 v3 h)
set_option maxRecDepth 100000 in
theorem e3_canPut : ∀ q ∈ ([(0, .aload_n 1, 1), (1, .iload_n 2, 1), (2, .bipush 6, 2), (4, .invokevirtual 75, 3), (7, .iconst 1, 1), (8, .isub, 1), (9, .aload_n 1, 1), (10, .iload_n 2, 1), (11, .bipush 7, 2), (13, .invokevirtual 75, 3), (16, .imul, 1), (17, .istore_n 3, 1), (18, .aload_n 1, 1), (19, .iload_n 2, 1), (20, .iconst 0, 1), (21, .invokevirtual 58, 3), (24, .iload_n 3, 1), (25, .iadd, 1), (26, .aload_n 0, 1), (27, .aload_n 1, 1), (28, .iload_n 2, 1), (29, .invokevirtual 78, 3), (32, .invokevirtual 81, 3), (35, .invokevirtual 85, 3), (38, .iadd, 1), (39, .sipush 3000, 3), (42, .if_icmp .gt 7, 3), (45, .iconst 1, 1), (46, .goto 4, 3), (49, .iconst 0, 1), (50, .ireturn, 1)] : List (Nat × Instr × Nat)), decode cX3_canPut q.1 = .ok q.2 := by decide +kernel
set_option maxHeartbeats 4000000 in
set_option maxRecDepth 20000 in
theorem s3_canPut {Y : m_Y Bool} (S : m_Std Y RX3 cX3_canPut) (E : m_End Y cX3_canPut .ireturn (fun r => [m_i (m_b2i r)])) {F : Nat} (hF : m_Rm Y F) (hFn : 2 ≤ F) (hN : Y.2.2.2.1 = 4) (v0 v1 v2 : Int) (h : m_H) : m_Sim Y 0 [(0, m_r v0), (1, m_r v1), (2, m_i v2)] [] h (t3_canPut v0 v1 v2 h) := by
  unfold t3_canPut
  refine ms_aload_n (pc := 0) S 1 rfl rfl (m_dec e3_canPut 0 rfl) ?_
  refine ms_iload_n (pc := 1) S 2 rfl rfl (m_dec e3_canPut 1 rfl) ?_
  refine ms_bipush (pc := 2) S (m_dec e3_canPut 2 rfl) rfl ?_
  refine ms_grd fun g1 => ?_
  refine ms_callVi (pc := 4) S hF (vals := [m_i v2, m_i 6]) (st := []) (hc := vw_6) (hci := by decide) (hcy := rfl) (ht := g1) (hC := (k6_cell _ _ v1 v2 6 h)) (hM := lm_X3_75) (hfr := (Nat.le_trans (by decide) hFn)) (hstk := rfl) (hcat := Nat.le_of_ble_eq_true rfl) (hd := (m_dec e3_canPut 3 rfl)) (k1 := fun r3 h2 => ?_)
  refine ms_iconst (pc := 7) S (m_dec e3_canPut 4 rfl) ?_
  refine ms_isub (pc := 8) S (m_dec e3_canPut 5 rfl) ?_
  refine ms_aload_n (pc := 9) S 1 rfl rfl (m_dec e3_canPut 6 rfl) ?_
  refine ms_iload_n (pc := 10) S 2 rfl rfl (m_dec e3_canPut 7 rfl) ?_
  refine ms_bipush (pc := 11) S (m_dec e3_canPut 8 rfl) rfl ?_
  refine ms_grd fun g4 => ?_
  refine ms_callVi (pc := 13) S hF (vals := [m_i v2, m_i 7]) (st := [m_i (r3 - 1)]) (hc := vw_6) (hci := by decide) (hcy := rfl) (ht := g4) (hC := (k6_cell _ _ v1 v2 7 h2)) (hM := lm_X3_75) (hfr := (Nat.le_trans (by decide) hFn)) (hstk := rfl) (hcat := Nat.le_of_ble_eq_true rfl) (hd := (m_dec e3_canPut 9 rfl)) (k1 := fun r6 h5 => ?_)
  refine ms_imul (pc := 16) S (m_dec e3_canPut 10 rfl) ?_
  refine ms_nm (st := fun x7 => [m_i x7]) fun x7 => ?_
  refine ms_istore_n (pc := 17) S (L' := [(0, m_r v0), (1, m_r v1), (2, m_i v2), (3, m_i x7)]) [1, 2, 3, 0] rfl rfl (m_lt hN rfl) (m_dec e3_canPut 11 rfl) ?_
  refine ms_aload_n (pc := 18) S 1 rfl rfl (m_dec e3_canPut 12 rfl) ?_
  refine ms_iload_n (pc := 19) S 2 rfl rfl (m_dec e3_canPut 13 rfl) ?_
  refine ms_iconst (pc := 20) S (m_dec e3_canPut 14 rfl) ?_
  refine ms_grd fun g8 => ?_
  refine ms_callVi (pc := 21) S hF (vals := [m_i v2, m_i 0]) (st := []) (hc := vw_6) (hci := by decide) (hcy := rfl) (ht := g8) (hC := (k6_number _ _ v1 v2 0 h5)) (hM := lm_X3_58) (hfr := (Nat.le_trans (by decide) hFn)) (hstk := rfl) (hcat := Nat.le_of_ble_eq_true rfl) (hd := (m_dec e3_canPut 15 rfl)) (k1 := fun r10 h9 => ?_)
  refine ms_iload_n (pc := 24) S 3 rfl rfl (m_dec e3_canPut 16 rfl) ?_
  refine ms_iadd (pc := 25) S (m_dec e3_canPut 17 rfl) ?_
  refine ms_aload_n (pc := 26) S 0 rfl rfl (m_dec e3_canPut 18 rfl) ?_
  refine ms_aload_n (pc := 27) S 1 rfl rfl (m_dec e3_canPut 19 rfl) ?_
  refine ms_iload_n (pc := 28) S 2 rfl rfl (m_dec e3_canPut 20 rfl) ?_
  refine ms_grd fun g11 => ?_
  refine ms_callVi (pc := 29) S hF (vals := [m_i v2]) (st := [m_r v0, m_i (r10 + x7)]) (hc := vw_6) (hci := by decide) (hcy := rfl) (ht := g11) (hC := (k6_one _ _ v1 v2 h9)) (hM := lm_X3_78) (hfr := (Nat.le_trans (by decide) hFn)) (hstk := rfl) (hcat := Nat.le_of_ble_eq_true rfl) (hd := (m_dec e3_canPut 21 rfl)) (k1 := fun r13 h12 => ?_)
  refine ms_grd fun g14 => ?_
  refine ms_callVa (pc := 32) S hF (vals := [m_i r13]) (st := [m_i (r10 + x7)]) (hc := vw_3) (hci := by decide) (hcy := rfl) (ht := g14) (hC := (k3_row _ _ v0 r13 h12)) (hM := lm_X3_81) (hfr := (Nat.le_trans (by decide) hFn)) (hstk := rfl) (hcat := Nat.le_of_ble_eq_true rfl) (hd := (m_dec e3_canPut 22 rfl)) (k1 := fun r16 h15 => ?_)
  refine ms_grd fun g17 => ?_
  refine ms_callVi (pc := 35) S hF (vals := []) (st := [m_i (r10 + x7)]) (hc := vw_5) (hci := by decide) (hcy := rfl) (ht := g17) (hC := (k5_size _ _ r16 h15)) (hM := lm_X3_85) (hfr := (Nat.le_trans (by decide) hFn)) (hstk := rfl) (hcat := Nat.le_of_ble_eq_true rfl) (hd := (m_dec e3_canPut 23 rfl)) (k1 := fun r19 h18 => ?_)
  refine ms_iadd (pc := 38) S (m_dec e3_canPut 24 rfl) ?_
  refine ms_sipush (pc := 39) S (m_dec e3_canPut 25 rfl) rfl ?_
  refine ms_icmp_gt (pc := 42) S (m_dec e3_canPut 26 rfl) rfl (fun q20 => ?_) (fun q20 => ?_)
  · refine ms_iconst (pc := 49) S (m_dec e3_canPut 29 rfl) ?_
    exact ms_ret (pc := 50) E (m_dec e3_canPut 30 rfl) rfl
  · refine ms_iconst (pc := 45) S (m_dec e3_canPut 27 rfl) ?_
    refine ms_goto (pc := 46) S (m_dec e3_canPut 28 rfl) rfl ?_
    exact ms_ret (pc := 50) E (m_dec e3_canPut 30 rfl) rfl
theorem k3_canPut (l : Launch) (d : m_D) (v0 v1 v2 : Int) (h : m_H) : m_Con l d yX3_canPut cX3_canPut 4 (some .boolean) 2 (fun r => [m_i (m_b2i r)]) [m_r v0, m_r v1, m_i v2] h (t3_canPut v0 v1 v2 h) :=
  m_con2 (by decide +kernel) (Nat.le_of_ble_eq_true rfl) (fun Y hN hRm hr hI S hfin => s3_canPut S (m_end_z S hr hfin) hRm (Nat.le_refl _) hN v0 v1 v2 h)
set_option maxRecDepth 100000 in
theorem e3_fillStrip : ∀ q ∈ ([(0, .aload_n 0, 1), (1, .getfield 29, 3), (4, .iload_n 2, 1), (5, .invokevirtual 71, 3), (8, .astore_n 3, 1), (9, .aload_n 3, 1), (10, .ifnonnull 5, 3), (13, .iconst 0, 1), (14, .ireturn, 1), (15, .aload_n 1, 1), (16, .aload_n 3, 1), (17, .getfield 149, 3), (20, .iconst 0, 1), (21, .aload_n 3, 1), (22, .getfield 149, 3), (25, .invokevirtual 85, 3), (28, .invokevirtual 122, 3), (31, .iconst 1, 1), (32, .ireturn, 1)] : List (Nat × Instr × Nat)), decode cX3_fillStrip q.1 = .ok q.2 := by decide +kernel
set_option maxHeartbeats 4000000 in
set_option maxRecDepth 20000 in
theorem s3_fillStrip {Y : m_Y Bool} (S : m_Std Y RX3 cX3_fillStrip) (E : m_End Y cX3_fillStrip .ireturn (fun r => [m_i (m_b2i r)])) {F : Nat} (hF : m_Rm Y F) (hFn : 4 ≤ F) (hN : Y.2.2.2.1 = 4) (v0 v1 v2 : Int) (h : m_H) : m_Sim Y 0 [(0, m_r v0), (1, m_r v1), (2, m_i v2)] [] h (t3_fillStrip v0 v1 v2 h) := by
  unfold t3_fillStrip
  refine ms_aload_n (pc := 0) S 0 rfl rfl (m_dec e3_fillStrip 0 rfl) ?_
  refine ms_grd fun g1 => ?_
  refine ms_getf (pc := 1) S lf_X3_29 rfl (m_dec e3_fillStrip 1 rfl) g1 ?_
  refine ms_iload_n (pc := 4) S 2 rfl rfl (m_dec e3_fillStrip 2 rfl) ?_
  refine ms_grd fun g2 => ?_
  refine ms_callVa (pc := 5) S hF (vals := [m_i v2]) (st := []) (hc := vw_7) (hci := by decide) (hcy := rfl) (ht := g2) (hC := (k7_there _ _ (m_g h v0 0) v2 h)) (hM := lm_X3_71) (hfr := (Nat.le_trans (by decide) hFn)) (hstk := rfl) (hcat := Nat.le_of_ble_eq_true rfl) (hd := (m_dec e3_fillStrip 3 rfl)) (k1 := fun r4 h3 => ?_)
  refine ms_astore_n (pc := 8) S (L' := [(1, m_r v1), (3, m_r r4)]) [2, 0] rfl rfl (m_lt hN rfl) (m_dec e3_fillStrip 4 rfl) ?_
  refine ms_aload_n (pc := 9) S 1 rfl rfl (m_dec e3_fillStrip 5 rfl) ?_
  refine ms_ifnonnull (pc := 10) S (m_dec e3_fillStrip 6 rfl) rfl (fun q5 => ?_) (fun q5 => ?_)
  · refine ms_iconst (pc := 13) S (m_dec e3_fillStrip 7 rfl) ?_
    exact ms_ret (pc := 14) E (m_dec e3_fillStrip 8 rfl) rfl
  · refine ms_aload_n (pc := 15) S 0 rfl rfl (m_dec e3_fillStrip 9 rfl) ?_
    refine ms_aload_n (pc := 16) S 1 rfl rfl (m_dec e3_fillStrip 10 rfl) ?_
    refine ms_grd fun g6 => ?_
    refine ms_getf (pc := 17) S lf_X3_149 rfl (m_dec e3_fillStrip 11 rfl) g6 ?_
    refine ms_iconst (pc := 20) S (m_dec e3_fillStrip 12 rfl) ?_
    refine ms_aload_n (pc := 21) S 1 rfl rfl (m_dec e3_fillStrip 13 rfl) ?_
    refine ms_getf (pc := 22) S lf_X3_149 rfl (m_dec e3_fillStrip 14 rfl) g6 ?_
    refine ms_grd fun g7 => ?_
    refine ms_callVi (pc := 25) S hF (vals := []) (st := [m_i 0, m_r (m_g h3 r4 3), m_r v1]) (hc := vw_5) (hci := by decide) (hcy := rfl) (ht := g7) (hC := (k5_size _ _ (m_g h3 r4 3) h3)) (hM := lm_X3_85) (hfr := (Nat.le_trans (by decide) hFn)) (hstk := rfl) (hcat := Nat.le_of_ble_eq_true rfl) (hd := (m_dec e3_fillStrip 15 rfl)) (k1 := fun r9 h8 => ?_)
    refine ms_grd fun g10 => ?_
    refine ms_callVv (pc := 28) S hF (vals := [m_r (m_g h3 r4 3), m_i 0, m_i r9]) (st := []) (hc := vw_5) (hci := by decide) (hcy := rfl) (ht := g10) (hC := (k5_fillPart _ _ v1 (m_g h3 r4 3) 0 r9 h8)) (hM := lm_X3_122) (hfr := (Nat.le_trans (by decide) hFn)) (hstk := rfl) (hcat := Nat.le_of_ble_eq_true rfl) (hd := (m_dec e3_fillStrip 16 rfl)) (k1 := fun h11 => ?_)
    refine ms_iconst (pc := 31) S (m_dec e3_fillStrip 17 rfl) ?_
    exact ms_ret (pc := 32) E (m_dec e3_fillStrip 18 rfl) rfl
theorem k3_fillStrip (l : Launch) (d : m_D) (v0 v1 v2 : Int) (h : m_H) : m_Con l d yX3_fillStrip cX3_fillStrip 4 (some .boolean) 4 (fun r => [m_i (m_b2i r)]) [m_r v0, m_r v1, m_i v2] h (t3_fillStrip v0 v1 v2 h) :=
  m_con2 (by decide +kernel) (Nat.le_of_ble_eq_true rfl) (fun Y hN hRm hr hI S hfin => s3_fillStrip S (m_end_z S hr hfin) hRm (Nat.le_refl _) hN v0 v1 v2 h)
set_option maxRecDepth 100000 in
theorem e3_fillCut : ∀ q ∈ ([(0, .iload_n 2, 1), (1, .ifCond .lt 16, 3), (4, .iload_n 2, 1), (5, .iload_n 3, 1), (6, .if_icmp .ge 11, 3), (9, .iload_n 3, 1), (10, .aload_n 1, 1), (11, .invokevirtual 85, 3), (14, .if_icmp .le 5, 3), (17, .iconst 0, 1), (18, .ireturn, 1), (19, .aload_n 0, 1), (20, .aload_n 1, 1), (21, .iload_n 2, 1), (22, .iload_n 3, 1), (23, .iload_n 2, 1), (24, .isub, 1), (25, .invokevirtual 122, 3), (28, .iconst 1, 1), (29, .ireturn, 1)] : List (Nat × Instr × Nat)), decode cX3_fillCut q.1 = .ok q.2 := by decide +kernel
set_option maxHeartbeats 4000000 in
set_option maxRecDepth 20000 in
theorem s3_fillCut {Y : m_Y Bool} (S : m_Std Y RX3 cX3_fillCut) (E : m_End Y cX3_fillCut .ireturn (fun r => [m_i (m_b2i r)])) {F : Nat} (hF : m_Rm Y F) (hFn : 4 ≤ F) (hN : Y.2.2.2.1 = 4) (v0 v1 v2 v3 : Int) (h : m_H) : m_Sim Y 0 [(0, m_r v0), (1, m_r v1), (2, m_i v2), (3, m_i v3)] [] h (t3_fillCut v0 v1 v2 v3 h) := by
  unfold t3_fillCut
  refine ms_iload_n (pc := 0) S 2 rfl rfl (m_dec e3_fillCut 0 rfl) ?_
  refine ms_if_lt (pc := 1) S (m_dec e3_fillCut 1 rfl) rfl (fun q1 => ?_) (fun q1 => ?_)
  · refine ms_iconst (pc := 17) S (m_dec e3_fillCut 9 rfl) ?_
    exact ms_ret (pc := 18) E (m_dec e3_fillCut 10 rfl) rfl
  · refine ms_iload_n (pc := 4) S 2 rfl rfl (m_dec e3_fillCut 2 rfl) ?_
    refine ms_iload_n (pc := 5) S 3 rfl rfl (m_dec e3_fillCut 3 rfl) ?_
    refine ms_icmp_ge (pc := 6) S (m_dec e3_fillCut 4 rfl) rfl (fun q2 => ?_) (fun q2 => ?_)
    · refine ms_iload_n (pc := 9) S 3 rfl rfl (m_dec e3_fillCut 5 rfl) ?_
      refine ms_aload_n (pc := 10) S 1 rfl rfl (m_dec e3_fillCut 6 rfl) ?_
      refine ms_grd fun g3 => ?_
      refine ms_callVi (pc := 11) S hF (vals := []) (st := [m_i v3]) (hc := vw_5) (hci := by decide) (hcy := rfl) (ht := g3) (hC := (k5_size _ _ v1 h)) (hM := lm_X3_85) (hfr := (Nat.le_trans (by decide) hFn)) (hstk := rfl) (hcat := Nat.le_of_ble_eq_true rfl) (hd := (m_dec e3_fillCut 7 rfl)) (k1 := fun r5 h4 => ?_)
      refine ms_icmp_le (pc := 14) S (m_dec e3_fillCut 8 rfl) rfl (fun q6 => ?_) (fun q6 => ?_)
      · refine ms_iconst (pc := 17) S (m_dec e3_fillCut 9 rfl) ?_
        exact ms_ret (pc := 18) E (m_dec e3_fillCut 10 rfl) rfl
      · refine ms_aload_n (pc := 19) S 0 rfl rfl (m_dec e3_fillCut 11 rfl) ?_
        refine ms_aload_n (pc := 20) S 1 rfl rfl (m_dec e3_fillCut 12 rfl) ?_
        refine ms_iload_n (pc := 21) S 2 rfl rfl (m_dec e3_fillCut 13 rfl) ?_
        refine ms_iload_n (pc := 22) S 3 rfl rfl (m_dec e3_fillCut 14 rfl) ?_
        refine ms_iload_n (pc := 23) S 2 rfl rfl (m_dec e3_fillCut 15 rfl) ?_
        refine ms_isub (pc := 24) S (m_dec e3_fillCut 16 rfl) ?_
        refine ms_grd fun g7 => ?_
        refine ms_callVv (pc := 25) S hF (vals := [m_r v1, m_i v2, m_i (v3 - v2)]) (st := []) (hc := vw_5) (hci := by decide) (hcy := rfl) (ht := g7) (hC := (k5_fillPart _ _ v0 v1 v2 (v3 - v2) h4)) (hM := lm_X3_122) (hfr := (Nat.le_trans (by decide) hFn)) (hstk := rfl) (hcat := Nat.le_of_ble_eq_true rfl) (hd := (m_dec e3_fillCut 17 rfl)) (k1 := fun h8 => ?_)
        refine ms_iconst (pc := 28) S (m_dec e3_fillCut 18 rfl) ?_
        exact ms_ret (pc := 29) E (m_dec e3_fillCut 19 rfl) rfl
    · refine ms_iconst (pc := 17) S (m_dec e3_fillCut 9 rfl) ?_
      exact ms_ret (pc := 18) E (m_dec e3_fillCut 10 rfl) rfl
theorem k3_fillCut (l : Launch) (d : m_D) (v0 v1 v2 v3 : Int) (h : m_H) : m_Con l d yX3_fillCut cX3_fillCut 4 (some .boolean) 4 (fun r => [m_i (m_b2i r)]) [m_r v0, m_r v1, m_i v2, m_i v3] h (t3_fillCut v0 v1 v2 v3 h) :=
  m_con2 (by decide +kernel) (Nat.le_of_ble_eq_true rfl) (fun Y hN hRm hr hI S hfin => s3_fillCut S (m_end_z S hr hfin) hRm (Nat.le_refl _) hN v0 v1 v2 v3 h)
set_option maxRecDepth 100000 in
theorem e3_isLength : ∀ q ∈ ([(0, .iload_n 0, 1), (1, .iconst 1, 1), (2, .if_icmp .lt 14, 3), (5, .iload_n 0, 1), (6, .sipush 1500, 3), (9, .if_icmp .gt 7, 3), (12, .iconst 1, 1), (13, .goto 4, 3), (16, .iconst 0, 1), (17, .ireturn, 1)] : List (Nat × Instr × Nat)), decode cX3_isLength q.1 = .ok q.2 := by decide +kernel
set_option maxHeartbeats 4000000 in
set_option maxRecDepth 20000 in
theorem s3_isLength {Y : m_Y Bool} (S : m_Std Y RX3 cX3_isLength) (E : m_End Y cX3_isLength .ireturn (fun r => [m_i (m_b2i r)])) {F : Nat} (hF : m_Rm Y F) (hFn : 0 ≤ F) (hN : Y.2.2.2.1 = 1) (v0 : Int) (h : m_H) : m_Sim Y 0 [(0, m_i v0)] [] h (t3_isLength v0 h) := by
  unfold t3_isLength
  refine ms_iload_n (pc := 0) S 0 rfl rfl (m_dec e3_isLength 0 rfl) ?_
  refine ms_iconst (pc := 1) S (m_dec e3_isLength 1 rfl) ?_
  refine ms_icmp_lt (pc := 2) S (m_dec e3_isLength 2 rfl) rfl (fun q1 => ?_) (fun q1 => ?_)
  · refine ms_iconst (pc := 16) S (m_dec e3_isLength 8 rfl) ?_
    exact ms_ret (pc := 17) E (m_dec e3_isLength 9 rfl) rfl
  · refine ms_iload_n (pc := 5) S 0 rfl rfl (m_dec e3_isLength 3 rfl) ?_
    refine ms_sipush (pc := 6) S (m_dec e3_isLength 4 rfl) rfl ?_
    refine ms_icmp_gt (pc := 9) S (m_dec e3_isLength 5 rfl) rfl (fun q2 => ?_) (fun q2 => ?_)
    · refine ms_iconst (pc := 16) S (m_dec e3_isLength 8 rfl) ?_
      exact ms_ret (pc := 17) E (m_dec e3_isLength 9 rfl) rfl
    · refine ms_iconst (pc := 12) S (m_dec e3_isLength 6 rfl) ?_
      refine ms_goto (pc := 13) S (m_dec e3_isLength 7 rfl) rfl ?_
      exact ms_ret (pc := 17) E (m_dec e3_isLength 9 rfl) rfl
theorem k3_isLength (l : Launch) (d : m_D) (v0 : Int) (h : m_H) : m_Con l d yX3_isLength cX3_isLength 1 (some .boolean) 0 (fun r => [m_i (m_b2i r)]) [m_i v0] h (t3_isLength v0 h) :=
  m_con2 (by decide +kernel) (Nat.le_of_ble_eq_true rfl) (fun Y hN hRm hr hI S hfin => s3_isLength S (m_end_z S hr hfin) hRm (Nat.le_refl _) hN v0 h)
set_option maxRecDepth 100000 in
theorem e3_fillPlayed : ∀ q ∈ ([(0, .aload_n 1, 1), (1, .iload_n 2, 1), (2, .iload_n 3, 1), (3, .invokevirtual 153, 3), (6, .invokestatic 119, 3), (9, .ifCond .ne 5, 3), (12, .iconst 0, 1), (13, .ireturn, 1), (14, .aload_n 0, 1), (15, .aload_n 1, 1), (16, .iload_n 2, 1), (17, .iload_n 3, 1), (18, .invokevirtual 156, 3), (21, .iconst 1, 1), (22, .ireturn, 1)] : List (Nat × Instr × Nat)), decode cX3_fillPlayed q.1 = .ok q.2 := by decide +kernel
set_option maxHeartbeats 4000000 in
set_option maxRecDepth 20000 in
theorem s3_fillPlayed {Y : m_Y Bool} (S : m_Std Y RX3 cX3_fillPlayed) (E : m_End Y cX3_fillPlayed .ireturn (fun r => [m_i (m_b2i r)])) {F : Nat} (hF : m_Rm Y F) (hFn : 4 ≤ F) (hN : Y.2.2.2.1 = 4) (v0 v1 v2 v3 : Int) (h : m_H) : m_Sim Y 0 [(0, m_r v0), (1, m_r v1), (2, m_i v2), (3, m_i v3)] [] h (t3_fillPlayed v0 v1 v2 v3 h) := by
  unfold t3_fillPlayed
  refine ms_aload_n (pc := 0) S 1 rfl rfl (m_dec e3_fillPlayed 0 rfl) ?_
  refine ms_iload_n (pc := 1) S 2 rfl rfl (m_dec e3_fillPlayed 1 rfl) ?_
  refine ms_iload_n (pc := 2) S 3 rfl rfl (m_dec e3_fillPlayed 2 rfl) ?_
  refine ms_grd fun g1 => ?_
  refine ms_callVi (pc := 3) S hF (vals := [m_i v2, m_i v3]) (st := []) (hc := vw_5) (hci := by decide) (hcy := rfl) (ht := g1) (hC := (k5_playedSize _ _ v1 v2 v3 h)) (hM := lm_X3_153) (hfr := (Nat.le_trans (by decide) hFn)) (hstk := rfl) (hcat := Nat.le_of_ble_eq_true rfl) (hd := (m_dec e3_fillPlayed 3 rfl)) (k1 := fun r3 h2 => ?_)
  refine ms_callSz (pc := 6) S hF (vals := [m_i r3]) (st := [])  (hC := (k3_isLength _ _ r3 h2)) (hM := lm_X3_119) (hfr := (Nat.le_trans (by decide) hFn)) (hstk := rfl) (hcat := Nat.le_of_ble_eq_true rfl) (hd := (m_dec e3_fillPlayed 4 rfl)) (k1 := fun r5 h4 => ?_)
  refine ms_ifb_ne (pc := 9) S (m_dec e3_fillPlayed 5 rfl) rfl (fun q6 => ?_) (fun q6 => ?_)
  · refine ms_aload_n (pc := 14) S 0 rfl rfl (m_dec e3_fillPlayed 8 rfl) ?_
    refine ms_aload_n (pc := 15) S 1 rfl rfl (m_dec e3_fillPlayed 9 rfl) ?_
    refine ms_iload_n (pc := 16) S 2 rfl rfl (m_dec e3_fillPlayed 10 rfl) ?_
    refine ms_iload_n (pc := 17) S 3 rfl rfl (m_dec e3_fillPlayed 11 rfl) ?_
    refine ms_grd fun g7 => ?_
    refine ms_callVv (pc := 18) S hF (vals := [m_r v1, m_i v2, m_i v3]) (st := []) (hc := vw_5) (hci := by decide) (hcy := rfl) (ht := g7) (hC := (k5_fillPlayed _ _ v0 v1 v2 v3 h4)) (hM := lm_X3_156) (hfr := (Nat.le_trans (by decide) hFn)) (hstk := rfl) (hcat := Nat.le_of_ble_eq_true rfl) (hd := (m_dec e3_fillPlayed 12 rfl)) (k1 := fun h8 => ?_)
    refine ms_iconst (pc := 21) S (m_dec e3_fillPlayed 13 rfl) ?_
    exact ms_ret (pc := 22) E (m_dec e3_fillPlayed 14 rfl) rfl
  · refine ms_iconst (pc := 12) S (m_dec e3_fillPlayed 6 rfl) ?_
    exact ms_ret (pc := 13) E (m_dec e3_fillPlayed 7 rfl) rfl
theorem k3_fillPlayed (l : Launch) (d : m_D) (v0 v1 v2 v3 : Int) (h : m_H) : m_Con l d yX3_fillPlayed cX3_fillPlayed 4 (some .boolean) 4 (fun r => [m_i (m_b2i r)]) [m_r v0, m_r v1, m_i v2, m_i v3] h (t3_fillPlayed v0 v1 v2 v3 h) :=
  m_con2 (by decide +kernel) (Nat.le_of_ble_eq_true rfl) (fun Y hN hRm hr hI S hfin => s3_fillPlayed S (m_end_z S hr hfin) hRm (Nat.le_refl _) hN v0 v1 v2 v3 h)
set_option maxRecDepth 100000 in
theorem e5_joinedSize : ∀ q ∈ ([(0, .aload_n 0, 1), (1, .getfield 13, 3), (4, .aload_n 1, 1), (5, .getfield 13, 3), (8, .iadd, 1), (9, .iload_n 2, 1), (10, .isub, 1), (11, .ireturn, 1)] : List (Nat × Instr × Nat)), decode cX5_joinedSize q.1 = .ok q.2 := by decide +kernel
set_option maxHeartbeats 4000000 in
set_option maxRecDepth 20000 in
theorem s5_joinedSize {Y : m_Y Int} (S : m_Std Y RX5 cX5_joinedSize) (E : m_End Y cX5_joinedSize .ireturn (fun r => [m_i r])) {F : Nat} (hF : m_Rm Y F) (hFn : 0 ≤ F) (hN : Y.2.2.2.1 = 3) (v0 v1 v2 : Int) (h : m_H) : m_Sim Y 0 [(0, m_r v0), (1, m_r v1), (2, m_i v2)] [] h (t5_joinedSize v0 v1 v2 h) := by
  unfold t5_joinedSize
  refine ms_aload_n (pc := 0) S 0 rfl rfl (m_dec e5_joinedSize 0 rfl) ?_
  refine ms_grd fun g1 => ?_
  refine ms_getf (pc := 1) S lf_X5_13 rfl (m_dec e5_joinedSize 1 rfl) g1 ?_
  refine ms_aload_n (pc := 4) S 1 rfl rfl (m_dec e5_joinedSize 2 rfl) ?_
  refine ms_grd fun g2 => ?_
  refine ms_getf (pc := 5) S lf_X5_13 rfl (m_dec e5_joinedSize 3 rfl) g2 ?_
  refine ms_iadd (pc := 8) S (m_dec e5_joinedSize 4 rfl) ?_
  refine ms_iload_n (pc := 9) S 2 rfl rfl (m_dec e5_joinedSize 5 rfl) ?_
  refine ms_isub (pc := 10) S (m_dec e5_joinedSize 6 rfl) ?_
  exact ms_ret (pc := 11) E (m_dec e5_joinedSize 7 rfl) rfl
theorem k5_joinedSize (l : Launch) (d : m_D) (v0 v1 v2 : Int) (h : m_H) : m_Con l d yX5_joinedSize cX5_joinedSize 3 (some .int) 0 (fun r => [m_i r]) [m_r v0, m_r v1, m_i v2] h (t5_joinedSize v0 v1 v2 h) :=
  m_con2 (by decide +kernel) (Nat.le_of_ble_eq_true rfl) (fun Y hN hRm hr hI S hfin => s5_joinedSize S (m_end_i S hr hfin) hRm (Nat.le_refl _) hN v0 v1 v2 h)
set_option maxRecDepth 100000 in
theorem e5_fillJoined : ∀ q ∈ ([(0, .aload_n 1, 1), (1, .getfield 13, 3), (4, .iload_n 3, 1), (5, .isub, 1), (6, .istore 4, 2), (8, .aload_n 0, 1), (9, .aload_n 1, 1), (10, .aload_n 2, 1), (11, .iload_n 3, 1), (12, .invokestatic 53, 3), (15, .invokevirtual 31, 3), (18, .iconst 0, 1), (19, .istore 5, 2), (21, .iload 5, 2), (23, .iload 4, 2), (25, .if_icmp .ge 21, 3), (28, .aload_n 0, 1), (29, .iload 5, 2), (31, .aload_n 1, 1), (32, .iload 5, 2), (34, .invokevirtual 23, 3), (37, .invokevirtual 27, 3), (40, .iinc 5 1, 3), (43, .goto (-22), 3), (46, .iconst 0, 1), (47, .istore 5, 2), (49, .iload 5, 2), (51, .iload_n 3, 1), (52, .if_icmp .ge 52, 3), (55, .aload_n 1, 1), (56, .iload 4, 2), (58, .iload 5, 2), (60, .iadd, 1), (61, .invokevirtual 23, 3), (64, .iload_n 3, 1), (65, .iload 5, 2), (67, .isub, 1), (68, .imul, 1), (69, .aload_n 2, 1), (70, .iload 5, 2), (72, .invokevirtual 23, 3), (75, .iload 5, 2), (77, .iconst 1, 1), (78, .iadd, 1), (79, .imul, 1), (80, .iadd, 1), (81, .istore 6, 2), (83, .aload_n 0, 1), (84, .iload 4, 2), (86, .iload 5, 2), (88, .iadd, 1), (89, .iload 6, 2), (91, .iload_n 3, 1), (92, .iconst 1, 1), (93, .iadd, 1), (94, .idiv, 1), (95, .invokevirtual 27, 3), (98, .iinc 5 1, 3), (101, .goto (-52), 3), (104, .iload_n 3, 1), (105, .istore 5, 2), (107, .iload 5, 2), (109, .aload_n 2, 1), (110, .getfield 13, 3), (113, .if_icmp .ge 24, 3), (116, .aload_n 0, 1), (117, .iload 4, 2), (119, .iload 5, 2), (121, .iadd, 1), (122, .aload_n 2, 1), (123, .iload 5, 2), (125, .invokevirtual 23, 3), (128, .invokevirtual 27, 3), (131, .iinc 5 1, 3), (134, .goto (-27), 3), (137, .return_, 1)] : List (Nat × Instr × Nat)), decode cX5_fillJoined q.1 = .ok q.2 := by decide +kernel
set_option maxHeartbeats 4000000 in
set_option maxRecDepth 20000 in
theorem s5_fillJoined_c107 {Y : m_Y Unit} (S : m_Std Y RX5 cX5_fillJoined) (E : m_End Y cX5_fillJoined .return_ (fun _ => [])) {F : Nat} (hF : m_Rm Y F) (hFn : 3 ≤ F) (hN : Y.2.2.2.1 = 7) : ∀ (v0 v2 v4 v5 : Int) (h : m_H), m_Sim Y 107 [(0, m_r v0), (2, m_r v2), (4, m_i v4), (5, m_i v5)] [] h (t5_fillJoined_c107 v0 v2 v4 v5 h) := by
  intro v0 v2 v4 v5 h
  refine ms_all fun r e => ?_
  refine t5_fillJoined_c107.partial_correctness v0 v2 v4 (motive := fun v5 h r => m_Sim Y 107 [(0, m_r v0), (2, m_r v2), (4, m_i v4), (5, m_i v5)] [] h (some r)) ?_ v5 h r e
  intro f ih v5 h r e
  have ih : ∀ (v5 : Int) (h : m_H), m_Sim Y 107 [(0, m_r v0), (2, m_r v2), (4, m_i v4), (5, m_i v5)] [] h (f v5 h ) := fun v5 h  => ms_all fun r e => ih v5 h r e
  refine ms_use ?_ e
  clear e r
  refine ms_iload (pc := 107) S 3 rfl (m_dec e5_fillJoined 61 rfl) ?_
  refine ms_aload_n (pc := 109) S 1 rfl rfl (m_dec e5_fillJoined 62 rfl) ?_
  refine ms_grd fun g1 => ?_
  refine ms_getf (pc := 110) S lf_X5_13 rfl (m_dec e5_fillJoined 63 rfl) g1 ?_
  refine ms_icmp_ge (pc := 113) S (m_dec e5_fillJoined 64 rfl) rfl (fun q2 => ?_) (fun q2 => ?_)
  · refine ms_aload_n (pc := 116) S 0 rfl rfl (m_dec e5_fillJoined 65 rfl) ?_
    refine ms_iload (pc := 117) S 2 rfl (m_dec e5_fillJoined 66 rfl) ?_
    refine ms_iload (pc := 119) S 3 rfl (m_dec e5_fillJoined 67 rfl) ?_
    refine ms_iadd (pc := 121) S (m_dec e5_fillJoined 68 rfl) ?_
    refine ms_aload_n (pc := 122) S 1 rfl rfl (m_dec e5_fillJoined 69 rfl) ?_
    refine ms_iload (pc := 123) S 3 rfl (m_dec e5_fillJoined 70 rfl) ?_
    refine ms_callVi (pc := 125) S hF (vals := [m_i v5]) (st := [m_i (v4 + v5), m_r v0]) (hc := vw_5) (hci := by decide) (hcy := rfl) (ht := g1) (hC := (k5_get _ _ v2 v5 h)) (hM := lm_X5_23) (hfr := (Nat.le_trans (by decide) hFn)) (hstk := rfl) (hcat := Nat.le_of_ble_eq_true rfl) (hd := (m_dec e5_fillJoined 71 rfl)) (k1 := fun r4 h3 => ?_)
    refine ms_grd fun g5 => ?_
    refine ms_callVv (pc := 128) S hF (vals := [m_i (v4 + v5), m_i r4]) (st := []) (hc := vw_5) (hci := by decide) (hcy := rfl) (ht := g5) (hC := (k5_set _ _ v0 (v4 + v5) r4 h3)) (hM := lm_X5_27) (hfr := (Nat.le_trans (by decide) hFn)) (hstk := rfl) (hcat := Nat.le_of_ble_eq_true rfl) (hd := (m_dec e5_fillJoined 72 rfl)) (k1 := fun h6 => ?_)
    refine ms_iinc (pc := 131) S (L' := [(0, m_r v0), (2, m_r v2), (4, m_i v4), (5, m_i (v5 + 1))]) 3 rfl [1, 2, 3, 0] rfl (m_lt hN rfl) (m_dec e5_fillJoined 73 rfl) ?_
    refine ms_goto (pc := 134) S (m_dec e5_fillJoined 74 rfl) rfl ?_
    exact ih (v5 + 1) h6
  · exact ms_ret (pc := 137) E (m_dec e5_fillJoined 75 rfl) rfl
set_option maxHeartbeats 4000000 in
set_option maxRecDepth 20000 in
theorem s5_fillJoined_c49 {Y : m_Y Unit} (S : m_Std Y RX5 cX5_fillJoined) (E : m_End Y cX5_fillJoined .return_ (fun _ => [])) {F : Nat} (hF : m_Rm Y F) (hFn : 3 ≤ F) (hN : Y.2.2.2.1 = 7) : ∀ (v0 v1 v2 v3 v4 v5 : Int) (h : m_H), m_Sim Y 49 [(0, m_r v0), (1, m_r v1), (2, m_r v2), (3, m_i v3), (4, m_i v4), (5, m_i v5)] [] h (t5_fillJoined_c49 v0 v1 v2 v3 v4 v5 h) := by
  intro v0 v1 v2 v3 v4 v5 h
  refine ms_all fun r e => ?_
  refine t5_fillJoined_c49.partial_correctness v0 v1 v2 v3 v4 (motive := fun v5 h r => m_Sim Y 49 [(0, m_r v0), (1, m_r v1), (2, m_r v2), (3, m_i v3), (4, m_i v4), (5, m_i v5)] [] h (some r)) ?_ v5 h r e
  intro f ih v5 h r e
  have ih : ∀ (v5 : Int) (h : m_H), m_Sim Y 49 [(0, m_r v0), (1, m_r v1), (2, m_r v2), (3, m_i v3), (4, m_i v4), (5, m_i v5)] [] h (f v5 h ) := fun v5 h  => ms_all fun r e => ih v5 h r e
  refine ms_use ?_ e
  clear e r
  refine ms_iload (pc := 49) S 5 rfl (m_dec e5_fillJoined 26 rfl) ?_
  refine ms_iload_n (pc := 51) S 3 rfl rfl (m_dec e5_fillJoined 27 rfl) ?_
  refine ms_icmp_ge (pc := 52) S (m_dec e5_fillJoined 28 rfl) rfl (fun q1 => ?_) (fun q1 => ?_)
  · refine ms_aload_n (pc := 55) S 1 rfl rfl (m_dec e5_fillJoined 29 rfl) ?_
    refine ms_iload (pc := 56) S 4 rfl (m_dec e5_fillJoined 30 rfl) ?_
    refine ms_iload (pc := 58) S 5 rfl (m_dec e5_fillJoined 31 rfl) ?_
    refine ms_iadd (pc := 60) S (m_dec e5_fillJoined 32 rfl) ?_
    refine ms_grd fun g2 => ?_
    refine ms_callVi (pc := 61) S hF (vals := [m_i (v4 + v5)]) (st := []) (hc := vw_5) (hci := by decide) (hcy := rfl) (ht := g2) (hC := (k5_get _ _ v1 (v4 + v5) h)) (hM := lm_X5_23) (hfr := (Nat.le_trans (by decide) hFn)) (hstk := rfl) (hcat := Nat.le_of_ble_eq_true rfl) (hd := (m_dec e5_fillJoined 33 rfl)) (k1 := fun r4 h3 => ?_)
    refine ms_iload_n (pc := 64) S 3 rfl rfl (m_dec e5_fillJoined 34 rfl) ?_
    refine ms_iload (pc := 65) S 5 rfl (m_dec e5_fillJoined 35 rfl) ?_
    refine ms_isub (pc := 67) S (m_dec e5_fillJoined 36 rfl) ?_
    refine ms_imul (pc := 68) S (m_dec e5_fillJoined 37 rfl) ?_
    refine ms_aload_n (pc := 69) S 2 rfl rfl (m_dec e5_fillJoined 38 rfl) ?_
    refine ms_iload (pc := 70) S 5 rfl (m_dec e5_fillJoined 39 rfl) ?_
    refine ms_grd fun g5 => ?_
    refine ms_callVi (pc := 72) S hF (vals := [m_i v5]) (st := [m_i (r4 * (v3 - v5))]) (hc := vw_5) (hci := by decide) (hcy := rfl) (ht := g5) (hC := (k5_get _ _ v2 v5 h3)) (hM := lm_X5_23) (hfr := (Nat.le_trans (by decide) hFn)) (hstk := rfl) (hcat := Nat.le_of_ble_eq_true rfl) (hd := (m_dec e5_fillJoined 40 rfl)) (k1 := fun r7 h6 => ?_)
    refine ms_iload (pc := 75) S 5 rfl (m_dec e5_fillJoined 41 rfl) ?_
    refine ms_iconst (pc := 77) S (m_dec e5_fillJoined 42 rfl) ?_
    refine ms_iadd (pc := 78) S (m_dec e5_fillJoined 43 rfl) ?_
    refine ms_imul (pc := 79) S (m_dec e5_fillJoined 44 rfl) ?_
    refine ms_iadd (pc := 80) S (m_dec e5_fillJoined 45 rfl) ?_
    refine ms_nm (st := fun x8 => [m_i x8]) fun x8 => ?_
    refine ms_istore (pc := 81) S (L' := [(0, m_r v0), (1, m_r v1), (2, m_r v2), (3, m_i v3), (4, m_i v4), (5, m_i v5), (6, m_i x8)]) [1, 2, 3, 4, 5, 6, 0] rfl (m_lt hN rfl) (m_dec e5_fillJoined 46 rfl) ?_
    refine ms_aload_n (pc := 83) S 0 rfl rfl (m_dec e5_fillJoined 47 rfl) ?_
    refine ms_iload (pc := 84) S 4 rfl (m_dec e5_fillJoined 48 rfl) ?_
    refine ms_iload (pc := 86) S 5 rfl (m_dec e5_fillJoined 49 rfl) ?_
    refine ms_iadd (pc := 88) S (m_dec e5_fillJoined 50 rfl) ?_
    refine ms_iload (pc := 89) S 6 rfl (m_dec e5_fillJoined 51 rfl) ?_
    refine ms_iload_n (pc := 91) S 3 rfl rfl (m_dec e5_fillJoined 52 rfl) ?_
    refine ms_iconst (pc := 92) S (m_dec e5_fillJoined 53 rfl) ?_
    refine ms_iadd (pc := 93) S (m_dec e5_fillJoined 54 rfl) ?_
    refine ms_idiv (pc := 94) S (m_dec e5_fillJoined 55 rfl) ?_
    refine ms_grd fun g9 => ?_
    refine ms_callVv (pc := 95) S hF (vals := [m_i (v4 + v5), m_i (Int.tdiv (m_w x8) (m_w (v3 + 1)))]) (st := []) (hc := vw_5) (hci := by decide) (hcy := rfl) (ht := g9) (hC := (k5_set _ _ v0 (v4 + v5) (Int.tdiv (m_w x8) (m_w (v3 + 1))) h6)) (hM := lm_X5_27) (hfr := (Nat.le_trans (by decide) hFn)) (hstk := rfl) (hcat := Nat.le_of_ble_eq_true rfl) (hd := (m_dec e5_fillJoined 56 rfl)) (k1 := fun h10 => ?_)
    refine ms_iinc (pc := 98) S (L' := [(0, m_r v0), (1, m_r v1), (2, m_r v2), (3, m_i v3), (4, m_i v4), (5, m_i (v5 + 1))]) 5 rfl [1, 2, 3, 4, 5, 0] rfl (m_lt hN rfl) (m_dec e5_fillJoined 57 rfl) ?_
    refine ms_goto (pc := 101) S (m_dec e5_fillJoined 58 rfl) rfl ?_
    exact ih (v5 + 1) h10
  · refine ms_iload_n (pc := 104) S 3 rfl rfl (m_dec e5_fillJoined 59 rfl) ?_
    refine ms_istore (pc := 105) S (L' := [(0, m_r v0), (2, m_r v2), (4, m_i v4), (5, m_i v3)]) [1, 3, 5, 0] rfl (m_lt hN rfl) (m_dec e5_fillJoined 60 rfl) ?_
    exact s5_fillJoined_c107 S E hF hFn hN v0 v2 v4 v3 h
set_option maxHeartbeats 4000000 in
set_option maxRecDepth 20000 in
theorem s5_fillJoined_c21 {Y : m_Y Unit} (S : m_Std Y RX5 cX5_fillJoined) (E : m_End Y cX5_fillJoined .return_ (fun _ => [])) {F : Nat} (hF : m_Rm Y F) (hFn : 3 ≤ F) (hN : Y.2.2.2.1 = 7) : ∀ (v0 v1 v2 v3 v4 v5 : Int) (h : m_H), m_Sim Y 21 [(0, m_r v0), (1, m_r v1), (2, m_r v2), (3, m_i v3), (4, m_i v4), (5, m_i v5)] [] h (t5_fillJoined_c21 v0 v1 v2 v3 v4 v5 h) := by
  intro v0 v1 v2 v3 v4 v5 h
  refine ms_all fun r e => ?_
  refine t5_fillJoined_c21.partial_correctness v0 v1 v2 v3 v4 (motive := fun v5 h r => m_Sim Y 21 [(0, m_r v0), (1, m_r v1), (2, m_r v2), (3, m_i v3), (4, m_i v4), (5, m_i v5)] [] h (some r)) ?_ v5 h r e
  intro f ih v5 h r e
  have ih : ∀ (v5 : Int) (h : m_H), m_Sim Y 21 [(0, m_r v0), (1, m_r v1), (2, m_r v2), (3, m_i v3), (4, m_i v4), (5, m_i v5)] [] h (f v5 h ) := fun v5 h  => ms_all fun r e => ih v5 h r e
  refine ms_use ?_ e
  clear e r
  refine ms_iload (pc := 21) S 5 rfl (m_dec e5_fillJoined 13 rfl) ?_
  refine ms_iload (pc := 23) S 4 rfl (m_dec e5_fillJoined 14 rfl) ?_
  refine ms_icmp_ge (pc := 25) S (m_dec e5_fillJoined 15 rfl) rfl (fun q1 => ?_) (fun q1 => ?_)
  · refine ms_aload_n (pc := 28) S 0 rfl rfl (m_dec e5_fillJoined 16 rfl) ?_
    refine ms_iload (pc := 29) S 5 rfl (m_dec e5_fillJoined 17 rfl) ?_
    refine ms_aload_n (pc := 31) S 1 rfl rfl (m_dec e5_fillJoined 18 rfl) ?_
    refine ms_iload (pc := 32) S 5 rfl (m_dec e5_fillJoined 19 rfl) ?_
    refine ms_grd fun g2 => ?_
    refine ms_callVi (pc := 34) S hF (vals := [m_i v5]) (st := [m_i v5, m_r v0]) (hc := vw_5) (hci := by decide) (hcy := rfl) (ht := g2) (hC := (k5_get _ _ v1 v5 h)) (hM := lm_X5_23) (hfr := (Nat.le_trans (by decide) hFn)) (hstk := rfl) (hcat := Nat.le_of_ble_eq_true rfl) (hd := (m_dec e5_fillJoined 20 rfl)) (k1 := fun r4 h3 => ?_)
    refine ms_grd fun g5 => ?_
    refine ms_callVv (pc := 37) S hF (vals := [m_i v5, m_i r4]) (st := []) (hc := vw_5) (hci := by decide) (hcy := rfl) (ht := g5) (hC := (k5_set _ _ v0 v5 r4 h3)) (hM := lm_X5_27) (hfr := (Nat.le_trans (by decide) hFn)) (hstk := rfl) (hcat := Nat.le_of_ble_eq_true rfl) (hd := (m_dec e5_fillJoined 21 rfl)) (k1 := fun h6 => ?_)
    refine ms_iinc (pc := 40) S (L' := [(0, m_r v0), (1, m_r v1), (2, m_r v2), (3, m_i v3), (4, m_i v4), (5, m_i (v5 + 1))]) 5 rfl [1, 2, 3, 4, 5, 0] rfl (m_lt hN rfl) (m_dec e5_fillJoined 22 rfl) ?_
    refine ms_goto (pc := 43) S (m_dec e5_fillJoined 23 rfl) rfl ?_
    exact ih (v5 + 1) h6
  · refine ms_iconst (pc := 46) S (m_dec e5_fillJoined 24 rfl) ?_
    refine ms_istore (pc := 47) S (L' := [(0, m_r v0), (1, m_r v1), (2, m_r v2), (3, m_i v3), (4, m_i v4), (5, m_i 0)]) [1, 2, 3, 4, 5, 0] rfl (m_lt hN rfl) (m_dec e5_fillJoined 25 rfl) ?_
    exact s5_fillJoined_c49 S E hF hFn hN v0 v1 v2 v3 v4 0 h
set_option maxHeartbeats 4000000 in
set_option maxRecDepth 20000 in
theorem s5_fillJoined {Y : m_Y Unit} (S : m_Std Y RX5 cX5_fillJoined) (E : m_End Y cX5_fillJoined .return_ (fun _ => [])) {F : Nat} (hF : m_Rm Y F) (hFn : 3 ≤ F) (hN : Y.2.2.2.1 = 7) (v0 v1 v2 v3 : Int) (h : m_H) : m_Sim Y 0 [(0, m_r v0), (1, m_r v1), (2, m_r v2), (3, m_i v3)] [] h (t5_fillJoined v0 v1 v2 v3 h) := by
  unfold t5_fillJoined
  refine ms_aload_n (pc := 0) S 1 rfl rfl (m_dec e5_fillJoined 0 rfl) ?_
  refine ms_grd fun g1 => ?_
  refine ms_getf (pc := 1) S lf_X5_13 rfl (m_dec e5_fillJoined 1 rfl) g1 ?_
  refine ms_iload_n (pc := 4) S 3 rfl rfl (m_dec e5_fillJoined 2 rfl) ?_
  refine ms_isub (pc := 5) S (m_dec e5_fillJoined 3 rfl) ?_
  refine ms_nm (st := fun x2 => [m_i x2]) fun x2 => ?_
  refine ms_istore (pc := 6) S (L' := [(0, m_r v0), (1, m_r v1), (2, m_r v2), (3, m_i v3), (4, m_i x2)]) [1, 2, 3, 4, 0] rfl (m_lt hN rfl) (m_dec e5_fillJoined 4 rfl) ?_
  refine ms_aload_n (pc := 8) S 0 rfl rfl (m_dec e5_fillJoined 5 rfl) ?_
  refine ms_aload_n (pc := 9) S 1 rfl rfl (m_dec e5_fillJoined 6 rfl) ?_
  refine ms_aload_n (pc := 10) S 2 rfl rfl (m_dec e5_fillJoined 7 rfl) ?_
  refine ms_iload_n (pc := 11) S 3 rfl rfl (m_dec e5_fillJoined 8 rfl) ?_
  refine ms_callSi (pc := 12) S hF (vals := [m_r v1, m_r v2, m_i v3]) (st := [m_r v0])  (hC := (k5_joinedSize _ _ v1 v2 v3 h)) (hM := lm_X5_53) (hfr := (Nat.le_trans (by decide) hFn)) (hstk := rfl) (hcat := Nat.le_of_ble_eq_true rfl) (hd := (m_dec e5_fillJoined 9 rfl)) (k1 := fun r4 h3 => ?_)
  refine ms_grd fun g5 => ?_
  refine ms_callVv (pc := 15) S hF (vals := [m_i r4]) (st := []) (hc := vw_5) (hci := by decide) (hcy := rfl) (ht := g5) (hC := (k5_resize _ _ v0 r4 h3)) (hM := lm_X5_31) (hfr := (Nat.le_trans (by decide) hFn)) (hstk := rfl) (hcat := Nat.le_of_ble_eq_true rfl) (hd := (m_dec e5_fillJoined 10 rfl)) (k1 := fun h6 => ?_)
  refine ms_iconst (pc := 18) S (m_dec e5_fillJoined 11 rfl) ?_
  refine ms_istore (pc := 19) S (L' := [(0, m_r v0), (1, m_r v1), (2, m_r v2), (3, m_i v3), (4, m_i x2), (5, m_i 0)]) [1, 2, 3, 4, 5, 0] rfl (m_lt hN rfl) (m_dec e5_fillJoined 12 rfl) ?_
  exact s5_fillJoined_c21 S E hF hFn hN v0 v1 v2 v3 x2 0 h6
theorem k5_fillJoined (l : Launch) (d : m_D) (v0 v1 v2 v3 : Int) (h : m_H) : m_Con l d yX5_fillJoined cX5_fillJoined 7 none 3 (fun _ => []) [m_r v0, m_r v1, m_r v2, m_i v3] h (t5_fillJoined v0 v1 v2 v3 h) :=
  m_con2 (by decide +kernel) (Nat.le_of_ble_eq_true rfl) (fun Y hN hRm hr hI S hfin => s5_fillJoined S (m_end_v S hr hfin) hRm (Nat.le_refl _) hN v0 v1 v2 v3 h)
set_option maxRecDepth 100000 in
theorem e3_fillJoined : ∀ q ∈ ([(0, .iload_n 3, 1), (1, .ifCond .lt 30, 3), (4, .iload_n 3, 1), (5, .aload_n 1, 1), (6, .invokevirtual 85, 3), (9, .aload_n 2, 1), (10, .invokevirtual 85, 3), (13, .invokestatic 158, 3), (16, .if_icmp .gt 15, 3), (19, .aload_n 1, 1), (20, .aload_n 2, 1), (21, .iload_n 3, 1), (22, .invokestatic 163, 3), (25, .invokestatic 119, 3), (28, .ifCond .ne 5, 3), (31, .iconst 0, 1), (32, .ireturn, 1), (33, .aload_n 0, 1), (34, .aload_n 1, 1), (35, .aload_n 2, 1), (36, .iload_n 3, 1), (37, .invokevirtual 167, 3), (40, .iconst 1, 1), (41, .ireturn, 1)] : List (Nat × Instr × Nat)), decode cX3_fillJoined q.1 = .ok q.2 := by decide +kernel
set_option maxHeartbeats 4000000 in
set_option maxRecDepth 20000 in
theorem s3_fillJoined {Y : m_Y Bool} (S : m_Std Y RX3 cX3_fillJoined) (E : m_End Y cX3_fillJoined .ireturn (fun r => [m_i (m_b2i r)])) {F : Nat} (hF : m_Rm Y F) (hFn : 4 ≤ F) (hN : Y.2.2.2.1 = 4) (v0 v1 v2 v3 : Int) (h : m_H) : m_Sim Y 0 [(0, m_r v0), (1, m_r v1), (2, m_r v2), (3, m_i v3)] [] h (t3_fillJoined v0 v1 v2 v3 h) := by
  unfold t3_fillJoined
  refine ms_iload_n (pc := 0) S 3 rfl rfl (m_dec e3_fillJoined 0 rfl) ?_
  refine ms_if_lt (pc := 1) S (m_dec e3_fillJoined 1 rfl) rfl (fun q1 => ?_) (fun q1 => ?_)
  · refine ms_iconst (pc := 31) S (m_dec e3_fillJoined 15 rfl) ?_
    exact ms_ret (pc := 32) E (m_dec e3_fillJoined 16 rfl) rfl
  · refine ms_iload_n (pc := 4) S 3 rfl rfl (m_dec e3_fillJoined 2 rfl) ?_
    refine ms_aload_n (pc := 5) S 1 rfl rfl (m_dec e3_fillJoined 3 rfl) ?_
    refine ms_grd fun g2 => ?_
    refine ms_callVi (pc := 6) S hF (vals := []) (st := [m_i v3]) (hc := vw_5) (hci := by decide) (hcy := rfl) (ht := g2) (hC := (k5_size _ _ v1 h)) (hM := lm_X3_85) (hfr := (Nat.le_trans (by decide) hFn)) (hstk := rfl) (hcat := Nat.le_of_ble_eq_true rfl) (hd := (m_dec e3_fillJoined 4 rfl)) (k1 := fun r4 h3 => ?_)
    refine ms_aload_n (pc := 9) S 2 rfl rfl (m_dec e3_fillJoined 5 rfl) ?_
    refine ms_grd fun g5 => ?_
    refine ms_callVi (pc := 10) S hF (vals := []) (st := [m_i r4, m_i v3]) (hc := vw_5) (hci := by decide) (hcy := rfl) (ht := g5) (hC := (k5_size _ _ v2 h3)) (hM := lm_X3_85) (hfr := (Nat.le_trans (by decide) hFn)) (hstk := rfl) (hcat := Nat.le_of_ble_eq_true rfl) (hd := (m_dec e3_fillJoined 6 rfl)) (k1 := fun r7 h6 => ?_)
    refine ms_mmin (pc := 13) S hF (Nat.le_trans (by decide) hFn) ⟨w_1102, w_498, w_136, w_499⟩ (Nat.le_of_ble_eq_true rfl) (m_dec e3_fillJoined 7 rfl) ?_
    refine ms_icmp_gt (pc := 16) S (m_dec e3_fillJoined 8 rfl) rfl (fun q8 => ?_) (fun q8 => ?_)
    · refine ms_iconst (pc := 31) S (m_dec e3_fillJoined 15 rfl) ?_
      exact ms_ret (pc := 32) E (m_dec e3_fillJoined 16 rfl) rfl
    · refine ms_aload_n (pc := 19) S 1 rfl rfl (m_dec e3_fillJoined 9 rfl) ?_
      refine ms_aload_n (pc := 20) S 2 rfl rfl (m_dec e3_fillJoined 10 rfl) ?_
      refine ms_iload_n (pc := 21) S 3 rfl rfl (m_dec e3_fillJoined 11 rfl) ?_
      refine ms_callSi (pc := 22) S hF (vals := [m_r v1, m_r v2, m_i v3]) (st := [])  (hC := (k5_joinedSize _ _ v1 v2 v3 h6)) (hM := lm_X3_163) (hfr := (Nat.le_trans (by decide) hFn)) (hstk := rfl) (hcat := Nat.le_of_ble_eq_true rfl) (hd := (m_dec e3_fillJoined 12 rfl)) (k1 := fun r10 h9 => ?_)
      refine ms_callSz (pc := 25) S hF (vals := [m_i r10]) (st := [])  (hC := (k3_isLength _ _ r10 h9)) (hM := lm_X3_119) (hfr := (Nat.le_trans (by decide) hFn)) (hstk := rfl) (hcat := Nat.le_of_ble_eq_true rfl) (hd := (m_dec e3_fillJoined 13 rfl)) (k1 := fun r12 h11 => ?_)
      refine ms_ifb_ne (pc := 28) S (m_dec e3_fillJoined 14 rfl) rfl (fun q13 => ?_) (fun q13 => ?_)
      · refine ms_aload_n (pc := 33) S 0 rfl rfl (m_dec e3_fillJoined 17 rfl) ?_
        refine ms_aload_n (pc := 34) S 1 rfl rfl (m_dec e3_fillJoined 18 rfl) ?_
        refine ms_aload_n (pc := 35) S 2 rfl rfl (m_dec e3_fillJoined 19 rfl) ?_
        refine ms_iload_n (pc := 36) S 3 rfl rfl (m_dec e3_fillJoined 20 rfl) ?_
        refine ms_grd fun g14 => ?_
        refine ms_callVv (pc := 37) S hF (vals := [m_r v1, m_r v2, m_i v3]) (st := []) (hc := vw_5) (hci := by decide) (hcy := rfl) (ht := g14) (hC := (k5_fillJoined _ _ v0 v1 v2 v3 h11)) (hM := lm_X3_167) (hfr := (Nat.le_trans (by decide) hFn)) (hstk := rfl) (hcat := Nat.le_of_ble_eq_true rfl) (hd := (m_dec e3_fillJoined 21 rfl)) (k1 := fun h15 => ?_)
        refine ms_iconst (pc := 40) S (m_dec e3_fillJoined 22 rfl) ?_
        exact ms_ret (pc := 41) E (m_dec e3_fillJoined 23 rfl) rfl
      · refine ms_iconst (pc := 31) S (m_dec e3_fillJoined 15 rfl) ?_
        exact ms_ret (pc := 32) E (m_dec e3_fillJoined 16 rfl) rfl
theorem k3_fillJoined (l : Launch) (d : m_D) (v0 v1 v2 v3 : Int) (h : m_H) : m_Con l d yX3_fillJoined cX3_fillJoined 4 (some .boolean) 4 (fun r => [m_i (m_b2i r)]) [m_r v0, m_r v1, m_r v2, m_i v3] h (t3_fillJoined v0 v1 v2 v3 h) :=
  m_con2 (by decide +kernel) (Nat.le_of_ble_eq_true rfl) (fun Y hN hRm hr hI S hfin => s3_fillJoined S (m_end_z S hr hfin) hRm (Nat.le_refl _) hN v0 v1 v2 v3 h)
set_option maxRecDepth 100000 in
theorem e5_fillRound : ∀ q ∈ ([(0, .aload_n 0, 1), (1, .iload_n 2, 1), (2, .invokevirtual 31, 3), (5, .iconst 0, 1), (6, .istore_n 3, 1), (7, .iload_n 3, 1), (8, .iload_n 2, 1), (9, .if_icmp .ge 31, 3), (12, .aload_n 1, 1), (13, .getfield 13, 3), (16, .ifCond .le 24, 3), (19, .aload_n 0, 1), (20, .iload_n 3, 1), (21, .aload_n 1, 1), (22, .iload_n 3, 1), (23, .aload_n 1, 1), (24, .getfield 13, 3), (27, .irem, 1), (28, .invokevirtual 23, 3), (31, .invokevirtual 27, 3), (34, .iinc 3 1, 3), (37, .goto (-30), 3), (40, .return_, 1)] : List (Nat × Instr × Nat)), decode cX5_fillRound q.1 = .ok q.2 := by decide +kernel
set_option maxHeartbeats 4000000 in
set_option maxRecDepth 20000 in
theorem s5_fillRound_c7 {Y : m_Y Unit} (S : m_Std Y RX5 cX5_fillRound) (E : m_End Y cX5_fillRound .return_ (fun _ => [])) {F : Nat} (hF : m_Rm Y F) (hFn : 3 ≤ F) (hN : Y.2.2.2.1 = 4) : ∀ (v0 v1 v2 v3 : Int) (h : m_H), m_Sim Y 7 [(0, m_r v0), (1, m_r v1), (2, m_i v2), (3, m_i v3)] [] h (t5_fillRound_c7 v0 v1 v2 v3 h) := by
  intro v0 v1 v2 v3 h
  refine ms_all fun r e => ?_
  refine t5_fillRound_c7.partial_correctness v0 v1 v2 (motive := fun v3 h r => m_Sim Y 7 [(0, m_r v0), (1, m_r v1), (2, m_i v2), (3, m_i v3)] [] h (some r)) ?_ v3 h r e
  intro f ih v3 h r e
  have ih : ∀ (v3 : Int) (h : m_H), m_Sim Y 7 [(0, m_r v0), (1, m_r v1), (2, m_i v2), (3, m_i v3)] [] h (f v3 h ) := fun v3 h  => ms_all fun r e => ih v3 h r e
  refine ms_use ?_ e
  clear e r
  refine ms_iload_n (pc := 7) S 3 rfl rfl (m_dec e5_fillRound 5 rfl) ?_
  refine ms_iload_n (pc := 8) S 2 rfl rfl (m_dec e5_fillRound 6 rfl) ?_
  refine ms_icmp_ge (pc := 9) S (m_dec e5_fillRound 7 rfl) rfl (fun q1 => ?_) (fun q1 => ?_)
  · refine ms_aload_n (pc := 12) S 1 rfl rfl (m_dec e5_fillRound 8 rfl) ?_
    refine ms_grd fun g2 => ?_
    refine ms_getf (pc := 13) S lf_X5_13 rfl (m_dec e5_fillRound 9 rfl) g2 ?_
    refine ms_if_le (pc := 16) S (m_dec e5_fillRound 10 rfl) rfl (fun q3 => ?_) (fun q3 => ?_)
    · refine ms_aload_n (pc := 19) S 0 rfl rfl (m_dec e5_fillRound 11 rfl) ?_
      refine ms_iload_n (pc := 20) S 3 rfl rfl (m_dec e5_fillRound 12 rfl) ?_
      refine ms_aload_n (pc := 21) S 1 rfl rfl (m_dec e5_fillRound 13 rfl) ?_
      refine ms_iload_n (pc := 22) S 3 rfl rfl (m_dec e5_fillRound 14 rfl) ?_
      refine ms_aload_n (pc := 23) S 1 rfl rfl (m_dec e5_fillRound 15 rfl) ?_
      refine ms_getf (pc := 24) S lf_X5_13 rfl (m_dec e5_fillRound 16 rfl) g2 ?_
      refine ms_irem (pc := 27) S (m_dec e5_fillRound 17 rfl) ?_
      refine ms_callVi (pc := 28) S hF (vals := [m_i (Int.tmod (m_w v3) (m_w (m_g h v1 1)))]) (st := [m_i v3, m_r v0]) (hc := vw_5) (hci := by decide) (hcy := rfl) (ht := g2) (hC := (k5_get _ _ v1 (Int.tmod (m_w v3) (m_w (m_g h v1 1))) h)) (hM := lm_X5_23) (hfr := (Nat.le_trans (by decide) hFn)) (hstk := rfl) (hcat := Nat.le_of_ble_eq_true rfl) (hd := (m_dec e5_fillRound 18 rfl)) (k1 := fun r5 h4 => ?_)
      refine ms_grd fun g6 => ?_
      refine ms_callVv (pc := 31) S hF (vals := [m_i v3, m_i r5]) (st := []) (hc := vw_5) (hci := by decide) (hcy := rfl) (ht := g6) (hC := (k5_set _ _ v0 v3 r5 h4)) (hM := lm_X5_27) (hfr := (Nat.le_trans (by decide) hFn)) (hstk := rfl) (hcat := Nat.le_of_ble_eq_true rfl) (hd := (m_dec e5_fillRound 19 rfl)) (k1 := fun h7 => ?_)
      refine ms_iinc (pc := 34) S (L' := [(0, m_r v0), (1, m_r v1), (2, m_i v2), (3, m_i (v3 + 1))]) 3 rfl [1, 2, 3, 0] rfl (m_lt hN rfl) (m_dec e5_fillRound 20 rfl) ?_
      refine ms_goto (pc := 37) S (m_dec e5_fillRound 21 rfl) rfl ?_
      exact ih (v3 + 1) h7
    · exact ms_ret (pc := 40) E (m_dec e5_fillRound 22 rfl) rfl
  · exact ms_ret (pc := 40) E (m_dec e5_fillRound 22 rfl) rfl
set_option maxHeartbeats 4000000 in
set_option maxRecDepth 20000 in
theorem s5_fillRound {Y : m_Y Unit} (S : m_Std Y RX5 cX5_fillRound) (E : m_End Y cX5_fillRound .return_ (fun _ => [])) {F : Nat} (hF : m_Rm Y F) (hFn : 3 ≤ F) (hN : Y.2.2.2.1 = 4) (v0 v1 v2 : Int) (h : m_H) : m_Sim Y 0 [(0, m_r v0), (1, m_r v1), (2, m_i v2)] [] h (t5_fillRound v0 v1 v2 h) := by
  unfold t5_fillRound
  refine ms_aload_n (pc := 0) S 0 rfl rfl (m_dec e5_fillRound 0 rfl) ?_
  refine ms_iload_n (pc := 1) S 2 rfl rfl (m_dec e5_fillRound 1 rfl) ?_
  refine ms_grd fun g1 => ?_
  refine ms_callVv (pc := 2) S hF (vals := [m_i v2]) (st := []) (hc := vw_5) (hci := by decide) (hcy := rfl) (ht := g1) (hC := (k5_resize _ _ v0 v2 h)) (hM := lm_X5_31) (hfr := (Nat.le_trans (by decide) hFn)) (hstk := rfl) (hcat := Nat.le_of_ble_eq_true rfl) (hd := (m_dec e5_fillRound 2 rfl)) (k1 := fun h2 => ?_)
  refine ms_iconst (pc := 5) S (m_dec e5_fillRound 3 rfl) ?_
  refine ms_istore_n (pc := 6) S (L' := [(0, m_r v0), (1, m_r v1), (2, m_i v2), (3, m_i 0)]) [1, 2, 3, 0] rfl rfl (m_lt hN rfl) (m_dec e5_fillRound 4 rfl) ?_
  exact s5_fillRound_c7 S E hF hFn hN v0 v1 v2 0 h2
theorem k5_fillRound (l : Launch) (d : m_D) (v0 v1 v2 : Int) (h : m_H) : m_Con l d yX5_fillRound cX5_fillRound 4 none 3 (fun _ => []) [m_r v0, m_r v1, m_i v2] h (t5_fillRound v0 v1 v2 h) :=
  m_con2 (by decide +kernel) (Nat.le_of_ble_eq_true rfl) (fun Y hN hRm hr hI S hfin => s5_fillRound S (m_end_v S hr hfin) hRm (Nat.le_refl _) hN v0 v1 v2 h)
set_option maxRecDepth 100000 in
theorem e5_echo : ∀ q ∈ ([(0, .iload_n 1, 1), (1, .iconst 1, 1), (2, .invokestatic 35, 3), (5, .istore_n 3, 1), (6, .iload_n 3, 1), (7, .aload_n 0, 1), (8, .getfield 13, 3), (11, .if_icmp .ge 33, 3), (14, .aload_n 0, 1), (15, .iload_n 3, 1), (16, .aload_n 0, 1), (17, .iload_n 3, 1), (18, .invokevirtual 23, 3), (21, .aload_n 0, 1), (22, .iload_n 3, 1), (23, .iload_n 1, 1), (24, .isub, 1), (25, .invokevirtual 23, 3), (28, .iload_n 2, 1), (29, .imul, 1), (30, .sipush 256, 3), (33, .idiv, 1), (34, .iadd, 1), (35, .invokevirtual 27, 3), (38, .iinc 3 1, 3), (41, .goto (-35), 3), (44, .return_, 1)] : List (Nat × Instr × Nat)), decode cX5_echo q.1 = .ok q.2 := by decide +kernel
set_option maxHeartbeats 4000000 in
set_option maxRecDepth 20000 in
theorem s5_echo_c6 {Y : m_Y Unit} (S : m_Std Y RX5 cX5_echo) (E : m_End Y cX5_echo .return_ (fun _ => [])) {F : Nat} (hF : m_Rm Y F) (hFn : 3 ≤ F) (hN : Y.2.2.2.1 = 4) : ∀ (v0 v1 v2 v3 : Int) (h : m_H), m_Sim Y 6 [(0, m_r v0), (1, m_i v1), (2, m_i v2), (3, m_i v3)] [] h (t5_echo_c6 v0 v1 v2 v3 h) := by
  intro v0 v1 v2 v3 h
  refine ms_all fun r e => ?_
  refine t5_echo_c6.partial_correctness v0 v1 v2 (motive := fun v3 h r => m_Sim Y 6 [(0, m_r v0), (1, m_i v1), (2, m_i v2), (3, m_i v3)] [] h (some r)) ?_ v3 h r e
  intro f ih v3 h r e
  have ih : ∀ (v3 : Int) (h : m_H), m_Sim Y 6 [(0, m_r v0), (1, m_i v1), (2, m_i v2), (3, m_i v3)] [] h (f v3 h ) := fun v3 h  => ms_all fun r e => ih v3 h r e
  refine ms_use ?_ e
  clear e r
  refine ms_iload_n (pc := 6) S 3 rfl rfl (m_dec e5_echo 4 rfl) ?_
  refine ms_aload_n (pc := 7) S 0 rfl rfl (m_dec e5_echo 5 rfl) ?_
  refine ms_grd fun g1 => ?_
  refine ms_getf (pc := 8) S lf_X5_13 rfl (m_dec e5_echo 6 rfl) g1 ?_
  refine ms_icmp_ge (pc := 11) S (m_dec e5_echo 7 rfl) rfl (fun q2 => ?_) (fun q2 => ?_)
  · refine ms_aload_n (pc := 14) S 0 rfl rfl (m_dec e5_echo 8 rfl) ?_
    refine ms_iload_n (pc := 15) S 3 rfl rfl (m_dec e5_echo 9 rfl) ?_
    refine ms_aload_n (pc := 16) S 0 rfl rfl (m_dec e5_echo 10 rfl) ?_
    refine ms_iload_n (pc := 17) S 3 rfl rfl (m_dec e5_echo 11 rfl) ?_
    refine ms_callVi (pc := 18) S hF (vals := [m_i v3]) (st := [m_i v3, m_r v0]) (hc := vw_5) (hci := by decide) (hcy := rfl) (ht := g1) (hC := (k5_get _ _ v0 v3 h)) (hM := lm_X5_23) (hfr := (Nat.le_trans (by decide) hFn)) (hstk := rfl) (hcat := Nat.le_of_ble_eq_true rfl) (hd := (m_dec e5_echo 12 rfl)) (k1 := fun r4 h3 => ?_)
    refine ms_aload_n (pc := 21) S 0 rfl rfl (m_dec e5_echo 13 rfl) ?_
    refine ms_iload_n (pc := 22) S 3 rfl rfl (m_dec e5_echo 14 rfl) ?_
    refine ms_iload_n (pc := 23) S 1 rfl rfl (m_dec e5_echo 15 rfl) ?_
    refine ms_isub (pc := 24) S (m_dec e5_echo 16 rfl) ?_
    refine ms_grd fun g5 => ?_
    refine ms_callVi (pc := 25) S hF (vals := [m_i (v3 - v1)]) (st := [m_i r4, m_i v3, m_r v0]) (hc := vw_5) (hci := by decide) (hcy := rfl) (ht := g5) (hC := (k5_get _ _ v0 (v3 - v1) h3)) (hM := lm_X5_23) (hfr := (Nat.le_trans (by decide) hFn)) (hstk := rfl) (hcat := Nat.le_of_ble_eq_true rfl) (hd := (m_dec e5_echo 17 rfl)) (k1 := fun r7 h6 => ?_)
    refine ms_iload_n (pc := 28) S 2 rfl rfl (m_dec e5_echo 18 rfl) ?_
    refine ms_imul (pc := 29) S (m_dec e5_echo 19 rfl) ?_
    refine ms_sipush (pc := 30) S (m_dec e5_echo 20 rfl) rfl ?_
    refine ms_idivN (pc := 33) S (by decide) (m_dec e5_echo 21 rfl) ?_
    refine ms_iadd (pc := 34) S (m_dec e5_echo 22 rfl) ?_
    refine ms_grd fun g8 => ?_
    refine ms_callVv (pc := 35) S hF (vals := [m_i v3, m_i (r4 + (Int.tdiv (m_w (r7 * v2)) 256))]) (st := []) (hc := vw_5) (hci := by decide) (hcy := rfl) (ht := g8) (hC := (k5_set _ _ v0 v3 (r4 + (Int.tdiv (m_w (r7 * v2)) 256)) h6)) (hM := lm_X5_27) (hfr := (Nat.le_trans (by decide) hFn)) (hstk := rfl) (hcat := Nat.le_of_ble_eq_true rfl) (hd := (m_dec e5_echo 23 rfl)) (k1 := fun h9 => ?_)
    refine ms_iinc (pc := 38) S (L' := [(0, m_r v0), (1, m_i v1), (2, m_i v2), (3, m_i (v3 + 1))]) 3 rfl [1, 2, 3, 0] rfl (m_lt hN rfl) (m_dec e5_echo 24 rfl) ?_
    refine ms_goto (pc := 41) S (m_dec e5_echo 25 rfl) rfl ?_
    exact ih (v3 + 1) h9
  · exact ms_ret (pc := 44) E (m_dec e5_echo 26 rfl) rfl
set_option maxHeartbeats 4000000 in
set_option maxRecDepth 20000 in
theorem s5_echo {Y : m_Y Unit} (S : m_Std Y RX5 cX5_echo) (E : m_End Y cX5_echo .return_ (fun _ => [])) {F : Nat} (hF : m_Rm Y F) (hFn : 3 ≤ F) (hN : Y.2.2.2.1 = 4) (v0 v1 v2 : Int) (h : m_H) : m_Sim Y 0 [(0, m_r v0), (1, m_i v1), (2, m_i v2)] [] h (t5_echo v0 v1 v2 h) := by
  unfold t5_echo
  refine ms_iload_n (pc := 0) S 1 rfl rfl (m_dec e5_echo 0 rfl) ?_
  refine ms_iconst (pc := 1) S (m_dec e5_echo 1 rfl) ?_
  refine ms_mmax (pc := 2) S hF (Nat.le_trans (by decide) hFn) ⟨w_484, w_485, w_136, w_486⟩ (Nat.le_of_ble_eq_true rfl) (m_dec e5_echo 2 rfl) ?_
  refine ms_nm (st := fun x1 => [m_i x1]) fun x1 => ?_
  refine ms_istore_n (pc := 5) S (L' := [(0, m_r v0), (1, m_i v1), (2, m_i v2), (3, m_i x1)]) [1, 2, 3, 0] rfl rfl (m_lt hN rfl) (m_dec e5_echo 3 rfl) ?_
  exact s5_echo_c6 S E hF hFn hN v0 v1 v2 x1 h
theorem k5_echo (l : Launch) (d : m_D) (v0 v1 v2 : Int) (h : m_H) : m_Con l d yX5_echo cX5_echo 4 none 3 (fun _ => []) [m_r v0, m_i v1, m_i v2] h (t5_echo v0 v1 v2 h) :=
  m_con2 (by decide +kernel) (Nat.le_of_ble_eq_true rfl) (fun Y hN hRm hr hI S hfin => s5_echo S (m_end_v S hr hfin) hRm (Nat.le_refl _) hN v0 v1 v2 h)
set_option maxRecDepth 100000 in
theorem e5_level : ∀ q ∈ ([(0, .iconst 0, 1), (1, .istore_n 2, 1), (2, .iload_n 2, 1), (3, .aload_n 0, 1), (4, .getfield 13, 3), (7, .if_icmp .ge 24, 3), (10, .aload_n 0, 1), (11, .iload_n 2, 1), (12, .aload_n 0, 1), (13, .iload_n 2, 1), (14, .invokevirtual 23, 3), (17, .iload_n 1, 1), (18, .imul, 1), (19, .bipush 64, 2), (21, .idiv, 1), (22, .invokevirtual 27, 3), (25, .iinc 2 1, 3), (28, .goto (-26), 3), (31, .return_, 1)] : List (Nat × Instr × Nat)), decode cX5_level q.1 = .ok q.2 := by decide +kernel
set_option maxHeartbeats 4000000 in
set_option maxRecDepth 20000 in
theorem s5_level_c2 {Y : m_Y Unit} (S : m_Std Y RX5 cX5_level) (E : m_End Y cX5_level .return_ (fun _ => [])) {F : Nat} (hF : m_Rm Y F) (hFn : 3 ≤ F) (hN : Y.2.2.2.1 = 3) : ∀ (v0 v1 v2 : Int) (h : m_H), m_Sim Y 2 [(0, m_r v0), (1, m_i v1), (2, m_i v2)] [] h (t5_level_c2 v0 v1 v2 h) := by
  intro v0 v1 v2 h
  refine ms_all fun r e => ?_
  refine t5_level_c2.partial_correctness v0 v1 (motive := fun v2 h r => m_Sim Y 2 [(0, m_r v0), (1, m_i v1), (2, m_i v2)] [] h (some r)) ?_ v2 h r e
  intro f ih v2 h r e
  have ih : ∀ (v2 : Int) (h : m_H), m_Sim Y 2 [(0, m_r v0), (1, m_i v1), (2, m_i v2)] [] h (f v2 h ) := fun v2 h  => ms_all fun r e => ih v2 h r e
  refine ms_use ?_ e
  clear e r
  refine ms_iload_n (pc := 2) S 2 rfl rfl (m_dec e5_level 2 rfl) ?_
  refine ms_aload_n (pc := 3) S 0 rfl rfl (m_dec e5_level 3 rfl) ?_
  refine ms_grd fun g1 => ?_
  refine ms_getf (pc := 4) S lf_X5_13 rfl (m_dec e5_level 4 rfl) g1 ?_
  refine ms_icmp_ge (pc := 7) S (m_dec e5_level 5 rfl) rfl (fun q2 => ?_) (fun q2 => ?_)
  · refine ms_aload_n (pc := 10) S 0 rfl rfl (m_dec e5_level 6 rfl) ?_
    refine ms_iload_n (pc := 11) S 2 rfl rfl (m_dec e5_level 7 rfl) ?_
    refine ms_aload_n (pc := 12) S 0 rfl rfl (m_dec e5_level 8 rfl) ?_
    refine ms_iload_n (pc := 13) S 2 rfl rfl (m_dec e5_level 9 rfl) ?_
    refine ms_callVi (pc := 14) S hF (vals := [m_i v2]) (st := [m_i v2, m_r v0]) (hc := vw_5) (hci := by decide) (hcy := rfl) (ht := g1) (hC := (k5_get _ _ v0 v2 h)) (hM := lm_X5_23) (hfr := (Nat.le_trans (by decide) hFn)) (hstk := rfl) (hcat := Nat.le_of_ble_eq_true rfl) (hd := (m_dec e5_level 10 rfl)) (k1 := fun r4 h3 => ?_)
    refine ms_iload_n (pc := 17) S 1 rfl rfl (m_dec e5_level 11 rfl) ?_
    refine ms_imul (pc := 18) S (m_dec e5_level 12 rfl) ?_
    refine ms_bipush (pc := 19) S (m_dec e5_level 13 rfl) rfl ?_
    refine ms_idivN (pc := 21) S (by decide) (m_dec e5_level 14 rfl) ?_
    refine ms_grd fun g5 => ?_
    refine ms_callVv (pc := 22) S hF (vals := [m_i v2, m_i (Int.tdiv (m_w (r4 * v1)) 64)]) (st := []) (hc := vw_5) (hci := by decide) (hcy := rfl) (ht := g5) (hC := (k5_set _ _ v0 v2 (Int.tdiv (m_w (r4 * v1)) 64) h3)) (hM := lm_X5_27) (hfr := (Nat.le_trans (by decide) hFn)) (hstk := rfl) (hcat := Nat.le_of_ble_eq_true rfl) (hd := (m_dec e5_level 15 rfl)) (k1 := fun h6 => ?_)
    refine ms_iinc (pc := 25) S (L' := [(0, m_r v0), (1, m_i v1), (2, m_i (v2 + 1))]) 2 rfl [1, 2, 0] rfl (m_lt hN rfl) (m_dec e5_level 16 rfl) ?_
    refine ms_goto (pc := 28) S (m_dec e5_level 17 rfl) rfl ?_
    exact ih (v2 + 1) h6
  · exact ms_ret (pc := 31) E (m_dec e5_level 18 rfl) rfl
set_option maxHeartbeats 4000000 in
set_option maxRecDepth 20000 in
theorem s5_level {Y : m_Y Unit} (S : m_Std Y RX5 cX5_level) (E : m_End Y cX5_level .return_ (fun _ => [])) {F : Nat} (hF : m_Rm Y F) (hFn : 3 ≤ F) (hN : Y.2.2.2.1 = 3) (v0 v1 : Int) (h : m_H) : m_Sim Y 0 [(0, m_r v0), (1, m_i v1)] [] h (t5_level v0 v1 h) := by
  unfold t5_level
  refine ms_iconst (pc := 0) S (m_dec e5_level 0 rfl) ?_
  refine ms_istore_n (pc := 1) S (L' := [(0, m_r v0), (1, m_i v1), (2, m_i 0)]) [1, 2, 0] rfl rfl (m_lt hN rfl) (m_dec e5_level 1 rfl) ?_
  exact s5_level_c2 S E hF hFn hN v0 v1 0 h
theorem k5_level (l : Launch) (d : m_D) (v0 v1 : Int) (h : m_H) : m_Con l d yX5_level cX5_level 3 none 3 (fun _ => []) [m_r v0, m_i v1] h (t5_level v0 v1 h) :=
  m_con2 (by decide +kernel) (Nat.le_of_ble_eq_true rfl) (fun Y hN hRm hr hI S hfin => s5_level S (m_end_v S hr hfin) hRm (Nat.le_refl _) hN v0 v1 h)
set_option maxRecDepth 100000 in
theorem e3_fillCopied : ∀ q ∈ ([(0, .aload_n 2, 1), (1, .ifnull 20, 3), (4, .aload_n 1, 1), (5, .aload_n 2, 1), (6, .invokevirtual 170, 3), (9, .sipush 1000, 3), (12, .invokevirtual 153, 3), (15, .invokestatic 119, 3), (18, .ifCond .ne 5, 3), (21, .iconst 0, 1), (22, .ireturn, 1), (23, .aload_n 0, 1), (24, .aload_n 1, 1), (25, .aload_n 2, 1), (26, .invokevirtual 170, 3), (29, .sipush 1000, 3), (32, .invokevirtual 156, 3), (35, .aload_n 0, 1), (36, .aload_n 2, 1), (37, .getfield 175, 3), (40, .invokevirtual 145, 3), (43, .iconst 1, 1), (44, .ireturn, 1)] : List (Nat × Instr × Nat)), decode cX3_fillCopied q.1 = .ok q.2 := by decide +kernel
set_option maxHeartbeats 4000000 in
set_option maxRecDepth 20000 in
theorem s3_fillCopied {Y : m_Y Bool} (S : m_Std Y RX3 cX3_fillCopied) (E : m_End Y cX3_fillCopied .ireturn (fun r => [m_i (m_b2i r)])) {F : Nat} (hF : m_Rm Y F) (hFn : 4 ≤ F) (hN : Y.2.2.2.1 = 3) (v0 v1 v2 : Int) (h : m_H) : m_Sim Y 0 [(0, m_r v0), (1, m_r v1), (2, m_r v2)] [] h (t3_fillCopied v0 v1 v2 h) := by
  unfold t3_fillCopied
  refine ms_aload_n (pc := 0) S 2 rfl rfl (m_dec e3_fillCopied 0 rfl) ?_
  refine ms_ifnull (pc := 1) S (m_dec e3_fillCopied 1 rfl) rfl (fun q1 => ?_) (fun q1 => ?_)
  · refine ms_iconst (pc := 21) S (m_dec e3_fillCopied 9 rfl) ?_
    exact ms_ret (pc := 22) E (m_dec e3_fillCopied 10 rfl) rfl
  · refine ms_aload_n (pc := 4) S 1 rfl rfl (m_dec e3_fillCopied 2 rfl) ?_
    refine ms_aload_n (pc := 5) S 2 rfl rfl (m_dec e3_fillCopied 3 rfl) ?_
    refine ms_grd fun g2 => ?_
    refine ms_callVi (pc := 6) S hF (vals := []) (st := [m_r v1]) (hc := vw_0) (hci := by decide) (hcy := rfl) (ht := g2) (hC := (k0_copyPace _ _ v2 h)) (hM := lm_X3_170) (hfr := (Nat.le_trans (by decide) hFn)) (hstk := rfl) (hcat := Nat.le_of_ble_eq_true rfl) (hd := (m_dec e3_fillCopied 4 rfl)) (k1 := fun r4 h3 => ?_)
    refine ms_sipush (pc := 9) S (m_dec e3_fillCopied 5 rfl) rfl ?_
    refine ms_grd fun g5 => ?_
    refine ms_callVi (pc := 12) S hF (vals := [m_i r4, m_i 1000]) (st := []) (hc := vw_5) (hci := by decide) (hcy := rfl) (ht := g5) (hC := (k5_playedSize _ _ v1 r4 1000 h3)) (hM := lm_X3_153) (hfr := (Nat.le_trans (by decide) hFn)) (hstk := rfl) (hcat := Nat.le_of_ble_eq_true rfl) (hd := (m_dec e3_fillCopied 6 rfl)) (k1 := fun r7 h6 => ?_)
    refine ms_callSz (pc := 15) S hF (vals := [m_i r7]) (st := [])  (hC := (k3_isLength _ _ r7 h6)) (hM := lm_X3_119) (hfr := (Nat.le_trans (by decide) hFn)) (hstk := rfl) (hcat := Nat.le_of_ble_eq_true rfl) (hd := (m_dec e3_fillCopied 7 rfl)) (k1 := fun r9 h8 => ?_)
    refine ms_ifb_ne (pc := 18) S (m_dec e3_fillCopied 8 rfl) rfl (fun q10 => ?_) (fun q10 => ?_)
    · refine ms_aload_n (pc := 23) S 0 rfl rfl (m_dec e3_fillCopied 11 rfl) ?_
      refine ms_aload_n (pc := 24) S 1 rfl rfl (m_dec e3_fillCopied 12 rfl) ?_
      refine ms_aload_n (pc := 25) S 2 rfl rfl (m_dec e3_fillCopied 13 rfl) ?_
      refine ms_grd fun g11 => ?_
      refine ms_callVi (pc := 26) S hF (vals := []) (st := [m_r v1, m_r v0]) (hc := vw_0) (hci := by decide) (hcy := rfl) (ht := g11) (hC := (k0_copyPace _ _ v2 h8)) (hM := lm_X3_170) (hfr := (Nat.le_trans (by decide) hFn)) (hstk := rfl) (hcat := Nat.le_of_ble_eq_true rfl) (hd := (m_dec e3_fillCopied 14 rfl)) (k1 := fun r13 h12 => ?_)
      refine ms_sipush (pc := 29) S (m_dec e3_fillCopied 15 rfl) rfl ?_
      refine ms_grd fun g14 => ?_
      refine ms_callVv (pc := 32) S hF (vals := [m_r v1, m_i r13, m_i 1000]) (st := []) (hc := vw_5) (hci := by decide) (hcy := rfl) (ht := g14) (hC := (k5_fillPlayed _ _ v0 v1 r13 1000 h12)) (hM := lm_X3_156) (hfr := (Nat.le_trans (by decide) hFn)) (hstk := rfl) (hcat := Nat.le_of_ble_eq_true rfl) (hd := (m_dec e3_fillCopied 16 rfl)) (k1 := fun h15 => ?_)
      refine ms_aload_n (pc := 35) S 0 rfl rfl (m_dec e3_fillCopied 17 rfl) ?_
      refine ms_aload_n (pc := 36) S 2 rfl rfl (m_dec e3_fillCopied 18 rfl) ?_
      refine ms_grd fun g17 => ?_
      refine ms_getf (pc := 37) S lf_X3_175 rfl (m_dec e3_fillCopied 19 rfl) g17 ?_
      refine ms_grd fun g18 => ?_
      refine ms_callVv (pc := 40) S hF (vals := [m_i (m_g h15 v2 1)]) (st := []) (hc := vw_5) (hci := by decide) (hcy := rfl) (ht := g18) (hC := (k5_level _ _ v0 (m_g h15 v2 1) h15)) (hM := lm_X3_145) (hfr := (Nat.le_trans (by decide) hFn)) (hstk := rfl) (hcat := Nat.le_of_ble_eq_true rfl) (hd := (m_dec e3_fillCopied 20 rfl)) (k1 := fun h19 => ?_)
      refine ms_iconst (pc := 43) S (m_dec e3_fillCopied 21 rfl) ?_
      exact ms_ret (pc := 44) E (m_dec e3_fillCopied 22 rfl) rfl
    · refine ms_iconst (pc := 21) S (m_dec e3_fillCopied 9 rfl) ?_
      exact ms_ret (pc := 22) E (m_dec e3_fillCopied 10 rfl) rfl
theorem k3_fillCopied (l : Launch) (d : m_D) (v0 v1 v2 : Int) (h : m_H) : m_Con l d yX3_fillCopied cX3_fillCopied 3 (some .boolean) 4 (fun r => [m_i (m_b2i r)]) [m_r v0, m_r v1, m_r v2] h (t3_fillCopied v0 v1 v2 h) :=
  m_con2 (by decide +kernel) (Nat.le_of_ble_eq_true rfl) (fun Y hN hRm hr hI S hfin => s3_fillCopied S (m_end_z S hr hfin) hRm (Nat.le_refl _) hN v0 v1 v2 h)
set_option maxRecDepth 100000 in
theorem e5_fillFiltered : ∀ q ∈ ([(0, .aload_n 0, 1), (1, .aload_n 1, 1), (2, .getfield 13, 3), (5, .invokevirtual 31, 3), (8, .iconst 0, 1), (9, .istore 5, 2), (11, .iload 5, 2), (13, .aload_n 0, 1), (14, .getfield 13, 3), (17, .if_icmp .ge 53, 3), (20, .aload_n 1, 1), (21, .iload 5, 2), (23, .iconst 1, 1), (24, .isub, 1), (25, .invokevirtual 23, 3), (28, .iload_n 2, 1), (29, .imul, 1), (30, .aload_n 1, 1), (31, .iload 5, 2), (33, .invokevirtual 23, 3), (36, .iload_n 3, 1), (37, .imul, 1), (38, .iadd, 1), (39, .aload_n 1, 1), (40, .iload 5, 2), (42, .iconst 1, 1), (43, .iadd, 1), (44, .invokevirtual 23, 3), (47, .iload 4, 2), (49, .imul, 1), (50, .iadd, 1), (51, .istore 6, 2), (53, .aload_n 0, 1), (54, .iload 5, 2), (56, .iload 6, 2), (58, .bipush 64, 2), (60, .idiv, 1), (61, .invokevirtual 27, 3), (64, .iinc 5 1, 3), (67, .goto (-56), 3), (70, .return_, 1)] : List (Nat × Instr × Nat)), decode cX5_fillFiltered q.1 = .ok q.2 := by decide +kernel
set_option maxHeartbeats 4000000 in
set_option maxRecDepth 20000 in
theorem s5_fillFiltered_c11 {Y : m_Y Unit} (S : m_Std Y RX5 cX5_fillFiltered) (E : m_End Y cX5_fillFiltered .return_ (fun _ => [])) {F : Nat} (hF : m_Rm Y F) (hFn : 3 ≤ F) (hN : Y.2.2.2.1 = 7) : ∀ (v0 v1 v2 v3 v4 v5 : Int) (h : m_H), m_Sim Y 11 [(0, m_r v0), (1, m_r v1), (2, m_i v2), (3, m_i v3), (4, m_i v4), (5, m_i v5)] [] h (t5_fillFiltered_c11 v0 v1 v2 v3 v4 v5 h) := by
  intro v0 v1 v2 v3 v4 v5 h
  refine ms_all fun r e => ?_
  refine t5_fillFiltered_c11.partial_correctness v0 v1 v2 v3 v4 (motive := fun v5 h r => m_Sim Y 11 [(0, m_r v0), (1, m_r v1), (2, m_i v2), (3, m_i v3), (4, m_i v4), (5, m_i v5)] [] h (some r)) ?_ v5 h r e
  intro f ih v5 h r e
  have ih : ∀ (v5 : Int) (h : m_H), m_Sim Y 11 [(0, m_r v0), (1, m_r v1), (2, m_i v2), (3, m_i v3), (4, m_i v4), (5, m_i v5)] [] h (f v5 h ) := fun v5 h  => ms_all fun r e => ih v5 h r e
  refine ms_use ?_ e
  clear e r
  refine ms_iload (pc := 11) S 5 rfl (m_dec e5_fillFiltered 6 rfl) ?_
  refine ms_aload_n (pc := 13) S 0 rfl rfl (m_dec e5_fillFiltered 7 rfl) ?_
  refine ms_grd fun g1 => ?_
  refine ms_getf (pc := 14) S lf_X5_13 rfl (m_dec e5_fillFiltered 8 rfl) g1 ?_
  refine ms_icmp_ge (pc := 17) S (m_dec e5_fillFiltered 9 rfl) rfl (fun q2 => ?_) (fun q2 => ?_)
  · refine ms_aload_n (pc := 20) S 1 rfl rfl (m_dec e5_fillFiltered 10 rfl) ?_
    refine ms_iload (pc := 21) S 5 rfl (m_dec e5_fillFiltered 11 rfl) ?_
    refine ms_iconst (pc := 23) S (m_dec e5_fillFiltered 12 rfl) ?_
    refine ms_isub (pc := 24) S (m_dec e5_fillFiltered 13 rfl) ?_
    refine ms_grd fun g3 => ?_
    refine ms_callVi (pc := 25) S hF (vals := [m_i (v5 - 1)]) (st := []) (hc := vw_5) (hci := by decide) (hcy := rfl) (ht := g3) (hC := (k5_get _ _ v1 (v5 - 1) h)) (hM := lm_X5_23) (hfr := (Nat.le_trans (by decide) hFn)) (hstk := rfl) (hcat := Nat.le_of_ble_eq_true rfl) (hd := (m_dec e5_fillFiltered 14 rfl)) (k1 := fun r5 h4 => ?_)
    refine ms_iload_n (pc := 28) S 2 rfl rfl (m_dec e5_fillFiltered 15 rfl) ?_
    refine ms_imul (pc := 29) S (m_dec e5_fillFiltered 16 rfl) ?_
    refine ms_aload_n (pc := 30) S 1 rfl rfl (m_dec e5_fillFiltered 17 rfl) ?_
    refine ms_iload (pc := 31) S 5 rfl (m_dec e5_fillFiltered 18 rfl) ?_
    refine ms_grd fun g6 => ?_
    refine ms_callVi (pc := 33) S hF (vals := [m_i v5]) (st := [m_i (r5 * v2)]) (hc := vw_5) (hci := by decide) (hcy := rfl) (ht := g6) (hC := (k5_get _ _ v1 v5 h4)) (hM := lm_X5_23) (hfr := (Nat.le_trans (by decide) hFn)) (hstk := rfl) (hcat := Nat.le_of_ble_eq_true rfl) (hd := (m_dec e5_fillFiltered 19 rfl)) (k1 := fun r8 h7 => ?_)
    refine ms_iload_n (pc := 36) S 3 rfl rfl (m_dec e5_fillFiltered 20 rfl) ?_
    refine ms_imul (pc := 37) S (m_dec e5_fillFiltered 21 rfl) ?_
    refine ms_iadd (pc := 38) S (m_dec e5_fillFiltered 22 rfl) ?_
    refine ms_aload_n (pc := 39) S 1 rfl rfl (m_dec e5_fillFiltered 23 rfl) ?_
    refine ms_iload (pc := 40) S 5 rfl (m_dec e5_fillFiltered 24 rfl) ?_
    refine ms_iconst (pc := 42) S (m_dec e5_fillFiltered 25 rfl) ?_
    refine ms_iadd (pc := 43) S (m_dec e5_fillFiltered 26 rfl) ?_
    refine ms_grd fun g9 => ?_
    refine ms_callVi (pc := 44) S hF (vals := [m_i (v5 + 1)]) (st := [m_i ((r5 * v2) + (r8 * v3))]) (hc := vw_5) (hci := by decide) (hcy := rfl) (ht := g9) (hC := (k5_get _ _ v1 (v5 + 1) h7)) (hM := lm_X5_23) (hfr := (Nat.le_trans (by decide) hFn)) (hstk := rfl) (hcat := Nat.le_of_ble_eq_true rfl) (hd := (m_dec e5_fillFiltered 27 rfl)) (k1 := fun r11 h10 => ?_)
    refine ms_iload (pc := 47) S 4 rfl (m_dec e5_fillFiltered 28 rfl) ?_
    refine ms_imul (pc := 49) S (m_dec e5_fillFiltered 29 rfl) ?_
    refine ms_iadd (pc := 50) S (m_dec e5_fillFiltered 30 rfl) ?_
    refine ms_nm (st := fun x12 => [m_i x12]) fun x12 => ?_
    refine ms_istore (pc := 51) S (L' := [(0, m_r v0), (1, m_r v1), (2, m_i v2), (3, m_i v3), (4, m_i v4), (5, m_i v5), (6, m_i x12)]) [1, 2, 3, 4, 5, 6, 0] rfl (m_lt hN rfl) (m_dec e5_fillFiltered 31 rfl) ?_
    refine ms_aload_n (pc := 53) S 0 rfl rfl (m_dec e5_fillFiltered 32 rfl) ?_
    refine ms_iload (pc := 54) S 5 rfl (m_dec e5_fillFiltered 33 rfl) ?_
    refine ms_iload (pc := 56) S 6 rfl (m_dec e5_fillFiltered 34 rfl) ?_
    refine ms_bipush (pc := 58) S (m_dec e5_fillFiltered 35 rfl) rfl ?_
    refine ms_idivN (pc := 60) S (by decide) (m_dec e5_fillFiltered 36 rfl) ?_
    refine ms_grd fun g13 => ?_
    refine ms_callVv (pc := 61) S hF (vals := [m_i v5, m_i (Int.tdiv (m_w x12) 64)]) (st := []) (hc := vw_5) (hci := by decide) (hcy := rfl) (ht := g13) (hC := (k5_set _ _ v0 v5 (Int.tdiv (m_w x12) 64) h10)) (hM := lm_X5_27) (hfr := (Nat.le_trans (by decide) hFn)) (hstk := rfl) (hcat := Nat.le_of_ble_eq_true rfl) (hd := (m_dec e5_fillFiltered 37 rfl)) (k1 := fun h14 => ?_)
    refine ms_iinc (pc := 64) S (L' := [(0, m_r v0), (1, m_r v1), (2, m_i v2), (3, m_i v3), (4, m_i v4), (5, m_i (v5 + 1))]) 5 rfl [1, 2, 3, 4, 5, 0] rfl (m_lt hN rfl) (m_dec e5_fillFiltered 38 rfl) ?_
    refine ms_goto (pc := 67) S (m_dec e5_fillFiltered 39 rfl) rfl ?_
    exact ih (v5 + 1) h14
  · exact ms_ret (pc := 70) E (m_dec e5_fillFiltered 40 rfl) rfl
set_option maxHeartbeats 4000000 in
set_option maxRecDepth 20000 in
theorem s5_fillFiltered {Y : m_Y Unit} (S : m_Std Y RX5 cX5_fillFiltered) (E : m_End Y cX5_fillFiltered .return_ (fun _ => [])) {F : Nat} (hF : m_Rm Y F) (hFn : 3 ≤ F) (hN : Y.2.2.2.1 = 7) (v0 v1 v2 v3 v4 : Int) (h : m_H) : m_Sim Y 0 [(0, m_r v0), (1, m_r v1), (2, m_i v2), (3, m_i v3), (4, m_i v4)] [] h (t5_fillFiltered v0 v1 v2 v3 v4 h) := by
  unfold t5_fillFiltered
  refine ms_aload_n (pc := 0) S 0 rfl rfl (m_dec e5_fillFiltered 0 rfl) ?_
  refine ms_aload_n (pc := 1) S 1 rfl rfl (m_dec e5_fillFiltered 1 rfl) ?_
  refine ms_grd fun g1 => ?_
  refine ms_getf (pc := 2) S lf_X5_13 rfl (m_dec e5_fillFiltered 2 rfl) g1 ?_
  refine ms_grd fun g2 => ?_
  refine ms_callVv (pc := 5) S hF (vals := [m_i (m_g h v1 1)]) (st := []) (hc := vw_5) (hci := by decide) (hcy := rfl) (ht := g2) (hC := (k5_resize _ _ v0 (m_g h v1 1) h)) (hM := lm_X5_31) (hfr := (Nat.le_trans (by decide) hFn)) (hstk := rfl) (hcat := Nat.le_of_ble_eq_true rfl) (hd := (m_dec e5_fillFiltered 3 rfl)) (k1 := fun h3 => ?_)
  refine ms_iconst (pc := 8) S (m_dec e5_fillFiltered 4 rfl) ?_
  refine ms_istore (pc := 9) S (L' := [(0, m_r v0), (1, m_r v1), (2, m_i v2), (3, m_i v3), (4, m_i v4), (5, m_i 0)]) [1, 2, 3, 4, 5, 0] rfl (m_lt hN rfl) (m_dec e5_fillFiltered 5 rfl) ?_
  exact s5_fillFiltered_c11 S E hF hFn hN v0 v1 v2 v3 v4 0 h3
theorem k5_fillFiltered (l : Launch) (d : m_D) (v0 v1 v2 v3 v4 : Int) (h : m_H) : m_Con l d yX5_fillFiltered cX5_fillFiltered 7 none 3 (fun _ => []) [m_r v0, m_r v1, m_i v2, m_i v3, m_i v4] h (t5_fillFiltered v0 v1 v2 v3 v4 h) :=
  m_con2 (by decide +kernel) (Nat.le_of_ble_eq_true rfl) (fun Y hN hRm hr hI S hfin => s5_fillFiltered S (m_end_v S hr hfin) hRm (Nat.le_refl _) hN v0 v1 v2 v3 v4 h)
set_option maxRecDepth 100000 in
theorem e5_fadeIn : ∀ q ∈ ([(0, .iconst 0, 1), (1, .istore_n 2, 1), (2, .iload_n 2, 1), (3, .iload_n 1, 1), (4, .if_icmp .ge 23, 3), (7, .aload_n 0, 1), (8, .iload_n 2, 1), (9, .aload_n 0, 1), (10, .iload_n 2, 1), (11, .invokevirtual 23, 3), (14, .iload_n 2, 1), (15, .imul, 1), (16, .iload_n 1, 1), (17, .idiv, 1), (18, .invokevirtual 27, 3), (21, .iinc 2 1, 3), (24, .goto (-22), 3), (27, .return_, 1)] : List (Nat × Instr × Nat)), decode cX5_fadeIn q.1 = .ok q.2 := by decide +kernel
set_option maxHeartbeats 4000000 in
set_option maxRecDepth 20000 in
theorem s5_fadeIn_c2 {Y : m_Y Unit} (S : m_Std Y RX5 cX5_fadeIn) (E : m_End Y cX5_fadeIn .return_ (fun _ => [])) {F : Nat} (hF : m_Rm Y F) (hFn : 3 ≤ F) (hN : Y.2.2.2.1 = 3) : ∀ (v0 v1 v2 : Int) (h : m_H), m_Sim Y 2 [(0, m_r v0), (1, m_i v1), (2, m_i v2)] [] h (t5_fadeIn_c2 v0 v1 v2 h) := by
  intro v0 v1 v2 h
  refine ms_all fun r e => ?_
  refine t5_fadeIn_c2.partial_correctness v0 v1 (motive := fun v2 h r => m_Sim Y 2 [(0, m_r v0), (1, m_i v1), (2, m_i v2)] [] h (some r)) ?_ v2 h r e
  intro f ih v2 h r e
  have ih : ∀ (v2 : Int) (h : m_H), m_Sim Y 2 [(0, m_r v0), (1, m_i v1), (2, m_i v2)] [] h (f v2 h ) := fun v2 h  => ms_all fun r e => ih v2 h r e
  refine ms_use ?_ e
  clear e r
  refine ms_iload_n (pc := 2) S 2 rfl rfl (m_dec e5_fadeIn 2 rfl) ?_
  refine ms_iload_n (pc := 3) S 1 rfl rfl (m_dec e5_fadeIn 3 rfl) ?_
  refine ms_icmp_ge (pc := 4) S (m_dec e5_fadeIn 4 rfl) rfl (fun q1 => ?_) (fun q1 => ?_)
  · refine ms_aload_n (pc := 7) S 0 rfl rfl (m_dec e5_fadeIn 5 rfl) ?_
    refine ms_iload_n (pc := 8) S 2 rfl rfl (m_dec e5_fadeIn 6 rfl) ?_
    refine ms_aload_n (pc := 9) S 0 rfl rfl (m_dec e5_fadeIn 7 rfl) ?_
    refine ms_iload_n (pc := 10) S 2 rfl rfl (m_dec e5_fadeIn 8 rfl) ?_
    refine ms_grd fun g2 => ?_
    refine ms_callVi (pc := 11) S hF (vals := [m_i v2]) (st := [m_i v2, m_r v0]) (hc := vw_5) (hci := by decide) (hcy := rfl) (ht := g2) (hC := (k5_get _ _ v0 v2 h)) (hM := lm_X5_23) (hfr := (Nat.le_trans (by decide) hFn)) (hstk := rfl) (hcat := Nat.le_of_ble_eq_true rfl) (hd := (m_dec e5_fadeIn 9 rfl)) (k1 := fun r4 h3 => ?_)
    refine ms_iload_n (pc := 14) S 2 rfl rfl (m_dec e5_fadeIn 10 rfl) ?_
    refine ms_imul (pc := 15) S (m_dec e5_fadeIn 11 rfl) ?_
    refine ms_iload_n (pc := 16) S 1 rfl rfl (m_dec e5_fadeIn 12 rfl) ?_
    refine ms_idiv (pc := 17) S (m_dec e5_fadeIn 13 rfl) ?_
    refine ms_grd fun g5 => ?_
    refine ms_callVv (pc := 18) S hF (vals := [m_i v2, m_i (Int.tdiv (m_w (r4 * v2)) (m_w v1))]) (st := []) (hc := vw_5) (hci := by decide) (hcy := rfl) (ht := g5) (hC := (k5_set _ _ v0 v2 (Int.tdiv (m_w (r4 * v2)) (m_w v1)) h3)) (hM := lm_X5_27) (hfr := (Nat.le_trans (by decide) hFn)) (hstk := rfl) (hcat := Nat.le_of_ble_eq_true rfl) (hd := (m_dec e5_fadeIn 14 rfl)) (k1 := fun h6 => ?_)
    refine ms_iinc (pc := 21) S (L' := [(0, m_r v0), (1, m_i v1), (2, m_i (v2 + 1))]) 2 rfl [1, 2, 0] rfl (m_lt hN rfl) (m_dec e5_fadeIn 15 rfl) ?_
    refine ms_goto (pc := 24) S (m_dec e5_fadeIn 16 rfl) rfl ?_
    exact ih (v2 + 1) h6
  · exact ms_ret (pc := 27) E (m_dec e5_fadeIn 17 rfl) rfl
set_option maxHeartbeats 4000000 in
set_option maxRecDepth 20000 in
theorem s5_fadeIn {Y : m_Y Unit} (S : m_Std Y RX5 cX5_fadeIn) (E : m_End Y cX5_fadeIn .return_ (fun _ => [])) {F : Nat} (hF : m_Rm Y F) (hFn : 3 ≤ F) (hN : Y.2.2.2.1 = 3) (v0 v1 : Int) (h : m_H) : m_Sim Y 0 [(0, m_r v0), (1, m_i v1)] [] h (t5_fadeIn v0 v1 h) := by
  unfold t5_fadeIn
  refine ms_iconst (pc := 0) S (m_dec e5_fadeIn 0 rfl) ?_
  refine ms_istore_n (pc := 1) S (L' := [(0, m_r v0), (1, m_i v1), (2, m_i 0)]) [1, 2, 0] rfl rfl (m_lt hN rfl) (m_dec e5_fadeIn 1 rfl) ?_
  exact s5_fadeIn_c2 S E hF hFn hN v0 v1 0 h
theorem k5_fadeIn (l : Launch) (d : m_D) (v0 v1 : Int) (h : m_H) : m_Con l d yX5_fadeIn cX5_fadeIn 3 none 3 (fun _ => []) [m_r v0, m_i v1] h (t5_fadeIn v0 v1 h) :=
  m_con2 (by decide +kernel) (Nat.le_of_ble_eq_true rfl) (fun Y hN hRm hr hI S hfin => s5_fadeIn S (m_end_v S hr hfin) hRm (Nat.le_refl _) hN v0 v1 h)
