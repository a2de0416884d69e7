/-! the walks of the methods, 1 -/
set_option maxRecDepth 100000 in
theorem e0_init : ∀ q ∈ ([(0, .aload_n 0, 1), (1, .invokespecial 1, 3), (4, .aload_n 0, 1), (5, .iload_n 1, 1), (6, .putfield 7, 3), (9, .aload_n 0, 1), (10, .iload_n 2, 1), (11, .putfield 13, 3), (14, .aload_n 0, 1), (15, .iload_n 3, 1), (16, .putfield 16, 3), (19, .aload_n 0, 1), (20, .iload 4, 2), (22, .putfield 19, 3), (25, .return_, 1)] : List (Nat × Instr × Nat)), decode cX0_init q.1 = .ok q.2 := by decide +kernel
set_option maxHeartbeats 4000000 in
set_option maxRecDepth 20000 in
theorem s0_init {Y : m_Y Unit} (S : m_Std Y RX0 cX0_init) (E : m_End Y cX0_init .return_ (fun _ => [])) {F : Nat} (hF : m_Rm Y F) (hFn : 1 ≤ F) (hN : Y.2.2.2.1 = 5) (hI : Y.2.2.2.2.2 → Y.2.1.2.2.2.2.2.2.2.2.1.name = "<init>") (v0 v1 v2 v3 v4 : Int) (h : m_H) : m_Sim Y 0 [(0, m_r v0), (1, m_i v1), (2, m_i v2), (3, m_i v3), (4, m_i v4)] [] h (t0_init v0 v1 v2 v3 v4 h) := by
  unfold t0_init
  refine ms_aload_n (pc := 0) S 0 rfl rfl (m_dec e0_init 0 rfl) ?_
  refine ms_grd fun g1 => ?_
  refine ms_obj (pc := 1) S hF (Nat.le_trans (by decide) hFn) lo_X0_1 g1 (Nat.le_of_ble_eq_true rfl) (m_dec e0_init 1 rfl) ?_
  refine ms_aload_n (pc := 4) S 0 rfl rfl (m_dec e0_init 2 rfl) ?_
  refine ms_iload_n (pc := 5) S 1 rfl rfl (m_dec e0_init 3 rfl) ?_
  refine ms_grd fun g2 => ?_
  refine ms_putf (pc := 6) S lp_X0_7 (fun _ hf => hI hf) rfl (fun d => m_fitI d _) (m_dec e0_init 4 rfl) g2 (fun h3 => ?_)
  refine ms_aload_n (pc := 9) S 0 rfl rfl (m_dec e0_init 5 rfl) ?_
  refine ms_iload_n (pc := 10) S 2 rfl rfl (m_dec e0_init 6 rfl) ?_
  refine ms_grd fun g4 => ?_
  refine ms_putf (pc := 11) S lp_X0_13 (fun _ hf => hI hf) rfl (fun d => m_fitI d _) (m_dec e0_init 7 rfl) g4 (fun h5 => ?_)
  refine ms_aload_n (pc := 14) S 0 rfl rfl (m_dec e0_init 8 rfl) ?_
  refine ms_iload_n (pc := 15) S 3 rfl rfl (m_dec e0_init 9 rfl) ?_
  refine ms_grd fun g6 => ?_
  refine ms_putf (pc := 16) S lp_X0_16 (fun _ hf => hI hf) rfl (fun d => m_fitI d _) (m_dec e0_init 10 rfl) g6 (fun h7 => ?_)
  refine ms_aload_n (pc := 19) S 0 rfl rfl (m_dec e0_init 11 rfl) ?_
  refine ms_iload (pc := 20) S 4 rfl (m_dec e0_init 12 rfl) ?_
  refine ms_grd fun g8 => ?_
  refine ms_putf (pc := 22) S lp_X0_19 (fun _ hf => hI hf) rfl (fun d => m_fitI d _) (m_dec e0_init 13 rfl) g8 (fun h9 => ?_)
  exact ms_ret (pc := 25) E (m_dec e0_init 14 rfl) rfl
theorem k0_init (l : Launch) (d : m_D) (v0 v1 v2 v3 v4 : Int) (h : m_H) : m_Con l d yX0_init cX0_init 5 none 1 (fun _ => []) [m_r v0, m_i v1, m_i v2, m_i v3, m_i v4] h (t0_init v0 v1 v2 v3 v4 h) :=
  m_con2 (by decide +kernel) (Nat.le_of_ble_eq_true rfl) (fun Y hN hRm hr hI S hfin => s0_init S (m_end_v S hr hfin) hRm (Nat.le_refl _) hN hI v0 v1 v2 v3 v4 h)
set_option maxRecDepth 100000 in
theorem e0_copyPace : ∀ q ∈ ([(0, .sipush 1000, 3), (3, .aload_n 0, 1), (4, .getfield 7, 3), (7, .iadd, 1), (8, .ireturn, 1)] : List (Nat × Instr × Nat)), decode cX0_copyPace q.1 = .ok q.2 := by decide +kernel
set_option maxHeartbeats 4000000 in
set_option maxRecDepth 20000 in
theorem s0_copyPace {Y : m_Y Int} (S : m_Std Y RX0 cX0_copyPace) (E : m_End Y cX0_copyPace .ireturn (fun r => [m_i r])) {F : Nat} (hF : m_Rm Y F) (hFn : 0 ≤ F) (hN : Y.2.2.2.1 = 1) (v0 : Int) (h : m_H) : m_Sim Y 0 [(0, m_r v0)] [] h (t0_copyPace v0 h) := by
  unfold t0_copyPace
  refine ms_sipush (pc := 0) S (m_dec e0_copyPace 0 rfl) rfl ?_
  refine ms_aload_n (pc := 3) S 0 rfl rfl (m_dec e0_copyPace 1 rfl) ?_
  refine ms_grd fun g1 => ?_
  refine ms_getf (pc := 4) S lf_X0_7 rfl (m_dec e0_copyPace 2 rfl) g1 ?_
  refine ms_iadd (pc := 7) S (m_dec e0_copyPace 3 rfl) ?_
  exact ms_ret (pc := 8) E (m_dec e0_copyPace 4 rfl) rfl
theorem k0_copyPace (l : Launch) (d : m_D) (v0 : Int) (h : m_H) : m_Con l d yX0_copyPace cX0_copyPace 1 (some .int) 0 (fun r => [m_i r]) [m_r v0] h (t0_copyPace v0 h) :=
  m_con2 (by decide +kernel) (Nat.le_of_ble_eq_true rfl) (fun Y hN hRm hr hI S hfin => s0_copyPace S (m_end_i S hr hfin) hRm (Nat.le_refl _) hN v0 h)
set_option maxRecDepth 100000 in
theorem e5_init : ∀ q ∈ ([(0, .aload_n 0, 1), (1, .invokespecial 1, 3), (4, .aload_n 0, 1), (5, .iconst 0, 1), (6, .newarray .int, 2), (8, .putfield 7, 3), (11, .return_, 1)] : List (Nat × Instr × Nat)), decode cX5_init q.1 = .ok q.2 := by decide +kernel
set_option maxHeartbeats 4000000 in
set_option maxRecDepth 20000 in
theorem s5_init {Y : m_Y Unit} (S : m_Std Y RX5 cX5_init) (E : m_End Y cX5_init .return_ (fun _ => [])) {F : Nat} (hF : m_Rm Y F) (hFn : 1 ≤ F) (hN : Y.2.2.2.1 = 1) (hI : Y.2.2.2.2.2 → Y.2.1.2.2.2.2.2.2.2.2.1.name = "<init>") (v0 : Int) (h : m_H) : m_Sim Y 0 [(0, m_r v0)] [] h (t5_init v0 h) := by
  unfold t5_init
  refine ms_aload_n (pc := 0) S 0 rfl rfl (m_dec e5_init 0 rfl) ?_
  refine ms_grd fun g1 => ?_
  refine ms_obj (pc := 1) S hF (Nat.le_trans (by decide) hFn) lo_X5_1 g1 (Nat.le_of_ble_eq_true rfl) (m_dec e5_init 1 rfl) ?_
  refine ms_aload_n (pc := 4) S 0 rfl rfl (m_dec e5_init 2 rfl) ?_
  refine ms_iconst (pc := 5) S (m_dec e5_init 3 rfl) ?_
  refine ms_newa (pc := 6) S 20 (ty := .int) rfl (by decide) (fun _ => rfl) (fun _ => rfl) (by decide) (fun _ _ z => z) w_208 (by decide) (m_dec e5_init 4 rfl) (fun h2 => ?_)
  refine ms_grd fun g3 => ?_
  refine ms_putf (pc := 8) S lp_X5_7 (fun z => by cases z) rfl (fun d => m_fitA _ d _) (m_dec e5_init 5 rfl) g3 (fun h4 => ?_)
  exact ms_ret (pc := 11) E (m_dec e5_init 6 rfl) rfl
theorem k5_init (l : Launch) (d : m_D) (v0 : Int) (h : m_H) : m_Con l d yX5_init cX5_init 1 none 1 (fun _ => []) [m_r v0] h (t5_init v0 h) :=
  m_con2 (by decide +kernel) (Nat.le_of_ble_eq_true rfl) (fun Y hN hRm hr hI S hfin => s5_init S (m_end_v S hr hfin) hRm (Nat.le_refl _) hN hI v0 h)
set_option maxRecDepth 100000 in
theorem e1_init : ∀ q ∈ ([(0, .aload_n 0, 1), (1, .invokespecial 3, 3), (4, .aload_n 0, 1), (5, .new 9, 3), (8, .dup, 1), (9, .invokespecial 11, 3), (12, .putfield 12, 3), (15, .aload_n 0, 1), (16, .sipush 1000, 3), (19, .newarray .int, 2), (21, .putfield 18, 3), (24, .aload_n 0, 1), (25, .sipush 1001, 3), (28, .newarray .int, 2), (30, .putfield 22, 3), (33, .aload_n 0, 1), (34, .sipush 600, 3), (37, .newarray .int, 2), (39, .putfield 25, 3), (42, .aload_n 0, 1), (43, .iconst (-1), 1), (44, .putfield 28, 3), (47, .aload_n 0, 1), (48, .aload_n 1, 1), (49, .putfield 32, 3), (52, .aload_n 0, 1), (53, .aload_n 2, 1), (54, .putfield 36, 3), (57, .return_, 1)] : List (Nat × Instr × Nat)), decode cX1_init q.1 = .ok q.2 := by decide +kernel
set_option maxHeartbeats 4000000 in
set_option maxRecDepth 20000 in
theorem s1_init {Y : m_Y Unit} (S : m_Std Y RX1 cX1_init) (E : m_End Y cX1_init .return_ (fun _ => [])) {F : Nat} (hF : m_Rm Y F) (hFn : 2 ≤ F) (hN : Y.2.2.2.1 = 3) (hI : Y.2.2.2.2.2 → Y.2.1.2.2.2.2.2.2.2.2.1.name = "<init>") (v0 v1 v2 : Int) (h : m_H) : m_Sim Y 0 [(0, m_r v0), (1, m_r v1), (2, m_r v2)] [] h (t1_init v0 v1 v2 h) := by
  unfold t1_init
  refine ms_aload_n (pc := 0) S 0 rfl rfl (m_dec e1_init 0 rfl) ?_
  refine ms_grd fun g1 => ?_
  refine ms_obj (pc := 1) S hF (Nat.le_trans (by decide) hFn) lo_X1_3 g1 (Nat.le_of_ble_eq_true rfl) (m_dec e1_init 1 rfl) ?_
  refine ms_aload_n (pc := 4) S 0 rfl rfl (m_dec e1_init 2 rfl) ?_
  refine ms_new (pc := 5) S ln_X1_9 rfl (m_dec e1_init 3 rfl) (fun h2 => ?_)
  refine ms_dup (pc := 8) S rfl (m_dec e1_init 4 rfl) ?_
  refine ms_grd fun g3 => ?_
  refine ms_callIv (pc := 9) S hF (vals := []) (st := [m_r (m_n h), m_r v0]) (ht := g3) (hC := (k5_init _ _ (m_n h) h2)) (hM := lm_X1_11) (hfr := (Nat.le_trans (by decide) hFn)) (hstk := rfl) (hcat := Nat.le_of_ble_eq_true rfl) (hd := (m_dec e1_init 5 rfl)) (k1 := fun h4 => ?_)
  refine ms_grd fun g6 => ?_
  refine ms_putf (pc := 12) S lp_X1_12 (fun _ hf => hI hf) rfl (fun d => m_fitO _ d _) (m_dec e1_init 6 rfl) g6 (fun h7 => ?_)
  refine ms_aload_n (pc := 15) S 0 rfl rfl (m_dec e1_init 7 rfl) ?_
  refine ms_sipush (pc := 16) S (m_dec e1_init 8 rfl) rfl ?_
  refine ms_newa (pc := 19) S 20 (ty := .int) rfl (by decide) (fun _ => rfl) (fun _ => rfl) (by decide) (fun _ _ z => z) w_208 (by decide) (m_dec e1_init 9 rfl) (fun h8 => ?_)
  refine ms_grd fun g9 => ?_
  refine ms_putf (pc := 21) S lp_X1_18 (fun _ hf => hI hf) rfl (fun d => m_fitA _ d _) (m_dec e1_init 10 rfl) g9 (fun h10 => ?_)
  refine ms_aload_n (pc := 24) S 0 rfl rfl (m_dec e1_init 11 rfl) ?_
  refine ms_sipush (pc := 25) S (m_dec e1_init 12 rfl) rfl ?_
  refine ms_newa (pc := 28) S 20 (ty := .int) rfl (by decide) (fun _ => rfl) (fun _ => rfl) (by decide) (fun _ _ z => z) w_208 (by decide) (m_dec e1_init 13 rfl) (fun h11 => ?_)
  refine ms_grd fun g12 => ?_
  refine ms_putf (pc := 30) S lp_X1_22 (fun _ hf => hI hf) rfl (fun d => m_fitA _ d _) (m_dec e1_init 14 rfl) g12 (fun h13 => ?_)
  refine ms_aload_n (pc := 33) S 0 rfl rfl (m_dec e1_init 15 rfl) ?_
  refine ms_sipush (pc := 34) S (m_dec e1_init 16 rfl) rfl ?_
  refine ms_newa (pc := 37) S 20 (ty := .int) rfl (by decide) (fun _ => rfl) (fun _ => rfl) (by decide) (fun _ _ z => z) w_208 (by decide) (m_dec e1_init 17 rfl) (fun h14 => ?_)
  refine ms_grd fun g15 => ?_
  refine ms_putf (pc := 39) S lp_X1_25 (fun _ hf => hI hf) rfl (fun d => m_fitA _ d _) (m_dec e1_init 18 rfl) g15 (fun h16 => ?_)
  refine ms_aload_n (pc := 42) S 0 rfl rfl (m_dec e1_init 19 rfl) ?_
  refine ms_iconst (pc := 43) S (m_dec e1_init 20 rfl) ?_
  refine ms_grd fun g17 => ?_
  refine ms_putf (pc := 44) S lp_X1_28 (fun z => by cases z) rfl (fun d => m_fitI d _) (m_dec e1_init 21 rfl) g17 (fun h18 => ?_)
  refine ms_aload_n (pc := 47) S 0 rfl rfl (m_dec e1_init 22 rfl) ?_
  refine ms_aload_n (pc := 48) S 1 rfl rfl (m_dec e1_init 23 rfl) ?_
  refine ms_grd fun g19 => ?_
  refine ms_putf (pc := 49) S lp_X1_32 (fun _ hf => hI hf) rfl (fun d => m_fitO _ d _) (m_dec e1_init 24 rfl) g19 (fun h20 => ?_)
  refine ms_aload_n (pc := 52) S 0 rfl rfl (m_dec e1_init 25 rfl) ?_
  refine ms_aload_n (pc := 53) S 2 rfl rfl (m_dec e1_init 26 rfl) ?_
  refine ms_grd fun g21 => ?_
  refine ms_putf (pc := 54) S lp_X1_36 (fun _ hf => hI hf) rfl (fun d => m_fitO _ d _) (m_dec e1_init 27 rfl) g21 (fun h22 => ?_)
  exact ms_ret (pc := 57) E (m_dec e1_init 28 rfl) rfl
theorem k1_init (l : Launch) (d : m_D) (v0 v1 v2 : Int) (h : m_H) : m_Con l d yX1_init cX1_init 3 none 2 (fun _ => []) [m_r v0, m_r v1, m_r v2] h (t1_init v0 v1 v2 h) :=
  m_con2 (by decide +kernel) (Nat.le_of_ble_eq_true rfl) (fun Y hN hRm hr hI S hfin => s1_init S (m_end_v S hr hfin) hRm (Nat.le_refl _) hN hI v0 v1 v2 h)
set_option maxRecDepth 100000 in
theorem e1_forget : ∀ q ∈ ([(0, .aload_n 0, 1), (1, .iconst (-1), 1), (2, .putfield 28, 3), (5, .return_, 1)] : List (Nat × Instr × Nat)), decode cX1_forget q.1 = .ok q.2 := by decide +kernel
set_option maxHeartbeats 4000000 in
set_option maxRecDepth 20000 in
theorem s1_forget {Y : m_Y Unit} (S : m_Std Y RX1 cX1_forget) (E : m_End Y cX1_forget .return_ (fun _ => [])) {F : Nat} (hF : m_Rm Y F) (hFn : 0 ≤ F) (hN : Y.2.2.2.1 = 1) (v0 : Int) (h : m_H) : m_Sim Y 0 [(0, m_r v0)] [] h (t1_forget v0 h) := by
  unfold t1_forget
  refine ms_aload_n (pc := 0) S 0 rfl rfl (m_dec e1_forget 0 rfl) ?_
  refine ms_iconst (pc := 1) S (m_dec e1_forget 1 rfl) ?_
  refine ms_grd fun g1 => ?_
  refine ms_putf (pc := 2) S lp_X1_28 (fun z => by cases z) rfl (fun d => m_fitI d _) (m_dec e1_forget 2 rfl) g1 (fun h2 => ?_)
  exact ms_ret (pc := 5) E (m_dec e1_forget 3 rfl) rfl
theorem k1_forget (l : Launch) (d : m_D) (v0 : Int) (h : m_H) : m_Con l d yX1_forget cX1_forget 1 none 0 (fun _ => []) [m_r v0] h (t1_forget v0 h) :=
  m_con2 (by decide +kernel) (Nat.le_of_ble_eq_true rfl) (fun Y hN hRm hr hI S hfin => s1_forget S (m_end_v S hr hfin) hRm (Nat.le_refl _) hN v0 h)
set_option maxRecDepth 100000 in
theorem e1_isAsked : ∀ q ∈ ([(0, .iload_n 0, 1), (1, .iconst 1, 1), (2, .if_icmp .lt 23, 3), (5, .iload_n 0, 1), (6, .bipush 100, 2), (8, .if_icmp .gt 17, 3), (11, .iload_n 1, 1), (12, .ifCond .lt 13, 3), (15, .iload_n 1, 1), (16, .ldc 39, 2), (18, .if_icmp .gt 7, 3), (21, .iconst 1, 1), (22, .goto 4, 3), (25, .iconst 0, 1), (26, .ireturn, 1)] : List (Nat × Instr × Nat)), decode cX1_isAsked q.1 = .ok q.2 := by decide +kernel
set_option maxHeartbeats 4000000 in
set_option maxRecDepth 20000 in
theorem s1_isAsked {Y : m_Y Bool} (S : m_Std Y RX1 cX1_isAsked) (E : m_End Y cX1_isAsked .ireturn (fun r => [m_i (m_b2i r)])) {F : Nat} (hF : m_Rm Y F) (hFn : 0 ≤ F) (hN : Y.2.2.2.1 = 2) (v0 v1 : Int) (h : m_H) : m_Sim Y 0 [(0, m_i v0), (1, m_i v1)] [] h (t1_isAsked v0 v1 h) := by
  unfold t1_isAsked
  refine ms_iload_n (pc := 0) S 0 rfl rfl (m_dec e1_isAsked 0 rfl) ?_
  refine ms_iconst (pc := 1) S (m_dec e1_isAsked 1 rfl) ?_
  refine ms_icmp_lt (pc := 2) S (m_dec e1_isAsked 2 rfl) rfl (fun q1 => ?_) (fun q1 => ?_)
  · refine ms_iconst (pc := 25) S (m_dec e1_isAsked 13 rfl) ?_
    exact ms_ret (pc := 26) E (m_dec e1_isAsked 14 rfl) rfl
  · refine ms_iload_n (pc := 5) S 0 rfl rfl (m_dec e1_isAsked 3 rfl) ?_
    refine ms_bipush (pc := 6) S (m_dec e1_isAsked 4 rfl) rfl ?_
    refine ms_icmp_gt (pc := 8) S (m_dec e1_isAsked 5 rfl) rfl (fun q2 => ?_) (fun q2 => ?_)
    · refine ms_iconst (pc := 25) S (m_dec e1_isAsked 13 rfl) ?_
      exact ms_ret (pc := 26) E (m_dec e1_isAsked 14 rfl) rfl
    · refine ms_iload_n (pc := 11) S 1 rfl rfl (m_dec e1_isAsked 6 rfl) ?_
      refine ms_if_lt (pc := 12) S (m_dec e1_isAsked 7 rfl) rfl (fun q3 => ?_) (fun q3 => ?_)
      · refine ms_iconst (pc := 25) S (m_dec e1_isAsked 13 rfl) ?_
        exact ms_ret (pc := 26) E (m_dec e1_isAsked 14 rfl) rfl
      · refine ms_iload_n (pc := 15) S 1 rfl rfl (m_dec e1_isAsked 8 rfl) ?_
        refine ms_ldc (pc := 16) S (n := 65535) w_1356 (m_dec e1_isAsked 9 rfl) ?_
        refine ms_icmp_gt (pc := 18) S (m_dec e1_isAsked 10 rfl) rfl (fun q4 => ?_) (fun q4 => ?_)
        · refine ms_iconst (pc := 25) S (m_dec e1_isAsked 13 rfl) ?_
          exact ms_ret (pc := 26) E (m_dec e1_isAsked 14 rfl) rfl
        · refine ms_iconst (pc := 21) S (m_dec e1_isAsked 11 rfl) ?_
          refine ms_goto (pc := 22) S (m_dec e1_isAsked 12 rfl) rfl ?_
          exact ms_ret (pc := 26) E (m_dec e1_isAsked 14 rfl) rfl
theorem k1_isAsked (l : Launch) (d : m_D) (v0 v1 : Int) (h : m_H) : m_Con l d yX1_isAsked cX1_isAsked 2 (some .boolean) 0 (fun r => [m_i (m_b2i r)]) [m_i v0, m_i v1] h (t1_isAsked v0 v1 h) :=
  m_con2 (by decide +kernel) (Nat.le_of_ble_eq_true rfl) (fun Y hN hRm hr hI S hfin => s1_isAsked S (m_end_z S hr hfin) hRm (Nat.le_refl _) hN v0 v1 h)
set_option maxRecDepth 100000 in
theorem e7_known : ∀ q ∈ ([(0, .iload_n 1, 1), (1, .ifCond .lt 29, 3), (4, .iload_n 1, 1), (5, .aload_n 0, 1), (6, .getfield 33, 3), (9, .if_icmp .ge 21, 3), (12, .iload_n 1, 1), (13, .aload_n 0, 1), (14, .getfield 11, 3), (17, .arraylength, 1), (18, .if_icmp .ge 12, 3), (21, .aload_n 0, 1), (22, .getfield 11, 3), (25, .iload_n 1, 1), (26, .aaload, 1), (27, .goto 4, 3), (30, .aconst_null, 1), (31, .areturn, 1)] : List (Nat × Instr × Nat)), decode cX7_known q.1 = .ok q.2 := by decide +kernel
set_option maxHeartbeats 4000000 in
set_option maxRecDepth 20000 in
theorem s7_known {Y : m_Y Int} (S : m_Std Y RX7 cX7_known) (E : m_End Y cX7_known .areturn (fun r => [m_r r])) {F : Nat} (hF : m_Rm Y F) (hFn : 0 ≤ F) (hN : Y.2.2.2.1 = 2) (v0 v1 : Int) (h : m_H) : m_Sim Y 0 [(0, m_r v0), (1, m_i v1)] [] h (t7_known v0 v1 h) := by
  unfold t7_known
  refine ms_iload_n (pc := 0) S 1 rfl rfl (m_dec e7_known 0 rfl) ?_
  refine ms_if_lt (pc := 1) S (m_dec e7_known 1 rfl) rfl (fun q1 => ?_) (fun q1 => ?_)
  · refine ms_null (pc := 30) S (m_dec e7_known 16 rfl) ?_
    exact ms_ret (pc := 31) E (m_dec e7_known 17 rfl) rfl
  · refine ms_iload_n (pc := 4) S 1 rfl rfl (m_dec e7_known 2 rfl) ?_
    refine ms_aload_n (pc := 5) S 0 rfl rfl (m_dec e7_known 3 rfl) ?_
    refine ms_grd fun g2 => ?_
    refine ms_getf (pc := 6) S lf_X7_33 rfl (m_dec e7_known 4 rfl) g2 ?_
    refine ms_icmp_ge (pc := 9) S (m_dec e7_known 5 rfl) rfl (fun q3 => ?_) (fun q3 => ?_)
    · refine ms_iload_n (pc := 12) S 1 rfl rfl (m_dec e7_known 6 rfl) ?_
      refine ms_aload_n (pc := 13) S 0 rfl rfl (m_dec e7_known 7 rfl) ?_
      refine ms_getf (pc := 14) S lf_X7_11 rfl (m_dec e7_known 8 rfl) g2 ?_
      refine ms_grd fun g4 => ?_
      refine ms_alen (pc := 17) S g4 (m_dec e7_known 9 rfl) ?_
      refine ms_icmp_ge (pc := 18) S (m_dec e7_known 10 rfl) rfl (fun q5 => ?_) (fun q5 => ?_)
      · refine ms_aload_n (pc := 21) S 0 rfl rfl (m_dec e7_known 11 rfl) ?_
        refine ms_getf (pc := 22) S lf_X7_11 rfl (m_dec e7_known 12 rfl) g2 ?_
        refine ms_iload_n (pc := 25) S 1 rfl rfl (m_dec e7_known 13 rfl) ?_
        refine ms_grd fun g6 => ?_
        refine ms_aald (pc := 26) S 24 (by decide) (fun _ => rfl) rfl g6 (m_dec e7_known 14 rfl) ?_
        refine ms_goto (pc := 27) S (m_dec e7_known 15 rfl) rfl ?_
        exact ms_ret (pc := 31) E (m_dec e7_known 17 rfl) rfl
      · refine ms_null (pc := 30) S (m_dec e7_known 16 rfl) ?_
        exact ms_ret (pc := 31) E (m_dec e7_known 17 rfl) rfl
    · refine ms_null (pc := 30) S (m_dec e7_known 16 rfl) ?_
      exact ms_ret (pc := 31) E (m_dec e7_known 17 rfl) rfl
theorem k7_known (l : Launch) (d : m_D) (v0 v1 : Int) (h : m_H) : m_Con l d yX7_known cX7_known 2 (some (.object "TapeStudio$Strip")) 0 (fun r => [m_r r]) [m_r v0, m_i v1] h (t7_known v0 v1 h) :=
  m_con2 (by decide +kernel) (Nat.le_of_ble_eq_true rfl) (fun Y hN hRm hr hI S hfin => s7_known S (m_end_a S (by first | exact Or.inl ⟨_, rfl⟩ | exact Or.inr ⟨_, rfl⟩) hr hfin) hRm (Nat.le_refl _) hN v0 v1 h)
set_option maxRecDepth 100000 in
theorem e1_layable : ∀ q ∈ ([(0, .aload_n 0, 1), (1, .getfield 32, 3), (4, .iload_n 1, 1), (5, .invokevirtual 40, 3), (8, .astore_n 2, 1), (9, .aload_n 2, 1), (10, .ifnull 11, 3), (13, .aload_n 2, 1), (14, .getfield 46, 3), (17, .iconst 2, 1), (18, .if_icmp .ne 7, 3), (21, .aconst_null, 1), (22, .goto 7, 3), (25, .aload_n 2, 1), (26, .getfield 51, 3), (29, .areturn, 1)] : List (Nat × Instr × Nat)), decode cX1_layable q.1 = .ok q.2 := by decide +kernel
set_option maxHeartbeats 4000000 in
set_option maxRecDepth 20000 in
theorem s1_layable {Y : m_Y Int} (S : m_Std Y RX1 cX1_layable) (E : m_End Y cX1_layable .areturn (fun r => [m_r r])) {F : Nat} (hF : m_Rm Y F) (hFn : 1 ≤ F) (hN : Y.2.2.2.1 = 3) (v0 v1 : Int) (h : m_H) : m_Sim Y 0 [(0, m_r v0), (1, m_i v1)] [] h (t1_layable v0 v1 h) := by
  unfold t1_layable
  refine ms_aload_n (pc := 0) S 0 rfl rfl (m_dec e1_layable 0 rfl) ?_
  refine ms_grd fun g1 => ?_
  refine ms_getf (pc := 1) S lf_X1_32 rfl (m_dec e1_layable 1 rfl) g1 ?_
  refine ms_iload_n (pc := 4) S 1 rfl rfl (m_dec e1_layable 2 rfl) ?_
  refine ms_grd fun g2 => ?_
  refine ms_callVa (pc := 5) S hF (vals := [m_i v1]) (st := []) (hc := vw_7) (hci := by decide) (hcy := rfl) (ht := g2) (hC := (k7_known _ _ (m_g h v0 0) v1 h)) (hM := lm_X1_40) (hfr := (Nat.le_trans (by decide) hFn)) (hstk := rfl) (hcat := Nat.le_of_ble_eq_true rfl) (hd := (m_dec e1_layable 3 rfl)) (k1 := fun r4 h3 => ?_)
  refine ms_astore_n (pc := 8) S (L' := [(2, m_r r4)]) [0] rfl rfl (m_lt hN rfl) (m_dec e1_layable 4 rfl) ?_
  refine ms_aload_n (pc := 9) S 0 rfl rfl (m_dec e1_layable 5 rfl) ?_
  refine ms_ifnull (pc := 10) S (m_dec e1_layable 6 rfl) rfl (fun q5 => ?_) (fun q5 => ?_)
  · refine ms_null (pc := 21) S (m_dec e1_layable 11 rfl) ?_
    refine ms_goto (pc := 22) S (m_dec e1_layable 12 rfl) rfl ?_
    exact ms_ret (pc := 29) E (m_dec e1_layable 15 rfl) rfl
  · refine ms_aload_n (pc := 13) S 0 rfl rfl (m_dec e1_layable 7 rfl) ?_
    refine ms_grd fun g6 => ?_
    refine ms_getf (pc := 14) S lf_X1_46 rfl (m_dec e1_layable 8 rfl) g6 ?_
    refine ms_iconst (pc := 17) S (m_dec e1_layable 9 rfl) ?_
    refine ms_icmp_ne (pc := 18) S (m_dec e1_layable 10 rfl) rfl (fun q7 => ?_) (fun q7 => ?_)
    · refine ms_null (pc := 21) S (m_dec e1_layable 11 rfl) ?_
      refine ms_goto (pc := 22) S (m_dec e1_layable 12 rfl) rfl ?_
      exact ms_ret (pc := 29) E (m_dec e1_layable 15 rfl) rfl
    · refine ms_aload_n (pc := 25) S 0 rfl rfl (m_dec e1_layable 13 rfl) ?_
      refine ms_getf (pc := 26) S lf_X1_51 rfl (m_dec e1_layable 14 rfl) g6 ?_
      exact ms_ret (pc := 29) E (m_dec e1_layable 15 rfl) rfl
theorem k1_layable (l : Launch) (d : m_D) (v0 v1 : Int) (h : m_H) : m_Con l d yX1_layable cX1_layable 3 (some (.object "TapeStudio$Row")) 1 (fun r => [m_r r]) [m_r v0, m_i v1] h (t1_layable v0 v1 h) :=
  m_con2 (by decide +kernel) (Nat.le_of_ble_eq_true rfl) (fun Y hN hRm hr hI S hfin => s1_layable S (m_end_a S (by first | exact Or.inl ⟨_, rfl⟩ | exact Or.inr ⟨_, rfl⟩) hr hfin) hRm (Nat.le_refl _) hN v0 v1 h)
set_option maxRecDepth 100000 in
theorem e5_resize : ∀ q ∈ ([(0, .iload_n 1, 1), (1, .iconst 0, 1), (2, .invokestatic 35, 3), (5, .istore_n 2, 1), (6, .iload_n 2, 1), (7, .aload_n 0, 1), (8, .getfield 7, 3), (11, .arraylength, 1), (12, .if_icmp .le 37, 3), (15, .iload_n 2, 1), (16, .iconst 2, 1), (17, .aload_n 0, 1), (18, .getfield 7, 3), (21, .arraylength, 1), (22, .imul, 1), (23, .invokestatic 35, 3), (26, .newarray .int, 2), (28, .astore_n 3, 1), (29, .aload_n 0, 1), (30, .getfield 7, 3), (33, .iconst 0, 1), (34, .aload_n 3, 1), (35, .iconst 0, 1), (36, .aload_n 0, 1), (37, .getfield 7, 3), (40, .arraylength, 1), (41, .invokestatic 41, 3), (44, .aload_n 0, 1), (45, .aload_n 3, 1), (46, .putfield 7, 3), (49, .aload_n 0, 1), (50, .iload_n 2, 1), (51, .putfield 13, 3), (54, .return_, 1)] : List (Nat × Instr × Nat)), decode cX5_resize q.1 = .ok q.2 := by decide +kernel
set_option maxHeartbeats 4000000 in
set_option maxRecDepth 20000 in
theorem s5_resize {Y : m_Y Unit} (S : m_Std Y RX5 cX5_resize) (E : m_End Y cX5_resize .return_ (fun _ => [])) {F : Nat} (hF : m_Rm Y F) (hFn : 1 ≤ F) (hN : Y.2.2.2.1 = 4) (v0 v1 : Int) (h : m_H) : m_Sim Y 0 [(0, m_r v0), (1, m_i v1)] [] h (t5_resize v0 v1 h) := by
  unfold t5_resize
  refine ms_iload_n (pc := 0) S 1 rfl rfl (m_dec e5_resize 0 rfl) ?_
  refine ms_iconst (pc := 1) S (m_dec e5_resize 1 rfl) ?_
  refine ms_mmax (pc := 2) S hF (Nat.le_trans (by decide) hFn) ⟨w_484, w_485, w_136, w_486⟩ (Nat.le_of_ble_eq_true rfl) (m_dec e5_resize 2 rfl) ?_
  refine ms_nm (st := fun x1 => [m_i x1]) fun x1 => ?_
  refine ms_istore_n (pc := 5) S (L' := [(0, m_r v0), (2, m_i x1)]) [1, 0] rfl rfl (m_lt hN rfl) (m_dec e5_resize 3 rfl) ?_
  refine ms_iload_n (pc := 6) S 1 rfl rfl (m_dec e5_resize 4 rfl) ?_
  refine ms_aload_n (pc := 7) S 0 rfl rfl (m_dec e5_resize 5 rfl) ?_
  refine ms_grd fun g2 => ?_
  refine ms_getf (pc := 8) S lf_X5_7 rfl (m_dec e5_resize 6 rfl) g2 ?_
  refine ms_grd fun g3 => ?_
  refine ms_alen (pc := 11) S g3 (m_dec e5_resize 7 rfl) ?_
  refine ms_icmp_le (pc := 12) S (m_dec e5_resize 8 rfl) rfl (fun q4 => ?_) (fun q4 => ?_)
  · refine ms_iload_n (pc := 15) S 1 rfl rfl (m_dec e5_resize 9 rfl) ?_
    refine ms_iconst (pc := 16) S (m_dec e5_resize 10 rfl) ?_
    refine ms_aload_n (pc := 17) S 0 rfl rfl (m_dec e5_resize 11 rfl) ?_
    refine ms_getf (pc := 18) S lf_X5_7 rfl (m_dec e5_resize 12 rfl) g2 ?_
    refine ms_alen (pc := 21) S g3 (m_dec e5_resize 13 rfl) ?_
    refine ms_imul (pc := 22) S (m_dec e5_resize 14 rfl) ?_
    refine ms_mmax (pc := 23) S hF (Nat.le_trans (by decide) hFn) ⟨w_484, w_485, w_136, w_486⟩ (Nat.le_of_ble_eq_true rfl) (m_dec e5_resize 15 rfl) ?_
    refine ms_grd fun g5 => ?_
    refine ms_newa (pc := 26) S 20 (ty := .int) rfl (by decide) (fun _ => rfl) (fun _ => rfl) (by decide) (fun _ _ z => z) w_208 g5 (m_dec e5_resize 16 rfl) (fun h6 => ?_)
    refine ms_nm (st := fun x7 => [m_r x7]) fun x7 => ?_
    refine ms_astore_n (pc := 28) S (L' := [(0, m_r v0), (2, m_i x1), (3, m_r x7)]) [1, 2, 0] rfl rfl (m_lt hN rfl) (m_dec e5_resize 17 rfl) ?_
    refine ms_aload_n (pc := 29) S 0 rfl rfl (m_dec e5_resize 18 rfl) ?_
    refine ms_grd fun g8 => ?_
    refine ms_getf (pc := 30) S lf_X5_7 rfl (m_dec e5_resize 19 rfl) g8 ?_
    refine ms_iconst (pc := 33) S (m_dec e5_resize 20 rfl) ?_
    refine ms_aload_n (pc := 34) S 2 rfl rfl (m_dec e5_resize 21 rfl) ?_
    refine ms_iconst (pc := 35) S (m_dec e5_resize 22 rfl) ?_
    refine ms_aload_n (pc := 36) S 0 rfl rfl (m_dec e5_resize 23 rfl) ?_
    refine ms_getf (pc := 37) S lf_X5_7 rfl (m_dec e5_resize 24 rfl) g8 ?_
    refine ms_grd fun g9 => ?_
    refine ms_alen (pc := 40) S g9 (m_dec e5_resize 25 rfl) ?_
    refine ms_grd fun g10 => ?_
    refine ms_copy (pc := 41) S hF (Nat.le_trans (by decide) hFn) ⟨w_487, w_489, w_488, w_137⟩ (Nat.le_of_ble_eq_true rfl) g10 (m_dec e5_resize 26 rfl) (fun h11 => ?_)
    refine ms_aload_n (pc := 44) S 0 rfl rfl (m_dec e5_resize 27 rfl) ?_
    refine ms_aload_n (pc := 45) S 2 rfl rfl (m_dec e5_resize 28 rfl) ?_
    refine ms_grd fun g12 => ?_
    refine ms_putf (pc := 46) S lp_X5_7 (fun z => by cases z) rfl (fun d => m_fitA _ d _) (m_dec e5_resize 29 rfl) g12 (fun h13 => ?_)
    refine ms_aload_n (pc := 49) S 0 rfl rfl (m_dec e5_resize 30 rfl) ?_
    refine ms_iload_n (pc := 50) S 1 rfl rfl (m_dec e5_resize 31 rfl) ?_
    refine ms_grd fun g14 => ?_
    refine ms_putf (pc := 51) S lp_X5_13 (fun z => by cases z) rfl (fun d => m_fitI d _) (m_dec e5_resize 32 rfl) g14 (fun h15 => ?_)
    exact ms_ret (pc := 54) E (m_dec e5_resize 33 rfl) rfl
  · refine ms_aload_n (pc := 49) S 0 rfl rfl (m_dec e5_resize 30 rfl) ?_
    refine ms_iload_n (pc := 50) S 1 rfl rfl (m_dec e5_resize 31 rfl) ?_
    refine ms_putf (pc := 51) S lp_X5_13 (fun z => by cases z) rfl (fun d => m_fitI d _) (m_dec e5_resize 32 rfl) g2 (fun h16 => ?_)
    exact ms_ret (pc := 54) E (m_dec e5_resize 33 rfl) rfl
theorem k5_resize (l : Launch) (d : m_D) (v0 v1 : Int) (h : m_H) : m_Con l d yX5_resize cX5_resize 4 none 1 (fun _ => []) [m_r v0, m_i v1] h (t5_resize v0 v1 h) :=
  m_con2 (by decide +kernel) (Nat.le_of_ble_eq_true rfl) (fun Y hN hRm hr hI S hfin => s5_resize S (m_end_v S hr hfin) hRm (Nat.le_refl _) hN v0 v1 h)
set_option maxRecDepth 100000 in
theorem e5_get : ∀ q ∈ ([(0, .iload_n 1, 1), (1, .ifCond .lt 29, 3), (4, .iload_n 1, 1), (5, .aload_n 0, 1), (6, .getfield 13, 3), (9, .if_icmp .ge 21, 3), (12, .iload_n 1, 1), (13, .aload_n 0, 1), (14, .getfield 7, 3), (17, .arraylength, 1), (18, .if_icmp .ge 12, 3), (21, .aload_n 0, 1), (22, .getfield 7, 3), (25, .iload_n 1, 1), (26, .iaload, 1), (27, .goto 4, 3), (30, .iconst 0, 1), (31, .ireturn, 1)] : List (Nat × Instr × Nat)), decode cX5_get q.1 = .ok q.2 := by decide +kernel
set_option maxHeartbeats 4000000 in
set_option maxRecDepth 20000 in
theorem s5_get {Y : m_Y Int} (S : m_Std Y RX5 cX5_get) (E : m_End Y cX5_get .ireturn (fun r => [m_i r])) {F : Nat} (hF : m_Rm Y F) (hFn : 0 ≤ F) (hN : Y.2.2.2.1 = 2) (v0 v1 : Int) (h : m_H) : m_Sim Y 0 [(0, m_r v0), (1, m_i v1)] [] h (t5_get v0 v1 h) := by
  unfold t5_get
  refine ms_iload_n (pc := 0) S 1 rfl rfl (m_dec e5_get 0 rfl) ?_
  refine ms_if_lt (pc := 1) S (m_dec e5_get 1 rfl) rfl (fun q1 => ?_) (fun q1 => ?_)
  · refine ms_iconst (pc := 30) S (m_dec e5_get 16 rfl) ?_
    exact ms_ret (pc := 31) E (m_dec e5_get 17 rfl) rfl
  · refine ms_iload_n (pc := 4) S 1 rfl rfl (m_dec e5_get 2 rfl) ?_
    refine ms_aload_n (pc := 5) S 0 rfl rfl (m_dec e5_get 3 rfl) ?_
    refine ms_grd fun g2 => ?_
    refine ms_getf (pc := 6) S lf_X5_13 rfl (m_dec e5_get 4 rfl) g2 ?_
    refine ms_icmp_ge (pc := 9) S (m_dec e5_get 5 rfl) rfl (fun q3 => ?_) (fun q3 => ?_)
    · refine ms_iload_n (pc := 12) S 1 rfl rfl (m_dec e5_get 6 rfl) ?_
      refine ms_aload_n (pc := 13) S 0 rfl rfl (m_dec e5_get 7 rfl) ?_
      refine ms_getf (pc := 14) S lf_X5_7 rfl (m_dec e5_get 8 rfl) g2 ?_
      refine ms_grd fun g4 => ?_
      refine ms_alen (pc := 17) S g4 (m_dec e5_get 9 rfl) ?_
      refine ms_icmp_ge (pc := 18) S (m_dec e5_get 10 rfl) rfl (fun q5 => ?_) (fun q5 => ?_)
      · refine ms_aload_n (pc := 21) S 0 rfl rfl (m_dec e5_get 11 rfl) ?_
        refine ms_getf (pc := 22) S lf_X5_7 rfl (m_dec e5_get 12 rfl) g2 ?_
        refine ms_iload_n (pc := 25) S 1 rfl rfl (m_dec e5_get 13 rfl) ?_
        refine ms_grd fun g6 => ?_
        refine ms_iald (pc := 26) S g6 (m_dec e5_get 14 rfl) ?_
        refine ms_goto (pc := 27) S (m_dec e5_get 15 rfl) rfl ?_
        exact ms_ret (pc := 31) E (m_dec e5_get 17 rfl) rfl
      · refine ms_iconst (pc := 30) S (m_dec e5_get 16 rfl) ?_
        exact ms_ret (pc := 31) E (m_dec e5_get 17 rfl) rfl
    · refine ms_iconst (pc := 30) S (m_dec e5_get 16 rfl) ?_
      exact ms_ret (pc := 31) E (m_dec e5_get 17 rfl) rfl
theorem k5_get (l : Launch) (d : m_D) (v0 v1 : Int) (h : m_H) : m_Con l d yX5_get cX5_get 2 (some .int) 0 (fun r => [m_i r]) [m_r v0, m_i v1] h (t5_get v0 v1 h) :=
  m_con2 (by decide +kernel) (Nat.le_of_ble_eq_true rfl) (fun Y hN hRm hr hI S hfin => s5_get S (m_end_i S hr hfin) hRm (Nat.le_refl _) hN v0 v1 h)
set_option maxRecDepth 100000 in
theorem e10_nearest : ∀ q ∈ ([(0, .iload_n 0, 1), (1, .iload_n 1, 1), (2, .iload_n 2, 1), (3, .invokestatic 168, 3), (6, .invokestatic 288, 3), (9, .ireturn, 1)] : List (Nat × Instr × Nat)), decode cX10_nearest q.1 = .ok q.2 := by decide +kernel
set_option maxHeartbeats 4000000 in
set_option maxRecDepth 20000 in
theorem s10_nearest {Y : m_Y Int} (S : m_Std Y RX10 cX10_nearest) (E : m_End Y cX10_nearest .ireturn (fun r => [m_i r])) {F : Nat} (hF : m_Rm Y F) (hFn : 1 ≤ F) (hN : Y.2.2.2.1 = 3) (v0 v1 v2 : Int) (h : m_H) : m_Sim Y 0 [(0, m_i v0), (1, m_i v1), (2, m_i v2)] [] h (t10_nearest v0 v1 v2 h) := by
  unfold t10_nearest
  refine ms_iload_n (pc := 0) S 0 rfl rfl (m_dec e10_nearest 0 rfl) ?_
  refine ms_iload_n (pc := 1) S 1 rfl rfl (m_dec e10_nearest 1 rfl) ?_
  refine ms_iload_n (pc := 2) S 2 rfl rfl (m_dec e10_nearest 2 rfl) ?_
  refine ms_mmin (pc := 3) S hF (Nat.le_trans (by decide) hFn) ⟨w_497, w_498, w_136, w_499⟩ (Nat.le_of_ble_eq_true rfl) (m_dec e10_nearest 3 rfl) ?_
  refine ms_mmax (pc := 6) S hF (Nat.le_trans (by decide) hFn) ⟨w_500, w_485, w_136, w_486⟩ (Nat.le_of_ble_eq_true rfl) (m_dec e10_nearest 4 rfl) ?_
  exact ms_ret (pc := 9) E (m_dec e10_nearest 5 rfl) rfl
theorem k10_nearest (l : Launch) (d : m_D) (v0 v1 v2 : Int) (h : m_H) : m_Con l d yX10_nearest cX10_nearest 3 (some .int) 1 (fun r => [m_i r]) [m_i v0, m_i v1, m_i v2] h (t10_nearest v0 v1 v2 h) :=
  m_con2 (by decide +kernel) (Nat.le_of_ble_eq_true rfl) (fun Y hN hRm hr hI S hfin => s10_nearest S (m_end_i S hr hfin) hRm (Nat.le_refl _) hN v0 v1 v2 h)
set_option maxRecDepth 100000 in
theorem e5_set : ∀ q ∈ ([(0, .iload_n 1, 1), (1, .ifCond .lt 36, 3), (4, .iload_n 1, 1), (5, .aload_n 0, 1), (6, .getfield 13, 3), (9, .if_icmp .ge 28, 3), (12, .iload_n 1, 1), (13, .aload_n 0, 1), (14, .getfield 7, 3), (17, .arraylength, 1), (18, .if_icmp .ge 19, 3), (21, .aload_n 0, 1), (22, .getfield 7, 3), (25, .iload_n 1, 1), (26, .sipush (-32768), 3), (29, .sipush 32767, 3), (32, .iload_n 2, 1), (33, .invokestatic 17, 3), (36, .iastore, 1), (37, .return_, 1)] : List (Nat × Instr × Nat)), decode cX5_set q.1 = .ok q.2 := by decide +kernel
set_option maxHeartbeats 4000000 in
set_option maxRecDepth 20000 in
theorem s5_set {Y : m_Y Unit} (S : m_Std Y RX5 cX5_set) (E : m_End Y cX5_set .return_ (fun _ => [])) {F : Nat} (hF : m_Rm Y F) (hFn : 2 ≤ F) (hN : Y.2.2.2.1 = 3) (v0 v1 v2 : Int) (h : m_H) : m_Sim Y 0 [(0, m_r v0), (1, m_i v1), (2, m_i v2)] [] h (t5_set v0 v1 v2 h) := by
  unfold t5_set
  refine ms_iload_n (pc := 0) S 1 rfl rfl (m_dec e5_set 0 rfl) ?_
  refine ms_if_lt (pc := 1) S (m_dec e5_set 1 rfl) rfl (fun q1 => ?_) (fun q1 => ?_)
  · exact ms_ret (pc := 37) E (m_dec e5_set 19 rfl) rfl
  · refine ms_iload_n (pc := 4) S 1 rfl rfl (m_dec e5_set 2 rfl) ?_
    refine ms_aload_n (pc := 5) S 0 rfl rfl (m_dec e5_set 3 rfl) ?_
    refine ms_grd fun g2 => ?_
    refine ms_getf (pc := 6) S lf_X5_13 rfl (m_dec e5_set 4 rfl) g2 ?_
    refine ms_icmp_ge (pc := 9) S (m_dec e5_set 5 rfl) rfl (fun q3 => ?_) (fun q3 => ?_)
    · refine ms_iload_n (pc := 12) S 1 rfl rfl (m_dec e5_set 6 rfl) ?_
      refine ms_aload_n (pc := 13) S 0 rfl rfl (m_dec e5_set 7 rfl) ?_
      refine ms_getf (pc := 14) S lf_X5_7 rfl (m_dec e5_set 8 rfl) g2 ?_
      refine ms_grd fun g4 => ?_
      refine ms_alen (pc := 17) S g4 (m_dec e5_set 9 rfl) ?_
      refine ms_icmp_ge (pc := 18) S (m_dec e5_set 10 rfl) rfl (fun q5 => ?_) (fun q5 => ?_)
      · refine ms_aload_n (pc := 21) S 0 rfl rfl (m_dec e5_set 11 rfl) ?_
        refine ms_getf (pc := 22) S lf_X5_7 rfl (m_dec e5_set 12 rfl) g2 ?_
        refine ms_iload_n (pc := 25) S 1 rfl rfl (m_dec e5_set 13 rfl) ?_
        refine ms_sipush (pc := 26) S (m_dec e5_set 14 rfl) rfl ?_
        refine ms_sipush (pc := 29) S (m_dec e5_set 15 rfl) rfl ?_
        refine ms_iload_n (pc := 32) S 2 rfl rfl (m_dec e5_set 16 rfl) ?_
        refine ms_callSi (pc := 33) S hF (vals := [m_i (-32768), m_i 32767, m_i v2]) (st := [m_i v1, m_r (m_g h v0 0)])  (hC := (k10_nearest _ _ (-32768) 32767 v2 h)) (hM := lm_X5_17) (hfr := (Nat.le_trans (by decide) hFn)) (hstk := rfl) (hcat := Nat.le_of_ble_eq_true rfl) (hd := (m_dec e5_set 17 rfl)) (k1 := fun r7 h6 => ?_)
        refine ms_grd fun g8 => ?_
        refine ms_iast (pc := 36) S g8 (m_dec e5_set 18 rfl) (fun h9 => ?_)
        exact ms_ret (pc := 37) E (m_dec e5_set 19 rfl) rfl
      · exact ms_ret (pc := 37) E (m_dec e5_set 19 rfl) rfl
    · exact ms_ret (pc := 37) E (m_dec e5_set 19 rfl) rfl
theorem k5_set (l : Launch) (d : m_D) (v0 v1 v2 : Int) (h : m_H) : m_Con l d yX5_set cX5_set 3 none 2 (fun _ => []) [m_r v0, m_i v1, m_i v2] h (t5_set v0 v1 v2 h) :=
  m_con2 (by decide +kernel) (Nat.le_of_ble_eq_true rfl) (fun Y hN hRm hr hI S hfin => s5_set S (m_end_v S hr hfin) hRm (Nat.le_refl _) hN v0 v1 v2 h)
set_option maxRecDepth 100000 in
theorem e5_fillTurned : ∀ q ∈ ([(0, .aload_n 0, 1), (1, .aload_n 1, 1), (2, .getfield 13, 3), (5, .invokevirtual 31, 3), (8, .iconst 0, 1), (9, .istore_n 2, 1), (10, .iload_n 2, 1), (11, .aload_n 0, 1), (12, .getfield 13, 3), (15, .if_icmp .ge 26, 3), (18, .aload_n 0, 1), (19, .iload_n 2, 1), (20, .aload_n 1, 1), (21, .aload_n 0, 1), (22, .getfield 13, 3), (25, .iconst 1, 1), (26, .isub, 1), (27, .iload_n 2, 1), (28, .isub, 1), (29, .invokevirtual 23, 3), (32, .invokevirtual 27, 3), (35, .iinc 2 1, 3), (38, .goto (-28), 3), (41, .return_, 1)] : List (Nat × Instr × Nat)), decode cX5_fillTurned q.1 = .ok q.2 := by decide +kernel
set_option maxHeartbeats 4000000 in
set_option maxRecDepth 20000 in
theorem s5_fillTurned_c10 {Y : m_Y Unit} (S : m_Std Y RX5 cX5_fillTurned) (E : m_End Y cX5_fillTurned .return_ (fun _ => [])) {F : Nat} (hF : m_Rm Y F) (hFn : 3 ≤ F) (hN : Y.2.2.2.1 = 3) : ∀ (v0 v1 v2 : Int) (h : m_H), m_Sim Y 10 [(0, m_r v0), (1, m_r v1), (2, m_i v2)] [] h (t5_fillTurned_c10 v0 v1 v2 h) := by
  intro v0 v1 v2 h
  refine ms_all fun r e => ?_
  refine t5_fillTurned_c10.partial_correctness v0 v1 (motive := fun v2 h r => m_Sim Y 10 [(0, m_r v0), (1, m_r v1), (2, m_i v2)] [] h (some r)) ?_ v2 h r e
  intro f ih v2 h r e
  have ih : ∀ (v2 : Int) (h : m_H), m_Sim Y 10 [(0, m_r v0), (1, m_r v1), (2, m_i v2)] [] h (f v2 h ) := fun v2 h  => ms_all fun r e => ih v2 h r e
  refine ms_use ?_ e
  clear e r
  refine ms_iload_n (pc := 10) S 2 rfl rfl (m_dec e5_fillTurned 6 rfl) ?_
  refine ms_aload_n (pc := 11) S 0 rfl rfl (m_dec e5_fillTurned 7 rfl) ?_
  refine ms_grd fun g1 => ?_
  refine ms_getf (pc := 12) S lf_X5_13 rfl (m_dec e5_fillTurned 8 rfl) g1 ?_
  refine ms_icmp_ge (pc := 15) S (m_dec e5_fillTurned 9 rfl) rfl (fun q2 => ?_) (fun q2 => ?_)
  · refine ms_aload_n (pc := 18) S 0 rfl rfl (m_dec e5_fillTurned 10 rfl) ?_
    refine ms_iload_n (pc := 19) S 2 rfl rfl (m_dec e5_fillTurned 11 rfl) ?_
    refine ms_aload_n (pc := 20) S 1 rfl rfl (m_dec e5_fillTurned 12 rfl) ?_
    refine ms_aload_n (pc := 21) S 0 rfl rfl (m_dec e5_fillTurned 13 rfl) ?_
    refine ms_getf (pc := 22) S lf_X5_13 rfl (m_dec e5_fillTurned 14 rfl) g1 ?_
    refine ms_iconst (pc := 25) S (m_dec e5_fillTurned 15 rfl) ?_
    refine ms_isub (pc := 26) S (m_dec e5_fillTurned 16 rfl) ?_
    refine ms_iload_n (pc := 27) S 2 rfl rfl (m_dec e5_fillTurned 17 rfl) ?_
    refine ms_isub (pc := 28) S (m_dec e5_fillTurned 18 rfl) ?_
    refine ms_grd fun g3 => ?_
    refine ms_callVi (pc := 29) S hF (vals := [m_i (((m_g h v0 1) - 1) - v2)]) (st := [m_i v2, m_r v0]) (hc := vw_5) (hci := by decide) (hcy := rfl) (ht := g3) (hC := (k5_get _ _ v1 (((m_g h v0 1) - 1) - v2) h)) (hM := lm_X5_23) (hfr := (Nat.le_trans (by decide) hFn)) (hstk := rfl) (hcat := Nat.le_of_ble_eq_true rfl) (hd := (m_dec e5_fillTurned 19 rfl)) (k1 := fun r5 h4 => ?_)
    refine ms_grd fun g6 => ?_
    refine ms_callVv (pc := 32) S hF (vals := [m_i v2, m_i r5]) (st := []) (hc := vw_5) (hci := by decide) (hcy := rfl) (ht := g6) (hC := (k5_set _ _ v0 v2 r5 h4)) (hM := lm_X5_27) (hfr := (Nat.le_trans (by decide) hFn)) (hstk := rfl) (hcat := Nat.le_of_ble_eq_true rfl) (hd := (m_dec e5_fillTurned 20 rfl)) (k1 := fun h7 => ?_)
    refine ms_iinc (pc := 35) S (L' := [(0, m_r v0), (1, m_r v1), (2, m_i (v2 + 1))]) 2 rfl [1, 2, 0] rfl (m_lt hN rfl) (m_dec e5_fillTurned 21 rfl) ?_
    refine ms_goto (pc := 38) S (m_dec e5_fillTurned 22 rfl) rfl ?_
    exact ih (v2 + 1) h7
  · exact ms_ret (pc := 41) E (m_dec e5_fillTurned 23 rfl) rfl
set_option maxHeartbeats 4000000 in
set_option maxRecDepth 20000 in
theorem s5_fillTurned {Y : m_Y Unit} (S : m_Std Y RX5 cX5_fillTurned) (E : m_End Y cX5_fillTurned .return_ (fun _ => [])) {F : Nat} (hF : m_Rm Y F) (hFn : 3 ≤ F) (hN : Y.2.2.2.1 = 3) (v0 v1 : Int) (h : m_H) : m_Sim Y 0 [(0, m_r v0), (1, m_r v1)] [] h (t5_fillTurned v0 v1 h) := by
  unfold t5_fillTurned
  refine ms_aload_n (pc := 0) S 0 rfl rfl (m_dec e5_fillTurned 0 rfl) ?_
  refine ms_aload_n (pc := 1) S 1 rfl rfl (m_dec e5_fillTurned 1 rfl) ?_
  refine ms_grd fun g1 => ?_
  refine ms_getf (pc := 2) S lf_X5_13 rfl (m_dec e5_fillTurned 2 rfl) g1 ?_
  refine ms_grd fun g2 => ?_
  refine ms_callVv (pc := 5) S hF (vals := [m_i (m_g h v1 1)]) (st := []) (hc := vw_5) (hci := by decide) (hcy := rfl) (ht := g2) (hC := (k5_resize _ _ v0 (m_g h v1 1) h)) (hM := lm_X5_31) (hfr := (Nat.le_trans (by decide) hFn)) (hstk := rfl) (hcat := Nat.le_of_ble_eq_true rfl) (hd := (m_dec e5_fillTurned 3 rfl)) (k1 := fun h3 => ?_)
  refine ms_iconst (pc := 8) S (m_dec e5_fillTurned 4 rfl) ?_
  refine ms_istore_n (pc := 9) S (L' := [(0, m_r v0), (1, m_r v1), (2, m_i 0)]) [1, 2, 0] rfl rfl (m_lt hN rfl) (m_dec e5_fillTurned 5 rfl) ?_
  exact s5_fillTurned_c10 S E hF hFn hN v0 v1 0 h3
theorem k5_fillTurned (l : Launch) (d : m_D) (v0 v1 : Int) (h : m_H) : m_Con l d yX5_fillTurned cX5_fillTurned 3 none 3 (fun _ => []) [m_r v0, m_r v1] h (t5_fillTurned v0 v1 h) :=
  m_con2 (by decide +kernel) (Nat.le_of_ble_eq_true rfl) (fun Y hN hRm hr hI S hfin => s5_fillTurned S (m_end_v S hr hfin) hRm (Nat.le_refl _) hN v0 v1 h)
set_option maxRecDepth 100000 in
theorem e5_playedSize : ∀ q ∈ ([(0, .iload_n 1, 1), (1, .iconst 1, 1), (2, .if_icmp .lt 11, 3), (5, .aload_n 0, 1), (6, .getfield 13, 3), (9, .iconst 1, 1), (10, .if_icmp .ge 7, 3), (13, .iconst 0, 1), (14, .goto 15, 3), (17, .aload_n 0, 1), (18, .getfield 13, 3), (21, .iconst 1, 1), (22, .isub, 1), (23, .iload_n 2, 1), (24, .imul, 1), (25, .iload_n 1, 1), (26, .idiv, 1), (27, .iconst 1, 1), (28, .iadd, 1), (29, .ireturn, 1)] : List (Nat × Instr × Nat)), decode cX5_playedSize q.1 = .ok q.2 := by decide +kernel
set_option maxHeartbeats 4000000 in
set_option maxRecDepth 20000 in
theorem s5_playedSize {Y : m_Y Int} (S : m_Std Y RX5 cX5_playedSize) (E : m_End Y cX5_playedSize .ireturn (fun r => [m_i r])) {F : Nat} (hF : m_Rm Y F) (hFn : 0 ≤ F) (hN : Y.2.2.2.1 = 3) (v0 v1 v2 : Int) (h : m_H) : m_Sim Y 0 [(0, m_r v0), (1, m_i v1), (2, m_i v2)] [] h (t5_playedSize v0 v1 v2 h) := by
  unfold t5_playedSize
  refine ms_iload_n (pc := 0) S 1 rfl rfl (m_dec e5_playedSize 0 rfl) ?_
  refine ms_iconst (pc := 1) S (m_dec e5_playedSize 1 rfl) ?_
  refine ms_icmp_lt (pc := 2) S (m_dec e5_playedSize 2 rfl) rfl (fun q1 => ?_) (fun q1 => ?_)
  · refine ms_iconst (pc := 13) S (m_dec e5_playedSize 7 rfl) ?_
    refine ms_goto (pc := 14) S (m_dec e5_playedSize 8 rfl) rfl ?_
    exact ms_ret (pc := 29) E (m_dec e5_playedSize 19 rfl) rfl
  · refine ms_aload_n (pc := 5) S 0 rfl rfl (m_dec e5_playedSize 3 rfl) ?_
    refine ms_grd fun g2 => ?_
    refine ms_getf (pc := 6) S lf_X5_13 rfl (m_dec e5_playedSize 4 rfl) g2 ?_
    refine ms_iconst (pc := 9) S (m_dec e5_playedSize 5 rfl) ?_
    refine ms_icmp_ge (pc := 10) S (m_dec e5_playedSize 6 rfl) rfl (fun q3 => ?_) (fun q3 => ?_)
    · refine ms_iconst (pc := 13) S (m_dec e5_playedSize 7 rfl) ?_
      refine ms_goto (pc := 14) S (m_dec e5_playedSize 8 rfl) rfl ?_
      exact ms_ret (pc := 29) E (m_dec e5_playedSize 19 rfl) rfl
    · refine ms_aload_n (pc := 17) S 0 rfl rfl (m_dec e5_playedSize 9 rfl) ?_
      refine ms_getf (pc := 18) S lf_X5_13 rfl (m_dec e5_playedSize 10 rfl) g2 ?_
      refine ms_iconst (pc := 21) S (m_dec e5_playedSize 11 rfl) ?_
      refine ms_isub (pc := 22) S (m_dec e5_playedSize 12 rfl) ?_
      refine ms_iload_n (pc := 23) S 2 rfl rfl (m_dec e5_playedSize 13 rfl) ?_
      refine ms_imul (pc := 24) S (m_dec e5_playedSize 14 rfl) ?_
      refine ms_iload_n (pc := 25) S 1 rfl rfl (m_dec e5_playedSize 15 rfl) ?_
      refine ms_idiv (pc := 26) S (m_dec e5_playedSize 16 rfl) ?_
      refine ms_iconst (pc := 27) S (m_dec e5_playedSize 17 rfl) ?_
      refine ms_iadd (pc := 28) S (m_dec e5_playedSize 18 rfl) ?_
      exact ms_ret (pc := 29) E (m_dec e5_playedSize 19 rfl) rfl
theorem k5_playedSize (l : Launch) (d : m_D) (v0 v1 v2 : Int) (h : m_H) : m_Con l d yX5_playedSize cX5_playedSize 3 (some .int) 0 (fun r => [m_i r]) [m_r v0, m_i v1, m_i v2] h (t5_playedSize v0 v1 v2 h) :=
  m_con2 (by decide +kernel) (Nat.le_of_ble_eq_true rfl) (fun Y hN hRm hr hI S hfin => s5_playedSize S (m_end_i S hr hfin) hRm (Nat.le_refl _) hN v0 v1 v2 h)
set_option maxRecDepth 100000 in
theorem e5_between : ∀ q ∈ ([(0, .iload_n 2, 1), (1, .iconst 1, 1), (2, .if_icmp .ge 5, 3), (5, .iconst 0, 1), (6, .ireturn, 1), (7, .iload_n 1, 1), (8, .iload_n 2, 1), (9, .idiv, 1), (10, .istore_n 3, 1), (11, .aload_n 0, 1), (12, .iload_n 3, 1), (13, .invokevirtual 23, 3), (16, .istore 4, 2), (18, .iload_n 3, 1), (19, .iconst 1, 1), (20, .iadd, 1), (21, .aload_n 0, 1), (22, .getfield 13, 3), (25, .if_icmp .lt 6, 3), (28, .iload 4, 2), (30, .ireturn, 1), (31, .iload 4, 2), (33, .iload_n 1, 1), (34, .iload_n 2, 1), (35, .irem, 1), (36, .aload_n 0, 1), (37, .iload_n 3, 1), (38, .iconst 1, 1), (39, .iadd, 1), (40, .invokevirtual 23, 3), (43, .iload 4, 2), (45, .isub, 1), (46, .imul, 1), (47, .iload_n 2, 1), (48, .idiv, 1), (49, .iadd, 1), (50, .ireturn, 1)] : List (Nat × Instr × Nat)), decode cX5_between q.1 = .ok q.2 := by decide +kernel
set_option maxHeartbeats 4000000 in
set_option maxRecDepth 20000 in
theorem s5_between {Y : m_Y Int} (S : m_Std Y RX5 cX5_between) (E : m_End Y cX5_between .ireturn (fun r => [m_i r])) {F : Nat} (hF : m_Rm Y F) (hFn : 1 ≤ F) (hN : Y.2.2.2.1 = 5) (v0 v1 v2 : Int) (h : m_H) : m_Sim Y 0 [(0, m_r v0), (1, m_i v1), (2, m_i v2)] [] h (t5_between v0 v1 v2 h) := by
  unfold t5_between
  refine ms_iload_n (pc := 0) S 2 rfl rfl (m_dec e5_between 0 rfl) ?_
  refine ms_iconst (pc := 1) S (m_dec e5_between 1 rfl) ?_
  refine ms_icmp_ge (pc := 2) S (m_dec e5_between 2 rfl) rfl (fun q1 => ?_) (fun q1 => ?_)
  · refine ms_iconst (pc := 5) S (m_dec e5_between 3 rfl) ?_
    exact ms_ret (pc := 6) E (m_dec e5_between 4 rfl) rfl
  · refine ms_iload_n (pc := 7) S 1 rfl rfl (m_dec e5_between 5 rfl) ?_
    refine ms_iload_n (pc := 8) S 2 rfl rfl (m_dec e5_between 6 rfl) ?_
    refine ms_idiv (pc := 9) S (m_dec e5_between 7 rfl) ?_
    refine ms_nm (st := fun x2 => [m_i x2]) fun x2 => ?_
    refine ms_istore_n (pc := 10) S (L' := [(0, m_r v0), (1, m_i v1), (2, m_i v2), (3, m_i x2)]) [1, 2, 3, 0] rfl rfl (m_lt hN rfl) (m_dec e5_between 8 rfl) ?_
    refine ms_aload_n (pc := 11) S 0 rfl rfl (m_dec e5_between 9 rfl) ?_
    refine ms_iload_n (pc := 12) S 3 rfl rfl (m_dec e5_between 10 rfl) ?_
    refine ms_grd fun g3 => ?_
    refine ms_callVi (pc := 13) S hF (vals := [m_i x2]) (st := []) (hc := vw_5) (hci := by decide) (hcy := rfl) (ht := g3) (hC := (k5_get _ _ v0 x2 h)) (hM := lm_X5_23) (hfr := (Nat.le_trans (by decide) hFn)) (hstk := rfl) (hcat := Nat.le_of_ble_eq_true rfl) (hd := (m_dec e5_between 11 rfl)) (k1 := fun r5 h4 => ?_)
    refine ms_istore (pc := 16) S (L' := [(0, m_r v0), (1, m_i v1), (2, m_i v2), (3, m_i x2), (4, m_i r5)]) [1, 2, 3, 4, 0] rfl (m_lt hN rfl) (m_dec e5_between 12 rfl) ?_
    refine ms_iload_n (pc := 18) S 3 rfl rfl (m_dec e5_between 13 rfl) ?_
    refine ms_iconst (pc := 19) S (m_dec e5_between 14 rfl) ?_
    refine ms_iadd (pc := 20) S (m_dec e5_between 15 rfl) ?_
    refine ms_aload_n (pc := 21) S 0 rfl rfl (m_dec e5_between 16 rfl) ?_
    refine ms_grd fun g6 => ?_
    refine ms_getf (pc := 22) S lf_X5_13 rfl (m_dec e5_between 17 rfl) g6 ?_
    refine ms_icmp_lt (pc := 25) S (m_dec e5_between 18 rfl) rfl (fun q7 => ?_) (fun q7 => ?_)
    · refine ms_iload (pc := 31) S 4 rfl (m_dec e5_between 21 rfl) ?_
      refine ms_iload_n (pc := 33) S 1 rfl rfl (m_dec e5_between 22 rfl) ?_
      refine ms_iload_n (pc := 34) S 2 rfl rfl (m_dec e5_between 23 rfl) ?_
      refine ms_irem (pc := 35) S (m_dec e5_between 24 rfl) ?_
      refine ms_aload_n (pc := 36) S 0 rfl rfl (m_dec e5_between 25 rfl) ?_
      refine ms_iload_n (pc := 37) S 3 rfl rfl (m_dec e5_between 26 rfl) ?_
      refine ms_iconst (pc := 38) S (m_dec e5_between 27 rfl) ?_
      refine ms_iadd (pc := 39) S (m_dec e5_between 28 rfl) ?_
      refine ms_callVi (pc := 40) S hF (vals := [m_i (x2 + 1)]) (st := [m_i (Int.tmod (m_w v1) (m_w v2)), m_i r5]) (hc := vw_5) (hci := by decide) (hcy := rfl) (ht := g6) (hC := (k5_get _ _ v0 (x2 + 1) h4)) (hM := lm_X5_23) (hfr := (Nat.le_trans (by decide) hFn)) (hstk := rfl) (hcat := Nat.le_of_ble_eq_true rfl) (hd := (m_dec e5_between 29 rfl)) (k1 := fun r9 h8 => ?_)
      refine ms_iload (pc := 43) S 4 rfl (m_dec e5_between 30 rfl) ?_
      refine ms_isub (pc := 45) S (m_dec e5_between 31 rfl) ?_
      refine ms_imul (pc := 46) S (m_dec e5_between 32 rfl) ?_
      refine ms_iload_n (pc := 47) S 2 rfl rfl (m_dec e5_between 33 rfl) ?_
      refine ms_idiv (pc := 48) S (m_dec e5_between 34 rfl) ?_
      refine ms_iadd (pc := 49) S (m_dec e5_between 35 rfl) ?_
      exact ms_ret (pc := 50) E (m_dec e5_between 36 rfl) rfl
    · refine ms_iload (pc := 28) S 4 rfl (m_dec e5_between 19 rfl) ?_
      exact ms_ret (pc := 30) E (m_dec e5_between 20 rfl) rfl
theorem k5_between (l : Launch) (d : m_D) (v0 v1 v2 : Int) (h : m_H) : m_Con l d yX5_between cX5_between 5 (some .int) 1 (fun r => [m_i r]) [m_r v0, m_i v1, m_i v2] h (t5_between v0 v1 v2 h) :=
  m_con2 (by decide +kernel) (Nat.le_of_ble_eq_true rfl) (fun Y hN hRm hr hI S hfin => s5_between S (m_end_i S hr hfin) hRm (Nat.le_refl _) hN v0 v1 v2 h)
set_option maxRecDepth 100000 in
theorem e5_fillPlayed : ∀ q ∈ ([(0, .aload_n 1, 1), (1, .iload_n 2, 1), (2, .iload_n 3, 1), (3, .invokevirtual 57, 3), (6, .istore 4, 2), (8, .aload_n 0, 1), (9, .iload 4, 2), (11, .invokevirtual 31, 3), (14, .iconst 0, 1), (15, .istore 5, 2), (17, .iload 5, 2), (19, .iload 4, 2), (21, .if_icmp .ge 24, 3), (24, .aload_n 0, 1), (25, .iload 5, 2), (27, .aload_n 1, 1), (28, .iload 5, 2), (30, .iload_n 2, 1), (31, .imul, 1), (32, .iload_n 3, 1), (33, .invokevirtual 60, 3), (36, .invokevirtual 27, 3), (39, .iinc 5 1, 3), (42, .goto (-25), 3), (45, .return_, 1)] : List (Nat × Instr × Nat)), decode cX5_fillPlayed q.1 = .ok q.2 := by decide +kernel
set_option maxHeartbeats 4000000 in
set_option maxRecDepth 20000 in
theorem s5_fillPlayed_c17 {Y : m_Y Unit} (S : m_Std Y RX5 cX5_fillPlayed) (E : m_End Y cX5_fillPlayed .return_ (fun _ => [])) {F : Nat} (hF : m_Rm Y F) (hFn : 3 ≤ F) (hN : Y.2.2.2.1 = 6) : ∀ (v0 v1 v2 v3 v4 v5 : Int) (h : m_H), m_Sim Y 17 [(0, m_r v0), (1, m_r v1), (2, m_i v2), (3, m_i v3), (4, m_i v4), (5, m_i v5)] [] h (t5_fillPlayed_c17 v0 v1 v2 v3 v4 v5 h) := by
  intro v0 v1 v2 v3 v4 v5 h
  refine ms_all fun r e => ?_
  refine t5_fillPlayed_c17.partial_correctness v0 v1 v2 v3 v4 (motive := fun v5 h r => m_Sim Y 17 [(0, m_r v0), (1, m_r v1), (2, m_i v2), (3, m_i v3), (4, m_i v4), (5, m_i v5)] [] h (some r)) ?_ v5 h r e
  intro f ih v5 h r e
  have ih : ∀ (v5 : Int) (h : m_H), m_Sim Y 17 [(0, m_r v0), (1, m_r v1), (2, m_i v2), (3, m_i v3), (4, m_i v4), (5, m_i v5)] [] h (f v5 h ) := fun v5 h  => ms_all fun r e => ih v5 h r e
  refine ms_use ?_ e
  clear e r
  refine ms_iload (pc := 17) S 5 rfl (m_dec e5_fillPlayed 10 rfl) ?_
  refine ms_iload (pc := 19) S 4 rfl (m_dec e5_fillPlayed 11 rfl) ?_
  refine ms_icmp_ge (pc := 21) S (m_dec e5_fillPlayed 12 rfl) rfl (fun q1 => ?_) (fun q1 => ?_)
  · refine ms_aload_n (pc := 24) S 0 rfl rfl (m_dec e5_fillPlayed 13 rfl) ?_
    refine ms_iload (pc := 25) S 5 rfl (m_dec e5_fillPlayed 14 rfl) ?_
    refine ms_aload_n (pc := 27) S 1 rfl rfl (m_dec e5_fillPlayed 15 rfl) ?_
    refine ms_iload (pc := 28) S 5 rfl (m_dec e5_fillPlayed 16 rfl) ?_
    refine ms_iload_n (pc := 30) S 2 rfl rfl (m_dec e5_fillPlayed 17 rfl) ?_
    refine ms_imul (pc := 31) S (m_dec e5_fillPlayed 18 rfl) ?_
    refine ms_iload_n (pc := 32) S 3 rfl rfl (m_dec e5_fillPlayed 19 rfl) ?_
    refine ms_grd fun g2 => ?_
    refine ms_callVi (pc := 33) S hF (vals := [m_i (v5 * v2), m_i v3]) (st := [m_i v5, m_r v0]) (hc := vw_5) (hci := by decide) (hcy := rfl) (ht := g2) (hC := (k5_between _ _ v1 (v5 * v2) v3 h)) (hM := lm_X5_60) (hfr := (Nat.le_trans (by decide) hFn)) (hstk := rfl) (hcat := Nat.le_of_ble_eq_true rfl) (hd := (m_dec e5_fillPlayed 20 rfl)) (k1 := fun r4 h3 => ?_)
    refine ms_grd fun g5 => ?_
    refine ms_callVv (pc := 36) S hF (vals := [m_i v5, m_i r4]) (st := []) (hc := vw_5) (hci := by decide) (hcy := rfl) (ht := g5) (hC := (k5_set _ _ v0 v5 r4 h3)) (hM := lm_X5_27) (hfr := (Nat.le_trans (by decide) hFn)) (hstk := rfl) (hcat := Nat.le_of_ble_eq_true rfl) (hd := (m_dec e5_fillPlayed 21 rfl)) (k1 := fun h6 => ?_)
    refine ms_iinc (pc := 39) S (L' := [(0, m_r v0), (1, m_r v1), (2, m_i v2), (3, m_i v3), (4, m_i v4), (5, m_i (v5 + 1))]) 5 rfl [1, 2, 3, 4, 5, 0] rfl (m_lt hN rfl) (m_dec e5_fillPlayed 22 rfl) ?_
    refine ms_goto (pc := 42) S (m_dec e5_fillPlayed 23 rfl) rfl ?_
    exact ih (v5 + 1) h6
  · exact ms_ret (pc := 45) E (m_dec e5_fillPlayed 24 rfl) rfl
set_option maxHeartbeats 4000000 in
set_option maxRecDepth 20000 in
theorem s5_fillPlayed {Y : m_Y Unit} (S : m_Std Y RX5 cX5_fillPlayed) (E : m_End Y cX5_fillPlayed .return_ (fun _ => [])) {F : Nat} (hF : m_Rm Y F) (hFn : 3 ≤ F) (hN : Y.2.2.2.1 = 6) (v0 v1 v2 v3 : Int) (h : m_H) : m_Sim Y 0 [(0, m_r v0), (1, m_r v1), (2, m_i v2), (3, m_i v3)] [] h (t5_fillPlayed v0 v1 v2 v3 h) := by
  unfold t5_fillPlayed
  refine ms_aload_n (pc := 0) S 1 rfl rfl (m_dec e5_fillPlayed 0 rfl) ?_
  refine ms_iload_n (pc := 1) S 2 rfl rfl (m_dec e5_fillPlayed 1 rfl) ?_
  refine ms_iload_n (pc := 2) S 3 rfl rfl (m_dec e5_fillPlayed 2 rfl) ?_
  refine ms_grd fun g1 => ?_
  refine ms_callVi (pc := 3) S hF (vals := [m_i v2, m_i v3]) (st := []) (hc := vw_5) (hci := by decide) (hcy := rfl) (ht := g1) (hC := (k5_playedSize _ _ v1 v2 v3 h)) (hM := lm_X5_57) (hfr := (Nat.le_trans (by decide) hFn)) (hstk := rfl) (hcat := Nat.le_of_ble_eq_true rfl) (hd := (m_dec e5_fillPlayed 3 rfl)) (k1 := fun r3 h2 => ?_)
  refine ms_istore (pc := 6) S (L' := [(0, m_r v0), (1, m_r v1), (2, m_i v2), (3, m_i v3), (4, m_i r3)]) [1, 2, 3, 4, 0] rfl (m_lt hN rfl) (m_dec e5_fillPlayed 4 rfl) ?_
  refine ms_aload_n (pc := 8) S 0 rfl rfl (m_dec e5_fillPlayed 5 rfl) ?_
  refine ms_iload (pc := 9) S 4 rfl (m_dec e5_fillPlayed 6 rfl) ?_
  refine ms_grd fun g4 => ?_
  refine ms_callVv (pc := 11) S hF (vals := [m_i r3]) (st := []) (hc := vw_5) (hci := by decide) (hcy := rfl) (ht := g4) (hC := (k5_resize _ _ v0 r3 h2)) (hM := lm_X5_31) (hfr := (Nat.le_trans (by decide) hFn)) (hstk := rfl) (hcat := Nat.le_of_ble_eq_true rfl) (hd := (m_dec e5_fillPlayed 7 rfl)) (k1 := fun h5 => ?_)
  refine ms_iconst (pc := 14) S (m_dec e5_fillPlayed 8 rfl) ?_
  refine ms_istore (pc := 15) S (L' := [(0, m_r v0), (1, m_r v1), (2, m_i v2), (3, m_i v3), (4, m_i r3), (5, m_i 0)]) [1, 2, 3, 4, 5, 0] rfl (m_lt hN rfl) (m_dec e5_fillPlayed 9 rfl) ?_
  exact s5_fillPlayed_c17 S E hF hFn hN v0 v1 v2 v3 r3 0 h5
theorem k5_fillPlayed (l : Launch) (d : m_D) (v0 v1 v2 v3 : Int) (h : m_H) : m_Con l d yX5_fillPlayed cX5_fillPlayed 6 none 3 (fun _ => []) [m_r v0, m_r v1, m_i v2, m_i v3] h (t5_fillPlayed v0 v1 v2 v3 h) :=
  m_con2 (by decide +kernel) (Nat.le_of_ble_eq_true rfl) (fun Y hN hRm hr hI S hfin => s5_fillPlayed S (m_end_v S hr hfin) hRm (Nat.le_refl _) hN v0 v1 v2 v3 h)
set_option maxRecDepth 100000 in
theorem e5_size : ∀ q ∈ ([(0, .aload_n 0, 1), (1, .getfield 13, 3), (4, .ireturn, 1)] : List (Nat × Instr × Nat)), decode cX5_size q.1 = .ok q.2 := by decide +kernel
set_option maxHeartbeats 4000000 in
set_option maxRecDepth 20000 in
theorem s5_size {Y : m_Y Int} (S : m_Std Y RX5 cX5_size) (E : m_End Y cX5_size .ireturn (fun r => [m_i r])) {F : Nat} (hF : m_Rm Y F) (hFn : 0 ≤ F) (hN : Y.2.2.2.1 = 1) (v0 : Int) (h : m_H) : m_Sim Y 0 [(0, m_r v0)] [] h (t5_size v0 h) := by
  unfold t5_size
  refine ms_aload_n (pc := 0) S 0 rfl rfl (m_dec e5_size 0 rfl) ?_
  refine ms_grd fun g1 => ?_
  refine ms_getf (pc := 1) S lf_X5_13 rfl (m_dec e5_size 1 rfl) g1 ?_
  exact ms_ret (pc := 4) E (m_dec e5_size 2 rfl) rfl
theorem k5_size (l : Launch) (d : m_D) (v0 : Int) (h : m_H) : m_Con l d yX5_size cX5_size 1 (some .int) 0 (fun r => [m_i r]) [m_r v0] h (t5_size v0 h) :=
  m_con2 (by decide +kernel) (Nat.le_of_ble_eq_true rfl) (fun Y hN hRm hr hI S hfin => s5_size S (m_end_i S hr hfin) hRm (Nat.le_refl _) hN v0 h)
set_option maxRecDepth 100000 in
theorem e5_fillPart : ∀ q ∈ ([(0, .aload_n 0, 1), (1, .iload_n 3, 1), (2, .invokevirtual 31, 3), (5, .iconst 0, 1), (6, .istore 4, 2), (8, .iload 4, 2), (10, .iload_n 3, 1), (11, .if_icmp .ge 23, 3), (14, .aload_n 0, 1), (15, .iload 4, 2), (17, .aload_n 1, 1), (18, .iload_n 2, 1), (19, .iload 4, 2), (21, .iadd, 1), (22, .invokevirtual 23, 3), (25, .invokevirtual 27, 3), (28, .iinc 4 1, 3), (31, .goto (-23), 3), (34, .return_, 1)] : List (Nat × Instr × Nat)), decode cX5_fillPart q.1 = .ok q.2 := by decide +kernel
set_option maxHeartbeats 4000000 in
set_option maxRecDepth 20000 in
theorem s5_fillPart_c8 {Y : m_Y Unit} (S : m_Std Y RX5 cX5_fillPart) (E : m_End Y cX5_fillPart .return_ (fun _ => [])) {F : Nat} (hF : m_Rm Y F) (hFn : 3 ≤ F) (hN : Y.2.2.2.1 = 5) : ∀ (v0 v1 v2 v3 v4 : Int) (h : m_H), m_Sim Y 8 [(0, m_r v0), (1, m_r v1), (2, m_i v2), (3, m_i v3), (4, m_i v4)] [] h (t5_fillPart_c8 v0 v1 v2 v3 v4 h) := by
  intro v0 v1 v2 v3 v4 h
  refine ms_all fun r e => ?_
  refine t5_fillPart_c8.partial_correctness v0 v1 v2 v3 (motive := fun v4 h r => m_Sim Y 8 [(0, m_r v0), (1, m_r v1), (2, m_i v2), (3, m_i v3), (4, m_i v4)] [] h (some r)) ?_ v4 h r e
  intro f ih v4 h r e
  have ih : ∀ (v4 : Int) (h : m_H), m_Sim Y 8 [(0, m_r v0), (1, m_r v1), (2, m_i v2), (3, m_i v3), (4, m_i v4)] [] h (f v4 h ) := fun v4 h  => ms_all fun r e => ih v4 h r e
  refine ms_use ?_ e
  clear e r
  refine ms_iload (pc := 8) S 4 rfl (m_dec e5_fillPart 5 rfl) ?_
  refine ms_iload_n (pc := 10) S 3 rfl rfl (m_dec e5_fillPart 6 rfl) ?_
  refine ms_icmp_ge (pc := 11) S (m_dec e5_fillPart 7 rfl) rfl (fun q1 => ?_) (fun q1 => ?_)
  · refine ms_aload_n (pc := 14) S 0 rfl rfl (m_dec e5_fillPart 8 rfl) ?_
    refine ms_iload (pc := 15) S 4 rfl (m_dec e5_fillPart 9 rfl) ?_
    refine ms_aload_n (pc := 17) S 1 rfl rfl (m_dec e5_fillPart 10 rfl) ?_
    refine ms_iload_n (pc := 18) S 2 rfl rfl (m_dec e5_fillPart 11 rfl) ?_
    refine ms_iload (pc := 19) S 4 rfl (m_dec e5_fillPart 12 rfl) ?_
    refine ms_iadd (pc := 21) S (m_dec e5_fillPart 13 rfl) ?_
    refine ms_grd fun g2 => ?_
    refine ms_callVi (pc := 22) S hF (vals := [m_i (v2 + v4)]) (st := [m_i v4, m_r v0]) (hc := vw_5) (hci := by decide) (hcy := rfl) (ht := g2) (hC := (k5_get _ _ v1 (v2 + v4) h)) (hM := lm_X5_23) (hfr := (Nat.le_trans (by decide) hFn)) (hstk := rfl) (hcat := Nat.le_of_ble_eq_true rfl) (hd := (m_dec e5_fillPart 14 rfl)) (k1 := fun r4 h3 => ?_)
    refine ms_grd fun g5 => ?_
    refine ms_callVv (pc := 25) S hF (vals := [m_i v4, m_i r4]) (st := []) (hc := vw_5) (hci := by decide) (hcy := rfl) (ht := g5) (hC := (k5_set _ _ v0 v4 r4 h3)) (hM := lm_X5_27) (hfr := (Nat.le_trans (by decide) hFn)) (hstk := rfl) (hcat := Nat.le_of_ble_eq_true rfl) (hd := (m_dec e5_fillPart 15 rfl)) (k1 := fun h6 => ?_)
    refine ms_iinc (pc := 28) S (L' := [(0, m_r v0), (1, m_r v1), (2, m_i v2), (3, m_i v3), (4, m_i (v4 + 1))]) 4 rfl [1, 2, 3, 4, 0] rfl (m_lt hN rfl) (m_dec e5_fillPart 16 rfl) ?_
    refine ms_goto (pc := 31) S (m_dec e5_fillPart 17 rfl) rfl ?_
    exact ih (v4 + 1) h6
  · exact ms_ret (pc := 34) E (m_dec e5_fillPart 18 rfl) rfl
set_option maxHeartbeats 4000000 in
set_option maxRecDepth 20000 in
theorem s5_fillPart {Y : m_Y Unit} (S : m_Std Y RX5 cX5_fillPart) (E : m_End Y cX5_fillPart .return_ (fun _ => [])) {F : Nat} (hF : m_Rm Y F) (hFn : 3 ≤ F) (hN : Y.2.2.2.1 = 5) (v0 v1 v2 v3 : Int) (h : m_H) : m_Sim Y 0 [(0, m_r v0), (1, m_r v1), (2, m_i v2), (3, m_i v3)] [] h (t5_fillPart v0 v1 v2 v3 h) := by
  unfold t5_fillPart
  refine ms_aload_n (pc := 0) S 0 rfl rfl (m_dec e5_fillPart 0 rfl) ?_
  refine ms_iload_n (pc := 1) S 3 rfl rfl (m_dec e5_fillPart 1 rfl) ?_
  refine ms_grd fun g1 => ?_
  refine ms_callVv (pc := 2) S hF (vals := [m_i v3]) (st := []) (hc := vw_5) (hci := by decide) (hcy := rfl) (ht := g1) (hC := (k5_resize _ _ v0 v3 h)) (hM := lm_X5_31) (hfr := (Nat.le_trans (by decide) hFn)) (hstk := rfl) (hcat := Nat.le_of_ble_eq_true rfl) (hd := (m_dec e5_fillPart 2 rfl)) (k1 := fun h2 => ?_)
  refine ms_iconst (pc := 5) S (m_dec e5_fillPart 3 rfl) ?_
  refine ms_istore (pc := 6) S (L' := [(0, m_r v0), (1, m_r v1), (2, m_i v2), (3, m_i v3), (4, m_i 0)]) [1, 2, 3, 4, 0] rfl (m_lt hN rfl) (m_dec e5_fillPart 4 rfl) ?_
  exact s5_fillPart_c8 S E hF hFn hN v0 v1 v2 v3 0 h2
theorem k5_fillPart (l : Launch) (d : m_D) (v0 v1 v2 v3 : Int) (h : m_H) : m_Con l d yX5_fillPart cX5_fillPart 5 none 3 (fun _ => []) [m_r v0, m_r v1, m_i v2, m_i v3] h (t5_fillPart v0 v1 v2 v3 h) :=
  m_con2 (by decide +kernel) (Nat.le_of_ble_eq_true rfl) (fun Y hN hRm hr hI S hfin => s5_fillPart S (m_end_v S hr hfin) hRm (Nat.le_refl _) hN v0 v1 v2 v3 h)
set_option maxRecDepth 100000 in
theorem e1_fillWay : ∀ q ∈ ([(0, .iload_n 2, 1), (1, .tableswitch 64 1 3 #[27, 38, 51], 27), (28, .aload_n 0, 1), (29, .getfield 12, 3), (32, .aload_n 1, 1), (33, .invokevirtual 54, 3), (36, .goto 42, 3), (39, .aload_n 0, 1), (40, .getfield 12, 3), (43, .aload_n 1, 1), (44, .iconst 1, 1), (45, .iconst 2, 1), (46, .invokevirtual 58, 3), (49, .goto 29, 3), (52, .aload_n 0, 1), (53, .getfield 12, 3), (56, .aload_n 1, 1), (57, .iconst 2, 1), (58, .iconst 1, 1), (59, .invokevirtual 58, 3), (62, .goto 16, 3), (65, .aload_n 0, 1), (66, .getfield 12, 3), (69, .aload_n 1, 1), (70, .iconst 0, 1), (71, .aload_n 1, 1), (72, .invokevirtual 62, 3), (75, .invokevirtual 66, 3), (78, .return_, 1)] : List (Nat × Instr × Nat)), decode cX1_fillWay q.1 = .ok q.2 := by decide +kernel
set_option maxHeartbeats 4000000 in
set_option maxRecDepth 20000 in
theorem s1_fillWay {Y : m_Y Unit} (S : m_Std Y RX1 cX1_fillWay) (E : m_End Y cX1_fillWay .return_ (fun _ => [])) {F : Nat} (hF : m_Rm Y F) (hFn : 4 ≤ F) (hN : Y.2.2.2.1 = 3) (v0 v1 v2 : Int) (h : m_H) : m_Sim Y 0 [(0, m_r v0), (1, m_r v1), (2, m_i v2)] [] h (t1_fillWay v0 v1 v2 h) := by
  unfold t1_fillWay
  refine ms_iload_n (pc := 0) S 2 rfl rfl (m_dec e1_fillWay 0 rfl) ?_
  refine ms_ite (fun q1 => ?_) (fun q1 => ?_)
  · refine ms_swIn (pc := 1) S (m_dec e1_fillWay 1 rfl) 1 q1 (by decide) (by decide) rfl rfl ?_
    refine ms_aload_n (pc := 28) S 0 rfl rfl (m_dec e1_fillWay 2 rfl) ?_
    refine ms_grd fun g2 => ?_
    refine ms_getf (pc := 29) S lf_X1_12 rfl (m_dec e1_fillWay 3 rfl) g2 ?_
    refine ms_aload_n (pc := 32) S 1 rfl rfl (m_dec e1_fillWay 4 rfl) ?_
    refine ms_grd fun g3 => ?_
    refine ms_callVv (pc := 33) S hF (vals := [m_r v1]) (st := []) (hc := vw_5) (hci := by decide) (hcy := rfl) (ht := g3) (hC := (k5_fillTurned _ _ (m_g h v0 2) v1 h)) (hM := lm_X1_54) (hfr := (Nat.le_trans (by decide) hFn)) (hstk := rfl) (hcat := Nat.le_of_ble_eq_true rfl) (hd := (m_dec e1_fillWay 5 rfl)) (k1 := fun h4 => ?_)
    refine ms_goto (pc := 36) S (m_dec e1_fillWay 6 rfl) rfl ?_
    exact ms_ret (pc := 78) E (m_dec e1_fillWay 28 rfl) rfl
  · refine ms_ite (fun q6 => ?_) (fun q6 => ?_)
    · refine ms_swIn (pc := 1) S (m_dec e1_fillWay 1 rfl) 2 q6 (by decide) (by decide) rfl rfl ?_
      refine ms_aload_n (pc := 39) S 0 rfl rfl (m_dec e1_fillWay 7 rfl) ?_
      refine ms_grd fun g7 => ?_
      refine ms_getf (pc := 40) S lf_X1_12 rfl (m_dec e1_fillWay 8 rfl) g7 ?_
      refine ms_aload_n (pc := 43) S 1 rfl rfl (m_dec e1_fillWay 9 rfl) ?_
      refine ms_iconst (pc := 44) S (m_dec e1_fillWay 10 rfl) ?_
      refine ms_iconst (pc := 45) S (m_dec e1_fillWay 11 rfl) ?_
      refine ms_grd fun g8 => ?_
      refine ms_callVv (pc := 46) S hF (vals := [m_r v1, m_i 1, m_i 2]) (st := []) (hc := vw_5) (hci := by decide) (hcy := rfl) (ht := g8) (hC := (k5_fillPlayed _ _ (m_g h v0 2) v1 1 2 h)) (hM := lm_X1_58) (hfr := (Nat.le_trans (by decide) hFn)) (hstk := rfl) (hcat := Nat.le_of_ble_eq_true rfl) (hd := (m_dec e1_fillWay 12 rfl)) (k1 := fun h9 => ?_)
      refine ms_goto (pc := 49) S (m_dec e1_fillWay 13 rfl) rfl ?_
      exact ms_ret (pc := 78) E (m_dec e1_fillWay 28 rfl) rfl
    · refine ms_ite (fun q11 => ?_) (fun q11 => ?_)
      · refine ms_swIn (pc := 1) S (m_dec e1_fillWay 1 rfl) 3 q11 (by decide) (by decide) rfl rfl ?_
        refine ms_aload_n (pc := 52) S 0 rfl rfl (m_dec e1_fillWay 14 rfl) ?_
        refine ms_grd fun g12 => ?_
        refine ms_getf (pc := 53) S lf_X1_12 rfl (m_dec e1_fillWay 15 rfl) g12 ?_
        refine ms_aload_n (pc := 56) S 1 rfl rfl (m_dec e1_fillWay 16 rfl) ?_
        refine ms_iconst (pc := 57) S (m_dec e1_fillWay 17 rfl) ?_
        refine ms_iconst (pc := 58) S (m_dec e1_fillWay 18 rfl) ?_
        refine ms_grd fun g13 => ?_
        refine ms_callVv (pc := 59) S hF (vals := [m_r v1, m_i 2, m_i 1]) (st := []) (hc := vw_5) (hci := by decide) (hcy := rfl) (ht := g13) (hC := (k5_fillPlayed _ _ (m_g h v0 2) v1 2 1 h)) (hM := lm_X1_58) (hfr := (Nat.le_trans (by decide) hFn)) (hstk := rfl) (hcat := Nat.le_of_ble_eq_true rfl) (hd := (m_dec e1_fillWay 19 rfl)) (k1 := fun h14 => ?_)
        refine ms_goto (pc := 62) S (m_dec e1_fillWay 20 rfl) rfl ?_
        exact ms_ret (pc := 78) E (m_dec e1_fillWay 28 rfl) rfl
      · refine ms_swOut (pc := 1) (a := v2) S (m_dec e1_fillWay 1 rfl) (by omega) rfl ?_
        refine ms_aload_n (pc := 65) S 0 rfl rfl (m_dec e1_fillWay 21 rfl) ?_
        refine ms_grd fun g16 => ?_
        refine ms_getf (pc := 66) S lf_X1_12 rfl (m_dec e1_fillWay 22 rfl) g16 ?_
        refine ms_aload_n (pc := 69) S 1 rfl rfl (m_dec e1_fillWay 23 rfl) ?_
        refine ms_iconst (pc := 70) S (m_dec e1_fillWay 24 rfl) ?_
        refine ms_aload_n (pc := 71) S 1 rfl rfl (m_dec e1_fillWay 25 rfl) ?_
        refine ms_grd fun g17 => ?_
        refine ms_callVi (pc := 72) S hF (vals := []) (st := [m_i 0, m_r v1, m_r (m_g h v0 2)]) (hc := vw_5) (hci := by decide) (hcy := rfl) (ht := g17) (hC := (k5_size _ _ v1 h)) (hM := lm_X1_62) (hfr := (Nat.le_trans (by decide) hFn)) (hstk := rfl) (hcat := Nat.le_of_ble_eq_true rfl) (hd := (m_dec e1_fillWay 26 rfl)) (k1 := fun r19 h18 => ?_)
        refine ms_grd fun g20 => ?_
        refine ms_callVv (pc := 75) S hF (vals := [m_r v1, m_i 0, m_i r19]) (st := []) (hc := vw_5) (hci := by decide) (hcy := rfl) (ht := g20) (hC := (k5_fillPart _ _ (m_g h v0 2) v1 0 r19 h18)) (hM := lm_X1_66) (hfr := (Nat.le_trans (by decide) hFn)) (hstk := rfl) (hcat := Nat.le_of_ble_eq_true rfl) (hd := (m_dec e1_fillWay 27 rfl)) (k1 := fun h21 => ?_)
        exact ms_ret (pc := 78) E (m_dec e1_fillWay 28 rfl) rfl
theorem k1_fillWay (l : Launch) (d : m_D) (v0 v1 v2 : Int) (h : m_H) : m_Con l d yX1_fillWay cX1_fillWay 3 none 4 (fun _ => []) [m_r v0, m_r v1, m_i v2] h (t1_fillWay v0 v1 v2 h) :=
  m_con2 (by decide +kernel) (Nat.le_of_ble_eq_true rfl) (fun Y hN hRm hr hI S hfin => s1_fillWay S (m_end_v S hr hfin) hRm (Nat.le_refl _) hN v0 v1 v2 h)
set_option maxRecDepth 100000 in
theorem e1_missAt : ∀ q ∈ ([(0, .iconst 0, 1), (1, .istore 5, 2), (3, .iconst 0, 1), (4, .istore 6, 2), (6, .iload 6, 2), (8, .iload_n 3, 1), (9, .if_icmp .ge 53, 3), (12, .aload_n 0, 1), (13, .getfield 36, 3), (16, .iload_n 2, 1), (17, .iload 6, 2), (19, .iadd, 1), (20, .invokevirtual 107, 3), (23, .aload_n 0, 1), (24, .getfield 12, 3), (27, .iload_n 1, 1), (28, .iload 6, 2), (30, .iadd, 1), (31, .invokevirtual 107, 3), (34, .isub, 1), (35, .invokestatic 111, 3), (38, .istore 7, 2), (40, .iload 7, 2), (42, .iload 4, 2), (44, .if_icmp .le 5, 3), (47, .iconst (-1), 1), (48, .ireturn, 1), (49, .iload 5, 2), (51, .iload 7, 2), (53, .iadd, 1), (54, .istore 5, 2), (56, .iinc 6 1, 3), (59, .goto (-53), 3), (62, .iload 5, 2), (64, .ireturn, 1)] : List (Nat × Instr × Nat)), decode cX1_missAt q.1 = .ok q.2 := by decide +kernel
set_option maxHeartbeats 4000000 in
set_option maxRecDepth 20000 in
theorem s1_missAt_c6 {Y : m_Y Int} (S : m_Std Y RX1 cX1_missAt) (E : m_End Y cX1_missAt .ireturn (fun r => [m_i r])) {F : Nat} (hF : m_Rm Y F) (hFn : 1 ≤ F) (hN : Y.2.2.2.1 = 8) : ∀ (v0 v1 v2 v3 v4 v5 v6 : Int) (h : m_H), m_Sim Y 6 [(0, m_r v0), (1, m_i v1), (2, m_i v2), (3, m_i v3), (4, m_i v4), (5, m_i v5), (6, m_i v6)] [] h (t1_missAt_c6 v0 v1 v2 v3 v4 v5 v6 h) := by
  intro v0 v1 v2 v3 v4 v5 v6 h
  refine ms_all fun r e => ?_
  refine t1_missAt_c6.partial_correctness v0 v1 v2 v3 v4 (motive := fun v5 v6 h r => m_Sim Y 6 [(0, m_r v0), (1, m_i v1), (2, m_i v2), (3, m_i v3), (4, m_i v4), (5, m_i v5), (6, m_i v6)] [] h (some r)) ?_ v5 v6 h r e
  intro f ih v5 v6 h r e
  have ih : ∀ (v5 v6 : Int) (h : m_H), m_Sim Y 6 [(0, m_r v0), (1, m_i v1), (2, m_i v2), (3, m_i v3), (4, m_i v4), (5, m_i v5), (6, m_i v6)] [] h (f v5 v6 h ) := fun v5 v6 h  => ms_all fun r e => ih v5 v6 h r e
  refine ms_use ?_ e
  clear e r
  refine ms_iload (pc := 6) S 6 rfl (m_dec e1_missAt 4 rfl) ?_
  refine ms_iload_n (pc := 8) S 3 rfl rfl (m_dec e1_missAt 5 rfl) ?_
  refine ms_icmp_ge (pc := 9) S (m_dec e1_missAt 6 rfl) rfl (fun q1 => ?_) (fun q1 => ?_)
  · refine ms_aload_n (pc := 12) S 0 rfl rfl (m_dec e1_missAt 7 rfl) ?_
    refine ms_grd fun g2 => ?_
    refine ms_getf (pc := 13) S lf_X1_36 rfl (m_dec e1_missAt 8 rfl) g2 ?_
    refine ms_iload_n (pc := 16) S 2 rfl rfl (m_dec e1_missAt 9 rfl) ?_
    refine ms_iload (pc := 17) S 6 rfl (m_dec e1_missAt 10 rfl) ?_
    refine ms_iadd (pc := 19) S (m_dec e1_missAt 11 rfl) ?_
    refine ms_grd fun g3 => ?_
    refine ms_callVi (pc := 20) S hF (vals := [m_i (v2 + v6)]) (st := []) (hc := vw_5) (hci := by decide) (hcy := rfl) (ht := g3) (hC := (k5_get _ _ (m_g h v0 1) (v2 + v6) h)) (hM := lm_X1_107) (hfr := (Nat.le_trans (by decide) hFn)) (hstk := rfl) (hcat := Nat.le_of_ble_eq_true rfl) (hd := (m_dec e1_missAt 12 rfl)) (k1 := fun r5 h4 => ?_)
    refine ms_aload_n (pc := 23) S 0 rfl rfl (m_dec e1_missAt 13 rfl) ?_
    refine ms_grd fun g6 => ?_
    refine ms_getf (pc := 24) S lf_X1_12 rfl (m_dec e1_missAt 14 rfl) g6 ?_
    refine ms_iload_n (pc := 27) S 1 rfl rfl (m_dec e1_missAt 15 rfl) ?_
    refine ms_iload (pc := 28) S 6 rfl (m_dec e1_missAt 16 rfl) ?_
    refine ms_iadd (pc := 30) S (m_dec e1_missAt 17 rfl) ?_
    refine ms_grd fun g7 => ?_
    refine ms_callVi (pc := 31) S hF (vals := [m_i (v1 + v6)]) (st := [m_i r5]) (hc := vw_5) (hci := by decide) (hcy := rfl) (ht := g7) (hC := (k5_get _ _ (m_g h4 v0 2) (v1 + v6) h4)) (hM := lm_X1_107) (hfr := (Nat.le_trans (by decide) hFn)) (hstk := rfl) (hcat := Nat.le_of_ble_eq_true rfl) (hd := (m_dec e1_missAt 18 rfl)) (k1 := fun r9 h8 => ?_)
    refine ms_isub (pc := 34) S (m_dec e1_missAt 19 rfl) ?_
    refine ms_mabs (pc := 35) S hF (Nat.le_trans (by decide) hFn) ⟨w_1379, w_670, w_136, w_671⟩ (Nat.le_of_ble_eq_true rfl) (m_dec e1_missAt 20 rfl) ?_
    refine ms_nm (st := fun x10 => [m_i x10]) fun x10 => ?_
    refine ms_istore (pc := 38) S (L' := [(0, m_r v0), (1, m_i v1), (2, m_i v2), (3, m_i v3), (4, m_i v4), (5, m_i v5), (6, m_i v6), (7, m_i x10)]) [1, 2, 3, 4, 5, 6, 7, 0] rfl (m_lt hN rfl) (m_dec e1_missAt 21 rfl) ?_
    refine ms_iload (pc := 40) S 7 rfl (m_dec e1_missAt 22 rfl) ?_
    refine ms_iload (pc := 42) S 4 rfl (m_dec e1_missAt 23 rfl) ?_
    refine ms_icmp_le (pc := 44) S (m_dec e1_missAt 24 rfl) rfl (fun q11 => ?_) (fun q11 => ?_)
    · refine ms_iconst (pc := 47) S (m_dec e1_missAt 25 rfl) ?_
      exact ms_ret (pc := 48) E (m_dec e1_missAt 26 rfl) rfl
    · refine ms_iload (pc := 49) S 5 rfl (m_dec e1_missAt 27 rfl) ?_
      refine ms_iload (pc := 51) S 7 rfl (m_dec e1_missAt 28 rfl) ?_
      refine ms_iadd (pc := 53) S (m_dec e1_missAt 29 rfl) ?_
      refine ms_nm (st := fun x12 => [m_i x12]) fun x12 => ?_
      refine ms_istore (pc := 54) S (L' := [(0, m_r v0), (1, m_i v1), (2, m_i v2), (3, m_i v3), (4, m_i v4), (5, m_i x12), (6, m_i v6)]) [1, 2, 3, 4, 5, 0, 6] rfl (m_lt hN rfl) (m_dec e1_missAt 30 rfl) ?_
      refine ms_iinc (pc := 56) S (L' := [(0, m_r v0), (1, m_i v1), (2, m_i v2), (3, m_i v3), (4, m_i v4), (5, m_i x12), (6, m_i (v6 + 1))]) 6 rfl [1, 2, 3, 4, 5, 6, 0] rfl (m_lt hN rfl) (m_dec e1_missAt 31 rfl) ?_
      refine ms_goto (pc := 59) S (m_dec e1_missAt 32 rfl) rfl ?_
      exact ih x12 (v6 + 1) h8
  · refine ms_iload (pc := 62) S 5 rfl (m_dec e1_missAt 33 rfl) ?_
    exact ms_ret (pc := 64) E (m_dec e1_missAt 34 rfl) rfl
set_option maxHeartbeats 4000000 in
set_option maxRecDepth 20000 in
theorem s1_missAt {Y : m_Y Int} (S : m_Std Y RX1 cX1_missAt) (E : m_End Y cX1_missAt .ireturn (fun r => [m_i r])) {F : Nat} (hF : m_Rm Y F) (hFn : 1 ≤ F) (hN : Y.2.2.2.1 = 8) (v0 v1 v2 v3 v4 : Int) (h : m_H) : m_Sim Y 0 [(0, m_r v0), (1, m_i v1), (2, m_i v2), (3, m_i v3), (4, m_i v4)] [] h (t1_missAt v0 v1 v2 v3 v4 h) := by
  unfold t1_missAt
  refine ms_iconst (pc := 0) S (m_dec e1_missAt 0 rfl) ?_
  refine ms_istore (pc := 1) S (L' := [(0, m_r v0), (1, m_i v1), (2, m_i v2), (3, m_i v3), (4, m_i v4), (5, m_i 0)]) [1, 2, 3, 4, 5, 0] rfl (m_lt hN rfl) (m_dec e1_missAt 1 rfl) ?_
  refine ms_iconst (pc := 3) S (m_dec e1_missAt 2 rfl) ?_
  refine ms_istore (pc := 4) S (L' := [(0, m_r v0), (1, m_i v1), (2, m_i v2), (3, m_i v3), (4, m_i v4), (5, m_i 0), (6, m_i 0)]) [1, 2, 3, 4, 5, 6, 0] rfl (m_lt hN rfl) (m_dec e1_missAt 3 rfl) ?_
  exact s1_missAt_c6 S E hF hFn hN v0 v1 v2 v3 v4 0 0 h
theorem k1_missAt (l : Launch) (d : m_D) (v0 v1 v2 v3 v4 : Int) (h : m_H) : m_Con l d yX1_missAt cX1_missAt 8 (some .int) 1 (fun r => [m_i r]) [m_r v0, m_i v1, m_i v2, m_i v3, m_i v4] h (t1_missAt v0 v1 v2 v3 v4 h) :=
  m_con2 (by decide +kernel) (Nat.le_of_ble_eq_true rfl) (fun Y hN hRm hr hI S hfin => s1_missAt S (m_end_i S hr hfin) hRm (Nat.le_refl _) hN v0 v1 v2 v3 v4 h)
set_option maxRecDepth 100000 in
theorem e1_searchWay : ∀ q ∈ ([(0, .iconst 0, 1), (1, .istore 6, 2), (3, .iload 6, 2), (5, .aload_n 0, 1), (6, .getfield 12, 3), (9, .invokevirtual 62, 3), (12, .iload 4, 2), (14, .isub, 1), (15, .if_icmp .gt 79, 3), (18, .aload_n 0, 1), (19, .iload 6, 2), (21, .iload_n 3, 1), (22, .iload 4, 2), (24, .iload 5, 2), (26, .invokevirtual 91, 3), (29, .istore 7, 2), (31, .iload 7, 2), (33, .iconst (-1), 1), (34, .if_icmp .ne 6, 3), (37, .goto 51, 3), (40, .aload_n 0, 1), (41, .getfield 69, 3), (44, .ifCond .eq 12, 3), (47, .iload 7, 2), (49, .aload_n 0, 1), (50, .getfield 95, 3), (53, .if_icmp .ge 25, 3), (56, .aload_n 0, 1), (57, .iload_n 1, 1), (58, .putfield 98, 3), (61, .aload_n 0, 1), (62, .iload_n 2, 1), (63, .putfield 101, 3), (66, .aload_n 0, 1), (67, .iload 6, 2), (69, .putfield 104, 3), (72, .aload_n 0, 1), (73, .iload 7, 2), (75, .putfield 95, 3), (78, .aload_n 0, 1), (79, .dup, 1), (80, .getfield 69, 3), (83, .iconst 1, 1), (84, .iadd, 1), (85, .putfield 69, 3), (88, .iinc 6 1, 3), (91, .goto (-88), 3), (94, .return_, 1)] : List (Nat × Instr × Nat)), decode cX1_searchWay q.1 = .ok q.2 := by decide +kernel
set_option maxHeartbeats 4000000 in
set_option maxRecDepth 20000 in
theorem s1_searchWay_x3 {Y : m_Y Unit} (S : m_Std Y RX1 cX1_searchWay) (E : m_End Y cX1_searchWay .return_ (fun _ => [])) {F : Nat} (hF : m_Rm Y F) (hFn : 2 ≤ F) (hN : Y.2.2.2.1 = 8) : ∀ (cc : Int) (v0 v1 v2 v3 v4 v5 v6 v7 : Int) (h : m_H) (r : Unit × m_H), t1_searchWay_x3 cc v0 v1 v2 v3 v4 v5 v6 v7 h = some r → (cc = 3 → m_Sim Y 3 [(0, m_r v0), (1, m_i v1), (2, m_i v2), (3, m_i v3), (4, m_i v4), (5, m_i v5), (6, m_i v6)] [] h (some r)) ∧ (cc = 56 → m_Sim Y 56 [(0, m_r v0), (1, m_i v1), (2, m_i v2), (3, m_i v3), (4, m_i v4), (5, m_i v5), (6, m_i v6), (7, m_i v7)] [] h (some r)) ∧ (cc = 78 → m_Sim Y 78 [(0, m_r v0), (1, m_i v1), (2, m_i v2), (3, m_i v3), (4, m_i v4), (5, m_i v5), (6, m_i v6)] [] h (some r)) := by
  intro cc v0 v1 v2 v3 v4 v5 v6 v7 h r e
  refine t1_searchWay_x3.partial_correctness v0 v1 v2 v3 v4 v5 (motive := fun cc v6 v7 h r => (cc = 3 → m_Sim Y 3 [(0, m_r v0), (1, m_i v1), (2, m_i v2), (3, m_i v3), (4, m_i v4), (5, m_i v5), (6, m_i v6)] [] h (some r)) ∧ (cc = 56 → m_Sim Y 56 [(0, m_r v0), (1, m_i v1), (2, m_i v2), (3, m_i v3), (4, m_i v4), (5, m_i v5), (6, m_i v6), (7, m_i v7)] [] h (some r)) ∧ (cc = 78 → m_Sim Y 78 [(0, m_r v0), (1, m_i v1), (2, m_i v2), (3, m_i v3), (4, m_i v4), (5, m_i v5), (6, m_i v6)] [] h (some r))) ?_ cc v6 v7 h r e
  intro f ih cc v6 v7 h r e
  have ih3 : ∀ (v6 v7 : Int) (h : m_H), m_Sim Y 3 [(0, m_r v0), (1, m_i v1), (2, m_i v2), (3, m_i v3), (4, m_i v4), (5, m_i v5), (6, m_i v6)] [] h (f 3 v6 v7 h ) := fun v6 v7 h  => ms_all fun r e => (ih 3 v6 v7 h r e).1 rfl
  have ih56 : ∀ (v6 v7 : Int) (h : m_H), m_Sim Y 56 [(0, m_r v0), (1, m_i v1), (2, m_i v2), (3, m_i v3), (4, m_i v4), (5, m_i v5), (6, m_i v6), (7, m_i v7)] [] h (f 56 v6 v7 h ) := fun v6 v7 h  => ms_all fun r e => (ih 56 v6 v7 h r e).2.1 rfl
  have ih78 : ∀ (v6 v7 : Int) (h : m_H), m_Sim Y 78 [(0, m_r v0), (1, m_i v1), (2, m_i v2), (3, m_i v3), (4, m_i v4), (5, m_i v5), (6, m_i v6)] [] h (f 78 v6 v7 h ) := fun v6 v7 h  => ms_all fun r e => (ih 78 v6 v7 h r e).2.2 rfl
  refine ⟨?_, ?_, ?_⟩
  · intro q0
    subst q0
    rw [if_pos rfl] at e
    refine ms_use ?_ e
    clear e r
    refine ms_iload (pc := 3) S 6 rfl (m_dec e1_searchWay 2 rfl) ?_
    refine ms_aload_n (pc := 5) S 0 rfl rfl (m_dec e1_searchWay 3 rfl) ?_
    refine ms_grd fun g1 => ?_
    refine ms_getf (pc := 6) S lf_X1_12 rfl (m_dec e1_searchWay 4 rfl) g1 ?_
    refine ms_grd fun g2 => ?_
    refine ms_callVi (pc := 9) S hF (vals := []) (st := [m_i v6]) (hc := vw_5) (hci := by decide) (hcy := rfl) (ht := g2) (hC := (k5_size _ _ (m_g h v0 2) h)) (hM := lm_X1_62) (hfr := (Nat.le_trans (by decide) hFn)) (hstk := rfl) (hcat := Nat.le_of_ble_eq_true rfl) (hd := (m_dec e1_searchWay 5 rfl)) (k1 := fun r4 h3 => ?_)
    refine ms_iload (pc := 12) S 4 rfl (m_dec e1_searchWay 6 rfl) ?_
    refine ms_isub (pc := 14) S (m_dec e1_searchWay 7 rfl) ?_
    refine ms_icmp_gt (pc := 15) S (m_dec e1_searchWay 8 rfl) rfl (fun q5 => ?_) (fun q5 => ?_)
    · exact ms_ret (pc := 94) E (m_dec e1_searchWay 47 rfl) rfl
    · refine ms_aload_n (pc := 18) S 0 rfl rfl (m_dec e1_searchWay 9 rfl) ?_
      refine ms_iload (pc := 19) S 6 rfl (m_dec e1_searchWay 10 rfl) ?_
      refine ms_iload_n (pc := 21) S 3 rfl rfl (m_dec e1_searchWay 11 rfl) ?_
      refine ms_iload (pc := 22) S 4 rfl (m_dec e1_searchWay 12 rfl) ?_
      refine ms_iload (pc := 24) S 5 rfl (m_dec e1_searchWay 13 rfl) ?_
      refine ms_grd fun g6 => ?_
      refine ms_callVi (pc := 26) S hF (vals := [m_i v6, m_i v3, m_i v4, m_i v5]) (st := []) (hc := vw_1) (hci := by decide) (hcy := rfl) (ht := g6) (hC := (k1_missAt _ _ v0 v6 v3 v4 v5 h3)) (hM := lm_X1_91) (hfr := (Nat.le_trans (by decide) hFn)) (hstk := rfl) (hcat := Nat.le_of_ble_eq_true rfl) (hd := (m_dec e1_searchWay 14 rfl)) (k1 := fun r8 h7 => ?_)
      refine ms_istore (pc := 29) S (L' := [(0, m_r v0), (1, m_i v1), (2, m_i v2), (3, m_i v3), (4, m_i v4), (5, m_i v5), (6, m_i v6), (7, m_i r8)]) [1, 2, 3, 4, 5, 6, 7, 0] rfl (m_lt hN rfl) (m_dec e1_searchWay 15 rfl) ?_
      refine ms_iload (pc := 31) S 7 rfl (m_dec e1_searchWay 16 rfl) ?_
      refine ms_iconst (pc := 33) S (m_dec e1_searchWay 17 rfl) ?_
      refine ms_icmp_ne (pc := 34) S (m_dec e1_searchWay 18 rfl) rfl (fun q9 => ?_) (fun q9 => ?_)
      · refine ms_goto (pc := 37) S (m_dec e1_searchWay 19 rfl) rfl ?_
        refine ms_iinc (pc := 88) S (L' := [(0, m_r v0), (1, m_i v1), (2, m_i v2), (3, m_i v3), (4, m_i v4), (5, m_i v5), (6, m_i (v6 + 1))]) 6 rfl [1, 2, 3, 4, 5, 6, 0] rfl (m_lt hN rfl) (m_dec e1_searchWay 45 rfl) ?_
        refine ms_goto (pc := 91) S (m_dec e1_searchWay 46 rfl) rfl ?_
        exact ih3 (v6 + 1) 0 h7
      · refine ms_aload_n (pc := 40) S 0 rfl rfl (m_dec e1_searchWay 20 rfl) ?_
        refine ms_grd fun g10 => ?_
        refine ms_getf (pc := 41) S lf_X1_69 rfl (m_dec e1_searchWay 21 rfl) g10 ?_
        refine ms_if_eq (pc := 44) S (m_dec e1_searchWay 22 rfl) rfl (fun q11 => ?_) (fun q11 => ?_)
        · exact ih56 v6 r8 h7
        · refine ms_iload (pc := 47) S 7 rfl (m_dec e1_searchWay 23 rfl) ?_
          refine ms_aload_n (pc := 49) S 0 rfl rfl (m_dec e1_searchWay 24 rfl) ?_
          refine ms_getf (pc := 50) S lf_X1_95 rfl (m_dec e1_searchWay 25 rfl) g10 ?_
          refine ms_icmp_ge (pc := 53) S (m_dec e1_searchWay 26 rfl) rfl (fun q12 => ?_) (fun q12 => ?_)
          · exact ih56 v6 r8 h7
          · refine ms_sub (pc := 78) (L' := [(0, m_r v0), (1, m_i v1), (2, m_i v2), (3, m_i v3), (4, m_i v4), (5, m_i v5), (6, m_i v6)]) [0, 1, 2, 3, 4, 5, 6] rfl ?_
            exact ih78 v6 0 h7
  · intro q0
    subst q0
    rw [if_neg (by decide), if_pos rfl] at e
    refine ms_use ?_ e
    clear e r
    refine ms_aload_n (pc := 56) S 0 rfl rfl (m_dec e1_searchWay 27 rfl) ?_
    refine ms_iload_n (pc := 57) S 1 rfl rfl (m_dec e1_searchWay 28 rfl) ?_
    refine ms_grd fun g1 => ?_
    refine ms_putf (pc := 58) S lp_X1_98 (fun z => by cases z) rfl (fun d => m_fitI d _) (m_dec e1_searchWay 29 rfl) g1 (fun h2 => ?_)
    refine ms_aload_n (pc := 61) S 0 rfl rfl (m_dec e1_searchWay 30 rfl) ?_
    refine ms_iload_n (pc := 62) S 2 rfl rfl (m_dec e1_searchWay 31 rfl) ?_
    refine ms_grd fun g3 => ?_
    refine ms_putf (pc := 63) S lp_X1_101 (fun z => by cases z) rfl (fun d => m_fitI d _) (m_dec e1_searchWay 32 rfl) g3 (fun h4 => ?_)
    refine ms_aload_n (pc := 66) S 0 rfl rfl (m_dec e1_searchWay 33 rfl) ?_
    refine ms_iload (pc := 67) S 6 rfl (m_dec e1_searchWay 34 rfl) ?_
    refine ms_grd fun g5 => ?_
    refine ms_putf (pc := 69) S lp_X1_104 (fun z => by cases z) rfl (fun d => m_fitI d _) (m_dec e1_searchWay 35 rfl) g5 (fun h6 => ?_)
    refine ms_aload_n (pc := 72) S 0 rfl rfl (m_dec e1_searchWay 36 rfl) ?_
    refine ms_iload (pc := 73) S 7 rfl (m_dec e1_searchWay 37 rfl) ?_
    refine ms_grd fun g7 => ?_
    refine ms_putf (pc := 75) S lp_X1_95 (fun z => by cases z) rfl (fun d => m_fitI d _) (m_dec e1_searchWay 38 rfl) g7 (fun h8 => ?_)
    refine ms_sub (pc := 78) (L' := [(0, m_r v0), (1, m_i v1), (2, m_i v2), (3, m_i v3), (4, m_i v4), (5, m_i v5), (6, m_i v6)]) [0, 1, 2, 3, 4, 5, 6] rfl ?_
    exact ih78 v6 0 h8
  · intro q0
    subst q0
    rw [if_neg (by decide), if_neg (by decide), if_pos rfl] at e
    refine ms_use ?_ e
    clear e r
    refine ms_aload_n (pc := 78) S 0 rfl rfl (m_dec e1_searchWay 39 rfl) ?_
    refine ms_dup (pc := 79) S rfl (m_dec e1_searchWay 40 rfl) ?_
    refine ms_grd fun g1 => ?_
    refine ms_getf (pc := 80) S lf_X1_69 rfl (m_dec e1_searchWay 41 rfl) g1 ?_
    refine ms_iconst (pc := 83) S (m_dec e1_searchWay 42 rfl) ?_
    refine ms_iadd (pc := 84) S (m_dec e1_searchWay 43 rfl) ?_
    refine ms_putf (pc := 85) S lp_X1_69 (fun z => by cases z) rfl (fun d => m_fitI d _) (m_dec e1_searchWay 44 rfl) g1 (fun h2 => ?_)
    refine ms_iinc (pc := 88) S (L' := [(0, m_r v0), (1, m_i v1), (2, m_i v2), (3, m_i v3), (4, m_i v4), (5, m_i v5), (6, m_i (v6 + 1))]) 6 rfl [1, 2, 3, 4, 5, 6, 0] rfl (m_lt hN rfl) (m_dec e1_searchWay 45 rfl) ?_
    refine ms_goto (pc := 91) S (m_dec e1_searchWay 46 rfl) rfl ?_
    exact ih3 (v6 + 1) 0 h2
set_option maxHeartbeats 4000000 in
set_option maxRecDepth 20000 in
theorem s1_searchWay_c3 {Y : m_Y Unit} (S : m_Std Y RX1 cX1_searchWay) (E : m_End Y cX1_searchWay .return_ (fun _ => [])) {F : Nat} (hF : m_Rm Y F) (hFn : 2 ≤ F) (hN : Y.2.2.2.1 = 8) (v0 v1 v2 v3 v4 v5 v6 v7 : Int) (h : m_H) : m_Sim Y 3 [(0, m_r v0), (1, m_i v1), (2, m_i v2), (3, m_i v3), (4, m_i v4), (5, m_i v5), (6, m_i v6)] [] h (t1_searchWay_x3 3 v0 v1 v2 v3 v4 v5 v6 v7 h) := ms_all fun r e => (s1_searchWay_x3 S E hF hFn hN 3 v0 v1 v2 v3 v4 v5 v6 v7 h r e).1 rfl
set_option maxHeartbeats 4000000 in
set_option maxRecDepth 20000 in
theorem s1_searchWay_c56 {Y : m_Y Unit} (S : m_Std Y RX1 cX1_searchWay) (E : m_End Y cX1_searchWay .return_ (fun _ => [])) {F : Nat} (hF : m_Rm Y F) (hFn : 2 ≤ F) (hN : Y.2.2.2.1 = 8) (v0 v1 v2 v3 v4 v5 v6 v7 : Int) (h : m_H) : m_Sim Y 56 [(0, m_r v0), (1, m_i v1), (2, m_i v2), (3, m_i v3), (4, m_i v4), (5, m_i v5), (6, m_i v6), (7, m_i v7)] [] h (t1_searchWay_x3 56 v0 v1 v2 v3 v4 v5 v6 v7 h) := ms_all fun r e => (s1_searchWay_x3 S E hF hFn hN 56 v0 v1 v2 v3 v4 v5 v6 v7 h r e).2.1 rfl
set_option maxHeartbeats 4000000 in
set_option maxRecDepth 20000 in
theorem s1_searchWay_c78 {Y : m_Y Unit} (S : m_Std Y RX1 cX1_searchWay) (E : m_End Y cX1_searchWay .return_ (fun _ => [])) {F : Nat} (hF : m_Rm Y F) (hFn : 2 ≤ F) (hN : Y.2.2.2.1 = 8) (v0 v1 v2 v3 v4 v5 v6 v7 : Int) (h : m_H) : m_Sim Y 78 [(0, m_r v0), (1, m_i v1), (2, m_i v2), (3, m_i v3), (4, m_i v4), (5, m_i v5), (6, m_i v6)] [] h (t1_searchWay_x3 78 v0 v1 v2 v3 v4 v5 v6 v7 h) := ms_all fun r e => (s1_searchWay_x3 S E hF hFn hN 78 v0 v1 v2 v3 v4 v5 v6 v7 h r e).2.2 rfl
set_option maxHeartbeats 4000000 in
set_option maxRecDepth 20000 in
theorem s1_searchWay {Y : m_Y Unit} (S : m_Std Y RX1 cX1_searchWay) (E : m_End Y cX1_searchWay .return_ (fun _ => [])) {F : Nat} (hF : m_Rm Y F) (hFn : 2 ≤ F) (hN : Y.2.2.2.1 = 8) (v0 v1 v2 v3 v4 v5 : Int) (h : m_H) : m_Sim Y 0 [(0, m_r v0), (1, m_i v1), (2, m_i v2), (3, m_i v3), (4, m_i v4), (5, m_i v5)] [] h (t1_searchWay v0 v1 v2 v3 v4 v5 h) := by
  unfold t1_searchWay
  refine ms_iconst (pc := 0) S (m_dec e1_searchWay 0 rfl) ?_
  refine ms_istore (pc := 1) S (L' := [(0, m_r v0), (1, m_i v1), (2, m_i v2), (3, m_i v3), (4, m_i v4), (5, m_i v5), (6, m_i 0)]) [1, 2, 3, 4, 5, 6, 0] rfl (m_lt hN rfl) (m_dec e1_searchWay 1 rfl) ?_
  exact s1_searchWay_c3 S E hF hFn hN v0 v1 v2 v3 v4 v5 0 0 h
theorem k1_searchWay (l : Launch) (d : m_D) (v0 v1 v2 v3 v4 v5 : Int) (h : m_H) : m_Con l d yX1_searchWay cX1_searchWay 8 none 2 (fun _ => []) [m_r v0, m_i v1, m_i v2, m_i v3, m_i v4, m_i v5] h (t1_searchWay v0 v1 v2 v3 v4 v5 h) :=
  m_con2 (by decide +kernel) (Nat.le_of_ble_eq_true rfl) (fun Y hN hRm hr hI S hfin => s1_searchWay S (m_end_v S hr hfin) hRm (Nat.le_refl _) hN v0 v1 v2 v3 v4 v5 h)
set_option maxRecDepth 100000 in
theorem e1_search : ∀ q ∈ ([(0, .aload_n 0, 1), (1, .iconst 0, 1), (2, .putfield 69, 3), (5, .iload_n 2, 1), (6, .iload_n 3, 1), (7, .invokestatic 72, 3), (10, .ifCond .eq 20, 3), (13, .iload_n 1, 1), (14, .ifCond .lt 16, 3), (17, .iload_n 1, 1), (18, .aload_n 0, 1), (19, .getfield 36, 3), (22, .invokevirtual 62, 3), (25, .iload_n 2, 1), (26, .isub, 1), (27, .if_icmp .le 5, 3), (30, .iconst 0, 1), (31, .ireturn, 1), (32, .iconst 0, 1), (33, .istore 4, 2), (35, .iload 4, 2), (37, .aload_n 0, 1), (38, .getfield 32, 3), (41, .getfield 76, 3), (44, .if_icmp .ge 56, 3), (47, .aload_n 0, 1), (48, .iload 4, 2), (50, .invokevirtual 79, 3), (53, .astore 5, 2), (55, .iconst 0, 1), (56, .istore 6, 2), (58, .iload 6, 2), (60, .iconst 4, 1), (61, .if_icmp .ge 33, 3), (64, .aload 5, 2), (66, .ifnull 28, 3), (69, .aload_n 0, 1), (70, .aload 5, 2), (72, .iload 6, 2), (74, .invokevirtual 83, 3), (77, .aload_n 0, 1), (78, .iload 4, 2), (80, .iload 6, 2), (82, .iload_n 1, 1), (83, .iload_n 2, 1), (84, .iload_n 3, 1), (85, .invokevirtual 87, 3), (88, .iinc 6 1, 3), (91, .goto (-33), 3), (94, .iinc 4 1, 3), (97, .goto (-62), 3), (100, .aload_n 0, 1), (101, .getfield 69, 3), (104, .ifCond .le 7, 3), (107, .iconst 1, 1), (108, .goto 4, 3), (111, .iconst 0, 1), (112, .ireturn, 1)] : List (Nat × Instr × Nat)), decode cX1_search q.1 = .ok q.2 := by decide +kernel
set_option maxHeartbeats 4000000 in
set_option maxRecDepth 20000 in
theorem s1_search_x35 {Y : m_Y Bool} (S : m_Std Y RX1 cX1_search) (E : m_End Y cX1_search .ireturn (fun r => [m_i (m_b2i r)])) {F : Nat} (hF : m_Rm Y F) (hFn : 5 ≤ F) (hN : Y.2.2.2.1 = 7) : ∀ (cc : Int) (v0 v1 v2 v3 v4 v5 v6 : Int) (h : m_H) (r : Bool × m_H), t1_search_x35 cc v0 v1 v2 v3 v4 v5 v6 h = some r → (cc = 35 → m_Sim Y 35 [(0, m_r v0), (1, m_i v1), (2, m_i v2), (3, m_i v3), (4, m_i v4)] [] h (some r)) ∧ (cc = 58 → m_Sim Y 58 [(0, m_r v0), (1, m_i v1), (2, m_i v2), (3, m_i v3), (4, m_i v4), (5, m_r v5), (6, m_i v6)] [] h (some r)) := by
  intro cc v0 v1 v2 v3 v4 v5 v6 h r e
  refine t1_search_x35.partial_correctness v0 v1 v2 v3 (motive := fun cc v4 v5 v6 h r => (cc = 35 → m_Sim Y 35 [(0, m_r v0), (1, m_i v1), (2, m_i v2), (3, m_i v3), (4, m_i v4)] [] h (some r)) ∧ (cc = 58 → m_Sim Y 58 [(0, m_r v0), (1, m_i v1), (2, m_i v2), (3, m_i v3), (4, m_i v4), (5, m_r v5), (6, m_i v6)] [] h (some r))) ?_ cc v4 v5 v6 h r e
  intro f ih cc v4 v5 v6 h r e
  have ih35 : ∀ (v4 v5 v6 : Int) (h : m_H), m_Sim Y 35 [(0, m_r v0), (1, m_i v1), (2, m_i v2), (3, m_i v3), (4, m_i v4)] [] h (f 35 v4 v5 v6 h ) := fun v4 v5 v6 h  => ms_all fun r e => (ih 35 v4 v5 v6 h r e).1 rfl
  have ih58 : ∀ (v4 v5 v6 : Int) (h : m_H), m_Sim Y 58 [(0, m_r v0), (1, m_i v1), (2, m_i v2), (3, m_i v3), (4, m_i v4), (5, m_r v5), (6, m_i v6)] [] h (f 58 v4 v5 v6 h ) := fun v4 v5 v6 h  => ms_all fun r e => (ih 58 v4 v5 v6 h r e).2 rfl
  refine ⟨?_, ?_⟩
  · intro q0
    subst q0
    rw [if_pos rfl] at e
    refine ms_use ?_ e
    clear e r
    refine ms_iload (pc := 35) S 4 rfl (m_dec e1_search 20 rfl) ?_
    refine ms_aload_n (pc := 37) S 0 rfl rfl (m_dec e1_search 21 rfl) ?_
    refine ms_grd fun g1 => ?_
    refine ms_getf (pc := 38) S lf_X1_32 rfl (m_dec e1_search 22 rfl) g1 ?_
    refine ms_grd fun g2 => ?_
    refine ms_getf (pc := 41) S lf_X1_76 rfl (m_dec e1_search 23 rfl) g2 ?_
    refine ms_icmp_ge (pc := 44) S (m_dec e1_search 24 rfl) rfl (fun q3 => ?_) (fun q3 => ?_)
    · refine ms_aload_n (pc := 47) S 0 rfl rfl (m_dec e1_search 25 rfl) ?_
      refine ms_iload (pc := 48) S 4 rfl (m_dec e1_search 26 rfl) ?_
      refine ms_callVa (pc := 50) S hF (vals := [m_i v4]) (st := []) (hc := vw_1) (hci := by decide) (hcy := rfl) (ht := g1) (hC := (k1_layable _ _ v0 v4 h)) (hM := lm_X1_79) (hfr := (Nat.le_trans (by decide) hFn)) (hstk := rfl) (hcat := Nat.le_of_ble_eq_true rfl) (hd := (m_dec e1_search 27 rfl)) (k1 := fun r5 h4 => ?_)
      refine ms_astore (pc := 53) S (L' := [(0, m_r v0), (1, m_i v1), (2, m_i v2), (3, m_i v3), (4, m_i v4), (5, m_r r5)]) [1, 2, 3, 4, 5, 0] rfl (m_lt hN rfl) (m_dec e1_search 28 rfl) ?_
      refine ms_iconst (pc := 55) S (m_dec e1_search 29 rfl) ?_
      refine ms_istore (pc := 56) S (L' := [(0, m_r v0), (1, m_i v1), (2, m_i v2), (3, m_i v3), (4, m_i v4), (5, m_r r5), (6, m_i 0)]) [1, 2, 3, 4, 5, 6, 0] rfl (m_lt hN rfl) (m_dec e1_search 30 rfl) ?_
      exact ih58 v4 r5 0 h4
    · refine ms_aload_n (pc := 100) S 0 rfl rfl (m_dec e1_search 51 rfl) ?_
      refine ms_getf (pc := 101) S lf_X1_69 rfl (m_dec e1_search 52 rfl) g1 ?_
      refine ms_if_le (pc := 104) S (m_dec e1_search 53 rfl) rfl (fun q6 => ?_) (fun q6 => ?_)
      · refine ms_iconst (pc := 107) S (m_dec e1_search 54 rfl) ?_
        refine ms_goto (pc := 108) S (m_dec e1_search 55 rfl) rfl ?_
        exact ms_ret (pc := 112) E (m_dec e1_search 57 rfl) rfl
      · refine ms_iconst (pc := 111) S (m_dec e1_search 56 rfl) ?_
        exact ms_ret (pc := 112) E (m_dec e1_search 57 rfl) rfl
  · intro q0
    subst q0
    rw [if_neg (by decide), if_pos rfl] at e
    refine ms_use ?_ e
    clear e r
    refine ms_iload (pc := 58) S 6 rfl (m_dec e1_search 31 rfl) ?_
    refine ms_iconst (pc := 60) S (m_dec e1_search 32 rfl) ?_
    refine ms_icmp_ge (pc := 61) S (m_dec e1_search 33 rfl) rfl (fun q1 => ?_) (fun q1 => ?_)
    · refine ms_aload (pc := 64) S 5 rfl (m_dec e1_search 34 rfl) ?_
      refine ms_ifnull (pc := 66) S (m_dec e1_search 35 rfl) rfl (fun q2 => ?_) (fun q2 => ?_)
      · refine ms_iinc (pc := 94) S (L' := [(0, m_r v0), (1, m_i v1), (2, m_i v2), (3, m_i v3), (4, m_i (v4 + 1))]) 4 rfl [1, 2, 3, 4, 0] rfl (m_lt hN rfl) (m_dec e1_search 49 rfl) ?_
        refine ms_goto (pc := 97) S (m_dec e1_search 50 rfl) rfl ?_
        exact ih35 (v4 + 1) 0 0 h
      · refine ms_aload_n (pc := 69) S 0 rfl rfl (m_dec e1_search 36 rfl) ?_
        refine ms_aload (pc := 70) S 5 rfl (m_dec e1_search 37 rfl) ?_
        refine ms_iload (pc := 72) S 6 rfl (m_dec e1_search 38 rfl) ?_
        refine ms_grd fun g3 => ?_
        refine ms_callVv (pc := 74) S hF (vals := [m_r v5, m_i v6]) (st := []) (hc := vw_1) (hci := by decide) (hcy := rfl) (ht := g3) (hC := (k1_fillWay _ _ v0 v5 v6 h)) (hM := lm_X1_83) (hfr := (Nat.le_trans (by decide) hFn)) (hstk := rfl) (hcat := Nat.le_of_ble_eq_true rfl) (hd := (m_dec e1_search 39 rfl)) (k1 := fun h4 => ?_)
        refine ms_aload_n (pc := 77) S 0 rfl rfl (m_dec e1_search 40 rfl) ?_
        refine ms_iload (pc := 78) S 4 rfl (m_dec e1_search 41 rfl) ?_
        refine ms_iload (pc := 80) S 6 rfl (m_dec e1_search 42 rfl) ?_
        refine ms_iload_n (pc := 82) S 1 rfl rfl (m_dec e1_search 43 rfl) ?_
        refine ms_iload_n (pc := 83) S 2 rfl rfl (m_dec e1_search 44 rfl) ?_
        refine ms_iload_n (pc := 84) S 3 rfl rfl (m_dec e1_search 45 rfl) ?_
        refine ms_grd fun g6 => ?_
        refine ms_callVv (pc := 85) S hF (vals := [m_i v4, m_i v6, m_i v1, m_i v2, m_i v3]) (st := []) (hc := vw_1) (hci := by decide) (hcy := rfl) (ht := g6) (hC := (k1_searchWay _ _ v0 v4 v6 v1 v2 v3 h4)) (hM := lm_X1_87) (hfr := (Nat.le_trans (by decide) hFn)) (hstk := rfl) (hcat := Nat.le_of_ble_eq_true rfl) (hd := (m_dec e1_search 46 rfl)) (k1 := fun h7 => ?_)
        refine ms_iinc (pc := 88) S (L' := [(0, m_r v0), (1, m_i v1), (2, m_i v2), (3, m_i v3), (4, m_i v4), (5, m_r v5), (6, m_i (v6 + 1))]) 6 rfl [1, 2, 3, 4, 5, 6, 0] rfl (m_lt hN rfl) (m_dec e1_search 47 rfl) ?_
        refine ms_goto (pc := 91) S (m_dec e1_search 48 rfl) rfl ?_
        exact ih58 v4 v5 (v6 + 1) h7
    · refine ms_iinc (pc := 94) S (L' := [(0, m_r v0), (1, m_i v1), (2, m_i v2), (3, m_i v3), (4, m_i (v4 + 1))]) 4 rfl [1, 2, 3, 4, 0] rfl (m_lt hN rfl) (m_dec e1_search 49 rfl) ?_
      refine ms_goto (pc := 97) S (m_dec e1_search 50 rfl) rfl ?_
      exact ih35 (v4 + 1) 0 0 h
set_option maxHeartbeats 4000000 in
set_option maxRecDepth 20000 in
theorem s1_search_c35 {Y : m_Y Bool} (S : m_Std Y RX1 cX1_search) (E : m_End Y cX1_search .ireturn (fun r => [m_i (m_b2i r)])) {F : Nat} (hF : m_Rm Y F) (hFn : 5 ≤ F) (hN : Y.2.2.2.1 = 7) (v0 v1 v2 v3 v4 v5 v6 : Int) (h : m_H) : m_Sim Y 35 [(0, m_r v0), (1, m_i v1), (2, m_i v2), (3, m_i v3), (4, m_i v4)] [] h (t1_search_x35 35 v0 v1 v2 v3 v4 v5 v6 h) := ms_all fun r e => (s1_search_x35 S E hF hFn hN 35 v0 v1 v2 v3 v4 v5 v6 h r e).1 rfl
set_option maxHeartbeats 4000000 in
set_option maxRecDepth 20000 in
theorem s1_search_c58 {Y : m_Y Bool} (S : m_Std Y RX1 cX1_search) (E : m_End Y cX1_search .ireturn (fun r => [m_i (m_b2i r)])) {F : Nat} (hF : m_Rm Y F) (hFn : 5 ≤ F) (hN : Y.2.2.2.1 = 7) (v0 v1 v2 v3 v4 v5 v6 : Int) (h : m_H) : m_Sim Y 58 [(0, m_r v0), (1, m_i v1), (2, m_i v2), (3, m_i v3), (4, m_i v4), (5, m_r v5), (6, m_i v6)] [] h (t1_search_x35 58 v0 v1 v2 v3 v4 v5 v6 h) := ms_all fun r e => (s1_search_x35 S E hF hFn hN 58 v0 v1 v2 v3 v4 v5 v6 h r e).2 rfl
set_option maxHeartbeats 4000000 in
set_option maxRecDepth 20000 in
theorem s1_search {Y : m_Y Bool} (S : m_Std Y RX1 cX1_search) (E : m_End Y cX1_search .ireturn (fun r => [m_i (m_b2i r)])) {F : Nat} (hF : m_Rm Y F) (hFn : 5 ≤ F) (hN : Y.2.2.2.1 = 7) (v0 v1 v2 v3 : Int) (h : m_H) : m_Sim Y 0 [(0, m_r v0), (1, m_i v1), (2, m_i v2), (3, m_i v3)] [] h (t1_search v0 v1 v2 v3 h) := by
  unfold t1_search
  refine ms_aload_n (pc := 0) S 0 rfl rfl (m_dec e1_search 0 rfl) ?_
  refine ms_iconst (pc := 1) S (m_dec e1_search 1 rfl) ?_
  refine ms_grd fun g1 => ?_
  refine ms_putf (pc := 2) S lp_X1_69 (fun z => by cases z) rfl (fun d => m_fitI d _) (m_dec e1_search 2 rfl) g1 (fun h2 => ?_)
  refine ms_iload_n (pc := 5) S 2 rfl rfl (m_dec e1_search 3 rfl) ?_
  refine ms_iload_n (pc := 6) S 3 rfl rfl (m_dec e1_search 4 rfl) ?_
  refine ms_callSz (pc := 7) S hF (vals := [m_i v2, m_i v3]) (st := [])  (hC := (k1_isAsked _ _ v2 v3 h2)) (hM := lm_X1_72) (hfr := (Nat.le_trans (by decide) hFn)) (hstk := rfl) (hcat := Nat.le_of_ble_eq_true rfl) (hd := (m_dec e1_search 5 rfl)) (k1 := fun r4 h3 => ?_)
  refine ms_ifb_eq (pc := 10) S (m_dec e1_search 6 rfl) rfl (fun q5 => ?_) (fun q5 => ?_)
  · refine ms_iload_n (pc := 13) S 1 rfl rfl (m_dec e1_search 7 rfl) ?_
    refine ms_if_lt (pc := 14) S (m_dec e1_search 8 rfl) rfl (fun q6 => ?_) (fun q6 => ?_)
    · refine ms_iconst (pc := 30) S (m_dec e1_search 16 rfl) ?_
      exact ms_ret (pc := 31) E (m_dec e1_search 17 rfl) rfl
    · refine ms_iload_n (pc := 17) S 1 rfl rfl (m_dec e1_search 9 rfl) ?_
      refine ms_aload_n (pc := 18) S 0 rfl rfl (m_dec e1_search 10 rfl) ?_
      refine ms_grd fun g7 => ?_
      refine ms_getf (pc := 19) S lf_X1_36 rfl (m_dec e1_search 11 rfl) g7 ?_
      refine ms_grd fun g8 => ?_
      refine ms_callVi (pc := 22) S hF (vals := []) (st := [m_i v1]) (hc := vw_5) (hci := by decide) (hcy := rfl) (ht := g8) (hC := (k5_size _ _ (m_g h3 v0 1) h3)) (hM := lm_X1_62) (hfr := (Nat.le_trans (by decide) hFn)) (hstk := rfl) (hcat := Nat.le_of_ble_eq_true rfl) (hd := (m_dec e1_search 12 rfl)) (k1 := fun r10 h9 => ?_)
      refine ms_iload_n (pc := 25) S 2 rfl rfl (m_dec e1_search 13 rfl) ?_
      refine ms_isub (pc := 26) S (m_dec e1_search 14 rfl) ?_
      refine ms_icmp_le (pc := 27) S (m_dec e1_search 15 rfl) rfl (fun q11 => ?_) (fun q11 => ?_)
      · refine ms_iconst (pc := 30) S (m_dec e1_search 16 rfl) ?_
        exact ms_ret (pc := 31) E (m_dec e1_search 17 rfl) rfl
      · refine ms_iconst (pc := 32) S (m_dec e1_search 18 rfl) ?_
        refine ms_istore (pc := 33) S (L' := [(0, m_r v0), (1, m_i v1), (2, m_i v2), (3, m_i v3), (4, m_i 0)]) [1, 2, 3, 4, 0] rfl (m_lt hN rfl) (m_dec e1_search 19 rfl) ?_
        exact s1_search_c35 S E hF hFn hN v0 v1 v2 v3 0 0 0 h9
  · refine ms_iconst (pc := 30) S (m_dec e1_search 16 rfl) ?_
    exact ms_ret (pc := 31) E (m_dec e1_search 17 rfl) rfl
theorem k1_search (l : Launch) (d : m_D) (v0 v1 v2 v3 : Int) (h : m_H) : m_Con l d yX1_search cX1_search 7 (some .boolean) 5 (fun r => [m_i (m_b2i r)]) [m_r v0, m_i v1, m_i v2, m_i v3] h (t1_search v0 v1 v2 v3 h) :=
  m_con2 (by decide +kernel) (Nat.le_of_ble_eq_true rfl) (fun Y hN hRm hr hI S hfin => s1_search S (m_end_z S hr hfin) hRm (Nat.le_refl _) hN v0 v1 v2 v3 h)
set_option maxRecDepth 100000 in
theorem e1_best : ∀ q ∈ ([(0, .iload_n 1, 1), (1, .tableswitch 51 0 3 #[31, 36, 41, 46], 31), (32, .aload_n 0, 1), (33, .getfield 98, 3), (36, .ireturn, 1), (37, .aload_n 0, 1), (38, .getfield 101, 3), (41, .ireturn, 1), (42, .aload_n 0, 1), (43, .getfield 104, 3), (46, .ireturn, 1), (47, .aload_n 0, 1), (48, .getfield 95, 3), (51, .ireturn, 1), (52, .iconst (-1), 1), (53, .ireturn, 1)] : List (Nat × Instr × Nat)), decode cX1_best q.1 = .ok q.2 := by decide +kernel
set_option maxHeartbeats 4000000 in
set_option maxRecDepth 20000 in
theorem s1_best {Y : m_Y Int} (S : m_Std Y RX1 cX1_best) (E : m_End Y cX1_best .ireturn (fun r => [m_i r])) {F : Nat} (hF : m_Rm Y F) (hFn : 0 ≤ F) (hN : Y.2.2.2.1 = 2) (v0 v1 : Int) (h : m_H) : m_Sim Y 0 [(0, m_r v0), (1, m_i v1)] [] h (t1_best v0 v1 h) := by
  unfold t1_best
  refine ms_iload_n (pc := 0) S 1 rfl rfl (m_dec e1_best 0 rfl) ?_
  refine ms_ite (fun q1 => ?_) (fun q1 => ?_)
  · refine ms_swIn (pc := 1) S (m_dec e1_best 1 rfl) 0 q1 (by decide) (by decide) rfl rfl ?_
    refine ms_aload_n (pc := 32) S 0 rfl rfl (m_dec e1_best 2 rfl) ?_
    refine ms_grd fun g2 => ?_
    refine ms_getf (pc := 33) S lf_X1_98 rfl (m_dec e1_best 3 rfl) g2 ?_
    exact ms_ret (pc := 36) E (m_dec e1_best 4 rfl) rfl
  · refine ms_ite (fun q3 => ?_) (fun q3 => ?_)
    · refine ms_swIn (pc := 1) S (m_dec e1_best 1 rfl) 1 q3 (by decide) (by decide) rfl rfl ?_
      refine ms_aload_n (pc := 37) S 0 rfl rfl (m_dec e1_best 5 rfl) ?_
      refine ms_grd fun g4 => ?_
      refine ms_getf (pc := 38) S lf_X1_101 rfl (m_dec e1_best 6 rfl) g4 ?_
      exact ms_ret (pc := 41) E (m_dec e1_best 7 rfl) rfl
    · refine ms_ite (fun q5 => ?_) (fun q5 => ?_)
      · refine ms_swIn (pc := 1) S (m_dec e1_best 1 rfl) 2 q5 (by decide) (by decide) rfl rfl ?_
        refine ms_aload_n (pc := 42) S 0 rfl rfl (m_dec e1_best 8 rfl) ?_
        refine ms_grd fun g6 => ?_
        refine ms_getf (pc := 43) S lf_X1_104 rfl (m_dec e1_best 9 rfl) g6 ?_
        exact ms_ret (pc := 46) E (m_dec e1_best 10 rfl) rfl
      · refine ms_ite (fun q7 => ?_) (fun q7 => ?_)
        · refine ms_swIn (pc := 1) S (m_dec e1_best 1 rfl) 3 q7 (by decide) (by decide) rfl rfl ?_
          refine ms_aload_n (pc := 47) S 0 rfl rfl (m_dec e1_best 11 rfl) ?_
          refine ms_grd fun g8 => ?_
          refine ms_getf (pc := 48) S lf_X1_95 rfl (m_dec e1_best 12 rfl) g8 ?_
          exact ms_ret (pc := 51) E (m_dec e1_best 13 rfl) rfl
        · refine ms_swOut (pc := 1) (a := v1) S (m_dec e1_best 1 rfl) (by omega) rfl ?_
          refine ms_iconst (pc := 52) S (m_dec e1_best 14 rfl) ?_
          exact ms_ret (pc := 53) E (m_dec e1_best 15 rfl) rfl
theorem k1_best (l : Launch) (d : m_D) (v0 v1 : Int) (h : m_H) : m_Con l d yX1_best cX1_best 2 (some .int) 0 (fun r => [m_i r]) [m_r v0, m_i v1] h (t1_best v0 v1 h) :=
  m_con2 (by decide +kernel) (Nat.le_of_ble_eq_true rfl) (fun Y hN hRm hr hI S hfin => s1_best S (m_end_i S hr hfin) hRm (Nat.le_refl _) hN v0 v1 h)
set_option maxRecDepth 100000 in
theorem eJ7_fill_53178 : ∀ q ∈ ([(0, .iconst 0, 1), (1, .istore_n 2, 1), (2, .aload_n 0, 1), (3, .arraylength, 1), (4, .istore_n 3, 1), (5, .iload_n 2, 1), (6, .iload_n 3, 1), (7, .if_icmp .ge 13, 3), (10, .aload_n 0, 1), (11, .iload_n 2, 1), (12, .iload_n 1, 1), (13, .iastore, 1), (14, .iinc 2 1, 3), (17, .goto (-12), 3), (20, .return_, 1)] : List (Nat × Instr × Nat)), decode cJ7_fill_53178 q.1 = .ok q.2 := by decide +kernel
set_option maxHeartbeats 4000000 in
set_option maxRecDepth 20000 in
theorem sJ7_fill_53178_c5 {Y : m_Y Unit} (S : m_Std Y RJ7 cJ7_fill_53178) (E : m_End Y cJ7_fill_53178 .return_ (fun _ => [])) {F : Nat} (hF : m_Rm Y F) (hFn : 0 ≤ F) (hN : Y.2.2.2.1 = 4) : ∀ (v0 v1 v2 v3 : Int) (h : m_H), m_Sim Y 5 [(0, m_r v0), (1, m_i v1), (2, m_i v2), (3, m_i v3)] [] h (tJ7_fill_53178_c5 v0 v1 v2 v3 h) := by
  intro v0 v1 v2 v3 h
  refine ms_all fun r e => ?_
  refine tJ7_fill_53178_c5.partial_correctness v0 v1 v3 (motive := fun v2 h r => m_Sim Y 5 [(0, m_r v0), (1, m_i v1), (2, m_i v2), (3, m_i v3)] [] h (some r)) ?_ v2 h r e
  intro f ih v2 h r e
  have ih : ∀ (v2 : Int) (h : m_H), m_Sim Y 5 [(0, m_r v0), (1, m_i v1), (2, m_i v2), (3, m_i v3)] [] h (f v2 h ) := fun v2 h  => ms_all fun r e => ih v2 h r e
  refine ms_use ?_ e
  clear e r
  refine ms_iload_n (pc := 5) S 2 rfl rfl (m_dec eJ7_fill_53178 5 rfl) ?_
  refine ms_iload_n (pc := 6) S 3 rfl rfl (m_dec eJ7_fill_53178 6 rfl) ?_
  refine ms_icmp_ge (pc := 7) S (m_dec eJ7_fill_53178 7 rfl) rfl (fun q1 => ?_) (fun q1 => ?_)
  · refine ms_aload_n (pc := 10) S 0 rfl rfl (m_dec eJ7_fill_53178 8 rfl) ?_
    refine ms_iload_n (pc := 11) S 2 rfl rfl (m_dec eJ7_fill_53178 9 rfl) ?_
    refine ms_iload_n (pc := 12) S 1 rfl rfl (m_dec eJ7_fill_53178 10 rfl) ?_
    refine ms_grd fun g2 => ?_
    refine ms_iast (pc := 13) S g2 (m_dec eJ7_fill_53178 11 rfl) (fun h3 => ?_)
    refine ms_iinc (pc := 14) S (L' := [(0, m_r v0), (1, m_i v1), (2, m_i (v2 + 1)), (3, m_i v3)]) 2 rfl [1, 2, 0, 3] rfl (m_lt hN rfl) (m_dec eJ7_fill_53178 12 rfl) ?_
    refine ms_goto (pc := 17) S (m_dec eJ7_fill_53178 13 rfl) rfl ?_
    exact ih (v2 + 1) h3
  · exact ms_ret (pc := 20) E (m_dec eJ7_fill_53178 14 rfl) rfl
set_option maxHeartbeats 4000000 in
set_option maxRecDepth 20000 in
theorem sJ7_fill_53178 {Y : m_Y Unit} (S : m_Std Y RJ7 cJ7_fill_53178) (E : m_End Y cJ7_fill_53178 .return_ (fun _ => [])) {F : Nat} (hF : m_Rm Y F) (hFn : 0 ≤ F) (hN : Y.2.2.2.1 = 4) (v0 v1 : Int) (h : m_H) : m_Sim Y 0 [(0, m_r v0), (1, m_i v1)] [] h (tJ7_fill_53178 v0 v1 h) := by
  unfold tJ7_fill_53178
  refine ms_iconst (pc := 0) S (m_dec eJ7_fill_53178 0 rfl) ?_
  refine ms_istore_n (pc := 1) S (L' := [(0, m_r v0), (1, m_i v1), (2, m_i 0)]) [1, 2, 0] rfl rfl (m_lt hN rfl) (m_dec eJ7_fill_53178 1 rfl) ?_
  refine ms_aload_n (pc := 2) S 0 rfl rfl (m_dec eJ7_fill_53178 2 rfl) ?_
  refine ms_grd fun g1 => ?_
  refine ms_alen (pc := 3) S g1 (m_dec eJ7_fill_53178 3 rfl) ?_
  refine ms_nm (st := fun x2 => [m_i x2]) fun x2 => ?_
  refine ms_istore_n (pc := 4) S (L' := [(0, m_r v0), (1, m_i v1), (2, m_i 0), (3, m_i x2)]) [1, 2, 3, 0] rfl rfl (m_lt hN rfl) (m_dec eJ7_fill_53178 4 rfl) ?_
  exact sJ7_fill_53178_c5 S E hF hFn hN v0 v1 0 x2 h
theorem kJ7_fill_53178 (l : Launch) (d : m_D) (v0 v1 : Int) (h : m_H) : m_Con l d yJ7_fill_53178 cJ7_fill_53178 4 none 0 (fun _ => []) [m_r v0, m_i v1] h (tJ7_fill_53178 v0 v1 h) :=
  m_con2 (by decide +kernel) (Nat.le_of_ble_eq_true rfl) (fun Y hN hRm hr hI S hfin => sJ7_fill_53178 S (m_end_v S hr hfin) hRm (Nat.le_refl _) hN v0 v1 h)
set_option maxRecDepth 100000 in
theorem e10_entry : ∀ q ∈ ([(0, .iload_n 1, 1), (1, .ifCond .lt 15, 3), (4, .iload_n 1, 1), (5, .aload_n 0, 1), (6, .arraylength, 1), (7, .if_icmp .ge 9, 3), (10, .aload_n 0, 1), (11, .iload_n 1, 1), (12, .iaload, 1), (13, .goto 4, 3), (16, .iload_n 2, 1), (17, .ireturn, 1)] : List (Nat × Instr × Nat)), decode cX10_entry q.1 = .ok q.2 := by decide +kernel
set_option maxHeartbeats 4000000 in
set_option maxRecDepth 20000 in
theorem s10_entry {Y : m_Y Int} (S : m_Std Y RX10 cX10_entry) (E : m_End Y cX10_entry .ireturn (fun r => [m_i r])) {F : Nat} (hF : m_Rm Y F) (hFn : 0 ≤ F) (hN : Y.2.2.2.1 = 3) (v0 v1 v2 : Int) (h : m_H) : m_Sim Y 0 [(0, m_r v0), (1, m_i v1), (2, m_i v2)] [] h (t10_entry v0 v1 v2 h) := by
  unfold t10_entry
  refine ms_iload_n (pc := 0) S 1 rfl rfl (m_dec e10_entry 0 rfl) ?_
  refine ms_if_lt (pc := 1) S (m_dec e10_entry 1 rfl) rfl (fun q1 => ?_) (fun q1 => ?_)
  · refine ms_iload_n (pc := 16) S 2 rfl rfl (m_dec e10_entry 10 rfl) ?_
    exact ms_ret (pc := 17) E (m_dec e10_entry 11 rfl) rfl
  · refine ms_iload_n (pc := 4) S 1 rfl rfl (m_dec e10_entry 2 rfl) ?_
    refine ms_aload_n (pc := 5) S 0 rfl rfl (m_dec e10_entry 3 rfl) ?_
    refine ms_grd fun g2 => ?_
    refine ms_alen (pc := 6) S g2 (m_dec e10_entry 4 rfl) ?_
    refine ms_icmp_ge (pc := 7) S (m_dec e10_entry 5 rfl) rfl (fun q3 => ?_) (fun q3 => ?_)
    · refine ms_aload_n (pc := 10) S 0 rfl rfl (m_dec e10_entry 6 rfl) ?_
      refine ms_iload_n (pc := 11) S 1 rfl rfl (m_dec e10_entry 7 rfl) ?_
      refine ms_grd fun g4 => ?_
      refine ms_iald (pc := 12) S g4 (m_dec e10_entry 8 rfl) ?_
      refine ms_goto (pc := 13) S (m_dec e10_entry 9 rfl) rfl ?_
      exact ms_ret (pc := 17) E (m_dec e10_entry 11 rfl) rfl
    · refine ms_iload_n (pc := 16) S 2 rfl rfl (m_dec e10_entry 10 rfl) ?_
      exact ms_ret (pc := 17) E (m_dec e10_entry 11 rfl) rfl
theorem k10_entry (l : Launch) (d : m_D) (v0 v1 v2 : Int) (h : m_H) : m_Con l d yX10_entry cX10_entry 3 (some .int) 0 (fun r => [m_i r]) [m_r v0, m_i v1, m_i v2] h (t10_entry v0 v1 v2 h) :=
  m_con2 (by decide +kernel) (Nat.le_of_ble_eq_true rfl) (fun Y hN hRm hr hI S hfin => s10_entry S (m_end_i S hr hfin) hRm (Nat.le_refl _) hN v0 v1 v2 h)
set_option maxRecDepth 100000 in
theorem e1_longestFrom : ∀ q ∈ ([(0, .aload_n 0, 1), (1, .getfield 18, 3), (4, .iload_n 1, 1), (5, .iconst 0, 1), (6, .invokestatic 146, 3), (9, .ireturn, 1)] : List (Nat × Instr × Nat)), decode cX1_longestFrom q.1 = .ok q.2 := by decide +kernel
set_option maxHeartbeats 4000000 in
set_option maxRecDepth 20000 in
theorem s1_longestFrom {Y : m_Y Int} (S : m_Std Y RX1 cX1_longestFrom) (E : m_End Y cX1_longestFrom .ireturn (fun r => [m_i r])) {F : Nat} (hF : m_Rm Y F) (hFn : 1 ≤ F) (hN : Y.2.2.2.1 = 2) (v0 v1 : Int) (h : m_H) : m_Sim Y 0 [(0, m_r v0), (1, m_i v1)] [] h (t1_longestFrom v0 v1 h) := by
  unfold t1_longestFrom
  refine ms_aload_n (pc := 0) S 0 rfl rfl (m_dec e1_longestFrom 0 rfl) ?_
  refine ms_grd fun g1 => ?_
  refine ms_getf (pc := 1) S lf_X1_18 rfl (m_dec e1_longestFrom 1 rfl) g1 ?_
  refine ms_iload_n (pc := 4) S 1 rfl rfl (m_dec e1_longestFrom 2 rfl) ?_
  refine ms_iconst (pc := 5) S (m_dec e1_longestFrom 3 rfl) ?_
  refine ms_callSi (pc := 6) S hF (vals := [m_r (m_g h v0 8), m_i v1, m_i 0]) (st := [])  (hC := (k10_entry _ _ (m_g h v0 8) v1 0 h)) (hM := lm_X1_146) (hfr := (Nat.le_trans (by decide) hFn)) (hstk := rfl) (hcat := Nat.le_of_ble_eq_true rfl) (hd := (m_dec e1_longestFrom 4 rfl)) (k1 := fun r3 h2 => ?_)
  exact ms_ret (pc := 9) E (m_dec e1_longestFrom 5 rfl) rfl
theorem k1_longestFrom (l : Launch) (d : m_D) (v0 v1 : Int) (h : m_H) : m_Con l d yX1_longestFrom cX1_longestFrom 2 (some .int) 1 (fun r => [m_i r]) [m_r v0, m_i v1] h (t1_longestFrom v0 v1 h) :=
  m_con2 (by decide +kernel) (Nat.le_of_ble_eq_true rfl) (fun Y hN hRm hr hI S hfin => s1_longestFrom S (m_end_i S hr hfin) hRm (Nat.le_refl _) hN v0 v1 h)
set_option maxRecDepth 100000 in
theorem e10_setEntry : ∀ q ∈ ([(0, .iload_n 1, 1), (1, .ifCond .lt 13, 3), (4, .iload_n 1, 1), (5, .aload_n 0, 1), (6, .arraylength, 1), (7, .if_icmp .ge 7, 3), (10, .aload_n 0, 1), (11, .iload_n 1, 1), (12, .iload_n 2, 1), (13, .iastore, 1), (14, .return_, 1)] : List (Nat × Instr × Nat)), decode cX10_setEntry q.1 = .ok q.2 := by decide +kernel
set_option maxHeartbeats 4000000 in
set_option maxRecDepth 20000 in
theorem s10_setEntry {Y : m_Y Unit} (S : m_Std Y RX10 cX10_setEntry) (E : m_End Y cX10_setEntry .return_ (fun _ => [])) {F : Nat} (hF : m_Rm Y F) (hFn : 0 ≤ F) (hN : Y.2.2.2.1 = 3) (v0 v1 v2 : Int) (h : m_H) : m_Sim Y 0 [(0, m_r v0), (1, m_i v1), (2, m_i v2)] [] h (t10_setEntry v0 v1 v2 h) := by
  unfold t10_setEntry
  refine ms_iload_n (pc := 0) S 1 rfl rfl (m_dec e10_setEntry 0 rfl) ?_
  refine ms_if_lt (pc := 1) S (m_dec e10_setEntry 1 rfl) rfl (fun q1 => ?_) (fun q1 => ?_)
  · exact ms_ret (pc := 14) E (m_dec e10_setEntry 10 rfl) rfl
  · refine ms_iload_n (pc := 4) S 1 rfl rfl (m_dec e10_setEntry 2 rfl) ?_
    refine ms_aload_n (pc := 5) S 0 rfl rfl (m_dec e10_setEntry 3 rfl) ?_
    refine ms_grd fun g2 => ?_
    refine ms_alen (pc := 6) S g2 (m_dec e10_setEntry 4 rfl) ?_
    refine ms_icmp_ge (pc := 7) S (m_dec e10_setEntry 5 rfl) rfl (fun q3 => ?_) (fun q3 => ?_)
    · refine ms_aload_n (pc := 10) S 0 rfl rfl (m_dec e10_setEntry 6 rfl) ?_
      refine ms_iload_n (pc := 11) S 1 rfl rfl (m_dec e10_setEntry 7 rfl) ?_
      refine ms_iload_n (pc := 12) S 2 rfl rfl (m_dec e10_setEntry 8 rfl) ?_
      refine ms_grd fun g4 => ?_
      refine ms_iast (pc := 13) S g4 (m_dec e10_setEntry 9 rfl) (fun h5 => ?_)
      exact ms_ret (pc := 14) E (m_dec e10_setEntry 10 rfl) rfl
    · exact ms_ret (pc := 14) E (m_dec e10_setEntry 10 rfl) rfl
theorem k10_setEntry (l : Launch) (d : m_D) (v0 v1 v2 : Int) (h : m_H) : m_Con l d yX10_setEntry cX10_setEntry 3 none 0 (fun _ => []) [m_r v0, m_i v1, m_i v2] h (t10_setEntry v0 v1 v2 h) :=
  m_con2 (by decide +kernel) (Nat.le_of_ble_eq_true rfl) (fun Y hN hRm hr hI S hfin => s10_setEntry S (m_end_v S hr hfin) hRm (Nat.le_refl _) hN v0 v1 v2 h)
set_option maxRecDepth 100000 in
theorem e1_measureWay : ∀ q ∈ ([(0, .aload_n 0, 1), (1, .getfield 12, 3), (4, .getfield 132, 3), (7, .astore_n 2, 1), (8, .aload_n 0, 1), (9, .getfield 12, 3), (12, .invokevirtual 62, 3), (15, .aload_n 2, 1), (16, .arraylength, 1), (17, .aload_n 0, 1), (18, .getfield 25, 3), (21, .arraylength, 1), (22, .iconst 1, 1), (23, .isub, 1), (24, .invokestatic 135, 3), (27, .invokestatic 135, 3), (30, .istore_n 3, 1), (31, .aload_n 0, 1), (32, .getfield 25, 3), (35, .iconst 0, 1), (36, .invokestatic 122, 3), (39, .aload_n 0, 1), (40, .getfield 36, 3), (43, .invokevirtual 62, 3), (46, .iconst 1, 1), (47, .isub, 1), (48, .istore 4, 2), (50, .iload 4, 2), (52, .ifCond .lt 109, 3), (55, .aload_n 0, 1), (56, .getfield 36, 3), (59, .iload 4, 2), (61, .invokevirtual 107, 3), (64, .istore 5, 2), (66, .aload_n 0, 1), (67, .iload 4, 2), (69, .invokevirtual 139, 3), (72, .istore 6, 2), (74, .iconst 0, 1), (75, .istore 7, 2), (77, .iload 7, 2), (79, .iload_n 3, 1), (80, .if_icmp .ge 64, 3), (83, .iload 5, 2), (85, .aload_n 2, 1), (86, .iload 7, 2), (88, .iaload, 1), (89, .isub, 1), (90, .invokestatic 111, 3), (93, .istore 8, 2), (95, .iload 8, 2), (97, .iload_n 1, 1), (98, .if_icmp .gt 17, 3), (101, .aload_n 0, 1), (102, .getfield 25, 3), (105, .iload 7, 2), (107, .iconst 1, 1), (108, .iadd, 1), (109, .iaload, 1), (110, .iconst 1, 1), (111, .iadd, 1), (112, .goto 4, 3), (115, .iconst 0, 1), (116, .istore 9, 2), (118, .aload_n 0, 1), (119, .getfield 25, 3), (122, .iload 7, 2), (124, .iload 9, 2), (126, .iastore, 1), (127, .iload 9, 2), (129, .iload 6, 2), (131, .if_icmp .le 7, 3), (134, .iload 9, 2), (136, .istore 6, 2), (138, .iinc 7 1, 3), (141, .goto (-64), 3), (144, .aload_n 0, 1), (145, .getfield 18, 3), (148, .iload 4, 2), (150, .iload 6, 2), (152, .invokestatic 142, 3), (155, .iinc 4 (-1), 3), (158, .goto (-108), 3), (161, .return_, 1)] : List (Nat × Instr × Nat)), decode cX1_measureWay q.1 = .ok q.2 := by decide +kernel
set_option maxHeartbeats 4000000 in
set_option maxRecDepth 20000 in
theorem s1_measureWay_x50 {Y : m_Y Unit} (S : m_Std Y RX1 cX1_measureWay) (E : m_End Y cX1_measureWay .return_ (fun _ => [])) {F : Nat} (hF : m_Rm Y F) (hFn : 2 ≤ F) (hN : Y.2.2.2.1 = 10) : ∀ (cc : Int) (v0 v1 v2 v3 v4 v5 v6 v7 : Int) (h : m_H) (r : Unit × m_H), t1_measureWay_x50 cc v0 v1 v2 v3 v4 v5 v6 v7 h = some r → (cc = 50 → m_Sim Y 50 [(0, m_r v0), (1, m_i v1), (2, m_r v2), (3, m_i v3), (4, m_i v4)] [] h (some r)) ∧ (cc = 77 → m_Sim Y 77 [(0, m_r v0), (1, m_i v1), (2, m_r v2), (3, m_i v3), (4, m_i v4), (5, m_i v5), (6, m_i v6), (7, m_i v7)] [] h (some r)) := by
  intro cc v0 v1 v2 v3 v4 v5 v6 v7 h r e
  refine t1_measureWay_x50.partial_correctness v0 v1 v2 v3 (motive := fun cc v4 v5 v6 v7 h r => (cc = 50 → m_Sim Y 50 [(0, m_r v0), (1, m_i v1), (2, m_r v2), (3, m_i v3), (4, m_i v4)] [] h (some r)) ∧ (cc = 77 → m_Sim Y 77 [(0, m_r v0), (1, m_i v1), (2, m_r v2), (3, m_i v3), (4, m_i v4), (5, m_i v5), (6, m_i v6), (7, m_i v7)] [] h (some r))) ?_ cc v4 v5 v6 v7 h r e
  intro f ih cc v4 v5 v6 v7 h r e
  have ih50 : ∀ (v4 v5 v6 v7 : Int) (h : m_H), m_Sim Y 50 [(0, m_r v0), (1, m_i v1), (2, m_r v2), (3, m_i v3), (4, m_i v4)] [] h (f 50 v4 v5 v6 v7 h ) := fun v4 v5 v6 v7 h  => ms_all fun r e => (ih 50 v4 v5 v6 v7 h r e).1 rfl
  have ih77 : ∀ (v4 v5 v6 v7 : Int) (h : m_H), m_Sim Y 77 [(0, m_r v0), (1, m_i v1), (2, m_r v2), (3, m_i v3), (4, m_i v4), (5, m_i v5), (6, m_i v6), (7, m_i v7)] [] h (f 77 v4 v5 v6 v7 h ) := fun v4 v5 v6 v7 h  => ms_all fun r e => (ih 77 v4 v5 v6 v7 h r e).2 rfl
  refine ⟨?_, ?_⟩
  · intro q0
    subst q0
    rw [if_pos rfl] at e
    refine ms_use ?_ e
    clear e r
    refine ms_iload (pc := 50) S 4 rfl (m_dec e1_measureWay 27 rfl) ?_
    refine ms_if_lt (pc := 52) S (m_dec e1_measureWay 28 rfl) rfl (fun q1 => ?_) (fun q1 => ?_)
    · exact ms_ret (pc := 161) E (m_dec e1_measureWay 83 rfl) rfl
    · refine ms_aload_n (pc := 55) S 0 rfl rfl (m_dec e1_measureWay 29 rfl) ?_
      refine ms_grd fun g2 => ?_
      refine ms_getf (pc := 56) S lf_X1_36 rfl (m_dec e1_measureWay 30 rfl) g2 ?_
      refine ms_iload (pc := 59) S 4 rfl (m_dec e1_measureWay 31 rfl) ?_
      refine ms_grd fun g3 => ?_
      refine ms_callVi (pc := 61) S hF (vals := [m_i v4]) (st := []) (hc := vw_5) (hci := by decide) (hcy := rfl) (ht := g3) (hC := (k5_get _ _ (m_g h v0 1) v4 h)) (hM := lm_X1_107) (hfr := (Nat.le_trans (by decide) hFn)) (hstk := rfl) (hcat := Nat.le_of_ble_eq_true rfl) (hd := (m_dec e1_measureWay 32 rfl)) (k1 := fun r5 h4 => ?_)
      refine ms_istore (pc := 64) S (L' := [(0, m_r v0), (1, m_i v1), (2, m_r v2), (3, m_i v3), (4, m_i v4), (5, m_i r5)]) [1, 2, 3, 4, 5, 0] rfl (m_lt hN rfl) (m_dec e1_measureWay 33 rfl) ?_
      refine ms_aload_n (pc := 66) S 0 rfl rfl (m_dec e1_measureWay 34 rfl) ?_
      refine ms_iload (pc := 67) S 4 rfl (m_dec e1_measureWay 35 rfl) ?_
      refine ms_grd fun g6 => ?_
      refine ms_callVi (pc := 69) S hF (vals := [m_i v4]) (st := []) (hc := vw_1) (hci := by decide) (hcy := rfl) (ht := g6) (hC := (k1_longestFrom _ _ v0 v4 h4)) (hM := lm_X1_139) (hfr := (Nat.le_trans (by decide) hFn)) (hstk := rfl) (hcat := Nat.le_of_ble_eq_true rfl) (hd := (m_dec e1_measureWay 36 rfl)) (k1 := fun r8 h7 => ?_)
      refine ms_istore (pc := 72) S (L' := [(0, m_r v0), (1, m_i v1), (2, m_r v2), (3, m_i v3), (4, m_i v4), (5, m_i r5), (6, m_i r8)]) [1, 2, 3, 4, 5, 6, 0] rfl (m_lt hN rfl) (m_dec e1_measureWay 37 rfl) ?_
      refine ms_iconst (pc := 74) S (m_dec e1_measureWay 38 rfl) ?_
      refine ms_istore (pc := 75) S (L' := [(0, m_r v0), (1, m_i v1), (2, m_r v2), (3, m_i v3), (4, m_i v4), (5, m_i r5), (6, m_i r8), (7, m_i 0)]) [1, 2, 3, 4, 5, 6, 7, 0] rfl (m_lt hN rfl) (m_dec e1_measureWay 39 rfl) ?_
      exact ih77 v4 r5 r8 0 h7
  · intro q0
    subst q0
    rw [if_neg (by decide), if_pos rfl] at e
    refine ms_use ?_ e
    clear e r
    refine ms_iload (pc := 77) S 7 rfl (m_dec e1_measureWay 40 rfl) ?_
    refine ms_iload_n (pc := 79) S 3 rfl rfl (m_dec e1_measureWay 41 rfl) ?_
    refine ms_icmp_ge (pc := 80) S (m_dec e1_measureWay 42 rfl) rfl (fun q1 => ?_) (fun q1 => ?_)
    · refine ms_iload (pc := 83) S 5 rfl (m_dec e1_measureWay 43 rfl) ?_
      refine ms_aload_n (pc := 85) S 2 rfl rfl (m_dec e1_measureWay 44 rfl) ?_
      refine ms_iload (pc := 86) S 7 rfl (m_dec e1_measureWay 45 rfl) ?_
      refine ms_grd fun g2 => ?_
      refine ms_iald (pc := 88) S g2 (m_dec e1_measureWay 46 rfl) ?_
      refine ms_isub (pc := 89) S (m_dec e1_measureWay 47 rfl) ?_
      refine ms_mabs (pc := 90) S hF (Nat.le_trans (by decide) hFn) ⟨w_1379, w_670, w_136, w_671⟩ (Nat.le_of_ble_eq_true rfl) (m_dec e1_measureWay 48 rfl) ?_
      refine ms_nm (st := fun x3 => [m_i x3]) fun x3 => ?_
      refine ms_istore (pc := 93) S (L' := [(0, m_r v0), (1, m_i v1), (2, m_r v2), (3, m_i v3), (4, m_i v4), (5, m_i v5), (6, m_i v6), (7, m_i v7), (8, m_i x3)]) [1, 2, 3, 4, 5, 6, 7, 8, 0] rfl (m_lt hN rfl) (m_dec e1_measureWay 49 rfl) ?_
      refine ms_iload (pc := 95) S 8 rfl (m_dec e1_measureWay 50 rfl) ?_
      refine ms_iload_n (pc := 97) S 1 rfl rfl (m_dec e1_measureWay 51 rfl) ?_
      refine ms_icmp_gt (pc := 98) S (m_dec e1_measureWay 52 rfl) rfl (fun q4 => ?_) (fun q4 => ?_)
      · refine ms_iconst (pc := 115) S (m_dec e1_measureWay 62 rfl) ?_
        refine ms_istore (pc := 116) S (L' := [(0, m_r v0), (1, m_i v1), (2, m_r v2), (3, m_i v3), (4, m_i v4), (5, m_i v5), (6, m_i v6), (7, m_i v7), (9, m_i 0)]) [1, 2, 3, 4, 5, 6, 7, 8, 0] rfl (m_lt hN rfl) (m_dec e1_measureWay 63 rfl) ?_
        refine ms_aload_n (pc := 118) S 0 rfl rfl (m_dec e1_measureWay 64 rfl) ?_
        refine ms_grd fun g5 => ?_
        refine ms_getf (pc := 119) S lf_X1_25 rfl (m_dec e1_measureWay 65 rfl) g5 ?_
        refine ms_iload (pc := 122) S 7 rfl (m_dec e1_measureWay 66 rfl) ?_
        refine ms_iload (pc := 124) S 8 rfl (m_dec e1_measureWay 67 rfl) ?_
        refine ms_grd fun g6 => ?_
        refine ms_iast (pc := 126) S g6 (m_dec e1_measureWay 68 rfl) (fun h7 => ?_)
        refine ms_iload (pc := 127) S 8 rfl (m_dec e1_measureWay 69 rfl) ?_
        refine ms_iload (pc := 129) S 6 rfl (m_dec e1_measureWay 70 rfl) ?_
        refine ms_icmp_le (pc := 131) S (m_dec e1_measureWay 71 rfl) rfl (fun q8 => ?_) (fun q8 => ?_)
        · refine ms_iload (pc := 134) S 8 rfl (m_dec e1_measureWay 72 rfl) ?_
          refine ms_istore (pc := 136) S (L' := [(0, m_r v0), (1, m_i v1), (2, m_r v2), (3, m_i v3), (4, m_i v4), (5, m_i v5), (6, m_i 0), (7, m_i v7)]) [1, 2, 3, 4, 5, 6, 0, 7] rfl (m_lt hN rfl) (m_dec e1_measureWay 73 rfl) ?_
          refine ms_iinc (pc := 138) S (L' := [(0, m_r v0), (1, m_i v1), (2, m_r v2), (3, m_i v3), (4, m_i v4), (5, m_i v5), (6, m_i 0), (7, m_i (v7 + 1))]) 7 rfl [1, 2, 3, 4, 5, 6, 7, 0] rfl (m_lt hN rfl) (m_dec e1_measureWay 74 rfl) ?_
          refine ms_goto (pc := 141) S (m_dec e1_measureWay 75 rfl) rfl ?_
          exact ih77 v4 v5 0 (v7 + 1) h7
        · refine ms_iinc (pc := 138) S (L' := [(0, m_r v0), (1, m_i v1), (2, m_r v2), (3, m_i v3), (4, m_i v4), (5, m_i v5), (6, m_i v6), (7, m_i (v7 + 1))]) 7 rfl [1, 2, 3, 4, 5, 6, 7, 0] rfl (m_lt hN rfl) (m_dec e1_measureWay 74 rfl) ?_
          refine ms_goto (pc := 141) S (m_dec e1_measureWay 75 rfl) rfl ?_
          exact ih77 v4 v5 v6 (v7 + 1) h7
      · refine ms_aload_n (pc := 101) S 0 rfl rfl (m_dec e1_measureWay 53 rfl) ?_
        refine ms_grd fun g9 => ?_
        refine ms_getf (pc := 102) S lf_X1_25 rfl (m_dec e1_measureWay 54 rfl) g9 ?_
        refine ms_iload (pc := 105) S 7 rfl (m_dec e1_measureWay 55 rfl) ?_
        refine ms_iconst (pc := 107) S (m_dec e1_measureWay 56 rfl) ?_
        refine ms_iadd (pc := 108) S (m_dec e1_measureWay 57 rfl) ?_
        refine ms_grd fun g10 => ?_
        refine ms_iald (pc := 109) S g10 (m_dec e1_measureWay 58 rfl) ?_
        refine ms_iconst (pc := 110) S (m_dec e1_measureWay 59 rfl) ?_
        refine ms_iadd (pc := 111) S (m_dec e1_measureWay 60 rfl) ?_
        refine ms_goto (pc := 112) S (m_dec e1_measureWay 61 rfl) rfl ?_
        refine ms_nm (st := fun x11 => [m_i x11]) fun x11 => ?_
        refine ms_istore (pc := 116) S (L' := [(0, m_r v0), (1, m_i v1), (2, m_r v2), (3, m_i v3), (4, m_i v4), (5, m_i v5), (6, m_i v6), (7, m_i v7), (9, m_i x11)]) [1, 2, 3, 4, 5, 6, 7, 8, 0] rfl (m_lt hN rfl) (m_dec e1_measureWay 63 rfl) ?_
        refine ms_aload_n (pc := 118) S 0 rfl rfl (m_dec e1_measureWay 64 rfl) ?_
        refine ms_getf (pc := 119) S lf_X1_25 rfl (m_dec e1_measureWay 65 rfl) g9 ?_
        refine ms_iload (pc := 122) S 7 rfl (m_dec e1_measureWay 66 rfl) ?_
        refine ms_iload (pc := 124) S 8 rfl (m_dec e1_measureWay 67 rfl) ?_
        refine ms_grd fun g12 => ?_
        refine ms_iast (pc := 126) S g12 (m_dec e1_measureWay 68 rfl) (fun h13 => ?_)
        refine ms_iload (pc := 127) S 8 rfl (m_dec e1_measureWay 69 rfl) ?_
        refine ms_iload (pc := 129) S 6 rfl (m_dec e1_measureWay 70 rfl) ?_
        refine ms_icmp_le (pc := 131) S (m_dec e1_measureWay 71 rfl) rfl (fun q14 => ?_) (fun q14 => ?_)
        · refine ms_iload (pc := 134) S 8 rfl (m_dec e1_measureWay 72 rfl) ?_
          refine ms_istore (pc := 136) S (L' := [(0, m_r v0), (1, m_i v1), (2, m_r v2), (3, m_i v3), (4, m_i v4), (5, m_i v5), (6, m_i x11), (7, m_i v7)]) [1, 2, 3, 4, 5, 6, 0, 7] rfl (m_lt hN rfl) (m_dec e1_measureWay 73 rfl) ?_
          refine ms_iinc (pc := 138) S (L' := [(0, m_r v0), (1, m_i v1), (2, m_r v2), (3, m_i v3), (4, m_i v4), (5, m_i v5), (6, m_i x11), (7, m_i (v7 + 1))]) 7 rfl [1, 2, 3, 4, 5, 6, 7, 0] rfl (m_lt hN rfl) (m_dec e1_measureWay 74 rfl) ?_
          refine ms_goto (pc := 141) S (m_dec e1_measureWay 75 rfl) rfl ?_
          exact ih77 v4 v5 x11 (v7 + 1) h13
        · refine ms_iinc (pc := 138) S (L' := [(0, m_r v0), (1, m_i v1), (2, m_r v2), (3, m_i v3), (4, m_i v4), (5, m_i v5), (6, m_i v6), (7, m_i (v7 + 1))]) 7 rfl [1, 2, 3, 4, 5, 6, 7, 0] rfl (m_lt hN rfl) (m_dec e1_measureWay 74 rfl) ?_
          refine ms_goto (pc := 141) S (m_dec e1_measureWay 75 rfl) rfl ?_
          exact ih77 v4 v5 v6 (v7 + 1) h13
    · refine ms_aload_n (pc := 144) S 0 rfl rfl (m_dec e1_measureWay 76 rfl) ?_
      refine ms_grd fun g15 => ?_
      refine ms_getf (pc := 145) S lf_X1_18 rfl (m_dec e1_measureWay 77 rfl) g15 ?_
      refine ms_iload (pc := 148) S 4 rfl (m_dec e1_measureWay 78 rfl) ?_
      refine ms_iload (pc := 150) S 6 rfl (m_dec e1_measureWay 79 rfl) ?_
      refine ms_callSv (pc := 152) S hF (vals := [m_r (m_g h v0 8), m_i v4, m_i v6]) (st := [])  (hC := (k10_setEntry _ _ (m_g h v0 8) v4 v6 h)) (hM := lm_X1_142) (hfr := (Nat.le_trans (by decide) hFn)) (hstk := rfl) (hcat := Nat.le_of_ble_eq_true rfl) (hd := (m_dec e1_measureWay 80 rfl)) (k1 := fun h16 => ?_)
      refine ms_iinc (pc := 155) S (L' := [(0, m_r v0), (1, m_i v1), (2, m_r v2), (3, m_i v3), (4, m_i (v4 + (-1)))]) 4 rfl [1, 2, 3, 4, 0] rfl (m_lt hN rfl) (m_dec e1_measureWay 81 rfl) ?_
      refine ms_goto (pc := 158) S (m_dec e1_measureWay 82 rfl) rfl ?_
      exact ih50 (v4 + (-1)) 0 0 0 h16
set_option maxHeartbeats 4000000 in
set_option maxRecDepth 20000 in
theorem s1_measureWay_c50 {Y : m_Y Unit} (S : m_Std Y RX1 cX1_measureWay) (E : m_End Y cX1_measureWay .return_ (fun _ => [])) {F : Nat} (hF : m_Rm Y F) (hFn : 2 ≤ F) (hN : Y.2.2.2.1 = 10) (v0 v1 v2 v3 v4 v5 v6 v7 : Int) (h : m_H) : m_Sim Y 50 [(0, m_r v0), (1, m_i v1), (2, m_r v2), (3, m_i v3), (4, m_i v4)] [] h (t1_measureWay_x50 50 v0 v1 v2 v3 v4 v5 v6 v7 h) := ms_all fun r e => (s1_measureWay_x50 S E hF hFn hN 50 v0 v1 v2 v3 v4 v5 v6 v7 h r e).1 rfl
set_option maxHeartbeats 4000000 in
set_option maxRecDepth 20000 in
theorem s1_measureWay_c77 {Y : m_Y Unit} (S : m_Std Y RX1 cX1_measureWay) (E : m_End Y cX1_measureWay .return_ (fun _ => [])) {F : Nat} (hF : m_Rm Y F) (hFn : 2 ≤ F) (hN : Y.2.2.2.1 = 10) (v0 v1 v2 v3 v4 v5 v6 v7 : Int) (h : m_H) : m_Sim Y 77 [(0, m_r v0), (1, m_i v1), (2, m_r v2), (3, m_i v3), (4, m_i v4), (5, m_i v5), (6, m_i v6), (7, m_i v7)] [] h (t1_measureWay_x50 77 v0 v1 v2 v3 v4 v5 v6 v7 h) := ms_all fun r e => (s1_measureWay_x50 S E hF hFn hN 77 v0 v1 v2 v3 v4 v5 v6 v7 h r e).2 rfl
set_option maxHeartbeats 4000000 in
set_option maxRecDepth 20000 in
theorem s1_measureWay {Y : m_Y Unit} (S : m_Std Y RX1 cX1_measureWay) (E : m_End Y cX1_measureWay .return_ (fun _ => [])) {F : Nat} (hF : m_Rm Y F) (hFn : 2 ≤ F) (hN : Y.2.2.2.1 = 10) (v0 v1 : Int) (h : m_H) : m_Sim Y 0 [(0, m_r v0), (1, m_i v1)] [] h (t1_measureWay v0 v1 h) := by
  unfold t1_measureWay
  refine ms_aload_n (pc := 0) S 0 rfl rfl (m_dec e1_measureWay 0 rfl) ?_
  refine ms_grd fun g1 => ?_
  refine ms_getf (pc := 1) S lf_X1_12 rfl (m_dec e1_measureWay 1 rfl) g1 ?_
  refine ms_grd fun g2 => ?_
  refine ms_getf (pc := 4) S lf_X1_132 rfl (m_dec e1_measureWay 2 rfl) g2 ?_
  refine ms_nm (st := fun x3 => [m_r x3]) fun x3 => ?_
  refine ms_astore_n (pc := 7) S (L' := [(0, m_r v0), (1, m_i v1), (2, m_r x3)]) [1, 2, 0] rfl rfl (m_lt hN rfl) (m_dec e1_measureWay 3 rfl) ?_
  refine ms_aload_n (pc := 8) S 0 rfl rfl (m_dec e1_measureWay 4 rfl) ?_
  refine ms_getf (pc := 9) S lf_X1_12 rfl (m_dec e1_measureWay 5 rfl) g1 ?_
  refine ms_callVi (pc := 12) S hF (vals := []) (st := []) (hc := vw_5) (hci := by decide) (hcy := rfl) (ht := g2) (hC := (k5_size _ _ (m_g h v0 2) h)) (hM := lm_X1_62) (hfr := (Nat.le_trans (by decide) hFn)) (hstk := rfl) (hcat := Nat.le_of_ble_eq_true rfl) (hd := (m_dec e1_measureWay 6 rfl)) (k1 := fun r5 h4 => ?_)
  refine ms_aload_n (pc := 15) S 2 rfl rfl (m_dec e1_measureWay 7 rfl) ?_
  refine ms_grd fun g6 => ?_
  refine ms_alen (pc := 16) S g6 (m_dec e1_measureWay 8 rfl) ?_
  refine ms_aload_n (pc := 17) S 0 rfl rfl (m_dec e1_measureWay 9 rfl) ?_
  refine ms_grd fun g7 => ?_
  refine ms_getf (pc := 18) S lf_X1_25 rfl (m_dec e1_measureWay 10 rfl) g7 ?_
  refine ms_grd fun g8 => ?_
  refine ms_alen (pc := 21) S g8 (m_dec e1_measureWay 11 rfl) ?_
  refine ms_iconst (pc := 22) S (m_dec e1_measureWay 12 rfl) ?_
  refine ms_isub (pc := 23) S (m_dec e1_measureWay 13 rfl) ?_
  refine ms_mmin (pc := 24) S hF (Nat.le_trans (by decide) hFn) ⟨w_1405, w_498, w_136, w_499⟩ (Nat.le_of_ble_eq_true rfl) (m_dec e1_measureWay 14 rfl) ?_
  refine ms_mmin (pc := 27) S hF (Nat.le_trans (by decide) hFn) ⟨w_1405, w_498, w_136, w_499⟩ (Nat.le_of_ble_eq_true rfl) (m_dec e1_measureWay 15 rfl) ?_
  refine ms_nm (st := fun x9 => [m_i x9]) fun x9 => ?_
  refine ms_istore_n (pc := 30) S (L' := [(0, m_r v0), (1, m_i v1), (2, m_r x3), (3, m_i x9)]) [1, 2, 3, 0] rfl rfl (m_lt hN rfl) (m_dec e1_measureWay 16 rfl) ?_
  refine ms_aload_n (pc := 31) S 0 rfl rfl (m_dec e1_measureWay 17 rfl) ?_
  refine ms_getf (pc := 32) S lf_X1_25 rfl (m_dec e1_measureWay 18 rfl) g7 ?_
  refine ms_iconst (pc := 35) S (m_dec e1_measureWay 19 rfl) ?_
  refine ms_callSv (pc := 36) S hF (vals := [m_r (m_g h4 v0 10), m_i 0]) (st := [])  (hC := (kJ7_fill_53178 _ _ (m_g h4 v0 10) 0 h4)) (hM := lm_X1_122) (hfr := (Nat.le_trans (by decide) hFn)) (hstk := rfl) (hcat := Nat.le_of_ble_eq_true rfl) (hd := (m_dec e1_measureWay 20 rfl)) (k1 := fun h10 => ?_)
  refine ms_aload_n (pc := 39) S 0 rfl rfl (m_dec e1_measureWay 21 rfl) ?_
  refine ms_grd fun g12 => ?_
  refine ms_getf (pc := 40) S lf_X1_36 rfl (m_dec e1_measureWay 22 rfl) g12 ?_
  refine ms_grd fun g13 => ?_
  refine ms_callVi (pc := 43) S hF (vals := []) (st := []) (hc := vw_5) (hci := by decide) (hcy := rfl) (ht := g13) (hC := (k5_size _ _ (m_g h10 v0 1) h10)) (hM := lm_X1_62) (hfr := (Nat.le_trans (by decide) hFn)) (hstk := rfl) (hcat := Nat.le_of_ble_eq_true rfl) (hd := (m_dec e1_measureWay 23 rfl)) (k1 := fun r15 h14 => ?_)
  refine ms_iconst (pc := 46) S (m_dec e1_measureWay 24 rfl) ?_
  refine ms_isub (pc := 47) S (m_dec e1_measureWay 25 rfl) ?_
  refine ms_nm (st := fun x16 => [m_i x16]) fun x16 => ?_
  refine ms_istore (pc := 48) S (L' := [(0, m_r v0), (1, m_i v1), (2, m_r x3), (3, m_i x9), (4, m_i x16)]) [1, 2, 3, 4, 0] rfl (m_lt hN rfl) (m_dec e1_measureWay 26 rfl) ?_
  exact s1_measureWay_c50 S E hF hFn hN v0 v1 x3 x9 x16 0 0 0 h14
theorem k1_measureWay (l : Launch) (d : m_D) (v0 v1 : Int) (h : m_H) : m_Con l d yX1_measureWay cX1_measureWay 10 none 2 (fun _ => []) [m_r v0, m_i v1] h (t1_measureWay v0 v1 h) :=
  m_con2 (by decide +kernel) (Nat.le_of_ble_eq_true rfl) (fun Y hN hRm hr hI S hfin => s1_measureWay S (m_end_v S hr hfin) hRm (Nat.le_refl _) hN v0 v1 h)
set_option maxRecDepth 100000 in
theorem e1_measure : ∀ q ∈ ([(0, .aload_n 0, 1), (1, .getfield 28, 3), (4, .iload_n 1, 1), (5, .if_icmp .ne 18, 3), (8, .aload_n 0, 1), (9, .getfield 116, 3), (12, .aload_n 0, 1), (13, .getfield 32, 3), (16, .getfield 119, 3), (19, .if_icmp .ne 4, 3), (22, .return_, 1), (23, .aload_n 0, 1), (24, .getfield 18, 3), (27, .iconst 0, 1), (28, .invokestatic 122, 3), (31, .iconst 0, 1), (32, .istore_n 2, 1), (33, .iload_n 2, 1), (34, .aload_n 0, 1), (35, .getfield 32, 3), (38, .getfield 76, 3), (41, .if_icmp .ge 46, 3), (44, .aload_n 0, 1), (45, .iload_n 2, 1), (46, .invokevirtual 79, 3), (49, .astore_n 3, 1), (50, .iconst 0, 1), (51, .istore 4, 2), (53, .iload 4, 2), (55, .iconst 4, 1), (56, .if_icmp .ge 25, 3), (59, .aload_n 3, 1), (60, .ifnull 21, 3), (63, .aload_n 0, 1), (64, .aload_n 3, 1), (65, .iload 4, 2), (67, .invokevirtual 83, 3), (70, .aload_n 0, 1), (71, .iload_n 1, 1), (72, .invokevirtual 128, 3), (75, .iinc 4 1, 3), (78, .goto (-25), 3), (81, .iinc 2 1, 3), (84, .goto (-51), 3), (87, .aload_n 0, 1), (88, .iload_n 1, 1), (89, .putfield 28, 3), (92, .aload_n 0, 1), (93, .aload_n 0, 1), (94, .getfield 32, 3), (97, .getfield 119, 3), (100, .putfield 116, 3), (103, .return_, 1)] : List (Nat × Instr × Nat)), decode cX1_measure q.1 = .ok q.2 := by decide +kernel
set_option maxHeartbeats 4000000 in
set_option maxRecDepth 20000 in
theorem s1_measure_x33 {Y : m_Y Unit} (S : m_Std Y RX1 cX1_measure) (E : m_End Y cX1_measure .return_ (fun _ => [])) {F : Nat} (hF : m_Rm Y F) (hFn : 5 ≤ F) (hN : Y.2.2.2.1 = 5) : ∀ (cc : Int) (v0 v1 v2 v3 v4 : Int) (h : m_H) (r : Unit × m_H), t1_measure_x33 cc v0 v1 v2 v3 v4 h = some r → (cc = 33 → m_Sim Y 33 [(0, m_r v0), (1, m_i v1), (2, m_i v2)] [] h (some r)) ∧ (cc = 53 → m_Sim Y 53 [(0, m_r v0), (1, m_i v1), (2, m_i v2), (3, m_r v3), (4, m_i v4)] [] h (some r)) := by
  intro cc v0 v1 v2 v3 v4 h r e
  refine t1_measure_x33.partial_correctness v0 v1 (motive := fun cc v2 v3 v4 h r => (cc = 33 → m_Sim Y 33 [(0, m_r v0), (1, m_i v1), (2, m_i v2)] [] h (some r)) ∧ (cc = 53 → m_Sim Y 53 [(0, m_r v0), (1, m_i v1), (2, m_i v2), (3, m_r v3), (4, m_i v4)] [] h (some r))) ?_ cc v2 v3 v4 h r e
  intro f ih cc v2 v3 v4 h r e
  have ih33 : ∀ (v2 v3 v4 : Int) (h : m_H), m_Sim Y 33 [(0, m_r v0), (1, m_i v1), (2, m_i v2)] [] h (f 33 v2 v3 v4 h ) := fun v2 v3 v4 h  => ms_all fun r e => (ih 33 v2 v3 v4 h r e).1 rfl
  have ih53 : ∀ (v2 v3 v4 : Int) (h : m_H), m_Sim Y 53 [(0, m_r v0), (1, m_i v1), (2, m_i v2), (3, m_r v3), (4, m_i v4)] [] h (f 53 v2 v3 v4 h ) := fun v2 v3 v4 h  => ms_all fun r e => (ih 53 v2 v3 v4 h r e).2 rfl
  refine ⟨?_, ?_⟩
  · intro q0
    subst q0
    rw [if_pos rfl] at e
    refine ms_use ?_ e
    clear e r
    refine ms_iload_n (pc := 33) S 2 rfl rfl (m_dec e1_measure 17 rfl) ?_
    refine ms_aload_n (pc := 34) S 0 rfl rfl (m_dec e1_measure 18 rfl) ?_
    refine ms_grd fun g1 => ?_
    refine ms_getf (pc := 35) S lf_X1_32 rfl (m_dec e1_measure 19 rfl) g1 ?_
    refine ms_grd fun g2 => ?_
    refine ms_getf (pc := 38) S lf_X1_76 rfl (m_dec e1_measure 20 rfl) g2 ?_
    refine ms_icmp_ge (pc := 41) S (m_dec e1_measure 21 rfl) rfl (fun q3 => ?_) (fun q3 => ?_)
    · refine ms_aload_n (pc := 44) S 0 rfl rfl (m_dec e1_measure 22 rfl) ?_
      refine ms_iload_n (pc := 45) S 2 rfl rfl (m_dec e1_measure 23 rfl) ?_
      refine ms_callVa (pc := 46) S hF (vals := [m_i v2]) (st := []) (hc := vw_1) (hci := by decide) (hcy := rfl) (ht := g1) (hC := (k1_layable _ _ v0 v2 h)) (hM := lm_X1_79) (hfr := (Nat.le_trans (by decide) hFn)) (hstk := rfl) (hcat := Nat.le_of_ble_eq_true rfl) (hd := (m_dec e1_measure 24 rfl)) (k1 := fun r5 h4 => ?_)
      refine ms_astore_n (pc := 49) S (L' := [(0, m_r v0), (1, m_i v1), (2, m_i v2), (3, m_r r5)]) [1, 2, 3, 0] rfl rfl (m_lt hN rfl) (m_dec e1_measure 25 rfl) ?_
      refine ms_iconst (pc := 50) S (m_dec e1_measure 26 rfl) ?_
      refine ms_istore (pc := 51) S (L' := [(0, m_r v0), (1, m_i v1), (2, m_i v2), (3, m_r r5), (4, m_i 0)]) [1, 2, 3, 4, 0] rfl (m_lt hN rfl) (m_dec e1_measure 27 rfl) ?_
      exact ih53 v2 r5 0 h4
    · refine ms_aload_n (pc := 87) S 0 rfl rfl (m_dec e1_measure 44 rfl) ?_
      refine ms_iload_n (pc := 88) S 1 rfl rfl (m_dec e1_measure 45 rfl) ?_
      refine ms_putf (pc := 89) S lp_X1_28 (fun z => by cases z) rfl (fun d => m_fitI d _) (m_dec e1_measure 46 rfl) g1 (fun h6 => ?_)
      refine ms_aload_n (pc := 92) S 0 rfl rfl (m_dec e1_measure 47 rfl) ?_
      refine ms_aload_n (pc := 93) S 0 rfl rfl (m_dec e1_measure 48 rfl) ?_
      refine ms_grd fun g7 => ?_
      refine ms_getf (pc := 94) S lf_X1_32 rfl (m_dec e1_measure 49 rfl) g7 ?_
      refine ms_grd fun g8 => ?_
      refine ms_getf (pc := 97) S lf_X1_119 rfl (m_dec e1_measure 50 rfl) g8 ?_
      refine ms_putf (pc := 100) S lp_X1_116 (fun z => by cases z) rfl (fun d => m_fitI d _) (m_dec e1_measure 51 rfl) g7 (fun h9 => ?_)
      exact ms_ret (pc := 103) E (m_dec e1_measure 52 rfl) rfl
  · intro q0
    subst q0
    rw [if_neg (by decide), if_pos rfl] at e
    refine ms_use ?_ e
    clear e r
    refine ms_iload (pc := 53) S 4 rfl (m_dec e1_measure 28 rfl) ?_
    refine ms_iconst (pc := 55) S (m_dec e1_measure 29 rfl) ?_
    refine ms_icmp_ge (pc := 56) S (m_dec e1_measure 30 rfl) rfl (fun q1 => ?_) (fun q1 => ?_)
    · refine ms_aload_n (pc := 59) S 3 rfl rfl (m_dec e1_measure 31 rfl) ?_
      refine ms_ifnull (pc := 60) S (m_dec e1_measure 32 rfl) rfl (fun q2 => ?_) (fun q2 => ?_)
      · refine ms_iinc (pc := 81) S (L' := [(0, m_r v0), (1, m_i v1), (2, m_i (v2 + 1))]) 2 rfl [1, 2, 0] rfl (m_lt hN rfl) (m_dec e1_measure 42 rfl) ?_
        refine ms_goto (pc := 84) S (m_dec e1_measure 43 rfl) rfl ?_
        exact ih33 (v2 + 1) 0 0 h
      · refine ms_aload_n (pc := 63) S 0 rfl rfl (m_dec e1_measure 33 rfl) ?_
        refine ms_aload_n (pc := 64) S 3 rfl rfl (m_dec e1_measure 34 rfl) ?_
        refine ms_iload (pc := 65) S 4 rfl (m_dec e1_measure 35 rfl) ?_
        refine ms_grd fun g3 => ?_
        refine ms_callVv (pc := 67) S hF (vals := [m_r v3, m_i v4]) (st := []) (hc := vw_1) (hci := by decide) (hcy := rfl) (ht := g3) (hC := (k1_fillWay _ _ v0 v3 v4 h)) (hM := lm_X1_83) (hfr := (Nat.le_trans (by decide) hFn)) (hstk := rfl) (hcat := Nat.le_of_ble_eq_true rfl) (hd := (m_dec e1_measure 36 rfl)) (k1 := fun h4 => ?_)
        refine ms_aload_n (pc := 70) S 0 rfl rfl (m_dec e1_measure 37 rfl) ?_
        refine ms_iload_n (pc := 71) S 1 rfl rfl (m_dec e1_measure 38 rfl) ?_
        refine ms_grd fun g6 => ?_
        refine ms_callVv (pc := 72) S hF (vals := [m_i v1]) (st := []) (hc := vw_1) (hci := by decide) (hcy := rfl) (ht := g6) (hC := (k1_measureWay _ _ v0 v1 h4)) (hM := lm_X1_128) (hfr := (Nat.le_trans (by decide) hFn)) (hstk := rfl) (hcat := Nat.le_of_ble_eq_true rfl) (hd := (m_dec e1_measure 39 rfl)) (k1 := fun h7 => ?_)
        refine ms_iinc (pc := 75) S (L' := [(0, m_r v0), (1, m_i v1), (2, m_i v2), (3, m_r v3), (4, m_i (v4 + 1))]) 4 rfl [1, 2, 3, 4, 0] rfl (m_lt hN rfl) (m_dec e1_measure 40 rfl) ?_
        refine ms_goto (pc := 78) S (m_dec e1_measure 41 rfl) rfl ?_
        exact ih53 v2 v3 (v4 + 1) h7
    · refine ms_iinc (pc := 81) S (L' := [(0, m_r v0), (1, m_i v1), (2, m_i (v2 + 1))]) 2 rfl [1, 2, 0] rfl (m_lt hN rfl) (m_dec e1_measure 42 rfl) ?_
      refine ms_goto (pc := 84) S (m_dec e1_measure 43 rfl) rfl ?_
      exact ih33 (v2 + 1) 0 0 h
set_option maxHeartbeats 4000000 in
set_option maxRecDepth 20000 in
theorem s1_measure_c33 {Y : m_Y Unit} (S : m_Std Y RX1 cX1_measure) (E : m_End Y cX1_measure .return_ (fun _ => [])) {F : Nat} (hF : m_Rm Y F) (hFn : 5 ≤ F) (hN : Y.2.2.2.1 = 5) (v0 v1 v2 v3 v4 : Int) (h : m_H) : m_Sim Y 33 [(0, m_r v0), (1, m_i v1), (2, m_i v2)] [] h (t1_measure_x33 33 v0 v1 v2 v3 v4 h) := ms_all fun r e => (s1_measure_x33 S E hF hFn hN 33 v0 v1 v2 v3 v4 h r e).1 rfl
set_option maxHeartbeats 4000000 in
set_option maxRecDepth 20000 in
theorem s1_measure_c53 {Y : m_Y Unit} (S : m_Std Y RX1 cX1_measure) (E : m_End Y cX1_measure .return_ (fun _ => [])) {F : Nat} (hF : m_Rm Y F) (hFn : 5 ≤ F) (hN : Y.2.2.2.1 = 5) (v0 v1 v2 v3 v4 : Int) (h : m_H) : m_Sim Y 53 [(0, m_r v0), (1, m_i v1), (2, m_i v2), (3, m_r v3), (4, m_i v4)] [] h (t1_measure_x33 53 v0 v1 v2 v3 v4 h) := ms_all fun r e => (s1_measure_x33 S E hF hFn hN 53 v0 v1 v2 v3 v4 h r e).2 rfl
set_option maxHeartbeats 4000000 in
set_option maxRecDepth 20000 in
theorem s1_measure_c23 {Y : m_Y Unit} (S : m_Std Y RX1 cX1_measure) (E : m_End Y cX1_measure .return_ (fun _ => [])) {F : Nat} (hF : m_Rm Y F) (hFn : 5 ≤ F) (hN : Y.2.2.2.1 = 5) (v0 v1 : Int) (h : m_H) : m_Sim Y 23 [(0, m_r v0), (1, m_i v1)] [] h (t1_measure_c23 v0 v1 h) := by
  unfold t1_measure_c23
  refine ms_aload_n (pc := 23) S 0 rfl rfl (m_dec e1_measure 11 rfl) ?_
  refine ms_grd fun g1 => ?_
  refine ms_getf (pc := 24) S lf_X1_18 rfl (m_dec e1_measure 12 rfl) g1 ?_
  refine ms_iconst (pc := 27) S (m_dec e1_measure 13 rfl) ?_
  refine ms_callSv (pc := 28) S hF (vals := [m_r (m_g h v0 8), m_i 0]) (st := [])  (hC := (kJ7_fill_53178 _ _ (m_g h v0 8) 0 h)) (hM := lm_X1_122) (hfr := (Nat.le_trans (by decide) hFn)) (hstk := rfl) (hcat := Nat.le_of_ble_eq_true rfl) (hd := (m_dec e1_measure 14 rfl)) (k1 := fun h2 => ?_)
  refine ms_iconst (pc := 31) S (m_dec e1_measure 15 rfl) ?_
  refine ms_istore_n (pc := 32) S (L' := [(0, m_r v0), (1, m_i v1), (2, m_i 0)]) [1, 2, 0] rfl rfl (m_lt hN rfl) (m_dec e1_measure 16 rfl) ?_
  exact s1_measure_c33 S E hF hFn hN v0 v1 0 0 0 h2
set_option maxHeartbeats 4000000 in
set_option maxRecDepth 20000 in
theorem s1_measure {Y : m_Y Unit} (S : m_Std Y RX1 cX1_measure) (E : m_End Y cX1_measure .return_ (fun _ => [])) {F : Nat} (hF : m_Rm Y F) (hFn : 5 ≤ F) (hN : Y.2.2.2.1 = 5) (v0 v1 : Int) (h : m_H) : m_Sim Y 0 [(0, m_r v0), (1, m_i v1)] [] h (t1_measure v0 v1 h) := by
  unfold t1_measure
  refine ms_aload_n (pc := 0) S 0 rfl rfl (m_dec e1_measure 0 rfl) ?_
  refine ms_grd fun g1 => ?_
  refine ms_getf (pc := 1) S lf_X1_28 rfl (m_dec e1_measure 1 rfl) g1 ?_
  refine ms_iload_n (pc := 4) S 1 rfl rfl (m_dec e1_measure 2 rfl) ?_
  refine ms_icmp_ne (pc := 5) S (m_dec e1_measure 3 rfl) rfl (fun q2 => ?_) (fun q2 => ?_)
  · refine ms_aload_n (pc := 8) S 0 rfl rfl (m_dec e1_measure 4 rfl) ?_
    refine ms_getf (pc := 9) S lf_X1_116 rfl (m_dec e1_measure 5 rfl) g1 ?_
    refine ms_aload_n (pc := 12) S 0 rfl rfl (m_dec e1_measure 6 rfl) ?_
    refine ms_getf (pc := 13) S lf_X1_32 rfl (m_dec e1_measure 7 rfl) g1 ?_
    refine ms_grd fun g3 => ?_
    refine ms_getf (pc := 16) S lf_X1_119 rfl (m_dec e1_measure 8 rfl) g3 ?_
    refine ms_icmp_ne (pc := 19) S (m_dec e1_measure 9 rfl) rfl (fun q4 => ?_) (fun q4 => ?_)
    · exact ms_ret (pc := 22) E (m_dec e1_measure 10 rfl) rfl
    · exact s1_measure_c23 S E hF hFn hN v0 v1 h
  · exact s1_measure_c23 S E hF hFn hN v0 v1 h
theorem k1_measure (l : Launch) (d : m_D) (v0 v1 : Int) (h : m_H) : m_Con l d yX1_measure cX1_measure 5 none 5 (fun _ => []) [m_r v0, m_i v1] h (t1_measure v0 v1 h) :=
  m_con2 (by decide +kernel) (Nat.le_of_ble_eq_true rfl) (fun Y hN hRm hr hI S hfin => s1_measure S (m_end_v S hr hfin) hRm (Nat.le_refl _) hN v0 v1 h)
set_option maxRecDepth 100000 in
theorem e1_fewestFrom : ∀ q ∈ ([(0, .aload_n 0, 1), (1, .getfield 22, 3), (4, .iload_n 1, 1), (5, .ldc 153, 2), (7, .invokestatic 146, 3), (10, .ireturn, 1)] : List (Nat × Instr × Nat)), decode cX1_fewestFrom q.1 = .ok q.2 := by decide +kernel
set_option maxHeartbeats 4000000 in
set_option maxRecDepth 20000 in
theorem s1_fewestFrom {Y : m_Y Int} (S : m_Std Y RX1 cX1_fewestFrom) (E : m_End Y cX1_fewestFrom .ireturn (fun r => [m_i r])) {F : Nat} (hF : m_Rm Y F) (hFn : 1 ≤ F) (hN : Y.2.2.2.1 = 2) (v0 v1 : Int) (h : m_H) : m_Sim Y 0 [(0, m_r v0), (1, m_i v1)] [] h (t1_fewestFrom v0 v1 h) := by
  unfold t1_fewestFrom
  refine ms_aload_n (pc := 0) S 0 rfl rfl (m_dec e1_fewestFrom 0 rfl) ?_
  refine ms_grd fun g1 => ?_
  refine ms_getf (pc := 1) S lf_X1_22 rfl (m_dec e1_fewestFrom 1 rfl) g1 ?_
  refine ms_iload_n (pc := 4) S 1 rfl rfl (m_dec e1_fewestFrom 2 rfl) ?_
  refine ms_ldc (pc := 5) S (n := 1000000) w_1412 (m_dec e1_fewestFrom 3 rfl) ?_
  refine ms_callSi (pc := 7) S hF (vals := [m_r (m_g h v0 9), m_i v1, m_i 1000000]) (st := [])  (hC := (k10_entry _ _ (m_g h v0 9) v1 1000000 h)) (hM := lm_X1_146) (hfr := (Nat.le_trans (by decide) hFn)) (hstk := rfl) (hcat := Nat.le_of_ble_eq_true rfl) (hd := (m_dec e1_fewestFrom 4 rfl)) (k1 := fun r3 h2 => ?_)
  exact ms_ret (pc := 10) E (m_dec e1_fewestFrom 5 rfl) rfl
theorem k1_fewestFrom (l : Launch) (d : m_D) (v0 v1 : Int) (h : m_H) : m_Con l d yX1_fewestFrom cX1_fewestFrom 2 (some .int) 1 (fun r => [m_i r]) [m_r v0, m_i v1] h (t1_fewestFrom v0 v1 h) :=
  m_con2 (by decide +kernel) (Nat.le_of_ble_eq_true rfl) (fun Y hN hRm hr hI S hfin => s1_fewestFrom S (m_end_i S hr hfin) hRm (Nat.le_refl _) hN v0 v1 h)
set_option maxRecDepth 100000 in
theorem e1_coveredBy : ∀ q ∈ ([(0, .iload_n 1, 1), (1, .iload_n 2, 1), (2, .invokestatic 72, 3), (5, .ifCond .ne 5, 3), (8, .iconst 0, 1), (9, .ireturn, 1), (10, .aload_n 0, 1), (11, .iload_n 2, 1), (12, .invokevirtual 150, 3), (15, .aload_n 0, 1), (16, .getfield 22, 3), (19, .aload_n 0, 1), (20, .getfield 36, 3), (23, .invokevirtual 62, 3), (26, .iconst 0, 1), (27, .invokestatic 142, 3), (30, .aload_n 0, 1), (31, .getfield 36, 3), (34, .invokevirtual 62, 3), (37, .iconst 1, 1), (38, .isub, 1), (39, .istore_n 3, 1), (40, .iload_n 3, 1), (41, .ifCond .lt 59, 3), (44, .ldc 153, 2), (46, .istore 4, 2), (48, .iload_n 1, 1), (49, .istore 5, 2), (51, .iload 5, 2), (53, .aload_n 0, 1), (54, .iload_n 3, 1), (55, .invokevirtual 139, 3), (58, .if_icmp .gt 26, 3), (61, .iload 4, 2), (63, .aload_n 0, 1), (64, .iload_n 3, 1), (65, .iload 5, 2), (67, .iadd, 1), (68, .invokevirtual 154, 3), (71, .iconst 1, 1), (72, .iadd, 1), (73, .invokestatic 135, 3), (76, .istore 4, 2), (78, .iinc 5 1, 3), (81, .goto (-30), 3), (84, .aload_n 0, 1), (85, .getfield 22, 3), (88, .iload_n 3, 1), (89, .iload 4, 2), (91, .invokestatic 142, 3), (94, .iinc 3 (-1), 3), (97, .goto (-57), 3), (100, .aload_n 0, 1), (101, .iconst 0, 1), (102, .invokevirtual 154, 3), (105, .ldc 153, 2), (107, .if_icmp .ge 7, 3), (110, .iconst 1, 1), (111, .goto 4, 3), (114, .iconst 0, 1), (115, .ireturn, 1)] : List (Nat × Instr × Nat)), decode cX1_coveredBy q.1 = .ok q.2 := by decide +kernel
set_option maxHeartbeats 4000000 in
set_option maxRecDepth 20000 in
theorem s1_coveredBy_x40 {Y : m_Y Bool} (S : m_Std Y RX1 cX1_coveredBy) (E : m_End Y cX1_coveredBy .ireturn (fun r => [m_i (m_b2i r)])) {F : Nat} (hF : m_Rm Y F) (hFn : 6 ≤ F) (hN : Y.2.2.2.1 = 6) : ∀ (cc : Int) (v0 v1 v3 v4 v5 : Int) (h : m_H) (r : Bool × m_H), t1_coveredBy_x40 cc v0 v1 v3 v4 v5 h = some r → (cc = 40 → m_Sim Y 40 [(0, m_r v0), (1, m_i v1), (3, m_i v3)] [] h (some r)) ∧ (cc = 51 → m_Sim Y 51 [(0, m_r v0), (1, m_i v1), (3, m_i v3), (4, m_i v4), (5, m_i v5)] [] h (some r)) := by
  intro cc v0 v1 v3 v4 v5 h r e
  refine t1_coveredBy_x40.partial_correctness v0 v1 (motive := fun cc v3 v4 v5 h r => (cc = 40 → m_Sim Y 40 [(0, m_r v0), (1, m_i v1), (3, m_i v3)] [] h (some r)) ∧ (cc = 51 → m_Sim Y 51 [(0, m_r v0), (1, m_i v1), (3, m_i v3), (4, m_i v4), (5, m_i v5)] [] h (some r))) ?_ cc v3 v4 v5 h r e
  intro f ih cc v3 v4 v5 h r e
  have ih40 : ∀ (v3 v4 v5 : Int) (h : m_H), m_Sim Y 40 [(0, m_r v0), (1, m_i v1), (3, m_i v3)] [] h (f 40 v3 v4 v5 h ) := fun v3 v4 v5 h  => ms_all fun r e => (ih 40 v3 v4 v5 h r e).1 rfl
  have ih51 : ∀ (v3 v4 v5 : Int) (h : m_H), m_Sim Y 51 [(0, m_r v0), (1, m_i v1), (3, m_i v3), (4, m_i v4), (5, m_i v5)] [] h (f 51 v3 v4 v5 h ) := fun v3 v4 v5 h  => ms_all fun r e => (ih 51 v3 v4 v5 h r e).2 rfl
  refine ⟨?_, ?_⟩
  · intro q0
    subst q0
    rw [if_pos rfl] at e
    refine ms_use ?_ e
    clear e r
    refine ms_iload_n (pc := 40) S 2 rfl rfl (m_dec e1_coveredBy 22 rfl) ?_
    refine ms_if_lt (pc := 41) S (m_dec e1_coveredBy 23 rfl) rfl (fun q1 => ?_) (fun q1 => ?_)
    · refine ms_aload_n (pc := 100) S 0 rfl rfl (m_dec e1_coveredBy 52 rfl) ?_
      refine ms_iconst (pc := 101) S (m_dec e1_coveredBy 53 rfl) ?_
      refine ms_grd fun g2 => ?_
      refine ms_callVi (pc := 102) S hF (vals := [m_i 0]) (st := []) (hc := vw_1) (hci := by decide) (hcy := rfl) (ht := g2) (hC := (k1_fewestFrom _ _ v0 0 h)) (hM := lm_X1_154) (hfr := (Nat.le_trans (by decide) hFn)) (hstk := rfl) (hcat := Nat.le_of_ble_eq_true rfl) (hd := (m_dec e1_coveredBy 54 rfl)) (k1 := fun r4 h3 => ?_)
      refine ms_ldc (pc := 105) S (n := 1000000) w_1412 (m_dec e1_coveredBy 55 rfl) ?_
      refine ms_icmp_ge (pc := 107) S (m_dec e1_coveredBy 56 rfl) rfl (fun q5 => ?_) (fun q5 => ?_)
      · refine ms_iconst (pc := 110) S (m_dec e1_coveredBy 57 rfl) ?_
        refine ms_goto (pc := 111) S (m_dec e1_coveredBy 58 rfl) rfl ?_
        exact ms_ret (pc := 115) E (m_dec e1_coveredBy 60 rfl) rfl
      · refine ms_iconst (pc := 114) S (m_dec e1_coveredBy 59 rfl) ?_
        exact ms_ret (pc := 115) E (m_dec e1_coveredBy 60 rfl) rfl
    · refine ms_ldc (pc := 44) S (n := 1000000) w_1412 (m_dec e1_coveredBy 24 rfl) ?_
      refine ms_istore (pc := 46) S (L' := [(0, m_r v0), (1, m_i v1), (3, m_i v3), (4, m_i 1000000)]) [1, 2, 3, 0] rfl (m_lt hN rfl) (m_dec e1_coveredBy 25 rfl) ?_
      refine ms_iload_n (pc := 48) S 1 rfl rfl (m_dec e1_coveredBy 26 rfl) ?_
      refine ms_istore (pc := 49) S (L' := [(0, m_r v0), (1, m_i v1), (3, m_i v3), (4, m_i 1000000), (5, m_i v1)]) [1, 2, 3, 4, 0] rfl (m_lt hN rfl) (m_dec e1_coveredBy 27 rfl) ?_
      exact ih51 v3 1000000 v1 h
  · intro q0
    subst q0
    rw [if_neg (by decide), if_pos rfl] at e
    refine ms_use ?_ e
    clear e r
    refine ms_iload (pc := 51) S 4 rfl (m_dec e1_coveredBy 28 rfl) ?_
    refine ms_aload_n (pc := 53) S 0 rfl rfl (m_dec e1_coveredBy 29 rfl) ?_
    refine ms_iload_n (pc := 54) S 2 rfl rfl (m_dec e1_coveredBy 30 rfl) ?_
    refine ms_grd fun g1 => ?_
    refine ms_callVi (pc := 55) S hF (vals := [m_i v3]) (st := [m_i v5]) (hc := vw_1) (hci := by decide) (hcy := rfl) (ht := g1) (hC := (k1_longestFrom _ _ v0 v3 h)) (hM := lm_X1_139) (hfr := (Nat.le_trans (by decide) hFn)) (hstk := rfl) (hcat := Nat.le_of_ble_eq_true rfl) (hd := (m_dec e1_coveredBy 31 rfl)) (k1 := fun r3 h2 => ?_)
    refine ms_icmp_gt (pc := 58) S (m_dec e1_coveredBy 32 rfl) rfl (fun q4 => ?_) (fun q4 => ?_)
    · refine ms_aload_n (pc := 84) S 0 rfl rfl (m_dec e1_coveredBy 45 rfl) ?_
      refine ms_grd fun g5 => ?_
      refine ms_getf (pc := 85) S lf_X1_22 rfl (m_dec e1_coveredBy 46 rfl) g5 ?_
      refine ms_iload_n (pc := 88) S 2 rfl rfl (m_dec e1_coveredBy 47 rfl) ?_
      refine ms_iload (pc := 89) S 3 rfl (m_dec e1_coveredBy 48 rfl) ?_
      refine ms_callSv (pc := 91) S hF (vals := [m_r (m_g h2 v0 9), m_i v3, m_i v4]) (st := [])  (hC := (k10_setEntry _ _ (m_g h2 v0 9) v3 v4 h2)) (hM := lm_X1_142) (hfr := (Nat.le_trans (by decide) hFn)) (hstk := rfl) (hcat := Nat.le_of_ble_eq_true rfl) (hd := (m_dec e1_coveredBy 49 rfl)) (k1 := fun h6 => ?_)
      refine ms_iinc (pc := 94) S (L' := [(0, m_r v0), (1, m_i v1), (3, m_i (v3 + (-1)))]) 2 rfl [1, 2, 0] rfl (m_lt hN rfl) (m_dec e1_coveredBy 50 rfl) ?_
      refine ms_goto (pc := 97) S (m_dec e1_coveredBy 51 rfl) rfl ?_
      exact ih40 (v3 + (-1)) 0 0 h6
    · refine ms_iload (pc := 61) S 3 rfl (m_dec e1_coveredBy 33 rfl) ?_
      refine ms_aload_n (pc := 63) S 0 rfl rfl (m_dec e1_coveredBy 34 rfl) ?_
      refine ms_iload_n (pc := 64) S 2 rfl rfl (m_dec e1_coveredBy 35 rfl) ?_
      refine ms_iload (pc := 65) S 4 rfl (m_dec e1_coveredBy 36 rfl) ?_
      refine ms_iadd (pc := 67) S (m_dec e1_coveredBy 37 rfl) ?_
      refine ms_grd fun g8 => ?_
      refine ms_callVi (pc := 68) S hF (vals := [m_i (v3 + v5)]) (st := [m_i v4]) (hc := vw_1) (hci := by decide) (hcy := rfl) (ht := g8) (hC := (k1_fewestFrom _ _ v0 (v3 + v5) h2)) (hM := lm_X1_154) (hfr := (Nat.le_trans (by decide) hFn)) (hstk := rfl) (hcat := Nat.le_of_ble_eq_true rfl) (hd := (m_dec e1_coveredBy 38 rfl)) (k1 := fun r10 h9 => ?_)
      refine ms_iconst (pc := 71) S (m_dec e1_coveredBy 39 rfl) ?_
      refine ms_iadd (pc := 72) S (m_dec e1_coveredBy 40 rfl) ?_
      refine ms_mmin (pc := 73) S hF (Nat.le_trans (by decide) hFn) ⟨w_1405, w_498, w_136, w_499⟩ (Nat.le_of_ble_eq_true rfl) (m_dec e1_coveredBy 41 rfl) ?_
      refine ms_nm (st := fun x11 => [m_i x11]) fun x11 => ?_
      refine ms_istore (pc := 76) S (L' := [(0, m_r v0), (1, m_i v1), (3, m_i v3), (4, m_i x11), (5, m_i v5)]) [1, 2, 3, 0, 4] rfl (m_lt hN rfl) (m_dec e1_coveredBy 42 rfl) ?_
      refine ms_iinc (pc := 78) S (L' := [(0, m_r v0), (1, m_i v1), (3, m_i v3), (4, m_i x11), (5, m_i (v5 + 1))]) 4 rfl [1, 2, 3, 4, 0] rfl (m_lt hN rfl) (m_dec e1_coveredBy 43 rfl) ?_
      refine ms_goto (pc := 81) S (m_dec e1_coveredBy 44 rfl) rfl ?_
      exact ih51 v3 x11 (v5 + 1) h9
set_option maxHeartbeats 4000000 in
set_option maxRecDepth 20000 in
theorem s1_coveredBy_c40 {Y : m_Y Bool} (S : m_Std Y RX1 cX1_coveredBy) (E : m_End Y cX1_coveredBy .ireturn (fun r => [m_i (m_b2i r)])) {F : Nat} (hF : m_Rm Y F) (hFn : 6 ≤ F) (hN : Y.2.2.2.1 = 6) (v0 v1 v3 v4 v5 : Int) (h : m_H) : m_Sim Y 40 [(0, m_r v0), (1, m_i v1), (3, m_i v3)] [] h (t1_coveredBy_x40 40 v0 v1 v3 v4 v5 h) := ms_all fun r e => (s1_coveredBy_x40 S E hF hFn hN 40 v0 v1 v3 v4 v5 h r e).1 rfl
set_option maxHeartbeats 4000000 in
set_option maxRecDepth 20000 in
theorem s1_coveredBy_c51 {Y : m_Y Bool} (S : m_Std Y RX1 cX1_coveredBy) (E : m_End Y cX1_coveredBy .ireturn (fun r => [m_i (m_b2i r)])) {F : Nat} (hF : m_Rm Y F) (hFn : 6 ≤ F) (hN : Y.2.2.2.1 = 6) (v0 v1 v3 v4 v5 : Int) (h : m_H) : m_Sim Y 51 [(0, m_r v0), (1, m_i v1), (3, m_i v3), (4, m_i v4), (5, m_i v5)] [] h (t1_coveredBy_x40 51 v0 v1 v3 v4 v5 h) := ms_all fun r e => (s1_coveredBy_x40 S E hF hFn hN 51 v0 v1 v3 v4 v5 h r e).2 rfl
set_option maxHeartbeats 4000000 in
set_option maxRecDepth 20000 in
theorem s1_coveredBy {Y : m_Y Bool} (S : m_Std Y RX1 cX1_coveredBy) (E : m_End Y cX1_coveredBy .ireturn (fun r => [m_i (m_b2i r)])) {F : Nat} (hF : m_Rm Y F) (hFn : 6 ≤ F) (hN : Y.2.2.2.1 = 6) (v0 v1 v2 : Int) (h : m_H) : m_Sim Y 0 [(0, m_r v0), (1, m_i v1), (2, m_i v2)] [] h (t1_coveredBy v0 v1 v2 h) := by
  unfold t1_coveredBy
  refine ms_iload_n (pc := 0) S 1 rfl rfl (m_dec e1_coveredBy 0 rfl) ?_
  refine ms_iload_n (pc := 1) S 2 rfl rfl (m_dec e1_coveredBy 1 rfl) ?_
  refine ms_callSz (pc := 2) S hF (vals := [m_i v1, m_i v2]) (st := [])  (hC := (k1_isAsked _ _ v1 v2 h)) (hM := lm_X1_72) (hfr := (Nat.le_trans (by decide) hFn)) (hstk := rfl) (hcat := Nat.le_of_ble_eq_true rfl) (hd := (m_dec e1_coveredBy 2 rfl)) (k1 := fun r2 h1 => ?_)
  refine ms_ifb_ne (pc := 5) S (m_dec e1_coveredBy 3 rfl) rfl (fun q3 => ?_) (fun q3 => ?_)
  · refine ms_aload_n (pc := 10) S 0 rfl rfl (m_dec e1_coveredBy 6 rfl) ?_
    refine ms_iload_n (pc := 11) S 2 rfl rfl (m_dec e1_coveredBy 7 rfl) ?_
    refine ms_grd fun g4 => ?_
    refine ms_callVv (pc := 12) S hF (vals := [m_i v2]) (st := []) (hc := vw_1) (hci := by decide) (hcy := rfl) (ht := g4) (hC := (k1_measure _ _ v0 v2 h1)) (hM := lm_X1_150) (hfr := (Nat.le_trans (by decide) hFn)) (hstk := rfl) (hcat := Nat.le_of_ble_eq_true rfl) (hd := (m_dec e1_coveredBy 8 rfl)) (k1 := fun h5 => ?_)
    refine ms_aload_n (pc := 15) S 0 rfl rfl (m_dec e1_coveredBy 9 rfl) ?_
    refine ms_grd fun g7 => ?_
    refine ms_getf (pc := 16) S lf_X1_22 rfl (m_dec e1_coveredBy 10 rfl) g7 ?_
    refine ms_aload_n (pc := 19) S 0 rfl rfl (m_dec e1_coveredBy 11 rfl) ?_
    refine ms_getf (pc := 20) S lf_X1_36 rfl (m_dec e1_coveredBy 12 rfl) g7 ?_
    refine ms_grd fun g8 => ?_
    refine ms_callVi (pc := 23) S hF (vals := []) (st := [m_r (m_g h5 v0 9)]) (hc := vw_5) (hci := by decide) (hcy := rfl) (ht := g8) (hC := (k5_size _ _ (m_g h5 v0 1) h5)) (hM := lm_X1_62) (hfr := (Nat.le_trans (by decide) hFn)) (hstk := rfl) (hcat := Nat.le_of_ble_eq_true rfl) (hd := (m_dec e1_coveredBy 13 rfl)) (k1 := fun r10 h9 => ?_)
    refine ms_iconst (pc := 26) S (m_dec e1_coveredBy 14 rfl) ?_
    refine ms_callSv (pc := 27) S hF (vals := [m_r (m_g h5 v0 9), m_i r10, m_i 0]) (st := [])  (hC := (k10_setEntry _ _ (m_g h5 v0 9) r10 0 h9)) (hM := lm_X1_142) (hfr := (Nat.le_trans (by decide) hFn)) (hstk := rfl) (hcat := Nat.le_of_ble_eq_true rfl) (hd := (m_dec e1_coveredBy 15 rfl)) (k1 := fun h11 => ?_)
    refine ms_aload_n (pc := 30) S 0 rfl rfl (m_dec e1_coveredBy 16 rfl) ?_
    refine ms_grd fun g13 => ?_
    refine ms_getf (pc := 31) S lf_X1_36 rfl (m_dec e1_coveredBy 17 rfl) g13 ?_
    refine ms_grd fun g14 => ?_
    refine ms_callVi (pc := 34) S hF (vals := []) (st := []) (hc := vw_5) (hci := by decide) (hcy := rfl) (ht := g14) (hC := (k5_size _ _ (m_g h11 v0 1) h11)) (hM := lm_X1_62) (hfr := (Nat.le_trans (by decide) hFn)) (hstk := rfl) (hcat := Nat.le_of_ble_eq_true rfl) (hd := (m_dec e1_coveredBy 18 rfl)) (k1 := fun r16 h15 => ?_)
    refine ms_iconst (pc := 37) S (m_dec e1_coveredBy 19 rfl) ?_
    refine ms_isub (pc := 38) S (m_dec e1_coveredBy 20 rfl) ?_
    refine ms_nm (st := fun x17 => [m_i x17]) fun x17 => ?_
    refine ms_istore_n (pc := 39) S (L' := [(0, m_r v0), (1, m_i v1), (3, m_i x17)]) [1, 2, 0] rfl rfl (m_lt hN rfl) (m_dec e1_coveredBy 21 rfl) ?_
    exact s1_coveredBy_c40 S E hF hFn hN v0 v1 x17 0 0 h15
  · refine ms_iconst (pc := 8) S (m_dec e1_coveredBy 4 rfl) ?_
    exact ms_ret (pc := 9) E (m_dec e1_coveredBy 5 rfl) rfl
theorem k1_coveredBy (l : Launch) (d : m_D) (v0 v1 v2 : Int) (h : m_H) : m_Con l d yX1_coveredBy cX1_coveredBy 6 (some .boolean) 6 (fun r => [m_i (m_b2i r)]) [m_r v0, m_i v1, m_i v2] h (t1_coveredBy v0 v1 v2 h) :=
  m_con2 (by decide +kernel) (Nat.le_of_ble_eq_true rfl) (fun Y hN hRm hr hI S hfin => s1_coveredBy S (m_end_z S hr hfin) hRm (Nat.le_refl _) hN v0 v1 v2 h)
set_option maxRecDepth 100000 in
theorem e1_stretches : ∀ q ∈ ([(0, .aload_n 0, 1), (1, .iconst 0, 1), (2, .invokevirtual 154, 3), (5, .ireturn, 1)] : List (Nat × Instr × Nat)), decode cX1_stretches q.1 = .ok q.2 := by decide +kernel
set_option maxHeartbeats 4000000 in
set_option maxRecDepth 20000 in
theorem s1_stretches {Y : m_Y Int} (S : m_Std Y RX1 cX1_stretches) (E : m_End Y cX1_stretches .ireturn (fun r => [m_i r])) {F : Nat} (hF : m_Rm Y F) (hFn : 2 ≤ F) (hN : Y.2.2.2.1 = 1) (v0 : Int) (h : m_H) : m_Sim Y 0 [(0, m_r v0)] [] h (t1_stretches v0 h) := by
  unfold t1_stretches
  refine ms_aload_n (pc := 0) S 0 rfl rfl (m_dec e1_stretches 0 rfl) ?_
  refine ms_iconst (pc := 1) S (m_dec e1_stretches 1 rfl) ?_
  refine ms_grd fun g1 => ?_
  refine ms_callVi (pc := 2) S hF (vals := [m_i 0]) (st := []) (hc := vw_1) (hci := by decide) (hcy := rfl) (ht := g1) (hC := (k1_fewestFrom _ _ v0 0 h)) (hM := lm_X1_154) (hfr := (Nat.le_trans (by decide) hFn)) (hstk := rfl) (hcat := Nat.le_of_ble_eq_true rfl) (hd := (m_dec e1_stretches 2 rfl)) (k1 := fun r3 h2 => ?_)
  exact ms_ret (pc := 5) E (m_dec e1_stretches 3 rfl) rfl
theorem k1_stretches (l : Launch) (d : m_D) (v0 : Int) (h : m_H) : m_Con l d yX1_stretches cX1_stretches 1 (some .int) 2 (fun r => [m_i r]) [m_r v0] h (t1_stretches v0 h) :=
  m_con2 (by decide +kernel) (Nat.le_of_ble_eq_true rfl) (fun Y hN hRm hr hI S hfin => s1_stretches S (m_end_i S hr hfin) hRm (Nat.le_refl _) hN v0 h)
set_option maxRecDepth 100000 in
theorem e1_longestOfFewest : ∀ q ∈ ([(0, .aload_n 0, 1), (1, .iload_n 1, 1), (2, .invokevirtual 139, 3), (5, .istore_n 3, 1), (6, .iload_n 3, 1), (7, .iload_n 2, 1), (8, .if_icmp .lt 28, 3), (11, .aload_n 0, 1), (12, .iload_n 1, 1), (13, .iload_n 3, 1), (14, .iadd, 1), (15, .invokevirtual 154, 3), (18, .iconst 1, 1), (19, .iadd, 1), (20, .aload_n 0, 1), (21, .iload_n 1, 1), (22, .invokevirtual 154, 3), (25, .if_icmp .ne 5, 3), (28, .iload_n 3, 1), (29, .ireturn, 1), (30, .iinc 3 (-1), 3), (33, .goto (-27), 3), (36, .iconst 0, 1), (37, .ireturn, 1)] : List (Nat × Instr × Nat)), decode cX1_longestOfFewest q.1 = .ok q.2 := by decide +kernel
set_option maxHeartbeats 4000000 in
set_option maxRecDepth 20000 in
theorem s1_longestOfFewest_c6 {Y : m_Y Int} (S : m_Std Y RX1 cX1_longestOfFewest) (E : m_End Y cX1_longestOfFewest .ireturn (fun r => [m_i r])) {F : Nat} (hF : m_Rm Y F) (hFn : 2 ≤ F) (hN : Y.2.2.2.1 = 4) : ∀ (v0 v1 v2 v3 : Int) (h : m_H), m_Sim Y 6 [(0, m_r v0), (1, m_i v1), (2, m_i v2), (3, m_i v3)] [] h (t1_longestOfFewest_c6 v0 v1 v2 v3 h) := by
  intro v0 v1 v2 v3 h
  refine ms_all fun r e => ?_
  refine t1_longestOfFewest_c6.partial_correctness v0 v1 v2 (motive := fun v3 h r => m_Sim Y 6 [(0, m_r v0), (1, m_i v1), (2, m_i v2), (3, m_i v3)] [] h (some r)) ?_ v3 h r e
  intro f ih v3 h r e
  have ih : ∀ (v3 : Int) (h : m_H), m_Sim Y 6 [(0, m_r v0), (1, m_i v1), (2, m_i v2), (3, m_i v3)] [] h (f v3 h ) := fun v3 h  => ms_all fun r e => ih v3 h r e
  refine ms_use ?_ e
  clear e r
  refine ms_iload_n (pc := 6) S 3 rfl rfl (m_dec e1_longestOfFewest 4 rfl) ?_
  refine ms_iload_n (pc := 7) S 2 rfl rfl (m_dec e1_longestOfFewest 5 rfl) ?_
  refine ms_icmp_lt (pc := 8) S (m_dec e1_longestOfFewest 6 rfl) rfl (fun q1 => ?_) (fun q1 => ?_)
  · refine ms_iconst (pc := 36) S (m_dec e1_longestOfFewest 22 rfl) ?_
    exact ms_ret (pc := 37) E (m_dec e1_longestOfFewest 23 rfl) rfl
  · refine ms_aload_n (pc := 11) S 0 rfl rfl (m_dec e1_longestOfFewest 7 rfl) ?_
    refine ms_iload_n (pc := 12) S 1 rfl rfl (m_dec e1_longestOfFewest 8 rfl) ?_
    refine ms_iload_n (pc := 13) S 3 rfl rfl (m_dec e1_longestOfFewest 9 rfl) ?_
    refine ms_iadd (pc := 14) S (m_dec e1_longestOfFewest 10 rfl) ?_
    refine ms_grd fun g2 => ?_
    refine ms_callVi (pc := 15) S hF (vals := [m_i (v1 + v3)]) (st := []) (hc := vw_1) (hci := by decide) (hcy := rfl) (ht := g2) (hC := (k1_fewestFrom _ _ v0 (v1 + v3) h)) (hM := lm_X1_154) (hfr := (Nat.le_trans (by decide) hFn)) (hstk := rfl) (hcat := Nat.le_of_ble_eq_true rfl) (hd := (m_dec e1_longestOfFewest 11 rfl)) (k1 := fun r4 h3 => ?_)
    refine ms_iconst (pc := 18) S (m_dec e1_longestOfFewest 12 rfl) ?_
    refine ms_iadd (pc := 19) S (m_dec e1_longestOfFewest 13 rfl) ?_
    refine ms_aload_n (pc := 20) S 0 rfl rfl (m_dec e1_longestOfFewest 14 rfl) ?_
    refine ms_iload_n (pc := 21) S 1 rfl rfl (m_dec e1_longestOfFewest 15 rfl) ?_
    refine ms_grd fun g5 => ?_
    refine ms_callVi (pc := 22) S hF (vals := [m_i v1]) (st := [m_i (r4 + 1)]) (hc := vw_1) (hci := by decide) (hcy := rfl) (ht := g5) (hC := (k1_fewestFrom _ _ v0 v1 h3)) (hM := lm_X1_154) (hfr := (Nat.le_trans (by decide) hFn)) (hstk := rfl) (hcat := Nat.le_of_ble_eq_true rfl) (hd := (m_dec e1_longestOfFewest 16 rfl)) (k1 := fun r7 h6 => ?_)
    refine ms_icmp_ne (pc := 25) S (m_dec e1_longestOfFewest 17 rfl) rfl (fun q8 => ?_) (fun q8 => ?_)
    · refine ms_iload_n (pc := 28) S 3 rfl rfl (m_dec e1_longestOfFewest 18 rfl) ?_
      exact ms_ret (pc := 29) E (m_dec e1_longestOfFewest 19 rfl) rfl
    · refine ms_iinc (pc := 30) S (L' := [(0, m_r v0), (1, m_i v1), (2, m_i v2), (3, m_i (v3 + (-1)))]) 3 rfl [1, 2, 3, 0] rfl (m_lt hN rfl) (m_dec e1_longestOfFewest 20 rfl) ?_
      refine ms_goto (pc := 33) S (m_dec e1_longestOfFewest 21 rfl) rfl ?_
      exact ih (v3 + (-1)) h6
set_option maxHeartbeats 4000000 in
set_option maxRecDepth 20000 in
theorem s1_longestOfFewest {Y : m_Y Int} (S : m_Std Y RX1 cX1_longestOfFewest) (E : m_End Y cX1_longestOfFewest .ireturn (fun r => [m_i r])) {F : Nat} (hF : m_Rm Y F) (hFn : 2 ≤ F) (hN : Y.2.2.2.1 = 4) (v0 v1 v2 : Int) (h : m_H) : m_Sim Y 0 [(0, m_r v0), (1, m_i v1), (2, m_i v2)] [] h (t1_longestOfFewest v0 v1 v2 h) := by
  unfold t1_longestOfFewest
  refine ms_aload_n (pc := 0) S 0 rfl rfl (m_dec e1_longestOfFewest 0 rfl) ?_
  refine ms_iload_n (pc := 1) S 1 rfl rfl (m_dec e1_longestOfFewest 1 rfl) ?_
  refine ms_grd fun g1 => ?_
  refine ms_callVi (pc := 2) S hF (vals := [m_i v1]) (st := []) (hc := vw_1) (hci := by decide) (hcy := rfl) (ht := g1) (hC := (k1_longestFrom _ _ v0 v1 h)) (hM := lm_X1_139) (hfr := (Nat.le_trans (by decide) hFn)) (hstk := rfl) (hcat := Nat.le_of_ble_eq_true rfl) (hd := (m_dec e1_longestOfFewest 2 rfl)) (k1 := fun r3 h2 => ?_)
  refine ms_istore_n (pc := 5) S (L' := [(0, m_r v0), (1, m_i v1), (2, m_i v2), (3, m_i r3)]) [1, 2, 3, 0] rfl rfl (m_lt hN rfl) (m_dec e1_longestOfFewest 3 rfl) ?_
  exact s1_longestOfFewest_c6 S E hF hFn hN v0 v1 v2 r3 h2
theorem k1_longestOfFewest (l : Launch) (d : m_D) (v0 v1 v2 : Int) (h : m_H) : m_Con l d yX1_longestOfFewest cX1_longestOfFewest 4 (some .int) 2 (fun r => [m_i r]) [m_r v0, m_i v1, m_i v2] h (t1_longestOfFewest v0 v1 v2 h) :=
  m_con2 (by decide +kernel) (Nat.le_of_ble_eq_true rfl) (fun Y hN hRm hr hI S hfin => s1_longestOfFewest S (m_end_i S hr hfin) hRm (Nat.le_refl _) hN v0 v1 v2 h)
set_option maxRecDepth 100000 in
theorem e1_stretchBegin : ∀ q ∈ ([(0, .iload_n 2, 1), (1, .ifCond .lt 11, 3), (4, .iload_n 2, 1), (5, .aload_n 0, 1), (6, .invokevirtual 157, 3), (9, .if_icmp .lt 5, 3), (12, .iconst (-1), 1), (13, .ireturn, 1), (14, .iconst 0, 1), (15, .istore_n 3, 1), (16, .iconst 0, 1), (17, .istore 4, 2), (19, .iload 4, 2), (21, .iload_n 2, 1), (22, .if_icmp .ge 18, 3), (25, .iload_n 3, 1), (26, .aload_n 0, 1), (27, .iload_n 3, 1), (28, .iload_n 1, 1), (29, .invokevirtual 160, 3), (32, .iadd, 1), (33, .istore_n 3, 1), (34, .iinc 4 1, 3), (37, .goto (-18), 3), (40, .iload_n 3, 1), (41, .ireturn, 1)] : List (Nat × Instr × Nat)), decode cX1_stretchBegin q.1 = .ok q.2 := by decide +kernel
set_option maxHeartbeats 4000000 in
set_option maxRecDepth 20000 in
theorem s1_stretchBegin_c19 {Y : m_Y Int} (S : m_Std Y RX1 cX1_stretchBegin) (E : m_End Y cX1_stretchBegin .ireturn (fun r => [m_i r])) {F : Nat} (hF : m_Rm Y F) (hFn : 3 ≤ F) (hN : Y.2.2.2.1 = 5) : ∀ (v0 v1 v2 v3 v4 : Int) (h : m_H), m_Sim Y 19 [(0, m_r v0), (1, m_i v1), (2, m_i v2), (3, m_i v3), (4, m_i v4)] [] h (t1_stretchBegin_c19 v0 v1 v2 v3 v4 h) := by
  intro v0 v1 v2 v3 v4 h
  refine ms_all fun r e => ?_
  refine t1_stretchBegin_c19.partial_correctness v0 v1 v2 (motive := fun v3 v4 h r => m_Sim Y 19 [(0, m_r v0), (1, m_i v1), (2, m_i v2), (3, m_i v3), (4, m_i v4)] [] h (some r)) ?_ v3 v4 h r e
  intro f ih v3 v4 h r e
  have ih : ∀ (v3 v4 : Int) (h : m_H), m_Sim Y 19 [(0, m_r v0), (1, m_i v1), (2, m_i v2), (3, m_i v3), (4, m_i v4)] [] h (f v3 v4 h ) := fun v3 v4 h  => ms_all fun r e => ih v3 v4 h r e
  refine ms_use ?_ e
  clear e r
  refine ms_iload (pc := 19) S 4 rfl (m_dec e1_stretchBegin 12 rfl) ?_
  refine ms_iload_n (pc := 21) S 2 rfl rfl (m_dec e1_stretchBegin 13 rfl) ?_
  refine ms_icmp_ge (pc := 22) S (m_dec e1_stretchBegin 14 rfl) rfl (fun q1 => ?_) (fun q1 => ?_)
  · refine ms_iload_n (pc := 25) S 3 rfl rfl (m_dec e1_stretchBegin 15 rfl) ?_
    refine ms_aload_n (pc := 26) S 0 rfl rfl (m_dec e1_stretchBegin 16 rfl) ?_
    refine ms_iload_n (pc := 27) S 3 rfl rfl (m_dec e1_stretchBegin 17 rfl) ?_
    refine ms_iload_n (pc := 28) S 1 rfl rfl (m_dec e1_stretchBegin 18 rfl) ?_
    refine ms_grd fun g2 => ?_
    refine ms_callVi (pc := 29) S hF (vals := [m_i v3, m_i v1]) (st := [m_i v3]) (hc := vw_1) (hci := by decide) (hcy := rfl) (ht := g2) (hC := (k1_longestOfFewest _ _ v0 v3 v1 h)) (hM := lm_X1_160) (hfr := (Nat.le_trans (by decide) hFn)) (hstk := rfl) (hcat := Nat.le_of_ble_eq_true rfl) (hd := (m_dec e1_stretchBegin 19 rfl)) (k1 := fun r4 h3 => ?_)
    refine ms_iadd (pc := 32) S (m_dec e1_stretchBegin 20 rfl) ?_
    refine ms_nm (st := fun x5 => [m_i x5]) fun x5 => ?_
    refine ms_istore_n (pc := 33) S (L' := [(0, m_r v0), (1, m_i v1), (2, m_i v2), (3, m_i x5), (4, m_i v4)]) [1, 2, 3, 0, 4] rfl rfl (m_lt hN rfl) (m_dec e1_stretchBegin 21 rfl) ?_
    refine ms_iinc (pc := 34) S (L' := [(0, m_r v0), (1, m_i v1), (2, m_i v2), (3, m_i x5), (4, m_i (v4 + 1))]) 4 rfl [1, 2, 3, 4, 0] rfl (m_lt hN rfl) (m_dec e1_stretchBegin 22 rfl) ?_
    refine ms_goto (pc := 37) S (m_dec e1_stretchBegin 23 rfl) rfl ?_
    exact ih x5 (v4 + 1) h3
  · refine ms_iload_n (pc := 40) S 3 rfl rfl (m_dec e1_stretchBegin 24 rfl) ?_
    exact ms_ret (pc := 41) E (m_dec e1_stretchBegin 25 rfl) rfl
set_option maxHeartbeats 4000000 in
set_option maxRecDepth 20000 in
theorem s1_stretchBegin {Y : m_Y Int} (S : m_Std Y RX1 cX1_stretchBegin) (E : m_End Y cX1_stretchBegin .ireturn (fun r => [m_i r])) {F : Nat} (hF : m_Rm Y F) (hFn : 3 ≤ F) (hN : Y.2.2.2.1 = 5) (v0 v1 v2 : Int) (h : m_H) : m_Sim Y 0 [(0, m_r v0), (1, m_i v1), (2, m_i v2)] [] h (t1_stretchBegin v0 v1 v2 h) := by
  unfold t1_stretchBegin
  refine ms_iload_n (pc := 0) S 2 rfl rfl (m_dec e1_stretchBegin 0 rfl) ?_
  refine ms_if_lt (pc := 1) S (m_dec e1_stretchBegin 1 rfl) rfl (fun q1 => ?_) (fun q1 => ?_)
  · refine ms_iconst (pc := 12) S (m_dec e1_stretchBegin 6 rfl) ?_
    exact ms_ret (pc := 13) E (m_dec e1_stretchBegin 7 rfl) rfl
  · refine ms_iload_n (pc := 4) S 2 rfl rfl (m_dec e1_stretchBegin 2 rfl) ?_
    refine ms_aload_n (pc := 5) S 0 rfl rfl (m_dec e1_stretchBegin 3 rfl) ?_
    refine ms_grd fun g2 => ?_
    refine ms_callVi (pc := 6) S hF (vals := []) (st := [m_i v2]) (hc := vw_1) (hci := by decide) (hcy := rfl) (ht := g2) (hC := (k1_stretches _ _ v0 h)) (hM := lm_X1_157) (hfr := (Nat.le_trans (by decide) hFn)) (hstk := rfl) (hcat := Nat.le_of_ble_eq_true rfl) (hd := (m_dec e1_stretchBegin 4 rfl)) (k1 := fun r4 h3 => ?_)
    refine ms_icmp_lt (pc := 9) S (m_dec e1_stretchBegin 5 rfl) rfl (fun q5 => ?_) (fun q5 => ?_)
    · refine ms_iconst (pc := 14) S (m_dec e1_stretchBegin 8 rfl) ?_
      refine ms_istore_n (pc := 15) S (L' := [(0, m_r v0), (1, m_i v1), (2, m_i v2), (3, m_i 0)]) [1, 2, 3, 0] rfl rfl (m_lt hN rfl) (m_dec e1_stretchBegin 9 rfl) ?_
      refine ms_iconst (pc := 16) S (m_dec e1_stretchBegin 10 rfl) ?_
      refine ms_istore (pc := 17) S (L' := [(0, m_r v0), (1, m_i v1), (2, m_i v2), (3, m_i 0), (4, m_i 0)]) [1, 2, 3, 4, 0] rfl (m_lt hN rfl) (m_dec e1_stretchBegin 11 rfl) ?_
      exact s1_stretchBegin_c19 S E hF hFn hN v0 v1 v2 0 0 h3
    · refine ms_iconst (pc := 12) S (m_dec e1_stretchBegin 6 rfl) ?_
      exact ms_ret (pc := 13) E (m_dec e1_stretchBegin 7 rfl) rfl
theorem k1_stretchBegin (l : Launch) (d : m_D) (v0 v1 v2 : Int) (h : m_H) : m_Con l d yX1_stretchBegin cX1_stretchBegin 5 (some .int) 3 (fun r => [m_i r]) [m_r v0, m_i v1, m_i v2] h (t1_stretchBegin v0 v1 v2 h) :=
  m_con2 (by decide +kernel) (Nat.le_of_ble_eq_true rfl) (fun Y hN hRm hr hI S hfin => s1_stretchBegin S (m_end_i S hr hfin) hRm (Nat.le_refl _) hN v0 v1 v2 h)
set_option maxRecDepth 100000 in
theorem e1_firstUnfound : ∀ q ∈ ([(0, .iload_n 1, 1), (1, .iload_n 2, 1), (2, .invokestatic 72, 3), (5, .ifCond .ne 5, 3), (8, .iconst (-1), 1), (9, .ireturn, 1), (10, .aload_n 0, 1), (11, .iload_n 2, 1), (12, .invokevirtual 150, 3), (15, .iconst 0, 1), (16, .istore_n 3, 1), (17, .iconst 0, 1), (18, .istore 4, 2), (20, .iload 4, 2), (22, .aload_n 0, 1), (23, .getfield 36, 3), (26, .invokevirtual 62, 3), (29, .if_icmp .ge 33, 3), (32, .aload_n 0, 1), (33, .iload 4, 2), (35, .invokevirtual 139, 3), (38, .iload_n 1, 1), (39, .if_icmp .lt 8, 3), (42, .iload 4, 2), (44, .iload_n 1, 1), (45, .iadd, 1), (46, .istore_n 3, 1), (47, .iload 4, 2), (49, .iload_n 3, 1), (50, .if_icmp .lt 6, 3), (53, .iload 4, 2), (55, .ireturn, 1), (56, .iinc 4 1, 3), (59, .goto (-39), 3), (62, .iconst (-1), 1), (63, .ireturn, 1)] : List (Nat × Instr × Nat)), decode cX1_firstUnfound q.1 = .ok q.2 := by decide +kernel
set_option maxHeartbeats 4000000 in
set_option maxRecDepth 20000 in
theorem s1_firstUnfound_x20 {Y : m_Y Int} (S : m_Std Y RX1 cX1_firstUnfound) (E : m_End Y cX1_firstUnfound .ireturn (fun r => [m_i r])) {F : Nat} (hF : m_Rm Y F) (hFn : 6 ≤ F) (hN : Y.2.2.2.1 = 5) : ∀ (cc : Int) (v0 v1 v3 v4 : Int) (h : m_H) (r : Int × m_H), t1_firstUnfound_x20 cc v0 v1 v3 v4 h = some r → (cc = 20 → m_Sim Y 20 [(0, m_r v0), (1, m_i v1), (3, m_i v3), (4, m_i v4)] [] h (some r)) ∧ (cc = 47 → m_Sim Y 47 [(0, m_r v0), (1, m_i v1), (3, m_i v3), (4, m_i v4)] [] h (some r)) := by
  intro cc v0 v1 v3 v4 h r e
  refine t1_firstUnfound_x20.partial_correctness v0 v1 (motive := fun cc v3 v4 h r => (cc = 20 → m_Sim Y 20 [(0, m_r v0), (1, m_i v1), (3, m_i v3), (4, m_i v4)] [] h (some r)) ∧ (cc = 47 → m_Sim Y 47 [(0, m_r v0), (1, m_i v1), (3, m_i v3), (4, m_i v4)] [] h (some r))) ?_ cc v3 v4 h r e
  intro f ih cc v3 v4 h r e
  have ih20 : ∀ (v3 v4 : Int) (h : m_H), m_Sim Y 20 [(0, m_r v0), (1, m_i v1), (3, m_i v3), (4, m_i v4)] [] h (f 20 v3 v4 h ) := fun v3 v4 h  => ms_all fun r e => (ih 20 v3 v4 h r e).1 rfl
  have ih47 : ∀ (v3 v4 : Int) (h : m_H), m_Sim Y 47 [(0, m_r v0), (1, m_i v1), (3, m_i v3), (4, m_i v4)] [] h (f 47 v3 v4 h ) := fun v3 v4 h  => ms_all fun r e => (ih 47 v3 v4 h r e).2 rfl
  refine ⟨?_, ?_⟩
  · intro q0
    subst q0
    rw [if_pos rfl] at e
    refine ms_use ?_ e
    clear e r
    refine ms_iload (pc := 20) S 3 rfl (m_dec e1_firstUnfound 13 rfl) ?_
    refine ms_aload_n (pc := 22) S 0 rfl rfl (m_dec e1_firstUnfound 14 rfl) ?_
    refine ms_grd fun g1 => ?_
    refine ms_getf (pc := 23) S lf_X1_36 rfl (m_dec e1_firstUnfound 15 rfl) g1 ?_
    refine ms_grd fun g2 => ?_
    refine ms_callVi (pc := 26) S hF (vals := []) (st := [m_i v4]) (hc := vw_5) (hci := by decide) (hcy := rfl) (ht := g2) (hC := (k5_size _ _ (m_g h v0 1) h)) (hM := lm_X1_62) (hfr := (Nat.le_trans (by decide) hFn)) (hstk := rfl) (hcat := Nat.le_of_ble_eq_true rfl) (hd := (m_dec e1_firstUnfound 16 rfl)) (k1 := fun r4 h3 => ?_)
    refine ms_icmp_ge (pc := 29) S (m_dec e1_firstUnfound 17 rfl) rfl (fun q5 => ?_) (fun q5 => ?_)
    · refine ms_aload_n (pc := 32) S 0 rfl rfl (m_dec e1_firstUnfound 18 rfl) ?_
      refine ms_iload (pc := 33) S 3 rfl (m_dec e1_firstUnfound 19 rfl) ?_
      refine ms_grd fun g6 => ?_
      refine ms_callVi (pc := 35) S hF (vals := [m_i v4]) (st := []) (hc := vw_1) (hci := by decide) (hcy := rfl) (ht := g6) (hC := (k1_longestFrom _ _ v0 v4 h3)) (hM := lm_X1_139) (hfr := (Nat.le_trans (by decide) hFn)) (hstk := rfl) (hcat := Nat.le_of_ble_eq_true rfl) (hd := (m_dec e1_firstUnfound 20 rfl)) (k1 := fun r8 h7 => ?_)
      refine ms_iload_n (pc := 38) S 1 rfl rfl (m_dec e1_firstUnfound 21 rfl) ?_
      refine ms_icmp_lt (pc := 39) S (m_dec e1_firstUnfound 22 rfl) rfl (fun q9 => ?_) (fun q9 => ?_)
      · exact ih47 v3 v4 h7
      · refine ms_iload (pc := 42) S 3 rfl (m_dec e1_firstUnfound 23 rfl) ?_
        refine ms_iload_n (pc := 44) S 1 rfl rfl (m_dec e1_firstUnfound 24 rfl) ?_
        refine ms_iadd (pc := 45) S (m_dec e1_firstUnfound 25 rfl) ?_
        refine ms_nm (st := fun x10 => [m_i x10]) fun x10 => ?_
        refine ms_istore_n (pc := 46) S (L' := [(0, m_r v0), (1, m_i v1), (3, m_i x10), (4, m_i v4)]) [1, 2, 0, 3] rfl rfl (m_lt hN rfl) (m_dec e1_firstUnfound 26 rfl) ?_
        exact ih47 x10 v4 h7
    · refine ms_iconst (pc := 62) S (m_dec e1_firstUnfound 34 rfl) ?_
      exact ms_ret (pc := 63) E (m_dec e1_firstUnfound 35 rfl) rfl
  · intro q0
    subst q0
    rw [if_neg (by decide), if_pos rfl] at e
    refine ms_use ?_ e
    clear e r
    refine ms_iload (pc := 47) S 3 rfl (m_dec e1_firstUnfound 27 rfl) ?_
    refine ms_iload_n (pc := 49) S 2 rfl rfl (m_dec e1_firstUnfound 28 rfl) ?_
    refine ms_icmp_lt (pc := 50) S (m_dec e1_firstUnfound 29 rfl) rfl (fun q1 => ?_) (fun q1 => ?_)
    · refine ms_iinc (pc := 56) S (L' := [(0, m_r v0), (1, m_i v1), (3, m_i v3), (4, m_i (v4 + 1))]) 3 rfl [1, 2, 3, 0] rfl (m_lt hN rfl) (m_dec e1_firstUnfound 32 rfl) ?_
      refine ms_goto (pc := 59) S (m_dec e1_firstUnfound 33 rfl) rfl ?_
      exact ih20 v3 (v4 + 1) h
    · refine ms_iload (pc := 53) S 3 rfl (m_dec e1_firstUnfound 30 rfl) ?_
      exact ms_ret (pc := 55) E (m_dec e1_firstUnfound 31 rfl) rfl
set_option maxHeartbeats 4000000 in
set_option maxRecDepth 20000 in
theorem s1_firstUnfound_c20 {Y : m_Y Int} (S : m_Std Y RX1 cX1_firstUnfound) (E : m_End Y cX1_firstUnfound .ireturn (fun r => [m_i r])) {F : Nat} (hF : m_Rm Y F) (hFn : 6 ≤ F) (hN : Y.2.2.2.1 = 5) (v0 v1 v3 v4 : Int) (h : m_H) : m_Sim Y 20 [(0, m_r v0), (1, m_i v1), (3, m_i v3), (4, m_i v4)] [] h (t1_firstUnfound_x20 20 v0 v1 v3 v4 h) := ms_all fun r e => (s1_firstUnfound_x20 S E hF hFn hN 20 v0 v1 v3 v4 h r e).1 rfl
set_option maxHeartbeats 4000000 in
set_option maxRecDepth 20000 in
theorem s1_firstUnfound_c47 {Y : m_Y Int} (S : m_Std Y RX1 cX1_firstUnfound) (E : m_End Y cX1_firstUnfound .ireturn (fun r => [m_i r])) {F : Nat} (hF : m_Rm Y F) (hFn : 6 ≤ F) (hN : Y.2.2.2.1 = 5) (v0 v1 v3 v4 : Int) (h : m_H) : m_Sim Y 47 [(0, m_r v0), (1, m_i v1), (3, m_i v3), (4, m_i v4)] [] h (t1_firstUnfound_x20 47 v0 v1 v3 v4 h) := ms_all fun r e => (s1_firstUnfound_x20 S E hF hFn hN 47 v0 v1 v3 v4 h r e).2 rfl
set_option maxHeartbeats 4000000 in
set_option maxRecDepth 20000 in
theorem s1_firstUnfound {Y : m_Y Int} (S : m_Std Y RX1 cX1_firstUnfound) (E : m_End Y cX1_firstUnfound .ireturn (fun r => [m_i r])) {F : Nat} (hF : m_Rm Y F) (hFn : 6 ≤ F) (hN : Y.2.2.2.1 = 5) (v0 v1 v2 : Int) (h : m_H) : m_Sim Y 0 [(0, m_r v0), (1, m_i v1), (2, m_i v2)] [] h (t1_firstUnfound v0 v1 v2 h) := by
  unfold t1_firstUnfound
  refine ms_iload_n (pc := 0) S 1 rfl rfl (m_dec e1_firstUnfound 0 rfl) ?_
  refine ms_iload_n (pc := 1) S 2 rfl rfl (m_dec e1_firstUnfound 1 rfl) ?_
  refine ms_callSz (pc := 2) S hF (vals := [m_i v1, m_i v2]) (st := [])  (hC := (k1_isAsked _ _ v1 v2 h)) (hM := lm_X1_72) (hfr := (Nat.le_trans (by decide) hFn)) (hstk := rfl) (hcat := Nat.le_of_ble_eq_true rfl) (hd := (m_dec e1_firstUnfound 2 rfl)) (k1 := fun r2 h1 => ?_)
  refine ms_ifb_ne (pc := 5) S (m_dec e1_firstUnfound 3 rfl) rfl (fun q3 => ?_) (fun q3 => ?_)
  · refine ms_aload_n (pc := 10) S 0 rfl rfl (m_dec e1_firstUnfound 6 rfl) ?_
    refine ms_iload_n (pc := 11) S 2 rfl rfl (m_dec e1_firstUnfound 7 rfl) ?_
    refine ms_grd fun g4 => ?_
    refine ms_callVv (pc := 12) S hF (vals := [m_i v2]) (st := []) (hc := vw_1) (hci := by decide) (hcy := rfl) (ht := g4) (hC := (k1_measure _ _ v0 v2 h1)) (hM := lm_X1_150) (hfr := (Nat.le_trans (by decide) hFn)) (hstk := rfl) (hcat := Nat.le_of_ble_eq_true rfl) (hd := (m_dec e1_firstUnfound 8 rfl)) (k1 := fun h5 => ?_)
    refine ms_iconst (pc := 15) S (m_dec e1_firstUnfound 9 rfl) ?_
    refine ms_istore_n (pc := 16) S (L' := [(0, m_r v0), (1, m_i v1), (3, m_i 0)]) [1, 2, 0] rfl rfl (m_lt hN rfl) (m_dec e1_firstUnfound 10 rfl) ?_
    refine ms_iconst (pc := 17) S (m_dec e1_firstUnfound 11 rfl) ?_
    refine ms_istore (pc := 18) S (L' := [(0, m_r v0), (1, m_i v1), (3, m_i 0), (4, m_i 0)]) [1, 2, 3, 0] rfl (m_lt hN rfl) (m_dec e1_firstUnfound 12 rfl) ?_
    exact s1_firstUnfound_c20 S E hF hFn hN v0 v1 0 0 h5
  · refine ms_iconst (pc := 8) S (m_dec e1_firstUnfound 4 rfl) ?_
    exact ms_ret (pc := 9) E (m_dec e1_firstUnfound 5 rfl) rfl
theorem k1_firstUnfound (l : Launch) (d : m_D) (v0 v1 v2 : Int) (h : m_H) : m_Con l d yX1_firstUnfound cX1_firstUnfound 5 (some .int) 6 (fun r => [m_i r]) [m_r v0, m_i v1, m_i v2] h (t1_firstUnfound v0 v1 v2 h) :=
  m_con2 (by decide +kernel) (Nat.le_of_ble_eq_true rfl) (fun Y hN hRm hr hI S hfin => s1_firstUnfound S (m_end_i S hr hfin) hRm (Nat.le_refl _) hN v0 v1 v2 h)
set_option maxRecDepth 100000 in
theorem e6_init : ∀ q ∈ ([(0, .aload_n 0, 1), (1, .invokespecial 3, 3), (4, .aload_n 0, 1), (5, .bipush 40, 2), (7, .newarray .int, 2), (9, .putfield 9, 3), (12, .aload_n 0, 1), (13, .aload_n 1, 1), (14, .putfield 15, 3), (17, .aload_n 0, 1), (18, .iload_n 2, 1), (19, .putfield 18, 3), (22, .return_, 1)] : List (Nat × Instr × Nat)), decode cX6_init q.1 = .ok q.2 := by decide +kernel
set_option maxHeartbeats 4000000 in
set_option maxRecDepth 20000 in
theorem s6_init {Y : m_Y Unit} (S : m_Std Y RX6 cX6_init) (E : m_End Y cX6_init .return_ (fun _ => [])) {F : Nat} (hF : m_Rm Y F) (hFn : 1 ≤ F) (hN : Y.2.2.2.1 = 3) (hI : Y.2.2.2.2.2 → Y.2.1.2.2.2.2.2.2.2.2.1.name = "<init>") (v0 v1 v2 : Int) (h : m_H) : m_Sim Y 0 [(0, m_r v0), (1, m_r v1), (2, m_i v2)] [] h (t6_init v0 v1 v2 h) := by
  unfold t6_init
  refine ms_aload_n (pc := 0) S 0 rfl rfl (m_dec e6_init 0 rfl) ?_
  refine ms_grd fun g1 => ?_
  refine ms_obj (pc := 1) S hF (Nat.le_trans (by decide) hFn) lo_X6_3 g1 (Nat.le_of_ble_eq_true rfl) (m_dec e6_init 1 rfl) ?_
  refine ms_aload_n (pc := 4) S 0 rfl rfl (m_dec e6_init 2 rfl) ?_
  refine ms_bipush (pc := 5) S (m_dec e6_init 3 rfl) rfl ?_
  refine ms_newa (pc := 7) S 20 (ty := .int) rfl (by decide) (fun _ => rfl) (fun _ => rfl) (by decide) (fun _ _ z => z) w_208 (by decide) (m_dec e6_init 4 rfl) (fun h2 => ?_)
  refine ms_grd fun g3 => ?_
  refine ms_putf (pc := 9) S lp_X6_9 (fun _ hf => hI hf) rfl (fun d => m_fitA _ d _) (m_dec e6_init 5 rfl) g3 (fun h4 => ?_)
  refine ms_aload_n (pc := 12) S 0 rfl rfl (m_dec e6_init 6 rfl) ?_
  refine ms_aload_n (pc := 13) S 1 rfl rfl (m_dec e6_init 7 rfl) ?_
  refine ms_grd fun g5 => ?_
  refine ms_putf (pc := 14) S lp_X6_15 (fun _ hf => hI hf) rfl (fun d => m_fitA _ d _) (m_dec e6_init 8 rfl) g5 (fun h6 => ?_)
  refine ms_aload_n (pc := 17) S 0 rfl rfl (m_dec e6_init 9 rfl) ?_
  refine ms_iload_n (pc := 18) S 2 rfl rfl (m_dec e6_init 10 rfl) ?_
  refine ms_grd fun g7 => ?_
  refine ms_putf (pc := 19) S lp_X6_18 (fun z => by cases z) rfl (fun d => m_fitI d _) (m_dec e6_init 11 rfl) g7 (fun h8 => ?_)
  exact ms_ret (pc := 22) E (m_dec e6_init 12 rfl) rfl
theorem k6_init (l : Launch) (d : m_D) (v0 v1 v2 : Int) (h : m_H) : m_Con l d yX6_init cX6_init 3 none 1 (fun _ => []) [m_r v0, m_r v1, m_i v2] h (t6_init v0 v1 v2 h) :=
  m_con2 (by decide +kernel) (Nat.le_of_ble_eq_true rfl) (fun Y hN hRm hr hI S hfin => s6_init S (m_end_v S hr hfin) hRm (Nat.le_refl _) hN hI v0 v1 v2 h)
set_option maxRecDepth 100000 in
theorem e2_init : ∀ q ∈ ([(0, .aload_n 0, 1), (1, .invokespecial 3, 3), (4, .aload_n 0, 1), (5, .new 9, 3), (8, .dup, 1), (9, .invokespecial 11, 3), (12, .putfield 12, 3), (15, .aload_n 0, 1), (16, .new 18, 3), (19, .dup, 1), (20, .iconst 0, 1), (21, .newarray .int, 2), (23, .iconst 0, 1), (24, .invokespecial 20, 3), (27, .putfield 23, 3), (30, .aload_n 0, 1), (31, .iconst (-1), 1), (32, .putfield 27, 3), (35, .aload_n 0, 1), (36, .bipush 40, 2), (38, .newarray .int, 2), (40, .putfield 31, 3), (43, .aload_n 0, 1), (44, .bipush 40, 2), (46, .newarray .int, 2), (48, .putfield 35, 3), (51, .aload_n 0, 1), (52, .aload_n 1, 1), (53, .putfield 38, 3), (56, .return_, 1)] : List (Nat × Instr × Nat)), decode cX2_init q.1 = .ok q.2 := by decide +kernel
set_option maxHeartbeats 4000000 in
set_option maxRecDepth 20000 in
theorem s2_init {Y : m_Y Unit} (S : m_Std Y RX2 cX2_init) (E : m_End Y cX2_init .return_ (fun _ => [])) {F : Nat} (hF : m_Rm Y F) (hFn : 2 ≤ F) (hN : Y.2.2.2.1 = 2) (hI : Y.2.2.2.2.2 → Y.2.1.2.2.2.2.2.2.2.2.1.name = "<init>") (v0 v1 : Int) (h : m_H) : m_Sim Y 0 [(0, m_r v0), (1, m_r v1)] [] h (t2_init v0 v1 h) := by
  unfold t2_init
  refine ms_aload_n (pc := 0) S 0 rfl rfl (m_dec e2_init 0 rfl) ?_
  refine ms_grd fun g1 => ?_
  refine ms_obj (pc := 1) S hF (Nat.le_trans (by decide) hFn) lo_X2_3 g1 (Nat.le_of_ble_eq_true rfl) (m_dec e2_init 1 rfl) ?_
  refine ms_aload_n (pc := 4) S 0 rfl rfl (m_dec e2_init 2 rfl) ?_
  refine ms_new (pc := 5) S ln_X2_9 rfl (m_dec e2_init 3 rfl) (fun h2 => ?_)
  refine ms_dup (pc := 8) S rfl (m_dec e2_init 4 rfl) ?_
  refine ms_grd fun g3 => ?_
  refine ms_callIv (pc := 9) S hF (vals := []) (st := [m_r (m_n h), m_r v0]) (ht := g3) (hC := (k5_init _ _ (m_n h) h2)) (hM := lm_X2_11) (hfr := (Nat.le_trans (by decide) hFn)) (hstk := rfl) (hcat := Nat.le_of_ble_eq_true rfl) (hd := (m_dec e2_init 5 rfl)) (k1 := fun h4 => ?_)
  refine ms_grd fun g6 => ?_
  refine ms_putf (pc := 12) S lp_X2_12 (fun _ hf => hI hf) rfl (fun d => m_fitO _ d _) (m_dec e2_init 6 rfl) g6 (fun h7 => ?_)
  refine ms_aload_n (pc := 15) S 0 rfl rfl (m_dec e2_init 7 rfl) ?_
  refine ms_new (pc := 16) S ln_X2_18 rfl (m_dec e2_init 8 rfl) (fun h8 => ?_)
  refine ms_dup (pc := 19) S rfl (m_dec e2_init 9 rfl) ?_
  refine ms_iconst (pc := 20) S (m_dec e2_init 10 rfl) ?_
  refine ms_newa (pc := 21) S 20 (ty := .int) rfl (by decide) (fun _ => rfl) (fun _ => rfl) (by decide) (fun _ _ z => z) w_208 (by decide) (m_dec e2_init 11 rfl) (fun h9 => ?_)
  refine ms_iconst (pc := 23) S (m_dec e2_init 12 rfl) ?_
  refine ms_grd fun g10 => ?_
  refine ms_callIv (pc := 24) S hF (vals := [m_r (m_n h8), m_i 0]) (st := [m_r (m_n h7), m_r v0]) (ht := g10) (hC := (k6_init _ _ (m_n h7) (m_n h8) 0 h9)) (hM := lm_X2_20) (hfr := (Nat.le_trans (by decide) hFn)) (hstk := rfl) (hcat := Nat.le_of_ble_eq_true rfl) (hd := (m_dec e2_init 13 rfl)) (k1 := fun h11 => ?_)
  refine ms_grd fun g13 => ?_
  refine ms_putf (pc := 27) S lp_X2_23 (fun z => by cases z) rfl (fun d => m_fitO _ d _) (m_dec e2_init 14 rfl) g13 (fun h14 => ?_)
  refine ms_aload_n (pc := 30) S 0 rfl rfl (m_dec e2_init 15 rfl) ?_
  refine ms_iconst (pc := 31) S (m_dec e2_init 16 rfl) ?_
  refine ms_grd fun g15 => ?_
  refine ms_putf (pc := 32) S lp_X2_27 (fun z => by cases z) rfl (fun d => m_fitI d _) (m_dec e2_init 17 rfl) g15 (fun h16 => ?_)
  refine ms_aload_n (pc := 35) S 0 rfl rfl (m_dec e2_init 18 rfl) ?_
  refine ms_bipush (pc := 36) S (m_dec e2_init 19 rfl) rfl ?_
  refine ms_newa (pc := 38) S 20 (ty := .int) rfl (by decide) (fun _ => rfl) (fun _ => rfl) (by decide) (fun _ _ z => z) w_208 (by decide) (m_dec e2_init 20 rfl) (fun h17 => ?_)
  refine ms_grd fun g18 => ?_
  refine ms_putf (pc := 40) S lp_X2_31 (fun _ hf => hI hf) rfl (fun d => m_fitA _ d _) (m_dec e2_init 21 rfl) g18 (fun h19 => ?_)
  refine ms_aload_n (pc := 43) S 0 rfl rfl (m_dec e2_init 22 rfl) ?_
  refine ms_bipush (pc := 44) S (m_dec e2_init 23 rfl) rfl ?_
  refine ms_newa (pc := 46) S 20 (ty := .int) rfl (by decide) (fun _ => rfl) (fun _ => rfl) (by decide) (fun _ _ z => z) w_208 (by decide) (m_dec e2_init 24 rfl) (fun h20 => ?_)
  refine ms_grd fun g21 => ?_
  refine ms_putf (pc := 48) S lp_X2_35 (fun _ hf => hI hf) rfl (fun d => m_fitA _ d _) (m_dec e2_init 25 rfl) g21 (fun h22 => ?_)
  refine ms_aload_n (pc := 51) S 0 rfl rfl (m_dec e2_init 26 rfl) ?_
  refine ms_aload_n (pc := 52) S 1 rfl rfl (m_dec e2_init 27 rfl) ?_
  refine ms_grd fun g23 => ?_
  refine ms_putf (pc := 53) S lp_X2_38 (fun _ hf => hI hf) rfl (fun d => m_fitO _ d _) (m_dec e2_init 28 rfl) g23 (fun h24 => ?_)
  exact ms_ret (pc := 56) E (m_dec e2_init 29 rfl) rfl
theorem k2_init (l : Launch) (d : m_D) (v0 v1 : Int) (h : m_H) : m_Con l d yX2_init cX2_init 2 none 2 (fun _ => []) [m_r v0, m_r v1] h (t2_init v0 v1 h) :=
  m_con2 (by decide +kernel) (Nat.le_of_ble_eq_true rfl) (fun Y hN hRm hr hI S hfin => s2_init S (m_end_v S hr hfin) hRm (Nat.le_refl _) hN hI v0 v1 h)
set_option maxRecDepth 100000 in
theorem e6_cell : ∀ q ∈ ([(0, .iload_n 1, 1), (1, .bipush 8, 2), (3, .imul, 1), (4, .iload_n 2, 1), (5, .iadd, 1), (6, .istore_n 3, 1), (7, .iload_n 1, 1), (8, .ifCond .lt 33, 3), (11, .iload_n 1, 1), (12, .aload_n 0, 1), (13, .getfield 18, 3), (16, .if_icmp .ge 25, 3), (19, .iload_n 3, 1), (20, .ifCond .lt 21, 3), (23, .iload_n 3, 1), (24, .aload_n 0, 1), (25, .getfield 15, 3), (28, .arraylength, 1), (29, .if_icmp .ge 12, 3), (32, .aload_n 0, 1), (33, .getfield 15, 3), (36, .iload_n 3, 1), (37, .iaload, 1), (38, .goto 4, 3), (41, .iconst (-1), 1), (42, .ireturn, 1)] : List (Nat × Instr × Nat)), decode cX6_cell q.1 = .ok q.2 := by decide +kernel
set_option maxHeartbeats 4000000 in
set_option maxRecDepth 20000 in
theorem s6_cell {Y : m_Y Int} (S : m_Std Y RX6 cX6_cell) (E : m_End Y cX6_cell .ireturn (fun r => [m_i r])) {F : Nat} (hF : m_Rm Y F) (hFn : 0 ≤ F) (hN : Y.2.2.2.1 = 4) (v0 v1 v2 : Int) (h : m_H) : m_Sim Y 0 [(0, m_r v0), (1, m_i v1), (2, m_i v2)] [] h (t6_cell v0 v1 v2 h) := by
  unfold t6_cell
  refine ms_iload_n (pc := 0) S 1 rfl rfl (m_dec e6_cell 0 rfl) ?_
  refine ms_bipush (pc := 1) S (m_dec e6_cell 1 rfl) rfl ?_
  refine ms_imul (pc := 3) S (m_dec e6_cell 2 rfl) ?_
  refine ms_iload_n (pc := 4) S 2 rfl rfl (m_dec e6_cell 3 rfl) ?_
  refine ms_iadd (pc := 5) S (m_dec e6_cell 4 rfl) ?_
  refine ms_nm (st := fun x1 => [m_i x1]) fun x1 => ?_
  refine ms_istore_n (pc := 6) S (L' := [(0, m_r v0), (1, m_i v1), (3, m_i x1)]) [1, 2, 0] rfl rfl (m_lt hN rfl) (m_dec e6_cell 5 rfl) ?_
  refine ms_iload_n (pc := 7) S 1 rfl rfl (m_dec e6_cell 6 rfl) ?_
  refine ms_if_lt (pc := 8) S (m_dec e6_cell 7 rfl) rfl (fun q2 => ?_) (fun q2 => ?_)
  · refine ms_iconst (pc := 41) S (m_dec e6_cell 24 rfl) ?_
    exact ms_ret (pc := 42) E (m_dec e6_cell 25 rfl) rfl
  · refine ms_iload_n (pc := 11) S 1 rfl rfl (m_dec e6_cell 8 rfl) ?_
    refine ms_aload_n (pc := 12) S 0 rfl rfl (m_dec e6_cell 9 rfl) ?_
    refine ms_grd fun g3 => ?_
    refine ms_getf (pc := 13) S lf_X6_18 rfl (m_dec e6_cell 10 rfl) g3 ?_
    refine ms_icmp_ge (pc := 16) S (m_dec e6_cell 11 rfl) rfl (fun q4 => ?_) (fun q4 => ?_)
    · refine ms_iload_n (pc := 19) S 2 rfl rfl (m_dec e6_cell 12 rfl) ?_
      refine ms_if_lt (pc := 20) S (m_dec e6_cell 13 rfl) rfl (fun q5 => ?_) (fun q5 => ?_)
      · refine ms_iconst (pc := 41) S (m_dec e6_cell 24 rfl) ?_
        exact ms_ret (pc := 42) E (m_dec e6_cell 25 rfl) rfl
      · refine ms_iload_n (pc := 23) S 2 rfl rfl (m_dec e6_cell 14 rfl) ?_
        refine ms_aload_n (pc := 24) S 0 rfl rfl (m_dec e6_cell 15 rfl) ?_
        refine ms_getf (pc := 25) S lf_X6_15 rfl (m_dec e6_cell 16 rfl) g3 ?_
        refine ms_grd fun g6 => ?_
        refine ms_alen (pc := 28) S g6 (m_dec e6_cell 17 rfl) ?_
        refine ms_icmp_ge (pc := 29) S (m_dec e6_cell 18 rfl) rfl (fun q7 => ?_) (fun q7 => ?_)
        · refine ms_aload_n (pc := 32) S 0 rfl rfl (m_dec e6_cell 19 rfl) ?_
          refine ms_getf (pc := 33) S lf_X6_15 rfl (m_dec e6_cell 20 rfl) g3 ?_
          refine ms_iload_n (pc := 36) S 2 rfl rfl (m_dec e6_cell 21 rfl) ?_
          refine ms_grd fun g8 => ?_
          refine ms_iald (pc := 37) S g8 (m_dec e6_cell 22 rfl) ?_
          refine ms_goto (pc := 38) S (m_dec e6_cell 23 rfl) rfl ?_
          exact ms_ret (pc := 42) E (m_dec e6_cell 25 rfl) rfl
        · refine ms_iconst (pc := 41) S (m_dec e6_cell 24 rfl) ?_
          exact ms_ret (pc := 42) E (m_dec e6_cell 25 rfl) rfl
    · refine ms_iconst (pc := 41) S (m_dec e6_cell 24 rfl) ?_
      exact ms_ret (pc := 42) E (m_dec e6_cell 25 rfl) rfl
theorem k6_cell (l : Launch) (d : m_D) (v0 v1 v2 : Int) (h : m_H) : m_Con l d yX6_cell cX6_cell 4 (some .int) 0 (fun r => [m_i r]) [m_r v0, m_i v1, m_i v2] h (t6_cell v0 v1 v2 h) :=
  m_con2 (by decide +kernel) (Nat.le_of_ble_eq_true rfl) (fun Y hN hRm hr hI S hfin => s6_cell S (m_end_i S hr hfin) hRm (Nat.le_refl _) hN v0 v1 v2 h)
set_option maxRecDepth 100000 in
theorem e6_isPut : ∀ q ∈ ([(0, .aload_n 0, 1), (1, .iload_n 1, 1), (2, .iconst 0, 1), (3, .invokevirtual 22, 3), (6, .bipush 12, 2), (8, .if_icmp .ne 7, 3), (11, .iconst 1, 1), (12, .goto 4, 3), (15, .iconst 0, 1), (16, .ireturn, 1)] : List (Nat × Instr × Nat)), decode cX6_isPut q.1 = .ok q.2 := by decide +kernel
set_option maxHeartbeats 4000000 in
set_option maxRecDepth 20000 in
theorem s6_isPut {Y : m_Y Bool} (S : m_Std Y RX6 cX6_isPut) (E : m_End Y cX6_isPut .ireturn (fun r => [m_i (m_b2i r)])) {F : Nat} (hF : m_Rm Y F) (hFn : 1 ≤ F) (hN : Y.2.2.2.1 = 2) (v0 v1 : Int) (h : m_H) : m_Sim Y 0 [(0, m_r v0), (1, m_i v1)] [] h (t6_isPut v0 v1 h) := by
  unfold t6_isPut
  refine ms_aload_n (pc := 0) S 0 rfl rfl (m_dec e6_isPut 0 rfl) ?_
  refine ms_iload_n (pc := 1) S 1 rfl rfl (m_dec e6_isPut 1 rfl) ?_
  refine ms_iconst (pc := 2) S (m_dec e6_isPut 2 rfl) ?_
  refine ms_grd fun g1 => ?_
  refine ms_callVi (pc := 3) S hF (vals := [m_i v1, m_i 0]) (st := []) (hc := vw_6) (hci := by decide) (hcy := rfl) (ht := g1) (hC := (k6_cell _ _ v0 v1 0 h)) (hM := lm_X6_22) (hfr := (Nat.le_trans (by decide) hFn)) (hstk := rfl) (hcat := Nat.le_of_ble_eq_true rfl) (hd := (m_dec e6_isPut 3 rfl)) (k1 := fun r3 h2 => ?_)
  refine ms_bipush (pc := 6) S (m_dec e6_isPut 4 rfl) rfl ?_
  refine ms_icmp_ne (pc := 8) S (m_dec e6_isPut 5 rfl) rfl (fun q4 => ?_) (fun q4 => ?_)
  · refine ms_iconst (pc := 11) S (m_dec e6_isPut 6 rfl) ?_
    refine ms_goto (pc := 12) S (m_dec e6_isPut 7 rfl) rfl ?_
    exact ms_ret (pc := 16) E (m_dec e6_isPut 9 rfl) rfl
  · refine ms_iconst (pc := 15) S (m_dec e6_isPut 8 rfl) ?_
    exact ms_ret (pc := 16) E (m_dec e6_isPut 9 rfl) rfl
theorem k6_isPut (l : Launch) (d : m_D) (v0 v1 : Int) (h : m_H) : m_Con l d yX6_isPut cX6_isPut 2 (some .boolean) 1 (fun r => [m_i (m_b2i r)]) [m_r v0, m_i v1] h (t6_isPut v0 v1 h) :=
  m_con2 (by decide +kernel) (Nat.le_of_ble_eq_true rfl) (fun Y hN hRm hr hI S hfin => s6_isPut S (m_end_z S hr hfin) hRm (Nat.le_refl _) hN v0 v1 h)
set_option maxRecDepth 100000 in
theorem e6_one : ∀ q ∈ ([(0, .aload_n 0, 1), (1, .iload_n 1, 1), (2, .iconst 1, 1), (3, .invokevirtual 22, 3), (6, .ireturn, 1)] : List (Nat × Instr × Nat)), decode cX6_one q.1 = .ok q.2 := by decide +kernel
set_option maxHeartbeats 4000000 in
set_option maxRecDepth 20000 in
theorem s6_one {Y : m_Y Int} (S : m_Std Y RX6 cX6_one) (E : m_End Y cX6_one .ireturn (fun r => [m_i r])) {F : Nat} (hF : m_Rm Y F) (hFn : 1 ≤ F) (hN : Y.2.2.2.1 = 2) (v0 v1 : Int) (h : m_H) : m_Sim Y 0 [(0, m_r v0), (1, m_i v1)] [] h (t6_one v0 v1 h) := by
  unfold t6_one
  refine ms_aload_n (pc := 0) S 0 rfl rfl (m_dec e6_one 0 rfl) ?_
  refine ms_iload_n (pc := 1) S 1 rfl rfl (m_dec e6_one 1 rfl) ?_
  refine ms_iconst (pc := 2) S (m_dec e6_one 2 rfl) ?_
  refine ms_grd fun g1 => ?_
  refine ms_callVi (pc := 3) S hF (vals := [m_i v1, m_i 1]) (st := []) (hc := vw_6) (hci := by decide) (hcy := rfl) (ht := g1) (hC := (k6_cell _ _ v0 v1 1 h)) (hM := lm_X6_22) (hfr := (Nat.le_trans (by decide) hFn)) (hstk := rfl) (hcat := Nat.le_of_ble_eq_true rfl) (hd := (m_dec e6_one 3 rfl)) (k1 := fun r3 h2 => ?_)
  exact ms_ret (pc := 6) E (m_dec e6_one 4 rfl) rfl
theorem k6_one (l : Launch) (d : m_D) (v0 v1 : Int) (h : m_H) : m_Con l d yX6_one cX6_one 2 (some .int) 1 (fun r => [m_i r]) [m_r v0, m_i v1] h (t6_one v0 v1 h) :=
  m_con2 (by decide +kernel) (Nat.le_of_ble_eq_true rfl) (fun Y hN hRm hr hI S hfin => s6_one S (m_end_i S hr hfin) hRm (Nat.le_refl _) hN v0 v1 h)
set_option maxRecDepth 100000 in
theorem e3_row : ∀ q ∈ ([(0, .iload_n 1, 1), (1, .ifCond .lt 21, 3), (4, .iload_n 1, 1), (5, .aload_n 0, 1), (6, .getfield 11, 3), (9, .arraylength, 1), (10, .if_icmp .ge 12, 3), (13, .aload_n 0, 1), (14, .getfield 11, 3), (17, .iload_n 1, 1), (18, .aaload, 1), (19, .goto 7, 3), (22, .aload_n 0, 1), (23, .getfield 18, 3), (26, .areturn, 1)] : List (Nat × Instr × Nat)), decode cX3_row q.1 = .ok q.2 := by decide +kernel
set_option maxHeartbeats 4000000 in
set_option maxRecDepth 20000 in
theorem s3_row {Y : m_Y Int} (S : m_Std Y RX3 cX3_row) (E : m_End Y cX3_row .areturn (fun r => [m_r r])) {F : Nat} (hF : m_Rm Y F) (hFn : 0 ≤ F) (hN : Y.2.2.2.1 = 2) (v0 v1 : Int) (h : m_H) : m_Sim Y 0 [(0, m_r v0), (1, m_i v1)] [] h (t3_row v0 v1 h) := by
  unfold t3_row
  refine ms_iload_n (pc := 0) S 1 rfl rfl (m_dec e3_row 0 rfl) ?_
  refine ms_if_lt (pc := 1) S (m_dec e3_row 1 rfl) rfl (fun q1 => ?_) (fun q1 => ?_)
  · refine ms_aload_n (pc := 22) S 0 rfl rfl (m_dec e3_row 12 rfl) ?_
    refine ms_grd fun g2 => ?_
    refine ms_getf (pc := 23) S lf_X3_18 rfl (m_dec e3_row 13 rfl) g2 ?_
    exact ms_ret (pc := 26) E (m_dec e3_row 14 rfl) rfl
  · refine ms_iload_n (pc := 4) S 1 rfl rfl (m_dec e3_row 2 rfl) ?_
    refine ms_aload_n (pc := 5) S 0 rfl rfl (m_dec e3_row 3 rfl) ?_
    refine ms_grd fun g3 => ?_
    refine ms_getf (pc := 6) S lf_X3_11 rfl (m_dec e3_row 4 rfl) g3 ?_
    refine ms_grd fun g4 => ?_
    refine ms_alen (pc := 9) S g4 (m_dec e3_row 5 rfl) ?_
    refine ms_icmp_ge (pc := 10) S (m_dec e3_row 6 rfl) rfl (fun q5 => ?_) (fun q5 => ?_)
    · refine ms_aload_n (pc := 13) S 0 rfl rfl (m_dec e3_row 7 rfl) ?_
      refine ms_getf (pc := 14) S lf_X3_11 rfl (m_dec e3_row 8 rfl) g3 ?_
      refine ms_iload_n (pc := 17) S 1 rfl rfl (m_dec e3_row 9 rfl) ?_
      refine ms_grd fun g6 => ?_
      refine ms_aald (pc := 18) S 27 (by decide) (fun _ => rfl) rfl g6 (m_dec e3_row 10 rfl) ?_
      refine ms_goto (pc := 19) S (m_dec e3_row 11 rfl) rfl ?_
      exact ms_ret (pc := 26) E (m_dec e3_row 14 rfl) rfl
    · refine ms_aload_n (pc := 22) S 0 rfl rfl (m_dec e3_row 12 rfl) ?_
      refine ms_getf (pc := 23) S lf_X3_18 rfl (m_dec e3_row 13 rfl) g3 ?_
      exact ms_ret (pc := 26) E (m_dec e3_row 14 rfl) rfl
theorem k3_row (l : Launch) (d : m_D) (v0 v1 : Int) (h : m_H) : m_Con l d yX3_row cX3_row 2 (some (.object "TapeStudio$Row")) 0 (fun r => [m_r r]) [m_r v0, m_i v1] h (t3_row v0 v1 h) :=
  m_con2 (by decide +kernel) (Nat.le_of_ble_eq_true rfl) (fun Y hN hRm hr hI S hfin => s3_row S (m_end_a S (by first | exact Or.inl ⟨_, rfl⟩ | exact Or.inr ⟨_, rfl⟩) hr hfin) hRm (Nat.le_refl _) hN v0 v1 h)
set_option maxRecDepth 100000 in
theorem e2_times : ∀ q ∈ ([(0, .aload_n 0, 1), (1, .getfield 23, 3), (4, .iload_n 1, 1), (5, .bipush 6, 2), (7, .invokevirtual 105, 3), (10, .ireturn, 1)] : List (Nat × Instr × Nat)), decode cX2_times q.1 = .ok q.2 := by decide +kernel
set_option maxHeartbeats 4000000 in
set_option maxRecDepth 20000 in
theorem s2_times {Y : m_Y Int} (S : m_Std Y RX2 cX2_times) (E : m_End Y cX2_times .ireturn (fun r => [m_i r])) {F : Nat} (hF : m_Rm Y F) (hFn : 1 ≤ F) (hN : Y.2.2.2.1 = 2) (v0 v1 : Int) (h : m_H) : m_Sim Y 0 [(0, m_r v0), (1, m_i v1)] [] h (t2_times v0 v1 h) := by
  unfold t2_times
  refine ms_aload_n (pc := 0) S 0 rfl rfl (m_dec e2_times 0 rfl) ?_
  refine ms_grd fun g1 => ?_
  refine ms_getf (pc := 1) S lf_X2_23 rfl (m_dec e2_times 1 rfl) g1 ?_
  refine ms_iload_n (pc := 4) S 1 rfl rfl (m_dec e2_times 2 rfl) ?_
  refine ms_bipush (pc := 5) S (m_dec e2_times 3 rfl) rfl ?_
  refine ms_grd fun g2 => ?_
  refine ms_callVi (pc := 7) S hF (vals := [m_i v1, m_i 6]) (st := []) (hc := vw_6) (hci := by decide) (hcy := rfl) (ht := g2) (hC := (k6_cell _ _ (m_g h v0 2) v1 6 h)) (hM := lm_X2_105) (hfr := (Nat.le_trans (by decide) hFn)) (hstk := rfl) (hcat := Nat.le_of_ble_eq_true rfl) (hd := (m_dec e2_times 4 rfl)) (k1 := fun r4 h3 => ?_)
  exact ms_ret (pc := 10) E (m_dec e2_times 5 rfl) rfl
theorem k2_times (l : Launch) (d : m_D) (v0 v1 : Int) (h : m_H) : m_Con l d yX2_times cX2_times 2 (some .int) 1 (fun r => [m_i r]) [m_r v0, m_i v1] h (t2_times v0 v1 h) :=
  m_con2 (by decide +kernel) (Nat.le_of_ble_eq_true rfl) (fun Y hN hRm hr hI S hfin => s2_times S (m_end_i S hr hfin) hRm (Nat.le_refl _) hN v0 v1 h)
set_option maxRecDepth 100000 in
theorem e2_beginOf : ∀ q ∈ ([(0, .aload_n 0, 1), (1, .getfield 23, 3), (4, .iload_n 1, 1), (5, .iconst 3, 1), (6, .invokevirtual 105, 3), (9, .iload_n 2, 1), (10, .aload_n 0, 1), (11, .getfield 23, 3), (14, .iload_n 1, 1), (15, .bipush 7, 2), (17, .invokevirtual 105, 3), (20, .imul, 1), (21, .iadd, 1), (22, .ireturn, 1)] : List (Nat × Instr × Nat)), decode cX2_beginOf q.1 = .ok q.2 := by decide +kernel
set_option maxHeartbeats 4000000 in
set_option maxRecDepth 20000 in
theorem s2_beginOf {Y : m_Y Int} (S : m_Std Y RX2 cX2_beginOf) (E : m_End Y cX2_beginOf .ireturn (fun r => [m_i r])) {F : Nat} (hF : m_Rm Y F) (hFn : 1 ≤ F) (hN : Y.2.2.2.1 = 3) (v0 v1 v2 : Int) (h : m_H) : m_Sim Y 0 [(0, m_r v0), (1, m_i v1), (2, m_i v2)] [] h (t2_beginOf v0 v1 v2 h) := by
  unfold t2_beginOf
  refine ms_aload_n (pc := 0) S 0 rfl rfl (m_dec e2_beginOf 0 rfl) ?_
  refine ms_grd fun g1 => ?_
  refine ms_getf (pc := 1) S lf_X2_23 rfl (m_dec e2_beginOf 1 rfl) g1 ?_
  refine ms_iload_n (pc := 4) S 1 rfl rfl (m_dec e2_beginOf 2 rfl) ?_
  refine ms_iconst (pc := 5) S (m_dec e2_beginOf 3 rfl) ?_
  refine ms_grd fun g2 => ?_
  refine ms_callVi (pc := 6) S hF (vals := [m_i v1, m_i 3]) (st := []) (hc := vw_6) (hci := by decide) (hcy := rfl) (ht := g2) (hC := (k6_cell _ _ (m_g h v0 2) v1 3 h)) (hM := lm_X2_105) (hfr := (Nat.le_trans (by decide) hFn)) (hstk := rfl) (hcat := Nat.le_of_ble_eq_true rfl) (hd := (m_dec e2_beginOf 4 rfl)) (k1 := fun r4 h3 => ?_)
  refine ms_iload_n (pc := 9) S 2 rfl rfl (m_dec e2_beginOf 5 rfl) ?_
  refine ms_aload_n (pc := 10) S 0 rfl rfl (m_dec e2_beginOf 6 rfl) ?_
  refine ms_grd fun g5 => ?_
  refine ms_getf (pc := 11) S lf_X2_23 rfl (m_dec e2_beginOf 7 rfl) g5 ?_
  refine ms_iload_n (pc := 14) S 1 rfl rfl (m_dec e2_beginOf 8 rfl) ?_
  refine ms_bipush (pc := 15) S (m_dec e2_beginOf 9 rfl) rfl ?_
  refine ms_grd fun g6 => ?_
  refine ms_callVi (pc := 17) S hF (vals := [m_i v1, m_i 7]) (st := [m_i v2, m_i r4]) (hc := vw_6) (hci := by decide) (hcy := rfl) (ht := g6) (hC := (k6_cell _ _ (m_g h3 v0 2) v1 7 h3)) (hM := lm_X2_105) (hfr := (Nat.le_trans (by decide) hFn)) (hstk := rfl) (hcat := Nat.le_of_ble_eq_true rfl) (hd := (m_dec e2_beginOf 10 rfl)) (k1 := fun r8 h7 => ?_)
  refine ms_imul (pc := 20) S (m_dec e2_beginOf 11 rfl) ?_
  refine ms_iadd (pc := 21) S (m_dec e2_beginOf 12 rfl) ?_
  exact ms_ret (pc := 22) E (m_dec e2_beginOf 13 rfl) rfl
theorem k2_beginOf (l : Launch) (d : m_D) (v0 v1 v2 : Int) (h : m_H) : m_Con l d yX2_beginOf cX2_beginOf 3 (some .int) 1 (fun r => [m_i r]) [m_r v0, m_i v1, m_i v2] h (t2_beginOf v0 v1 v2 h) :=
  m_con2 (by decide +kernel) (Nat.le_of_ble_eq_true rfl) (fun Y hN hRm hr hI S hfin => s2_beginOf S (m_end_i S hr hfin) hRm (Nat.le_refl _) hN v0 v1 v2 h)
set_option maxRecDepth 100000 in
theorem e2_length : ∀ q ∈ ([(0, .aload_n 0, 1), (1, .getfield 31, 3), (4, .iload_n 1, 1), (5, .iconst 0, 1), (6, .invokestatic 48, 3), (9, .ireturn, 1)] : List (Nat × Instr × Nat)), decode cX2_length q.1 = .ok q.2 := by decide +kernel
set_option maxHeartbeats 4000000 in
set_option maxRecDepth 20000 in
theorem s2_length {Y : m_Y Int} (S : m_Std Y RX2 cX2_length) (E : m_End Y cX2_length .ireturn (fun r => [m_i r])) {F : Nat} (hF : m_Rm Y F) (hFn : 1 ≤ F) (hN : Y.2.2.2.1 = 2) (v0 v1 : Int) (h : m_H) : m_Sim Y 0 [(0, m_r v0), (1, m_i v1)] [] h (t2_length v0 v1 h) := by
  unfold t2_length
  refine ms_aload_n (pc := 0) S 0 rfl rfl (m_dec e2_length 0 rfl) ?_
  refine ms_grd fun g1 => ?_
  refine ms_getf (pc := 1) S lf_X2_31 rfl (m_dec e2_length 1 rfl) g1 ?_
  refine ms_iload_n (pc := 4) S 1 rfl rfl (m_dec e2_length 2 rfl) ?_
  refine ms_iconst (pc := 5) S (m_dec e2_length 3 rfl) ?_
  refine ms_callSi (pc := 6) S hF (vals := [m_r (m_g h v0 4), m_i v1, m_i 0]) (st := [])  (hC := (k10_entry _ _ (m_g h v0 4) v1 0 h)) (hM := lm_X2_48) (hfr := (Nat.le_trans (by decide) hFn)) (hstk := rfl) (hcat := Nat.le_of_ble_eq_true rfl) (hd := (m_dec e2_length 4 rfl)) (k1 := fun r3 h2 => ?_)
  exact ms_ret (pc := 9) E (m_dec e2_length 5 rfl) rfl
theorem k2_length (l : Launch) (d : m_D) (v0 v1 : Int) (h : m_H) : m_Con l d yX2_length cX2_length 2 (some .int) 1 (fun r => [m_i r]) [m_r v0, m_i v1] h (t2_length v0 v1 h) :=
  m_con2 (by decide +kernel) (Nat.le_of_ble_eq_true rfl) (fun Y hN hRm hr hI S hfin => s2_length S (m_end_i S hr hfin) hRm (Nat.le_refl _) hN v0 v1 h)
set_option maxRecDepth 100000 in
theorem e5_silence : ∀ q ∈ ([(0, .aload_n 0, 1), (1, .iload_n 1, 1), (2, .invokevirtual 31, 3), (5, .aload_n 0, 1), (6, .getfield 7, 3), (9, .iconst 0, 1), (10, .invokestatic 47, 3), (13, .return_, 1)] : List (Nat × Instr × Nat)), decode cX5_silence q.1 = .ok q.2 := by decide +kernel
set_option maxHeartbeats 4000000 in
set_option maxRecDepth 20000 in
theorem s5_silence {Y : m_Y Unit} (S : m_Std Y RX5 cX5_silence) (E : m_End Y cX5_silence .return_ (fun _ => [])) {F : Nat} (hF : m_Rm Y F) (hFn : 2 ≤ F) (hN : Y.2.2.2.1 = 2) (v0 v1 : Int) (h : m_H) : m_Sim Y 0 [(0, m_r v0), (1, m_i v1)] [] h (t5_silence v0 v1 h) := by
  unfold t5_silence
  refine ms_aload_n (pc := 0) S 0 rfl rfl (m_dec e5_silence 0 rfl) ?_
  refine ms_iload_n (pc := 1) S 1 rfl rfl (m_dec e5_silence 1 rfl) ?_
  refine ms_grd fun g1 => ?_
  refine ms_callVv (pc := 2) S hF (vals := [m_i v1]) (st := []) (hc := vw_5) (hci := by decide) (hcy := rfl) (ht := g1) (hC := (k5_resize _ _ v0 v1 h)) (hM := lm_X5_31) (hfr := (Nat.le_trans (by decide) hFn)) (hstk := rfl) (hcat := Nat.le_of_ble_eq_true rfl) (hd := (m_dec e5_silence 2 rfl)) (k1 := fun h2 => ?_)
  refine ms_aload_n (pc := 5) S 0 rfl rfl (m_dec e5_silence 3 rfl) ?_
  refine ms_grd fun g4 => ?_
  refine ms_getf (pc := 6) S lf_X5_7 rfl (m_dec e5_silence 4 rfl) g4 ?_
  refine ms_iconst (pc := 9) S (m_dec e5_silence 5 rfl) ?_
  refine ms_callSv (pc := 10) S hF (vals := [m_r (m_g h2 v0 0), m_i 0]) (st := [])  (hC := (kJ7_fill_53178 _ _ (m_g h2 v0 0) 0 h2)) (hM := lm_X5_47) (hfr := (Nat.le_trans (by decide) hFn)) (hstk := rfl) (hcat := Nat.le_of_ble_eq_true rfl) (hd := (m_dec e5_silence 6 rfl)) (k1 := fun h5 => ?_)
  exact ms_ret (pc := 13) E (m_dec e5_silence 7 rfl) rfl
theorem k5_silence (l : Launch) (d : m_D) (v0 v1 : Int) (h : m_H) : m_Con l d yX5_silence cX5_silence 2 none 2 (fun _ => []) [m_r v0, m_i v1] h (t5_silence v0 v1 h) :=
  m_con2 (by decide +kernel) (Nat.le_of_ble_eq_true rfl) (fun Y hN hRm hr hI S hfin => s5_silence S (m_end_v S hr hfin) hRm (Nat.le_refl _) hN v0 v1 h)
set_option maxRecDepth 100000 in
theorem e5_raise : ∀ q ∈ ([(0, .iload_n 1, 1), (1, .ifCond .lt 30, 3), (4, .iload_n 1, 1), (5, .aload_n 0, 1), (6, .getfield 13, 3), (9, .if_icmp .ge 22, 3), (12, .iload_n 1, 1), (13, .aload_n 0, 1), (14, .getfield 7, 3), (17, .arraylength, 1), (18, .if_icmp .ge 13, 3), (21, .aload_n 0, 1), (22, .getfield 7, 3), (25, .iload_n 1, 1), (26, .dup2, 1), (27, .iaload, 1), (28, .iload_n 2, 1), (29, .iadd, 1), (30, .iastore, 1), (31, .return_, 1)] : List (Nat × Instr × Nat)), decode cX5_raise q.1 = .ok q.2 := by decide +kernel
set_option maxHeartbeats 4000000 in
set_option maxRecDepth 20000 in
theorem s5_raise {Y : m_Y Unit} (S : m_Std Y RX5 cX5_raise) (E : m_End Y cX5_raise .return_ (fun _ => [])) {F : Nat} (hF : m_Rm Y F) (hFn : 0 ≤ F) (hN : Y.2.2.2.1 = 3) (v0 v1 v2 : Int) (h : m_H) : m_Sim Y 0 [(0, m_r v0), (1, m_i v1), (2, m_i v2)] [] h (t5_raise v0 v1 v2 h) := by
  unfold t5_raise
  refine ms_iload_n (pc := 0) S 1 rfl rfl (m_dec e5_raise 0 rfl) ?_
  refine ms_if_lt (pc := 1) S (m_dec e5_raise 1 rfl) rfl (fun q1 => ?_) (fun q1 => ?_)
  · exact ms_ret (pc := 31) E (m_dec e5_raise 19 rfl) rfl
  · refine ms_iload_n (pc := 4) S 1 rfl rfl (m_dec e5_raise 2 rfl) ?_
    refine ms_aload_n (pc := 5) S 0 rfl rfl (m_dec e5_raise 3 rfl) ?_
    refine ms_grd fun g2 => ?_
    refine ms_getf (pc := 6) S lf_X5_13 rfl (m_dec e5_raise 4 rfl) g2 ?_
    refine ms_icmp_ge (pc := 9) S (m_dec e5_raise 5 rfl) rfl (fun q3 => ?_) (fun q3 => ?_)
    · refine ms_iload_n (pc := 12) S 1 rfl rfl (m_dec e5_raise 6 rfl) ?_
      refine ms_aload_n (pc := 13) S 0 rfl rfl (m_dec e5_raise 7 rfl) ?_
      refine ms_getf (pc := 14) S lf_X5_7 rfl (m_dec e5_raise 8 rfl) g2 ?_
      refine ms_grd fun g4 => ?_
      refine ms_alen (pc := 17) S g4 (m_dec e5_raise 9 rfl) ?_
      refine ms_icmp_ge (pc := 18) S (m_dec e5_raise 10 rfl) rfl (fun q5 => ?_) (fun q5 => ?_)
      · refine ms_aload_n (pc := 21) S 0 rfl rfl (m_dec e5_raise 11 rfl) ?_
        refine ms_getf (pc := 22) S lf_X5_7 rfl (m_dec e5_raise 12 rfl) g2 ?_
        refine ms_iload_n (pc := 25) S 1 rfl rfl (m_dec e5_raise 13 rfl) ?_
        refine ms_dup2 (pc := 26) S rfl rfl (m_dec e5_raise 14 rfl) ?_
        refine ms_grd fun g6 => ?_
        refine ms_iald (pc := 27) S g6 (m_dec e5_raise 15 rfl) ?_
        refine ms_iload_n (pc := 28) S 2 rfl rfl (m_dec e5_raise 16 rfl) ?_
        refine ms_iadd (pc := 29) S (m_dec e5_raise 17 rfl) ?_
        refine ms_iast (pc := 30) S g6 (m_dec e5_raise 18 rfl) (fun h7 => ?_)
        exact ms_ret (pc := 31) E (m_dec e5_raise 19 rfl) rfl
      · exact ms_ret (pc := 31) E (m_dec e5_raise 19 rfl) rfl
    · exact ms_ret (pc := 31) E (m_dec e5_raise 19 rfl) rfl
theorem k5_raise (l : Launch) (d : m_D) (v0 v1 v2 : Int) (h : m_H) : m_Con l d yX5_raise cX5_raise 3 none 0 (fun _ => []) [m_r v0, m_i v1, m_i v2] h (t5_raise v0 v1 v2 h) :=
  m_con2 (by decide +kernel) (Nat.le_of_ble_eq_true rfl) (fun Y hN hRm hr hI S hfin => s5_raise S (m_end_v S hr hfin) hRm (Nat.le_refl _) hN v0 v1 v2 h)
set_option maxRecDepth 100000 in
theorem e2_layPut : ∀ q ∈ ([(0, .iconst 0, 1), (1, .istore_n 3, 1), (2, .iload_n 3, 1), (3, .aload_n 0, 1), (4, .iload_n 1, 1), (5, .invokevirtual 72, 3), (8, .if_icmp .ge 53, 3), (11, .aload_n 0, 1), (12, .iload_n 1, 1), (13, .iload_n 3, 1), (14, .invokevirtual 75, 3), (17, .istore 4, 2), (19, .iconst 0, 1), (20, .istore 5, 2), (22, .iload 5, 2), (24, .aload_n 2, 1), (25, .invokevirtual 68, 3), (28, .if_icmp .ge 27, 3), (31, .aload_n 0, 1), (32, .getfield 12, 3), (35, .iload 4, 2), (37, .iload 5, 2), (39, .iadd, 1), (40, .aload_n 2, 1), (41, .iload 5, 2), (43, .invokevirtual 98, 3), (46, .invokevirtual 101, 3), (49, .iinc 5 1, 3), (52, .goto (-30), 3), (55, .iinc 3 1, 3), (58, .goto (-56), 3), (61, .return_, 1)] : List (Nat × Instr × Nat)), decode cX2_layPut q.1 = .ok q.2 := by decide +kernel
set_option maxHeartbeats 4000000 in
set_option maxRecDepth 20000 in
theorem s2_layPut_x2 {Y : m_Y Unit} (S : m_Std Y RX2 cX2_layPut) (E : m_End Y cX2_layPut .return_ (fun _ => [])) {F : Nat} (hF : m_Rm Y F) (hFn : 2 ≤ F) (hN : Y.2.2.2.1 = 6) : ∀ (cc : Int) (v0 v1 v2 v3 v4 v5 : Int) (h : m_H) (r : Unit × m_H), t2_layPut_x2 cc v0 v1 v2 v3 v4 v5 h = some r → (cc = 2 → m_Sim Y 2 [(0, m_r v0), (1, m_i v1), (2, m_r v2), (3, m_i v3)] [] h (some r)) ∧ (cc = 22 → m_Sim Y 22 [(0, m_r v0), (1, m_i v1), (2, m_r v2), (3, m_i v3), (4, m_i v4), (5, m_i v5)] [] h (some r)) := by
  intro cc v0 v1 v2 v3 v4 v5 h r e
  refine t2_layPut_x2.partial_correctness v0 v1 v2 (motive := fun cc v3 v4 v5 h r => (cc = 2 → m_Sim Y 2 [(0, m_r v0), (1, m_i v1), (2, m_r v2), (3, m_i v3)] [] h (some r)) ∧ (cc = 22 → m_Sim Y 22 [(0, m_r v0), (1, m_i v1), (2, m_r v2), (3, m_i v3), (4, m_i v4), (5, m_i v5)] [] h (some r))) ?_ cc v3 v4 v5 h r e
  intro f ih cc v3 v4 v5 h r e
  have ih2 : ∀ (v3 v4 v5 : Int) (h : m_H), m_Sim Y 2 [(0, m_r v0), (1, m_i v1), (2, m_r v2), (3, m_i v3)] [] h (f 2 v3 v4 v5 h ) := fun v3 v4 v5 h  => ms_all fun r e => (ih 2 v3 v4 v5 h r e).1 rfl
  have ih22 : ∀ (v3 v4 v5 : Int) (h : m_H), m_Sim Y 22 [(0, m_r v0), (1, m_i v1), (2, m_r v2), (3, m_i v3), (4, m_i v4), (5, m_i v5)] [] h (f 22 v3 v4 v5 h ) := fun v3 v4 v5 h  => ms_all fun r e => (ih 22 v3 v4 v5 h r e).2 rfl
  refine ⟨?_, ?_⟩
  · intro q0
    subst q0
    rw [if_pos rfl] at e
    refine ms_use ?_ e
    clear e r
    refine ms_iload_n (pc := 2) S 3 rfl rfl (m_dec e2_layPut 2 rfl) ?_
    refine ms_aload_n (pc := 3) S 0 rfl rfl (m_dec e2_layPut 3 rfl) ?_
    refine ms_iload_n (pc := 4) S 1 rfl rfl (m_dec e2_layPut 4 rfl) ?_
    refine ms_grd fun g1 => ?_
    refine ms_callVi (pc := 5) S hF (vals := [m_i v1]) (st := [m_i v3]) (hc := vw_2) (hci := by decide) (hcy := rfl) (ht := g1) (hC := (k2_times _ _ v0 v1 h)) (hM := lm_X2_72) (hfr := (Nat.le_trans (by decide) hFn)) (hstk := rfl) (hcat := Nat.le_of_ble_eq_true rfl) (hd := (m_dec e2_layPut 5 rfl)) (k1 := fun r3 h2 => ?_)
    refine ms_icmp_ge (pc := 8) S (m_dec e2_layPut 6 rfl) rfl (fun q4 => ?_) (fun q4 => ?_)
    · refine ms_aload_n (pc := 11) S 0 rfl rfl (m_dec e2_layPut 7 rfl) ?_
      refine ms_iload_n (pc := 12) S 1 rfl rfl (m_dec e2_layPut 8 rfl) ?_
      refine ms_iload_n (pc := 13) S 3 rfl rfl (m_dec e2_layPut 9 rfl) ?_
      refine ms_grd fun g5 => ?_
      refine ms_callVi (pc := 14) S hF (vals := [m_i v1, m_i v3]) (st := []) (hc := vw_2) (hci := by decide) (hcy := rfl) (ht := g5) (hC := (k2_beginOf _ _ v0 v1 v3 h2)) (hM := lm_X2_75) (hfr := (Nat.le_trans (by decide) hFn)) (hstk := rfl) (hcat := Nat.le_of_ble_eq_true rfl) (hd := (m_dec e2_layPut 10 rfl)) (k1 := fun r7 h6 => ?_)
      refine ms_istore (pc := 17) S (L' := [(0, m_r v0), (1, m_i v1), (2, m_r v2), (3, m_i v3), (4, m_i r7)]) [1, 2, 3, 4, 0] rfl (m_lt hN rfl) (m_dec e2_layPut 11 rfl) ?_
      refine ms_iconst (pc := 19) S (m_dec e2_layPut 12 rfl) ?_
      refine ms_istore (pc := 20) S (L' := [(0, m_r v0), (1, m_i v1), (2, m_r v2), (3, m_i v3), (4, m_i r7), (5, m_i 0)]) [1, 2, 3, 4, 5, 0] rfl (m_lt hN rfl) (m_dec e2_layPut 13 rfl) ?_
      exact ih22 v3 r7 0 h6
    · exact ms_ret (pc := 61) E (m_dec e2_layPut 31 rfl) rfl
  · intro q0
    subst q0
    rw [if_neg (by decide), if_pos rfl] at e
    refine ms_use ?_ e
    clear e r
    refine ms_iload (pc := 22) S 5 rfl (m_dec e2_layPut 14 rfl) ?_
    refine ms_aload_n (pc := 24) S 2 rfl rfl (m_dec e2_layPut 15 rfl) ?_
    refine ms_grd fun g1 => ?_
    refine ms_callVi (pc := 25) S hF (vals := []) (st := [m_i v5]) (hc := vw_5) (hci := by decide) (hcy := rfl) (ht := g1) (hC := (k5_size _ _ v2 h)) (hM := lm_X2_68) (hfr := (Nat.le_trans (by decide) hFn)) (hstk := rfl) (hcat := Nat.le_of_ble_eq_true rfl) (hd := (m_dec e2_layPut 16 rfl)) (k1 := fun r3 h2 => ?_)
    refine ms_icmp_ge (pc := 28) S (m_dec e2_layPut 17 rfl) rfl (fun q4 => ?_) (fun q4 => ?_)
    · refine ms_aload_n (pc := 31) S 0 rfl rfl (m_dec e2_layPut 18 rfl) ?_
      refine ms_grd fun g5 => ?_
      refine ms_getf (pc := 32) S lf_X2_12 rfl (m_dec e2_layPut 19 rfl) g5 ?_
      refine ms_iload (pc := 35) S 4 rfl (m_dec e2_layPut 20 rfl) ?_
      refine ms_iload (pc := 37) S 5 rfl (m_dec e2_layPut 21 rfl) ?_
      refine ms_iadd (pc := 39) S (m_dec e2_layPut 22 rfl) ?_
      refine ms_aload_n (pc := 40) S 2 rfl rfl (m_dec e2_layPut 23 rfl) ?_
      refine ms_iload (pc := 41) S 5 rfl (m_dec e2_layPut 24 rfl) ?_
      refine ms_grd fun g6 => ?_
      refine ms_callVi (pc := 43) S hF (vals := [m_i v5]) (st := [m_i (v4 + v5), m_r (m_g h2 v0 1)]) (hc := vw_5) (hci := by decide) (hcy := rfl) (ht := g6) (hC := (k5_get _ _ v2 v5 h2)) (hM := lm_X2_98) (hfr := (Nat.le_trans (by decide) hFn)) (hstk := rfl) (hcat := Nat.le_of_ble_eq_true rfl) (hd := (m_dec e2_layPut 25 rfl)) (k1 := fun r8 h7 => ?_)
      refine ms_grd fun g9 => ?_
      refine ms_callVv (pc := 46) S hF (vals := [m_i (v4 + v5), m_i r8]) (st := []) (hc := vw_5) (hci := by decide) (hcy := rfl) (ht := g9) (hC := (k5_raise _ _ (m_g h2 v0 1) (v4 + v5) r8 h7)) (hM := lm_X2_101) (hfr := (Nat.le_trans (by decide) hFn)) (hstk := rfl) (hcat := Nat.le_of_ble_eq_true rfl) (hd := (m_dec e2_layPut 26 rfl)) (k1 := fun h10 => ?_)
      refine ms_iinc (pc := 49) S (L' := [(0, m_r v0), (1, m_i v1), (2, m_r v2), (3, m_i v3), (4, m_i v4), (5, m_i (v5 + 1))]) 5 rfl [1, 2, 3, 4, 5, 0] rfl (m_lt hN rfl) (m_dec e2_layPut 27 rfl) ?_
      refine ms_goto (pc := 52) S (m_dec e2_layPut 28 rfl) rfl ?_
      exact ih22 v3 v4 (v5 + 1) h10
    · refine ms_iinc (pc := 55) S (L' := [(0, m_r v0), (1, m_i v1), (2, m_r v2), (3, m_i (v3 + 1))]) 3 rfl [1, 2, 3, 0] rfl (m_lt hN rfl) (m_dec e2_layPut 29 rfl) ?_
      refine ms_goto (pc := 58) S (m_dec e2_layPut 30 rfl) rfl ?_
      exact ih2 (v3 + 1) 0 0 h2
set_option maxHeartbeats 4000000 in
set_option maxRecDepth 20000 in
theorem s2_layPut_c2 {Y : m_Y Unit} (S : m_Std Y RX2 cX2_layPut) (E : m_End Y cX2_layPut .return_ (fun _ => [])) {F : Nat} (hF : m_Rm Y F) (hFn : 2 ≤ F) (hN : Y.2.2.2.1 = 6) (v0 v1 v2 v3 v4 v5 : Int) (h : m_H) : m_Sim Y 2 [(0, m_r v0), (1, m_i v1), (2, m_r v2), (3, m_i v3)] [] h (t2_layPut_x2 2 v0 v1 v2 v3 v4 v5 h) := ms_all fun r e => (s2_layPut_x2 S E hF hFn hN 2 v0 v1 v2 v3 v4 v5 h r e).1 rfl
set_option maxHeartbeats 4000000 in
set_option maxRecDepth 20000 in
theorem s2_layPut_c22 {Y : m_Y Unit} (S : m_Std Y RX2 cX2_layPut) (E : m_End Y cX2_layPut .return_ (fun _ => [])) {F : Nat} (hF : m_Rm Y F) (hFn : 2 ≤ F) (hN : Y.2.2.2.1 = 6) (v0 v1 v2 v3 v4 v5 : Int) (h : m_H) : m_Sim Y 22 [(0, m_r v0), (1, m_i v1), (2, m_r v2), (3, m_i v3), (4, m_i v4), (5, m_i v5)] [] h (t2_layPut_x2 22 v0 v1 v2 v3 v4 v5 h) := ms_all fun r e => (s2_layPut_x2 S E hF hFn hN 22 v0 v1 v2 v3 v4 v5 h r e).2 rfl
set_option maxHeartbeats 4000000 in
set_option maxRecDepth 20000 in
theorem s2_layPut {Y : m_Y Unit} (S : m_Std Y RX2 cX2_layPut) (E : m_End Y cX2_layPut .return_ (fun _ => [])) {F : Nat} (hF : m_Rm Y F) (hFn : 2 ≤ F) (hN : Y.2.2.2.1 = 6) (v0 v1 v2 : Int) (h : m_H) : m_Sim Y 0 [(0, m_r v0), (1, m_i v1), (2, m_r v2)] [] h (t2_layPut v0 v1 v2 h) := by
  unfold t2_layPut
  refine ms_iconst (pc := 0) S (m_dec e2_layPut 0 rfl) ?_
  refine ms_istore_n (pc := 1) S (L' := [(0, m_r v0), (1, m_i v1), (2, m_r v2), (3, m_i 0)]) [1, 2, 3, 0] rfl rfl (m_lt hN rfl) (m_dec e2_layPut 1 rfl) ?_
  exact s2_layPut_c2 S E hF hFn hN v0 v1 v2 0 0 0 h
theorem k2_layPut (l : Launch) (d : m_D) (v0 v1 v2 : Int) (h : m_H) : m_Con l d yX2_layPut cX2_layPut 6 none 2 (fun _ => []) [m_r v0, m_i v1, m_r v2] h (t2_layPut v0 v1 v2 h) :=
  m_con2 (by decide +kernel) (Nat.le_of_ble_eq_true rfl) (fun Y hN hRm hr hI S hfin => s2_layPut S (m_end_v S hr hfin) hRm (Nat.le_refl _) hN v0 v1 v2 h)
set_option maxRecDepth 100000 in
theorem e5_limit : ∀ q ∈ ([(0, .iconst 0, 1), (1, .istore_n 1, 1), (2, .iload_n 1, 1), (3, .aload_n 0, 1), (4, .getfield 13, 3), (7, .if_icmp .ge 19, 3), (10, .aload_n 0, 1), (11, .iload_n 1, 1), (12, .aload_n 0, 1), (13, .iload_n 1, 1), (14, .invokevirtual 23, 3), (17, .invokevirtual 27, 3), (20, .iinc 1 1, 3), (23, .goto (-21), 3), (26, .return_, 1)] : List (Nat × Instr × Nat)), decode cX5_limit q.1 = .ok q.2 := by decide +kernel
set_option maxHeartbeats 4000000 in
set_option maxRecDepth 20000 in
theorem s5_limit_c2 {Y : m_Y Unit} (S : m_Std Y RX5 cX5_limit) (E : m_End Y cX5_limit .return_ (fun _ => [])) {F : Nat} (hF : m_Rm Y F) (hFn : 3 ≤ F) (hN : Y.2.2.2.1 = 2) : ∀ (v0 v1 : Int) (h : m_H), m_Sim Y 2 [(0, m_r v0), (1, m_i v1)] [] h (t5_limit_c2 v0 v1 h) := by
  intro v0 v1 h
  refine ms_all fun r e => ?_
  refine t5_limit_c2.partial_correctness v0 (motive := fun v1 h r => m_Sim Y 2 [(0, m_r v0), (1, m_i v1)] [] h (some r)) ?_ v1 h r e
  intro f ih v1 h r e
  have ih : ∀ (v1 : Int) (h : m_H), m_Sim Y 2 [(0, m_r v0), (1, m_i v1)] [] h (f v1 h ) := fun v1 h  => ms_all fun r e => ih v1 h r e
  refine ms_use ?_ e
  clear e r
  refine ms_iload_n (pc := 2) S 1 rfl rfl (m_dec e5_limit 2 rfl) ?_
  refine ms_aload_n (pc := 3) S 0 rfl rfl (m_dec e5_limit 3 rfl) ?_
  refine ms_grd fun g1 => ?_
  refine ms_getf (pc := 4) S lf_X5_13 rfl (m_dec e5_limit 4 rfl) g1 ?_
  refine ms_icmp_ge (pc := 7) S (m_dec e5_limit 5 rfl) rfl (fun q2 => ?_) (fun q2 => ?_)
  · refine ms_aload_n (pc := 10) S 0 rfl rfl (m_dec e5_limit 6 rfl) ?_
    refine ms_iload_n (pc := 11) S 1 rfl rfl (m_dec e5_limit 7 rfl) ?_
    refine ms_aload_n (pc := 12) S 0 rfl rfl (m_dec e5_limit 8 rfl) ?_
    refine ms_iload_n (pc := 13) S 1 rfl rfl (m_dec e5_limit 9 rfl) ?_
    refine ms_callVi (pc := 14) S hF (vals := [m_i v1]) (st := [m_i v1, m_r v0]) (hc := vw_5) (hci := by decide) (hcy := rfl) (ht := g1) (hC := (k5_get _ _ v0 v1 h)) (hM := lm_X5_23) (hfr := (Nat.le_trans (by decide) hFn)) (hstk := rfl) (hcat := Nat.le_of_ble_eq_true rfl) (hd := (m_dec e5_limit 10 rfl)) (k1 := fun r4 h3 => ?_)
    refine ms_grd fun g5 => ?_
    refine ms_callVv (pc := 17) S hF (vals := [m_i v1, m_i r4]) (st := []) (hc := vw_5) (hci := by decide) (hcy := rfl) (ht := g5) (hC := (k5_set _ _ v0 v1 r4 h3)) (hM := lm_X5_27) (hfr := (Nat.le_trans (by decide) hFn)) (hstk := rfl) (hcat := Nat.le_of_ble_eq_true rfl) (hd := (m_dec e5_limit 11 rfl)) (k1 := fun h6 => ?_)
    refine ms_iinc (pc := 20) S (L' := [(0, m_r v0), (1, m_i (v1 + 1))]) 1 rfl [1, 0] rfl (m_lt hN rfl) (m_dec e5_limit 12 rfl) ?_
    refine ms_goto (pc := 23) S (m_dec e5_limit 13 rfl) rfl ?_
    exact ih (v1 + 1) h6
  · exact ms_ret (pc := 26) E (m_dec e5_limit 14 rfl) rfl
set_option maxHeartbeats 4000000 in
set_option maxRecDepth 20000 in
theorem s5_limit {Y : m_Y Unit} (S : m_Std Y RX5 cX5_limit) (E : m_End Y cX5_limit .return_ (fun _ => [])) {F : Nat} (hF : m_Rm Y F) (hFn : 3 ≤ F) (hN : Y.2.2.2.1 = 2) (v0 : Int) (h : m_H) : m_Sim Y 0 [(0, m_r v0)] [] h (t5_limit v0 h) := by
  unfold t5_limit
  refine ms_iconst (pc := 0) S (m_dec e5_limit 0 rfl) ?_
  refine ms_istore_n (pc := 1) S (L' := [(0, m_r v0), (1, m_i 0)]) [1, 0] rfl rfl (m_lt hN rfl) (m_dec e5_limit 1 rfl) ?_
  exact s5_limit_c2 S E hF hFn hN v0 0 h
theorem k5_limit (l : Launch) (d : m_D) (v0 : Int) (h : m_H) : m_Con l d yX5_limit cX5_limit 2 none 3 (fun _ => []) [m_r v0] h (t5_limit v0 h) :=
  m_con2 (by decide +kernel) (Nat.le_of_ble_eq_true rfl) (fun Y hN hRm hr hI S hfin => s5_limit S (m_end_v S hr hfin) hRm (Nat.le_refl _) hN v0 h)
