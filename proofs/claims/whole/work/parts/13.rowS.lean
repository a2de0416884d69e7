/-! their walks -/
set_option maxRecDepth 100000 in
theorem e0_init : ∀ q ∈ ([(0, .aload_n 0, 1), (1, .invokespecial 1, 3), (4, .aload_n 0, 1), (5, .iload_n 1, 1), (6, .putfield 7, 3), (9, .aload_n 0, 1), (10, .iload_n 2, 1), (11, .putfield 13, 3), (14, .aload_n 0, 1), (15, .iload_n 3, 1), (16, .putfield 16, 3), (19, .aload_n 0, 1), (20, .iload 4, 2), (22, .putfield 19, 3), (25, .return_, 1)] : List (Nat × Instr × Nat)), decode cX0_init q.1 = .ok q.2 := by decide +kernel
set_option maxHeartbeats 4000000 in
set_option maxRecDepth 20000 in
theorem s0_init {Y : m_Y Unit} (S : m_Std Y RX0 cX0_init) (E : m_End Y cX0_init .return_ (fun _ => [])) {F : Nat} (hF : m_Rm Y F) (hFn : 1 ≤ F) (hN : Y.2.2.2.1 = 5) (hI : Y.2.2.2.2.2 → Y.2.1.2.2.2.2.2.2.2.2.1.name = "<init>") (v0 v1 v2 v3 v4 : Int) (h : m_H) : m_Sim Y 0 [(0, m_r v0), (1, m_i v1), (2, m_i v2), (3, m_i v3), (4, m_i v4)] [] h (t0_init v0 v1 v2 v3 v4 h) := by
  unfold t0_init
  refine ms_aload_n (pc := 0) S 0 rfl rfl (m_dec e0_init 0 rfl) ?_
  refine ms_grd fun g1 => ?_
  refine ms_obj (pc := 1) S hF (Nat.le_trans (by decide) hFn) lo_X0_1 g1 (Nat.le_of_ble_eq_true rfl) (m_dec e0_init 1 rfl) ?_
  refine ms_aload_n (pc := 4) S 0 rfl rfl (m_dec e0_init 2 rfl) ?_
  refine ms_iload_n (pc := 5) S 1 rfl rfl (m_dec e0_init 3 rfl) ?_
  refine ms_grd fun g2 => ?_
  refine ms_putf (pc := 6) S lp_X0_7 (fun _ hf => hI hf) rfl (fun d => m_fitI d _) (m_dec e0_init 4 rfl) g2 (fun h3 => ?_)
  refine ms_aload_n (pc := 9) S 0 rfl rfl (m_dec e0_init 5 rfl) ?_
  refine ms_iload_n (pc := 10) S 2 rfl rfl (m_dec e0_init 6 rfl) ?_
  refine ms_grd fun g4 => ?_
  refine ms_putf (pc := 11) S lp_X0_13 (fun _ hf => hI hf) rfl (fun d => m_fitI d _) (m_dec e0_init 7 rfl) g4 (fun h5 => ?_)
  refine ms_aload_n (pc := 14) S 0 rfl rfl (m_dec e0_init 8 rfl) ?_
  refine ms_iload_n (pc := 15) S 3 rfl rfl (m_dec e0_init 9 rfl) ?_
  refine ms_grd fun g6 => ?_
  refine ms_putf (pc := 16) S lp_X0_16 (fun _ hf => hI hf) rfl (fun d => m_fitI d _) (m_dec e0_init 10 rfl) g6 (fun h7 => ?_)
  refine ms_aload_n (pc := 19) S 0 rfl rfl (m_dec e0_init 11 rfl) ?_
  refine ms_iload (pc := 20) S 4 rfl (m_dec e0_init 12 rfl) ?_
  refine ms_grd fun g8 => ?_
  refine ms_putf (pc := 22) S lp_X0_19 (fun _ hf => hI hf) rfl (fun d => m_fitI d _) (m_dec e0_init 13 rfl) g8 (fun h9 => ?_)
  exact ms_ret (pc := 25) E (m_dec e0_init 14 rfl) rfl
theorem k0_init (l : Launch) (d : m_D) (v0 v1 v2 v3 v4 : Int) (h : m_H) : m_Con l d yX0_init cX0_init 5 none 1 (fun _ => []) [m_r v0, m_i v1, m_i v2, m_i v3, m_i v4] h (t0_init v0 v1 v2 v3 v4 h) :=
  m_con2 (by decide +kernel) (Nat.le_of_ble_eq_true rfl) (fun Y hN hRm hr hI S hfin => s0_init S (m_end_v S hr hfin) hRm (Nat.le_refl _) hN hI v0 v1 v2 v3 v4 h)
set_option maxRecDepth 100000 in
theorem e0_copyPace : ∀ q ∈ ([(0, .sipush 1000, 3), (3, .aload_n 0, 1), (4, .getfield 7, 3), (7, .iadd, 1), (8, .ireturn, 1)] : List (Nat × Instr × Nat)), decode cX0_copyPace q.1 = .ok q.2 := by decide +kernel
set_option maxHeartbeats 4000000 in
set_option maxRecDepth 20000 in
theorem s0_copyPace {Y : m_Y Int} (S : m_Std Y RX0 cX0_copyPace) (E : m_End Y cX0_copyPace .ireturn (fun r => [m_i r])) {F : Nat} (hF : m_Rm Y F) (hFn : 0 ≤ F) (hN : Y.2.2.2.1 = 1) (v0 : Int) (h : m_H) : m_Sim Y 0 [(0, m_r v0)] [] h (t0_copyPace v0 h) := by
  unfold t0_copyPace
  refine ms_sipush (pc := 0) S (m_dec e0_copyPace 0 rfl) rfl ?_
  refine ms_aload_n (pc := 3) S 0 rfl rfl (m_dec e0_copyPace 1 rfl) ?_
  refine ms_grd fun g1 => ?_
  refine ms_getf (pc := 4) S lf_X0_7 rfl (m_dec e0_copyPace 2 rfl) g1 ?_
  refine ms_iadd (pc := 7) S (m_dec e0_copyPace 3 rfl) ?_
  exact ms_ret (pc := 8) E (m_dec e0_copyPace 4 rfl) rfl
theorem k0_copyPace (l : Launch) (d : m_D) (v0 : Int) (h : m_H) : m_Con l d yX0_copyPace cX0_copyPace 1 (some .int) 0 (fun r => [m_i r]) [m_r v0] h (t0_copyPace v0 h) :=
  m_con2 (by decide +kernel) (Nat.le_of_ble_eq_true rfl) (fun Y hN hRm hr hI S hfin => s0_copyPace S (m_end_i S hr hfin) hRm (Nat.le_refl _) hN v0 h)
set_option maxRecDepth 100000 in
theorem e5_init : ∀ q ∈ ([(0, .aload_n 0, 1), (1, .invokespecial 1, 3), (4, .aload_n 0, 1), (5, .iconst 0, 1), (6, .newarray .int, 2), (8, .putfield 7, 3), (11, .return_, 1)] : List (Nat × Instr × Nat)), decode cX5_init q.1 = .ok q.2 := by decide +kernel
set_option maxHeartbeats 4000000 in
set_option maxRecDepth 20000 in
theorem s5_init {Y : m_Y Unit} (S : m_Std Y RX5 cX5_init) (E : m_End Y cX5_init .return_ (fun _ => [])) {F : Nat} (hF : m_Rm Y F) (hFn : 1 ≤ F) (hN : Y.2.2.2.1 = 1) (hI : Y.2.2.2.2.2 → Y.2.1.2.2.2.2.2.2.2.2.1.name = "<init>") (v0 : Int) (h : m_H) : m_Sim Y 0 [(0, m_r v0)] [] h (t5_init v0 h) := by
  unfold t5_init
  refine ms_aload_n (pc := 0) S 0 rfl rfl (m_dec e5_init 0 rfl) ?_
  refine ms_grd fun g1 => ?_
  refine ms_obj (pc := 1) S hF (Nat.le_trans (by decide) hFn) lo_X5_1 g1 (Nat.le_of_ble_eq_true rfl) (m_dec e5_init 1 rfl) ?_
  refine ms_aload_n (pc := 4) S 0 rfl rfl (m_dec e5_init 2 rfl) ?_
  refine ms_iconst (pc := 5) S (m_dec e5_init 3 rfl) ?_
  refine ms_newa (pc := 6) S 20 (ty := .int) rfl (by decide) (fun _ => rfl) (fun _ => rfl) (by decide) (fun _ _ z => z) w_208 (by decide) (m_dec e5_init 4 rfl) (fun h2 => ?_)
  refine ms_grd fun g3 => ?_
  refine ms_putf (pc := 8) S lp_X5_7 (fun z => by cases z) rfl (fun d => m_fitA _ d _) (m_dec e5_init 5 rfl) g3 (fun h4 => ?_)
  exact ms_ret (pc := 11) E (m_dec e5_init 6 rfl) rfl
theorem k5_init (l : Launch) (d : m_D) (v0 : Int) (h : m_H) : m_Con l d yX5_init cX5_init 1 none 1 (fun _ => []) [m_r v0] h (t5_init v0 h) :=
  m_con2 (by decide +kernel) (Nat.le_of_ble_eq_true rfl) (fun Y hN hRm hr hI S hfin => s5_init S (m_end_v S hr hfin) hRm (Nat.le_refl _) hN hI v0 h)
set_option maxRecDepth 100000 in
theorem e5_size : ∀ q ∈ ([(0, .aload_n 0, 1), (1, .getfield 13, 3), (4, .ireturn, 1)] : List (Nat × Instr × Nat)), decode cX5_size q.1 = .ok q.2 := by decide +kernel
set_option maxHeartbeats 4000000 in
set_option maxRecDepth 20000 in
theorem s5_size {Y : m_Y Int} (S : m_Std Y RX5 cX5_size) (E : m_End Y cX5_size .ireturn (fun r => [m_i r])) {F : Nat} (hF : m_Rm Y F) (hFn : 0 ≤ F) (hN : Y.2.2.2.1 = 1) (v0 : Int) (h : m_H) : m_Sim Y 0 [(0, m_r v0)] [] h (t5_size v0 h) := by
  unfold t5_size
  refine ms_aload_n (pc := 0) S 0 rfl rfl (m_dec e5_size 0 rfl) ?_
  refine ms_grd fun g1 => ?_
  refine ms_getf (pc := 1) S lf_X5_13 rfl (m_dec e5_size 1 rfl) g1 ?_
  exact ms_ret (pc := 4) E (m_dec e5_size 2 rfl) rfl
theorem k5_size (l : Launch) (d : m_D) (v0 : Int) (h : m_H) : m_Con l d yX5_size cX5_size 1 (some .int) 0 (fun r => [m_i r]) [m_r v0] h (t5_size v0 h) :=
  m_con2 (by decide +kernel) (Nat.le_of_ble_eq_true rfl) (fun Y hN hRm hr hI S hfin => s5_size S (m_end_i S hr hfin) hRm (Nat.le_refl _) hN v0 h)
set_option maxRecDepth 100000 in
theorem e5_get : ∀ q ∈ ([(0, .iload_n 1, 1), (1, .ifCond .lt 29, 3), (4, .iload_n 1, 1), (5, .aload_n 0, 1), (6, .getfield 13, 3), (9, .if_icmp .ge 21, 3), (12, .iload_n 1, 1), (13, .aload_n 0, 1), (14, .getfield 7, 3), (17, .arraylength, 1), (18, .if_icmp .ge 12, 3), (21, .aload_n 0, 1), (22, .getfield 7, 3), (25, .iload_n 1, 1), (26, .iaload, 1), (27, .goto 4, 3), (30, .iconst 0, 1), (31, .ireturn, 1)] : List (Nat × Instr × Nat)), decode cX5_get q.1 = .ok q.2 := by decide +kernel
set_option maxHeartbeats 4000000 in
set_option maxRecDepth 20000 in
theorem s5_get {Y : m_Y Int} (S : m_Std Y RX5 cX5_get) (E : m_End Y cX5_get .ireturn (fun r => [m_i r])) {F : Nat} (hF : m_Rm Y F) (hFn : 0 ≤ F) (hN : Y.2.2.2.1 = 2) (v0 v1 : Int) (h : m_H) : m_Sim Y 0 [(0, m_r v0), (1, m_i v1)] [] h (t5_get v0 v1 h) := by
  unfold t5_get
  refine ms_iload_n (pc := 0) S 1 rfl rfl (m_dec e5_get 0 rfl) ?_
  refine ms_if_lt (pc := 1) S (m_dec e5_get 1 rfl) rfl (fun q1 => ?_) (fun q1 => ?_)
  · refine ms_iconst (pc := 30) S (m_dec e5_get 16 rfl) ?_
    exact ms_ret (pc := 31) E (m_dec e5_get 17 rfl) rfl
  · refine ms_iload_n (pc := 4) S 1 rfl rfl (m_dec e5_get 2 rfl) ?_
    refine ms_aload_n (pc := 5) S 0 rfl rfl (m_dec e5_get 3 rfl) ?_
    refine ms_grd fun g2 => ?_
    refine ms_getf (pc := 6) S lf_X5_13 rfl (m_dec e5_get 4 rfl) g2 ?_
    refine ms_icmp_ge (pc := 9) S (m_dec e5_get 5 rfl) rfl (fun q3 => ?_) (fun q3 => ?_)
    · refine ms_iload_n (pc := 12) S 1 rfl rfl (m_dec e5_get 6 rfl) ?_
      refine ms_aload_n (pc := 13) S 0 rfl rfl (m_dec e5_get 7 rfl) ?_
      refine ms_getf (pc := 14) S lf_X5_7 rfl (m_dec e5_get 8 rfl) g2 ?_
      refine ms_grd fun g4 => ?_
      refine ms_alen (pc := 17) S g4 (m_dec e5_get 9 rfl) ?_
      refine ms_icmp_ge (pc := 18) S (m_dec e5_get 10 rfl) rfl (fun q5 => ?_) (fun q5 => ?_)
      · refine ms_aload_n (pc := 21) S 0 rfl rfl (m_dec e5_get 11 rfl) ?_
        refine ms_getf (pc := 22) S lf_X5_7 rfl (m_dec e5_get 12 rfl) g2 ?_
        refine ms_iload_n (pc := 25) S 1 rfl rfl (m_dec e5_get 13 rfl) ?_
        refine ms_grd fun g6 => ?_
        refine ms_iald (pc := 26) S g6 (m_dec e5_get 14 rfl) ?_
        refine ms_goto (pc := 27) S (m_dec e5_get 15 rfl) rfl ?_
        exact ms_ret (pc := 31) E (m_dec e5_get 17 rfl) rfl
      · refine ms_iconst (pc := 30) S (m_dec e5_get 16 rfl) ?_
        exact ms_ret (pc := 31) E (m_dec e5_get 17 rfl) rfl
    · refine ms_iconst (pc := 30) S (m_dec e5_get 16 rfl) ?_
      exact ms_ret (pc := 31) E (m_dec e5_get 17 rfl) rfl
theorem k5_get (l : Launch) (d : m_D) (v0 v1 : Int) (h : m_H) : m_Con l d yX5_get cX5_get 2 (some .int) 0 (fun r => [m_i r]) [m_r v0, m_i v1] h (t5_get v0 v1 h) :=
  m_con2 (by decide +kernel) (Nat.le_of_ble_eq_true rfl) (fun Y hN hRm hr hI S hfin => s5_get S (m_end_i S hr hfin) hRm (Nat.le_refl _) hN v0 v1 h)
set_option maxRecDepth 100000 in
theorem e10_nearest : ∀ q ∈ ([(0, .iload_n 0, 1), (1, .iload_n 1, 1), (2, .iload_n 2, 1), (3, .invokestatic 168, 3), (6, .invokestatic 288, 3), (9, .ireturn, 1)] : List (Nat × Instr × Nat)), decode cX10_nearest q.1 = .ok q.2 := by decide +kernel
set_option maxHeartbeats 4000000 in
set_option maxRecDepth 20000 in
theorem s10_nearest {Y : m_Y Int} (S : m_Std Y RX10 cX10_nearest) (E : m_End Y cX10_nearest .ireturn (fun r => [m_i r])) {F : Nat} (hF : m_Rm Y F) (hFn : 1 ≤ F) (hN : Y.2.2.2.1 = 3) (v0 v1 v2 : Int) (h : m_H) : m_Sim Y 0 [(0, m_i v0), (1, m_i v1), (2, m_i v2)] [] h (t10_nearest v0 v1 v2 h) := by
  unfold t10_nearest
  refine ms_iload_n (pc := 0) S 0 rfl rfl (m_dec e10_nearest 0 rfl) ?_
  refine ms_iload_n (pc := 1) S 1 rfl rfl (m_dec e10_nearest 1 rfl) ?_
  refine ms_iload_n (pc := 2) S 2 rfl rfl (m_dec e10_nearest 2 rfl) ?_
  refine ms_mmin (pc := 3) S hF (Nat.le_trans (by decide) hFn) ⟨w_497, w_498, w_136, w_499⟩ (Nat.le_of_ble_eq_true rfl) (m_dec e10_nearest 3 rfl) ?_
  refine ms_mmax (pc := 6) S hF (Nat.le_trans (by decide) hFn) ⟨w_500, w_485, w_136, w_486⟩ (Nat.le_of_ble_eq_true rfl) (m_dec e10_nearest 4 rfl) ?_
  exact ms_ret (pc := 9) E (m_dec e10_nearest 5 rfl) rfl
theorem k10_nearest (l : Launch) (d : m_D) (v0 v1 v2 : Int) (h : m_H) : m_Con l d yX10_nearest cX10_nearest 3 (some .int) 1 (fun r => [m_i r]) [m_i v0, m_i v1, m_i v2] h (t10_nearest v0 v1 v2 h) :=
  m_con2 (by decide +kernel) (Nat.le_of_ble_eq_true rfl) (fun Y hN hRm hr hI S hfin => s10_nearest S (m_end_i S hr hfin) hRm (Nat.le_refl _) hN v0 v1 v2 h)
set_option maxRecDepth 100000 in
theorem e5_set : ∀ q ∈ ([(0, .iload_n 1, 1), (1, .ifCond .lt 36, 3), (4, .iload_n 1, 1), (5, .aload_n 0, 1), (6, .getfield 13, 3), (9, .if_icmp .ge 28, 3), (12, .iload_n 1, 1), (13, .aload_n 0, 1), (14, .getfield 7, 3), (17, .arraylength, 1), (18, .if_icmp .ge 19, 3), (21, .aload_n 0, 1), (22, .getfield 7, 3), (25, .iload_n 1, 1), (26, .sipush (-32768), 3), (29, .sipush 32767, 3), (32, .iload_n 2, 1), (33, .invokestatic 17, 3), (36, .iastore, 1), (37, .return_, 1)] : List (Nat × Instr × Nat)), decode cX5_set q.1 = .ok q.2 := by decide +kernel
set_option maxHeartbeats 4000000 in
set_option maxRecDepth 20000 in
theorem s5_set {Y : m_Y Unit} (S : m_Std Y RX5 cX5_set) (E : m_End Y cX5_set .return_ (fun _ => [])) {F : Nat} (hF : m_Rm Y F) (hFn : 2 ≤ F) (hN : Y.2.2.2.1 = 3) (v0 v1 v2 : Int) (h : m_H) : m_Sim Y 0 [(0, m_r v0), (1, m_i v1), (2, m_i v2)] [] h (t5_set v0 v1 v2 h) := by
  unfold t5_set
  refine ms_iload_n (pc := 0) S 1 rfl rfl (m_dec e5_set 0 rfl) ?_
  refine ms_if_lt (pc := 1) S (m_dec e5_set 1 rfl) rfl (fun q1 => ?_) (fun q1 => ?_)
  · exact ms_ret (pc := 37) E (m_dec e5_set 19 rfl) rfl
  · refine ms_iload_n (pc := 4) S 1 rfl rfl (m_dec e5_set 2 rfl) ?_
    refine ms_aload_n (pc := 5) S 0 rfl rfl (m_dec e5_set 3 rfl) ?_
    refine ms_grd fun g2 => ?_
    refine ms_getf (pc := 6) S lf_X5_13 rfl (m_dec e5_set 4 rfl) g2 ?_
    refine ms_icmp_ge (pc := 9) S (m_dec e5_set 5 rfl) rfl (fun q3 => ?_) (fun q3 => ?_)
    · refine ms_iload_n (pc := 12) S 1 rfl rfl (m_dec e5_set 6 rfl) ?_
      refine ms_aload_n (pc := 13) S 0 rfl rfl (m_dec e5_set 7 rfl) ?_
      refine ms_getf (pc := 14) S lf_X5_7 rfl (m_dec e5_set 8 rfl) g2 ?_
      refine ms_grd fun g4 => ?_
      refine ms_alen (pc := 17) S g4 (m_dec e5_set 9 rfl) ?_
      refine ms_icmp_ge (pc := 18) S (m_dec e5_set 10 rfl) rfl (fun q5 => ?_) (fun q5 => ?_)
      · refine ms_aload_n (pc := 21) S 0 rfl rfl (m_dec e5_set 11 rfl) ?_
        refine ms_getf (pc := 22) S lf_X5_7 rfl (m_dec e5_set 12 rfl) g2 ?_
        refine ms_iload_n (pc := 25) S 1 rfl rfl (m_dec e5_set 13 rfl) ?_
        refine ms_sipush (pc := 26) S (m_dec e5_set 14 rfl) rfl ?_
        refine ms_sipush (pc := 29) S (m_dec e5_set 15 rfl) rfl ?_
        refine ms_iload_n (pc := 32) S 2 rfl rfl (m_dec e5_set 16 rfl) ?_
        refine ms_callSi (pc := 33) S hF (vals := [m_i (-32768), m_i 32767, m_i v2]) (st := [m_i v1, m_r (m_g h v0 0)])  (hC := (k10_nearest _ _ (-32768) 32767 v2 h)) (hM := lm_X5_17) (hfr := (Nat.le_trans (by decide) hFn)) (hstk := rfl) (hcat := Nat.le_of_ble_eq_true rfl) (hd := (m_dec e5_set 17 rfl)) (k1 := fun r7 h6 => ?_)
        refine ms_grd fun g8 => ?_
        refine ms_iast (pc := 36) S g8 (m_dec e5_set 18 rfl) (fun h9 => ?_)
        exact ms_ret (pc := 37) E (m_dec e5_set 19 rfl) rfl
      · exact ms_ret (pc := 37) E (m_dec e5_set 19 rfl) rfl
    · exact ms_ret (pc := 37) E (m_dec e5_set 19 rfl) rfl
theorem k5_set (l : Launch) (d : m_D) (v0 v1 v2 : Int) (h : m_H) : m_Con l d yX5_set cX5_set 3 none 2 (fun _ => []) [m_r v0, m_i v1, m_i v2] h (t5_set v0 v1 v2 h) :=
  m_con2 (by decide +kernel) (Nat.le_of_ble_eq_true rfl) (fun Y hN hRm hr hI S hfin => s5_set S (m_end_v S hr hfin) hRm (Nat.le_refl _) hN v0 v1 v2 h)
set_option maxRecDepth 100000 in
theorem e5_raise : ∀ q ∈ ([(0, .iload_n 1, 1), (1, .ifCond .lt 30, 3), (4, .iload_n 1, 1), (5, .aload_n 0, 1), (6, .getfield 13, 3), (9, .if_icmp .ge 22, 3), (12, .iload_n 1, 1), (13, .aload_n 0, 1), (14, .getfield 7, 3), (17, .arraylength, 1), (18, .if_icmp .ge 13, 3), (21, .aload_n 0, 1), (22, .getfield 7, 3), (25, .iload_n 1, 1), (26, .dup2, 1), (27, .iaload, 1), (28, .iload_n 2, 1), (29, .iadd, 1), (30, .iastore, 1), (31, .return_, 1)] : List (Nat × Instr × Nat)), decode cX5_raise q.1 = .ok q.2 := by decide +kernel
set_option maxHeartbeats 4000000 in
set_option maxRecDepth 20000 in
theorem s5_raise {Y : m_Y Unit} (S : m_Std Y RX5 cX5_raise) (E : m_End Y cX5_raise .return_ (fun _ => [])) {F : Nat} (hF : m_Rm Y F) (hFn : 0 ≤ F) (hN : Y.2.2.2.1 = 3) (v0 v1 v2 : Int) (h : m_H) : m_Sim Y 0 [(0, m_r v0), (1, m_i v1), (2, m_i v2)] [] h (t5_raise v0 v1 v2 h) := by
  unfold t5_raise
  refine ms_iload_n (pc := 0) S 1 rfl rfl (m_dec e5_raise 0 rfl) ?_
  refine ms_if_lt (pc := 1) S (m_dec e5_raise 1 rfl) rfl (fun q1 => ?_) (fun q1 => ?_)
  · exact ms_ret (pc := 31) E (m_dec e5_raise 19 rfl) rfl
  · refine ms_iload_n (pc := 4) S 1 rfl rfl (m_dec e5_raise 2 rfl) ?_
    refine ms_aload_n (pc := 5) S 0 rfl rfl (m_dec e5_raise 3 rfl) ?_
    refine ms_grd fun g2 => ?_
    refine ms_getf (pc := 6) S lf_X5_13 rfl (m_dec e5_raise 4 rfl) g2 ?_
    refine ms_icmp_ge (pc := 9) S (m_dec e5_raise 5 rfl) rfl (fun q3 => ?_) (fun q3 => ?_)
    · refine ms_iload_n (pc := 12) S 1 rfl rfl (m_dec e5_raise 6 rfl) ?_
      refine ms_aload_n (pc := 13) S 0 rfl rfl (m_dec e5_raise 7 rfl) ?_
      refine ms_getf (pc := 14) S lf_X5_7 rfl (m_dec e5_raise 8 rfl) g2 ?_
      refine ms_grd fun g4 => ?_
      refine ms_alen (pc := 17) S g4 (m_dec e5_raise 9 rfl) ?_
      refine ms_icmp_ge (pc := 18) S (m_dec e5_raise 10 rfl) rfl (fun q5 => ?_) (fun q5 => ?_)
      · refine ms_aload_n (pc := 21) S 0 rfl rfl (m_dec e5_raise 11 rfl) ?_
        refine ms_getf (pc := 22) S lf_X5_7 rfl (m_dec e5_raise 12 rfl) g2 ?_
        refine ms_iload_n (pc := 25) S 1 rfl rfl (m_dec e5_raise 13 rfl) ?_
        refine ms_dup2 (pc := 26) S rfl rfl (m_dec e5_raise 14 rfl) ?_
        refine ms_grd fun g6 => ?_
        refine ms_iald (pc := 27) S g6 (m_dec e5_raise 15 rfl) ?_
        refine ms_iload_n (pc := 28) S 2 rfl rfl (m_dec e5_raise 16 rfl) ?_
        refine ms_iadd (pc := 29) S (m_dec e5_raise 17 rfl) ?_
        refine ms_iast (pc := 30) S g6 (m_dec e5_raise 18 rfl) (fun h7 => ?_)
        exact ms_ret (pc := 31) E (m_dec e5_raise 19 rfl) rfl
      · exact ms_ret (pc := 31) E (m_dec e5_raise 19 rfl) rfl
    · exact ms_ret (pc := 31) E (m_dec e5_raise 19 rfl) rfl
theorem k5_raise (l : Launch) (d : m_D) (v0 v1 v2 : Int) (h : m_H) : m_Con l d yX5_raise cX5_raise 3 none 0 (fun _ => []) [m_r v0, m_i v1, m_i v2] h (t5_raise v0 v1 v2 h) :=
  m_con2 (by decide +kernel) (Nat.le_of_ble_eq_true rfl) (fun Y hN hRm hr hI S hfin => s5_raise S (m_end_v S hr hfin) hRm (Nat.le_refl _) hN v0 v1 v2 h)
set_option maxRecDepth 100000 in
theorem e5_limit : ∀ q ∈ ([(0, .iconst 0, 1), (1, .istore_n 1, 1), (2, .iload_n 1, 1), (3, .aload_n 0, 1), (4, .getfield 13, 3), (7, .if_icmp .ge 19, 3), (10, .aload_n 0, 1), (11, .iload_n 1, 1), (12, .aload_n 0, 1), (13, .iload_n 1, 1), (14, .invokevirtual 23, 3), (17, .invokevirtual 27, 3), (20, .iinc 1 1, 3), (23, .goto (-21), 3), (26, .return_, 1)] : List (Nat × Instr × Nat)), decode cX5_limit q.1 = .ok q.2 := by decide +kernel
set_option maxHeartbeats 4000000 in
set_option maxRecDepth 20000 in
theorem s5_limit_c2 {Y : m_Y Unit} (S : m_Std Y RX5 cX5_limit) (E : m_End Y cX5_limit .return_ (fun _ => [])) {F : Nat} (hF : m_Rm Y F) (hFn : 3 ≤ F) (hN : Y.2.2.2.1 = 2) : ∀ (v0 v1 : Int) (h : m_H), m_Sim Y 2 [(0, m_r v0), (1, m_i v1)] [] h (t5_limit_c2 v0 v1 h) := by
  intro v0 v1 h
  refine ms_all fun r e => ?_
  refine t5_limit_c2.partial_correctness v0 (motive := fun v1 h r => m_Sim Y 2 [(0, m_r v0), (1, m_i v1)] [] h (some r)) ?_ v1 h r e
  intro f ih v1 h r e
  have ih : ∀ (v1 : Int) (h : m_H), m_Sim Y 2 [(0, m_r v0), (1, m_i v1)] [] h (f v1 h) := fun v1 h => ms_all fun r e => ih v1 h r e
  refine ms_use ?_ e
  clear e r
  refine ms_iload_n (pc := 2) S 1 rfl rfl (m_dec e5_limit 2 rfl) ?_
  refine ms_aload_n (pc := 3) S 0 rfl rfl (m_dec e5_limit 3 rfl) ?_
  refine ms_grd fun g1 => ?_
  refine ms_getf (pc := 4) S lf_X5_13 rfl (m_dec e5_limit 4 rfl) g1 ?_
  refine ms_icmp_ge (pc := 7) S (m_dec e5_limit 5 rfl) rfl (fun q2 => ?_) (fun q2 => ?_)
  · refine ms_aload_n (pc := 10) S 0 rfl rfl (m_dec e5_limit 6 rfl) ?_
    refine ms_iload_n (pc := 11) S 1 rfl rfl (m_dec e5_limit 7 rfl) ?_
    refine ms_aload_n (pc := 12) S 0 rfl rfl (m_dec e5_limit 8 rfl) ?_
    refine ms_iload_n (pc := 13) S 1 rfl rfl (m_dec e5_limit 9 rfl) ?_
    refine ms_callVi (pc := 14) S hF (vals := [m_i v1]) (st := [m_i v1, m_r v0]) (hc := vw_5) (hci := by decide) (hcy := rfl) (ht := g1) (hC := (k5_get _ _ v0 v1 h)) (hM := lm_X5_23) (hfr := (Nat.le_trans (by decide) hFn)) (hstk := rfl) (hcat := Nat.le_of_ble_eq_true rfl) (hd := (m_dec e5_limit 10 rfl)) (k1 := fun r4 h3 => ?_)
    refine ms_grd fun g5 => ?_
    refine ms_callVv (pc := 17) S hF (vals := [m_i v1, m_i r4]) (st := []) (hc := vw_5) (hci := by decide) (hcy := rfl) (ht := g5) (hC := (k5_set _ _ v0 v1 r4 h3)) (hM := lm_X5_27) (hfr := (Nat.le_trans (by decide) hFn)) (hstk := rfl) (hcat := Nat.le_of_ble_eq_true rfl) (hd := (m_dec e5_limit 11 rfl)) (k1 := fun h6 => ?_)
    refine ms_iinc (pc := 20) S (L' := [(0, m_r v0), (1, m_i (v1 + 1))]) 1 rfl [1, 0] rfl (m_lt hN rfl) (m_dec e5_limit 12 rfl) ?_
    refine ms_goto (pc := 23) S (m_dec e5_limit 13 rfl) rfl ?_
    exact ih (v1 + 1) h6
  · exact ms_ret (pc := 26) E (m_dec e5_limit 14 rfl) rfl
set_option maxHeartbeats 4000000 in
set_option maxRecDepth 20000 in
theorem s5_limit {Y : m_Y Unit} (S : m_Std Y RX5 cX5_limit) (E : m_End Y cX5_limit .return_ (fun _ => [])) {F : Nat} (hF : m_Rm Y F) (hFn : 3 ≤ F) (hN : Y.2.2.2.1 = 2) (v0 : Int) (h : m_H) : m_Sim Y 0 [(0, m_r v0)] [] h (t5_limit v0 h) := by
  unfold t5_limit
  refine ms_iconst (pc := 0) S (m_dec e5_limit 0 rfl) ?_
  refine ms_istore_n (pc := 1) S (L' := [(0, m_r v0), (1, m_i 0)]) [1, 0] rfl rfl (m_lt hN rfl) (m_dec e5_limit 1 rfl) ?_
  exact s5_limit_c2 S E hF hFn hN v0 0 h
theorem k5_limit (l : Launch) (d : m_D) (v0 : Int) (h : m_H) : m_Con l d yX5_limit cX5_limit 2 none 3 (fun _ => []) [m_r v0] h (t5_limit v0 h) :=
  m_con2 (by decide +kernel) (Nat.le_of_ble_eq_true rfl) (fun Y hN hRm hr hI S hfin => s5_limit S (m_end_v S hr hfin) hRm (Nat.le_refl _) hN v0 h)
set_option maxRecDepth 100000 in
theorem e5_resize : ∀ q ∈ ([(0, .iload_n 1, 1), (1, .iconst 0, 1), (2, .invokestatic 35, 3), (5, .istore_n 2, 1), (6, .iload_n 2, 1), (7, .aload_n 0, 1), (8, .getfield 7, 3), (11, .arraylength, 1), (12, .if_icmp .le 37, 3), (15, .iload_n 2, 1), (16, .iconst 2, 1), (17, .aload_n 0, 1), (18, .getfield 7, 3), (21, .arraylength, 1), (22, .imul, 1), (23, .invokestatic 35, 3), (26, .newarray .int, 2), (28, .astore_n 3, 1), (29, .aload_n 0, 1), (30, .getfield 7, 3), (33, .iconst 0, 1), (34, .aload_n 3, 1), (35, .iconst 0, 1), (36, .aload_n 0, 1), (37, .getfield 7, 3), (40, .arraylength, 1), (41, .invokestatic 41, 3), (44, .aload_n 0, 1), (45, .aload_n 3, 1), (46, .putfield 7, 3), (49, .aload_n 0, 1), (50, .iload_n 2, 1), (51, .putfield 13, 3), (54, .return_, 1)] : List (Nat × Instr × Nat)), decode cX5_resize q.1 = .ok q.2 := by decide +kernel
set_option maxHeartbeats 4000000 in
set_option maxRecDepth 20000 in
theorem s5_resize {Y : m_Y Unit} (S : m_Std Y RX5 cX5_resize) (E : m_End Y cX5_resize .return_ (fun _ => [])) {F : Nat} (hF : m_Rm Y F) (hFn : 1 ≤ F) (hN : Y.2.2.2.1 = 4) (v0 v1 : Int) (h : m_H) : m_Sim Y 0 [(0, m_r v0), (1, m_i v1)] [] h (t5_resize v0 v1 h) := by
  unfold t5_resize
  refine ms_iload_n (pc := 0) S 1 rfl rfl (m_dec e5_resize 0 rfl) ?_
  refine ms_iconst (pc := 1) S (m_dec e5_resize 1 rfl) ?_
  refine ms_mmax (pc := 2) S hF (Nat.le_trans (by decide) hFn) ⟨w_484, w_485, w_136, w_486⟩ (Nat.le_of_ble_eq_true rfl) (m_dec e5_resize 2 rfl) ?_
  refine ms_nm (st := fun x1 => [m_i x1]) fun x1 => ?_
  refine ms_istore_n (pc := 5) S (L' := [(0, m_r v0), (2, m_i x1)]) [1, 0] rfl rfl (m_lt hN rfl) (m_dec e5_resize 3 rfl) ?_
  refine ms_iload_n (pc := 6) S 1 rfl rfl (m_dec e5_resize 4 rfl) ?_
  refine ms_aload_n (pc := 7) S 0 rfl rfl (m_dec e5_resize 5 rfl) ?_
  refine ms_grd fun g2 => ?_
  refine ms_getf (pc := 8) S lf_X5_7 rfl (m_dec e5_resize 6 rfl) g2 ?_
  refine ms_grd fun g3 => ?_
  refine ms_alen (pc := 11) S g3 (m_dec e5_resize 7 rfl) ?_
  refine ms_icmp_le (pc := 12) S (m_dec e5_resize 8 rfl) rfl (fun q4 => ?_) (fun q4 => ?_)
  · refine ms_iload_n (pc := 15) S 1 rfl rfl (m_dec e5_resize 9 rfl) ?_
    refine ms_iconst (pc := 16) S (m_dec e5_resize 10 rfl) ?_
    refine ms_aload_n (pc := 17) S 0 rfl rfl (m_dec e5_resize 11 rfl) ?_
    refine ms_getf (pc := 18) S lf_X5_7 rfl (m_dec e5_resize 12 rfl) g2 ?_
    refine ms_alen (pc := 21) S g3 (m_dec e5_resize 13 rfl) ?_
    refine ms_imul (pc := 22) S (m_dec e5_resize 14 rfl) ?_
    refine ms_mmax (pc := 23) S hF (Nat.le_trans (by decide) hFn) ⟨w_484, w_485, w_136, w_486⟩ (Nat.le_of_ble_eq_true rfl) (m_dec e5_resize 15 rfl) ?_
    refine ms_grd fun g5 => ?_
    refine ms_newa (pc := 26) S 20 (ty := .int) rfl (by decide) (fun _ => rfl) (fun _ => rfl) (by decide) (fun _ _ z => z) w_208 g5 (m_dec e5_resize 16 rfl) (fun h6 => ?_)
    refine ms_nm (st := fun x7 => [m_r x7]) fun x7 => ?_
    refine ms_astore_n (pc := 28) S (L' := [(0, m_r v0), (2, m_i x1), (3, m_r x7)]) [1, 2, 0] rfl rfl (m_lt hN rfl) (m_dec e5_resize 17 rfl) ?_
    refine ms_aload_n (pc := 29) S 0 rfl rfl (m_dec e5_resize 18 rfl) ?_
    refine ms_grd fun g8 => ?_
    refine ms_getf (pc := 30) S lf_X5_7 rfl (m_dec e5_resize 19 rfl) g8 ?_
    refine ms_iconst (pc := 33) S (m_dec e5_resize 20 rfl) ?_
    refine ms_aload_n (pc := 34) S 2 rfl rfl (m_dec e5_resize 21 rfl) ?_
    refine ms_iconst (pc := 35) S (m_dec e5_resize 22 rfl) ?_
    refine ms_aload_n (pc := 36) S 0 rfl rfl (m_dec e5_resize 23 rfl) ?_
    refine ms_getf (pc := 37) S lf_X5_7 rfl (m_dec e5_resize 24 rfl) g8 ?_
    refine ms_grd fun g9 => ?_
    refine ms_alen (pc := 40) S g9 (m_dec e5_resize 25 rfl) ?_
    refine ms_grd fun g10 => ?_
    refine ms_copy (pc := 41) S hF (Nat.le_trans (by decide) hFn) ⟨w_487, w_489, w_488, w_137⟩ (Nat.le_of_ble_eq_true rfl) g10 (m_dec e5_resize 26 rfl) (fun h11 => ?_)
    refine ms_aload_n (pc := 44) S 0 rfl rfl (m_dec e5_resize 27 rfl) ?_
    refine ms_aload_n (pc := 45) S 2 rfl rfl (m_dec e5_resize 28 rfl) ?_
    refine ms_grd fun g12 => ?_
    refine ms_putf (pc := 46) S lp_X5_7 (fun z => by cases z) rfl (fun d => m_fitA _ d _) (m_dec e5_resize 29 rfl) g12 (fun h13 => ?_)
    refine ms_aload_n (pc := 49) S 0 rfl rfl (m_dec e5_resize 30 rfl) ?_
    refine ms_iload_n (pc := 50) S 1 rfl rfl (m_dec e5_resize 31 rfl) ?_
    refine ms_grd fun g14 => ?_
    refine ms_putf (pc := 51) S lp_X5_13 (fun z => by cases z) rfl (fun d => m_fitI d _) (m_dec e5_resize 32 rfl) g14 (fun h15 => ?_)
    exact ms_ret (pc := 54) E (m_dec e5_resize 33 rfl) rfl
  · refine ms_aload_n (pc := 49) S 0 rfl rfl (m_dec e5_resize 30 rfl) ?_
    refine ms_iload_n (pc := 50) S 1 rfl rfl (m_dec e5_resize 31 rfl) ?_
    refine ms_putf (pc := 51) S lp_X5_13 (fun z => by cases z) rfl (fun d => m_fitI d _) (m_dec e5_resize 32 rfl) g2 (fun h16 => ?_)
    exact ms_ret (pc := 54) E (m_dec e5_resize 33 rfl) rfl
theorem k5_resize (l : Launch) (d : m_D) (v0 v1 : Int) (h : m_H) : m_Con l d yX5_resize cX5_resize 4 none 1 (fun _ => []) [m_r v0, m_i v1] h (t5_resize v0 v1 h) :=
  m_con2 (by decide +kernel) (Nat.le_of_ble_eq_true rfl) (fun Y hN hRm hr hI S hfin => s5_resize S (m_end_v S hr hfin) hRm (Nat.le_refl _) hN v0 v1 h)
set_option maxRecDepth 100000 in
theorem e5_add : ∀ q ∈ ([(0, .aload_n 0, 1), (1, .aload_n 0, 1), (2, .getfield 13, 3), (5, .iconst 1, 1), (6, .iadd, 1), (7, .invokevirtual 31, 3), (10, .aload_n 0, 1), (11, .aload_n 0, 1), (12, .getfield 13, 3), (15, .iconst 1, 1), (16, .isub, 1), (17, .iload_n 1, 1), (18, .invokevirtual 27, 3), (21, .return_, 1)] : List (Nat × Instr × Nat)), decode cX5_add q.1 = .ok q.2 := by decide +kernel
set_option maxHeartbeats 4000000 in
set_option maxRecDepth 20000 in
theorem s5_add {Y : m_Y Unit} (S : m_Std Y RX5 cX5_add) (E : m_End Y cX5_add .return_ (fun _ => [])) {F : Nat} (hF : m_Rm Y F) (hFn : 3 ≤ F) (hN : Y.2.2.2.1 = 2) (v0 v1 : Int) (h : m_H) : m_Sim Y 0 [(0, m_r v0), (1, m_i v1)] [] h (t5_add v0 v1 h) := by
  unfold t5_add
  refine ms_aload_n (pc := 0) S 0 rfl rfl (m_dec e5_add 0 rfl) ?_
  refine ms_aload_n (pc := 1) S 0 rfl rfl (m_dec e5_add 1 rfl) ?_
  refine ms_grd fun g1 => ?_
  refine ms_getf (pc := 2) S lf_X5_13 rfl (m_dec e5_add 2 rfl) g1 ?_
  refine ms_iconst (pc := 5) S (m_dec e5_add 3 rfl) ?_
  refine ms_iadd (pc := 6) S (m_dec e5_add 4 rfl) ?_
  refine ms_callVv (pc := 7) S hF (vals := [m_i ((m_g h v0 1) + 1)]) (st := []) (hc := vw_5) (hci := by decide) (hcy := rfl) (ht := g1) (hC := (k5_resize _ _ v0 ((m_g h v0 1) + 1) h)) (hM := lm_X5_31) (hfr := (Nat.le_trans (by decide) hFn)) (hstk := rfl) (hcat := Nat.le_of_ble_eq_true rfl) (hd := (m_dec e5_add 5 rfl)) (k1 := fun h2 => ?_)
  refine ms_aload_n (pc := 10) S 0 rfl rfl (m_dec e5_add 6 rfl) ?_
  refine ms_aload_n (pc := 11) S 0 rfl rfl (m_dec e5_add 7 rfl) ?_
  refine ms_grd fun g4 => ?_
  refine ms_getf (pc := 12) S lf_X5_13 rfl (m_dec e5_add 8 rfl) g4 ?_
  refine ms_iconst (pc := 15) S (m_dec e5_add 9 rfl) ?_
  refine ms_isub (pc := 16) S (m_dec e5_add 10 rfl) ?_
  refine ms_iload_n (pc := 17) S 1 rfl rfl (m_dec e5_add 11 rfl) ?_
  refine ms_callVv (pc := 18) S hF (vals := [m_i ((m_g h2 v0 1) - 1), m_i v1]) (st := []) (hc := vw_5) (hci := by decide) (hcy := rfl) (ht := g4) (hC := (k5_set _ _ v0 ((m_g h2 v0 1) - 1) v1 h2)) (hM := lm_X5_27) (hfr := (Nat.le_trans (by decide) hFn)) (hstk := rfl) (hcat := Nat.le_of_ble_eq_true rfl) (hd := (m_dec e5_add 12 rfl)) (k1 := fun h5 => ?_)
  exact ms_ret (pc := 21) E (m_dec e5_add 13 rfl) rfl
theorem k5_add (l : Launch) (d : m_D) (v0 v1 : Int) (h : m_H) : m_Con l d yX5_add cX5_add 2 none 3 (fun _ => []) [m_r v0, m_i v1] h (t5_add v0 v1 h) :=
  m_con2 (by decide +kernel) (Nat.le_of_ble_eq_true rfl) (fun Y hN hRm hr hI S hfin => s5_add S (m_end_v S hr hfin) hRm (Nat.le_refl _) hN v0 v1 h)
set_option maxRecDepth 100000 in
theorem eJ7_fill_53178 : ∀ q ∈ ([(0, .iconst 0, 1), (1, .istore_n 2, 1), (2, .aload_n 0, 1), (3, .arraylength, 1), (4, .istore_n 3, 1), (5, .iload_n 2, 1), (6, .iload_n 3, 1), (7, .if_icmp .ge 13, 3), (10, .aload_n 0, 1), (11, .iload_n 2, 1), (12, .iload_n 1, 1), (13, .iastore, 1), (14, .iinc 2 1, 3), (17, .goto (-12), 3), (20, .return_, 1)] : List (Nat × Instr × Nat)), decode cJ7_fill_53178 q.1 = .ok q.2 := by decide +kernel
set_option maxHeartbeats 4000000 in
set_option maxRecDepth 20000 in
theorem sJ7_fill_53178_c5 {Y : m_Y Unit} (S : m_Std Y RJ7 cJ7_fill_53178) (E : m_End Y cJ7_fill_53178 .return_ (fun _ => [])) {F : Nat} (hF : m_Rm Y F) (hFn : 0 ≤ F) (hN : Y.2.2.2.1 = 4) : ∀ (v0 v1 v2 v3 : Int) (h : m_H), m_Sim Y 5 [(0, m_r v0), (1, m_i v1), (2, m_i v2), (3, m_i v3)] [] h (tJ7_fill_53178_c5 v0 v1 v2 v3 h) := by
  intro v0 v1 v2 v3 h
  refine ms_all fun r e => ?_
  refine tJ7_fill_53178_c5.partial_correctness v0 v1 v3 (motive := fun v2 h r => m_Sim Y 5 [(0, m_r v0), (1, m_i v1), (2, m_i v2), (3, m_i v3)] [] h (some r)) ?_ v2 h r e
  intro f ih v2 h r e
  have ih : ∀ (v2 : Int) (h : m_H), m_Sim Y 5 [(0, m_r v0), (1, m_i v1), (2, m_i v2), (3, m_i v3)] [] h (f v2 h) := fun v2 h => ms_all fun r e => ih v2 h r e
  refine ms_use ?_ e
  clear e r
  refine ms_iload_n (pc := 5) S 2 rfl rfl (m_dec eJ7_fill_53178 5 rfl) ?_
  refine ms_iload_n (pc := 6) S 3 rfl rfl (m_dec eJ7_fill_53178 6 rfl) ?_
  refine ms_icmp_ge (pc := 7) S (m_dec eJ7_fill_53178 7 rfl) rfl (fun q1 => ?_) (fun q1 => ?_)
  · refine ms_aload_n (pc := 10) S 0 rfl rfl (m_dec eJ7_fill_53178 8 rfl) ?_
    refine ms_iload_n (pc := 11) S 2 rfl rfl (m_dec eJ7_fill_53178 9 rfl) ?_
    refine ms_iload_n (pc := 12) S 1 rfl rfl (m_dec eJ7_fill_53178 10 rfl) ?_
    refine ms_grd fun g2 => ?_
    refine ms_iast (pc := 13) S g2 (m_dec eJ7_fill_53178 11 rfl) (fun h3 => ?_)
    refine ms_iinc (pc := 14) S (L' := [(0, m_r v0), (1, m_i v1), (2, m_i (v2 + 1)), (3, m_i v3)]) 2 rfl [1, 2, 0, 3] rfl (m_lt hN rfl) (m_dec eJ7_fill_53178 12 rfl) ?_
    refine ms_goto (pc := 17) S (m_dec eJ7_fill_53178 13 rfl) rfl ?_
    exact ih (v2 + 1) h3
  · exact ms_ret (pc := 20) E (m_dec eJ7_fill_53178 14 rfl) rfl
set_option maxHeartbeats 4000000 in
set_option maxRecDepth 20000 in
theorem sJ7_fill_53178 {Y : m_Y Unit} (S : m_Std Y RJ7 cJ7_fill_53178) (E : m_End Y cJ7_fill_53178 .return_ (fun _ => [])) {F : Nat} (hF : m_Rm Y F) (hFn : 0 ≤ F) (hN : Y.2.2.2.1 = 4) (v0 v1 : Int) (h : m_H) : m_Sim Y 0 [(0, m_r v0), (1, m_i v1)] [] h (tJ7_fill_53178 v0 v1 h) := by
  unfold tJ7_fill_53178
  refine ms_iconst (pc := 0) S (m_dec eJ7_fill_53178 0 rfl) ?_
  refine ms_istore_n (pc := 1) S (L' := [(0, m_r v0), (1, m_i v1), (2, m_i 0)]) [1, 2, 0] rfl rfl (m_lt hN rfl) (m_dec eJ7_fill_53178 1 rfl) ?_
  refine ms_aload_n (pc := 2) S 0 rfl rfl (m_dec eJ7_fill_53178 2 rfl) ?_
  refine ms_grd fun g1 => ?_
  refine ms_alen (pc := 3) S g1 (m_dec eJ7_fill_53178 3 rfl) ?_
  refine ms_nm (st := fun x2 => [m_i x2]) fun x2 => ?_
  refine ms_istore_n (pc := 4) S (L' := [(0, m_r v0), (1, m_i v1), (2, m_i 0), (3, m_i x2)]) [1, 2, 3, 0] rfl rfl (m_lt hN rfl) (m_dec eJ7_fill_53178 4 rfl) ?_
  exact sJ7_fill_53178_c5 S E hF hFn hN v0 v1 0 x2 h
theorem kJ7_fill_53178 (l : Launch) (d : m_D) (v0 v1 : Int) (h : m_H) : m_Con l d yJ7_fill_53178 cJ7_fill_53178 4 none 0 (fun _ => []) [m_r v0, m_i v1] h (tJ7_fill_53178 v0 v1 h) :=
  m_con2 (by decide +kernel) (Nat.le_of_ble_eq_true rfl) (fun Y hN hRm hr hI S hfin => sJ7_fill_53178 S (m_end_v S hr hfin) hRm (Nat.le_refl _) hN v0 v1 h)
set_option maxRecDepth 100000 in
theorem e5_silence : ∀ q ∈ ([(0, .aload_n 0, 1), (1, .iload_n 1, 1), (2, .invokevirtual 31, 3), (5, .aload_n 0, 1), (6, .getfield 7, 3), (9, .iconst 0, 1), (10, .invokestatic 47, 3), (13, .return_, 1)] : List (Nat × Instr × Nat)), decode cX5_silence q.1 = .ok q.2 := by decide +kernel
set_option maxHeartbeats 4000000 in
set_option maxRecDepth 20000 in
theorem s5_silence {Y : m_Y Unit} (S : m_Std Y RX5 cX5_silence) (E : m_End Y cX5_silence .return_ (fun _ => [])) {F : Nat} (hF : m_Rm Y F) (hFn : 2 ≤ F) (hN : Y.2.2.2.1 = 2) (v0 v1 : Int) (h : m_H) : m_Sim Y 0 [(0, m_r v0), (1, m_i v1)] [] h (t5_silence v0 v1 h) := by
  unfold t5_silence
  refine ms_aload_n (pc := 0) S 0 rfl rfl (m_dec e5_silence 0 rfl) ?_
  refine ms_iload_n (pc := 1) S 1 rfl rfl (m_dec e5_silence 1 rfl) ?_
  refine ms_grd fun g1 => ?_
  refine ms_callVv (pc := 2) S hF (vals := [m_i v1]) (st := []) (hc := vw_5) (hci := by decide) (hcy := rfl) (ht := g1) (hC := (k5_resize _ _ v0 v1 h)) (hM := lm_X5_31) (hfr := (Nat.le_trans (by decide) hFn)) (hstk := rfl) (hcat := Nat.le_of_ble_eq_true rfl) (hd := (m_dec e5_silence 2 rfl)) (k1 := fun h2 => ?_)
  refine ms_aload_n (pc := 5) S 0 rfl rfl (m_dec e5_silence 3 rfl) ?_
  refine ms_grd fun g4 => ?_
  refine ms_getf (pc := 6) S lf_X5_7 rfl (m_dec e5_silence 4 rfl) g4 ?_
  refine ms_iconst (pc := 9) S (m_dec e5_silence 5 rfl) ?_
  refine ms_callSv (pc := 10) S hF (vals := [m_r (m_g h2 v0 0), m_i 0]) (st := [])  (hC := (kJ7_fill_53178 _ _ (m_g h2 v0 0) 0 h2)) (hM := lm_X5_47) (hfr := (Nat.le_trans (by decide) hFn)) (hstk := rfl) (hcat := Nat.le_of_ble_eq_true rfl) (hd := (m_dec e5_silence 6 rfl)) (k1 := fun h5 => ?_)
  exact ms_ret (pc := 13) E (m_dec e5_silence 7 rfl) rfl
theorem k5_silence (l : Launch) (d : m_D) (v0 v1 : Int) (h : m_H) : m_Con l d yX5_silence cX5_silence 2 none 2 (fun _ => []) [m_r v0, m_i v1] h (t5_silence v0 v1 h) :=
  m_con2 (by decide +kernel) (Nat.le_of_ble_eq_true rfl) (fun Y hN hRm hr hI S hfin => s5_silence S (m_end_v S hr hfin) hRm (Nat.le_refl _) hN v0 v1 h)
set_option maxRecDepth 100000 in
theorem e5_dropFirst : ∀ q ∈ ([(0, .iload_n 1, 1), (1, .istore_n 2, 1), (2, .iload_n 2, 1), (3, .aload_n 0, 1), (4, .getfield 13, 3), (7, .if_icmp .ge 21, 3), (10, .aload_n 0, 1), (11, .iload_n 2, 1), (12, .iload_n 1, 1), (13, .isub, 1), (14, .aload_n 0, 1), (15, .iload_n 2, 1), (16, .invokevirtual 23, 3), (19, .invokevirtual 27, 3), (22, .iinc 2 1, 3), (25, .goto (-23), 3), (28, .aload_n 0, 1), (29, .aload_n 0, 1), (30, .getfield 13, 3), (33, .iload_n 1, 1), (34, .isub, 1), (35, .invokevirtual 31, 3), (38, .return_, 1)] : List (Nat × Instr × Nat)), decode cX5_dropFirst q.1 = .ok q.2 := by decide +kernel
set_option maxHeartbeats 4000000 in
set_option maxRecDepth 20000 in
theorem s5_dropFirst_c2 {Y : m_Y Unit} (S : m_Std Y RX5 cX5_dropFirst) (E : m_End Y cX5_dropFirst .return_ (fun _ => [])) {F : Nat} (hF : m_Rm Y F) (hFn : 3 ≤ F) (hN : Y.2.2.2.1 = 3) : ∀ (v0 v1 v2 : Int) (h : m_H), m_Sim Y 2 [(0, m_r v0), (1, m_i v1), (2, m_i v2)] [] h (t5_dropFirst_c2 v0 v1 v2 h) := by
  intro v0 v1 v2 h
  refine ms_all fun r e => ?_
  refine t5_dropFirst_c2.partial_correctness v0 v1 (motive := fun v2 h r => m_Sim Y 2 [(0, m_r v0), (1, m_i v1), (2, m_i v2)] [] h (some r)) ?_ v2 h r e
  intro f ih v2 h r e
  have ih : ∀ (v2 : Int) (h : m_H), m_Sim Y 2 [(0, m_r v0), (1, m_i v1), (2, m_i v2)] [] h (f v2 h) := fun v2 h => ms_all fun r e => ih v2 h r e
  refine ms_use ?_ e
  clear e r
  refine ms_iload_n (pc := 2) S 2 rfl rfl (m_dec e5_dropFirst 2 rfl) ?_
  refine ms_aload_n (pc := 3) S 0 rfl rfl (m_dec e5_dropFirst 3 rfl) ?_
  refine ms_grd fun g1 => ?_
  refine ms_getf (pc := 4) S lf_X5_13 rfl (m_dec e5_dropFirst 4 rfl) g1 ?_
  refine ms_icmp_ge (pc := 7) S (m_dec e5_dropFirst 5 rfl) rfl (fun q2 => ?_) (fun q2 => ?_)
  · refine ms_aload_n (pc := 10) S 0 rfl rfl (m_dec e5_dropFirst 6 rfl) ?_
    refine ms_iload_n (pc := 11) S 2 rfl rfl (m_dec e5_dropFirst 7 rfl) ?_
    refine ms_iload_n (pc := 12) S 1 rfl rfl (m_dec e5_dropFirst 8 rfl) ?_
    refine ms_isub (pc := 13) S (m_dec e5_dropFirst 9 rfl) ?_
    refine ms_aload_n (pc := 14) S 0 rfl rfl (m_dec e5_dropFirst 10 rfl) ?_
    refine ms_iload_n (pc := 15) S 2 rfl rfl (m_dec e5_dropFirst 11 rfl) ?_
    refine ms_callVi (pc := 16) S hF (vals := [m_i v2]) (st := [m_i (v2 - v1), m_r v0]) (hc := vw_5) (hci := by decide) (hcy := rfl) (ht := g1) (hC := (k5_get _ _ v0 v2 h)) (hM := lm_X5_23) (hfr := (Nat.le_trans (by decide) hFn)) (hstk := rfl) (hcat := Nat.le_of_ble_eq_true rfl) (hd := (m_dec e5_dropFirst 12 rfl)) (k1 := fun r4 h3 => ?_)
    refine ms_grd fun g5 => ?_
    refine ms_callVv (pc := 19) S hF (vals := [m_i (v2 - v1), m_i r4]) (st := []) (hc := vw_5) (hci := by decide) (hcy := rfl) (ht := g5) (hC := (k5_set _ _ v0 (v2 - v1) r4 h3)) (hM := lm_X5_27) (hfr := (Nat.le_trans (by decide) hFn)) (hstk := rfl) (hcat := Nat.le_of_ble_eq_true rfl) (hd := (m_dec e5_dropFirst 13 rfl)) (k1 := fun h6 => ?_)
    refine ms_iinc (pc := 22) S (L' := [(0, m_r v0), (1, m_i v1), (2, m_i (v2 + 1))]) 2 rfl [1, 2, 0] rfl (m_lt hN rfl) (m_dec e5_dropFirst 14 rfl) ?_
    refine ms_goto (pc := 25) S (m_dec e5_dropFirst 15 rfl) rfl ?_
    exact ih (v2 + 1) h6
  · refine ms_aload_n (pc := 28) S 0 rfl rfl (m_dec e5_dropFirst 16 rfl) ?_
    refine ms_aload_n (pc := 29) S 0 rfl rfl (m_dec e5_dropFirst 17 rfl) ?_
    refine ms_getf (pc := 30) S lf_X5_13 rfl (m_dec e5_dropFirst 18 rfl) g1 ?_
    refine ms_iload_n (pc := 33) S 1 rfl rfl (m_dec e5_dropFirst 19 rfl) ?_
    refine ms_isub (pc := 34) S (m_dec e5_dropFirst 20 rfl) ?_
    refine ms_callVv (pc := 35) S hF (vals := [m_i ((m_g h v0 1) - v1)]) (st := []) (hc := vw_5) (hci := by decide) (hcy := rfl) (ht := g1) (hC := (k5_resize _ _ v0 ((m_g h v0 1) - v1) h)) (hM := lm_X5_31) (hfr := (Nat.le_trans (by decide) hFn)) (hstk := rfl) (hcat := Nat.le_of_ble_eq_true rfl) (hd := (m_dec e5_dropFirst 21 rfl)) (k1 := fun h8 => ?_)
    exact ms_ret (pc := 38) E (m_dec e5_dropFirst 22 rfl) rfl
set_option maxHeartbeats 4000000 in
set_option maxRecDepth 20000 in
theorem s5_dropFirst {Y : m_Y Unit} (S : m_Std Y RX5 cX5_dropFirst) (E : m_End Y cX5_dropFirst .return_ (fun _ => [])) {F : Nat} (hF : m_Rm Y F) (hFn : 3 ≤ F) (hN : Y.2.2.2.1 = 3) (v0 v1 : Int) (h : m_H) : m_Sim Y 0 [(0, m_r v0), (1, m_i v1)] [] h (t5_dropFirst v0 v1 h) := by
  unfold t5_dropFirst
  refine ms_iload_n (pc := 0) S 1 rfl rfl (m_dec e5_dropFirst 0 rfl) ?_
  refine ms_istore_n (pc := 1) S (L' := [(0, m_r v0), (1, m_i v1), (2, m_i v1)]) [1, 2, 0] rfl rfl (m_lt hN rfl) (m_dec e5_dropFirst 1 rfl) ?_
  exact s5_dropFirst_c2 S E hF hFn hN v0 v1 v1 h
theorem k5_dropFirst (l : Launch) (d : m_D) (v0 v1 : Int) (h : m_H) : m_Con l d yX5_dropFirst cX5_dropFirst 3 none 3 (fun _ => []) [m_r v0, m_i v1] h (t5_dropFirst v0 v1 h) :=
  m_con2 (by decide +kernel) (Nat.le_of_ble_eq_true rfl) (fun Y hN hRm hr hI S hfin => s5_dropFirst S (m_end_v S hr hfin) hRm (Nat.le_refl _) hN v0 v1 h)
set_option maxRecDepth 100000 in
theorem e5_fillPart : ∀ q ∈ ([(0, .aload_n 0, 1), (1, .iload_n 3, 1), (2, .invokevirtual 31, 3), (5, .iconst 0, 1), (6, .istore 4, 2), (8, .iload 4, 2), (10, .iload_n 3, 1), (11, .if_icmp .ge 23, 3), (14, .aload_n 0, 1), (15, .iload 4, 2), (17, .aload_n 1, 1), (18, .iload_n 2, 1), (19, .iload 4, 2), (21, .iadd, 1), (22, .invokevirtual 23, 3), (25, .invokevirtual 27, 3), (28, .iinc 4 1, 3), (31, .goto (-23), 3), (34, .return_, 1)] : List (Nat × Instr × Nat)), decode cX5_fillPart q.1 = .ok q.2 := by decide +kernel
set_option maxHeartbeats 4000000 in
set_option maxRecDepth 20000 in
theorem s5_fillPart_c8 {Y : m_Y Unit} (S : m_Std Y RX5 cX5_fillPart) (E : m_End Y cX5_fillPart .return_ (fun _ => [])) {F : Nat} (hF : m_Rm Y F) (hFn : 3 ≤ F) (hN : Y.2.2.2.1 = 5) : ∀ (v0 v1 v2 v3 v4 : Int) (h : m_H), m_Sim Y 8 [(0, m_r v0), (1, m_r v1), (2, m_i v2), (3, m_i v3), (4, m_i v4)] [] h (t5_fillPart_c8 v0 v1 v2 v3 v4 h) := by
  intro v0 v1 v2 v3 v4 h
  refine ms_all fun r e => ?_
  refine t5_fillPart_c8.partial_correctness v0 v1 v2 v3 (motive := fun v4 h r => m_Sim Y 8 [(0, m_r v0), (1, m_r v1), (2, m_i v2), (3, m_i v3), (4, m_i v4)] [] h (some r)) ?_ v4 h r e
  intro f ih v4 h r e
  have ih : ∀ (v4 : Int) (h : m_H), m_Sim Y 8 [(0, m_r v0), (1, m_r v1), (2, m_i v2), (3, m_i v3), (4, m_i v4)] [] h (f v4 h) := fun v4 h => ms_all fun r e => ih v4 h r e
  refine ms_use ?_ e
  clear e r
  refine ms_iload (pc := 8) S 4 rfl (m_dec e5_fillPart 5 rfl) ?_
  refine ms_iload_n (pc := 10) S 3 rfl rfl (m_dec e5_fillPart 6 rfl) ?_
  refine ms_icmp_ge (pc := 11) S (m_dec e5_fillPart 7 rfl) rfl (fun q1 => ?_) (fun q1 => ?_)
  · refine ms_aload_n (pc := 14) S 0 rfl rfl (m_dec e5_fillPart 8 rfl) ?_
    refine ms_iload (pc := 15) S 4 rfl (m_dec e5_fillPart 9 rfl) ?_
    refine ms_aload_n (pc := 17) S 1 rfl rfl (m_dec e5_fillPart 10 rfl) ?_
    refine ms_iload_n (pc := 18) S 2 rfl rfl (m_dec e5_fillPart 11 rfl) ?_
    refine ms_iload (pc := 19) S 4 rfl (m_dec e5_fillPart 12 rfl) ?_
    refine ms_iadd (pc := 21) S (m_dec e5_fillPart 13 rfl) ?_
    refine ms_grd fun g2 => ?_
    refine ms_callVi (pc := 22) S hF (vals := [m_i (v2 + v4)]) (st := [m_i v4, m_r v0]) (hc := vw_5) (hci := by decide) (hcy := rfl) (ht := g2) (hC := (k5_get _ _ v1 (v2 + v4) h)) (hM := lm_X5_23) (hfr := (Nat.le_trans (by decide) hFn)) (hstk := rfl) (hcat := Nat.le_of_ble_eq_true rfl) (hd := (m_dec e5_fillPart 14 rfl)) (k1 := fun r4 h3 => ?_)
    refine ms_grd fun g5 => ?_
    refine ms_callVv (pc := 25) S hF (vals := [m_i v4, m_i r4]) (st := []) (hc := vw_5) (hci := by decide) (hcy := rfl) (ht := g5) (hC := (k5_set _ _ v0 v4 r4 h3)) (hM := lm_X5_27) (hfr := (Nat.le_trans (by decide) hFn)) (hstk := rfl) (hcat := Nat.le_of_ble_eq_true rfl) (hd := (m_dec e5_fillPart 15 rfl)) (k1 := fun h6 => ?_)
    refine ms_iinc (pc := 28) S (L' := [(0, m_r v0), (1, m_r v1), (2, m_i v2), (3, m_i v3), (4, m_i (v4 + 1))]) 4 rfl [1, 2, 3, 4, 0] rfl (m_lt hN rfl) (m_dec e5_fillPart 16 rfl) ?_
    refine ms_goto (pc := 31) S (m_dec e5_fillPart 17 rfl) rfl ?_
    exact ih (v4 + 1) h6
  · exact ms_ret (pc := 34) E (m_dec e5_fillPart 18 rfl) rfl
set_option maxHeartbeats 4000000 in
set_option maxRecDepth 20000 in
theorem s5_fillPart {Y : m_Y Unit} (S : m_Std Y RX5 cX5_fillPart) (E : m_End Y cX5_fillPart .return_ (fun _ => [])) {F : Nat} (hF : m_Rm Y F) (hFn : 3 ≤ F) (hN : Y.2.2.2.1 = 5) (v0 v1 v2 v3 : Int) (h : m_H) : m_Sim Y 0 [(0, m_r v0), (1, m_r v1), (2, m_i v2), (3, m_i v3)] [] h (t5_fillPart v0 v1 v2 v3 h) := by
  unfold t5_fillPart
  refine ms_aload_n (pc := 0) S 0 rfl rfl (m_dec e5_fillPart 0 rfl) ?_
  refine ms_iload_n (pc := 1) S 3 rfl rfl (m_dec e5_fillPart 1 rfl) ?_
  refine ms_grd fun g1 => ?_
  refine ms_callVv (pc := 2) S hF (vals := [m_i v3]) (st := []) (hc := vw_5) (hci := by decide) (hcy := rfl) (ht := g1) (hC := (k5_resize _ _ v0 v3 h)) (hM := lm_X5_31) (hfr := (Nat.le_trans (by decide) hFn)) (hstk := rfl) (hcat := Nat.le_of_ble_eq_true rfl) (hd := (m_dec e5_fillPart 2 rfl)) (k1 := fun h2 => ?_)
  refine ms_iconst (pc := 5) S (m_dec e5_fillPart 3 rfl) ?_
  refine ms_istore (pc := 6) S (L' := [(0, m_r v0), (1, m_r v1), (2, m_i v2), (3, m_i v3), (4, m_i 0)]) [1, 2, 3, 4, 0] rfl (m_lt hN rfl) (m_dec e5_fillPart 4 rfl) ?_
  exact s5_fillPart_c8 S E hF hFn hN v0 v1 v2 v3 0 h2
theorem k5_fillPart (l : Launch) (d : m_D) (v0 v1 v2 v3 : Int) (h : m_H) : m_Con l d yX5_fillPart cX5_fillPart 5 none 3 (fun _ => []) [m_r v0, m_r v1, m_i v2, m_i v3] h (t5_fillPart v0 v1 v2 v3 h) :=
  m_con2 (by decide +kernel) (Nat.le_of_ble_eq_true rfl) (fun Y hN hRm hr hI S hfin => s5_fillPart S (m_end_v S hr hfin) hRm (Nat.le_refl _) hN v0 v1 v2 v3 h)
set_option maxRecDepth 100000 in
theorem e5_fillTurned : ∀ q ∈ ([(0, .aload_n 0, 1), (1, .aload_n 1, 1), (2, .getfield 13, 3), (5, .invokevirtual 31, 3), (8, .iconst 0, 1), (9, .istore_n 2, 1), (10, .iload_n 2, 1), (11, .aload_n 0, 1), (12, .getfield 13, 3), (15, .if_icmp .ge 26, 3), (18, .aload_n 0, 1), (19, .iload_n 2, 1), (20, .aload_n 1, 1), (21, .aload_n 0, 1), (22, .getfield 13, 3), (25, .iconst 1, 1), (26, .isub, 1), (27, .iload_n 2, 1), (28, .isub, 1), (29, .invokevirtual 23, 3), (32, .invokevirtual 27, 3), (35, .iinc 2 1, 3), (38, .goto (-28), 3), (41, .return_, 1)] : List (Nat × Instr × Nat)), decode cX5_fillTurned q.1 = .ok q.2 := by decide +kernel
set_option maxHeartbeats 4000000 in
set_option maxRecDepth 20000 in
theorem s5_fillTurned_c10 {Y : m_Y Unit} (S : m_Std Y RX5 cX5_fillTurned) (E : m_End Y cX5_fillTurned .return_ (fun _ => [])) {F : Nat} (hF : m_Rm Y F) (hFn : 3 ≤ F) (hN : Y.2.2.2.1 = 3) : ∀ (v0 v1 v2 : Int) (h : m_H), m_Sim Y 10 [(0, m_r v0), (1, m_r v1), (2, m_i v2)] [] h (t5_fillTurned_c10 v0 v1 v2 h) := by
  intro v0 v1 v2 h
  refine ms_all fun r e => ?_
  refine t5_fillTurned_c10.partial_correctness v0 v1 (motive := fun v2 h r => m_Sim Y 10 [(0, m_r v0), (1, m_r v1), (2, m_i v2)] [] h (some r)) ?_ v2 h r e
  intro f ih v2 h r e
  have ih : ∀ (v2 : Int) (h : m_H), m_Sim Y 10 [(0, m_r v0), (1, m_r v1), (2, m_i v2)] [] h (f v2 h) := fun v2 h => ms_all fun r e => ih v2 h r e
  refine ms_use ?_ e
  clear e r
  refine ms_iload_n (pc := 10) S 2 rfl rfl (m_dec e5_fillTurned 6 rfl) ?_
  refine ms_aload_n (pc := 11) S 0 rfl rfl (m_dec e5_fillTurned 7 rfl) ?_
  refine ms_grd fun g1 => ?_
  refine ms_getf (pc := 12) S lf_X5_13 rfl (m_dec e5_fillTurned 8 rfl) g1 ?_
  refine ms_icmp_ge (pc := 15) S (m_dec e5_fillTurned 9 rfl) rfl (fun q2 => ?_) (fun q2 => ?_)
  · refine ms_aload_n (pc := 18) S 0 rfl rfl (m_dec e5_fillTurned 10 rfl) ?_
    refine ms_iload_n (pc := 19) S 2 rfl rfl (m_dec e5_fillTurned 11 rfl) ?_
    refine ms_aload_n (pc := 20) S 1 rfl rfl (m_dec e5_fillTurned 12 rfl) ?_
    refine ms_aload_n (pc := 21) S 0 rfl rfl (m_dec e5_fillTurned 13 rfl) ?_
    refine ms_getf (pc := 22) S lf_X5_13 rfl (m_dec e5_fillTurned 14 rfl) g1 ?_
    refine ms_iconst (pc := 25) S (m_dec e5_fillTurned 15 rfl) ?_
    refine ms_isub (pc := 26) S (m_dec e5_fillTurned 16 rfl) ?_
    refine ms_iload_n (pc := 27) S 2 rfl rfl (m_dec e5_fillTurned 17 rfl) ?_
    refine ms_isub (pc := 28) S (m_dec e5_fillTurned 18 rfl) ?_
    refine ms_grd fun g3 => ?_
    refine ms_callVi (pc := 29) S hF (vals := [m_i (((m_g h v0 1) - 1) - v2)]) (st := [m_i v2, m_r v0]) (hc := vw_5) (hci := by decide) (hcy := rfl) (ht := g3) (hC := (k5_get _ _ v1 (((m_g h v0 1) - 1) - v2) h)) (hM := lm_X5_23) (hfr := (Nat.le_trans (by decide) hFn)) (hstk := rfl) (hcat := Nat.le_of_ble_eq_true rfl) (hd := (m_dec e5_fillTurned 19 rfl)) (k1 := fun r5 h4 => ?_)
    refine ms_grd fun g6 => ?_
    refine ms_callVv (pc := 32) S hF (vals := [m_i v2, m_i r5]) (st := []) (hc := vw_5) (hci := by decide) (hcy := rfl) (ht := g6) (hC := (k5_set _ _ v0 v2 r5 h4)) (hM := lm_X5_27) (hfr := (Nat.le_trans (by decide) hFn)) (hstk := rfl) (hcat := Nat.le_of_ble_eq_true rfl) (hd := (m_dec e5_fillTurned 20 rfl)) (k1 := fun h7 => ?_)
    refine ms_iinc (pc := 35) S (L' := [(0, m_r v0), (1, m_r v1), (2, m_i (v2 + 1))]) 2 rfl [1, 2, 0] rfl (m_lt hN rfl) (m_dec e5_fillTurned 21 rfl) ?_
    refine ms_goto (pc := 38) S (m_dec e5_fillTurned 22 rfl) rfl ?_
    exact ih (v2 + 1) h7
  · exact ms_ret (pc := 41) E (m_dec e5_fillTurned 23 rfl) rfl
set_option maxHeartbeats 4000000 in
set_option maxRecDepth 20000 in
theorem s5_fillTurned {Y : m_Y Unit} (S : m_Std Y RX5 cX5_fillTurned) (E : m_End Y cX5_fillTurned .return_ (fun _ => [])) {F : Nat} (hF : m_Rm Y F) (hFn : 3 ≤ F) (hN : Y.2.2.2.1 = 3) (v0 v1 : Int) (h : m_H) : m_Sim Y 0 [(0, m_r v0), (1, m_r v1)] [] h (t5_fillTurned v0 v1 h) := by
  unfold t5_fillTurned
  refine ms_aload_n (pc := 0) S 0 rfl rfl (m_dec e5_fillTurned 0 rfl) ?_
  refine ms_aload_n (pc := 1) S 1 rfl rfl (m_dec e5_fillTurned 1 rfl) ?_
  refine ms_grd fun g1 => ?_
  refine ms_getf (pc := 2) S lf_X5_13 rfl (m_dec e5_fillTurned 2 rfl) g1 ?_
  refine ms_grd fun g2 => ?_
  refine ms_callVv (pc := 5) S hF (vals := [m_i (m_g h v1 1)]) (st := []) (hc := vw_5) (hci := by decide) (hcy := rfl) (ht := g2) (hC := (k5_resize _ _ v0 (m_g h v1 1) h)) (hM := lm_X5_31) (hfr := (Nat.le_trans (by decide) hFn)) (hstk := rfl) (hcat := Nat.le_of_ble_eq_true rfl) (hd := (m_dec e5_fillTurned 3 rfl)) (k1 := fun h3 => ?_)
  refine ms_iconst (pc := 8) S (m_dec e5_fillTurned 4 rfl) ?_
  refine ms_istore_n (pc := 9) S (L' := [(0, m_r v0), (1, m_r v1), (2, m_i 0)]) [1, 2, 0] rfl rfl (m_lt hN rfl) (m_dec e5_fillTurned 5 rfl) ?_
  exact s5_fillTurned_c10 S E hF hFn hN v0 v1 0 h3
theorem k5_fillTurned (l : Launch) (d : m_D) (v0 v1 : Int) (h : m_H) : m_Con l d yX5_fillTurned cX5_fillTurned 3 none 3 (fun _ => []) [m_r v0, m_r v1] h (t5_fillTurned v0 v1 h) :=
  m_con2 (by decide +kernel) (Nat.le_of_ble_eq_true rfl) (fun Y hN hRm hr hI S hfin => s5_fillTurned S (m_end_v S hr hfin) hRm (Nat.le_refl _) hN v0 v1 h)
set_option maxRecDepth 100000 in
theorem e5_fillRound : ∀ q ∈ ([(0, .aload_n 0, 1), (1, .iload_n 2, 1), (2, .invokevirtual 31, 3), (5, .iconst 0, 1), (6, .istore_n 3, 1), (7, .iload_n 3, 1), (8, .iload_n 2, 1), (9, .if_icmp .ge 31, 3), (12, .aload_n 1, 1), (13, .getfield 13, 3), (16, .ifCond .le 24, 3), (19, .aload_n 0, 1), (20, .iload_n 3, 1), (21, .aload_n 1, 1), (22, .iload_n 3, 1), (23, .aload_n 1, 1), (24, .getfield 13, 3), (27, .irem, 1), (28, .invokevirtual 23, 3), (31, .invokevirtual 27, 3), (34, .iinc 3 1, 3), (37, .goto (-30), 3), (40, .return_, 1)] : List (Nat × Instr × Nat)), decode cX5_fillRound q.1 = .ok q.2 := by decide +kernel
set_option maxHeartbeats 4000000 in
set_option maxRecDepth 20000 in
theorem s5_fillRound_c7 {Y : m_Y Unit} (S : m_Std Y RX5 cX5_fillRound) (E : m_End Y cX5_fillRound .return_ (fun _ => [])) {F : Nat} (hF : m_Rm Y F) (hFn : 3 ≤ F) (hN : Y.2.2.2.1 = 4) : ∀ (v0 v1 v2 v3 : Int) (h : m_H), m_Sim Y 7 [(0, m_r v0), (1, m_r v1), (2, m_i v2), (3, m_i v3)] [] h (t5_fillRound_c7 v0 v1 v2 v3 h) := by
  intro v0 v1 v2 v3 h
  refine ms_all fun r e => ?_
  refine t5_fillRound_c7.partial_correctness v0 v1 v2 (motive := fun v3 h r => m_Sim Y 7 [(0, m_r v0), (1, m_r v1), (2, m_i v2), (3, m_i v3)] [] h (some r)) ?_ v3 h r e
  intro f ih v3 h r e
  have ih : ∀ (v3 : Int) (h : m_H), m_Sim Y 7 [(0, m_r v0), (1, m_r v1), (2, m_i v2), (3, m_i v3)] [] h (f v3 h) := fun v3 h => ms_all fun r e => ih v3 h r e
  refine ms_use ?_ e
  clear e r
  refine ms_iload_n (pc := 7) S 3 rfl rfl (m_dec e5_fillRound 5 rfl) ?_
  refine ms_iload_n (pc := 8) S 2 rfl rfl (m_dec e5_fillRound 6 rfl) ?_
  refine ms_icmp_ge (pc := 9) S (m_dec e5_fillRound 7 rfl) rfl (fun q1 => ?_) (fun q1 => ?_)
  · refine ms_aload_n (pc := 12) S 1 rfl rfl (m_dec e5_fillRound 8 rfl) ?_
    refine ms_grd fun g2 => ?_
    refine ms_getf (pc := 13) S lf_X5_13 rfl (m_dec e5_fillRound 9 rfl) g2 ?_
    refine ms_if_le (pc := 16) S (m_dec e5_fillRound 10 rfl) rfl (fun q3 => ?_) (fun q3 => ?_)
    · refine ms_aload_n (pc := 19) S 0 rfl rfl (m_dec e5_fillRound 11 rfl) ?_
      refine ms_iload_n (pc := 20) S 3 rfl rfl (m_dec e5_fillRound 12 rfl) ?_
      refine ms_aload_n (pc := 21) S 1 rfl rfl (m_dec e5_fillRound 13 rfl) ?_
      refine ms_iload_n (pc := 22) S 3 rfl rfl (m_dec e5_fillRound 14 rfl) ?_
      refine ms_aload_n (pc := 23) S 1 rfl rfl (m_dec e5_fillRound 15 rfl) ?_
      refine ms_getf (pc := 24) S lf_X5_13 rfl (m_dec e5_fillRound 16 rfl) g2 ?_
      refine ms_irem (pc := 27) S (m_dec e5_fillRound 17 rfl) ?_
      refine ms_callVi (pc := 28) S hF (vals := [m_i (Int.tmod (m_w v3) (m_w (m_g h v1 1)))]) (st := [m_i v3, m_r v0]) (hc := vw_5) (hci := by decide) (hcy := rfl) (ht := g2) (hC := (k5_get _ _ v1 (Int.tmod (m_w v3) (m_w (m_g h v1 1))) h)) (hM := lm_X5_23) (hfr := (Nat.le_trans (by decide) hFn)) (hstk := rfl) (hcat := Nat.le_of_ble_eq_true rfl) (hd := (m_dec e5_fillRound 18 rfl)) (k1 := fun r5 h4 => ?_)
      refine ms_grd fun g6 => ?_
      refine ms_callVv (pc := 31) S hF (vals := [m_i v3, m_i r5]) (st := []) (hc := vw_5) (hci := by decide) (hcy := rfl) (ht := g6) (hC := (k5_set _ _ v0 v3 r5 h4)) (hM := lm_X5_27) (hfr := (Nat.le_trans (by decide) hFn)) (hstk := rfl) (hcat := Nat.le_of_ble_eq_true rfl) (hd := (m_dec e5_fillRound 19 rfl)) (k1 := fun h7 => ?_)
      refine ms_iinc (pc := 34) S (L' := [(0, m_r v0), (1, m_r v1), (2, m_i v2), (3, m_i (v3 + 1))]) 3 rfl [1, 2, 3, 0] rfl (m_lt hN rfl) (m_dec e5_fillRound 20 rfl) ?_
      refine ms_goto (pc := 37) S (m_dec e5_fillRound 21 rfl) rfl ?_
      exact ih (v3 + 1) h7
    · exact ms_ret (pc := 40) E (m_dec e5_fillRound 22 rfl) rfl
  · exact ms_ret (pc := 40) E (m_dec e5_fillRound 22 rfl) rfl
set_option maxHeartbeats 4000000 in
set_option maxRecDepth 20000 in
theorem s5_fillRound {Y : m_Y Unit} (S : m_Std Y RX5 cX5_fillRound) (E : m_End Y cX5_fillRound .return_ (fun _ => [])) {F : Nat} (hF : m_Rm Y F) (hFn : 3 ≤ F) (hN : Y.2.2.2.1 = 4) (v0 v1 v2 : Int) (h : m_H) : m_Sim Y 0 [(0, m_r v0), (1, m_r v1), (2, m_i v2)] [] h (t5_fillRound v0 v1 v2 h) := by
  unfold t5_fillRound
  refine ms_aload_n (pc := 0) S 0 rfl rfl (m_dec e5_fillRound 0 rfl) ?_
  refine ms_iload_n (pc := 1) S 2 rfl rfl (m_dec e5_fillRound 1 rfl) ?_
  refine ms_grd fun g1 => ?_
  refine ms_callVv (pc := 2) S hF (vals := [m_i v2]) (st := []) (hc := vw_5) (hci := by decide) (hcy := rfl) (ht := g1) (hC := (k5_resize _ _ v0 v2 h)) (hM := lm_X5_31) (hfr := (Nat.le_trans (by decide) hFn)) (hstk := rfl) (hcat := Nat.le_of_ble_eq_true rfl) (hd := (m_dec e5_fillRound 2 rfl)) (k1 := fun h2 => ?_)
  refine ms_iconst (pc := 5) S (m_dec e5_fillRound 3 rfl) ?_
  refine ms_istore_n (pc := 6) S (L' := [(0, m_r v0), (1, m_r v1), (2, m_i v2), (3, m_i 0)]) [1, 2, 3, 0] rfl rfl (m_lt hN rfl) (m_dec e5_fillRound 4 rfl) ?_
  exact s5_fillRound_c7 S E hF hFn hN v0 v1 v2 0 h2
theorem k5_fillRound (l : Launch) (d : m_D) (v0 v1 v2 : Int) (h : m_H) : m_Con l d yX5_fillRound cX5_fillRound 4 none 3 (fun _ => []) [m_r v0, m_r v1, m_i v2] h (t5_fillRound v0 v1 v2 h) :=
  m_con2 (by decide +kernel) (Nat.le_of_ble_eq_true rfl) (fun Y hN hRm hr hI S hfin => s5_fillRound S (m_end_v S hr hfin) hRm (Nat.le_refl _) hN v0 v1 v2 h)
set_option maxRecDepth 100000 in
theorem e5_joinedSize : ∀ q ∈ ([(0, .aload_n 0, 1), (1, .getfield 13, 3), (4, .aload_n 1, 1), (5, .getfield 13, 3), (8, .iadd, 1), (9, .iload_n 2, 1), (10, .isub, 1), (11, .ireturn, 1)] : List (Nat × Instr × Nat)), decode cX5_joinedSize q.1 = .ok q.2 := by decide +kernel
set_option maxHeartbeats 4000000 in
set_option maxRecDepth 20000 in
theorem s5_joinedSize {Y : m_Y Int} (S : m_Std Y RX5 cX5_joinedSize) (E : m_End Y cX5_joinedSize .ireturn (fun r => [m_i r])) {F : Nat} (hF : m_Rm Y F) (hFn : 0 ≤ F) (hN : Y.2.2.2.1 = 3) (v0 v1 v2 : Int) (h : m_H) : m_Sim Y 0 [(0, m_r v0), (1, m_r v1), (2, m_i v2)] [] h (t5_joinedSize v0 v1 v2 h) := by
  unfold t5_joinedSize
  refine ms_aload_n (pc := 0) S 0 rfl rfl (m_dec e5_joinedSize 0 rfl) ?_
  refine ms_grd fun g1 => ?_
  refine ms_getf (pc := 1) S lf_X5_13 rfl (m_dec e5_joinedSize 1 rfl) g1 ?_
  refine ms_aload_n (pc := 4) S 1 rfl rfl (m_dec e5_joinedSize 2 rfl) ?_
  refine ms_grd fun g2 => ?_
  refine ms_getf (pc := 5) S lf_X5_13 rfl (m_dec e5_joinedSize 3 rfl) g2 ?_
  refine ms_iadd (pc := 8) S (m_dec e5_joinedSize 4 rfl) ?_
  refine ms_iload_n (pc := 9) S 2 rfl rfl (m_dec e5_joinedSize 5 rfl) ?_
  refine ms_isub (pc := 10) S (m_dec e5_joinedSize 6 rfl) ?_
  exact ms_ret (pc := 11) E (m_dec e5_joinedSize 7 rfl) rfl
theorem k5_joinedSize (l : Launch) (d : m_D) (v0 v1 v2 : Int) (h : m_H) : m_Con l d yX5_joinedSize cX5_joinedSize 3 (some .int) 0 (fun r => [m_i r]) [m_r v0, m_r v1, m_i v2] h (t5_joinedSize v0 v1 v2 h) :=
  m_con2 (by decide +kernel) (Nat.le_of_ble_eq_true rfl) (fun Y hN hRm hr hI S hfin => s5_joinedSize S (m_end_i S hr hfin) hRm (Nat.le_refl _) hN v0 v1 v2 h)
set_option maxRecDepth 100000 in
theorem e5_fillJoined : ∀ q ∈ ([(0, .aload_n 1, 1), (1, .getfield 13, 3), (4, .iload_n 3, 1), (5, .isub, 1), (6, .istore 4, 2), (8, .aload_n 0, 1), (9, .aload_n 1, 1), (10, .aload_n 2, 1), (11, .iload_n 3, 1), (12, .invokestatic 53, 3), (15, .invokevirtual 31, 3), (18, .iconst 0, 1), (19, .istore 5, 2), (21, .iload 5, 2), (23, .iload 4, 2), (25, .if_icmp .ge 21, 3), (28, .aload_n 0, 1), (29, .iload 5, 2), (31, .aload_n 1, 1), (32, .iload 5, 2), (34, .invokevirtual 23, 3), (37, .invokevirtual 27, 3), (40, .iinc 5 1, 3), (43, .goto (-22), 3), (46, .iconst 0, 1), (47, .istore 5, 2), (49, .iload 5, 2), (51, .iload_n 3, 1), (52, .if_icmp .ge 52, 3), (55, .aload_n 1, 1), (56, .iload 4, 2), (58, .iload 5, 2), (60, .iadd, 1), (61, .invokevirtual 23, 3), (64, .iload_n 3, 1), (65, .iload 5, 2), (67, .isub, 1), (68, .imul, 1), (69, .aload_n 2, 1), (70, .iload 5, 2), (72, .invokevirtual 23, 3), (75, .iload 5, 2), (77, .iconst 1, 1), (78, .iadd, 1), (79, .imul, 1), (80, .iadd, 1), (81, .istore 6, 2), (83, .aload_n 0, 1), (84, .iload 4, 2), (86, .iload 5, 2), (88, .iadd, 1), (89, .iload 6, 2), (91, .iload_n 3, 1), (92, .iconst 1, 1), (93, .iadd, 1), (94, .idiv, 1), (95, .invokevirtual 27, 3), (98, .iinc 5 1, 3), (101, .goto (-52), 3), (104, .iload_n 3, 1), (105, .istore 5, 2), (107, .iload 5, 2), (109, .aload_n 2, 1), (110, .getfield 13, 3), (113, .if_icmp .ge 24, 3), (116, .aload_n 0, 1), (117, .iload 4, 2), (119, .iload 5, 2), (121, .iadd, 1), (122, .aload_n 2, 1), (123, .iload 5, 2), (125, .invokevirtual 23, 3), (128, .invokevirtual 27, 3), (131, .iinc 5 1, 3), (134, .goto (-27), 3), (137, .return_, 1)] : List (Nat × Instr × Nat)), decode cX5_fillJoined q.1 = .ok q.2 := by decide +kernel
set_option maxHeartbeats 4000000 in
set_option maxRecDepth 20000 in
theorem s5_fillJoined_c107 {Y : m_Y Unit} (S : m_Std Y RX5 cX5_fillJoined) (E : m_End Y cX5_fillJoined .return_ (fun _ => [])) {F : Nat} (hF : m_Rm Y F) (hFn : 3 ≤ F) (hN : Y.2.2.2.1 = 7) : ∀ (v0 v2 v4 v5 : Int) (h : m_H), m_Sim Y 107 [(0, m_r v0), (2, m_r v2), (4, m_i v4), (5, m_i v5)] [] h (t5_fillJoined_c107 v0 v2 v4 v5 h) := by
  intro v0 v2 v4 v5 h
  refine ms_all fun r e => ?_
  refine t5_fillJoined_c107.partial_correctness v0 v2 v4 (motive := fun v5 h r => m_Sim Y 107 [(0, m_r v0), (2, m_r v2), (4, m_i v4), (5, m_i v5)] [] h (some r)) ?_ v5 h r e
  intro f ih v5 h r e
  have ih : ∀ (v5 : Int) (h : m_H), m_Sim Y 107 [(0, m_r v0), (2, m_r v2), (4, m_i v4), (5, m_i v5)] [] h (f v5 h) := fun v5 h => ms_all fun r e => ih v5 h r e
  refine ms_use ?_ e
  clear e r
  refine ms_iload (pc := 107) S 3 rfl (m_dec e5_fillJoined 61 rfl) ?_
  refine ms_aload_n (pc := 109) S 1 rfl rfl (m_dec e5_fillJoined 62 rfl) ?_
  refine ms_grd fun g1 => ?_
  refine ms_getf (pc := 110) S lf_X5_13 rfl (m_dec e5_fillJoined 63 rfl) g1 ?_
  refine ms_icmp_ge (pc := 113) S (m_dec e5_fillJoined 64 rfl) rfl (fun q2 => ?_) (fun q2 => ?_)
  · refine ms_aload_n (pc := 116) S 0 rfl rfl (m_dec e5_fillJoined 65 rfl) ?_
    refine ms_iload (pc := 117) S 2 rfl (m_dec e5_fillJoined 66 rfl) ?_
    refine ms_iload (pc := 119) S 3 rfl (m_dec e5_fillJoined 67 rfl) ?_
    refine ms_iadd (pc := 121) S (m_dec e5_fillJoined 68 rfl) ?_
    refine ms_aload_n (pc := 122) S 1 rfl rfl (m_dec e5_fillJoined 69 rfl) ?_
    refine ms_iload (pc := 123) S 3 rfl (m_dec e5_fillJoined 70 rfl) ?_
    refine ms_callVi (pc := 125) S hF (vals := [m_i v5]) (st := [m_i (v4 + v5), m_r v0]) (hc := vw_5) (hci := by decide) (hcy := rfl) (ht := g1) (hC := (k5_get _ _ v2 v5 h)) (hM := lm_X5_23) (hfr := (Nat.le_trans (by decide) hFn)) (hstk := rfl) (hcat := Nat.le_of_ble_eq_true rfl) (hd := (m_dec e5_fillJoined 71 rfl)) (k1 := fun r4 h3 => ?_)
    refine ms_grd fun g5 => ?_
    refine ms_callVv (pc := 128) S hF (vals := [m_i (v4 + v5), m_i r4]) (st := []) (hc := vw_5) (hci := by decide) (hcy := rfl) (ht := g5) (hC := (k5_set _ _ v0 (v4 + v5) r4 h3)) (hM := lm_X5_27) (hfr := (Nat.le_trans (by decide) hFn)) (hstk := rfl) (hcat := Nat.le_of_ble_eq_true rfl) (hd := (m_dec e5_fillJoined 72 rfl)) (k1 := fun h6 => ?_)
    refine ms_iinc (pc := 131) S (L' := [(0, m_r v0), (2, m_r v2), (4, m_i v4), (5, m_i (v5 + 1))]) 3 rfl [1, 2, 3, 0] rfl (m_lt hN rfl) (m_dec e5_fillJoined 73 rfl) ?_
    refine ms_goto (pc := 134) S (m_dec e5_fillJoined 74 rfl) rfl ?_
    exact ih (v5 + 1) h6
  · exact ms_ret (pc := 137) E (m_dec e5_fillJoined 75 rfl) rfl
set_option maxHeartbeats 4000000 in
set_option maxRecDepth 20000 in
theorem s5_fillJoined_c49 {Y : m_Y Unit} (S : m_Std Y RX5 cX5_fillJoined) (E : m_End Y cX5_fillJoined .return_ (fun _ => [])) {F : Nat} (hF : m_Rm Y F) (hFn : 3 ≤ F) (hN : Y.2.2.2.1 = 7) : ∀ (v0 v1 v2 v3 v4 v5 : Int) (h : m_H), m_Sim Y 49 [(0, m_r v0), (1, m_r v1), (2, m_r v2), (3, m_i v3), (4, m_i v4), (5, m_i v5)] [] h (t5_fillJoined_c49 v0 v1 v2 v3 v4 v5 h) := by
  intro v0 v1 v2 v3 v4 v5 h
  refine ms_all fun r e => ?_
  refine t5_fillJoined_c49.partial_correctness v0 v1 v2 v3 v4 (motive := fun v5 h r => m_Sim Y 49 [(0, m_r v0), (1, m_r v1), (2, m_r v2), (3, m_i v3), (4, m_i v4), (5, m_i v5)] [] h (some r)) ?_ v5 h r e
  intro f ih v5 h r e
  have ih : ∀ (v5 : Int) (h : m_H), m_Sim Y 49 [(0, m_r v0), (1, m_r v1), (2, m_r v2), (3, m_i v3), (4, m_i v4), (5, m_i v5)] [] h (f v5 h) := fun v5 h => ms_all fun r e => ih v5 h r e
  refine ms_use ?_ e
  clear e r
  refine ms_iload (pc := 49) S 5 rfl (m_dec e5_fillJoined 26 rfl) ?_
  refine ms_iload_n (pc := 51) S 3 rfl rfl (m_dec e5_fillJoined 27 rfl) ?_
  refine ms_icmp_ge (pc := 52) S (m_dec e5_fillJoined 28 rfl) rfl (fun q1 => ?_) (fun q1 => ?_)
  · refine ms_aload_n (pc := 55) S 1 rfl rfl (m_dec e5_fillJoined 29 rfl) ?_
    refine ms_iload (pc := 56) S 4 rfl (m_dec e5_fillJoined 30 rfl) ?_
    refine ms_iload (pc := 58) S 5 rfl (m_dec e5_fillJoined 31 rfl) ?_
    refine ms_iadd (pc := 60) S (m_dec e5_fillJoined 32 rfl) ?_
    refine ms_grd fun g2 => ?_
    refine ms_callVi (pc := 61) S hF (vals := [m_i (v4 + v5)]) (st := []) (hc := vw_5) (hci := by decide) (hcy := rfl) (ht := g2) (hC := (k5_get _ _ v1 (v4 + v5) h)) (hM := lm_X5_23) (hfr := (Nat.le_trans (by decide) hFn)) (hstk := rfl) (hcat := Nat.le_of_ble_eq_true rfl) (hd := (m_dec e5_fillJoined 33 rfl)) (k1 := fun r4 h3 => ?_)
    refine ms_iload_n (pc := 64) S 3 rfl rfl (m_dec e5_fillJoined 34 rfl) ?_
    refine ms_iload (pc := 65) S 5 rfl (m_dec e5_fillJoined 35 rfl) ?_
    refine ms_isub (pc := 67) S (m_dec e5_fillJoined 36 rfl) ?_
    refine ms_imul (pc := 68) S (m_dec e5_fillJoined 37 rfl) ?_
    refine ms_aload_n (pc := 69) S 2 rfl rfl (m_dec e5_fillJoined 38 rfl) ?_
    refine ms_iload (pc := 70) S 5 rfl (m_dec e5_fillJoined 39 rfl) ?_
    refine ms_grd fun g5 => ?_
    refine ms_callVi (pc := 72) S hF (vals := [m_i v5]) (st := [m_i (r4 * (v3 - v5))]) (hc := vw_5) (hci := by decide) (hcy := rfl) (ht := g5) (hC := (k5_get _ _ v2 v5 h3)) (hM := lm_X5_23) (hfr := (Nat.le_trans (by decide) hFn)) (hstk := rfl) (hcat := Nat.le_of_ble_eq_true rfl) (hd := (m_dec e5_fillJoined 40 rfl)) (k1 := fun r7 h6 => ?_)
    refine ms_iload (pc := 75) S 5 rfl (m_dec e5_fillJoined 41 rfl) ?_
    refine ms_iconst (pc := 77) S (m_dec e5_fillJoined 42 rfl) ?_
    refine ms_iadd (pc := 78) S (m_dec e5_fillJoined 43 rfl) ?_
    refine ms_imul (pc := 79) S (m_dec e5_fillJoined 44 rfl) ?_
    refine ms_iadd (pc := 80) S (m_dec e5_fillJoined 45 rfl) ?_
    refine ms_nm (st := fun x8 => [m_i x8]) fun x8 => ?_
    refine ms_istore (pc := 81) S (L' := [(0, m_r v0), (1, m_r v1), (2, m_r v2), (3, m_i v3), (4, m_i v4), (5, m_i v5), (6, m_i x8)]) [1, 2, 3, 4, 5, 6, 0] rfl (m_lt hN rfl) (m_dec e5_fillJoined 46 rfl) ?_
    refine ms_aload_n (pc := 83) S 0 rfl rfl (m_dec e5_fillJoined 47 rfl) ?_
    refine ms_iload (pc := 84) S 4 rfl (m_dec e5_fillJoined 48 rfl) ?_
    refine ms_iload (pc := 86) S 5 rfl (m_dec e5_fillJoined 49 rfl) ?_
    refine ms_iadd (pc := 88) S (m_dec e5_fillJoined 50 rfl) ?_
    refine ms_iload (pc := 89) S 6 rfl (m_dec e5_fillJoined 51 rfl) ?_
    refine ms_iload_n (pc := 91) S 3 rfl rfl (m_dec e5_fillJoined 52 rfl) ?_
    refine ms_iconst (pc := 92) S (m_dec e5_fillJoined 53 rfl) ?_
    refine ms_iadd (pc := 93) S (m_dec e5_fillJoined 54 rfl) ?_
    refine ms_idiv (pc := 94) S (m_dec e5_fillJoined 55 rfl) ?_
    refine ms_grd fun g9 => ?_
    refine ms_callVv (pc := 95) S hF (vals := [m_i (v4 + v5), m_i (Int.tdiv (m_w x8) (m_w (v3 + 1)))]) (st := []) (hc := vw_5) (hci := by decide) (hcy := rfl) (ht := g9) (hC := (k5_set _ _ v0 (v4 + v5) (Int.tdiv (m_w x8) (m_w (v3 + 1))) h6)) (hM := lm_X5_27) (hfr := (Nat.le_trans (by decide) hFn)) (hstk := rfl) (hcat := Nat.le_of_ble_eq_true rfl) (hd := (m_dec e5_fillJoined 56 rfl)) (k1 := fun h10 => ?_)
    refine ms_iinc (pc := 98) S (L' := [(0, m_r v0), (1, m_r v1), (2, m_r v2), (3, m_i v3), (4, m_i v4), (5, m_i (v5 + 1))]) 5 rfl [1, 2, 3, 4, 5, 0] rfl (m_lt hN rfl) (m_dec e5_fillJoined 57 rfl) ?_
    refine ms_goto (pc := 101) S (m_dec e5_fillJoined 58 rfl) rfl ?_
    exact ih (v5 + 1) h10
  · refine ms_iload_n (pc := 104) S 3 rfl rfl (m_dec e5_fillJoined 59 rfl) ?_
    refine ms_istore (pc := 105) S (L' := [(0, m_r v0), (2, m_r v2), (4, m_i v4), (5, m_i v3)]) [1, 3, 5, 0] rfl (m_lt hN rfl) (m_dec e5_fillJoined 60 rfl) ?_
    exact s5_fillJoined_c107 S E hF hFn hN v0 v2 v4 v3 h
set_option maxHeartbeats 4000000 in
set_option maxRecDepth 20000 in
theorem s5_fillJoined_c21 {Y : m_Y Unit} (S : m_Std Y RX5 cX5_fillJoined) (E : m_End Y cX5_fillJoined .return_ (fun _ => [])) {F : Nat} (hF : m_Rm Y F) (hFn : 3 ≤ F) (hN : Y.2.2.2.1 = 7) : ∀ (v0 v1 v2 v3 v4 v5 : Int) (h : m_H), m_Sim Y 21 [(0, m_r v0), (1, m_r v1), (2, m_r v2), (3, m_i v3), (4, m_i v4), (5, m_i v5)] [] h (t5_fillJoined_c21 v0 v1 v2 v3 v4 v5 h) := by
  intro v0 v1 v2 v3 v4 v5 h
  refine ms_all fun r e => ?_
  refine t5_fillJoined_c21.partial_correctness v0 v1 v2 v3 v4 (motive := fun v5 h r => m_Sim Y 21 [(0, m_r v0), (1, m_r v1), (2, m_r v2), (3, m_i v3), (4, m_i v4), (5, m_i v5)] [] h (some r)) ?_ v5 h r e
  intro f ih v5 h r e
  have ih : ∀ (v5 : Int) (h : m_H), m_Sim Y 21 [(0, m_r v0), (1, m_r v1), (2, m_r v2), (3, m_i v3), (4, m_i v4), (5, m_i v5)] [] h (f v5 h) := fun v5 h => ms_all fun r e => ih v5 h r e
  refine ms_use ?_ e
  clear e r
  refine ms_iload (pc := 21) S 5 rfl (m_dec e5_fillJoined 13 rfl) ?_
  refine ms_iload (pc := 23) S 4 rfl (m_dec e5_fillJoined 14 rfl) ?_
  refine ms_icmp_ge (pc := 25) S (m_dec e5_fillJoined 15 rfl) rfl (fun q1 => ?_) (fun q1 => ?_)
  · refine ms_aload_n (pc := 28) S 0 rfl rfl (m_dec e5_fillJoined 16 rfl) ?_
    refine ms_iload (pc := 29) S 5 rfl (m_dec e5_fillJoined 17 rfl) ?_
    refine ms_aload_n (pc := 31) S 1 rfl rfl (m_dec e5_fillJoined 18 rfl) ?_
    refine ms_iload (pc := 32) S 5 rfl (m_dec e5_fillJoined 19 rfl) ?_
    refine ms_grd fun g2 => ?_
    refine ms_callVi (pc := 34) S hF (vals := [m_i v5]) (st := [m_i v5, m_r v0]) (hc := vw_5) (hci := by decide) (hcy := rfl) (ht := g2) (hC := (k5_get _ _ v1 v5 h)) (hM := lm_X5_23) (hfr := (Nat.le_trans (by decide) hFn)) (hstk := rfl) (hcat := Nat.le_of_ble_eq_true rfl) (hd := (m_dec e5_fillJoined 20 rfl)) (k1 := fun r4 h3 => ?_)
    refine ms_grd fun g5 => ?_
    refine ms_callVv (pc := 37) S hF (vals := [m_i v5, m_i r4]) (st := []) (hc := vw_5) (hci := by decide) (hcy := rfl) (ht := g5) (hC := (k5_set _ _ v0 v5 r4 h3)) (hM := lm_X5_27) (hfr := (Nat.le_trans (by decide) hFn)) (hstk := rfl) (hcat := Nat.le_of_ble_eq_true rfl) (hd := (m_dec e5_fillJoined 21 rfl)) (k1 := fun h6 => ?_)
    refine ms_iinc (pc := 40) S (L' := [(0, m_r v0), (1, m_r v1), (2, m_r v2), (3, m_i v3), (4, m_i v4), (5, m_i (v5 + 1))]) 5 rfl [1, 2, 3, 4, 5, 0] rfl (m_lt hN rfl) (m_dec e5_fillJoined 22 rfl) ?_
    refine ms_goto (pc := 43) S (m_dec e5_fillJoined 23 rfl) rfl ?_
    exact ih (v5 + 1) h6
  · refine ms_iconst (pc := 46) S (m_dec e5_fillJoined 24 rfl) ?_
    refine ms_istore (pc := 47) S (L' := [(0, m_r v0), (1, m_r v1), (2, m_r v2), (3, m_i v3), (4, m_i v4), (5, m_i 0)]) [1, 2, 3, 4, 5, 0] rfl (m_lt hN rfl) (m_dec e5_fillJoined 25 rfl) ?_
    exact s5_fillJoined_c49 S E hF hFn hN v0 v1 v2 v3 v4 0 h
set_option maxHeartbeats 4000000 in
set_option maxRecDepth 20000 in
theorem s5_fillJoined {Y : m_Y Unit} (S : m_Std Y RX5 cX5_fillJoined) (E : m_End Y cX5_fillJoined .return_ (fun _ => [])) {F : Nat} (hF : m_Rm Y F) (hFn : 3 ≤ F) (hN : Y.2.2.2.1 = 7) (v0 v1 v2 v3 : Int) (h : m_H) : m_Sim Y 0 [(0, m_r v0), (1, m_r v1), (2, m_r v2), (3, m_i v3)] [] h (t5_fillJoined v0 v1 v2 v3 h) := by
  unfold t5_fillJoined
  refine ms_aload_n (pc := 0) S 1 rfl rfl (m_dec e5_fillJoined 0 rfl) ?_
  refine ms_grd fun g1 => ?_
  refine ms_getf (pc := 1) S lf_X5_13 rfl (m_dec e5_fillJoined 1 rfl) g1 ?_
  refine ms_iload_n (pc := 4) S 3 rfl rfl (m_dec e5_fillJoined 2 rfl) ?_
  refine ms_isub (pc := 5) S (m_dec e5_fillJoined 3 rfl) ?_
  refine ms_nm (st := fun x2 => [m_i x2]) fun x2 => ?_
  refine ms_istore (pc := 6) S (L' := [(0, m_r v0), (1, m_r v1), (2, m_r v2), (3, m_i v3), (4, m_i x2)]) [1, 2, 3, 4, 0] rfl (m_lt hN rfl) (m_dec e5_fillJoined 4 rfl) ?_
  refine ms_aload_n (pc := 8) S 0 rfl rfl (m_dec e5_fillJoined 5 rfl) ?_
  refine ms_aload_n (pc := 9) S 1 rfl rfl (m_dec e5_fillJoined 6 rfl) ?_
  refine ms_aload_n (pc := 10) S 2 rfl rfl (m_dec e5_fillJoined 7 rfl) ?_
  refine ms_iload_n (pc := 11) S 3 rfl rfl (m_dec e5_fillJoined 8 rfl) ?_
  refine ms_callSi (pc := 12) S hF (vals := [m_r v1, m_r v2, m_i v3]) (st := [m_r v0])  (hC := (k5_joinedSize _ _ v1 v2 v3 h)) (hM := lm_X5_53) (hfr := (Nat.le_trans (by decide) hFn)) (hstk := rfl) (hcat := Nat.le_of_ble_eq_true rfl) (hd := (m_dec e5_fillJoined 9 rfl)) (k1 := fun r4 h3 => ?_)
  refine ms_grd fun g5 => ?_
  refine ms_callVv (pc := 15) S hF (vals := [m_i r4]) (st := []) (hc := vw_5) (hci := by decide) (hcy := rfl) (ht := g5) (hC := (k5_resize _ _ v0 r4 h3)) (hM := lm_X5_31) (hfr := (Nat.le_trans (by decide) hFn)) (hstk := rfl) (hcat := Nat.le_of_ble_eq_true rfl) (hd := (m_dec e5_fillJoined 10 rfl)) (k1 := fun h6 => ?_)
  refine ms_iconst (pc := 18) S (m_dec e5_fillJoined 11 rfl) ?_
  refine ms_istore (pc := 19) S (L' := [(0, m_r v0), (1, m_r v1), (2, m_r v2), (3, m_i v3), (4, m_i x2), (5, m_i 0)]) [1, 2, 3, 4, 5, 0] rfl (m_lt hN rfl) (m_dec e5_fillJoined 12 rfl) ?_
  exact s5_fillJoined_c21 S E hF hFn hN v0 v1 v2 v3 x2 0 h6
theorem k5_fillJoined (l : Launch) (d : m_D) (v0 v1 v2 v3 : Int) (h : m_H) : m_Con l d yX5_fillJoined cX5_fillJoined 7 none 3 (fun _ => []) [m_r v0, m_r v1, m_r v2, m_i v3] h (t5_fillJoined v0 v1 v2 v3 h) :=
  m_con2 (by decide +kernel) (Nat.le_of_ble_eq_true rfl) (fun Y hN hRm hr hI S hfin => s5_fillJoined S (m_end_v S hr hfin) hRm (Nat.le_refl _) hN v0 v1 v2 v3 h)
set_option maxRecDepth 100000 in
theorem e5_playedSize : ∀ q ∈ ([(0, .iload_n 1, 1), (1, .iconst 1, 1), (2, .if_icmp .lt 11, 3), (5, .aload_n 0, 1), (6, .getfield 13, 3), (9, .iconst 1, 1), (10, .if_icmp .ge 7, 3), (13, .iconst 0, 1), (14, .goto 15, 3), (17, .aload_n 0, 1), (18, .getfield 13, 3), (21, .iconst 1, 1), (22, .isub, 1), (23, .iload_n 2, 1), (24, .imul, 1), (25, .iload_n 1, 1), (26, .idiv, 1), (27, .iconst 1, 1), (28, .iadd, 1), (29, .ireturn, 1)] : List (Nat × Instr × Nat)), decode cX5_playedSize q.1 = .ok q.2 := by decide +kernel
set_option maxHeartbeats 4000000 in
set_option maxRecDepth 20000 in
theorem s5_playedSize {Y : m_Y Int} (S : m_Std Y RX5 cX5_playedSize) (E : m_End Y cX5_playedSize .ireturn (fun r => [m_i r])) {F : Nat} (hF : m_Rm Y F) (hFn : 0 ≤ F) (hN : Y.2.2.2.1 = 3) (v0 v1 v2 : Int) (h : m_H) : m_Sim Y 0 [(0, m_r v0), (1, m_i v1), (2, m_i v2)] [] h (t5_playedSize v0 v1 v2 h) := by
  unfold t5_playedSize
  refine ms_iload_n (pc := 0) S 1 rfl rfl (m_dec e5_playedSize 0 rfl) ?_
  refine ms_iconst (pc := 1) S (m_dec e5_playedSize 1 rfl) ?_
  refine ms_icmp_lt (pc := 2) S (m_dec e5_playedSize 2 rfl) rfl (fun q1 => ?_) (fun q1 => ?_)
  · refine ms_iconst (pc := 13) S (m_dec e5_playedSize 7 rfl) ?_
    refine ms_goto (pc := 14) S (m_dec e5_playedSize 8 rfl) rfl ?_
    exact ms_ret (pc := 29) E (m_dec e5_playedSize 19 rfl) rfl
  · refine ms_aload_n (pc := 5) S 0 rfl rfl (m_dec e5_playedSize 3 rfl) ?_
    refine ms_grd fun g2 => ?_
    refine ms_getf (pc := 6) S lf_X5_13 rfl (m_dec e5_playedSize 4 rfl) g2 ?_
    refine ms_iconst (pc := 9) S (m_dec e5_playedSize 5 rfl) ?_
    refine ms_icmp_ge (pc := 10) S (m_dec e5_playedSize 6 rfl) rfl (fun q3 => ?_) (fun q3 => ?_)
    · refine ms_iconst (pc := 13) S (m_dec e5_playedSize 7 rfl) ?_
      refine ms_goto (pc := 14) S (m_dec e5_playedSize 8 rfl) rfl ?_
      exact ms_ret (pc := 29) E (m_dec e5_playedSize 19 rfl) rfl
    · refine ms_aload_n (pc := 17) S 0 rfl rfl (m_dec e5_playedSize 9 rfl) ?_
      refine ms_getf (pc := 18) S lf_X5_13 rfl (m_dec e5_playedSize 10 rfl) g2 ?_
      refine ms_iconst (pc := 21) S (m_dec e5_playedSize 11 rfl) ?_
      refine ms_isub (pc := 22) S (m_dec e5_playedSize 12 rfl) ?_
      refine ms_iload_n (pc := 23) S 2 rfl rfl (m_dec e5_playedSize 13 rfl) ?_
      refine ms_imul (pc := 24) S (m_dec e5_playedSize 14 rfl) ?_
      refine ms_iload_n (pc := 25) S 1 rfl rfl (m_dec e5_playedSize 15 rfl) ?_
      refine ms_idiv (pc := 26) S (m_dec e5_playedSize 16 rfl) ?_
      refine ms_iconst (pc := 27) S (m_dec e5_playedSize 17 rfl) ?_
      refine ms_iadd (pc := 28) S (m_dec e5_playedSize 18 rfl) ?_
      exact ms_ret (pc := 29) E (m_dec e5_playedSize 19 rfl) rfl
theorem k5_playedSize (l : Launch) (d : m_D) (v0 v1 v2 : Int) (h : m_H) : m_Con l d yX5_playedSize cX5_playedSize 3 (some .int) 0 (fun r => [m_i r]) [m_r v0, m_i v1, m_i v2] h (t5_playedSize v0 v1 v2 h) :=
  m_con2 (by decide +kernel) (Nat.le_of_ble_eq_true rfl) (fun Y hN hRm hr hI S hfin => s5_playedSize S (m_end_i S hr hfin) hRm (Nat.le_refl _) hN v0 v1 v2 h)
set_option maxRecDepth 100000 in
theorem e5_between : ∀ q ∈ ([(0, .iload_n 2, 1), (1, .iconst 1, 1), (2, .if_icmp .ge 5, 3), (5, .iconst 0, 1), (6, .ireturn, 1), (7, .iload_n 1, 1), (8, .iload_n 2, 1), (9, .idiv, 1), (10, .istore_n 3, 1), (11, .aload_n 0, 1), (12, .iload_n 3, 1), (13, .invokevirtual 23, 3), (16, .istore 4, 2), (18, .iload_n 3, 1), (19, .iconst 1, 1), (20, .iadd, 1), (21, .aload_n 0, 1), (22, .getfield 13, 3), (25, .if_icmp .lt 6, 3), (28, .iload 4, 2), (30, .ireturn, 1), (31, .iload 4, 2), (33, .iload_n 1, 1), (34, .iload_n 2, 1), (35, .irem, 1), (36, .aload_n 0, 1), (37, .iload_n 3, 1), (38, .iconst 1, 1), (39, .iadd, 1), (40, .invokevirtual 23, 3), (43, .iload 4, 2), (45, .isub, 1), (46, .imul, 1), (47, .iload_n 2, 1), (48, .idiv, 1), (49, .iadd, 1), (50, .ireturn, 1)] : List (Nat × Instr × Nat)), decode cX5_between q.1 = .ok q.2 := by decide +kernel
set_option maxHeartbeats 4000000 in
set_option maxRecDepth 20000 in
theorem s5_between {Y : m_Y Int} (S : m_Std Y RX5 cX5_between) (E : m_End Y cX5_between .ireturn (fun r => [m_i r])) {F : Nat} (hF : m_Rm Y F) (hFn : 1 ≤ F) (hN : Y.2.2.2.1 = 5) (v0 v1 v2 : Int) (h : m_H) : m_Sim Y 0 [(0, m_r v0), (1, m_i v1), (2, m_i v2)] [] h (t5_between v0 v1 v2 h) := by
  unfold t5_between
  refine ms_iload_n (pc := 0) S 2 rfl rfl (m_dec e5_between 0 rfl) ?_
  refine ms_iconst (pc := 1) S (m_dec e5_between 1 rfl) ?_
  refine ms_icmp_ge (pc := 2) S (m_dec e5_between 2 rfl) rfl (fun q1 => ?_) (fun q1 => ?_)
  · refine ms_iconst (pc := 5) S (m_dec e5_between 3 rfl) ?_
    exact ms_ret (pc := 6) E (m_dec e5_between 4 rfl) rfl
  · refine ms_iload_n (pc := 7) S 1 rfl rfl (m_dec e5_between 5 rfl) ?_
    refine ms_iload_n (pc := 8) S 2 rfl rfl (m_dec e5_between 6 rfl) ?_
    refine ms_idiv (pc := 9) S (m_dec e5_between 7 rfl) ?_
    refine ms_nm (st := fun x2 => [m_i x2]) fun x2 => ?_
    refine ms_istore_n (pc := 10) S (L' := [(0, m_r v0), (1, m_i v1), (2, m_i v2), (3, m_i x2)]) [1, 2, 3, 0] rfl rfl (m_lt hN rfl) (m_dec e5_between 8 rfl) ?_
    refine ms_aload_n (pc := 11) S 0 rfl rfl (m_dec e5_between 9 rfl) ?_
    refine ms_iload_n (pc := 12) S 3 rfl rfl (m_dec e5_between 10 rfl) ?_
    refine ms_grd fun g3 => ?_
    refine ms_callVi (pc := 13) S hF (vals := [m_i x2]) (st := []) (hc := vw_5) (hci := by decide) (hcy := rfl) (ht := g3) (hC := (k5_get _ _ v0 x2 h)) (hM := lm_X5_23) (hfr := (Nat.le_trans (by decide) hFn)) (hstk := rfl) (hcat := Nat.le_of_ble_eq_true rfl) (hd := (m_dec e5_between 11 rfl)) (k1 := fun r5 h4 => ?_)
    refine ms_istore (pc := 16) S (L' := [(0, m_r v0), (1, m_i v1), (2, m_i v2), (3, m_i x2), (4, m_i r5)]) [1, 2, 3, 4, 0] rfl (m_lt hN rfl) (m_dec e5_between 12 rfl) ?_
    refine ms_iload_n (pc := 18) S 3 rfl rfl (m_dec e5_between 13 rfl) ?_
    refine ms_iconst (pc := 19) S (m_dec e5_between 14 rfl) ?_
    refine ms_iadd (pc := 20) S (m_dec e5_between 15 rfl) ?_
    refine ms_aload_n (pc := 21) S 0 rfl rfl (m_dec e5_between 16 rfl) ?_
    refine ms_grd fun g6 => ?_
    refine ms_getf (pc := 22) S lf_X5_13 rfl (m_dec e5_between 17 rfl) g6 ?_
    refine ms_icmp_lt (pc := 25) S (m_dec e5_between 18 rfl) rfl (fun q7 => ?_) (fun q7 => ?_)
    · refine ms_iload (pc := 31) S 4 rfl (m_dec e5_between 21 rfl) ?_
      refine ms_iload_n (pc := 33) S 1 rfl rfl (m_dec e5_between 22 rfl) ?_
      refine ms_iload_n (pc := 34) S 2 rfl rfl (m_dec e5_between 23 rfl) ?_
      refine ms_irem (pc := 35) S (m_dec e5_between 24 rfl) ?_
      refine ms_aload_n (pc := 36) S 0 rfl rfl (m_dec e5_between 25 rfl) ?_
      refine ms_iload_n (pc := 37) S 3 rfl rfl (m_dec e5_between 26 rfl) ?_
      refine ms_iconst (pc := 38) S (m_dec e5_between 27 rfl) ?_
      refine ms_iadd (pc := 39) S (m_dec e5_between 28 rfl) ?_
      refine ms_callVi (pc := 40) S hF (vals := [m_i (x2 + 1)]) (st := [m_i (Int.tmod (m_w v1) (m_w v2)), m_i r5]) (hc := vw_5) (hci := by decide) (hcy := rfl) (ht := g6) (hC := (k5_get _ _ v0 (x2 + 1) h4)) (hM := lm_X5_23) (hfr := (Nat.le_trans (by decide) hFn)) (hstk := rfl) (hcat := Nat.le_of_ble_eq_true rfl) (hd := (m_dec e5_between 29 rfl)) (k1 := fun r9 h8 => ?_)
      refine ms_iload (pc := 43) S 4 rfl (m_dec e5_between 30 rfl) ?_
      refine ms_isub (pc := 45) S (m_dec e5_between 31 rfl) ?_
      refine ms_imul (pc := 46) S (m_dec e5_between 32 rfl) ?_
      refine ms_iload_n (pc := 47) S 2 rfl rfl (m_dec e5_between 33 rfl) ?_
      refine ms_idiv (pc := 48) S (m_dec e5_between 34 rfl) ?_
      refine ms_iadd (pc := 49) S (m_dec e5_between 35 rfl) ?_
      exact ms_ret (pc := 50) E (m_dec e5_between 36 rfl) rfl
    · refine ms_iload (pc := 28) S 4 rfl (m_dec e5_between 19 rfl) ?_
      exact ms_ret (pc := 30) E (m_dec e5_between 20 rfl) rfl
theorem k5_between (l : Launch) (d : m_D) (v0 v1 v2 : Int) (h : m_H) : m_Con l d yX5_between cX5_between 5 (some .int) 1 (fun r => [m_i r]) [m_r v0, m_i v1, m_i v2] h (t5_between v0 v1 v2 h) :=
  m_con2 (by decide +kernel) (Nat.le_of_ble_eq_true rfl) (fun Y hN hRm hr hI S hfin => s5_between S (m_end_i S hr hfin) hRm (Nat.le_refl _) hN v0 v1 v2 h)
set_option maxRecDepth 100000 in
theorem e5_fillPlayed : ∀ q ∈ ([(0, .aload_n 1, 1), (1, .iload_n 2, 1), (2, .iload_n 3, 1), (3, .invokevirtual 57, 3), (6, .istore 4, 2), (8, .aload_n 0, 1), (9, .iload 4, 2), (11, .invokevirtual 31, 3), (14, .iconst 0, 1), (15, .istore 5, 2), (17, .iload 5, 2), (19, .iload 4, 2), (21, .if_icmp .ge 24, 3), (24, .aload_n 0, 1), (25, .iload 5, 2), (27, .aload_n 1, 1), (28, .iload 5, 2), (30, .iload_n 2, 1), (31, .imul, 1), (32, .iload_n 3, 1), (33, .invokevirtual 60, 3), (36, .invokevirtual 27, 3), (39, .iinc 5 1, 3), (42, .goto (-25), 3), (45, .return_, 1)] : List (Nat × Instr × Nat)), decode cX5_fillPlayed q.1 = .ok q.2 := by decide +kernel
set_option maxHeartbeats 4000000 in
set_option maxRecDepth 20000 in
theorem s5_fillPlayed_c17 {Y : m_Y Unit} (S : m_Std Y RX5 cX5_fillPlayed) (E : m_End Y cX5_fillPlayed .return_ (fun _ => [])) {F : Nat} (hF : m_Rm Y F) (hFn : 3 ≤ F) (hN : Y.2.2.2.1 = 6) : ∀ (v0 v1 v2 v3 v4 v5 : Int) (h : m_H), m_Sim Y 17 [(0, m_r v0), (1, m_r v1), (2, m_i v2), (3, m_i v3), (4, m_i v4), (5, m_i v5)] [] h (t5_fillPlayed_c17 v0 v1 v2 v3 v4 v5 h) := by
  intro v0 v1 v2 v3 v4 v5 h
  refine ms_all fun r e => ?_
  refine t5_fillPlayed_c17.partial_correctness v0 v1 v2 v3 v4 (motive := fun v5 h r => m_Sim Y 17 [(0, m_r v0), (1, m_r v1), (2, m_i v2), (3, m_i v3), (4, m_i v4), (5, m_i v5)] [] h (some r)) ?_ v5 h r e
  intro f ih v5 h r e
  have ih : ∀ (v5 : Int) (h : m_H), m_Sim Y 17 [(0, m_r v0), (1, m_r v1), (2, m_i v2), (3, m_i v3), (4, m_i v4), (5, m_i v5)] [] h (f v5 h) := fun v5 h => ms_all fun r e => ih v5 h r e
  refine ms_use ?_ e
  clear e r
  refine ms_iload (pc := 17) S 5 rfl (m_dec e5_fillPlayed 10 rfl) ?_
  refine ms_iload (pc := 19) S 4 rfl (m_dec e5_fillPlayed 11 rfl) ?_
  refine ms_icmp_ge (pc := 21) S (m_dec e5_fillPlayed 12 rfl) rfl (fun q1 => ?_) (fun q1 => ?_)
  · refine ms_aload_n (pc := 24) S 0 rfl rfl (m_dec e5_fillPlayed 13 rfl) ?_
    refine ms_iload (pc := 25) S 5 rfl (m_dec e5_fillPlayed 14 rfl) ?_
    refine ms_aload_n (pc := 27) S 1 rfl rfl (m_dec e5_fillPlayed 15 rfl) ?_
    refine ms_iload (pc := 28) S 5 rfl (m_dec e5_fillPlayed 16 rfl) ?_
    refine ms_iload_n (pc := 30) S 2 rfl rfl (m_dec e5_fillPlayed 17 rfl) ?_
    refine ms_imul (pc := 31) S (m_dec e5_fillPlayed 18 rfl) ?_
    refine ms_iload_n (pc := 32) S 3 rfl rfl (m_dec e5_fillPlayed 19 rfl) ?_
    refine ms_grd fun g2 => ?_
    refine ms_callVi (pc := 33) S hF (vals := [m_i (v5 * v2), m_i v3]) (st := [m_i v5, m_r v0]) (hc := vw_5) (hci := by decide) (hcy := rfl) (ht := g2) (hC := (k5_between _ _ v1 (v5 * v2) v3 h)) (hM := lm_X5_60) (hfr := (Nat.le_trans (by decide) hFn)) (hstk := rfl) (hcat := Nat.le_of_ble_eq_true rfl) (hd := (m_dec e5_fillPlayed 20 rfl)) (k1 := fun r4 h3 => ?_)
    refine ms_grd fun g5 => ?_
    refine ms_callVv (pc := 36) S hF (vals := [m_i v5, m_i r4]) (st := []) (hc := vw_5) (hci := by decide) (hcy := rfl) (ht := g5) (hC := (k5_set _ _ v0 v5 r4 h3)) (hM := lm_X5_27) (hfr := (Nat.le_trans (by decide) hFn)) (hstk := rfl) (hcat := Nat.le_of_ble_eq_true rfl) (hd := (m_dec e5_fillPlayed 21 rfl)) (k1 := fun h6 => ?_)
    refine ms_iinc (pc := 39) S (L' := [(0, m_r v0), (1, m_r v1), (2, m_i v2), (3, m_i v3), (4, m_i v4), (5, m_i (v5 + 1))]) 5 rfl [1, 2, 3, 4, 5, 0] rfl (m_lt hN rfl) (m_dec e5_fillPlayed 22 rfl) ?_
    refine ms_goto (pc := 42) S (m_dec e5_fillPlayed 23 rfl) rfl ?_
    exact ih (v5 + 1) h6
  · exact ms_ret (pc := 45) E (m_dec e5_fillPlayed 24 rfl) rfl
set_option maxHeartbeats 4000000 in
set_option maxRecDepth 20000 in
theorem s5_fillPlayed {Y : m_Y Unit} (S : m_Std Y RX5 cX5_fillPlayed) (E : m_End Y cX5_fillPlayed .return_ (fun _ => [])) {F : Nat} (hF : m_Rm Y F) (hFn : 3 ≤ F) (hN : Y.2.2.2.1 = 6) (v0 v1 v2 v3 : Int) (h : m_H) : m_Sim Y 0 [(0, m_r v0), (1, m_r v1), (2, m_i v2), (3, m_i v3)] [] h (t5_fillPlayed v0 v1 v2 v3 h) := by
  unfold t5_fillPlayed
  refine ms_aload_n (pc := 0) S 1 rfl rfl (m_dec e5_fillPlayed 0 rfl) ?_
  refine ms_iload_n (pc := 1) S 2 rfl rfl (m_dec e5_fillPlayed 1 rfl) ?_
  refine ms_iload_n (pc := 2) S 3 rfl rfl (m_dec e5_fillPlayed 2 rfl) ?_
  refine ms_grd fun g1 => ?_
  refine ms_callVi (pc := 3) S hF (vals := [m_i v2, m_i v3]) (st := []) (hc := vw_5) (hci := by decide) (hcy := rfl) (ht := g1) (hC := (k5_playedSize _ _ v1 v2 v3 h)) (hM := lm_X5_57) (hfr := (Nat.le_trans (by decide) hFn)) (hstk := rfl) (hcat := Nat.le_of_ble_eq_true rfl) (hd := (m_dec e5_fillPlayed 3 rfl)) (k1 := fun r3 h2 => ?_)
  refine ms_istore (pc := 6) S (L' := [(0, m_r v0), (1, m_r v1), (2, m_i v2), (3, m_i v3), (4, m_i r3)]) [1, 2, 3, 4, 0] rfl (m_lt hN rfl) (m_dec e5_fillPlayed 4 rfl) ?_
  refine ms_aload_n (pc := 8) S 0 rfl rfl (m_dec e5_fillPlayed 5 rfl) ?_
  refine ms_iload (pc := 9) S 4 rfl (m_dec e5_fillPlayed 6 rfl) ?_
  refine ms_grd fun g4 => ?_
  refine ms_callVv (pc := 11) S hF (vals := [m_i r3]) (st := []) (hc := vw_5) (hci := by decide) (hcy := rfl) (ht := g4) (hC := (k5_resize _ _ v0 r3 h2)) (hM := lm_X5_31) (hfr := (Nat.le_trans (by decide) hFn)) (hstk := rfl) (hcat := Nat.le_of_ble_eq_true rfl) (hd := (m_dec e5_fillPlayed 7 rfl)) (k1 := fun h5 => ?_)
  refine ms_iconst (pc := 14) S (m_dec e5_fillPlayed 8 rfl) ?_
  refine ms_istore (pc := 15) S (L' := [(0, m_r v0), (1, m_r v1), (2, m_i v2), (3, m_i v3), (4, m_i r3), (5, m_i 0)]) [1, 2, 3, 4, 5, 0] rfl (m_lt hN rfl) (m_dec e5_fillPlayed 9 rfl) ?_
  exact s5_fillPlayed_c17 S E hF hFn hN v0 v1 v2 v3 r3 0 h5
theorem k5_fillPlayed (l : Launch) (d : m_D) (v0 v1 v2 v3 : Int) (h : m_H) : m_Con l d yX5_fillPlayed cX5_fillPlayed 6 none 3 (fun _ => []) [m_r v0, m_r v1, m_i v2, m_i v3] h (t5_fillPlayed v0 v1 v2 v3 h) :=
  m_con2 (by decide +kernel) (Nat.le_of_ble_eq_true rfl) (fun Y hN hRm hr hI S hfin => s5_fillPlayed S (m_end_v S hr hfin) hRm (Nat.le_refl _) hN v0 v1 v2 v3 h)
set_option maxRecDepth 100000 in
theorem e5_level : ∀ q ∈ ([(0, .iconst 0, 1), (1, .istore_n 2, 1), (2, .iload_n 2, 1), (3, .aload_n 0, 1), (4, .getfield 13, 3), (7, .if_icmp .ge 24, 3), (10, .aload_n 0, 1), (11, .iload_n 2, 1), (12, .aload_n 0, 1), (13, .iload_n 2, 1), (14, .invokevirtual 23, 3), (17, .iload_n 1, 1), (18, .imul, 1), (19, .bipush 64, 2), (21, .idiv, 1), (22, .invokevirtual 27, 3), (25, .iinc 2 1, 3), (28, .goto (-26), 3), (31, .return_, 1)] : List (Nat × Instr × Nat)), decode cX5_level q.1 = .ok q.2 := by decide +kernel
set_option maxHeartbeats 4000000 in
set_option maxRecDepth 20000 in
theorem s5_level_c2 {Y : m_Y Unit} (S : m_Std Y RX5 cX5_level) (E : m_End Y cX5_level .return_ (fun _ => [])) {F : Nat} (hF : m_Rm Y F) (hFn : 3 ≤ F) (hN : Y.2.2.2.1 = 3) : ∀ (v0 v1 v2 : Int) (h : m_H), m_Sim Y 2 [(0, m_r v0), (1, m_i v1), (2, m_i v2)] [] h (t5_level_c2 v0 v1 v2 h) := by
  intro v0 v1 v2 h
  refine ms_all fun r e => ?_
  refine t5_level_c2.partial_correctness v0 v1 (motive := fun v2 h r => m_Sim Y 2 [(0, m_r v0), (1, m_i v1), (2, m_i v2)] [] h (some r)) ?_ v2 h r e
  intro f ih v2 h r e
  have ih : ∀ (v2 : Int) (h : m_H), m_Sim Y 2 [(0, m_r v0), (1, m_i v1), (2, m_i v2)] [] h (f v2 h) := fun v2 h => ms_all fun r e => ih v2 h r e
  refine ms_use ?_ e
  clear e r
  refine ms_iload_n (pc := 2) S 2 rfl rfl (m_dec e5_level 2 rfl) ?_
  refine ms_aload_n (pc := 3) S 0 rfl rfl (m_dec e5_level 3 rfl) ?_
  refine ms_grd fun g1 => ?_
  refine ms_getf (pc := 4) S lf_X5_13 rfl (m_dec e5_level 4 rfl) g1 ?_
  refine ms_icmp_ge (pc := 7) S (m_dec e5_level 5 rfl) rfl (fun q2 => ?_) (fun q2 => ?_)
  · refine ms_aload_n (pc := 10) S 0 rfl rfl (m_dec e5_level 6 rfl) ?_
    refine ms_iload_n (pc := 11) S 2 rfl rfl (m_dec e5_level 7 rfl) ?_
    refine ms_aload_n (pc := 12) S 0 rfl rfl (m_dec e5_level 8 rfl) ?_
    refine ms_iload_n (pc := 13) S 2 rfl rfl (m_dec e5_level 9 rfl) ?_
    refine ms_callVi (pc := 14) S hF (vals := [m_i v2]) (st := [m_i v2, m_r v0]) (hc := vw_5) (hci := by decide) (hcy := rfl) (ht := g1) (hC := (k5_get _ _ v0 v2 h)) (hM := lm_X5_23) (hfr := (Nat.le_trans (by decide) hFn)) (hstk := rfl) (hcat := Nat.le_of_ble_eq_true rfl) (hd := (m_dec e5_level 10 rfl)) (k1 := fun r4 h3 => ?_)
    refine ms_iload_n (pc := 17) S 1 rfl rfl (m_dec e5_level 11 rfl) ?_
    refine ms_imul (pc := 18) S (m_dec e5_level 12 rfl) ?_
    refine ms_bipush (pc := 19) S (m_dec e5_level 13 rfl) rfl ?_
    refine ms_idivN (pc := 21) S (by decide) (m_dec e5_level 14 rfl) ?_
    refine ms_grd fun g5 => ?_
    refine ms_callVv (pc := 22) S hF (vals := [m_i v2, m_i (Int.tdiv (m_w (r4 * v1)) 64)]) (st := []) (hc := vw_5) (hci := by decide) (hcy := rfl) (ht := g5) (hC := (k5_set _ _ v0 v2 (Int.tdiv (m_w (r4 * v1)) 64) h3)) (hM := lm_X5_27) (hfr := (Nat.le_trans (by decide) hFn)) (hstk := rfl) (hcat := Nat.le_of_ble_eq_true rfl) (hd := (m_dec e5_level 15 rfl)) (k1 := fun h6 => ?_)
    refine ms_iinc (pc := 25) S (L' := [(0, m_r v0), (1, m_i v1), (2, m_i (v2 + 1))]) 2 rfl [1, 2, 0] rfl (m_lt hN rfl) (m_dec e5_level 16 rfl) ?_
    refine ms_goto (pc := 28) S (m_dec e5_level 17 rfl) rfl ?_
    exact ih (v2 + 1) h6
  · exact ms_ret (pc := 31) E (m_dec e5_level 18 rfl) rfl
set_option maxHeartbeats 4000000 in
set_option maxRecDepth 20000 in
theorem s5_level {Y : m_Y Unit} (S : m_Std Y RX5 cX5_level) (E : m_End Y cX5_level .return_ (fun _ => [])) {F : Nat} (hF : m_Rm Y F) (hFn : 3 ≤ F) (hN : Y.2.2.2.1 = 3) (v0 v1 : Int) (h : m_H) : m_Sim Y 0 [(0, m_r v0), (1, m_i v1)] [] h (t5_level v0 v1 h) := by
  unfold t5_level
  refine ms_iconst (pc := 0) S (m_dec e5_level 0 rfl) ?_
  refine ms_istore_n (pc := 1) S (L' := [(0, m_r v0), (1, m_i v1), (2, m_i 0)]) [1, 2, 0] rfl rfl (m_lt hN rfl) (m_dec e5_level 1 rfl) ?_
  exact s5_level_c2 S E hF hFn hN v0 v1 0 h
theorem k5_level (l : Launch) (d : m_D) (v0 v1 : Int) (h : m_H) : m_Con l d yX5_level cX5_level 3 none 3 (fun _ => []) [m_r v0, m_i v1] h (t5_level v0 v1 h) :=
  m_con2 (by decide +kernel) (Nat.le_of_ble_eq_true rfl) (fun Y hN hRm hr hI S hfin => s5_level S (m_end_v S hr hfin) hRm (Nat.le_refl _) hN v0 v1 h)
set_option maxRecDepth 100000 in
theorem e5_echo : ∀ q ∈ ([(0, .iload_n 1, 1), (1, .iconst 1, 1), (2, .invokestatic 35, 3), (5, .istore_n 3, 1), (6, .iload_n 3, 1), (7, .aload_n 0, 1), (8, .getfield 13, 3), (11, .if_icmp .ge 33, 3), (14, .aload_n 0, 1), (15, .iload_n 3, 1), (16, .aload_n 0, 1), (17, .iload_n 3, 1), (18, .invokevirtual 23, 3), (21, .aload_n 0, 1), (22, .iload_n 3, 1), (23, .iload_n 1, 1), (24, .isub, 1), (25, .invokevirtual 23, 3), (28, .iload_n 2, 1), (29, .imul, 1), (30, .sipush 256, 3), (33, .idiv, 1), (34, .iadd, 1), (35, .invokevirtual 27, 3), (38, .iinc 3 1, 3), (41, .goto (-35), 3), (44, .return_, 1)] : List (Nat × Instr × Nat)), decode cX5_echo q.1 = .ok q.2 := by decide +kernel
set_option maxHeartbeats 4000000 in
set_option maxRecDepth 20000 in
theorem s5_echo_c6 {Y : m_Y Unit} (S : m_Std Y RX5 cX5_echo) (E : m_End Y cX5_echo .return_ (fun _ => [])) {F : Nat} (hF : m_Rm Y F) (hFn : 3 ≤ F) (hN : Y.2.2.2.1 = 4) : ∀ (v0 v1 v2 v3 : Int) (h : m_H), m_Sim Y 6 [(0, m_r v0), (1, m_i v1), (2, m_i v2), (3, m_i v3)] [] h (t5_echo_c6 v0 v1 v2 v3 h) := by
  intro v0 v1 v2 v3 h
  refine ms_all fun r e => ?_
  refine t5_echo_c6.partial_correctness v0 v1 v2 (motive := fun v3 h r => m_Sim Y 6 [(0, m_r v0), (1, m_i v1), (2, m_i v2), (3, m_i v3)] [] h (some r)) ?_ v3 h r e
  intro f ih v3 h r e
  have ih : ∀ (v3 : Int) (h : m_H), m_Sim Y 6 [(0, m_r v0), (1, m_i v1), (2, m_i v2), (3, m_i v3)] [] h (f v3 h) := fun v3 h => ms_all fun r e => ih v3 h r e
  refine ms_use ?_ e
  clear e r
  refine ms_iload_n (pc := 6) S 3 rfl rfl (m_dec e5_echo 4 rfl) ?_
  refine ms_aload_n (pc := 7) S 0 rfl rfl (m_dec e5_echo 5 rfl) ?_
  refine ms_grd fun g1 => ?_
  refine ms_getf (pc := 8) S lf_X5_13 rfl (m_dec e5_echo 6 rfl) g1 ?_
  refine ms_icmp_ge (pc := 11) S (m_dec e5_echo 7 rfl) rfl (fun q2 => ?_) (fun q2 => ?_)
  · refine ms_aload_n (pc := 14) S 0 rfl rfl (m_dec e5_echo 8 rfl) ?_
    refine ms_iload_n (pc := 15) S 3 rfl rfl (m_dec e5_echo 9 rfl) ?_
    refine ms_aload_n (pc := 16) S 0 rfl rfl (m_dec e5_echo 10 rfl) ?_
    refine ms_iload_n (pc := 17) S 3 rfl rfl (m_dec e5_echo 11 rfl) ?_
    refine ms_callVi (pc := 18) S hF (vals := [m_i v3]) (st := [m_i v3, m_r v0]) (hc := vw_5) (hci := by decide) (hcy := rfl) (ht := g1) (hC := (k5_get _ _ v0 v3 h)) (hM := lm_X5_23) (hfr := (Nat.le_trans (by decide) hFn)) (hstk := rfl) (hcat := Nat.le_of_ble_eq_true rfl) (hd := (m_dec e5_echo 12 rfl)) (k1 := fun r4 h3 => ?_)
    refine ms_aload_n (pc := 21) S 0 rfl rfl (m_dec e5_echo 13 rfl) ?_
    refine ms_iload_n (pc := 22) S 3 rfl rfl (m_dec e5_echo 14 rfl) ?_
    refine ms_iload_n (pc := 23) S 1 rfl rfl (m_dec e5_echo 15 rfl) ?_
    refine ms_isub (pc := 24) S (m_dec e5_echo 16 rfl) ?_
    refine ms_grd fun g5 => ?_
    refine ms_callVi (pc := 25) S hF (vals := [m_i (v3 - v1)]) (st := [m_i r4, m_i v3, m_r v0]) (hc := vw_5) (hci := by decide) (hcy := rfl) (ht := g5) (hC := (k5_get _ _ v0 (v3 - v1) h3)) (hM := lm_X5_23) (hfr := (Nat.le_trans (by decide) hFn)) (hstk := rfl) (hcat := Nat.le_of_ble_eq_true rfl) (hd := (m_dec e5_echo 17 rfl)) (k1 := fun r7 h6 => ?_)
    refine ms_iload_n (pc := 28) S 2 rfl rfl (m_dec e5_echo 18 rfl) ?_
    refine ms_imul (pc := 29) S (m_dec e5_echo 19 rfl) ?_
    refine ms_sipush (pc := 30) S (m_dec e5_echo 20 rfl) rfl ?_
    refine ms_idivN (pc := 33) S (by decide) (m_dec e5_echo 21 rfl) ?_
    refine ms_iadd (pc := 34) S (m_dec e5_echo 22 rfl) ?_
    refine ms_grd fun g8 => ?_
    refine ms_callVv (pc := 35) S hF (vals := [m_i v3, m_i (r4 + (Int.tdiv (m_w (r7 * v2)) 256))]) (st := []) (hc := vw_5) (hci := by decide) (hcy := rfl) (ht := g8) (hC := (k5_set _ _ v0 v3 (r4 + (Int.tdiv (m_w (r7 * v2)) 256)) h6)) (hM := lm_X5_27) (hfr := (Nat.le_trans (by decide) hFn)) (hstk := rfl) (hcat := Nat.le_of_ble_eq_true rfl) (hd := (m_dec e5_echo 23 rfl)) (k1 := fun h9 => ?_)
    refine ms_iinc (pc := 38) S (L' := [(0, m_r v0), (1, m_i v1), (2, m_i v2), (3, m_i (v3 + 1))]) 3 rfl [1, 2, 3, 0] rfl (m_lt hN rfl) (m_dec e5_echo 24 rfl) ?_
    refine ms_goto (pc := 41) S (m_dec e5_echo 25 rfl) rfl ?_
    exact ih (v3 + 1) h9
  · exact ms_ret (pc := 44) E (m_dec e5_echo 26 rfl) rfl
set_option maxHeartbeats 4000000 in
set_option maxRecDepth 20000 in
theorem s5_echo {Y : m_Y Unit} (S : m_Std Y RX5 cX5_echo) (E : m_End Y cX5_echo .return_ (fun _ => [])) {F : Nat} (hF : m_Rm Y F) (hFn : 3 ≤ F) (hN : Y.2.2.2.1 = 4) (v0 v1 v2 : Int) (h : m_H) : m_Sim Y 0 [(0, m_r v0), (1, m_i v1), (2, m_i v2)] [] h (t5_echo v0 v1 v2 h) := by
  unfold t5_echo
  refine ms_iload_n (pc := 0) S 1 rfl rfl (m_dec e5_echo 0 rfl) ?_
  refine ms_iconst (pc := 1) S (m_dec e5_echo 1 rfl) ?_
  refine ms_mmax (pc := 2) S hF (Nat.le_trans (by decide) hFn) ⟨w_484, w_485, w_136, w_486⟩ (Nat.le_of_ble_eq_true rfl) (m_dec e5_echo 2 rfl) ?_
  refine ms_nm (st := fun x1 => [m_i x1]) fun x1 => ?_
  refine ms_istore_n (pc := 5) S (L' := [(0, m_r v0), (1, m_i v1), (2, m_i v2), (3, m_i x1)]) [1, 2, 3, 0] rfl rfl (m_lt hN rfl) (m_dec e5_echo 3 rfl) ?_
  exact s5_echo_c6 S E hF hFn hN v0 v1 v2 x1 h
theorem k5_echo (l : Launch) (d : m_D) (v0 v1 v2 : Int) (h : m_H) : m_Con l d yX5_echo cX5_echo 4 none 3 (fun _ => []) [m_r v0, m_i v1, m_i v2] h (t5_echo v0 v1 v2 h) :=
  m_con2 (by decide +kernel) (Nat.le_of_ble_eq_true rfl) (fun Y hN hRm hr hI S hfin => s5_echo S (m_end_v S hr hfin) hRm (Nat.le_refl _) hN v0 v1 v2 h)
set_option maxRecDepth 100000 in
theorem e5_fillFiltered : ∀ q ∈ ([(0, .aload_n 0, 1), (1, .aload_n 1, 1), (2, .getfield 13, 3), (5, .invokevirtual 31, 3), (8, .iconst 0, 1), (9, .istore 5, 2), (11, .iload 5, 2), (13, .aload_n 0, 1), (14, .getfield 13, 3), (17, .if_icmp .ge 53, 3), (20, .aload_n 1, 1), (21, .iload 5, 2), (23, .iconst 1, 1), (24, .isub, 1), (25, .invokevirtual 23, 3), (28, .iload_n 2, 1), (29, .imul, 1), (30, .aload_n 1, 1), (31, .iload 5, 2), (33, .invokevirtual 23, 3), (36, .iload_n 3, 1), (37, .imul, 1), (38, .iadd, 1), (39, .aload_n 1, 1), (40, .iload 5, 2), (42, .iconst 1, 1), (43, .iadd, 1), (44, .invokevirtual 23, 3), (47, .iload 4, 2), (49, .imul, 1), (50, .iadd, 1), (51, .istore 6, 2), (53, .aload_n 0, 1), (54, .iload 5, 2), (56, .iload 6, 2), (58, .bipush 64, 2), (60, .idiv, 1), (61, .invokevirtual 27, 3), (64, .iinc 5 1, 3), (67, .goto (-56), 3), (70, .return_, 1)] : List (Nat × Instr × Nat)), decode cX5_fillFiltered q.1 = .ok q.2 := by decide +kernel
set_option maxHeartbeats 4000000 in
set_option maxRecDepth 20000 in
theorem s5_fillFiltered_c11 {Y : m_Y Unit} (S : m_Std Y RX5 cX5_fillFiltered) (E : m_End Y cX5_fillFiltered .return_ (fun _ => [])) {F : Nat} (hF : m_Rm Y F) (hFn : 3 ≤ F) (hN : Y.2.2.2.1 = 7) : ∀ (v0 v1 v2 v3 v4 v5 : Int) (h : m_H), m_Sim Y 11 [(0, m_r v0), (1, m_r v1), (2, m_i v2), (3, m_i v3), (4, m_i v4), (5, m_i v5)] [] h (t5_fillFiltered_c11 v0 v1 v2 v3 v4 v5 h) := by
  intro v0 v1 v2 v3 v4 v5 h
  refine ms_all fun r e => ?_
  refine t5_fillFiltered_c11.partial_correctness v0 v1 v2 v3 v4 (motive := fun v5 h r => m_Sim Y 11 [(0, m_r v0), (1, m_r v1), (2, m_i v2), (3, m_i v3), (4, m_i v4), (5, m_i v5)] [] h (some r)) ?_ v5 h r e
  intro f ih v5 h r e
  have ih : ∀ (v5 : Int) (h : m_H), m_Sim Y 11 [(0, m_r v0), (1, m_r v1), (2, m_i v2), (3, m_i v3), (4, m_i v4), (5, m_i v5)] [] h (f v5 h) := fun v5 h => ms_all fun r e => ih v5 h r e
  refine ms_use ?_ e
  clear e r
  refine ms_iload (pc := 11) S 5 rfl (m_dec e5_fillFiltered 6 rfl) ?_
  refine ms_aload_n (pc := 13) S 0 rfl rfl (m_dec e5_fillFiltered 7 rfl) ?_
  refine ms_grd fun g1 => ?_
  refine ms_getf (pc := 14) S lf_X5_13 rfl (m_dec e5_fillFiltered 8 rfl) g1 ?_
  refine ms_icmp_ge (pc := 17) S (m_dec e5_fillFiltered 9 rfl) rfl (fun q2 => ?_) (fun q2 => ?_)
  · refine ms_aload_n (pc := 20) S 1 rfl rfl (m_dec e5_fillFiltered 10 rfl) ?_
    refine ms_iload (pc := 21) S 5 rfl (m_dec e5_fillFiltered 11 rfl) ?_
    refine ms_iconst (pc := 23) S (m_dec e5_fillFiltered 12 rfl) ?_
    refine ms_isub (pc := 24) S (m_dec e5_fillFiltered 13 rfl) ?_
    refine ms_grd fun g3 => ?_
    refine ms_callVi (pc := 25) S hF (vals := [m_i (v5 - 1)]) (st := []) (hc := vw_5) (hci := by decide) (hcy := rfl) (ht := g3) (hC := (k5_get _ _ v1 (v5 - 1) h)) (hM := lm_X5_23) (hfr := (Nat.le_trans (by decide) hFn)) (hstk := rfl) (hcat := Nat.le_of_ble_eq_true rfl) (hd := (m_dec e5_fillFiltered 14 rfl)) (k1 := fun r5 h4 => ?_)
    refine ms_iload_n (pc := 28) S 2 rfl rfl (m_dec e5_fillFiltered 15 rfl) ?_
    refine ms_imul (pc := 29) S (m_dec e5_fillFiltered 16 rfl) ?_
    refine ms_aload_n (pc := 30) S 1 rfl rfl (m_dec e5_fillFiltered 17 rfl) ?_
    refine ms_iload (pc := 31) S 5 rfl (m_dec e5_fillFiltered 18 rfl) ?_
    refine ms_grd fun g6 => ?_
    refine ms_callVi (pc := 33) S hF (vals := [m_i v5]) (st := [m_i (r5 * v2)]) (hc := vw_5) (hci := by decide) (hcy := rfl) (ht := g6) (hC := (k5_get _ _ v1 v5 h4)) (hM := lm_X5_23) (hfr := (Nat.le_trans (by decide) hFn)) (hstk := rfl) (hcat := Nat.le_of_ble_eq_true rfl) (hd := (m_dec e5_fillFiltered 19 rfl)) (k1 := fun r8 h7 => ?_)
    refine ms_iload_n (pc := 36) S 3 rfl rfl (m_dec e5_fillFiltered 20 rfl) ?_
    refine ms_imul (pc := 37) S (m_dec e5_fillFiltered 21 rfl) ?_
    refine ms_iadd (pc := 38) S (m_dec e5_fillFiltered 22 rfl) ?_
    refine ms_aload_n (pc := 39) S 1 rfl rfl (m_dec e5_fillFiltered 23 rfl) ?_
    refine ms_iload (pc := 40) S 5 rfl (m_dec e5_fillFiltered 24 rfl) ?_
    refine ms_iconst (pc := 42) S (m_dec e5_fillFiltered 25 rfl) ?_
    refine ms_iadd (pc := 43) S (m_dec e5_fillFiltered 26 rfl) ?_
    refine ms_grd fun g9 => ?_
    refine ms_callVi (pc := 44) S hF (vals := [m_i (v5 + 1)]) (st := [m_i ((r5 * v2) + (r8 * v3))]) (hc := vw_5) (hci := by decide) (hcy := rfl) (ht := g9) (hC := (k5_get _ _ v1 (v5 + 1) h7)) (hM := lm_X5_23) (hfr := (Nat.le_trans (by decide) hFn)) (hstk := rfl) (hcat := Nat.le_of_ble_eq_true rfl) (hd := (m_dec e5_fillFiltered 27 rfl)) (k1 := fun r11 h10 => ?_)
    refine ms_iload (pc := 47) S 4 rfl (m_dec e5_fillFiltered 28 rfl) ?_
    refine ms_imul (pc := 49) S (m_dec e5_fillFiltered 29 rfl) ?_
    refine ms_iadd (pc := 50) S (m_dec e5_fillFiltered 30 rfl) ?_
    refine ms_nm (st := fun x12 => [m_i x12]) fun x12 => ?_
    refine ms_istore (pc := 51) S (L' := [(0, m_r v0), (1, m_r v1), (2, m_i v2), (3, m_i v3), (4, m_i v4), (5, m_i v5), (6, m_i x12)]) [1, 2, 3, 4, 5, 6, 0] rfl (m_lt hN rfl) (m_dec e5_fillFiltered 31 rfl) ?_
    refine ms_aload_n (pc := 53) S 0 rfl rfl (m_dec e5_fillFiltered 32 rfl) ?_
    refine ms_iload (pc := 54) S 5 rfl (m_dec e5_fillFiltered 33 rfl) ?_
    refine ms_iload (pc := 56) S 6 rfl (m_dec e5_fillFiltered 34 rfl) ?_
    refine ms_bipush (pc := 58) S (m_dec e5_fillFiltered 35 rfl) rfl ?_
    refine ms_idivN (pc := 60) S (by decide) (m_dec e5_fillFiltered 36 rfl) ?_
    refine ms_grd fun g13 => ?_
    refine ms_callVv (pc := 61) S hF (vals := [m_i v5, m_i (Int.tdiv (m_w x12) 64)]) (st := []) (hc := vw_5) (hci := by decide) (hcy := rfl) (ht := g13) (hC := (k5_set _ _ v0 v5 (Int.tdiv (m_w x12) 64) h10)) (hM := lm_X5_27) (hfr := (Nat.le_trans (by decide) hFn)) (hstk := rfl) (hcat := Nat.le_of_ble_eq_true rfl) (hd := (m_dec e5_fillFiltered 37 rfl)) (k1 := fun h14 => ?_)
    refine ms_iinc (pc := 64) S (L' := [(0, m_r v0), (1, m_r v1), (2, m_i v2), (3, m_i v3), (4, m_i v4), (5, m_i (v5 + 1))]) 5 rfl [1, 2, 3, 4, 5, 0] rfl (m_lt hN rfl) (m_dec e5_fillFiltered 38 rfl) ?_
    refine ms_goto (pc := 67) S (m_dec e5_fillFiltered 39 rfl) rfl ?_
    exact ih (v5 + 1) h14
  · exact ms_ret (pc := 70) E (m_dec e5_fillFiltered 40 rfl) rfl
set_option maxHeartbeats 4000000 in
set_option maxRecDepth 20000 in
theorem s5_fillFiltered {Y : m_Y Unit} (S : m_Std Y RX5 cX5_fillFiltered) (E : m_End Y cX5_fillFiltered .return_ (fun _ => [])) {F : Nat} (hF : m_Rm Y F) (hFn : 3 ≤ F) (hN : Y.2.2.2.1 = 7) (v0 v1 v2 v3 v4 : Int) (h : m_H) : m_Sim Y 0 [(0, m_r v0), (1, m_r v1), (2, m_i v2), (3, m_i v3), (4, m_i v4)] [] h (t5_fillFiltered v0 v1 v2 v3 v4 h) := by
  unfold t5_fillFiltered
  refine ms_aload_n (pc := 0) S 0 rfl rfl (m_dec e5_fillFiltered 0 rfl) ?_
  refine ms_aload_n (pc := 1) S 1 rfl rfl (m_dec e5_fillFiltered 1 rfl) ?_
  refine ms_grd fun g1 => ?_
  refine ms_getf (pc := 2) S lf_X5_13 rfl (m_dec e5_fillFiltered 2 rfl) g1 ?_
  refine ms_grd fun g2 => ?_
  refine ms_callVv (pc := 5) S hF (vals := [m_i (m_g h v1 1)]) (st := []) (hc := vw_5) (hci := by decide) (hcy := rfl) (ht := g2) (hC := (k5_resize _ _ v0 (m_g h v1 1) h)) (hM := lm_X5_31) (hfr := (Nat.le_trans (by decide) hFn)) (hstk := rfl) (hcat := Nat.le_of_ble_eq_true rfl) (hd := (m_dec e5_fillFiltered 3 rfl)) (k1 := fun h3 => ?_)
  refine ms_iconst (pc := 8) S (m_dec e5_fillFiltered 4 rfl) ?_
  refine ms_istore (pc := 9) S (L' := [(0, m_r v0), (1, m_r v1), (2, m_i v2), (3, m_i v3), (4, m_i v4), (5, m_i 0)]) [1, 2, 3, 4, 5, 0] rfl (m_lt hN rfl) (m_dec e5_fillFiltered 5 rfl) ?_
  exact s5_fillFiltered_c11 S E hF hFn hN v0 v1 v2 v3 v4 0 h3
theorem k5_fillFiltered (l : Launch) (d : m_D) (v0 v1 v2 v3 v4 : Int) (h : m_H) : m_Con l d yX5_fillFiltered cX5_fillFiltered 7 none 3 (fun _ => []) [m_r v0, m_r v1, m_i v2, m_i v3, m_i v4] h (t5_fillFiltered v0 v1 v2 v3 v4 h) :=
  m_con2 (by decide +kernel) (Nat.le_of_ble_eq_true rfl) (fun Y hN hRm hr hI S hfin => s5_fillFiltered S (m_end_v S hr hfin) hRm (Nat.le_refl _) hN v0 v1 v2 v3 v4 h)
set_option maxRecDepth 100000 in
theorem e5_fadeIn : ∀ q ∈ ([(0, .iconst 0, 1), (1, .istore_n 2, 1), (2, .iload_n 2, 1), (3, .iload_n 1, 1), (4, .if_icmp .ge 23, 3), (7, .aload_n 0, 1), (8, .iload_n 2, 1), (9, .aload_n 0, 1), (10, .iload_n 2, 1), (11, .invokevirtual 23, 3), (14, .iload_n 2, 1), (15, .imul, 1), (16, .iload_n 1, 1), (17, .idiv, 1), (18, .invokevirtual 27, 3), (21, .iinc 2 1, 3), (24, .goto (-22), 3), (27, .return_, 1)] : List (Nat × Instr × Nat)), decode cX5_fadeIn q.1 = .ok q.2 := by decide +kernel
set_option maxHeartbeats 4000000 in
set_option maxRecDepth 20000 in
theorem s5_fadeIn_c2 {Y : m_Y Unit} (S : m_Std Y RX5 cX5_fadeIn) (E : m_End Y cX5_fadeIn .return_ (fun _ => [])) {F : Nat} (hF : m_Rm Y F) (hFn : 3 ≤ F) (hN : Y.2.2.2.1 = 3) : ∀ (v0 v1 v2 : Int) (h : m_H), m_Sim Y 2 [(0, m_r v0), (1, m_i v1), (2, m_i v2)] [] h (t5_fadeIn_c2 v0 v1 v2 h) := by
  intro v0 v1 v2 h
  refine ms_all fun r e => ?_
  refine t5_fadeIn_c2.partial_correctness v0 v1 (motive := fun v2 h r => m_Sim Y 2 [(0, m_r v0), (1, m_i v1), (2, m_i v2)] [] h (some r)) ?_ v2 h r e
  intro f ih v2 h r e
  have ih : ∀ (v2 : Int) (h : m_H), m_Sim Y 2 [(0, m_r v0), (1, m_i v1), (2, m_i v2)] [] h (f v2 h) := fun v2 h => ms_all fun r e => ih v2 h r e
  refine ms_use ?_ e
  clear e r
  refine ms_iload_n (pc := 2) S 2 rfl rfl (m_dec e5_fadeIn 2 rfl) ?_
  refine ms_iload_n (pc := 3) S 1 rfl rfl (m_dec e5_fadeIn 3 rfl) ?_
  refine ms_icmp_ge (pc := 4) S (m_dec e5_fadeIn 4 rfl) rfl (fun q1 => ?_) (fun q1 => ?_)
  · refine ms_aload_n (pc := 7) S 0 rfl rfl (m_dec e5_fadeIn 5 rfl) ?_
    refine ms_iload_n (pc := 8) S 2 rfl rfl (m_dec e5_fadeIn 6 rfl) ?_
    refine ms_aload_n (pc := 9) S 0 rfl rfl (m_dec e5_fadeIn 7 rfl) ?_
    refine ms_iload_n (pc := 10) S 2 rfl rfl (m_dec e5_fadeIn 8 rfl) ?_
    refine ms_grd fun g2 => ?_
    refine ms_callVi (pc := 11) S hF (vals := [m_i v2]) (st := [m_i v2, m_r v0]) (hc := vw_5) (hci := by decide) (hcy := rfl) (ht := g2) (hC := (k5_get _ _ v0 v2 h)) (hM := lm_X5_23) (hfr := (Nat.le_trans (by decide) hFn)) (hstk := rfl) (hcat := Nat.le_of_ble_eq_true rfl) (hd := (m_dec e5_fadeIn 9 rfl)) (k1 := fun r4 h3 => ?_)
    refine ms_iload_n (pc := 14) S 2 rfl rfl (m_dec e5_fadeIn 10 rfl) ?_
    refine ms_imul (pc := 15) S (m_dec e5_fadeIn 11 rfl) ?_
    refine ms_iload_n (pc := 16) S 1 rfl rfl (m_dec e5_fadeIn 12 rfl) ?_
    refine ms_idiv (pc := 17) S (m_dec e5_fadeIn 13 rfl) ?_
    refine ms_grd fun g5 => ?_
    refine ms_callVv (pc := 18) S hF (vals := [m_i v2, m_i (Int.tdiv (m_w (r4 * v2)) (m_w v1))]) (st := []) (hc := vw_5) (hci := by decide) (hcy := rfl) (ht := g5) (hC := (k5_set _ _ v0 v2 (Int.tdiv (m_w (r4 * v2)) (m_w v1)) h3)) (hM := lm_X5_27) (hfr := (Nat.le_trans (by decide) hFn)) (hstk := rfl) (hcat := Nat.le_of_ble_eq_true rfl) (hd := (m_dec e5_fadeIn 14 rfl)) (k1 := fun h6 => ?_)
    refine ms_iinc (pc := 21) S (L' := [(0, m_r v0), (1, m_i v1), (2, m_i (v2 + 1))]) 2 rfl [1, 2, 0] rfl (m_lt hN rfl) (m_dec e5_fadeIn 15 rfl) ?_
    refine ms_goto (pc := 24) S (m_dec e5_fadeIn 16 rfl) rfl ?_
    exact ih (v2 + 1) h6
  · exact ms_ret (pc := 27) E (m_dec e5_fadeIn 17 rfl) rfl
set_option maxHeartbeats 4000000 in
set_option maxRecDepth 20000 in
theorem s5_fadeIn {Y : m_Y Unit} (S : m_Std Y RX5 cX5_fadeIn) (E : m_End Y cX5_fadeIn .return_ (fun _ => [])) {F : Nat} (hF : m_Rm Y F) (hFn : 3 ≤ F) (hN : Y.2.2.2.1 = 3) (v0 v1 : Int) (h : m_H) : m_Sim Y 0 [(0, m_r v0), (1, m_i v1)] [] h (t5_fadeIn v0 v1 h) := by
  unfold t5_fadeIn
  refine ms_iconst (pc := 0) S (m_dec e5_fadeIn 0 rfl) ?_
  refine ms_istore_n (pc := 1) S (L' := [(0, m_r v0), (1, m_i v1), (2, m_i 0)]) [1, 2, 0] rfl rfl (m_lt hN rfl) (m_dec e5_fadeIn 1 rfl) ?_
  exact s5_fadeIn_c2 S E hF hFn hN v0 v1 0 h
theorem k5_fadeIn (l : Launch) (d : m_D) (v0 v1 : Int) (h : m_H) : m_Con l d yX5_fadeIn cX5_fadeIn 3 none 3 (fun _ => []) [m_r v0, m_i v1] h (t5_fadeIn v0 v1 h) :=
  m_con2 (by decide +kernel) (Nat.le_of_ble_eq_true rfl) (fun Y hN hRm hr hI S hfin => s5_fadeIn S (m_end_v S hr hfin) hRm (Nat.le_refl _) hN v0 v1 h)
set_option maxRecDepth 100000 in
theorem e5_fadeOut : ∀ q ∈ ([(0, .iconst 0, 1), (1, .istore_n 2, 1), (2, .iload_n 2, 1), (3, .iload_n 1, 1), (4, .if_icmp .ge 32, 3), (7, .aload_n 0, 1), (8, .getfield 13, 3), (11, .iconst 1, 1), (12, .isub, 1), (13, .iload_n 2, 1), (14, .isub, 1), (15, .istore_n 3, 1), (16, .aload_n 0, 1), (17, .iload_n 3, 1), (18, .aload_n 0, 1), (19, .iload_n 3, 1), (20, .invokevirtual 23, 3), (23, .iload_n 2, 1), (24, .imul, 1), (25, .iload_n 1, 1), (26, .idiv, 1), (27, .invokevirtual 27, 3), (30, .iinc 2 1, 3), (33, .goto (-31), 3), (36, .return_, 1)] : List (Nat × Instr × Nat)), decode cX5_fadeOut q.1 = .ok q.2 := by decide +kernel
set_option maxHeartbeats 4000000 in
set_option maxRecDepth 20000 in
theorem s5_fadeOut_c2 {Y : m_Y Unit} (S : m_Std Y RX5 cX5_fadeOut) (E : m_End Y cX5_fadeOut .return_ (fun _ => [])) {F : Nat} (hF : m_Rm Y F) (hFn : 3 ≤ F) (hN : Y.2.2.2.1 = 4) : ∀ (v0 v1 v2 : Int) (h : m_H), m_Sim Y 2 [(0, m_r v0), (1, m_i v1), (2, m_i v2)] [] h (t5_fadeOut_c2 v0 v1 v2 h) := by
  intro v0 v1 v2 h
  refine ms_all fun r e => ?_
  refine t5_fadeOut_c2.partial_correctness v0 v1 (motive := fun v2 h r => m_Sim Y 2 [(0, m_r v0), (1, m_i v1), (2, m_i v2)] [] h (some r)) ?_ v2 h r e
  intro f ih v2 h r e
  have ih : ∀ (v2 : Int) (h : m_H), m_Sim Y 2 [(0, m_r v0), (1, m_i v1), (2, m_i v2)] [] h (f v2 h) := fun v2 h => ms_all fun r e => ih v2 h r e
  refine ms_use ?_ e
  clear e r
  refine ms_iload_n (pc := 2) S 2 rfl rfl (m_dec e5_fadeOut 2 rfl) ?_
  refine ms_iload_n (pc := 3) S 1 rfl rfl (m_dec e5_fadeOut 3 rfl) ?_
  refine ms_icmp_ge (pc := 4) S (m_dec e5_fadeOut 4 rfl) rfl (fun q1 => ?_) (fun q1 => ?_)
  · refine ms_aload_n (pc := 7) S 0 rfl rfl (m_dec e5_fadeOut 5 rfl) ?_
    refine ms_grd fun g2 => ?_
    refine ms_getf (pc := 8) S lf_X5_13 rfl (m_dec e5_fadeOut 6 rfl) g2 ?_
    refine ms_iconst (pc := 11) S (m_dec e5_fadeOut 7 rfl) ?_
    refine ms_isub (pc := 12) S (m_dec e5_fadeOut 8 rfl) ?_
    refine ms_iload_n (pc := 13) S 2 rfl rfl (m_dec e5_fadeOut 9 rfl) ?_
    refine ms_isub (pc := 14) S (m_dec e5_fadeOut 10 rfl) ?_
    refine ms_nm (st := fun x3 => [m_i x3]) fun x3 => ?_
    refine ms_istore_n (pc := 15) S (L' := [(0, m_r v0), (1, m_i v1), (2, m_i v2), (3, m_i x3)]) [1, 2, 3, 0] rfl rfl (m_lt hN rfl) (m_dec e5_fadeOut 11 rfl) ?_
    refine ms_aload_n (pc := 16) S 0 rfl rfl (m_dec e5_fadeOut 12 rfl) ?_
    refine ms_iload_n (pc := 17) S 3 rfl rfl (m_dec e5_fadeOut 13 rfl) ?_
    refine ms_aload_n (pc := 18) S 0 rfl rfl (m_dec e5_fadeOut 14 rfl) ?_
    refine ms_iload_n (pc := 19) S 3 rfl rfl (m_dec e5_fadeOut 15 rfl) ?_
    refine ms_callVi (pc := 20) S hF (vals := [m_i x3]) (st := [m_i x3, m_r v0]) (hc := vw_5) (hci := by decide) (hcy := rfl) (ht := g2) (hC := (k5_get _ _ v0 x3 h)) (hM := lm_X5_23) (hfr := (Nat.le_trans (by decide) hFn)) (hstk := rfl) (hcat := Nat.le_of_ble_eq_true rfl) (hd := (m_dec e5_fadeOut 16 rfl)) (k1 := fun r5 h4 => ?_)
    refine ms_iload_n (pc := 23) S 2 rfl rfl (m_dec e5_fadeOut 17 rfl) ?_
    refine ms_imul (pc := 24) S (m_dec e5_fadeOut 18 rfl) ?_
    refine ms_iload_n (pc := 25) S 1 rfl rfl (m_dec e5_fadeOut 19 rfl) ?_
    refine ms_idiv (pc := 26) S (m_dec e5_fadeOut 20 rfl) ?_
    refine ms_grd fun g6 => ?_
    refine ms_callVv (pc := 27) S hF (vals := [m_i x3, m_i (Int.tdiv (m_w (r5 * v2)) (m_w v1))]) (st := []) (hc := vw_5) (hci := by decide) (hcy := rfl) (ht := g6) (hC := (k5_set _ _ v0 x3 (Int.tdiv (m_w (r5 * v2)) (m_w v1)) h4)) (hM := lm_X5_27) (hfr := (Nat.le_trans (by decide) hFn)) (hstk := rfl) (hcat := Nat.le_of_ble_eq_true rfl) (hd := (m_dec e5_fadeOut 21 rfl)) (k1 := fun h7 => ?_)
    refine ms_iinc (pc := 30) S (L' := [(0, m_r v0), (1, m_i v1), (2, m_i (v2 + 1))]) 2 rfl [1, 2, 0] rfl (m_lt hN rfl) (m_dec e5_fadeOut 22 rfl) ?_
    refine ms_goto (pc := 33) S (m_dec e5_fadeOut 23 rfl) rfl ?_
    exact ih (v2 + 1) h7
  · exact ms_ret (pc := 36) E (m_dec e5_fadeOut 24 rfl) rfl
set_option maxHeartbeats 4000000 in
set_option maxRecDepth 20000 in
theorem s5_fadeOut {Y : m_Y Unit} (S : m_Std Y RX5 cX5_fadeOut) (E : m_End Y cX5_fadeOut .return_ (fun _ => [])) {F : Nat} (hF : m_Rm Y F) (hFn : 3 ≤ F) (hN : Y.2.2.2.1 = 4) (v0 v1 : Int) (h : m_H) : m_Sim Y 0 [(0, m_r v0), (1, m_i v1)] [] h (t5_fadeOut v0 v1 h) := by
  unfold t5_fadeOut
  refine ms_iconst (pc := 0) S (m_dec e5_fadeOut 0 rfl) ?_
  refine ms_istore_n (pc := 1) S (L' := [(0, m_r v0), (1, m_i v1), (2, m_i 0)]) [1, 2, 0] rfl rfl (m_lt hN rfl) (m_dec e5_fadeOut 1 rfl) ?_
  exact s5_fadeOut_c2 S E hF hFn hN v0 v1 0 h
theorem k5_fadeOut (l : Launch) (d : m_D) (v0 v1 : Int) (h : m_H) : m_Con l d yX5_fadeOut cX5_fadeOut 4 none 3 (fun _ => []) [m_r v0, m_i v1] h (t5_fadeOut v0 v1 h) :=
  m_con2 (by decide +kernel) (Nat.le_of_ble_eq_true rfl) (fun Y hN hRm hr hI S hfin => s5_fadeOut S (m_end_v S hr hfin) hRm (Nat.le_refl _) hN v0 v1 h)
set_option maxRecDepth 100000 in
theorem e6_init : ∀ q ∈ ([(0, .aload_n 0, 1), (1, .invokespecial 3, 3), (4, .aload_n 0, 1), (5, .bipush 40, 2), (7, .newarray .int, 2), (9, .putfield 9, 3), (12, .aload_n 0, 1), (13, .aload_n 1, 1), (14, .putfield 15, 3), (17, .aload_n 0, 1), (18, .iload_n 2, 1), (19, .putfield 18, 3), (22, .return_, 1)] : List (Nat × Instr × Nat)), decode cX6_init q.1 = .ok q.2 := by decide +kernel
set_option maxHeartbeats 4000000 in
set_option maxRecDepth 20000 in
theorem s6_init {Y : m_Y Unit} (S : m_Std Y RX6 cX6_init) (E : m_End Y cX6_init .return_ (fun _ => [])) {F : Nat} (hF : m_Rm Y F) (hFn : 1 ≤ F) (hN : Y.2.2.2.1 = 3) (hI : Y.2.2.2.2.2 → Y.2.1.2.2.2.2.2.2.2.2.1.name = "<init>") (v0 v1 v2 : Int) (h : m_H) : m_Sim Y 0 [(0, m_r v0), (1, m_r v1), (2, m_i v2)] [] h (t6_init v0 v1 v2 h) := by
  unfold t6_init
  refine ms_aload_n (pc := 0) S 0 rfl rfl (m_dec e6_init 0 rfl) ?_
  refine ms_grd fun g1 => ?_
  refine ms_obj (pc := 1) S hF (Nat.le_trans (by decide) hFn) lo_X6_3 g1 (Nat.le_of_ble_eq_true rfl) (m_dec e6_init 1 rfl) ?_
  refine ms_aload_n (pc := 4) S 0 rfl rfl (m_dec e6_init 2 rfl) ?_
  refine ms_bipush (pc := 5) S (m_dec e6_init 3 rfl) rfl ?_
  refine ms_newa (pc := 7) S 20 (ty := .int) rfl (by decide) (fun _ => rfl) (fun _ => rfl) (by decide) (fun _ _ z => z) w_208 (by decide) (m_dec e6_init 4 rfl) (fun h2 => ?_)
  refine ms_grd fun g3 => ?_
  refine ms_putf (pc := 9) S lp_X6_9 (fun _ hf => hI hf) rfl (fun d => m_fitA _ d _) (m_dec e6_init 5 rfl) g3 (fun h4 => ?_)
  refine ms_aload_n (pc := 12) S 0 rfl rfl (m_dec e6_init 6 rfl) ?_
  refine ms_aload_n (pc := 13) S 1 rfl rfl (m_dec e6_init 7 rfl) ?_
  refine ms_grd fun g5 => ?_
  refine ms_putf (pc := 14) S lp_X6_15 (fun _ hf => hI hf) rfl (fun d => m_fitA _ d _) (m_dec e6_init 8 rfl) g5 (fun h6 => ?_)
  refine ms_aload_n (pc := 17) S 0 rfl rfl (m_dec e6_init 9 rfl) ?_
  refine ms_iload_n (pc := 18) S 2 rfl rfl (m_dec e6_init 10 rfl) ?_
  refine ms_grd fun g7 => ?_
  refine ms_putf (pc := 19) S lp_X6_18 (fun z => by cases z) rfl (fun d => m_fitI d _) (m_dec e6_init 11 rfl) g7 (fun h8 => ?_)
  exact ms_ret (pc := 22) E (m_dec e6_init 12 rfl) rfl
theorem k6_init (l : Launch) (d : m_D) (v0 v1 v2 : Int) (h : m_H) : m_Con l d yX6_init cX6_init 3 none 1 (fun _ => []) [m_r v0, m_r v1, m_i v2] h (t6_init v0 v1 v2 h) :=
  m_con2 (by decide +kernel) (Nat.le_of_ble_eq_true rfl) (fun Y hN hRm hr hI S hfin => s6_init S (m_end_v S hr hfin) hRm (Nat.le_refl _) hN hI v0 v1 v2 h)
set_option maxRecDepth 100000 in
theorem e6_cell : ∀ q ∈ ([(0, .iload_n 1, 1), (1, .bipush 8, 2), (3, .imul, 1), (4, .iload_n 2, 1), (5, .iadd, 1), (6, .istore_n 3, 1), (7, .iload_n 1, 1), (8, .ifCond .lt 33, 3), (11, .iload_n 1, 1), (12, .aload_n 0, 1), (13, .getfield 18, 3), (16, .if_icmp .ge 25, 3), (19, .iload_n 3, 1), (20, .ifCond .lt 21, 3), (23, .iload_n 3, 1), (24, .aload_n 0, 1), (25, .getfield 15, 3), (28, .arraylength, 1), (29, .if_icmp .ge 12, 3), (32, .aload_n 0, 1), (33, .getfield 15, 3), (36, .iload_n 3, 1), (37, .iaload, 1), (38, .goto 4, 3), (41, .iconst (-1), 1), (42, .ireturn, 1)] : List (Nat × Instr × Nat)), decode cX6_cell q.1 = .ok q.2 := by decide +kernel
set_option maxHeartbeats 4000000 in
set_option maxRecDepth 20000 in
theorem s6_cell {Y : m_Y Int} (S : m_Std Y RX6 cX6_cell) (E : m_End Y cX6_cell .ireturn (fun r => [m_i r])) {F : Nat} (hF : m_Rm Y F) (hFn : 0 ≤ F) (hN : Y.2.2.2.1 = 4) (v0 v1 v2 : Int) (h : m_H) : m_Sim Y 0 [(0, m_r v0), (1, m_i v1), (2, m_i v2)] [] h (t6_cell v0 v1 v2 h) := by
  unfold t6_cell
  refine ms_iload_n (pc := 0) S 1 rfl rfl (m_dec e6_cell 0 rfl) ?_
  refine ms_bipush (pc := 1) S (m_dec e6_cell 1 rfl) rfl ?_
  refine ms_imul (pc := 3) S (m_dec e6_cell 2 rfl) ?_
  refine ms_iload_n (pc := 4) S 2 rfl rfl (m_dec e6_cell 3 rfl) ?_
  refine ms_iadd (pc := 5) S (m_dec e6_cell 4 rfl) ?_
  refine ms_nm (st := fun x1 => [m_i x1]) fun x1 => ?_
  refine ms_istore_n (pc := 6) S (L' := [(0, m_r v0), (1, m_i v1), (3, m_i x1)]) [1, 2, 0] rfl rfl (m_lt hN rfl) (m_dec e6_cell 5 rfl) ?_
  refine ms_iload_n (pc := 7) S 1 rfl rfl (m_dec e6_cell 6 rfl) ?_
  refine ms_if_lt (pc := 8) S (m_dec e6_cell 7 rfl) rfl (fun q2 => ?_) (fun q2 => ?_)
  · refine ms_iconst (pc := 41) S (m_dec e6_cell 24 rfl) ?_
    exact ms_ret (pc := 42) E (m_dec e6_cell 25 rfl) rfl
  · refine ms_iload_n (pc := 11) S 1 rfl rfl (m_dec e6_cell 8 rfl) ?_
    refine ms_aload_n (pc := 12) S 0 rfl rfl (m_dec e6_cell 9 rfl) ?_
    refine ms_grd fun g3 => ?_
    refine ms_getf (pc := 13) S lf_X6_18 rfl (m_dec e6_cell 10 rfl) g3 ?_
    refine ms_icmp_ge (pc := 16) S (m_dec e6_cell 11 rfl) rfl (fun q4 => ?_) (fun q4 => ?_)
    · refine ms_iload_n (pc := 19) S 2 rfl rfl (m_dec e6_cell 12 rfl) ?_
      refine ms_if_lt (pc := 20) S (m_dec e6_cell 13 rfl) rfl (fun q5 => ?_) (fun q5 => ?_)
      · refine ms_iconst (pc := 41) S (m_dec e6_cell 24 rfl) ?_
        exact ms_ret (pc := 42) E (m_dec e6_cell 25 rfl) rfl
      · refine ms_iload_n (pc := 23) S 2 rfl rfl (m_dec e6_cell 14 rfl) ?_
        refine ms_aload_n (pc := 24) S 0 rfl rfl (m_dec e6_cell 15 rfl) ?_
        refine ms_getf (pc := 25) S lf_X6_15 rfl (m_dec e6_cell 16 rfl) g3 ?_
        refine ms_grd fun g6 => ?_
        refine ms_alen (pc := 28) S g6 (m_dec e6_cell 17 rfl) ?_
        refine ms_icmp_ge (pc := 29) S (m_dec e6_cell 18 rfl) rfl (fun q7 => ?_) (fun q7 => ?_)
        · refine ms_aload_n (pc := 32) S 0 rfl rfl (m_dec e6_cell 19 rfl) ?_
          refine ms_getf (pc := 33) S lf_X6_15 rfl (m_dec e6_cell 20 rfl) g3 ?_
          refine ms_iload_n (pc := 36) S 2 rfl rfl (m_dec e6_cell 21 rfl) ?_
          refine ms_grd fun g8 => ?_
          refine ms_iald (pc := 37) S g8 (m_dec e6_cell 22 rfl) ?_
          refine ms_goto (pc := 38) S (m_dec e6_cell 23 rfl) rfl ?_
          exact ms_ret (pc := 42) E (m_dec e6_cell 25 rfl) rfl
        · refine ms_iconst (pc := 41) S (m_dec e6_cell 24 rfl) ?_
          exact ms_ret (pc := 42) E (m_dec e6_cell 25 rfl) rfl
    · refine ms_iconst (pc := 41) S (m_dec e6_cell 24 rfl) ?_
      exact ms_ret (pc := 42) E (m_dec e6_cell 25 rfl) rfl
theorem k6_cell (l : Launch) (d : m_D) (v0 v1 v2 : Int) (h : m_H) : m_Con l d yX6_cell cX6_cell 4 (some .int) 0 (fun r => [m_i r]) [m_r v0, m_i v1, m_i v2] h (t6_cell v0 v1 v2 h) :=
  m_con2 (by decide +kernel) (Nat.le_of_ble_eq_true rfl) (fun Y hN hRm hr hI S hfin => s6_cell S (m_end_i S hr hfin) hRm (Nat.le_refl _) hN v0 v1 v2 h)
set_option maxRecDepth 100000 in
theorem e6_verb : ∀ q ∈ ([(0, .aload_n 0, 1), (1, .iload_n 1, 1), (2, .iconst 0, 1), (3, .invokevirtual 22, 3), (6, .ireturn, 1)] : List (Nat × Instr × Nat)), decode cX6_verb q.1 = .ok q.2 := by decide +kernel
set_option maxHeartbeats 4000000 in
set_option maxRecDepth 20000 in
theorem s6_verb {Y : m_Y Int} (S : m_Std Y RX6 cX6_verb) (E : m_End Y cX6_verb .ireturn (fun r => [m_i r])) {F : Nat} (hF : m_Rm Y F) (hFn : 1 ≤ F) (hN : Y.2.2.2.1 = 2) (v0 v1 : Int) (h : m_H) : m_Sim Y 0 [(0, m_r v0), (1, m_i v1)] [] h (t6_verb v0 v1 h) := by
  unfold t6_verb
  refine ms_aload_n (pc := 0) S 0 rfl rfl (m_dec e6_verb 0 rfl) ?_
  refine ms_iload_n (pc := 1) S 1 rfl rfl (m_dec e6_verb 1 rfl) ?_
  refine ms_iconst (pc := 2) S (m_dec e6_verb 2 rfl) ?_
  refine ms_grd fun g1 => ?_
  refine ms_callVi (pc := 3) S hF (vals := [m_i v1, m_i 0]) (st := []) (hc := vw_6) (hci := by decide) (hcy := rfl) (ht := g1) (hC := (k6_cell _ _ v0 v1 0 h)) (hM := lm_X6_22) (hfr := (Nat.le_trans (by decide) hFn)) (hstk := rfl) (hcat := Nat.le_of_ble_eq_true rfl) (hd := (m_dec e6_verb 3 rfl)) (k1 := fun r3 h2 => ?_)
  exact ms_ret (pc := 6) E (m_dec e6_verb 4 rfl) rfl
theorem k6_verb (l : Launch) (d : m_D) (v0 v1 : Int) (h : m_H) : m_Con l d yX6_verb cX6_verb 2 (some .int) 1 (fun r => [m_i r]) [m_r v0, m_i v1] h (t6_verb v0 v1 h) :=
  m_con2 (by decide +kernel) (Nat.le_of_ble_eq_true rfl) (fun Y hN hRm hr hI S hfin => s6_verb S (m_end_i S hr hfin) hRm (Nat.le_refl _) hN v0 v1 h)
set_option maxRecDepth 100000 in
theorem e6_one : ∀ q ∈ ([(0, .aload_n 0, 1), (1, .iload_n 1, 1), (2, .iconst 1, 1), (3, .invokevirtual 22, 3), (6, .ireturn, 1)] : List (Nat × Instr × Nat)), decode cX6_one q.1 = .ok q.2 := by decide +kernel
set_option maxHeartbeats 4000000 in
set_option maxRecDepth 20000 in
theorem s6_one {Y : m_Y Int} (S : m_Std Y RX6 cX6_one) (E : m_End Y cX6_one .ireturn (fun r => [m_i r])) {F : Nat} (hF : m_Rm Y F) (hFn : 1 ≤ F) (hN : Y.2.2.2.1 = 2) (v0 v1 : Int) (h : m_H) : m_Sim Y 0 [(0, m_r v0), (1, m_i v1)] [] h (t6_one v0 v1 h) := by
  unfold t6_one
  refine ms_aload_n (pc := 0) S 0 rfl rfl (m_dec e6_one 0 rfl) ?_
  refine ms_iload_n (pc := 1) S 1 rfl rfl (m_dec e6_one 1 rfl) ?_
  refine ms_iconst (pc := 2) S (m_dec e6_one 2 rfl) ?_
  refine ms_grd fun g1 => ?_
  refine ms_callVi (pc := 3) S hF (vals := [m_i v1, m_i 1]) (st := []) (hc := vw_6) (hci := by decide) (hcy := rfl) (ht := g1) (hC := (k6_cell _ _ v0 v1 1 h)) (hM := lm_X6_22) (hfr := (Nat.le_trans (by decide) hFn)) (hstk := rfl) (hcat := Nat.le_of_ble_eq_true rfl) (hd := (m_dec e6_one 3 rfl)) (k1 := fun r3 h2 => ?_)
  exact ms_ret (pc := 6) E (m_dec e6_one 4 rfl) rfl
theorem k6_one (l : Launch) (d : m_D) (v0 v1 : Int) (h : m_H) : m_Con l d yX6_one cX6_one 2 (some .int) 1 (fun r => [m_i r]) [m_r v0, m_i v1] h (t6_one v0 v1 h) :=
  m_con2 (by decide +kernel) (Nat.le_of_ble_eq_true rfl) (fun Y hN hRm hr hI S hfin => s6_one S (m_end_i S hr hfin) hRm (Nat.le_refl _) hN v0 v1 h)
set_option maxRecDepth 100000 in
theorem e6_other : ∀ q ∈ ([(0, .aload_n 0, 1), (1, .iload_n 1, 1), (2, .iconst 2, 1), (3, .invokevirtual 22, 3), (6, .ireturn, 1)] : List (Nat × Instr × Nat)), decode cX6_other q.1 = .ok q.2 := by decide +kernel
set_option maxHeartbeats 4000000 in
set_option maxRecDepth 20000 in
theorem s6_other {Y : m_Y Int} (S : m_Std Y RX6 cX6_other) (E : m_End Y cX6_other .ireturn (fun r => [m_i r])) {F : Nat} (hF : m_Rm Y F) (hFn : 1 ≤ F) (hN : Y.2.2.2.1 = 2) (v0 v1 : Int) (h : m_H) : m_Sim Y 0 [(0, m_r v0), (1, m_i v1)] [] h (t6_other v0 v1 h) := by
  unfold t6_other
  refine ms_aload_n (pc := 0) S 0 rfl rfl (m_dec e6_other 0 rfl) ?_
  refine ms_iload_n (pc := 1) S 1 rfl rfl (m_dec e6_other 1 rfl) ?_
  refine ms_iconst (pc := 2) S (m_dec e6_other 2 rfl) ?_
  refine ms_grd fun g1 => ?_
  refine ms_callVi (pc := 3) S hF (vals := [m_i v1, m_i 2]) (st := []) (hc := vw_6) (hci := by decide) (hcy := rfl) (ht := g1) (hC := (k6_cell _ _ v0 v1 2 h)) (hM := lm_X6_22) (hfr := (Nat.le_trans (by decide) hFn)) (hstk := rfl) (hcat := Nat.le_of_ble_eq_true rfl) (hd := (m_dec e6_other 3 rfl)) (k1 := fun r3 h2 => ?_)
  exact ms_ret (pc := 6) E (m_dec e6_other 4 rfl) rfl
theorem k6_other (l : Launch) (d : m_D) (v0 v1 : Int) (h : m_H) : m_Con l d yX6_other cX6_other 2 (some .int) 1 (fun r => [m_i r]) [m_r v0, m_i v1] h (t6_other v0 v1 h) :=
  m_con2 (by decide +kernel) (Nat.le_of_ble_eq_true rfl) (fun Y hN hRm hr hI S hfin => s6_other S (m_end_i S hr hfin) hRm (Nat.le_refl _) hN v0 v1 h)
set_option maxRecDepth 100000 in
theorem e6_number : ∀ q ∈ ([(0, .aload_n 0, 1), (1, .iload_n 1, 1), (2, .iconst 3, 1), (3, .iload_n 2, 1), (4, .iadd, 1), (5, .invokevirtual 22, 3), (8, .ireturn, 1)] : List (Nat × Instr × Nat)), decode cX6_number q.1 = .ok q.2 := by decide +kernel
set_option maxHeartbeats 4000000 in
set_option maxRecDepth 20000 in
theorem s6_number {Y : m_Y Int} (S : m_Std Y RX6 cX6_number) (E : m_End Y cX6_number .ireturn (fun r => [m_i r])) {F : Nat} (hF : m_Rm Y F) (hFn : 1 ≤ F) (hN : Y.2.2.2.1 = 3) (v0 v1 v2 : Int) (h : m_H) : m_Sim Y 0 [(0, m_r v0), (1, m_i v1), (2, m_i v2)] [] h (t6_number v0 v1 v2 h) := by
  unfold t6_number
  refine ms_aload_n (pc := 0) S 0 rfl rfl (m_dec e6_number 0 rfl) ?_
  refine ms_iload_n (pc := 1) S 1 rfl rfl (m_dec e6_number 1 rfl) ?_
  refine ms_iconst (pc := 2) S (m_dec e6_number 2 rfl) ?_
  refine ms_iload_n (pc := 3) S 2 rfl rfl (m_dec e6_number 3 rfl) ?_
  refine ms_iadd (pc := 4) S (m_dec e6_number 4 rfl) ?_
  refine ms_grd fun g1 => ?_
  refine ms_callVi (pc := 5) S hF (vals := [m_i v1, m_i (3 + v2)]) (st := []) (hc := vw_6) (hci := by decide) (hcy := rfl) (ht := g1) (hC := (k6_cell _ _ v0 v1 (3 + v2) h)) (hM := lm_X6_22) (hfr := (Nat.le_trans (by decide) hFn)) (hstk := rfl) (hcat := Nat.le_of_ble_eq_true rfl) (hd := (m_dec e6_number 5 rfl)) (k1 := fun r3 h2 => ?_)
  exact ms_ret (pc := 8) E (m_dec e6_number 6 rfl) rfl
theorem k6_number (l : Launch) (d : m_D) (v0 v1 v2 : Int) (h : m_H) : m_Con l d yX6_number cX6_number 3 (some .int) 1 (fun r => [m_i r]) [m_r v0, m_i v1, m_i v2] h (t6_number v0 v1 v2 h) :=
  m_con2 (by decide +kernel) (Nat.le_of_ble_eq_true rfl) (fun Y hN hRm hr hI S hfin => s6_number S (m_end_i S hr hfin) hRm (Nat.le_refl _) hN v0 v1 v2 h)
set_option maxRecDepth 100000 in
theorem e6_isSource : ∀ q ∈ ([(0, .aload_n 0, 1), (1, .iload_n 1, 1), (2, .iconst 0, 1), (3, .invokevirtual 22, 3), (6, .istore_n 2, 1), (7, .iload_n 2, 1), (8, .ifCond .eq 8, 3), (11, .iload_n 2, 1), (12, .iconst 1, 1), (13, .if_icmp .ne 7, 3), (16, .iconst 1, 1), (17, .goto 4, 3), (20, .iconst 0, 1), (21, .ireturn, 1)] : List (Nat × Instr × Nat)), decode cX6_isSource q.1 = .ok q.2 := by decide +kernel
set_option maxHeartbeats 4000000 in
set_option maxRecDepth 20000 in
theorem s6_isSource {Y : m_Y Bool} (S : m_Std Y RX6 cX6_isSource) (E : m_End Y cX6_isSource .ireturn (fun r => [m_i (m_b2i r)])) {F : Nat} (hF : m_Rm Y F) (hFn : 1 ≤ F) (hN : Y.2.2.2.1 = 3) (v0 v1 : Int) (h : m_H) : m_Sim Y 0 [(0, m_r v0), (1, m_i v1)] [] h (t6_isSource v0 v1 h) := by
  unfold t6_isSource
  refine ms_aload_n (pc := 0) S 0 rfl rfl (m_dec e6_isSource 0 rfl) ?_
  refine ms_iload_n (pc := 1) S 1 rfl rfl (m_dec e6_isSource 1 rfl) ?_
  refine ms_iconst (pc := 2) S (m_dec e6_isSource 2 rfl) ?_
  refine ms_grd fun g1 => ?_
  refine ms_callVi (pc := 3) S hF (vals := [m_i v1, m_i 0]) (st := []) (hc := vw_6) (hci := by decide) (hcy := rfl) (ht := g1) (hC := (k6_cell _ _ v0 v1 0 h)) (hM := lm_X6_22) (hfr := (Nat.le_trans (by decide) hFn)) (hstk := rfl) (hcat := Nat.le_of_ble_eq_true rfl) (hd := (m_dec e6_isSource 3 rfl)) (k1 := fun r3 h2 => ?_)
  refine ms_istore_n (pc := 6) S (L' := [(2, m_i r3)]) [0] rfl rfl (m_lt hN rfl) (m_dec e6_isSource 4 rfl) ?_
  refine ms_iload_n (pc := 7) S 0 rfl rfl (m_dec e6_isSource 5 rfl) ?_
  refine ms_if_eq (pc := 8) S (m_dec e6_isSource 6 rfl) rfl (fun q4 => ?_) (fun q4 => ?_)
  · refine ms_iconst (pc := 16) S (m_dec e6_isSource 10 rfl) ?_
    refine ms_goto (pc := 17) S (m_dec e6_isSource 11 rfl) rfl ?_
    exact ms_ret (pc := 21) E (m_dec e6_isSource 13 rfl) rfl
  · refine ms_iload_n (pc := 11) S 0 rfl rfl (m_dec e6_isSource 7 rfl) ?_
    refine ms_iconst (pc := 12) S (m_dec e6_isSource 8 rfl) ?_
    refine ms_icmp_ne (pc := 13) S (m_dec e6_isSource 9 rfl) rfl (fun q5 => ?_) (fun q5 => ?_)
    · refine ms_iconst (pc := 16) S (m_dec e6_isSource 10 rfl) ?_
      refine ms_goto (pc := 17) S (m_dec e6_isSource 11 rfl) rfl ?_
      exact ms_ret (pc := 21) E (m_dec e6_isSource 13 rfl) rfl
    · refine ms_iconst (pc := 20) S (m_dec e6_isSource 12 rfl) ?_
      exact ms_ret (pc := 21) E (m_dec e6_isSource 13 rfl) rfl
theorem k6_isSource (l : Launch) (d : m_D) (v0 v1 : Int) (h : m_H) : m_Con l d yX6_isSource cX6_isSource 3 (some .boolean) 1 (fun r => [m_i (m_b2i r)]) [m_r v0, m_i v1] h (t6_isSource v0 v1 h) :=
  m_con2 (by decide +kernel) (Nat.le_of_ble_eq_true rfl) (fun Y hN hRm hr hI S hfin => s6_isSource S (m_end_z S hr hfin) hRm (Nat.le_refl _) hN v0 v1 h)
set_option maxRecDepth 100000 in
theorem e6_isPut : ∀ q ∈ ([(0, .aload_n 0, 1), (1, .iload_n 1, 1), (2, .iconst 0, 1), (3, .invokevirtual 22, 3), (6, .bipush 12, 2), (8, .if_icmp .ne 7, 3), (11, .iconst 1, 1), (12, .goto 4, 3), (15, .iconst 0, 1), (16, .ireturn, 1)] : List (Nat × Instr × Nat)), decode cX6_isPut q.1 = .ok q.2 := by decide +kernel
set_option maxHeartbeats 4000000 in
set_option maxRecDepth 20000 in
theorem s6_isPut {Y : m_Y Bool} (S : m_Std Y RX6 cX6_isPut) (E : m_End Y cX6_isPut .ireturn (fun r => [m_i (m_b2i r)])) {F : Nat} (hF : m_Rm Y F) (hFn : 1 ≤ F) (hN : Y.2.2.2.1 = 2) (v0 v1 : Int) (h : m_H) : m_Sim Y 0 [(0, m_r v0), (1, m_i v1)] [] h (t6_isPut v0 v1 h) := by
  unfold t6_isPut
  refine ms_aload_n (pc := 0) S 0 rfl rfl (m_dec e6_isPut 0 rfl) ?_
  refine ms_iload_n (pc := 1) S 1 rfl rfl (m_dec e6_isPut 1 rfl) ?_
  refine ms_iconst (pc := 2) S (m_dec e6_isPut 2 rfl) ?_
  refine ms_grd fun g1 => ?_
  refine ms_callVi (pc := 3) S hF (vals := [m_i v1, m_i 0]) (st := []) (hc := vw_6) (hci := by decide) (hcy := rfl) (ht := g1) (hC := (k6_cell _ _ v0 v1 0 h)) (hM := lm_X6_22) (hfr := (Nat.le_trans (by decide) hFn)) (hstk := rfl) (hcat := Nat.le_of_ble_eq_true rfl) (hd := (m_dec e6_isPut 3 rfl)) (k1 := fun r3 h2 => ?_)
  refine ms_bipush (pc := 6) S (m_dec e6_isPut 4 rfl) rfl ?_
  refine ms_icmp_ne (pc := 8) S (m_dec e6_isPut 5 rfl) rfl (fun q4 => ?_) (fun q4 => ?_)
  · refine ms_iconst (pc := 11) S (m_dec e6_isPut 6 rfl) ?_
    refine ms_goto (pc := 12) S (m_dec e6_isPut 7 rfl) rfl ?_
    exact ms_ret (pc := 16) E (m_dec e6_isPut 9 rfl) rfl
  · refine ms_iconst (pc := 15) S (m_dec e6_isPut 8 rfl) ?_
    exact ms_ret (pc := 16) E (m_dec e6_isPut 9 rfl) rfl
theorem k6_isPut (l : Launch) (d : m_D) (v0 v1 : Int) (h : m_H) : m_Con l d yX6_isPut cX6_isPut 2 (some .boolean) 1 (fun r => [m_i (m_b2i r)]) [m_r v0, m_i v1] h (t6_isPut v0 v1 h) :=
  m_con2 (by decide +kernel) (Nat.le_of_ble_eq_true rfl) (fun Y hN hRm hr hI S hfin => s6_isPut S (m_end_z S hr hfin) hRm (Nat.le_refl _) hN v0 v1 h)
set_option maxRecDepth 100000 in
theorem e6_isBench : ∀ q ∈ ([(0, .aload_n 0, 1), (1, .iload_n 1, 1), (2, .iconst 0, 1), (3, .invokevirtual 22, 3), (6, .istore_n 2, 1), (7, .iload_n 2, 1), (8, .iconst 2, 1), (9, .if_icmp .eq 19, 3), (12, .iload_n 2, 1), (13, .iconst 3, 1), (14, .if_icmp .eq 14, 3), (17, .iload_n 2, 1), (18, .iconst 5, 1), (19, .if_icmp .eq 9, 3), (22, .iload_n 2, 1), (23, .bipush 6, 2), (25, .if_icmp .ne 7, 3), (28, .iconst 1, 1), (29, .goto 4, 3), (32, .iconst 0, 1), (33, .ireturn, 1)] : List (Nat × Instr × Nat)), decode cX6_isBench q.1 = .ok q.2 := by decide +kernel
set_option maxHeartbeats 4000000 in
set_option maxRecDepth 20000 in
theorem s6_isBench {Y : m_Y Bool} (S : m_Std Y RX6 cX6_isBench) (E : m_End Y cX6_isBench .ireturn (fun r => [m_i (m_b2i r)])) {F : Nat} (hF : m_Rm Y F) (hFn : 1 ≤ F) (hN : Y.2.2.2.1 = 3) (v0 v1 : Int) (h : m_H) : m_Sim Y 0 [(0, m_r v0), (1, m_i v1)] [] h (t6_isBench v0 v1 h) := by
  unfold t6_isBench
  refine ms_aload_n (pc := 0) S 0 rfl rfl (m_dec e6_isBench 0 rfl) ?_
  refine ms_iload_n (pc := 1) S 1 rfl rfl (m_dec e6_isBench 1 rfl) ?_
  refine ms_iconst (pc := 2) S (m_dec e6_isBench 2 rfl) ?_
  refine ms_grd fun g1 => ?_
  refine ms_callVi (pc := 3) S hF (vals := [m_i v1, m_i 0]) (st := []) (hc := vw_6) (hci := by decide) (hcy := rfl) (ht := g1) (hC := (k6_cell _ _ v0 v1 0 h)) (hM := lm_X6_22) (hfr := (Nat.le_trans (by decide) hFn)) (hstk := rfl) (hcat := Nat.le_of_ble_eq_true rfl) (hd := (m_dec e6_isBench 3 rfl)) (k1 := fun r3 h2 => ?_)
  refine ms_istore_n (pc := 6) S (L' := [(2, m_i r3)]) [0] rfl rfl (m_lt hN rfl) (m_dec e6_isBench 4 rfl) ?_
  refine ms_iload_n (pc := 7) S 0 rfl rfl (m_dec e6_isBench 5 rfl) ?_
  refine ms_iconst (pc := 8) S (m_dec e6_isBench 6 rfl) ?_
  refine ms_icmp_eq (pc := 9) S (m_dec e6_isBench 7 rfl) rfl (fun q4 => ?_) (fun q4 => ?_)
  · refine ms_iconst (pc := 28) S (m_dec e6_isBench 17 rfl) ?_
    refine ms_goto (pc := 29) S (m_dec e6_isBench 18 rfl) rfl ?_
    exact ms_ret (pc := 33) E (m_dec e6_isBench 20 rfl) rfl
  · refine ms_iload_n (pc := 12) S 0 rfl rfl (m_dec e6_isBench 8 rfl) ?_
    refine ms_iconst (pc := 13) S (m_dec e6_isBench 9 rfl) ?_
    refine ms_icmp_eq (pc := 14) S (m_dec e6_isBench 10 rfl) rfl (fun q5 => ?_) (fun q5 => ?_)
    · refine ms_iconst (pc := 28) S (m_dec e6_isBench 17 rfl) ?_
      refine ms_goto (pc := 29) S (m_dec e6_isBench 18 rfl) rfl ?_
      exact ms_ret (pc := 33) E (m_dec e6_isBench 20 rfl) rfl
    · refine ms_iload_n (pc := 17) S 0 rfl rfl (m_dec e6_isBench 11 rfl) ?_
      refine ms_iconst (pc := 18) S (m_dec e6_isBench 12 rfl) ?_
      refine ms_icmp_eq (pc := 19) S (m_dec e6_isBench 13 rfl) rfl (fun q6 => ?_) (fun q6 => ?_)
      · refine ms_iconst (pc := 28) S (m_dec e6_isBench 17 rfl) ?_
        refine ms_goto (pc := 29) S (m_dec e6_isBench 18 rfl) rfl ?_
        exact ms_ret (pc := 33) E (m_dec e6_isBench 20 rfl) rfl
      · refine ms_iload_n (pc := 22) S 0 rfl rfl (m_dec e6_isBench 14 rfl) ?_
        refine ms_bipush (pc := 23) S (m_dec e6_isBench 15 rfl) rfl ?_
        refine ms_icmp_ne (pc := 25) S (m_dec e6_isBench 16 rfl) rfl (fun q7 => ?_) (fun q7 => ?_)
        · refine ms_iconst (pc := 28) S (m_dec e6_isBench 17 rfl) ?_
          refine ms_goto (pc := 29) S (m_dec e6_isBench 18 rfl) rfl ?_
          exact ms_ret (pc := 33) E (m_dec e6_isBench 20 rfl) rfl
        · refine ms_iconst (pc := 32) S (m_dec e6_isBench 19 rfl) ?_
          exact ms_ret (pc := 33) E (m_dec e6_isBench 20 rfl) rfl
theorem k6_isBench (l : Launch) (d : m_D) (v0 v1 : Int) (h : m_H) : m_Con l d yX6_isBench cX6_isBench 3 (some .boolean) 1 (fun r => [m_i (m_b2i r)]) [m_r v0, m_i v1] h (t6_isBench v0 v1 h) :=
  m_con2 (by decide +kernel) (Nat.le_of_ble_eq_true rfl) (fun Y hN hRm hr hI S hfin => s6_isBench S (m_end_z S hr hfin) hRm (Nat.le_refl _) hN v0 v1 h)
set_option maxRecDepth 100000 in
theorem e8_init : ∀ q ∈ ([(0, .aload_n 0, 1), (1, .invokespecial 3, 3), (4, .aload_n 0, 1), (5, .new 9, 3), (8, .dup, 1), (9, .invokespecial 11, 3), (12, .putfield 12, 3), (15, .aload_n 0, 1), (16, .iconst 0, 1), (17, .putfield 18, 3), (20, .aload_n 0, 1), (21, .iconst (-1), 1), (22, .putfield 22, 3), (25, .aload_n 0, 1), (26, .iconst (-1), 1), (27, .putfield 25, 3), (30, .aload_n 0, 1), (31, .iconst (-1), 1), (32, .putfield 28, 3), (35, .aload_n 0, 1), (36, .iload_n 1, 1), (37, .putfield 31, 3), (40, .aload_n 0, 1), (41, .iload_n 2, 1), (42, .putfield 34, 3), (45, .aload_n 0, 1), (46, .iload_n 3, 1), (47, .putfield 37, 3), (50, .return_, 1)] : List (Nat × Instr × Nat)), decode cX8_init q.1 = .ok q.2 := by decide +kernel
set_option maxHeartbeats 4000000 in
set_option maxRecDepth 20000 in
theorem s8_init {Y : m_Y Unit} (S : m_Std Y RX8 cX8_init) (E : m_End Y cX8_init .return_ (fun _ => [])) {F : Nat} (hF : m_Rm Y F) (hFn : 2 ≤ F) (hN : Y.2.2.2.1 = 4) (hI : Y.2.2.2.2.2 → Y.2.1.2.2.2.2.2.2.2.2.1.name = "<init>") (v0 v1 v2 v3 : Int) (h : m_H) : m_Sim Y 0 [(0, m_r v0), (1, m_i v1), (2, m_i v2), (3, m_i v3)] [] h (t8_init v0 v1 v2 v3 h) := by
  unfold t8_init
  refine ms_aload_n (pc := 0) S 0 rfl rfl (m_dec e8_init 0 rfl) ?_
  refine ms_grd fun g1 => ?_
  refine ms_obj (pc := 1) S hF (Nat.le_trans (by decide) hFn) lo_X8_3 g1 (Nat.le_of_ble_eq_true rfl) (m_dec e8_init 1 rfl) ?_
  refine ms_aload_n (pc := 4) S 0 rfl rfl (m_dec e8_init 2 rfl) ?_
  refine ms_new (pc := 5) S ln_X8_9 rfl (m_dec e8_init 3 rfl) (fun h2 => ?_)
  refine ms_dup (pc := 8) S rfl (m_dec e8_init 4 rfl) ?_
  refine ms_grd fun g3 => ?_
  refine ms_callIv (pc := 9) S hF (vals := []) (st := [m_r (m_n h), m_r v0]) (ht := g3) (hC := (k5_init _ _ (m_n h) h2)) (hM := lm_X8_11) (hfr := (Nat.le_trans (by decide) hFn)) (hstk := rfl) (hcat := Nat.le_of_ble_eq_true rfl) (hd := (m_dec e8_init 5 rfl)) (k1 := fun h4 => ?_)
  refine ms_grd fun g6 => ?_
  refine ms_putf (pc := 12) S lp_X8_12 (fun _ hf => hI hf) rfl (fun d => m_fitO _ d _) (m_dec e8_init 6 rfl) g6 (fun h7 => ?_)
  refine ms_aload_n (pc := 15) S 0 rfl rfl (m_dec e8_init 7 rfl) ?_
  refine ms_iconst (pc := 16) S (m_dec e8_init 8 rfl) ?_
  refine ms_grd fun g8 => ?_
  refine ms_putf (pc := 17) S lp_X8_18 (fun z => by cases z) rfl (fun d => m_fitI d _) (m_dec e8_init 9 rfl) g8 (fun h9 => ?_)
  refine ms_aload_n (pc := 20) S 0 rfl rfl (m_dec e8_init 10 rfl) ?_
  refine ms_iconst (pc := 21) S (m_dec e8_init 11 rfl) ?_
  refine ms_grd fun g10 => ?_
  refine ms_putf (pc := 22) S lp_X8_22 (fun z => by cases z) rfl (fun d => m_fitI d _) (m_dec e8_init 12 rfl) g10 (fun h11 => ?_)
  refine ms_aload_n (pc := 25) S 0 rfl rfl (m_dec e8_init 13 rfl) ?_
  refine ms_iconst (pc := 26) S (m_dec e8_init 14 rfl) ?_
  refine ms_grd fun g12 => ?_
  refine ms_putf (pc := 27) S lp_X8_25 (fun z => by cases z) rfl (fun d => m_fitI d _) (m_dec e8_init 15 rfl) g12 (fun h13 => ?_)
  refine ms_aload_n (pc := 30) S 0 rfl rfl (m_dec e8_init 16 rfl) ?_
  refine ms_iconst (pc := 31) S (m_dec e8_init 17 rfl) ?_
  refine ms_grd fun g14 => ?_
  refine ms_putf (pc := 32) S lp_X8_28 (fun z => by cases z) rfl (fun d => m_fitI d _) (m_dec e8_init 18 rfl) g14 (fun h15 => ?_)
  refine ms_aload_n (pc := 35) S 0 rfl rfl (m_dec e8_init 19 rfl) ?_
  refine ms_iload_n (pc := 36) S 1 rfl rfl (m_dec e8_init 20 rfl) ?_
  refine ms_grd fun g16 => ?_
  refine ms_putf (pc := 37) S lp_X8_31 (fun _ hf => hI hf) rfl (fun d => m_fitI d _) (m_dec e8_init 21 rfl) g16 (fun h17 => ?_)
  refine ms_aload_n (pc := 40) S 0 rfl rfl (m_dec e8_init 22 rfl) ?_
  refine ms_iload_n (pc := 41) S 2 rfl rfl (m_dec e8_init 23 rfl) ?_
  refine ms_grd fun g18 => ?_
  refine ms_putf (pc := 42) S lp_X8_34 (fun _ hf => hI hf) rfl (fun d => m_fitI d _) (m_dec e8_init 24 rfl) g18 (fun h19 => ?_)
  refine ms_aload_n (pc := 45) S 0 rfl rfl (m_dec e8_init 25 rfl) ?_
  refine ms_iload_n (pc := 46) S 3 rfl rfl (m_dec e8_init 26 rfl) ?_
  refine ms_grd fun g20 => ?_
  refine ms_putf (pc := 47) S lp_X8_37 (fun _ hf => hI hf) rfl (fun d => m_fitI d _) (m_dec e8_init 27 rfl) g20 (fun h21 => ?_)
  exact ms_ret (pc := 50) E (m_dec e8_init 28 rfl) rfl
theorem k8_init (l : Launch) (d : m_D) (v0 v1 v2 v3 : Int) (h : m_H) : m_Con l d yX8_init cX8_init 4 none 2 (fun _ => []) [m_r v0, m_i v1, m_i v2, m_i v3] h (t8_init v0 v1 v2 v3 h) :=
  m_con2 (by decide +kernel) (Nat.le_of_ble_eq_true rfl) (fun Y hN hRm hr hI S hfin => s8_init S (m_end_v S hr hfin) hRm (Nat.le_refl _) hN hI v0 v1 v2 v3 h)
set_option maxRecDepth 100000 in
theorem e8_fact : ∀ q ∈ ([(0, .iload_n 1, 1), (1, .tableswitch 117 0 10 #[59, 64, 69, 77, 82, 87, 92, 97, 102, 107, 112], 59), (60, .aload_n 0, 1), (61, .getfield 34, 3), (64, .ireturn, 1), (65, .aload_n 0, 1), (66, .getfield 18, 3), (69, .ireturn, 1), (70, .aload_n 0, 1), (71, .getfield 12, 3), (74, .invokevirtual 40, 3), (77, .ireturn, 1), (78, .aload_n 0, 1), (79, .getfield 44, 3), (82, .ireturn, 1), (83, .aload_n 0, 1), (84, .getfield 47, 3), (87, .ireturn, 1), (88, .aload_n 0, 1), (89, .getfield 50, 3), (92, .ireturn, 1), (93, .aload_n 0, 1), (94, .getfield 22, 3), (97, .ireturn, 1), (98, .aload_n 0, 1), (99, .getfield 37, 3), (102, .ireturn, 1), (103, .aload_n 0, 1), (104, .getfield 25, 3), (107, .ireturn, 1), (108, .aload_n 0, 1), (109, .getfield 28, 3), (112, .ireturn, 1), (113, .aload_n 0, 1), (114, .getfield 53, 3), (117, .ireturn, 1), (118, .iconst (-1), 1), (119, .ireturn, 1)] : List (Nat × Instr × Nat)), decode cX8_fact q.1 = .ok q.2 := by decide +kernel
set_option maxHeartbeats 4000000 in
set_option maxRecDepth 20000 in
theorem s8_fact {Y : m_Y Int} (S : m_Std Y RX8 cX8_fact) (E : m_End Y cX8_fact .ireturn (fun r => [m_i r])) {F : Nat} (hF : m_Rm Y F) (hFn : 1 ≤ F) (hN : Y.2.2.2.1 = 2) (v0 v1 : Int) (h : m_H) : m_Sim Y 0 [(0, m_r v0), (1, m_i v1)] [] h (t8_fact v0 v1 h) := by
  unfold t8_fact
  refine ms_iload_n (pc := 0) S 1 rfl rfl (m_dec e8_fact 0 rfl) ?_
  refine ms_ite (fun q1 => ?_) (fun q1 => ?_)
  · refine ms_swIn (pc := 1) S (m_dec e8_fact 1 rfl) 0 q1 (by decide) (by decide) rfl rfl ?_
    refine ms_aload_n (pc := 60) S 0 rfl rfl (m_dec e8_fact 2 rfl) ?_
    refine ms_grd fun g2 => ?_
    refine ms_getf (pc := 61) S lf_X8_34 rfl (m_dec e8_fact 3 rfl) g2 ?_
    exact ms_ret (pc := 64) E (m_dec e8_fact 4 rfl) rfl
  · refine ms_ite (fun q3 => ?_) (fun q3 => ?_)
    · refine ms_swIn (pc := 1) S (m_dec e8_fact 1 rfl) 1 q3 (by decide) (by decide) rfl rfl ?_
      refine ms_aload_n (pc := 65) S 0 rfl rfl (m_dec e8_fact 5 rfl) ?_
      refine ms_grd fun g4 => ?_
      refine ms_getf (pc := 66) S lf_X8_18 rfl (m_dec e8_fact 6 rfl) g4 ?_
      exact ms_ret (pc := 69) E (m_dec e8_fact 7 rfl) rfl
    · refine ms_ite (fun q5 => ?_) (fun q5 => ?_)
      · refine ms_swIn (pc := 1) S (m_dec e8_fact 1 rfl) 2 q5 (by decide) (by decide) rfl rfl ?_
        refine ms_aload_n (pc := 70) S 0 rfl rfl (m_dec e8_fact 8 rfl) ?_
        refine ms_grd fun g6 => ?_
        refine ms_getf (pc := 71) S lf_X8_12 rfl (m_dec e8_fact 9 rfl) g6 ?_
        refine ms_grd fun g7 => ?_
        refine ms_callVi (pc := 74) S hF (vals := []) (st := []) (hc := vw_5) (hci := by decide) (hcy := rfl) (ht := g7) (hC := (k5_size _ _ (m_g h v0 3) h)) (hM := lm_X8_40) (hfr := (Nat.le_trans (by decide) hFn)) (hstk := rfl) (hcat := Nat.le_of_ble_eq_true rfl) (hd := (m_dec e8_fact 10 rfl)) (k1 := fun r9 h8 => ?_)
        exact ms_ret (pc := 77) E (m_dec e8_fact 11 rfl) rfl
      · refine ms_ite (fun q10 => ?_) (fun q10 => ?_)
        · refine ms_swIn (pc := 1) S (m_dec e8_fact 1 rfl) 3 q10 (by decide) (by decide) rfl rfl ?_
          refine ms_aload_n (pc := 78) S 0 rfl rfl (m_dec e8_fact 12 rfl) ?_
          refine ms_grd fun g11 => ?_
          refine ms_getf (pc := 79) S lf_X8_44 rfl (m_dec e8_fact 13 rfl) g11 ?_
          exact ms_ret (pc := 82) E (m_dec e8_fact 14 rfl) rfl
        · refine ms_ite (fun q12 => ?_) (fun q12 => ?_)
          · refine ms_swIn (pc := 1) S (m_dec e8_fact 1 rfl) 4 q12 (by decide) (by decide) rfl rfl ?_
            refine ms_aload_n (pc := 83) S 0 rfl rfl (m_dec e8_fact 15 rfl) ?_
            refine ms_grd fun g13 => ?_
            refine ms_getf (pc := 84) S lf_X8_47 rfl (m_dec e8_fact 16 rfl) g13 ?_
            exact ms_ret (pc := 87) E (m_dec e8_fact 17 rfl) rfl
          · refine ms_ite (fun q14 => ?_) (fun q14 => ?_)
            · refine ms_swIn (pc := 1) S (m_dec e8_fact 1 rfl) 5 q14 (by decide) (by decide) rfl rfl ?_
              refine ms_aload_n (pc := 88) S 0 rfl rfl (m_dec e8_fact 18 rfl) ?_
              refine ms_grd fun g15 => ?_
              refine ms_getf (pc := 89) S lf_X8_50 rfl (m_dec e8_fact 19 rfl) g15 ?_
              exact ms_ret (pc := 92) E (m_dec e8_fact 20 rfl) rfl
            · refine ms_ite (fun q16 => ?_) (fun q16 => ?_)
              · refine ms_swIn (pc := 1) S (m_dec e8_fact 1 rfl) 6 q16 (by decide) (by decide) rfl rfl ?_
                refine ms_aload_n (pc := 93) S 0 rfl rfl (m_dec e8_fact 21 rfl) ?_
                refine ms_grd fun g17 => ?_
                refine ms_getf (pc := 94) S lf_X8_22 rfl (m_dec e8_fact 22 rfl) g17 ?_
                exact ms_ret (pc := 97) E (m_dec e8_fact 23 rfl) rfl
              · refine ms_ite (fun q18 => ?_) (fun q18 => ?_)
                · refine ms_swIn (pc := 1) S (m_dec e8_fact 1 rfl) 7 q18 (by decide) (by decide) rfl rfl ?_
                  refine ms_aload_n (pc := 98) S 0 rfl rfl (m_dec e8_fact 24 rfl) ?_
                  refine ms_grd fun g19 => ?_
                  refine ms_getf (pc := 99) S lf_X8_37 rfl (m_dec e8_fact 25 rfl) g19 ?_
                  exact ms_ret (pc := 102) E (m_dec e8_fact 26 rfl) rfl
                · refine ms_ite (fun q20 => ?_) (fun q20 => ?_)
                  · refine ms_swIn (pc := 1) S (m_dec e8_fact 1 rfl) 8 q20 (by decide) (by decide) rfl rfl ?_
                    refine ms_aload_n (pc := 103) S 0 rfl rfl (m_dec e8_fact 27 rfl) ?_
                    refine ms_grd fun g21 => ?_
                    refine ms_getf (pc := 104) S lf_X8_25 rfl (m_dec e8_fact 28 rfl) g21 ?_
                    exact ms_ret (pc := 107) E (m_dec e8_fact 29 rfl) rfl
                  · refine ms_ite (fun q22 => ?_) (fun q22 => ?_)
                    · refine ms_swIn (pc := 1) S (m_dec e8_fact 1 rfl) 9 q22 (by decide) (by decide) rfl rfl ?_
                      refine ms_aload_n (pc := 108) S 0 rfl rfl (m_dec e8_fact 30 rfl) ?_
                      refine ms_grd fun g23 => ?_
                      refine ms_getf (pc := 109) S lf_X8_28 rfl (m_dec e8_fact 31 rfl) g23 ?_
                      exact ms_ret (pc := 112) E (m_dec e8_fact 32 rfl) rfl
                    · refine ms_ite (fun q24 => ?_) (fun q24 => ?_)
                      · refine ms_swIn (pc := 1) S (m_dec e8_fact 1 rfl) 10 q24 (by decide) (by decide) rfl rfl ?_
                        refine ms_aload_n (pc := 113) S 0 rfl rfl (m_dec e8_fact 33 rfl) ?_
                        refine ms_grd fun g25 => ?_
                        refine ms_getf (pc := 114) S lf_X8_53 rfl (m_dec e8_fact 34 rfl) g25 ?_
                        exact ms_ret (pc := 117) E (m_dec e8_fact 35 rfl) rfl
                      · refine ms_swOut (pc := 1) S (m_dec e8_fact 1 rfl) (by omega) rfl ?_
                        refine ms_iconst (pc := 118) S (m_dec e8_fact 36 rfl) ?_
                        exact ms_ret (pc := 119) E (m_dec e8_fact 37 rfl) rfl
theorem k8_fact (l : Launch) (d : m_D) (v0 v1 : Int) (h : m_H) : m_Con l d yX8_fact cX8_fact 2 (some .int) 1 (fun r => [m_i r]) [m_r v0, m_i v1] h (t8_fact v0 v1 h) :=
  m_con2 (by decide +kernel) (Nat.le_of_ble_eq_true rfl) (fun Y hN hRm hr hI S hfin => s8_fact S (m_end_i S hr hfin) hRm (Nat.le_refl _) hN v0 v1 h)
set_option maxRecDepth 100000 in
theorem e8_ageAs : ∀ q ∈ ([(0, .aload_n 0, 1), (1, .aload_n 0, 1), (2, .getfield 44, 3), (5, .aload_n 1, 1), (6, .getfield 44, 3), (9, .invokestatic 56, 3), (12, .putfield 44, 3), (15, .aload_n 0, 1), (16, .aload_n 0, 1), (17, .getfield 47, 3), (20, .aload_n 1, 1), (21, .getfield 47, 3), (24, .invokestatic 56, 3), (27, .putfield 47, 3), (30, .aload_n 0, 1), (31, .aload_n 0, 1), (32, .getfield 50, 3), (35, .aload_n 1, 1), (36, .getfield 50, 3), (39, .invokestatic 56, 3), (42, .putfield 50, 3), (45, .return_, 1)] : List (Nat × Instr × Nat)), decode cX8_ageAs q.1 = .ok q.2 := by decide +kernel
set_option maxHeartbeats 4000000 in
set_option maxRecDepth 20000 in
theorem s8_ageAs {Y : m_Y Unit} (S : m_Std Y RX8 cX8_ageAs) (E : m_End Y cX8_ageAs .return_ (fun _ => [])) {F : Nat} (hF : m_Rm Y F) (hFn : 1 ≤ F) (hN : Y.2.2.2.1 = 2) (v0 v1 : Int) (h : m_H) : m_Sim Y 0 [(0, m_r v0), (1, m_r v1)] [] h (t8_ageAs v0 v1 h) := by
  unfold t8_ageAs
  refine ms_aload_n (pc := 0) S 0 rfl rfl (m_dec e8_ageAs 0 rfl) ?_
  refine ms_aload_n (pc := 1) S 0 rfl rfl (m_dec e8_ageAs 1 rfl) ?_
  refine ms_grd fun g1 => ?_
  refine ms_getf (pc := 2) S lf_X8_44 rfl (m_dec e8_ageAs 2 rfl) g1 ?_
  refine ms_aload_n (pc := 5) S 1 rfl rfl (m_dec e8_ageAs 3 rfl) ?_
  refine ms_grd fun g2 => ?_
  refine ms_getf (pc := 6) S lf_X8_44 rfl (m_dec e8_ageAs 4 rfl) g2 ?_
  refine ms_mmax (pc := 9) S hF (Nat.le_trans (by decide) hFn) ⟨w_634, w_485, w_136, w_486⟩ (Nat.le_of_ble_eq_true rfl) (m_dec e8_ageAs 5 rfl) ?_
  refine ms_putf (pc := 12) S lp_X8_44 (fun z => by cases z) rfl (fun d => m_fitI d _) (m_dec e8_ageAs 6 rfl) g1 (fun h3 => ?_)
  refine ms_aload_n (pc := 15) S 0 rfl rfl (m_dec e8_ageAs 7 rfl) ?_
  refine ms_aload_n (pc := 16) S 0 rfl rfl (m_dec e8_ageAs 8 rfl) ?_
  refine ms_grd fun g4 => ?_
  refine ms_getf (pc := 17) S lf_X8_47 rfl (m_dec e8_ageAs 9 rfl) g4 ?_
  refine ms_aload_n (pc := 20) S 1 rfl rfl (m_dec e8_ageAs 10 rfl) ?_
  refine ms_grd fun g5 => ?_
  refine ms_getf (pc := 21) S lf_X8_47 rfl (m_dec e8_ageAs 11 rfl) g5 ?_
  refine ms_mmax (pc := 24) S hF (Nat.le_trans (by decide) hFn) ⟨w_634, w_485, w_136, w_486⟩ (Nat.le_of_ble_eq_true rfl) (m_dec e8_ageAs 12 rfl) ?_
  refine ms_putf (pc := 27) S lp_X8_47 (fun z => by cases z) rfl (fun d => m_fitI d _) (m_dec e8_ageAs 13 rfl) g4 (fun h6 => ?_)
  refine ms_aload_n (pc := 30) S 0 rfl rfl (m_dec e8_ageAs 14 rfl) ?_
  refine ms_aload_n (pc := 31) S 0 rfl rfl (m_dec e8_ageAs 15 rfl) ?_
  refine ms_grd fun g7 => ?_
  refine ms_getf (pc := 32) S lf_X8_50 rfl (m_dec e8_ageAs 16 rfl) g7 ?_
  refine ms_aload_n (pc := 35) S 1 rfl rfl (m_dec e8_ageAs 17 rfl) ?_
  refine ms_grd fun g8 => ?_
  refine ms_getf (pc := 36) S lf_X8_50 rfl (m_dec e8_ageAs 18 rfl) g8 ?_
  refine ms_mmax (pc := 39) S hF (Nat.le_trans (by decide) hFn) ⟨w_634, w_485, w_136, w_486⟩ (Nat.le_of_ble_eq_true rfl) (m_dec e8_ageAs 19 rfl) ?_
  refine ms_putf (pc := 42) S lp_X8_50 (fun z => by cases z) rfl (fun d => m_fitI d _) (m_dec e8_ageAs 20 rfl) g7 (fun h9 => ?_)
  exact ms_ret (pc := 45) E (m_dec e8_ageAs 21 rfl) rfl
theorem k8_ageAs (l : Launch) (d : m_D) (v0 v1 : Int) (h : m_H) : m_Con l d yX8_ageAs cX8_ageAs 2 none 1 (fun _ => []) [m_r v0, m_r v1] h (t8_ageAs v0 v1 h) :=
  m_con2 (by decide +kernel) (Nat.le_of_ble_eq_true rfl) (fun Y hN hRm hr hI S hfin => s8_ageAs S (m_end_v S hr hfin) hRm (Nat.le_refl _) hN v0 v1 h)
