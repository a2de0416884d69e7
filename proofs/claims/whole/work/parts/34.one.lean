/-! THE FIRST CALLS -/
theorem n_shrink {h : m_H} {v n : Int} (W : n_wf h) (hv : m_t h v = 5) (h0 : 0 ≤ n) (h1 : n ≤ m_g h v 1) (h2 : n ≤ 3000) : ∃ h', t5_resize v n h = some ((), h') ∧ n_rw h h' v n (n_rg h v) := by
  have l := n_wf_lt W hv
  have R := n_wf_row W hv
  obtain ⟨s1, s2, s3, s4, s5⟩ := n_rsz_ch W hv h0 h2
  refine ⟨n_rsz h v n, ?_, s1, s4, s2, fun j j1 j2 => ?_, s3⟩
  · rw [n_resize R l.1 l.2.1 (by omega) (by omega) (by omega), show max n 0 = n by omega]
  · rw [s5 j j1 (by omega) j2]
    unfold n_rg
    rw [if_pos (by omega)]
theorem n_sg8 {h : m_H} (I : n_I h) : ∀ r ∈ [(8 : Int)], m_t h r = 5 := fun r q => by rw [List.mem_singleton.mp q]; exact n_t8 I.2
theorem n_no {P : Int → Prop} : ∀ b ∈ ([] : List Int), P b := fun _ q => absurd q List.not_mem_nil
/-- a fixed cell that is neither the row nor its array -/
theorem n_rw_cell {h h' : m_H} {v n : Int} {f : Int → Int} (I : n_I h) (hv : m_t h v = 5) (A : n_rw h h' v n f) {b : Int} (hb : n_sf h b) (j : Int) : m_g h' b j = m_g h b j := (n_sf_ch I.1 hv A.2.2.2.2 hb).2.1 j
theorem n_sf2 {h : m_H} (I : n_I h) : n_sf h 2 := n_sfa I (by omega) (by rw [n_t2 I.2]; omega) (Or.inl (by rw [n_t2 I.2]; omega))
theorem n_s_drop {h : m_H} {k : Int} (X : n_R h k) : n_step h k (t10_drop 1) (t11_drop 127) := by
  have X' := X
  obtain ⟨I, gs, bud, x1, x2, x3, x4, x5, x6, x7⟩ := X'
  obtain ⟨h1, e1, A⟩ := n_shrink (n := 0) I.1 (n_t8 I.2) (by omega) (by have := x1.1; have := x1.2.1; omega) (by omega)
  have I1 := n_I_rw I (n_t8 I.2) A
  have KP := n_kp_rw I.1 (n_t8 I.2) A
  have KR : n_kr h1 (m_p h1 127 16 0) [] [16] := n_kr_f
  have P := n_sp_of I KP KR n_no (n_sg8 I)
  have I2 := n_kr_I I1 KR n_no rfl
  refine ⟨m_g h 8 1, h1, m_g h1 127 16, m_p h1 127 16 0, ?_, ?_, ?_, ?_⟩
  · unfold t10_drop t10_emptied
    rw [if_pos (n_t1 I.2), n_p1_1 I.2, if_pos (n_t8 I.2), n_size (n_t8 I.2), n_bs]
    show (if m_t h 8 = 5 then t5_resize 8 0 h >>= _ else none) >>= _ = _
    rw [if_pos (n_t8 I.2), e1, n_bs]
    rfl
  · unfold t11_drop
    rw [if_pos (n_t127 I1.2)]
    rfl
  · rw [n_kp_ref I KP n_no (n_sg8 I) (by omega) (by omega), x1.1]
  · obtain ⟨g0, g1, g2, g3, g4, g5, g6, g7⟩ := n_fr X P
    refine ⟨I2, g0 (by decide), n_bud_same I1 KR.1 (fun r hr => n_kr_comp KR (n_ref_row I1 hr).1 0) (n_bud_more (n_bud_rw I (by decide) A bud)), ?_, g2 (by decide) (by decide) (by decide), g3 (by decide) n_no (by decide), g4 (by decide) (by decide) (by decide) (by decide), g5 (by decide) (by decide) n_no, g6 (by decide) (by decide) (by decide) (by decide) (by decide) (by decide) n_no (by decide), g7 (by decide) (by decide) (by decide) (n_rw_cell I (n_t8 I.2) A (n_sf2 I) 11) (by decide) (by decide)⟩
    refine ⟨?_, by rw [m_g_p, if_pos ⟨rfl, rfl⟩]; omega, by rw [m_g_p, if_pos ⟨rfl, rfl⟩]; omega, fun j j1 j2 => ?_⟩
    · rw [m_g_p, m_g_p, if_neg (by omega), if_pos ⟨rfl, rfl⟩]
      exact A.2.2.1
    · rw [m_g_p, if_pos ⟨rfl, rfl⟩] at j2
      omega
/-- strips and machines as they were, other numbers -/
theorem n_gs_sp2 {h h' : m_H} {A R Tc Tf : List Int} (P : n_sp h h' A R Tc Tf) (c : ∀ b ∈ Tc, b ≠ 128 ∧ (b < 130 ∨ 148 < b)) (c2 : 14 ∉ Tf ∧ 15 ∉ Tf ∧ 23 ∉ Tf ∧ 27 ∉ Tf) (B : n_shB h') (X : n_gs h) : n_gs h' := by
  have f1 := n_sp_f P c2.1
  have f2 := n_sp_f P c2.2.1
  have f5 := n_sp_f P c2.2.2.1
  have f6 := n_sp_f P c2.2.2.2
  have a := fun b (hb : b = 128 ∨ (130 ≤ b ∧ b ≤ 148)) j => n_sp_a P (b := b) (by omega) (by omega) (fun q => by have := c b q; omega) j
  refine ⟨B, ?_⟩
  have X2 := X.2
  unfold n_strB n_macB at *
  simp only [f1, f2, f5, f6, a 128 (by omega), a 130 (by omega), a 131 (by omega), a 132 (by omega), a 133 (by omega), a 134 (by omega), a 135 (by omega), a 136 (by omega), a 137 (by omega), a 138 (by omega), a 139 (by omega), a 140 (by omega), a 141 (by omega), a 142 (by omega), a 143 (by omega), a 144 (by omega), a 145 (by omega), a 146 (by omega), a 147 (by omega), a 148 (by omega)]
  exact X2
theorem n_Rsh_sp2 {h h' : m_H} {A R Tc Tf : List Int} (I : n_I h) (P : n_sp h h' A R Tc Tf) (c : ∀ b ∈ Tc, b ≠ 128 ∧ (b < 130 ∨ 148 < b)) (c2 : 14 ∉ Tf ∧ 23 ∉ Tf ∧ 27 ∉ Tf) (cA : ∀ b ∈ A, (b < 3 ∨ 7 < b) ∧ m_t h b ≠ 8 ∧ m_t h b ≠ 0) (cR : ∀ r ∈ R, r < 312) (N : n_shN h' h') (X : n_Rsh h h) : n_Rsh h' h' := by
  have f1 := n_sp_f P c2.1
  have f5 := n_sp_f P c2.2.1
  have f6 := n_sp_f P c2.2.2
  have a := fun b (hb : b = 128 ∨ (130 ≤ b ∧ b ≤ 148)) j => n_sp_a P (b := b) (by omega) (by omega) (fun q => by have := c b q; omega) j
  have cl := fun b (hb : 3 ≤ b ∧ b ≤ 7) (hs : n_sf h b) => (n_sp_cell P hs (by omega) (fun q => by have := cA b q; omega)).1
  have e3 := cl 3 (by omega) (n_sfa I (by omega) (by rw [n_t3 I.2]; omega) (Or.inl (by rw [n_t3 I.2]; omega)))
  have e4 := cl 4 (by omega) (n_sfa I (by omega) (by rw [n_t4 I.2]; omega) (Or.inl (by rw [n_t4 I.2]; omega)))
  have e5 := cl 5 (by omega) (n_sfa I (by omega) (by rw [n_t5 I.2]; omega) (Or.inr (by rw [n_l5 I.2]; omega)))
  have e6 := cl 6 (by omega) (n_sfa I (by omega) (by rw [n_t6 I.2]; omega) (Or.inr (by rw [n_l6 I.2]; omega)))
  have e7 := cl 7 (by omega) (n_sfa I (by omega) (by rw [n_t7 I.2]; omega) (Or.inr (by rw [n_l7 I.2]; omega)))
  obtain ⟨x1, x2, x3, x4⟩ := X
  refine ⟨N, fun i i1 i2 => ?_, fun i i1 i2 => ?_, fun j j1 j2 => ?_⟩
  · rw [f1] at i2
    have S := x2 i i1 i2
    rw [e3]
    generalize m_g h 3 i = q at S ⊢
    unfold n_strip at S
    obtain ⟨⟨s1, s2, s3, s4⟩, S2⟩ := S
    have hq : n_sf h q := ⟨(I.1.1 q (by omega)).2, by omega, fun r hr e => by have := (n_wf_row I.1 hr).2.1; rw [e] at this; omega⟩
    have C := n_sp_cell P hq (by omega) (fun p => (cA q p).2.1 s1)
    have Rr := n_sp_row I P s3 (fun p => by have := cR _ p; omega)
    unfold n_strip
    rw [C.2.1, C.1, C.1, C.1, C.1, C.1, C.1, C.1, C.1, C.1, C.1, C.1, C.1, Rr.1, Rr.2.2.1]
    simp only [Rr.2.2.2.2, a 128 (by omega), a 130 (by omega), a 131 (by omega), a 132 (by omega), a 133 (by omega), a 134 (by omega), a 135 (by omega), a 136 (by omega), a 137 (by omega), a 138 (by omega), a 139 (by omega), a 140 (by omega), a 141 (by omega)]
    exact ⟨⟨s1, s2, trivial, s4⟩, S2⟩
  · rw [f5] at i2
    have S := x3 i i1 i2
    rw [e4]
    generalize m_g h 4 i = q at S ⊢
    unfold n_mach at S
    obtain ⟨⟨s1, s2⟩, S2⟩ := S
    have hq : n_sf h q := ⟨(I.1.1 q (by omega)).2, by omega, fun r hr e => by have := (n_wf_row I.1 hr).2.1; rw [e] at this; omega⟩
    have C := n_sp_cell P hq (by omega) (fun p => (cA q p).2.2 s1)
    unfold n_mach
    rw [C.2.1, C.1, C.1, C.1, C.1, a 142 (by omega), a 143 (by omega), a 144 (by omega), a 145 (by omega)]
    exact ⟨⟨s1, s2⟩, S2⟩
  · rw [f6] at j2
    rw [e5, e6, e7, a 146 (by omega), a 147 (by omega), a 148 (by omega)]
    exact x4 j j1 j2
/-- the rest, where a number of the shelf is written on both sides -/
theorem n_two {h : m_H} {k j q a b : Int} (X : n_R h k) (hj : j ≠ 11) (kj : n_key 2 j = false) (kq : n_key 127 q = false) (hq : q = 17 ∨ q = 18) (B : n_shB (m_p (m_p h 2 j a) 127 q b)) (N : n_shN (m_p (m_p h 2 j a) 127 q b) (m_p (m_p h 2 j a) 127 q b)) : n_R (m_p (m_p h 2 j a) 127 q b) (k + 1) := by
  have X' := X
  obtain ⟨I, gs, bud, x1, x2, x3, x4, x5, x6, x7⟩ := X'
  have I1 : n_I (m_p h 2 j a) := n_I_p I (by rw [n_t2 I.2]; omega) (fun e => by rw [n_t2 I.2] at e; omega) kj
  have I2 : n_I (m_p (m_p h 2 j a) 127 q b) := n_I_p I1 (by rw [n_t127 I1.2]; omega) (fun e => by rw [n_t127 I1.2] at e; omega) kq
  have P := n_sp_of I (n_kp_p (h := h) (a := 2) (k := j) (v := a) (by rw [n_t2 I.2]; omega)) (n_kr_f (k := q) (v := b)) (fun b hb => by rw [List.mem_singleton.mp hb]; exact ⟨n_sf2 I, by omega⟩) n_no
  obtain ⟨g0, g1, g2, g3, g4, g5, g6, g7⟩ := n_fr X P
  have nq : ∀ x : Int, x ≠ 17 → x ≠ 18 → x ∉ [q] := fun x h1 h2 hx => by have := List.mem_singleton.mp hx; omega
  have n2 : ∀ x : Int, x ≠ 2 → x ∉ [(2 : Int)] := fun x h1 hx => h1 (List.mem_singleton.mp hx)
  have e11 : m_g (m_p (m_p h 2 j a) 127 q b) 2 11 = m_g h 2 11 := by rw [m_g_p, if_neg (by omega), m_g_p, if_neg (by omega)]
  refine ⟨I2, n_gs_sp2 P n_no ⟨nq _ (by omega) (by omega), nq _ (by omega) (by omega), nq _ (by omega) (by omega), nq _ (by omega) (by omega)⟩ B gs, n_bud_same I (h' := m_p (m_p h 2 j a) 127 q b) rfl (fun r hr => ?_) (n_bud_more bud), g1 (by decide) (by decide) (nq _ (by omega) (by omega)), g2 (by decide) (by decide) (nq _ (by omega) (by omega)), n_Rsh_sp2 I P n_no ⟨nq _ (by omega) (by omega), nq _ (by omega) (by omega), nq _ (by omega) (by omega)⟩ (fun b hb => ?_) n_no N x3, g4 (by decide) (nq _ (by omega) (by omega)) (by decide) (by decide), g5 n_no (nq _ (by omega) (by omega)) (fun b hb => ?_), g6 n_no (nq _ (by omega) (by omega)) (nq _ (by omega) (by omega)) (by decide) n_no (fun x hx => ?_) (fun b hb => ?_) (by decide), ?_⟩
  · have := (n_ref_row I hr).1
    rw [m_g_p, if_neg (by omega), m_g_p, if_neg (fun p => by rw [p.1, n_t2 I.2] at hr; omega)]
  · rw [List.mem_singleton.mp hb, n_t2 I.2]; omega
  · rw [List.mem_singleton.mp hb]; omega
  · rw [List.mem_singleton.mp hx]; omega
  · rw [List.mem_singleton.mp hb]; omega
  · unfold n_Rm at *
    have e1 : m_g (m_p (m_p h 2 j a) 127 q b) 121 11 = m_g h 121 11 := by rw [m_g_p, if_neg (by omega), m_g_p, if_neg (by omega)]
    have e2 : m_g (m_p (m_p h 2 j a) 127 q b) 121 12 = m_g h 121 12 := by rw [m_g_p, if_neg (by omega), m_g_p, if_neg (by omega)]
    have e3 : ∀ t, m_g (m_p (m_p h 2 j a) 127 q b) 124 t = m_g h 124 t := fun t => by rw [m_g_p, if_neg (by omega), m_g_p, if_neg (by omega)]
    have e4 : ∀ c i, c ≠ 2 → c ≠ 127 → m_g (m_p (m_p h 2 j a) 127 q b) c i = m_g h c i := fun c i c1 c2 => by rw [m_g_p, if_neg (by omega), m_g_p, if_neg (by omega)]
    have e5 : ∀ i, i ≠ 17 → i ≠ 18 → m_g (m_p (m_p h 2 j a) 127 q b) 127 i = m_g h 127 i := fun i c1 c2 => by rw [m_g_p, if_neg (by omega), m_g_p, if_neg (by omega)]
    rw [e1, e2, e11, e5 85 (by omega) (by omega)]
    refine ⟨x7.1, x7.2.1, x7.2.2.1, x7.2.2.2.1, by have := x7.2.2.2.2.1; omega, fun q1 q2 t t1 t2 => ?_⟩
    rw [e3]
    exact n_isL_S (e5 14 (by omega) (by omega)) (e5 85 (by omega) (by omega)) (fun i => e4 308 i (by omega) (by omega)) (fun i => e4 128 i (by omega) (by omega)) (fun i => e4 130 i (by omega) (by omega)) (fun i => e4 131 i (by omega) (by omega)) (fun i => e4 133 i (by omega) (by omega)) (x7.2.2.2.2.2 q1 q2 t t1 t2)
theorem n_s_sliver {h : m_H} {k : Int} (X : n_R h k) (a : Int) (a1 : -2147483648 ≤ a) (a2 : a < 2147483648) : n_stepb h k (t10_sliver 1 a) (t11_sliver 127 a) := by
  have X' := X
  obtain ⟨I, gs, bud, x1, x2, x3, x4, x5, x6, x7⟩ := X'
  have t1 := n_t1 I.2
  have t2 := n_t2 I.2
  have p := n_p1_0 I.2
  unfold n_stepb t10_sliver t11_sliver
  by_cases c : 0 ≤ a ∧ a ≤ 9
  · have t127 : m_t (m_p h 2 4 a) 127 = 11 := show m_t h 127 = 11 from n_t127 I.2
    refine ⟨true, m_p h 2 4 a, true, m_p (m_p h 2 4 a) 127 17 a, ?_, ?_, rfl, n_two X (by omega) rfl rfl (by omega) ?_ ?_⟩
    · simp (disch := omega) only [m_w_of, n_ltT, n_ltF, n_leT, n_leF, n_eqT, n_eqF, n_bs, n_bn, ↓reduceIte, true_and, and_true, and_self, false_and, and_false, or_true, true_or, or_false, false_or, not_true_eq_false, not_false_eq_true, Bool.false_eq_true, reduceCtorEq, eq_self, p]
    · rw [m_w_of a1 a2, n_in (by omega) (by omega) (by omega) (by omega) (by omega) (by omega), n_bs, decide_eq_true c]
      simp (disch := omega) only [m_w_of, n_ltT, n_ltF, n_leT, n_leF, n_eqT, n_eqF, n_bs, n_bn, ↓reduceIte, true_and, and_true, and_self, false_and, and_false, or_true, true_or, or_false, false_or, not_true_eq_false, not_false_eq_true, Bool.false_eq_true, reduceCtorEq, eq_self]
    · have G := gs.1
      unfold n_shB at *
      simp (disch := omega) only [m_g_p, m_w_of, n_ltT, n_ltF, n_leT, n_leF, n_eqT, n_eqF, n_bs, n_bn, ↓reduceIte, true_and, and_true, and_self, false_and, and_false, or_true, true_or, or_false, false_or, not_true_eq_false, not_false_eq_true, Bool.false_eq_true, reduceCtorEq, eq_self]
    · have G := x3.1
      unfold n_shN at *
      simp (disch := omega) only [m_g_p, m_w_of, n_ltT, n_ltF, n_leT, n_leF, n_eqT, n_eqF, n_bs, n_bn, ↓reduceIte, true_and, and_true, and_self, false_and, and_false, or_true, true_or, or_false, false_or, not_true_eq_false, not_false_eq_true, Bool.false_eq_true, reduceCtorEq, eq_self]
  · refine ⟨false, h, false, h, ?_, ?_, rfl, n_R_more X⟩
    · by_cases c2 : a < 0
      · simp (disch := omega) only [m_w_of, n_ltT, n_ltF, n_leT, n_leF, n_eqT, n_eqF, n_bs, n_bn, ↓reduceIte, true_and, and_true, and_self, false_and, and_false, or_true, true_or, or_false, false_or, not_true_eq_false, not_false_eq_true, Bool.false_eq_true, reduceCtorEq, eq_self]
      · simp (disch := omega) only [m_w_of, n_ltT, n_ltF, n_leT, n_leF, n_eqT, n_eqF, n_bs, n_bn, ↓reduceIte, true_and, and_true, and_self, false_and, and_false, or_true, true_or, or_false, false_or, not_true_eq_false, not_false_eq_true, Bool.false_eq_true, reduceCtorEq, eq_self]
    · rw [m_w_of a1 a2, n_in (by omega) (by omega) (by omega) (by omega) (by omega) (by omega), n_bs, decide_eq_false c]
      simp (disch := omega) only [m_w_of, n_ltT, n_ltF, n_leT, n_leF, n_eqT, n_eqF, n_bs, n_bn, ↓reduceIte, true_and, and_true, and_self, false_and, and_false, or_true, true_or, or_false, false_or, not_true_eq_false, not_false_eq_true, Bool.false_eq_true, reduceCtorEq, eq_self]
theorem n_s_go {h : m_H} {k : Int} (X : n_R h k) (a : Int) (a1 : -2147483648 ≤ a) (a2 : a < 2147483648) : n_step h k (t10_go 1 a) (t11_go 127 a) := by
  have X' := X
  obtain ⟨I, gs, bud, x1, x2, x3, x4, x5, x6, x7⟩ := X'
  have t1 := n_t1 I.2
  have t2 := n_t2 I.2
  have p := n_p1_0 I.2
  have t127 := n_t127 I.2
  have N := x3.1
  have G := gs.1
  unfold n_shN at N
  unfold n_shB at G
  unfold n_step t10_go t11_go
  by_cases c : 0 ≤ a ∧ a ≤ 100
  · have em : m_min 400 (m_g h 2 3 + a) = min 400 (m_g h 127 18 + a) := by rw [n_min (by omega) (by omega) (by omega) (by omega), N.2.2.1]
    refine ⟨min 400 (m_g h 127 18 + a), m_p h 2 3 (min 400 (m_g h 127 18 + a)), min 400 (m_g h 127 18 + a), m_p (m_p h 2 3 (min 400 (m_g h 127 18 + a))) 127 18 (min 400 (m_g h 127 18 + a)), ?_, ?_, rfl, n_two X (by omega) rfl rfl (by omega) ?_ ?_⟩
    · have I1 : n_I (m_p h 2 3 (min 400 (m_g h 127 18 + a))) := n_I_p I (by rw [n_t2 I.2]; omega) (fun e => by rw [n_t2 I.2] at e; omega) rfl
      have u1 := n_t1 I1.2
      have u2 := n_t2 I1.2
      have up := n_p1_0 I1.2
      simp (disch := omega) only [m_w_of, n_ltT, n_ltF, n_leT, n_leF, n_eqT, n_eqF, n_bs, n_bn, ↓reduceIte, true_and, and_true, and_self, false_and, and_false, or_true, true_or, or_false, false_or, not_true_eq_false, not_false_eq_true, Bool.false_eq_true, reduceCtorEq, eq_self, p, em, up]
      rw [m_g_p, if_pos ⟨rfl, rfl⟩]
    · rw [m_w_of a1 a2, n_in (by omega) (by omega) (by omega) (by omega) (by omega) (by omega), n_bs, decide_eq_true c]
      by_cases c2 : 400 < m_g h 127 18 + a
      · have em2 : min 400 (m_g h 127 18 + a) = 400 := by omega
        rw [em2]
        simp (disch := omega) only [m_w_of, n_ltT, n_ltF, n_leT, n_leF, n_eqT, n_eqF, n_bs, n_bn, ↓reduceIte, true_and, and_true, and_self, false_and, and_false, or_true, true_or, or_false, false_or, not_true_eq_false, not_false_eq_true, Bool.false_eq_true, reduceCtorEq, eq_self, m_g_p, m_t_p]
      · have em2 : min 400 (m_g h 127 18 + a) = m_g h 127 18 + a := by omega
        rw [em2]
        simp (disch := omega) only [m_w_of, n_ltT, n_ltF, n_leT, n_leF, n_eqT, n_eqF, n_bs, n_bn, ↓reduceIte, true_and, and_true, and_self, false_and, and_false, or_true, true_or, or_false, false_or, not_true_eq_false, not_false_eq_true, Bool.false_eq_true, reduceCtorEq, eq_self, m_g_p, m_t_p]
    · unfold n_shB
      simp (disch := omega) only [m_g_p, m_w_of, n_ltT, n_ltF, n_leT, n_leF, n_eqT, n_eqF, n_bs, n_bn, ↓reduceIte, true_and, and_true, and_self, false_and, and_false, or_true, true_or, or_false, false_or, not_true_eq_false, not_false_eq_true, Bool.false_eq_true, reduceCtorEq, eq_self]
    · unfold n_shN
      simp (disch := omega) only [m_g_p, m_w_of, n_ltT, n_ltF, n_leT, n_leF, n_eqT, n_eqF, n_bs, n_bn, ↓reduceIte, true_and, and_true, and_self, false_and, and_false, or_true, true_or, or_false, false_or, not_true_eq_false, not_false_eq_true, Bool.false_eq_true, reduceCtorEq, eq_self]
  · refine ⟨-1, h, -1, h, ?_, ?_, rfl, n_R_more X⟩
    · by_cases c2 : a < 0
      · simp (disch := omega) only [m_w_of, n_ltT, n_ltF, n_leT, n_leF, n_eqT, n_eqF, n_bs, n_bn, ↓reduceIte, true_and, and_true, and_self, false_and, and_false, or_true, true_or, or_false, false_or, not_true_eq_false, not_false_eq_true, Bool.false_eq_true, reduceCtorEq, eq_self]
      · simp (disch := omega) only [m_w_of, n_ltT, n_ltF, n_leT, n_leF, n_eqT, n_eqF, n_bs, n_bn, ↓reduceIte, true_and, and_true, and_self, false_and, and_false, or_true, true_or, or_false, false_or, not_true_eq_false, not_false_eq_true, Bool.false_eq_true, reduceCtorEq, eq_self]
    · rw [m_w_of a1 a2, n_in (by omega) (by omega) (by omega) (by omega) (by omega) (by omega), n_bs, decide_eq_false c]
      simp (disch := omega) only [m_w_of, n_ltT, n_ltF, n_leT, n_leF, n_eqT, n_eqF, n_bs, n_bn, ↓reduceIte, true_and, and_true, and_self, false_and, and_false, or_true, true_or, or_false, false_or, not_true_eq_false, not_false_eq_true, Bool.false_eq_true, reduceCtorEq, eq_self]
