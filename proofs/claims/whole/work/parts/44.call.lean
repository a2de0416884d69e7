/-! CALLS: strip -/
/-- n_Rhand reads the hand alone -/
theorem n_Rhand_kp {h h' g : m_H} (I : n_I h) (X : n_Rhand h g) (e : ∀ b, b < m_n h → b ≠ 2 → b ≠ 3 → ∀ j, m_g h' b j = m_g h b j) : n_Rhand h' g := by
  have l := n_wf_lt I.1 (n_t8 I.2)
  have k20 := (n_wf_row I.1 (n_t8 I.2)).2.1
  have t2 := n_t2 I.2
  have t3 := n_t3 I.2
  have e8 := e 8 l.1 (by omega) (by omega)
  have ea := e (m_g h 8 0) l.2.1 (fun q => by rw [q] at k20; omega) (fun q => by rw [q] at k20; omega)
  have er : ∀ j, n_rg h' 8 j = n_rg h 8 j := fun j => by unfold n_rg; rw [e8, e8, ea]
  unfold n_Rhand at *
  simp only [e8, er]
  exact X
theorem n_Rhand_g {h g g' : m_H} (X : n_Rhand h g) (e : ∀ j, m_g g' 129 j = m_g g 129 j) (e2 : m_g g' 127 16 = m_g g 127 16) : n_Rhand h g' := by
  unfold n_Rhand at *
  simp only [e, e2]
  exact X
theorem n_layStrip {h : m_H} {n : Int} (I : n_I h) (c1 : 0 ≤ m_g h 2 1) (c2 : m_g h 2 1 < 100) (n1 : 1 ≤ n) (n2 : n ≤ 300) (sv : n_sv h 8) : ∃ h', t7_layStrip 2 8 n h = some (m_g h 2 1, h') ∧ n_new h h' 0 (-1) (-1) 0 0 0 0 n (fun j => n_rg h 8 (0 + j)) := by
  obtain ⟨h1, e1, A1⟩ := n_begin (kd := 0) I c1 c2 n1 n2
  have A1' := A1
  obtain ⟨I1, K, B1, ⟨ka, kr, kn⟩, FA, ⟨R1, R2⟩, C2, C3⟩ := A1'
  have hn := I.2.2.2.2
  have H : ∀ b, b < m_n h → b ≠ 2 → b ≠ 3 → ∀ j, m_g h1 b j = m_g h b j := fun b q1 q2 q3 j => K.2.2.1 b q1 (by simp; omega) List.not_mem_nil n_no j
  have l := n_wf_lt I.1 (n_t8 I.2)
  have k20 := (n_wf_row I.1 (n_t8 I.2)).2.1
  have t2 := n_t2 I.2
  have t3 := n_t3 I.2
  have er : ∀ j, n_rg h1 8 j = n_rg h 8 j := fun j => by unfold n_rg; rw [H 8 l.1 (by omega) (by omega), H 8 l.1 (by omega) (by omega), H _ l.2.1 (fun q => by rw [q] at k20; omega) (fun q => by rw [q] at k20; omega)]
  obtain ⟨h2, e2, A2⟩ := n_fillPartC (v := m_n h + 1) (w := 8) (b := 0) (n := n) I1.1 kr (n_t8 I1.2) (by omega) (by omega) (by omega) (by omega) (by omega) (fun j => by rw [er]; exact sv j)
  have AN := n_new_rw I A1 A2
  have AN' := AN
  obtain ⟨J1, JK, JB, ⟨ja, jr, jn⟩, JA, JR, J2, J3⟩ := AN'
  refine ⟨h2, ?_, ?_⟩
  · unfold t7_layStrip
    rw [if_pos t2, e1, n_bs]
    show (if m_t h1 (m_n h) = 8 then if m_t h1 (m_g h1 (m_n h) 3) = 5 then t5_fillPart (m_g h1 (m_n h) 3) 8 0 n h1 >>= _ else none else none) = _
    rw [if_pos ka, FA.2.2.2.1, if_pos kr, e2, n_bs]
    show (if m_t h2 (m_n h) = 8 then some (m_g h2 (m_n h) 0, h2) else none) = _
    rw [if_pos ja, JA.1]
  · have : (fun j => n_rg h1 8 (0 + j)) = (fun j => n_rg h 8 (0 + j)) := funext fun j => er _
    rw [this] at AN
    exact AN
theorem n_stripR {g : m_H} {n : Int} (I : n_I g) (G : n_gs g) (c1 : 1 ≤ n) (c2 : n ≤ m_g g 127 16) (c3 : m_g g 127 16 ≤ 300) (r1 : m_g g 127 14 + 1 ≤ 100) (r2 : m_g g 127 15 + n ≤ 20000) : ∃ g1, t11_strip 127 n g = some (m_g g 127 14, n_hl g1 n) ∧ n_newR g g1 0 (-1) (-1) 0 0 0 0 n (fun j => m_g g 129 j) := by
  have B := G.1
  unfold n_shB at B
  obtain ⟨ga, ea, NA⟩ := n_comes (kd := 0) (one := -1) (oth := -1) (bg := 0) I B.1 (by omega) (by omega) (by omega) (fun j => m_g g 129 j)
  rw [if_pos rfl, if_pos rfl, if_pos rfl] at NA
  obtain ⟨gb, eb, NB⟩ := n_itR (fun i g' => t11_strip_c36 127 n (m_g g 127 14) i g') (fun i g' => n_newR g g' 0 (-1) (-1) 0 0 0 0 i (fun j => m_g g 129 j)) 0 n (by omega) (fun i g' i1 i2 N => by
    have J := n_newR_I I N
    have e9 : m_g g' 129 i = m_g g 129 i := N.2.1 129 i (by omega) (by omega) (by omega) (by omega)
    obtain ⟨g2, e2, N2⟩ := n_adds (v := m_g g 129 i) I N B.1 (by omega) i1 (by omega) B.2.2.1 (by omega) rfl
    refine ⟨g2, ?_, N2⟩
    show t11_strip_c36 127 n (m_g g 127 14) i g' = t11_strip_c36 127 n (m_g g 127 14) (i + 1) g2
    have t9 := n_t129 J.2
    have l9 := n_l129 J.2
    rw [t11_strip_c36, m_w_of (by omega) (by omega), m_w_of (by omega) (by omega), if_pos i2, if_pos (n_t127 J.2), n_p127_1 J.2, if_pos (by omega), e9, e2, n_bs]) ga NA
  have J := n_newR_I I NB
  have e16 : m_g gb 127 16 = m_g g 127 16 := NB.2.1 127 16 (by omega) (by omega) (by omega) (by omega)
  refine ⟨gb, ?_, NB⟩
  have ei := n_in (a := n) (b := 1) (c := m_g g 127 16) (h := g) (by omega) (by omega) (by omega) (by omega) (by omega) (by omega)
  rw [decide_eq_true ⟨c1, c2⟩] at ei
  have er := n_isRoom (a := 1) (b := n) I G (by omega) (by omega) (by omega) (by omega)
  rw [decide_eq_true ⟨r1, r2⟩] at er
  unfold t11_strip
  rw [if_pos (n_t127 I.2), m_w_of (by omega) (by omega), m_w_of (by omega) (by omega), ei, n_bs]
  show (if true = true then if m_t g 127 = 11 then t11_isRoom 127 1 n g >>= _ else none else _) = _
  rw [if_pos rfl, if_pos (n_t127 I.2), er, n_bs]
  show (if true = true then if m_t g 127 = 11 then t11_comes 127 0 (-1) (-1) 0 g >>= _ else none else _) = _
  rw [if_pos rfl, if_pos (n_t127 I.2), ea, n_bs]
  refine eb.trans ?_
  show t11_strip_c36 127 n (m_g g 127 14) n gb = _
  rw [t11_strip_c36, m_w_of (by omega) (by omega), if_neg (by omega), if_pos (n_t127 J.2), n_handLoses J (by omega) (by omega) (by omega), n_bs]
theorem n_stripR_n {g : m_H} {n : Int} (I : n_I g) (G : n_gs g) (i1 : -2147483648 ≤ n) (i2 : n < 2147483648) (c2 : 0 ≤ m_g g 127 16) (c3 : m_g g 127 16 ≤ 300) (c : ¬ (1 ≤ n ∧ n ≤ m_g g 127 16 ∧ m_g g 127 14 + 1 ≤ 100 ∧ m_g g 127 15 + n ≤ 20000)) : t11_strip 127 n g = some (-1, g) := by
  have ei := n_in (a := n) (b := 1) (c := m_g g 127 16) (h := g) (by omega) (by omega) (by omega) (by omega) (by omega) (by omega)
  unfold t11_strip
  rw [if_pos (n_t127 I.2), m_w_of (by omega) (by omega), m_w_of (by omega) (by omega), ei, n_bs]
  by_cases d : 1 ≤ n ∧ n ≤ m_g g 127 16
  · have er := n_isRoom (a := 1) (b := n) I G (by omega) (by omega) (by omega) (by omega)
    rw [decide_eq_true d]
    show (if true = true then if m_t g 127 = 11 then t11_isRoom 127 1 n g >>= _ else none else _) = _
    rw [if_pos rfl, if_pos (n_t127 I.2), er, n_bs, decide_eq_false (by omega)]
    rfl
  · rw [decide_eq_false d]
    rfl
theorem n_s_strip {h : m_H} {k : Int} (X : n_R h k) (n : Int) (i1 : -2147483648 ≤ n) (i2 : n < 2147483648) : n_step h k (t10_strip 1 n) (t11_strip 127 n) := by
  have X' := X
  obtain ⟨I, gs, bud, x1, x2, x3, x4, x5, x6, x7⟩ := X'
  have B := gs.1
  unfold n_shB at B
  have N := x3.1
  have N1 := N.1
  have N2 := N.2.1
  have xh := x1
  obtain ⟨y1, y2, y3, y4⟩ := xh
  have t1 := n_t1 I.2
  have t2 := n_t2 I.2
  have t8 := n_t8 I.2
  unfold n_step
  by_cases c : 1 ≤ n ∧ n ≤ m_g h 127 16 ∧ m_g h 127 14 + 1 ≤ 100 ∧ m_g h 127 15 + n ≤ 20000
  · have sv : n_sv h 8 := fun j => by
      by_cases q : 0 ≤ j ∧ j < m_g h 127 16
      · have := y4 j q.1 q.2; omega
      · unfold n_rg; rw [if_neg (by omega)]; omega
    obtain ⟨h1, e1, A1⟩ := n_layStrip (n := n) I (by omega) (by omega) c.1 (by omega) sv
    have A1' := A1
    obtain ⟨I1, K, B1, ⟨ka, kr, kn⟩, FA, ⟨R1, R2⟩, C2, C3⟩ := A1'
    have hn := I.2.2.2.2
    have H : ∀ b, b < m_n h → b ≠ 2 → b ≠ 3 → ∀ j, m_g h1 b j = m_g h b j := fun b q1 q2 q3 j => K.2.2.1 b q1 (by simp; omega) List.not_mem_nil n_no j
    have x1a := n_Rhand_kp I x1 H
    have e8 : m_g h1 8 1 = m_g h 127 16 := x1a.1
    have sv1 : n_sv h1 8 := fun j => by
      by_cases q : 0 ≤ j ∧ j < m_g h 127 16
      · have := x1a.2.2.2 j q.1 q.2; omega
      · unfold n_rg; rw [if_neg (by omega)]; omega
    obtain ⟨h2, e2, A2⟩ := n_dropFirst (n := n) I1.1 (n_t8 I1.2) (by omega) (by omega) (by omega) sv1
    have I2 := n_I_rw I1 (n_t8 I1.2) A2
    have hA : ∀ b ∈ [(2 : Int), 3], n_sf h b ∧ (b < 127 ∨ 312 ≤ b) := n_in2 ⟨n_sf2 I, by omega⟩ ⟨n_sfa I (by omega) (by rw [n_t3 I.2]; omega) (Or.inl (by rw [n_t3 I.2]; omega)), by omega⟩
    have KP : n_kp h h2 [2, 3] [8] := n_kp_trans K (n_kp_rw I1.1 (n_t8 I1.2) A2) I.1 (n_in1 (Or.inl t8))
    have ref := fun b j (b1 : 127 ≤ b) (b2 : b < 312) => n_kp_ref I KP (fun b hb => (hA b hb).2) (n_sg8 I) b1 b2 j
    have S0 := n_Rsh_g (g' := h2) x3 (fun b j => ref b j)
    have gs1 := n_gs_g (g' := h2) gs (fun b j => ref b j)
    have r14 := ref 127 14 (by omega) (by omega)
    have r15 := ref 127 15 (by omega) (by omega)
    have r16 := ref 127 16 (by omega) (by omega)
    obtain ⟨g1, f1, M1⟩ := n_stripR (n := n) I2 gs1 c.1 (by omega) (by omega) (by omega) (by omega)
    have J1 := n_newR_I I2 M1
    have q129 : ∀ j, m_g g1 129 j = m_g h2 129 j := fun j => M1.2.1 129 j (by omega) (by omega) (by omega) (by omega)
    have q16 : m_g g1 127 16 = m_g h2 127 16 := M1.2.1 127 16 (by omega) (by omega) (by omega) (by omega)
    have xg1 : n_Rhand h1 g1 := n_Rhand_g x1a (fun j => by rw [q129, ref 129 j (by omega) (by omega)]) (by rw [q16, r16])
    have Y := n_hand_drop (n := n) xg1 (by omega) (by omega) A2
    have SA := n_add_R I S0 gs1 A1 M1 (fun j j1 j2 => by
      show n_rg h 8 (0 + j) = m_g h2 129 j
      rw [ref 129 j (by omega) (by omega), show 0 + j = j by omega]
      exact (y4 j j1 (by omega)).1)
    have SB := n_Rsh_rw I1 SA (n_t8 I1.2) (by omega) A2
    have SC := n_Rsh_kr SB (n_hl_kr g1 n) (by decide)
    have GA := n_add_gs gs1 M1 (by omega) (by omega) c.1 (by omega) (by omega) (by omega) (by omega) (by omega) (by omega) (by omega) (by omega) (fun j j1 j2 => by
      show -32768 ≤ m_g h2 129 j ∧ m_g h2 129 j ≤ 32767
      rw [ref 129 j (by omega) (by omega)]
      exact (y4 j j1 (by omega)).2)
    have GC := n_gs_kr GA (n_hl_kr g1 n) (by decide)
    have KR := n_kr_trans (n_newR_kr M1) (n_hl_kr g1 n)
    have ph := n_new_phi I A1
    have Bu : n_bud h2 (k + 1) := n_bud_rw I1 (by decide) A2 (by unfold n_bud at *; omega)
    have e11 : m_g h2 2 11 = m_g h 2 11 + 1 := by rw [n_rw_cell I1 (n_t8 I1.2) A2 (n_sf2 I1), C2]; rfl
    have e121 : ∀ j, m_g h2 121 j = m_g h 121 j := fun j => by
      rw [n_rw_cell I1 (n_t8 I1.2) A2 (n_sfa I1 (a := 121) (by omega) (by rw [n_t121 I1.2]; omega) (Or.inl (by rw [n_t121 I1.2]; omega))), H 121 (by omega) (by omega) (by omega)]
    have cm := fun b j (hb : b < 127 ∨ 312 ≤ b) => n_kr_comp KR hb j
    have a9 := n_t129 I2.2
    have ar : ∀ b, (b = 129 ∨ b = 128 ∨ b = 149 ∨ (130 ≤ b ∧ b ≤ 141)) → n_ar h2 b := fun b hb => by
      have e := I2.2.1 b (by omega) (by omega)
      have AA : ((List.range 22).all (fun i => decide (n_kT.getD (i + 127) 0 = 20))) = true := by decide +kernel
      rw [List.all_eq_true] at AA
      have := AA (b.toNat - 128) (List.mem_range.mpr (by omega))
      rw [decide_eq_true_eq, show b.toNat - 128 + 127 = b.toNat - 1 by omega] at this
      exact Or.inl (by rw [e.1]; exact this)
    refine ⟨m_g h 2 1, h2, m_g h2 127 14, n_hl g1 n, ?_, f1, by rw [r14, N1], ?_⟩
    · unfold t10_strip
      have er := n_hasRoom (a := 1) (b := n) I (by omega) (by omega) (by omega) (by omega) (by omega) (by omega) (by omega) (by omega)
      rw [decide_eq_true (by omega)] at er
      rw [m_w_of i1 i2, if_neg (by omega), if_pos t1, n_p1_1 I.2, if_pos t8, n_size t8, n_bs]
      show (if m_w (m_g h 8 1) < n then _ else if m_t h 1 = 10 then if m_t h (m_g h 1 0) = 7 then t7_hasRoom (m_g h 1 0) 1 n h >>= _ else none else none) = _
      rw [m_w_of (by omega) (by omega), if_neg (by omega), if_pos t1, n_p1_0 I.2, if_pos t2, er, n_bs]
      show (if true = true then if m_t h 1 = 10 then if m_t h (m_g h 1 0) = 7 then t7_layStrip (m_g h 1 0) (m_g h 1 1) n h >>= _ else none else none else _) = _
      rw [if_pos rfl, if_pos t1, n_p1_0 I.2, if_pos t2, n_p1_1 I.2, e1, n_bs]
      show (if m_t h1 1 = 10 then if m_t h1 (m_g h1 1 1) = 5 then t5_dropFirst (m_g h1 1 1) n h1 >>= _ else none else none) = _
      rw [if_pos (n_t1 I1.2), n_p1_1 I1.2, if_pos (n_t8 I1.2), e2, n_bs]
    · refine n_fin X KP KR hA (n_in2 (Or.inl (by decide)) (Or.inl (by decide))) (n_in1 ⟨t8, rfl⟩) (fun b hb => ?_) (fun q hq => ?_) I2 Bu GC SC (n_Rhand_gg I2 KR Y) (n_Rm_new ((cm _ _ (by omega)).trans (e121 11)) ((cm _ _ (by omega)).trans (e121 12)) (by rw [cm _ _ (by omega)]; omega) (by rw [cm _ _ (by omega)]; omega) x7)
      · simp at hb
        exact ⟨ar b (by omega), by simp; omega⟩
      · simp at hq
        simp
        omega
  · refine ⟨-1, h, -1, h, ?_, n_stripR_n I gs i1 i2 y2 y3 c, rfl, n_R_more X⟩
    unfold t10_strip
    by_cases d1 : n < 1
    · rw [m_w_of i1 i2, if_pos d1]
    · rw [m_w_of i1 i2, if_neg d1, if_pos t1, n_p1_1 I.2, if_pos t8, n_size t8, n_bs]
      show (if m_w (m_g h 8 1) < n then _ else if m_t h 1 = 10 then if m_t h (m_g h 1 0) = 7 then t7_hasRoom (m_g h 1 0) 1 n h >>= _ else none else none) = _
      rw [m_w_of (by omega) (by omega)]
      by_cases d2 : m_g h 8 1 < n
      · rw [if_pos d2]
      · have er := n_hasRoom (a := 1) (b := n) I (by omega) (by omega) (by omega) (by omega) (by omega) (by omega) (by omega) (by omega)
        rw [decide_eq_false (by omega)] at er
        rw [if_neg d2, if_pos t1, n_p1_0 I.2, if_pos t2, er, n_bs]
        rfl
