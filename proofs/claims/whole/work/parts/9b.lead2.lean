/-! CALLS: lead: a step back, both -/
theorem n_fac67 {h : m_H} {k a kk : Int} (X : n_R h kk) (C : n_pc h k a) (o x : Int) : n_I (n_h2 h 106 6 7 o x) ∧ n_scc (n_h2 h 106 6 7 o x) h k a ∧ (m_g (n_h2 h 106 6 7 o x) 106 2 = a ∧ m_g (n_h2 h 106 6 7 o x) 106 6 = o ∧ m_g (n_h2 h 106 6 7 o x) 106 7 = x) ∧ n_Rsh (n_h2 h 106 6 7 o x) h ∧ (∀ j, m_g (n_h2 h 106 6 7 o x) 112 j = m_g h 112 j) ∧ m_t (n_h2 h 106 6 7 o x) 106 = 2 := by
  have R := n_R67 X o x
  have S := n_Rsh_g R.2.2.2.2.2.1 (g' := h) (fun b j b1 b2 => (n_h2_o (Or.inl (by omega))).symm)
  exact ⟨R.1, n_scc_S C.1 rfl (fun b j hb => n_h2_o (Or.inl (by omega))), ⟨(n_h2_o (Or.inr ⟨by omega, by omega⟩)).trans C.2.1, (n_h2_1 (by omega)).1, (n_h2_1 (by omega)).2⟩, S, fun j => n_h2_o (Or.inl (by omega)), n_t106 R.1.2⟩
theorem n_lenC {h H : m_H} {o : Int} (I : n_I H) (e : ∀ j, m_g H 112 j = m_g h 112 j) (o0 : 0 ≤ o) (o1 : o < 40) : t2_length 106 o H = some (m_g h 112 o, H) := by
  have l := n_l112 I.2
  unfold t2_length
  rw [if_pos (n_t106 I.2), n_p106_4 I.2, n_entry_y (n_t112 I.2) (by omega) o0 (by omega), n_bs, e]
theorem n_stepC {h : m_H} {k a o x kk : Int} (X : n_R h kk) (C : n_pc h k a) (o0 : 0 ≤ o) (o1 : o < m_g h 151 k) (v1 : 2 ≤ m_g h (153 + k) o) (v2 : m_g h (153 + k) o ≠ 12) (x0 : 0 ≤ x) (x1 : x < m_g h 286 o) : t2_stepBack 106 (n_h2 h 106 6 7 o x) = some ((), n_h2 h 106 6 7 (n_ls h k o x).1 (n_ls h k o x).2) := by
  have G := X.2.1
  have c3 := C.1.2.2.1
  have B := n_scc_b C.1 o0 o1
  have bv := B.2.1
  obtain ⟨-, -, -, -, -, p, -, -, pl⟩ := C.2.2.1
  have L := pl o o0 o1
  clear pl
  have q1 := B.2.2.2.1 (by omega)
  have len := fun y (y0 : 0 ≤ y) (y1 : y < m_g h 151 k) (yv : m_g h (153 + k) y ≠ 12) => (p y y0 y1).2.2.2.1 yv
  have n1 := len (m_g h (163 + k) o) q1.1 (by omega) q1.2.2
  have n0 := (len o o0 o1 v2).2
  clear p
  have od := n_scc_o C.1 o0 o1
  obtain ⟨J, D, ⟨q2, q6, q7⟩, S, q112, t1⟩ := n_fac67 X C o x
  obtain ⟨J', D', ⟨q2', q6', q7'⟩, S', q112', t1'⟩ := n_fac67 X C (m_g h (163 + k) o) x
  have ocd := n_scc_o D o0 o1
  have eL := n_lenC J' q112' q1.1 (by omega)
  have wv := m_w_of (x := m_g h (153 + k) o) (by omega) (by omega)
  have cell0 : m_g h (153 + k) o ≠ 3 → m_g (n_h2 h 106 6 7 o x) (m_g (n_h2 h 106 6 7 o x) a 0) (8 * o + (3 + 0)) = m_g h (183 + k) o := fun z => by
    rw [show 8 * o + (3 + (0 : Int)) = 8 * o + 3 by omega]
    exact ocd.2.2.2.1 z
  unfold t2_stepBack n_ls
  by_cases c2 : m_g h (153 + k) o = 2
  · rw [if_pos c2]
    rw [if_pos t1, q6, n_bs, q2, if_pos (n_scc_t D), n_oneC J D o0 o1, n_bs]
    dsimp only
    rw [if_pos t1, q2, if_pos (n_scc_t D), n_numC (w := 0) J D o0 o1 (by omega) (by omega), n_bs]
    dsimp only
    rw [if_pos t1, n_h2_p1, n_bs, if_pos t1', q2', if_pos (n_scc_t D'), n_verbC J' D' o0 o1, n_bs]
    dsimp only
    rw [wv]
    rw [if_pos c2, if_pos t1', q7', cell0 (by omega), n_h2_p2 (by omega), n_bs]
  rw [if_neg c2]
  by_cases c3' : m_g h (153 + k) o = 3
  · rw [if_pos c3']
    rw [if_pos t1, q6, n_bs, q2, if_pos (n_scc_t D), n_oneC J D o0 o1, n_bs]
    dsimp only
    rw [if_pos t1, q2, if_pos (n_scc_t D), n_numC (w := 0) J D o0 o1 (by omega) (by omega), n_bs]
    dsimp only
    rw [if_pos t1, n_h2_p1, n_bs, if_pos t1', q2', if_pos (n_scc_t D'), n_verbC J' D' o0 o1, n_bs]
    dsimp only
    rw [wv]
    rw [if_neg c2, if_pos c3', if_pos t1', eL, n_bs, n1.1]
    dsimp only
    rw [if_pos t1', q7', n_h2_p2 (by omega), n_bs]
  rw [if_neg c3']
  have cl := cell0 c3'
  have b7 := B.2.2.2.2.2.2.1 c3'
  by_cases c4 : m_g h (153 + k) o = 4
  · have y := B.2.2.2.2.2.2.2.2.2.1 c4
    have e1 := (n_scc_o D' o0 o1).2.2.2.2.1 (by omega)
    have xa := n_mulq x0 (show x ≤ 1500 by omega) b7.1 (show m_g h (183 + k) o ≤ 8 by omega)
    have eq : t2_quotient (x * m_g h (183 + k) o) (m_g h (193 + k) o) (n_h2 h 106 6 7 (m_g h (163 + k) o) x) = some (Int.tdiv (x * m_g h (183 + k) o) (m_g h (193 + k) o), n_h2 h 106 6 7 (m_g h (163 + k) o) x) := by
      unfold t2_quotient
      rw [m_w_of (x := m_g h (193 + k) o) (by omega) (by omega), if_neg (by omega), if_neg (by omega), m_w_of (x := x * m_g h (183 + k) o) (by omega) (by omega)]
    rw [if_pos c4]
    rw [if_pos t1, q6, n_bs, q2, if_pos (n_scc_t D), n_oneC J D o0 o1, n_bs]
    dsimp only
    rw [if_pos t1, q2, if_pos (n_scc_t D), n_numC (w := 0) J D o0 o1 (by omega) (by omega), n_bs]
    dsimp only
    rw [if_pos t1, n_h2_p1, n_bs, if_pos t1', q2', if_pos (n_scc_t D'), n_verbC J' D' o0 o1, n_bs]
    dsimp only
    rw [wv]
    rw [if_neg c2, if_neg c3', if_pos c4, if_pos t1', q2', if_pos (n_scc_t D'), n_numC (w := 1) J' D' o0 o1 (by omega) (by omega), n_bs]
    dsimp only
    rw [q7', cl, show 8 * o + (3 + (1 : Int)) = 8 * o + 4 by omega, e1, eq, n_bs]
    dsimp only
    rw [if_pos t1', n_h2_p2 (by omega), n_bs]
  rw [if_neg c4]
  by_cases c5 : m_g h (153 + k) o = 5
  · have y := B.2.2.2.2.2.1 c5
    rw [if_pos c5]
    rw [if_pos t1, q6, n_bs, q2, if_pos (n_scc_t D), n_oneC J D o0 o1, n_bs]
    dsimp only
    rw [if_pos t1, q2, if_pos (n_scc_t D), n_numC (w := 0) J D o0 o1 (by omega) (by omega), n_bs]
    dsimp only
    rw [if_pos t1, n_h2_p1, n_bs, if_pos t1', q2', if_pos (n_scc_t D'), n_verbC J' D' o0 o1, n_bs]
    dsimp only
    rw [wv]
    rw [if_neg c2, if_neg c3', if_neg c4, if_pos c5, if_pos t1', eL, n_bs, n1.1, q7']
    dsimp only
    rw [m_w_of (x := x) (by omega) (by omega), m_w_of (x := m_g h 286 (m_g h (163 + k) o)) (by omega) (by omega)]
    by_cases d : x < m_g h 286 (m_g h (163 + k) o)
    · rw [if_pos d, if_pos d]
    · obtain ⟨J2, D2, ⟨r2, r6, r7⟩, S2, r112, t2⟩ := n_fac67 X C (m_g h (173 + k) o) x
      have eL2 := n_lenC J2 r112 q1.1 (by omega)
      rw [if_neg d, if_neg d, if_pos t1', q2', if_pos (n_scc_t D'), n_otherC J' D' o0 o1, n_bs]
      dsimp only
      rw [if_pos t1', n_h2_p1, n_bs, if_pos t2, eL2, n_bs, n1.1]
      dsimp only
      rw [if_pos t2, r7, cl, n_h2_p2 (by omega), n_bs]
  rw [if_neg c5]
  by_cases c6 : m_g h (153 + k) o = 6
  · rw [if_pos c6]
    rw [if_pos t1, q6, n_bs, q2, if_pos (n_scc_t D), n_oneC J D o0 o1, n_bs]
    dsimp only
    rw [if_pos t1, q2, if_pos (n_scc_t D), n_numC (w := 0) J D o0 o1 (by omega) (by omega), n_bs]
    dsimp only
    rw [if_pos t1, n_h2_p1, n_bs, if_pos t1', q2', if_pos (n_scc_t D'), n_verbC J' D' o0 o1, n_bs]
    dsimp only
    rw [wv]
    rw [if_neg c2, if_neg c3', if_neg c4, if_neg c5, if_pos c6, if_pos t1', eL, n_bs, n1.1]
    dsimp only
    rw [m_w_of (x := m_g h 286 (m_g h (163 + k) o)) (by omega) (by omega), if_neg (by omega), if_pos t1', eL, n_bs, n1.1]
    dsimp only
    rw [m_w_of (x := m_g h 286 (m_g h (163 + k) o)) (by omega) (by omega), if_neg (by omega), if_pos t1', q7', m_w_of (x := x) (by omega) (by omega), n_h2_p2 (by omega), n_bs]
  rw [if_neg c6]
  by_cases c8 : m_g h (153 + k) o = 8
  · have z := L.2.2.2.2 c8
    have mb := G.2.2.1 (m_g h (183 + k) o) b7.1 z.1
    unfold n_macB at mb
    have Bm := G.1
    unfold n_shB at Bm
    have em := n_machineOf_y (i := m_g h (183 + k) o) J' S' G ⟨b7.1, z.1⟩
    have mm := S'.2.2.1 (m_g h (183 + k) o) b7.1 z.1
    unfold n_mach at mm
    have xa := n_mulq x0 (show x ≤ 1500 by omega) (show 0 ≤ 1000 + m_g h 142 (m_g h (183 + k) o) by omega) (show 1000 + m_g h 142 (m_g h (183 + k) o) ≤ 1050 by omega)
    rw [if_pos c8]
    rw [if_pos t1, q6, n_bs, q2, if_pos (n_scc_t D), n_oneC J D o0 o1, n_bs]
    dsimp only
    rw [if_pos t1, q2, if_pos (n_scc_t D), n_numC (w := 0) J D o0 o1 (by omega) (by omega), n_bs]
    dsimp only
    rw [if_pos t1, n_h2_p1, n_bs, if_pos t1', q2', if_pos (n_scc_t D'), n_verbC J' D' o0 o1, n_bs]
    dsimp only
    rw [wv]
    rw [if_neg c2, if_neg c3', if_neg c4, if_neg c5, if_neg c6, if_neg (show ¬ m_g h (153 + k) o = 7 by omega), if_pos c8, if_pos t1', n_p106_0 J'.2, if_pos (n_t2 J'.2), cl, em, n_bs]
    dsimp only
    rw [if_neg (by omega), if_pos t1', if_pos mm.1.1]
    unfold t0_copyPace
    rw [if_pos mm.1.1, n_bs]
    dsimp only
    rw [if_pos t1', q7', mm.2.1, m_w_of (x := x * (1000 + m_g h 142 (m_g h (183 + k) o))) (by omega) (by omega), n_h2_p2 (by omega), n_bs]
  · rw [if_neg c8]
    rw [if_pos t1, q6, n_bs, q2, if_pos (n_scc_t D), n_oneC J D o0 o1, n_bs]
    dsimp only
    rw [if_pos t1, q2, if_pos (n_scc_t D), n_numC (w := 0) J D o0 o1 (by omega) (by omega), n_bs]
    dsimp only
    rw [if_pos t1, n_h2_p1, n_bs, if_pos t1', q2', if_pos (n_scc_t D'), n_verbC J' D' o0 o1, n_bs]
    dsimp only
    rw [wv]
    rw [if_neg c2, if_neg c3', if_neg c4, if_neg c5, if_neg c6, if_neg c8]
    by_cases c7 : m_g h (153 + k) o = 7
    · rw [if_pos c7]
    · rw [if_neg c7]
theorem n_stepR {g : m_H} {k a o x : Int} (I : n_I g) (G : n_gs g) (C : n_pc g k a) (o0 : 0 ≤ o) (o1 : o < m_g g 151 k) (v1 : 2 ≤ m_g g (153 + k) o) (v2 : m_g g (153 + k) o ≠ 12) (x0 : 0 ≤ x) (x1 : x < m_g g 286 o) : t11_leads 127 (n_h2 g 127 73 74 o x) = some ((), n_h2 g 127 73 74 (n_ls g k o x).1 (n_ls g k o x).2) := by
  have c3 := C.1.2.2.1
  have k0 : 0 ≤ k := C.2.2.2.2.1
  have k1 : k < 9 := by have := C.1.2.1.2; omega
  have B := n_scc_b C.1 o0 o1
  have bv := B.2.1
  obtain ⟨-, -, -, -, -, p, -, -, pl⟩ := C.2.2.1
  have L := pl o o0 o1
  clear pl
  have q1 := B.2.2.2.1 (by omega)
  have len := fun y (y0 : 0 ≤ y) (y1 : y < m_g g 151 k) (yv : m_g g (153 + k) y ≠ 12) => (p y y0 y1).2.2.2.1 yv
  have n1 := (len (m_g g (163 + k) o) q1.1 (by omega) q1.2.2).2
  have n0 := (len o o0 o1 v2).2
  clear p
  have fac : ∀ o x, n_I (n_h2 g 127 73 74 o x) ∧ (∀ b j, b ≠ 127 → m_g (n_h2 g 127 73 74 o x) b j = m_g g b j) ∧ (m_g (n_h2 g 127 73 74 o x) 127 60 = k ∧ m_g (n_h2 g 127 73 74 o x) 127 73 = o ∧ m_g (n_h2 g 127 73 74 o x) 127 74 = x) := fun o x => by
    refine ⟨?_, fun b j hb => n_h2_o (Or.inl hb), (n_h2_o (Or.inr ⟨by omega, by omega⟩)).trans C.2.2.2.1, (n_h2_1 (by omega)).1, (n_h2_1 (by omega)).2⟩
    rw [← n_h2_pp (by omega)]
    exact n_I_p (n_I_p I (by rw [n_t127 I.2]; omega) (by rw [n_t127 I.2]; omega) rfl) (by rw [m_t_p, n_t127 I.2]; omega) (by rw [m_t_p, n_t127 I.2]; omega) rfl
  obtain ⟨J, e, q60, q73, q74⟩ := fac o x
  obtain ⟨J', e', q60', q73', q74'⟩ := fac (m_g g (163 + k) o) x
  have F := J.2
  have F' := J'.2
  have tM := n_t127 F
  have tM' := n_t127 F'
  have wk := m_w_of (x := k) (by omega) (by omega)
  have wo := m_w_of (x := o) (by omega) (by omega)
  have wx := m_w_of (x := x) (by omega) (by omega)
  have w1 := m_w_of (x := m_g g (163 + k) o) (by omega) (by omega)
  have wv := m_w_of (x := m_g g (153 + k) o) (by omega) (by omega)
  have wn := m_w_of (x := m_g g 286 (m_g g (163 + k) o)) (by omega) (by omega)
  have l286 := n_l286 F'
  have c64 : m_t (n_h2 g 127 73 74 (m_g g (163 + k) o) x) 286 = 20 ∧ 0 ≤ m_g g (163 + k) o ∧ m_g g (163 + k) o < m_l (n_h2 g 127 73 74 (m_g g (163 + k) o) x) 286 := ⟨n_t286 F', q1.1, by omega⟩
  have d38 := n_d38 F' k0 k1 o0 (show o < 40 by omega)
  unfold t11_leads
  rw [if_pos tM, q60, n_bs, q73, n_bs, wk, wo, if_pos (n_c36 F k0 k1), n_a36 F k0 k1, if_pos (n_d36 F k0 k1 o0 (by omega)), e (163 + k) o (by omega), n_bs, q74, n_bs, n_h2_p1, n_bs, if_pos tM', if_pos (n_c35 F' k0 k1), n_a35 F' k0 k1, if_pos (n_d35 F' k0 k1 o0 (by omega)), e' (153 + k) o (by omega), wv, w1]
  unfold n_ls
  by_cases c2 : m_g g (153 + k) o = 2
  · rw [if_pos c2, if_pos c2, if_pos (n_c38 F' k0 k1), n_a38 F' k0 k1, if_pos d38, e' (183 + k) o (by omega), n_h2_p2 (by omega), n_bs]
  rw [if_neg c2, if_neg c2]
  by_cases c3' : m_g g (153 + k) o = 3
  · rw [if_pos c3', if_pos c3', n_p127_64 F', if_pos c64, e' 286 _ (by omega), n_h2_p2 (by omega), n_bs]
  rw [if_neg c3', if_neg c3']
  have b7 := B.2.2.2.2.2.2.1 c3'
  have wa := m_w_of (x := m_g g (183 + k) o) (by omega) (by omega)
  by_cases c4 : m_g g (153 + k) o = 4
  · have y := B.2.2.2.2.2.2.2.2.2.1 c4
    have xa := n_mulq x0 (show x ≤ 1500 by omega) b7.1 (show m_g g (183 + k) o ≤ 8 by omega)
    rw [if_pos c4, if_pos c4, if_pos (n_c38 F' k0 k1), n_a38 F' k0 k1, if_pos d38, e' (183 + k) o (by omega), if_pos (n_c39 F' k0 k1), n_a39 F' k0 k1, if_pos (n_d39 F' k0 k1 o0 (by omega)), e' (193 + k) o (by omega), m_w_of (x := m_g g (193 + k) o) (by omega) (by omega), m_v_of (x := m_g g (193 + k) o) (by omega) (by omega), if_neg (by omega), wx, wa, m_v_of (x := x * m_g g (183 + k) o) (by omega) (by omega), n_h2_p2 (by omega), n_bs]
  rw [if_neg c4, if_neg c4]
  by_cases c5 : m_g g (153 + k) o = 5
  · have y := B.2.2.2.2.2.1 c5
    rw [if_pos c5, if_pos c5, n_p127_64 F', if_pos c64, e' 286 _ (by omega), wx, wn]
    by_cases d : x < m_g g 286 (m_g g (163 + k) o)
    · rw [if_pos d, if_pos d]
    · obtain ⟨J2, e2, r60, r73, r74⟩ := fac (m_g g (173 + k) o) x
      have F2 := J2.2
      have l2 := n_l286 F2
      rw [if_neg d, if_neg d, if_pos (n_c37 F' k0 k1), n_a37 F' k0 k1, if_pos (n_d37 F' k0 k1 o0 (by omega)), e' (173 + k) o (by omega), n_h2_p1, n_bs, if_pos (n_t127 F2), n_p127_64 F2, if_pos ⟨n_t286 F2, q1.1, by omega⟩, if_pos (n_c38 F2 k0 k1), n_a38 F2 k0 k1, if_pos (n_d38 F2 k0 k1 o0 (by omega)), e2 286 _ (by omega), e2 (183 + k) o (by omega), n_h2_p2 (by omega), n_bs, show x - m_g g 286 (m_g g (163 + k) o) + m_g g (183 + k) o = x + (m_g g (183 + k) o - m_g g 286 (m_g g (163 + k) o)) by omega]
  rw [if_neg c5, if_neg c5]
  by_cases c6 : m_g g (153 + k) o = 6
  · rw [if_pos c6, if_pos c6, n_p127_64 F', if_pos c64, e' 286 _ (by omega), wn, if_neg (by omega), wx, n_h2_p2 (by omega), n_bs]
  rw [if_neg c6, if_neg c6]
  by_cases c8 : m_g g (153 + k) o = 8
  · have z := L.2.2.2.2 c8
    have mb := G.2.2.1 (m_g g (183 + k) o) b7.1 z.1
    unfold n_macB at mb
    have Bm := G.1
    unfold n_shB at Bm
    have l142 := n_l142 F'
    have xa := n_mulq x0 (show x ≤ 1500 by omega) (show 0 ≤ 1000 + m_g g 142 (m_g g (183 + k) o) by omega) (show 1000 + m_g g 142 (m_g g (183 + k) o) ≤ 1050 by omega)
    rw [if_neg (show ¬ m_g g (153 + k) o = 7 by omega), if_pos c8, if_pos c8, if_pos (n_c38 F' k0 k1), n_a38 F' k0 k1, if_pos d38, e' (183 + k) o (by omega), wa, n_p127_19 F', if_pos ⟨n_t142 F', b7.1, by omega⟩, e' 142 _ (by omega), wx, m_w_of (x := 1000 + m_g g 142 (m_g g (183 + k) o)) (by omega) (by omega), m_v_of (x := x * (1000 + m_g g 142 (m_g g (183 + k) o))) (by omega) (by omega), n_h2_p2 (by omega), n_bs]
  · rw [if_neg c8]
    by_cases c7 : m_g g (153 + k) o = 7
    · rw [if_pos c7, if_neg c8]
    · rw [if_neg c7, if_neg c8]
