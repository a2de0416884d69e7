/-! CALLS: copy, speed -/
theorem n_play_eq {r r' : Int → Int} {n i p q : Int} (hr : ∀ j, 0 ≤ j → j < n → r j = r' j) (i1 : 0 ≤ i) (p1 : 1 ≤ p) (q1 : 1 ≤ q) (n1 : 1 ≤ n) : n_play r n i p q = n_play r' n i p q := by
  have e0 : 0 ≤ i * p := Int.mul_nonneg i1 (by omega)
  have g := n_td e0 q1
  unfold n_play
  by_cases c : n - 1 ≤ Int.tdiv (i * p) q
  · rw [if_pos c, if_pos c, hr _ (by omega) (by omega)]
  · rw [if_neg c, if_neg c, hr _ (by omega) (by omega), hr _ (by omega) (by omega)]
theorem n_play_r {r : Int → Int} {n i p q : Int} (hr : ∀ j, 0 ≤ j → j < n → -32768 ≤ r j ∧ r j ≤ 32767) (i1 : 0 ≤ i) (p1 : 1 ≤ p) (q1 : 1 ≤ q) (q2 : q ≤ 1000) (n1 : 1 ≤ n) : -70000000 ≤ n_play r n i p q ∧ n_play r n i p q ≤ 70000000 := by
  have e := n_play_eq (r := r) (r' := fun j => if 0 ≤ j ∧ j < n then r j else 0) (fun j j1 j2 => by rw [if_pos ⟨j1, j2⟩]) i1 p1 q1 n1
  rw [e]
  refine n_play_b (fun j => ?_) i1 p1 q1 q2
  show -32768 ≤ (if 0 ≤ j ∧ j < n then r j else 0) ∧ (if 0 ≤ j ∧ j < n then r j else 0) ≤ 32767
  by_cases c : 0 ≤ j ∧ j < n
  · rw [if_pos c]; exact hr j c.1 c.2
  · rw [if_neg c]; omega
theorem n_longAt {g : m_H} {n p q : Int} (n1 : 1 ≤ n) (n2 : n ≤ 1500) (p1 : 1 ≤ p) (p2 : p ≤ 1100) (q1 : 1 ≤ q) (q2 : q ≤ 1000) : t11_longAt n p q g = some (Int.tdiv ((n - 1) * q) p + 1, g) := by
  have b := n_mulp (a := n - 1) (b := q) (A := 1500) (B := 1000) (by omega) (by omega) (by omega) q2
  unfold t11_longAt
  rw [m_w_of (x := p) (by omega) (by omega), if_neg (by omega), m_w_of (by omega) (by omega)]
theorem n_sampleAt {g : m_H} {n i p q : Int} (I : n_I g) (n1 : 1 ≤ n) (n2 : n ≤ 1500) (i1 : 0 ≤ i) (i2 : i < Int.tdiv ((n - 1) * q) p + 1) (i3 : i ≤ 1500) (p1 : 1 ≤ p) (p2 : p ≤ 1100) (q1 : 1 ≤ q) (q2 : q ≤ 1000) (hv : ∀ j, 0 ≤ j → j < n → -32768 ≤ m_g g 149 j ∧ m_g g 149 j ≤ 32767) : t11_sampleAt 127 n i p q g = some (n_cl (n_play (m_g g 149) n i p q), g) := by
  have t0 := n_t127 I.2
  have t9 := n_t149 I.2
  have l9 := n_l149 I.2
  have p28 := n_p127_28 I.2
  obtain ⟨f1, f2, f3, f4⟩ := n_play_at (r := m_g g 149) (n := n) i1 p1 q1 n1 i2
  have b0 := n_mulp (a := n - 1) (b := q) (A := 1500) (B := 1000) (by omega) (by omega) (by omega) q2
  obtain ⟨g1, g2, g3, g4, g5, g6⟩ := n_td f2 q1
  have pb := n_play_r (r := m_g g 149) (n := n) hv i1 p1 q1 q2 n1
  unfold t11_sampleAt
  rw [m_w_of (x := q) (by omega) (by omega), m_v_of (x := q) (by omega) (by omega), if_neg (by omega), m_w_of (x := i) (by omega) (by omega), m_w_of (x := p) (by omega) (by omega), m_v_of (x := i * p) (by omega) (by omega), n_bs, if_neg (by omega), n_bs]
  show (if m_w (Int.tdiv (i * p) q) < m_w (n - 1) then _ else _) = _
  rw [m_w_of (x := Int.tdiv (i * p) q) (by omega) (by omega), m_w_of (x := n - 1) (by omega) (by omega), p28]
  by_cases c : Int.tdiv (i * p) q < n - 1
  · have v0 := hv (Int.tdiv (i * p) q) (by omega) (by omega)
    have v1 := hv (Int.tdiv (i * p) q + 1) (by omega) (by omega)
    have b := n_mulb (a := m_g g 149 (Int.tdiv (i * p) q + 1) - m_g g 149 (Int.tdiv (i * p) q)) (b := Int.tmod (i * p) q) (A := 65535) (B := 1000) (by omega) (by omega) (by omega) (by omega)
    rw [Int.mul_comm (m_g g 149 (Int.tdiv (i * p) q + 1) - m_g g 149 (Int.tdiv (i * p) q)) (Int.tmod (i * p) q)] at b
    rw [if_pos (by omega)] at f1
    rw [if_pos c, if_pos t0, if_pos ⟨t9, by omega, by omega⟩, m_w_of (x := Int.tdiv (i * p) q + 1) (by omega) (by omega), if_pos ⟨t9, by omega, by omega⟩, if_neg (by omega), m_w_of (x := m_g g 149 (Int.tdiv (i * p) q)) (by omega) (by omega), m_w_of (x := m_g g 149 (Int.tdiv (i * p) q + 1) - m_g g 149 (Int.tdiv (i * p) q)) (by omega) (by omega), m_v_of (by omega) (by omega), f1, n_bounded (by omega) (by omega), n_bs]
  · have v0 := hv (n - 1) (by omega) (by omega)
    rw [if_neg c, if_pos t0, if_pos ⟨t9, by omega, by omega⟩]
    have : n_play (m_g g 149) n i p q = m_g g 149 (n - 1) := by unfold n_play; rw [if_pos (by omega)]
    rw [this, n_cl_of v0.1 v0.2]
theorem n_gp_t (h : m_H) (b t v c : Int) : m_g (m_p h b t v) c t = if c = b then v else m_g h c t := by
  by_cases e : c = b
  · rw [n_gp_y ⟨e, rfl⟩, if_pos e]
  · rw [n_gp_n (fun q => e q.1), if_neg e]
/-- the new strip with another age -/
theorem n_newR_p {g g' : m_H} {kd one oth bg gen hs wr n b v : Int} {f : Int → Int} (N : n_newR g g' kd one oth bg gen hs wr n f) (hb : b = 134 ∨ b = 135 ∨ b = 136) : n_newR g (m_p g' b (m_g g 127 14) v) kd one oth bg (if b = 134 then v else gen) (if b = 135 then v else hs) (if b = 136 then v else wr) n f := by
  obtain ⟨e, N1, N2, N3, N4⟩ := N
  refine ⟨e, fun c j h1 h2 h3 h4 => by rw [n_gp_n (fun q => h2 ⟨by omega, q.2⟩)]; exact N1 c j h1 h2 h3 h4, ⟨by rw [n_gp_n (fun q => by omega)]; exact N2.1, by rw [n_gp_n (fun q => by omega)]; exact N2.2⟩, ?_, fun j j1 j2 => by rw [n_gp_n (fun q => by omega)]; exact N4 j j1 j2⟩
  simp only [n_gp_t]
  rcases hb with e | e | e <;> subst e <;> simp only [Int.reduceEq, ↓reduceIte, true_and, and_true] <;> simp only [N3, and_self]
/-- an old strip's wear changes, before and behind -/
theorem n_newR_old {g g' : m_H} {kd one oth bg gen hs wr n s v : Int} {f : Int → Int} (N : n_newR g g' kd one oth bg gen hs wr n f) (hs' : s < m_g g 127 14) : n_newR (m_p g 136 s v) (m_p g' 136 s v) kd one oth bg gen hs wr n f := by
  obtain ⟨e, N1, N2, N3, N4⟩ := N
  have E : ∀ (x : m_H) (c j : Int), c ≠ 136 → m_g (m_p x 136 s v) c j = m_g x c j := fun x c j hc => n_gp_n (fun q => hc q.1)
  unfold n_newR
  rw [E g 127 14 (by decide), E g 127 15 (by decide), E g 127 18 (by decide)]
  refine ⟨by rw [n_p2nd, n_p2nd]; exact e, fun c j h1 h2 h3 h4 => ?_, ⟨by rw [E _ _ _ (by decide)]; exact N2.1, by rw [E _ _ _ (by decide)]; exact N2.2⟩, ?_, fun j j1 j2 => by rw [E _ _ _ (by decide)]; exact N4 j j1 j2⟩
  · by_cases q : c = 136 ∧ j = s
    · rw [n_gp_y q, n_gp_y q]
    · rw [n_gp_n q, n_gp_n q]; exact N1 c j h1 h2 h3 h4
  · have E2 : ∀ c, m_g (m_p g' 136 s v) c (m_g g 127 14) = m_g g' c (m_g g 127 14) := fun c => n_gp_n (fun q => by omega)
    simp only [E2]
    exact N3
theorem n_adds2 {g g' : m_H} {kd one oth bg gen hs wr n v : Int} {f : Int → Int} (I : n_I g) (N : n_newR g g' kd one oth bg gen hs wr n f) (c1 : 0 ≤ m_g g 127 14) (c2 : m_g g 127 14 < 100) (n0 : 0 ≤ n) (n1 : n ≤ 300) (a1 : 0 ≤ m_g g 127 15) (a2 : m_g g 127 15 + n < 20000) (hv : v = f n) : ∃ g'', t11_adds 127 (m_g g 127 14) v g' = some ((), g'') ∧ n_newR g g'' kd one oth bg gen hs wr (n + 1) f ∧ ∀ j, m_g g'' 149 j = m_g g' 149 j := by
  have I1 := n_newR_I I N
  have tM := n_t127 I1.2
  have t0 := n_t128 I1.2
  have t3 := n_t131 I1.2
  have l0 := n_l128 I1.2
  have l3 := n_l131 I1.2
  have p0 := n_p127_0 I1.2
  have p3 := n_p127_3 I1.2
  obtain ⟨e, N1, N2, N3, N4⟩ := N
  refine ⟨m_p (m_p (m_p g' 128 (m_g g' 127 15) v) 127 15 (m_g g' 127 15 + 1)) 131 (m_g g 127 14) (m_g g' 131 (m_g g 127 14) + 1), ?_, ⟨e, fun b j q1 q2 q3 q4 => ?_, ?_, ?_, fun j j1 j2 => ?_⟩, fun j => by rw [n_gp_n (by omega), n_gp_n (by omega), n_gp_n (by omega)]⟩
  · unfold t11_adds
    simp (disch := omega) only [m_w_of, n_ltT, n_ltF, n_leT, n_leF, n_eqT, n_eqF, n_bs, n_bn, ↓reduceIte, true_and, and_true, and_self, false_and, and_false, or_true, true_or, or_false, false_or, not_true_eq_false, not_false_eq_true, Bool.false_eq_true, reduceCtorEq, eq_self, m_g_p, m_t_p, m_l_p, m_n_p, m_s_p, n_g_fl, n_t_fl, n_l_fl, n_n_fl, n_s_fl, p0, p3]
  · rw [m_g_p, if_neg (by omega), m_g_p, if_neg (by omega), m_g_p, if_neg (by omega)]
    exact N1 b j q1 q2 q3 q4
  · simp (disch := omega) only [m_g_p, m_w_of, n_ltT, n_ltF, n_leT, n_leF, n_eqT, n_eqF, n_bs, n_bn, ↓reduceIte, true_and, and_true, and_self, false_and, and_false, or_true, true_or, or_false, false_or, not_true_eq_false, not_false_eq_true, Bool.false_eq_true, reduceCtorEq, eq_self]
  · simp (disch := omega) only [m_g_p, m_w_of, n_ltT, n_ltF, n_leT, n_leF, n_eqT, n_eqF, n_bs, n_bn, ↓reduceIte, true_and, and_true, and_self, false_and, and_false, or_true, true_or, or_false, false_or, not_true_eq_false, not_false_eq_true, Bool.false_eq_true, reduceCtorEq, eq_self]
  · by_cases c : j = n
    · subst c
      simp (disch := omega) only [m_g_p, m_w_of, n_ltT, n_ltF, n_leT, n_leF, n_eqT, n_eqF, n_bs, n_bn, ↓reduceIte, true_and, and_true, and_self, false_and, and_false, or_true, true_or, or_false, false_or, not_true_eq_false, not_false_eq_true, Bool.false_eq_true, reduceCtorEq, eq_self]
    · rw [m_g_p, if_neg (by omega), m_g_p, if_neg (by omega), m_g_p, if_neg (by omega)]
      exact N4 j j1 (by omega)
