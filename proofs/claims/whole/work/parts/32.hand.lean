/-! THE HAND -/
def n_hi (a : Int) : Int := n_cl (m_shr a 16)
def n_lo (a : Int) : Int := n_cl (m_i2s a)
theorem n_feedPair {h : m_H} {a : Int} (I : n_I h) (hl : m_g h 8 1 ≤ 298) : ∃ h', t10_feedPair 1 a h = some ((), h') ∧ n_rw h h' 8 (m_g h 8 1 + 2) (fun j => if j = m_g h 8 1 + 1 then n_lo a else if j = m_g h 8 1 then n_hi a else n_rg h 8 j) := by
  have q1 := n_i32 (Int32.ofInt a >>> (Int32.ofInt 16 &&& 31))
  have q2 := n_i32 (Int32.ofInt a).toInt16.toInt32
  obtain ⟨h1, e1, A1⟩ := n_add (x := m_shr a 16) I.1 (n_t8 I.2) (by omega) q1.1 q1.2
  have I1 := n_I_rw I (n_t8 I.2) A1
  have l1 := A1.2.2.1
  obtain ⟨h2, e2, A2⟩ := n_add (x := m_i2s a) I1.1 (n_t8 I1.2) (by omega) q2.1 q2.2
  unfold t10_feedPair
  rw [if_pos (n_t1 I.2), n_p1_1 I.2, if_pos (n_t8 I.2), e1, n_bs]
  show ∃ h', (if m_t h1 1 = 10 then if m_t h1 (m_g h1 1 1) = 5 then t5_add (m_g h1 1 1) (m_i2s a) h1 >>= _ else none else none) = _ ∧ _
  rw [if_pos (n_t1 I1.2), n_p1_1 I1.2, if_pos (n_t8 I1.2), e2, n_bs]
  refine ⟨h2, rfl, ?_⟩
  refine n_rw_eq (n_rw_trans I.1 (n_t8 I.2) A1 A2) (by omega) (fun j j1 j2 => ?_)
  rw [n_rw_rg A1, l1]
  unfold n_lo n_hi
  by_cases c : j = m_g h 8 1 + 1
  · rw [if_pos c, if_pos c]
  · rw [if_neg c, if_neg c, if_pos (by omega)]
/-- what hands writes -/
def n_hg (g : m_H) (a : Int) : m_H := m_p (m_p (m_p g 129 (m_g g 127 16) (m_i2s (m_ushr a 16))) 129 (m_g g 127 16 + 1) (m_i2s a)) 127 16 (m_g g 127 16 + 2)
theorem n_hands {g : m_H} {a : Int} (I : n_I g) (h1 : 0 ≤ m_g g 127 16) (h2 : m_g g 127 16 ≤ 298) : t11_hands 127 a g = some ((), n_hg g a) := by
  have t := n_t127 I.2
  have t2 := n_t129 I.2
  have l2 := n_l129 I.2
  have p := n_p127_1 I.2
  unfold t11_hands n_hg
  simp (disch := omega) only [m_w_of, n_ltT, n_ltF, n_leT, n_leF, n_eqT, n_eqF, n_bs, n_bn, ↓reduceIte, true_and, and_true, and_self, false_and, and_false, or_true, true_or, or_false, false_or, not_true_eq_false, not_false_eq_true, Bool.false_eq_true, reduceCtorEq, eq_self, m_g_p, m_t_p, m_l_p, m_n_p, m_s_p, n_g_fl, n_t_fl, n_l_fl, n_n_fl, n_s_fl, p]
