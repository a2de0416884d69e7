/-! ROWS of samples: kind 5, place 0 its array, place 1 how many -/
def n_row (h : m_H) (v : Int) : Prop := m_t h v = 5 ∧ m_t h (m_g h v 0) = 20 ∧ 0 ≤ m_g h v 1 ∧ m_g h v 1 ≤ m_l h (m_g h v 0) ∧ m_l h (m_g h v 0) < 60000000
def n_cap (h : m_H) (v : Int) : Int := m_l h (m_g h v 0)
def n_rg (h : m_H) (v i : Int) : Int := if 0 ≤ i ∧ i < m_g h v 1 then m_g h (m_g h v 0) i else 0
theorem n_size {h : m_H} {v : Int} (h1 : m_t h v = 5) : t5_size v h = some (m_g h v 1, h) := by
  unfold t5_size
  rw [if_pos h1]
theorem n_get {h : m_H} {v i : Int} (R : n_row h v) (h1 : -2147483648 ≤ i) (h2 : i < 2147483648) : t5_get v i h = some (n_rg h v i, h) := by
  obtain ⟨r1, r2, r3, r4, r5⟩ := R
  unfold t5_get n_rg
  by_cases c1 : i < 0
  · simp (disch := omega) only [m_w_of, n_ltT, n_ltF, n_leT, n_leF, n_eqT, n_eqF, n_bs, n_bn, ↓reduceIte, true_and, and_true, and_self, false_and, and_false, or_true, true_or, or_false, false_or, not_true_eq_false, not_false_eq_true, Bool.false_eq_true, reduceCtorEq, eq_self]
  · by_cases c2 : i < m_g h v 1
    · simp (disch := omega) only [m_w_of, n_ltT, n_ltF, n_leT, n_leF, n_eqT, n_eqF, n_bs, n_bn, ↓reduceIte, true_and, and_true, and_self, false_and, and_false, or_true, true_or, or_false, false_or, not_true_eq_false, not_false_eq_true, Bool.false_eq_true, reduceCtorEq, eq_self]
    · simp (disch := omega) only [m_w_of, n_ltT, n_ltF, n_leT, n_leF, n_eqT, n_eqF, n_bs, n_bn, ↓reduceIte, true_and, and_true, and_self, false_and, and_false, or_true, true_or, or_false, false_or, not_true_eq_false, not_false_eq_true, Bool.false_eq_true, reduceCtorEq, eq_self]
theorem n_set {h : m_H} {v i x : Int} (R : n_row h v) (h1 : 0 ≤ i) (h2 : i < m_g h v 1) (h3 : -2147483648 ≤ x) (h4 : x < 2147483648) : t5_set v i x h = some ((), m_p h (m_g h v 0) i (n_cl x)) := by
  obtain ⟨r1, r2, r3, r4, r5⟩ := R
  unfold t5_set t10_nearest
  simp (disch := omega) only [m_w_of, n_ltT, n_ltF, n_leT, n_leF, n_eqT, n_eqF, n_bs, n_bn, ↓reduceIte, true_and, and_true, and_self, false_and, and_false, or_true, true_or, or_false, false_or, not_true_eq_false, not_false_eq_true, Bool.false_eq_true, reduceCtorEq, eq_self, n_near h3 h4]
theorem n_setx {h : m_H} {v i x : Int} (R : n_row h v) (h1 : i < 0 ∨ m_g h v 1 ≤ i) (h3 : -2147483648 ≤ i) (h4 : i < 2147483648) : t5_set v i x h = some ((), h) := by
  obtain ⟨r1, r2, r3, r4, r5⟩ := R
  unfold t5_set
  by_cases c : i < 0
  · simp (disch := omega) only [m_w_of, n_ltT, n_ltF, n_leT, n_leF, n_eqT, n_eqF, n_bs, n_bn, ↓reduceIte, true_and, and_true, and_self, false_and, and_false, or_true, true_or, or_false, false_or, not_true_eq_false, not_false_eq_true, Bool.false_eq_true, reduceCtorEq, eq_self]
  · simp (disch := omega) only [m_w_of, n_ltT, n_ltF, n_leT, n_leF, n_eqT, n_eqF, n_bs, n_bn, ↓reduceIte, true_and, and_true, and_self, false_and, and_false, or_true, true_or, or_false, false_or, not_true_eq_false, not_false_eq_true, Bool.false_eq_true, reduceCtorEq, eq_self]
/-- the array of a row is made wider (at least doubled), or stays -/
def n_rsz (h : m_H) (v n : Int) : m_H :=
  if n_cap h v < n then m_p (m_p (m_cp (m_a h 20 (max n (2 * n_cap h v))) (m_g h v 0) 0 (m_n h) 0 (n_cap h v)) v 0 (m_n h)) v 1 n else m_p h v 1 n
theorem n_resize {h : m_H} {v x : Int} (R : n_row h v) (hv : v < m_n h) (ha : m_g h v 0 < m_n h) (hc : n_cap h v < 20000000) (h1 : -2147483648 ≤ x) (h2 : x < 20000000) : t5_resize v x h = some ((), n_rsz h v (max x 0)) := by
  obtain ⟨r1, r2, r3, r4, r5⟩ := R
  have e1 : m_max x 0 = max x 0 := n_max h1 (by omega) (by omega) (by omega)
  unfold n_cap at hc
  unfold t5_resize n_rsz n_cap
  rw [e1, n_bs]
  generalize hm : max x 0 = y
  have hy : 0 ≤ y := by omega
  have hy2 : y < 20000000 := by omega
  by_cases c : m_l h (m_g h v 0) < y
  · have e2 : m_max y (2 * m_l h (m_g h v 0)) = max y (2 * m_l h (m_g h v 0)) := n_max (by omega) (by omega) (by omega) (by omega)
    rw [e2]
    generalize hz : max y (2 * m_l h (m_g h v 0)) = z
    simp (disch := omega) only [m_w_of, n_ltT, n_ltF, n_leT, n_leF, n_eqT, n_eqF, n_bs, n_bn, ↓reduceIte, true_and, and_true, and_self, false_and, and_false, or_true, true_or, or_false, false_or, not_true_eq_false, not_false_eq_true, Bool.false_eq_true, reduceCtorEq, eq_self, m_t_a, m_l_a, m_g_a, m_t_cp, m_g_p, m_t_p, m_l_p, m_n_p, m_s_p, n_g_fl, n_t_fl, n_l_fl, n_n_fl, n_s_fl]
  · simp (disch := omega) only [m_w_of, n_ltT, n_ltF, n_leT, n_leF, n_eqT, n_eqF, n_bs, n_bn, ↓reduceIte, true_and, and_true, and_self, false_and, and_false, or_true, true_or, or_false, false_or, not_true_eq_false, not_false_eq_true, Bool.false_eq_true, reduceCtorEq, eq_self]
