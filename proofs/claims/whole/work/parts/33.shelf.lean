/-! THE SHELF: what is read of it -/
theorem n_known {h g : m_H} {i : Int} (I : n_I h) (S : n_Rsh h g) (G : n_gs g) (i1 : -2147483648 ≤ i) (i2 : i < 2147483648) : t7_known 2 i h = some (if 0 ≤ i ∧ i < m_g g 127 14 then m_g h 3 i else 0, h) := by
  have t2 := n_t2 I.2
  have t3 := n_t3 I.2
  have l3 := n_l3 I.2
  have p := n_p2_0 I.2
  have c := S.1.1
  have b1 := G.1.1
  have b2 := G.1.2.1
  unfold t7_known
  by_cases c1 : i < 0
  · simp (disch := omega) only [m_w_of, n_ltT, n_ltF, n_leT, n_leF, n_eqT, n_eqF, n_bs, n_bn, ↓reduceIte, true_and, and_true, and_self, false_and, and_false, or_true, true_or, or_false, false_or, not_true_eq_false, not_false_eq_true, Bool.false_eq_true, reduceCtorEq, eq_self]
  · by_cases c2 : i < m_g g 127 14
    · simp (disch := omega) only [m_w_of, n_ltT, n_ltF, n_leT, n_leF, n_eqT, n_eqF, n_bs, n_bn, ↓reduceIte, true_and, and_true, and_self, false_and, and_false, or_true, true_or, or_false, false_or, not_true_eq_false, not_false_eq_true, Bool.false_eq_true, reduceCtorEq, eq_self, p]
    · simp (disch := omega) only [m_w_of, n_ltT, n_ltF, n_leT, n_leF, n_eqT, n_eqF, n_bs, n_bn, ↓reduceIte, true_and, and_true, and_self, false_and, and_false, or_true, true_or, or_false, false_or, not_true_eq_false, not_false_eq_true, Bool.false_eq_true, reduceCtorEq, eq_self, p]
theorem n_known_n {h g : m_H} {i : Int} (I : n_I h) (S : n_Rsh h g) (G : n_gs g) (i1 : -2147483648 ≤ i) (i2 : i < 2147483648) (c : ¬ (0 ≤ i ∧ i < m_g g 127 14)) : t7_known 2 i h = some (0, h) := by
  rw [n_known I S G i1 i2, if_neg c]
theorem n_known_y {h g : m_H} {i : Int} (I : n_I h) (S : n_Rsh h g) (G : n_gs g) (c : 0 ≤ i ∧ i < m_g g 127 14) : t7_known 2 i h = some (m_g h 3 i, h) := by
  have b2 := G.1.2.1
  rw [n_known I S G (by omega) (by omega), if_pos c]
theorem n_there_y {h g : m_H} {i : Int} (I : n_I h) (S : n_Rsh h g) (G : n_gs g) (c : 0 ≤ i ∧ i < m_g g 127 14) (c2 : m_g g 133 i = 0) : t7_there 2 i h = some (m_g h 3 i, h) := by
  obtain ⟨⟨s1, s2, s3, s4⟩, s5, s6, s7, s8, s9⟩ := S.2.1 i c.1 c.2
  unfold t7_there
  rw [if_pos (n_t2 I.2), n_known_y I S G c, n_bs]
  simp (disch := omega) only [m_w_of, n_ltT, n_ltF, n_leT, n_leF, n_eqT, n_eqF, n_bs, n_bn, ↓reduceIte, true_and, and_true, and_self, false_and, and_false, or_true, true_or, or_false, false_or, not_true_eq_false, not_false_eq_true, Bool.false_eq_true, reduceCtorEq, eq_self]
theorem n_there_n {h g : m_H} {i : Int} (I : n_I h) (S : n_Rsh h g) (G : n_gs g) (i1 : -2147483648 ≤ i) (i2 : i < 2147483648) (c : ¬ (0 ≤ i ∧ i < m_g g 127 14 ∧ m_g g 133 i = 0)) : t7_there 2 i h = some (0, h) := by
  unfold t7_there
  by_cases q : 0 ≤ i ∧ i < m_g g 127 14
  · obtain ⟨⟨s1, s2, s3, s4⟩, s5, s6, s7, s8, s9⟩ := S.2.1 i q.1 q.2
    have b := G.2.1 i q.1 q.2
    unfold n_strB at b
    rw [if_pos (n_t2 I.2), n_known_y I S G q, n_bs]
    simp (disch := omega) only [m_w_of, n_ltT, n_ltF, n_leT, n_leF, n_eqT, n_eqF, n_bs, n_bn, ↓reduceIte, true_and, and_true, and_self, false_and, and_false, or_true, true_or, or_false, false_or, not_true_eq_false, not_false_eq_true, Bool.false_eq_true, reduceCtorEq, eq_self]
  · rw [if_pos (n_t2 I.2), n_known_n I S G i1 i2 q, n_bs]
    simp only [↓reduceIte]
theorem n_machineOf_y {h g : m_H} {i : Int} (I : n_I h) (S : n_Rsh h g) (G : n_gs g) (c : 0 ≤ i ∧ i < m_g g 127 23) : t7_machineOf 2 i h = some (m_g h 4 i, h) := by
  have t2 := n_t2 I.2
  have t3 := n_t4 I.2
  have l3 := n_l4 I.2
  have p := n_p2_5 I.2
  have b := G.1
  unfold n_shB at b
  have s := S.1
  unfold n_shN at s
  unfold t7_machineOf
  simp (disch := omega) only [m_w_of, n_ltT, n_ltF, n_leT, n_leF, n_eqT, n_eqF, n_bs, n_bn, ↓reduceIte, true_and, and_true, and_self, false_and, and_false, or_true, true_or, or_false, false_or, not_true_eq_false, not_false_eq_true, Bool.false_eq_true, reduceCtorEq, eq_self, p]
theorem n_machineOf_n {h g : m_H} {i : Int} (I : n_I h) (S : n_Rsh h g) (G : n_gs g) (i1 : -2147483648 ≤ i) (i2 : i < 2147483648) (c : ¬ (0 ≤ i ∧ i < m_g g 127 23)) : t7_machineOf 2 i h = some (0, h) := by
  have t2 := n_t2 I.2
  have t3 := n_t4 I.2
  have l3 := n_l4 I.2
  have p := n_p2_5 I.2
  have b := G.1
  unfold n_shB at b
  have s := S.1
  unfold n_shN at s
  unfold t7_machineOf
  by_cases c1 : i < 0
  · simp (disch := omega) only [m_w_of, n_ltT, n_ltF, n_leT, n_leF, n_eqT, n_eqF, n_bs, n_bn, ↓reduceIte, true_and, and_true, and_self, false_and, and_false, or_true, true_or, or_false, false_or, not_true_eq_false, not_false_eq_true, Bool.false_eq_true, reduceCtorEq, eq_self]
  · simp (disch := omega) only [m_w_of, n_ltT, n_ltF, n_leT, n_leF, n_eqT, n_eqF, n_bs, n_bn, ↓reduceIte, true_and, and_true, and_self, false_and, and_false, or_true, true_or, or_false, false_or, not_true_eq_false, not_false_eq_true, Bool.false_eq_true, reduceCtorEq, eq_self, p]
theorem n_hasRoom {h : m_H} {a b : Int} (I : n_I h) (a1 : 0 ≤ m_g h 2 1) (a2 : m_g h 2 1 ≤ 100) (a3 : 0 ≤ m_g h 2 2) (a4 : m_g h 2 2 ≤ 20000) (a5 : 0 ≤ a) (a6 : a ≤ 2) (b1 : -100000 ≤ b) (b2 : b ≤ 100000) : t7_hasRoom 2 a b h = some (decide (m_g h 2 1 + a ≤ 100 ∧ m_g h 2 2 + b ≤ 20000), h) := by
  have t2 := n_t2 I.2
  unfold t7_hasRoom
  by_cases c : m_g h 2 1 + a ≤ 100
  · by_cases c2 : m_g h 2 2 + b ≤ 20000
    · rw [decide_eq_true ⟨c, c2⟩]
      simp (disch := omega) only [m_w_of, n_ltT, n_ltF, n_leT, n_leF, n_eqT, n_eqF, n_bs, n_bn, ↓reduceIte, true_and, and_true, and_self, false_and, and_false, or_true, true_or, or_false, false_or, not_true_eq_false, not_false_eq_true, Bool.false_eq_true, reduceCtorEq, eq_self]
    · rw [decide_eq_false (fun q => c2 q.2)]
      simp (disch := omega) only [m_w_of, n_ltT, n_ltF, n_leT, n_leF, n_eqT, n_eqF, n_bs, n_bn, ↓reduceIte, true_and, and_true, and_self, false_and, and_false, or_true, true_or, or_false, false_or, not_true_eq_false, not_false_eq_true, Bool.false_eq_true, reduceCtorEq, eq_self]
  · rw [decide_eq_false (fun q => c q.1)]
    simp (disch := omega) only [m_w_of, n_ltT, n_ltF, n_leT, n_leF, n_eqT, n_eqF, n_bs, n_bn, ↓reduceIte, true_and, and_true, and_self, false_and, and_false, or_true, true_or, or_false, false_or, not_true_eq_false, not_false_eq_true, Bool.false_eq_true, reduceCtorEq, eq_self]
/-! the reference's -/
theorem n_lcmp_lt {a b : Int} (a1 : -9223372036854775808 ≤ a) (a2 : a < 9223372036854775808) (b1 : -9223372036854775808 ≤ b) (b2 : b < 9223372036854775808) : m_w (m_lcmp a b) = if b < a then 1 else if a = b then 0 else -1 := by
  unfold m_lcmp
  rw [m_v_of a1 a2, m_v_of b1 b2]
  split
  · rfl
  · split <;> rfl
theorem n_in {a b c : Int} {h : m_H} (a1 : -9223372036854775808 ≤ a) (a2 : a < 9223372036854775808) (b1 : -9223372036854775808 ≤ b) (b2 : b < 9223372036854775808) (c1 : -9223372036854775808 ≤ c) (c2 : c < 9223372036854775808) : t11_in a b c h = some (decide (b ≤ a ∧ a ≤ c), h) := by
  unfold t11_in
  rw [n_lcmp_lt a1 a2 b1 b2, n_lcmp_lt a1 a2 c1 c2]
  by_cases q : b ≤ a
  · rw [if_neg (by split <;> (try split) <;> omega)]
    by_cases q2 : a ≤ c
    · rw [if_neg (by split <;> (try split) <;> omega), decide_eq_true ⟨q, q2⟩]
    · rw [if_pos (by split <;> (try split) <;> omega), decide_eq_false (fun p => q2 p.2)]
  · rw [if_pos (by split <;> (try split) <;> omega), decide_eq_false (fun p => q p.1)]
theorem n_bounded {a : Int} {h : m_H} (a1 : -9223372036854775808 ≤ a) (a2 : a < 9223372036854775808) : t11_bounded a h = some (n_cl a, h) := by
  unfold t11_bounded n_cl
  rw [n_lcmp_lt a1 a2 (by omega) (by omega), n_lcmp_lt a1 a2 (by omega) (by omega)]
  by_cases q : a < -32768
  · rw [if_pos (by split <;> (try split) <;> omega), if_pos q]
  · rw [if_neg (by split <;> (try split) <;> omega), if_neg q]
    by_cases q2 : 32767 < a
    · rw [if_pos (by split <;> (try split) <;> omega), if_pos q2]
    · rw [if_neg (by split <;> (try split) <;> omega), if_neg q2]
theorem n_isStrip {g : m_H} {i : Int} (I : n_I g) (b1 : 0 ≤ m_g g 127 14) (b2 : m_g g 127 14 ≤ 100) (i1 : -2147483648 ≤ i) (i2 : i < 2147483648) : t11_isStrip 127 i g = some (decide (0 ≤ i ∧ i < m_g g 127 14), g) := by
  unfold t11_isStrip
  rw [if_pos (n_t127 I.2), m_w_of i1 i2, m_w_of (by omega) (by omega), n_in (by omega) (by omega) (by omega) (by omega) (by omega) (by omega), n_bs]
  have : (decide (0 ≤ i ∧ i ≤ m_g g 127 14 - 1)) = decide (0 ≤ i ∧ i < m_g g 127 14) := decide_eq_decide.mpr (by omega)
  rw [this]
theorem n_isThere {g : m_H} {i : Int} (I : n_I g) (G : n_gs g) (i1 : -2147483648 ≤ i) (i2 : i < 2147483648) : t11_isThere 127 i g = some (decide (0 ≤ i ∧ i < m_g g 127 14 ∧ m_g g 133 i = 0), g) := by
  have b1 := G.1.1
  have b2 := G.1.2.1
  have t := n_t127 I.2
  have t5 := n_t133 I.2
  have l5 := n_l133 I.2
  have p := n_p127_5 I.2
  unfold t11_isThere
  rw [if_pos t, n_isStrip I b1 b2 i1 i2, n_bs]
  by_cases c : 0 ≤ i ∧ i < m_g g 127 14
  · have b := G.2.1 i c.1 c.2
    unfold n_strB at b
    rw [decide_eq_true c]
    by_cases c2 : m_g g 133 i = 0
    · rw [decide_eq_true ⟨c.1, c.2, c2⟩]
      simp (disch := omega) only [m_w_of, n_ltT, n_ltF, n_leT, n_leF, n_eqT, n_eqF, n_bs, n_bn, ↓reduceIte, true_and, and_true, and_self, false_and, and_false, or_true, true_or, or_false, false_or, not_true_eq_false, not_false_eq_true, Bool.false_eq_true, reduceCtorEq, eq_self, p]
    · rw [decide_eq_false (fun q => c2 q.2.2)]
      simp (disch := omega) only [m_w_of, n_ltT, n_ltF, n_leT, n_leF, n_eqT, n_eqF, n_bs, n_bn, ↓reduceIte, true_and, and_true, and_self, false_and, and_false, or_true, true_or, or_false, false_or, not_true_eq_false, not_false_eq_true, Bool.false_eq_true, reduceCtorEq, eq_self, p]
  · rw [decide_eq_false c, decide_eq_false (fun q => c ⟨q.1, q.2.1⟩)]
    simp only [m_w_of, n_ltT, n_ltF, n_leT, n_leF, n_eqT, n_eqF, n_bs, n_bn, ↓reduceIte, true_and, and_true, and_self, false_and, and_false, or_true, true_or, or_false, false_or, not_true_eq_false, not_false_eq_true, Bool.false_eq_true, reduceCtorEq, eq_self]
theorem n_isPlain {g : m_H} {i : Int} (I : n_I g) (G : n_gs g) (i1 : -2147483648 ≤ i) (i2 : i < 2147483648) : t11_isPlain 127 i g = some (decide (0 ≤ i ∧ i < m_g g 127 14 ∧ m_g g 133 i = 0 ∧ m_g g 132 i ≠ 3), g) := by
  have b2 := G.1.2.1
  have t := n_t127 I.2
  have t5 := n_t132 I.2
  have l5 := n_l132 I.2
  have p := n_p127_4 I.2
  unfold t11_isPlain
  rw [if_pos t, n_isThere I G i1 i2, n_bs]
  by_cases c : 0 ≤ i ∧ i < m_g g 127 14 ∧ m_g g 133 i = 0
  · have b := G.2.1 i c.1 c.2.1
    unfold n_strB at b
    rw [decide_eq_true c]
    by_cases c2 : m_g g 132 i = 3
    · rw [decide_eq_false (fun q => q.2.2.2 c2)]
      simp (disch := omega) only [m_w_of, n_ltT, n_ltF, n_leT, n_leF, n_eqT, n_eqF, n_bs, n_bn, ↓reduceIte, true_and, and_true, and_self, false_and, and_false, or_true, true_or, or_false, false_or, not_true_eq_false, not_false_eq_true, Bool.false_eq_true, reduceCtorEq, eq_self, p]
    · rw [decide_eq_true ⟨c.1, c.2.1, c.2.2, c2⟩]
      simp (disch := omega) only [m_w_of, n_ltT, n_ltF, n_leT, n_leF, n_eqT, n_eqF, n_bs, n_bn, ↓reduceIte, true_and, and_true, and_self, false_and, and_false, or_true, true_or, or_false, false_or, not_true_eq_false, not_false_eq_true, Bool.false_eq_true, reduceCtorEq, eq_self, p]
  · rw [decide_eq_false c, decide_eq_false (fun q => c ⟨q.1, q.2.1, q.2.2.1⟩)]
    simp only [m_w_of, n_ltT, n_ltF, n_leT, n_leF, n_eqT, n_eqF, n_bs, n_bn, ↓reduceIte, true_and, and_true, and_self, false_and, and_false, or_true, true_or, or_false, false_or, not_true_eq_false, not_false_eq_true, Bool.false_eq_true, reduceCtorEq, eq_self]
theorem n_isMachine {g : m_H} {i : Int} (I : n_I g) (b1 : 0 ≤ m_g g 127 23) (b2 : m_g g 127 23 ≤ 4) (i1 : -2147483648 ≤ i) (i2 : i < 2147483648) : t11_isMachine 127 i g = some (decide (0 ≤ i ∧ i < m_g g 127 23), g) := by
  unfold t11_isMachine
  rw [if_pos (n_t127 I.2), m_w_of i1 i2, m_w_of (by omega) (by omega), n_in (by omega) (by omega) (by omega) (by omega) (by omega) (by omega), n_bs]
  have : (decide (0 ≤ i ∧ i ≤ m_g g 127 23 - 1)) = decide (0 ≤ i ∧ i < m_g g 127 23) := decide_eq_decide.mpr (by omega)
  rw [this]
theorem n_isRoom {g : m_H} {a b : Int} (I : n_I g) (G : n_gs g) (a5 : 0 ≤ a) (a6 : a ≤ 2) (b1 : -100000 ≤ b) (b2 : b ≤ 100000) : t11_isRoom 127 a b g = some (decide (m_g g 127 14 + a ≤ 100 ∧ m_g g 127 15 + b ≤ 20000), g) := by
  have t2 := n_t127 I.2
  have q := G.1
  unfold n_shB at q
  unfold t11_isRoom
  by_cases c : m_g g 127 14 + a ≤ 100
  · by_cases c2 : m_g g 127 15 + b ≤ 20000
    · rw [decide_eq_true ⟨c, c2⟩]
      simp (disch := omega) only [m_w_of, n_ltT, n_ltF, n_leT, n_leF, n_eqT, n_eqF, n_bs, n_bn, ↓reduceIte, true_and, and_true, and_self, false_and, and_false, or_true, true_or, or_false, false_or, not_true_eq_false, not_false_eq_true, Bool.false_eq_true, reduceCtorEq, eq_self]
    · rw [decide_eq_false (fun q => c2 q.2)]
      simp (disch := omega) only [m_w_of, n_ltT, n_ltF, n_leT, n_leF, n_eqT, n_eqF, n_bs, n_bn, ↓reduceIte, true_and, and_true, and_self, false_and, and_false, or_true, true_or, or_false, false_or, not_true_eq_false, not_false_eq_true, Bool.false_eq_true, reduceCtorEq, eq_self]
  · rw [decide_eq_false (fun q => c q.1)]
    simp (disch := omega) only [m_w_of, n_ltT, n_ltF, n_leT, n_leF, n_eqT, n_eqF, n_bs, n_bn, ↓reduceIte, true_and, and_true, and_self, false_and, and_false, or_true, true_or, or_false, false_or, not_true_eq_false, not_false_eq_true, Bool.false_eq_true, reduceCtorEq, eq_self]
/-- place j of strip s of the reference -/
theorem n_at {g : m_H} {s j : Int} (I : n_I g) (G : n_gs g) (s1 : 0 ≤ s) (s2 : s < m_g g 127 14) (j1 : 0 ≤ j) (j2 : j < m_g g 131 s) : t11_at 127 s j g = some (m_g g 128 (m_g g 130 s + j), g) := by
  have t := n_t127 I.2
  have t2 := n_t130 I.2
  have l2 := n_l130 I.2
  have p2 := n_p127_2 I.2
  have t0 := n_t128 I.2
  have l0 := n_l128 I.2
  have p0 := n_p127_0 I.2
  have q := G.1
  unfold n_shB at q
  have b := G.2.1 s s1 s2
  unfold n_strB at b
  unfold t11_at
  simp (disch := omega) only [m_w_of, n_ltT, n_ltF, n_leT, n_leF, n_eqT, n_eqF, n_bs, n_bn, ↓reduceIte, true_and, and_true, and_self, false_and, and_false, or_true, true_or, or_false, false_or, not_true_eq_false, not_false_eq_true, Bool.false_eq_true, reduceCtorEq, eq_self, p2, p0]
