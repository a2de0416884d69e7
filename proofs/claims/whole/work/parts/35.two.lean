/-! CALLS THAT READ: seam, sample, told, marked, nail; and hang, lose, read -/
theorem n_find {β : Type} (G : Int → β) (lo n : Int) (p : Int → Prop) (hle : lo ≤ n) (hs : ∀ i, lo ≤ i → i < n → ¬ p i → G i = G (i + 1)) : ((∀ i, lo ≤ i → i < n → ¬ p i) ∧ G lo = G n) ∨ ∃ i, lo ≤ i ∧ i < n ∧ p i ∧ (∀ j, lo ≤ j → j < i → ¬ p j) ∧ G lo = G i := by
  obtain ⟨k, hk⟩ : ∃ k : Nat, n = lo + k := ⟨(n - lo).toNat, by omega⟩
  subst hk
  clear hle
  induction k with
  | zero => left; exact ⟨fun i h1 h2 => by omega, by simp⟩
  | succ k ih =>
    rcases ih (fun i h1 h2 h3 => hs i h1 (by omega) h3) with ⟨a, b⟩ | ⟨i, a, b, c, d, e⟩
    · by_cases q : p (lo + k)
      · right
        exact ⟨lo + k, by omega, by omega, q, a, b⟩
      · left
        refine ⟨fun i h1 h2 => ?_, ?_⟩
        · by_cases e : i = lo + k
          · rw [e]; exact q
          · exact a i h1 (by omega)
        · rw [b, hs (lo + k) (by omega) (by omega) q]
          congr 1; omega
    · right
      exact ⟨i, a, by omega, c, d, e⟩
theorem n_st {h g : m_H} {i : Int} (S : n_Rsh h g) (c : 0 ≤ i ∧ i < m_g g 127 14) : n_strip h g i (m_g h 3 i) := S.2.1 i c.1 c.2
theorem n_s_seam {h : m_H} {k : Int} (X : n_R h k) (s : Int) (i1 : -2147483648 ≤ s) (i2 : s < 2147483648) : n_step h k (t10_seam 1 s) (t11_seam 127 s) := by
  have X' := X
  obtain ⟨I, gs, bud, x1, x2, x3, x4, x5, x6, x7⟩ := X'
  have b1 := gs.1.1
  have b2 := gs.1.2.1
  have t4 := n_t132 I.2
  have l4 := n_l132 I.2
  have p4 := n_p127_4 I.2
  have t3 := n_t131 I.2
  have l3 := n_l131 I.2
  have p3 := n_p127_3 I.2
  have tM := n_t127 I.2
  unfold n_step t10_seam t11_seam
  rw [if_pos (n_t1 I.2), n_p1_0 I.2, if_pos (n_t2 I.2)]
  by_cases c : 0 ≤ s ∧ s < m_g h 127 14
  · obtain ⟨⟨s1, s2, s3, s4⟩, s5, s6, s7, s8, s9, s10, s11, s12, s13, s14, s15, s16, s17⟩ := n_st x3 c
    have b := gs.2.1 s c.1 c.2
    unfold n_strB at b
    have R := n_wf_row I.1 s3
    by_cases c3 : m_g h 132 s = 3
    · have v0 := s17 0 (by omega) (by omega)
      have v1 := s17 (m_g h 131 s - 1) (by omega) (by omega)
      have w0 := gs.2.2.2.1 (m_g h 130 s + 0) (by omega) (by omega)
      have w1 := gs.2.2.2.1 (m_g h 130 s + (m_g h 131 s - 1)) (by omega) (by omega)
      refine ⟨m_abs (m_g h 128 (m_g h 130 s + 0) - m_g h 128 (m_g h 130 s + (m_g h 131 s - 1))), h, m_abs (m_g h 128 (m_g h 130 s + 0) - m_g h 128 (m_g h 130 s + (m_g h 131 s - 1))), h, ?_, ?_, rfl, n_R_more X⟩
      · rw [n_known_y I x3 gs c, n_bs]
        simp (disch := omega) only [m_w_of, n_ltT, n_ltF, n_leT, n_leF, n_eqT, n_eqF, n_bs, n_bn, ↓reduceIte, true_and, and_true, and_self, false_and, and_false, or_true, true_or, or_false, false_or, not_true_eq_false, not_false_eq_true, Bool.false_eq_true, reduceCtorEq, eq_self, n_get R, n_size, s16, v0, v1]
      · rw [if_pos tM, n_isStrip I b1 b2 i1 i2, n_bs, decide_eq_true c]
        unfold m_abs
        by_cases cn : m_g h 128 (m_g h 130 s + 0) - m_g h 128 (m_g h 130 s + (m_g h 131 s - 1)) < 0
        · simp (disch := omega) only [m_w_of, n_ltT, n_ltF, n_leT, n_leF, n_eqT, n_eqF, n_bs, n_bn, ↓reduceIte, true_and, and_true, and_self, false_and, and_false, or_true, true_or, or_false, false_or, not_true_eq_false, not_false_eq_true, Bool.false_eq_true, reduceCtorEq, eq_self, p4, p3, n_at I gs c.1 c.2]
        · simp (disch := omega) only [m_w_of, n_ltT, n_ltF, n_leT, n_leF, n_eqT, n_eqF, n_bs, n_bn, ↓reduceIte, true_and, and_true, and_self, false_and, and_false, or_true, true_or, or_false, false_or, not_true_eq_false, not_false_eq_true, Bool.false_eq_true, reduceCtorEq, eq_self, p4, p3, n_at I gs c.1 c.2]
    · refine ⟨-1, h, -1, h, ?_, ?_, rfl, n_R_more X⟩
      · rw [n_known_y I x3 gs c, n_bs]
        simp (disch := omega) only [m_w_of, n_ltT, n_ltF, n_leT, n_leF, n_eqT, n_eqF, n_bs, n_bn, ↓reduceIte, true_and, and_true, and_self, false_and, and_false, or_true, true_or, or_false, false_or, not_true_eq_false, not_false_eq_true, Bool.false_eq_true, reduceCtorEq, eq_self]
      · rw [if_pos tM, n_isStrip I b1 b2 i1 i2, n_bs, decide_eq_true c]
        simp (disch := omega) only [m_w_of, n_ltT, n_ltF, n_leT, n_leF, n_eqT, n_eqF, n_bs, n_bn, ↓reduceIte, true_and, and_true, and_self, false_and, and_false, or_true, true_or, or_false, false_or, not_true_eq_false, not_false_eq_true, Bool.false_eq_true, reduceCtorEq, eq_self, p4]
  · refine ⟨-1, h, -1, h, ?_, ?_, rfl, n_R_more X⟩
    · rw [n_known_n I x3 gs i1 i2 c, n_bs]
      simp only [↓reduceIte]
    · rw [if_pos tM, n_isStrip I b1 b2 i1 i2, n_bs, decide_eq_false c]
      simp only [m_w_of, n_ltT, n_ltF, n_leT, n_leF, n_eqT, n_eqF, n_bs, n_bn, ↓reduceIte, true_and, and_true, and_self, false_and, and_false, or_true, true_or, or_false, false_or, not_true_eq_false, not_false_eq_true, Bool.false_eq_true, reduceCtorEq, eq_self]
theorem n_sampleOf {h : m_H} {r i : Int} (R : n_row h r) (i1 : -2147483648 ≤ i) (i2 : i < 2147483648) : t10_sampleOf r i h = some (if 0 ≤ i ∧ i < m_g h r 1 then n_rg h r i else -2147483648, h) := by
  have R' := R
  obtain ⟨r1, r2, r3, r4, r5⟩ := R'
  unfold t10_sampleOf
  by_cases c : i < 0
  · simp (disch := omega) only [m_w_of, n_ltT, n_ltF, n_leT, n_leF, n_eqT, n_eqF, n_bs, n_bn, ↓reduceIte, true_and, and_true, and_self, false_and, and_false, or_true, true_or, or_false, false_or, not_true_eq_false, not_false_eq_true, Bool.false_eq_true, reduceCtorEq, eq_self]
  · by_cases c2 : i < m_g h r 1
    · simp (disch := omega) only [m_w_of, n_ltT, n_ltF, n_leT, n_leF, n_eqT, n_eqF, n_bs, n_bn, ↓reduceIte, true_and, and_true, and_self, false_and, and_false, or_true, true_or, or_false, false_or, not_true_eq_false, not_false_eq_true, Bool.false_eq_true, reduceCtorEq, eq_self, n_size, n_get R]
    · simp (disch := omega) only [m_w_of, n_ltT, n_ltF, n_leT, n_leF, n_eqT, n_eqF, n_bs, n_bn, ↓reduceIte, true_and, and_true, and_self, false_and, and_false, or_true, true_or, or_false, false_or, not_true_eq_false, not_false_eq_true, Bool.false_eq_true, reduceCtorEq, eq_self, n_size, n_get R]
theorem n_s_sample {h : m_H} {k : Int} (X : n_R h k) (s j : Int) (i1 : -2147483648 ≤ s) (i2 : s < 2147483648) (j1 : -2147483648 ≤ j) (j2 : j < 2147483648) : n_step h k (t10_sample 1 s j) (t11_sample 127 s j) := by
  have X' := X
  obtain ⟨I, gs, bud, x1, x2, x3, x4, x5, x6, x7⟩ := X'
  have b1 := gs.1.1
  have b2 := gs.1.2.1
  have t3 := n_t131 I.2
  have l3 := n_l131 I.2
  have p3 := n_p127_3 I.2
  have tM := n_t127 I.2
  unfold n_step t10_sample t11_sample
  rw [if_pos (n_t1 I.2), n_p1_0 I.2, if_pos (n_t2 I.2)]
  by_cases c : 0 ≤ s ∧ s < m_g h 127 14
  · obtain ⟨⟨s1, s2, s3, s4⟩, s5, s6, s7, s8, s9, s10, s11, s12, s13, s14, s15, s16, s17⟩ := n_st x3 c
    have b := gs.2.1 s c.1 c.2
    unfold n_strB at b
    have R := n_wf_row I.1 s3
    by_cases c3 : 0 ≤ j ∧ j < m_g h 131 s
    · refine ⟨m_g h 128 (m_g h 130 s + j), h, m_g h 128 (m_g h 130 s + j), h, ?_, ?_, rfl, n_R_more X⟩
      · rw [n_known_y I x3 gs c, n_bs]
        simp (disch := omega) only [m_w_of, n_ltT, n_ltF, n_leT, n_leF, n_eqT, n_eqF, n_bs, n_bn, ↓reduceIte, true_and, and_true, and_self, false_and, and_false, or_true, true_or, or_false, false_or, not_true_eq_false, not_false_eq_true, Bool.false_eq_true, reduceCtorEq, eq_self, n_sampleOf R, s16, s17 j c3.1 c3.2]
      · rw [if_pos tM, n_isStrip I b1 b2 i1 i2, n_bs, decide_eq_true c]
        have ei := n_in (a := j) (b := 0) (c := m_g h 131 s - 1) (h := h) (by omega) (by omega) (by omega) (by omega) (by omega) (by omega)
        rw [decide_eq_true (by omega)] at ei
        simp (disch := omega) only [m_w_of, n_ltT, n_ltF, n_leT, n_leF, n_eqT, n_eqF, n_bs, n_bn, ↓reduceIte, true_and, and_true, and_self, false_and, and_false, or_true, true_or, or_false, false_or, not_true_eq_false, not_false_eq_true, Bool.false_eq_true, reduceCtorEq, eq_self, p3, n_at I gs c.1 c.2, ei]
    · refine ⟨-2147483648, h, -2147483648, h, ?_, ?_, rfl, n_R_more X⟩
      · rw [n_known_y I x3 gs c, n_bs]
        simp (disch := omega) only [m_w_of, n_ltT, n_ltF, n_leT, n_leF, n_eqT, n_eqF, n_bs, n_bn, ↓reduceIte, true_and, and_true, and_self, false_and, and_false, or_true, true_or, or_false, false_or, not_true_eq_false, not_false_eq_true, Bool.false_eq_true, reduceCtorEq, eq_self, n_sampleOf R, s16]
        rw [if_neg c3]
      · rw [if_pos tM, n_isStrip I b1 b2 i1 i2, n_bs, decide_eq_true c]
        have ei := n_in (a := j) (b := 0) (c := m_g h 131 s - 1) (h := h) (by omega) (by omega) (by omega) (by omega) (by omega) (by omega)
        rw [decide_eq_false (by omega)] at ei
        simp (disch := omega) only [m_w_of, n_ltT, n_ltF, n_leT, n_leF, n_eqT, n_eqF, n_bs, n_bn, ↓reduceIte, true_and, and_true, and_self, false_and, and_false, or_true, true_or, or_false, false_or, not_true_eq_false, not_false_eq_true, Bool.false_eq_true, reduceCtorEq, eq_self, p3, ei]
  · refine ⟨-2147483648, h, -2147483648, h, ?_, ?_, rfl, n_R_more X⟩
    · rw [n_known_n I x3 gs i1 i2 c, n_bs]
      simp only [↓reduceIte]
    · rw [if_pos tM, n_isStrip I b1 b2 i1 i2, n_bs, decide_eq_false c]
      simp only [m_w_of, n_ltT, n_ltF, n_leT, n_leF, n_eqT, n_eqF, n_bs, n_bn, ↓reduceIte, true_and, and_true, and_self, false_and, and_false, or_true, true_or, or_false, false_or, not_true_eq_false, not_false_eq_true, Bool.false_eq_true, reduceCtorEq, eq_self]
set_option maxHeartbeats 4000000 in
theorem n_s_told {h : m_H} {k : Int} (X : n_R h k) (s w : Int) (i1 : -2147483648 ≤ s) (i2 : s < 2147483648) (j1 : -2147483648 ≤ w) (j2 : w < 2147483648) : n_step h k (t10_told 1 s w) (t11_told 127 s w) := by
  have X' := X
  obtain ⟨I, gs, bud, x1, x2, x3, x4, x5, x6, x7⟩ := X'
  have b1 := gs.1.1
  have b2 := gs.1.2.1
  have tM := n_t127 I.2
  unfold n_step t10_told t11_told
  rw [if_pos (n_t1 I.2), n_p1_0 I.2, if_pos (n_t2 I.2)]
  by_cases c : 0 ≤ s ∧ s < m_g h 127 14
  · obtain ⟨⟨s1, s2, s3, s4⟩, s5, s6, s7, s8, s9, s10, s11, s12, s13, s14, s15, s16, s17⟩ := n_st x3 c
    rw [n_known_y I x3 gs c, n_bs]
    have ew := m_w_of j1 j2
    have es := m_w_of i1 i2
    have e3 := n_isStrip I b1 b2 i1 i2
    rw [decide_eq_true c] at e3
    unfold t8_fact
    have q4 := n_t132 I.2
    have q5 := n_t133 I.2
    have q3 := n_t131 I.2
    have q6 := n_t134 I.2
    have q7 := n_t135 I.2
    have q8 := n_t136 I.2
    have q9 := n_t137 I.2
    have q10 := n_t138 I.2
    have q11 := n_t139 I.2
    have q12 := n_t140 I.2
    have q13 := n_t141 I.2
    have m4 := n_l132 I.2
    have m5 := n_l133 I.2
    have m3 := n_l131 I.2
    have m6 := n_l134 I.2
    have m7 := n_l135 I.2
    have m8 := n_l136 I.2
    have m9 := n_l137 I.2
    have m10 := n_l138 I.2
    have m11 := n_l139 I.2
    have m12 := n_l140 I.2
    have m13 := n_l141 I.2
    have cs : (0 ≤ s) = True := eq_true c.1
    have cl : (s < 100) = True := eq_true (by omega)
    have n0 : (m_g h 3 s = 0) = False := eq_false (by omega)
    by_cases w0 : w = 0
    · subst w0
      refine ⟨m_g h 132 s, h, m_g h 132 s, h, ?_, ?_, rfl, n_R_more X⟩
      · simp only [ew, n0, s1, s6, ↓reduceIte, n_bs]
      · simp only [e3, ew, es, n_bs, ↓reduceIte, tM, n_p127_4 I.2, q4, m4, cs, cl, true_and]
    by_cases w1 : w = 1
    · subst w1
      refine ⟨m_g h 133 s, h, m_g h 133 s, h, ?_, ?_, rfl, n_R_more X⟩
      · simp only [ew, n0, s1, s8, ↓reduceIte, n_bs, w0]
      · simp only [e3, ew, es, n_bs, ↓reduceIte, tM, n_p127_5 I.2, q5, m5, cs, cl, true_and, w0]
    by_cases w2 : w = 2
    · subst w2
      refine ⟨m_g h 131 s, h, m_g h 131 s, h, ?_, ?_, rfl, n_R_more X⟩
      · simp only [ew, n0, s1, s3, s16, n_size s3, ↓reduceIte, n_bs, w0, w1]
      · simp only [e3, ew, es, n_bs, ↓reduceIte, tM, n_p127_3 I.2, q3, m3, cs, cl, true_and, w0, w1]
    by_cases w3 : w = 3
    · subst w3
      refine ⟨m_g h 134 s, h, m_g h 134 s, h, ?_, ?_, rfl, n_R_more X⟩
      · simp only [ew, n0, s1, s9, ↓reduceIte, n_bs, w0, w1, w2]
      · simp only [e3, ew, es, n_bs, ↓reduceIte, tM, n_p127_6 I.2, q6, m6, cs, cl, true_and, w0, w1, w2]
    by_cases w4 : w = 4
    · subst w4
      refine ⟨m_g h 135 s, h, m_g h 135 s, h, ?_, ?_, rfl, n_R_more X⟩
      · simp only [ew, n0, s1, s10, ↓reduceIte, n_bs, w0, w1, w2, w3]
      · simp only [e3, ew, es, n_bs, ↓reduceIte, tM, n_p127_7 I.2, q7, m7, cs, cl, true_and, w0, w1, w2, w3]
    by_cases w5 : w = 5
    · subst w5
      refine ⟨m_g h 136 s, h, m_g h 136 s, h, ?_, ?_, rfl, n_R_more X⟩
      · simp only [ew, n0, s1, s11, ↓reduceIte, n_bs, w0, w1, w2, w3, w4]
      · simp only [e3, ew, es, n_bs, ↓reduceIte, tM, n_p127_8 I.2, q8, m8, cs, cl, true_and, w0, w1, w2, w3, w4]
    by_cases w6 : w = 6
    · subst w6
      refine ⟨m_g h 137 s, h, m_g h 137 s, h, ?_, ?_, rfl, n_R_more X⟩
      · simp only [ew, n0, s1, s12, ↓reduceIte, n_bs, w0, w1, w2, w3, w4, w5]
      · simp only [e3, ew, es, n_bs, ↓reduceIte, tM, n_p127_9 I.2, q9, m9, cs, cl, true_and, w0, w1, w2, w3, w4, w5]
    by_cases w7 : w = 7
    · subst w7
      refine ⟨m_g h 138 s, h, m_g h 138 s, h, ?_, ?_, rfl, n_R_more X⟩
      · simp only [ew, n0, s1, s7, ↓reduceIte, n_bs, w0, w1, w2, w3, w4, w5, w6]
      · simp only [e3, ew, es, n_bs, ↓reduceIte, tM, n_p127_10 I.2, q10, m10, cs, cl, true_and, w0, w1, w2, w3, w4, w5, w6]
    by_cases w8 : w = 8
    · subst w8
      refine ⟨m_g h 139 s, h, m_g h 139 s, h, ?_, ?_, rfl, n_R_more X⟩
      · simp only [ew, n0, s1, s13, ↓reduceIte, n_bs, w0, w1, w2, w3, w4, w5, w6, w7]
      · simp only [e3, ew, es, n_bs, ↓reduceIte, tM, n_p127_11 I.2, q11, m11, cs, cl, true_and, w0, w1, w2, w3, w4, w5, w6, w7]
    by_cases w9 : w = 9
    · subst w9
      refine ⟨m_g h 140 s, h, m_g h 140 s, h, ?_, ?_, rfl, n_R_more X⟩
      · simp only [ew, n0, s1, s14, ↓reduceIte, n_bs, w0, w1, w2, w3, w4, w5, w6, w7, w8]
      · simp only [e3, ew, es, n_bs, ↓reduceIte, tM, n_p127_12 I.2, q12, m12, cs, cl, true_and, w0, w1, w2, w3, w4, w5, w6, w7, w8]
    by_cases w10 : w = 10
    · subst w10
      refine ⟨m_g h 141 s, h, m_g h 141 s, h, ?_, ?_, rfl, n_R_more X⟩
      · simp only [ew, n0, s1, s15, ↓reduceIte, n_bs, w0, w1, w2, w3, w4, w5, w6, w7, w8, w9]
      · simp only [e3, ew, es, n_bs, ↓reduceIte, tM, n_p127_13 I.2, q13, m13, cs, cl, true_and, w0, w1, w2, w3, w4, w5, w6, w7, w8, w9]
    refine ⟨-1, h, -1, h, ?_, ?_, rfl, n_R_more X⟩
    · simp only [ew, n0, s1, ↓reduceIte, n_bs, w0, w1, w2, w3, w4, w5, w6, w7, w8, w9, w10]
    · simp only [e3, ew, n_bs, ↓reduceIte, tM, w0, w1, w2, w3, w4, w5, w6, w7, w8, w9, w10]
  · refine ⟨-1, h, -1, h, ?_, ?_, rfl, n_R_more X⟩
    · rw [n_known_n I x3 gs i1 i2 c, n_bs]
      simp only [↓reduceIte]
    · rw [if_pos tM, n_isStrip I b1 b2 i1 i2, n_bs, decide_eq_false c]
      simp only [m_w_of, n_ltT, n_ltF, n_leT, n_leF, n_eqT, n_eqF, n_bs, n_bn, ↓reduceIte, true_and, and_true, and_self, false_and, and_false, or_true, true_or, or_false, false_or, not_true_eq_false, not_false_eq_true, Bool.false_eq_true, reduceCtorEq, eq_self]
