/-! MARKS, NAILS, what is lost -/
theorem n_entry_y {h : m_H} {a i d : Int} (ha : m_t h a = 20) (l2 : m_l h a < 60000000) (i1 : 0 ≤ i) (i2 : i < m_l h a) : t10_entry a i d h = some (m_g h a i, h) := by
  unfold t10_entry
  simp (disch := omega) only [m_w_of, n_ltT, n_ltF, n_leT, n_leF, n_eqT, n_eqF, n_bs, n_bn, ↓reduceIte, true_and, and_true, and_self, false_and, and_false, or_true, true_or, or_false, false_or, not_true_eq_false, not_false_eq_true, Bool.false_eq_true, reduceCtorEq, eq_self]
theorem n_entry_n {h : m_H} {a i d : Int} (ha : m_t h a = 20) (l1 : 0 ≤ m_l h a) (l2 : m_l h a < 60000000) (i1 : -2147483648 ≤ i) (i2 : i < 2147483648) (c : ¬ (0 ≤ i ∧ i < m_l h a)) : t10_entry a i d h = some (d, h) := by
  unfold t10_entry
  by_cases q : i < 0
  · simp (disch := omega) only [m_w_of, n_ltT, n_ltF, n_leT, n_leF, n_eqT, n_eqF, n_bs, n_bn, ↓reduceIte, true_and, and_true, and_self, false_and, and_false, or_true, true_or, or_false, false_or, not_true_eq_false, not_false_eq_true, Bool.false_eq_true, reduceCtorEq, eq_self]
  · simp (disch := omega) only [m_w_of, n_ltT, n_ltF, n_leT, n_leF, n_eqT, n_eqF, n_bs, n_bn, ↓reduceIte, true_and, and_true, and_self, false_and, and_false, or_true, true_or, or_false, false_or, not_true_eq_false, not_false_eq_true, Bool.false_eq_true, reduceCtorEq, eq_self]
theorem n_setEntry_y {h : m_H} {a i v : Int} (ha : m_t h a = 20) (l2 : m_l h a < 60000000) (i1 : 0 ≤ i) (i2 : i < m_l h a) : t10_setEntry a i v h = some ((), m_p h a i v) := by
  unfold t10_setEntry
  simp (disch := omega) only [m_w_of, n_ltT, n_ltF, n_leT, n_leF, n_eqT, n_eqF, n_bs, n_bn, ↓reduceIte, true_and, and_true, and_self, false_and, and_false, or_true, true_or, or_false, false_or, not_true_eq_false, not_false_eq_true, Bool.false_eq_true, reduceCtorEq, eq_self]
theorem n_setEntry_n {h : m_H} {a i v : Int} (ha : m_t h a = 20) (l1 : 0 ≤ m_l h a) (l2 : m_l h a < 60000000) (i1 : -2147483648 ≤ i) (i2 : i < 2147483648) (c : ¬ (0 ≤ i ∧ i < m_l h a)) : t10_setEntry a i v h = some ((), h) := by
  unfold t10_setEntry
  by_cases q : i < 0
  · simp (disch := omega) only [m_w_of, n_ltT, n_ltF, n_leT, n_leF, n_eqT, n_eqF, n_bs, n_bn, ↓reduceIte, true_and, and_true, and_self, false_and, and_false, or_true, true_or, or_false, false_or, not_true_eq_false, not_false_eq_true, Bool.false_eq_true, reduceCtorEq, eq_self]
  · simp (disch := omega) only [m_w_of, n_ltT, n_ltF, n_leT, n_leF, n_eqT, n_eqF, n_bs, n_bn, ↓reduceIte, true_and, and_true, and_self, false_and, and_false, or_true, true_or, or_false, false_or, not_true_eq_false, not_false_eq_true, Bool.false_eq_true, reduceCtorEq, eq_self]
/-- the mark as known on a day, out of the first n readings -/
def n_mk (g : m_H) (s d : Int) : Nat → Int
  | 0 => -1
  | n + 1 => if m_g g 146 n = s ∧ m_g g 148 n ≤ d then m_g g 147 n else n_mk g s d n
theorem n_mk_none {g : m_H} {s d : Int} (G : n_gs g) (c : ¬ (0 ≤ s ∧ s < m_g g 127 14)) : ∀ n : Nat, (n : Int) ≤ m_g g 127 27 → n_mk g s d n = -1
  | 0, _ => rfl
  | n + 1, h => by
    have := G.2.2.2.2.2 n (by omega) (by omega)
    rw [n_mk, if_neg (fun q => c (by rw [← q.1]; exact this.1))]
    exact n_mk_none G c n (by omega)
theorem n_mk_b {g : m_H} {s d : Int} (G : n_gs g) : ∀ n : Nat, (n : Int) ≤ m_g g 127 27 → -1 ≤ n_mk g s d n ∧ n_mk g s d n ≤ 999
  | 0, _ => by rw [n_mk]; omega
  | n + 1, h => by
    have := G.2.2.2.2.2 n (by omega) (by omega)
    have := n_mk_b (s := s) (d := d) G n (by omega)
    rw [n_mk]
    split <;> omega
theorem n_t7markOf_c {h g : m_H} {s d : Int} (I : n_I h) (S : n_Rsh h g) (G : n_gs g) (s1 : -2147483648 ≤ s) (s2 : s < 2147483648) (d1 : -2147483648 ≤ d) (d2 : d < 2147483648) : ∀ n : Nat, (n : Int) ≤ m_g g 127 27 → t7_markOf_c7 2 s d ((n : Int) - 1) h = some (n_mk g s d n, h)
  | 0, _ => by
    rw [t7_markOf_c7, m_w_of (by omega) (by omega), if_pos (by omega)]
    rfl
  | n + 1, hn => by
    have B := G.1
    unfold n_shB at B
    have r := G.2.2.2.2.2 n (by omega) (by omega)
    have e := S.2.2.2 n (by omega) (by omega)
    have ih := n_t7markOf_c I S G s1 s2 d1 d2 n (by omega)
    have t2 := n_t2 I.2
    have e5 := n_entry_y (d := -1) (n_t5 I.2) (by rw [n_l5 I.2]; omega) (show (0 : Int) ≤ (n : Int) by omega) (by rw [n_l5 I.2]; omega)
    have e6 := n_entry_y (d := -1) (n_t6 I.2) (by rw [n_l6 I.2]; omega) (show (0 : Int) ≤ (n : Int) by omega) (by rw [n_l6 I.2]; omega)
    have e7 := n_entry_y (d := 400) (n_t7 I.2) (by rw [n_l7 I.2]; omega) (show (0 : Int) ≤ (n : Int) by omega) (by rw [n_l7 I.2]; omega)
    rw [t7_markOf_c7, show (((n + 1 : Nat) : Int) - 1) = (n : Int) by omega, show ((n : Int) + (-1)) = (n : Int) - 1 by omega]
    by_cases c : m_g g 146 n = s
    · by_cases c2 : m_g g 148 n ≤ d
      · rw [show n_mk g s d (n + 1) = m_g g 147 n by rw [n_mk, if_pos ⟨c, c2⟩]]
        simp (disch := omega) only [m_w_of, n_ltT, n_ltF, n_leT, n_leF, n_eqT, n_eqF, n_bs, n_bn, ↓reduceIte, true_and, and_true, and_self, false_and, and_false, or_true, true_or, or_false, false_or, not_true_eq_false, not_false_eq_true, Bool.false_eq_true, reduceCtorEq, eq_self, n_p2_7 I.2, n_p2_8 I.2, n_p2_9 I.2, e5, e6, e7, e.1, e.2.1, e.2.2, ih]
      · rw [show n_mk g s d (n + 1) = n_mk g s d n by rw [n_mk, if_neg (fun q => c2 q.2)]]
        simp (disch := omega) only [m_w_of, n_ltT, n_ltF, n_leT, n_leF, n_eqT, n_eqF, n_bs, n_bn, ↓reduceIte, true_and, and_true, and_self, false_and, and_false, or_true, true_or, or_false, false_or, not_true_eq_false, not_false_eq_true, Bool.false_eq_true, reduceCtorEq, eq_self, n_p2_7 I.2, n_p2_8 I.2, n_p2_9 I.2, e5, e6, e7, e.1, e.2.1, e.2.2, ih]
    · rw [show n_mk g s d (n + 1) = n_mk g s d n by rw [n_mk, if_neg (fun q => c q.1)]]
      simp (disch := omega) only [m_w_of, n_ltT, n_ltF, n_leT, n_leF, n_eqT, n_eqF, n_bs, n_bn, ↓reduceIte, true_and, and_true, and_self, false_and, and_false, or_true, true_or, or_false, false_or, not_true_eq_false, not_false_eq_true, Bool.false_eq_true, reduceCtorEq, eq_self, n_p2_7 I.2, n_p2_8 I.2, n_p2_9 I.2, e5, e6, e7, e.1, e.2.1, e.2.2, ih]
theorem n_t7markOf {h g : m_H} {s d : Int} (I : n_I h) (S : n_Rsh h g) (G : n_gs g) (s1 : -2147483648 ≤ s) (s2 : s < 2147483648) (d1 : -2147483648 ≤ d) (d2 : d < 2147483648) : t7_markOf 2 s d h = some (n_mk g s d (m_g g 127 27).toNat, h) := by
  have B := G.1
  unfold n_shB at B
  have N := S.1
  unfold n_shN at N
  have := n_t7markOf_c I S G s1 s2 d1 d2 (m_g g 127 27).toNat (by omega)
  unfold t7_markOf
  rw [if_pos (n_t2 I.2), n_bs, N.2.2.2.2.2, show m_g g 127 27 - 1 = ((m_g g 127 27).toNat : Int) - 1 by omega]
  exact this
theorem n_t11markOf {g : m_H} {s d : Int} (I : n_I g) (G : n_gs g) (s1 : -2147483648 ≤ s) (s2 : s < 2147483648) (d1 : -2147483648 ≤ d) (d2 : d < 2147483648) : t11_markOf 127 s d g = some (n_mk g s d (m_g g 127 27).toNat, g) := by
  have B := G.1
  unfold n_shB at B
  have tM := n_t127 I.2
  have t4 := n_t146 I.2
  have l4 := n_l146 I.2
  have p4 := n_p127_24 I.2
  have t5 := n_t147 I.2
  have l5 := n_l147 I.2
  have p5 := n_p127_25 I.2
  have t6 := n_t148 I.2
  have l6 := n_l148 I.2
  have p6 := n_p127_26 I.2
  have key := n_iter (fun j => t11_markOf_c5 127 s d (n_mk g s d j.toNat) j g) 0 (m_g g 127 27) (by omega) (fun j j1 j2 => by
    show t11_markOf_c5 127 s d (n_mk g s d j.toNat) j g = t11_markOf_c5 127 s d (n_mk g s d (j + 1).toNat) (j + 1) g
    obtain ⟨n, rfl⟩ : ∃ n : Nat, j = n := ⟨j.toNat, by omega⟩
    have r := G.2.2.2.2.2 n (by omega) (by omega)
    rw [show ((n : Int) + 1).toNat = n + 1 by omega, show ((n : Int)).toNat = n by omega, n_mk]
    rw [t11_markOf_c5]
    by_cases c : m_g g 146 n = s
    · by_cases c2 : m_g g 148 n ≤ d
      · rw [if_pos (show m_g g 146 n = s ∧ m_g g 148 n ≤ d from ⟨c, c2⟩)]
        simp (disch := omega) only [m_w_of, n_ltT, n_ltF, n_leT, n_leF, n_eqT, n_eqF, n_bs, n_bn, ↓reduceIte, true_and, and_true, and_self, false_and, and_false, or_true, true_or, or_false, false_or, not_true_eq_false, not_false_eq_true, Bool.false_eq_true, reduceCtorEq, eq_self, p4, p5, p6]
      · rw [if_neg (show ¬ (m_g g 146 n = s ∧ m_g g 148 n ≤ d) from fun q => c2 q.2)]
        simp (disch := omega) only [m_w_of, n_ltT, n_ltF, n_leT, n_leF, n_eqT, n_eqF, n_bs, n_bn, ↓reduceIte, true_and, and_true, and_self, false_and, and_false, or_true, true_or, or_false, false_or, not_true_eq_false, not_false_eq_true, Bool.false_eq_true, reduceCtorEq, eq_self, p4, p5, p6]
    · rw [if_neg (show ¬ (m_g g 146 n = s ∧ m_g g 148 n ≤ d) from fun q => c q.1)]
      simp (disch := omega) only [m_w_of, n_ltT, n_ltF, n_leT, n_leF, n_eqT, n_eqF, n_bs, n_bn, ↓reduceIte, true_and, and_true, and_self, false_and, and_false, or_true, true_or, or_false, false_or, not_true_eq_false, not_false_eq_true, Bool.false_eq_true, reduceCtorEq, eq_self, p4, p5, p6])
  refine key.trans ?_
  rw [t11_markOf_c5]
  simp (disch := omega) only [m_w_of, n_ltT, n_ltF, n_leT, n_leF, n_eqT, n_eqF, n_bs, n_bn, ↓reduceIte, true_and, and_true, and_self, false_and, and_false, or_true, true_or, or_false, false_or, not_true_eq_false, not_false_eq_true, Bool.false_eq_true, reduceCtorEq, eq_self]
theorem n_s_marked {h : m_H} {k : Int} (X : n_R h k) (s d : Int) (i1 : -2147483648 ≤ s) (i2 : s < 2147483648) (d1 : -2147483648 ≤ d) (d2 : d < 2147483648) : n_step h k (t10_marked 1 s d) (t11_marked 127 s d) := by
  have X' := X
  obtain ⟨I, gs, bud, x1, x2, x3, x4, x5, x6, x7⟩ := X'
  have b1 := gs.1.1
  have b2 := gs.1.2.1
  have B := gs.1
  unfold n_shB at B
  have tM := n_t127 I.2
  unfold n_step t10_marked t11_marked
  have e1 := n_t7markOf I x3 gs i1 i2 d1 d2
  have e2 := n_t11markOf I gs i1 i2 d1 d2
  have e3 := n_isStrip I b1 b2 i1 i2
  have e4 := n_in (a := d) (b := 0) (c := 400) (h := h) (by omega) (by omega) (by omega) (by omega) (by omega) (by omega)
  have q1 := n_t1 I.2
  have q2 := n_t2 I.2
  by_cases c : 0 ≤ d ∧ d ≤ 400
  · rw [decide_eq_true c] at e4
    refine ⟨n_mk h s d (m_g h 127 27).toNat, h, n_mk h s d (m_g h 127 27).toNat, h, by simp (disch := omega) only [m_w_of, n_ltT, n_ltF, n_leT, n_leF, n_eqT, n_eqF, n_bs, n_bn, ↓reduceIte, true_and, and_true, and_self, false_and, and_false, or_true, true_or, or_false, false_or, not_true_eq_false, not_false_eq_true, Bool.false_eq_true, reduceCtorEq, eq_self, n_p1_0 I.2, e1], ?_, rfl, n_R_more X⟩
    by_cases c2 : 0 ≤ s ∧ s < m_g h 127 14
    · rw [decide_eq_true c2] at e3
      simp (disch := omega) only [m_w_of, n_ltT, n_ltF, n_leT, n_leF, n_eqT, n_eqF, n_bs, n_bn, ↓reduceIte, true_and, and_true, and_self, false_and, and_false, or_true, true_or, or_false, false_or, not_true_eq_false, not_false_eq_true, Bool.false_eq_true, reduceCtorEq, eq_self, e2, e3, e4]
    · rw [decide_eq_false c2] at e3
      have := n_mk_none (d := d) gs c2 (m_g h 127 27).toNat (by omega)
      simp (disch := omega) only [m_w_of, n_ltT, n_ltF, n_leT, n_leF, n_eqT, n_eqF, n_bs, n_bn, ↓reduceIte, true_and, and_true, and_self, false_and, and_false, or_true, true_or, or_false, false_or, not_true_eq_false, not_false_eq_true, Bool.false_eq_true, reduceCtorEq, eq_self, e2, e3, e4, this]
  · rw [decide_eq_false c] at e4
    refine ⟨-1, h, -1, h, ?_, ?_, rfl, n_R_more X⟩
    · by_cases c2 : d < 0
      · simp (disch := omega) only [m_w_of, n_ltT, n_ltF, n_leT, n_leF, n_eqT, n_eqF, n_bs, n_bn, ↓reduceIte, true_and, and_true, and_self, false_and, and_false, or_true, true_or, or_false, false_or, not_true_eq_false, not_false_eq_true, Bool.false_eq_true, reduceCtorEq, eq_self]
      · simp (disch := omega) only [m_w_of, n_ltT, n_ltF, n_leT, n_leF, n_eqT, n_eqF, n_bs, n_bn, ↓reduceIte, true_and, and_true, and_self, false_and, and_false, or_true, true_or, or_false, false_or, not_true_eq_false, not_false_eq_true, Bool.false_eq_true, reduceCtorEq, eq_self]
    · by_cases c2 : 0 ≤ s ∧ s < m_g h 127 14
      · rw [decide_eq_true c2] at e3
        simp (disch := omega) only [m_w_of, n_ltT, n_ltF, n_leT, n_leF, n_eqT, n_eqF, n_bs, n_bn, ↓reduceIte, true_and, and_true, and_self, false_and, and_false, or_true, true_or, or_false, false_or, not_true_eq_false, not_false_eq_true, Bool.false_eq_true, reduceCtorEq, eq_self, e3, e4]
      · rw [decide_eq_false c2] at e3
        simp (disch := omega) only [m_w_of, n_ltT, n_ltF, n_leT, n_leF, n_eqT, n_eqF, n_bs, n_bn, ↓reduceIte, true_and, and_true, and_self, false_and, and_false, or_true, true_or, or_false, false_or, not_true_eq_false, not_false_eq_true, Bool.false_eq_true, reduceCtorEq, eq_self, e3]
/-! nails -/
/-- what hangs on a nail: r is its number, or -1 -/
def n_nl (g : m_H) (nail r : Int) : Prop := (r = -1 ∧ (nail = -1 ∨ ∀ i, 0 ≤ i → i < m_g g 127 14 → m_g g 137 i ≠ nail)) ∨ (0 ≤ r ∧ r < m_g g 127 14 ∧ nail ≠ -1 ∧ m_g g 137 r = nail ∧ ∀ i, 0 ≤ i → i < r → m_g g 137 i ≠ nail)
theorem n_hangingOn {h g : m_H} {nail : Int} (I : n_I h) (S : n_Rsh h g) (G : n_gs g) (s1 : -2147483648 ≤ nail) (s2 : nail < 2147483648) : ∃ r, t7_hangingOn 2 nail h = some (r, h) ∧ n_nl g nail r := by
  have B := G.1
  unfold n_shB at B
  have N := S.1
  unfold n_shN at N
  have t2 := n_t2 I.2
  unfold t7_hangingOn n_nl
  by_cases cn : nail = -1
  · refine ⟨-1, ?_, Or.inl ⟨rfl, Or.inl cn⟩⟩
    rw [t7_hangingOn_c2]
    by_cases c0 : 0 < m_g g 127 14
    · simp (disch := omega) only [m_w_of, n_ltT, n_ltF, n_leT, n_leF, n_eqT, n_eqF, n_bs, n_bn, ↓reduceIte, true_and, and_true, and_self, false_and, and_false, or_true, true_or, or_false, false_or, not_true_eq_false, not_false_eq_true, Bool.false_eq_true, reduceCtorEq, eq_self]
    · simp (disch := omega) only [m_w_of, n_ltT, n_ltF, n_leT, n_leF, n_eqT, n_eqF, n_bs, n_bn, ↓reduceIte, true_and, and_true, and_self, false_and, and_false, or_true, true_or, or_false, false_or, not_true_eq_false, not_false_eq_true, Bool.false_eq_true, reduceCtorEq, eq_self]
  rcases n_find (fun i => t7_hangingOn_c2 2 nail i h) 0 (m_g g 127 14) (fun i => m_g g 137 i = nail) (by omega) (fun i j1 j2 hp => by
    show t7_hangingOn_c2 2 nail i h = t7_hangingOn_c2 2 nail (i + 1) h
    have hp : ¬ m_g g 137 i = nail := hp
    obtain ⟨⟨q1, q2, q3, q4⟩, q5, q6, q7, q8, q9, q10, q11, q12, q13⟩ := n_st S ⟨j1, j2⟩
    have b := G.2.1 i j1 j2
    unfold n_strB at b
    rw [t7_hangingOn_c2]
    by_cases c : m_g g 133 i = 0
    · simp (disch := omega) only [m_w_of, n_ltT, n_ltF, n_leT, n_leF, n_eqT, n_eqF, n_bs, n_bn, ↓reduceIte, true_and, and_true, and_self, false_and, and_false, or_true, true_or, or_false, false_or, not_true_eq_false, not_false_eq_true, Bool.false_eq_true, reduceCtorEq, eq_self, n_there_y I S G ⟨j1, j2⟩ c]
    · simp (disch := omega) only [m_w_of, n_ltT, n_ltF, n_leT, n_leF, n_eqT, n_eqF, n_bs, n_bn, ↓reduceIte, true_and, and_true, and_self, false_and, and_false, or_true, true_or, or_false, false_or, not_true_eq_false, not_false_eq_true, Bool.false_eq_true, reduceCtorEq, eq_self, n_there_n I S G (i := i) (by omega) (by omega) (fun q => c q.2.2)]) with ⟨a, b⟩ | ⟨i, a, b, c, d, e⟩
  · refine ⟨-1, b.trans ?_, Or.inl ⟨rfl, Or.inr a⟩⟩
    show t7_hangingOn_c2 2 nail (m_g g 127 14) h = _
    rw [t7_hangingOn_c2]
    simp (disch := omega) only [m_w_of, n_ltT, n_ltF, n_leT, n_leF, n_eqT, n_eqF, n_bs, n_bn, ↓reduceIte, true_and, and_true, and_self, false_and, and_false, or_true, true_or, or_false, false_or, not_true_eq_false, not_false_eq_true, Bool.false_eq_true, reduceCtorEq, eq_self]
  · refine ⟨i, e.trans ?_, Or.inr ⟨a, b, cn, c, d⟩⟩
    show t7_hangingOn_c2 2 nail i h = _
    obtain ⟨⟨q1, q2, q3, q4⟩, q5, q6, q7, q8, q9, q10, q11, q12, q13⟩ := n_st S ⟨a, b⟩
    have bb := G.2.1 i a b
    unfold n_strB at bb
    have c : m_g g 137 i = nail := c
    have c3 : m_g g 133 i = 0 := by omega
    rw [t7_hangingOn_c2]
    simp (disch := omega) only [m_w_of, n_ltT, n_ltF, n_leT, n_leF, n_eqT, n_eqF, n_bs, n_bn, ↓reduceIte, true_and, and_true, and_self, false_and, and_false, or_true, true_or, or_false, false_or, not_true_eq_false, not_false_eq_true, Bool.false_eq_true, reduceCtorEq, eq_self, n_there_y I S G ⟨a, b⟩ c3]
theorem n_nail {g : m_H} {nail : Int} (I : n_I g) (G : n_gs g) (s1 : -2147483648 ≤ nail) (s2 : nail < 2147483648) : ∃ r, t11_nail 127 nail g = some (r, g) ∧ n_nl g nail r := by
  have B := G.1
  unfold n_shB at B
  have tM := n_t127 I.2
  have t9 := n_t137 I.2
  have l9 := n_l137 I.2
  have p9 := n_p127_9 I.2
  have e4 := n_in (a := nail) (b := 0) (c := 29) (h := g) (by omega) (by omega) (by omega) (by omega) (by omega) (by omega)
  unfold t11_nail n_nl
  by_cases cn : 0 ≤ nail ∧ nail ≤ 29
  · rw [decide_eq_true cn] at e4
    rcases n_find (fun i => t11_nail_c2 127 nail i g) 0 (m_g g 127 14) (fun i => m_g g 137 i = nail) (by omega) (fun i j1 j2 hp => by
      show t11_nail_c2 127 nail i g = t11_nail_c2 127 nail (i + 1) g
      have hp : ¬ m_g g 137 i = nail := hp
      have b := G.2.1 i j1 j2
      unfold n_strB at b
      rw [t11_nail_c2]
      simp (disch := omega) only [m_w_of, n_ltT, n_ltF, n_leT, n_leF, n_eqT, n_eqF, n_bs, n_bn, ↓reduceIte, true_and, and_true, and_self, false_and, and_false, or_true, true_or, or_false, false_or, not_true_eq_false, not_false_eq_true, Bool.false_eq_true, reduceCtorEq, eq_self, e4, p9]) with ⟨a, b⟩ | ⟨i, a, b, c, d, e⟩
    · refine ⟨-1, b.trans ?_, Or.inl ⟨rfl, Or.inr a⟩⟩
      show t11_nail_c2 127 nail (m_g g 127 14) g = _
      rw [t11_nail_c2]
      simp (disch := omega) only [m_w_of, n_ltT, n_ltF, n_leT, n_leF, n_eqT, n_eqF, n_bs, n_bn, ↓reduceIte, true_and, and_true, and_self, false_and, and_false, or_true, true_or, or_false, false_or, not_true_eq_false, not_false_eq_true, Bool.false_eq_true, reduceCtorEq, eq_self]
    · refine ⟨i, e.trans ?_, Or.inr ⟨a, b, by omega, c, d⟩⟩
      show t11_nail_c2 127 nail i g = _
      have c : m_g g 137 i = nail := c
      rw [t11_nail_c2]
      simp (disch := omega) only [m_w_of, n_ltT, n_ltF, n_leT, n_leF, n_eqT, n_eqF, n_bs, n_bn, ↓reduceIte, true_and, and_true, and_self, false_and, and_false, or_true, true_or, or_false, false_or, not_true_eq_false, not_false_eq_true, Bool.false_eq_true, reduceCtorEq, eq_self, e4, p9]
  · rw [decide_eq_false cn] at e4
    refine ⟨-1, ?_, Or.inl ⟨rfl, ?_⟩⟩
    · rw [t11_nail_c2]
      by_cases c0 : 0 < m_g g 127 14
      · simp (disch := omega) only [m_w_of, n_ltT, n_ltF, n_leT, n_leF, n_eqT, n_eqF, n_bs, n_bn, ↓reduceIte, true_and, and_true, and_self, false_and, and_false, or_true, true_or, or_false, false_or, not_true_eq_false, not_false_eq_true, Bool.false_eq_true, reduceCtorEq, eq_self, e4]
      · simp (disch := omega) only [m_w_of, n_ltT, n_ltF, n_leT, n_leF, n_eqT, n_eqF, n_bs, n_bn, ↓reduceIte, true_and, and_true, and_self, false_and, and_false, or_true, true_or, or_false, false_or, not_true_eq_false, not_false_eq_true, Bool.false_eq_true, reduceCtorEq, eq_self, e4]
    · by_cases c : nail = -1
      · exact Or.inl c
      · right
        intro i j1 j2
        have b := G.2.1 i j1 j2
        unfold n_strB at b
        omega
theorem n_nl_u {g : m_H} {nail r q : Int} (a : n_nl g nail r) (b : n_nl g nail q) : r = q := by
  unfold n_nl at a b
  rcases a with ⟨a1, a2⟩ | ⟨a1, a2, a3, a4, a5⟩
  · rcases b with ⟨b1, b2⟩ | ⟨b1, b2, b3, b4, b5⟩
    · omega
    · rcases a2 with e | e
      · exact absurd e b3
      · exact absurd b4 (e q b1 b2)
  · rcases b with ⟨b1, b2⟩ | ⟨b1, b2, b3, b4, b5⟩
    · rcases b2 with e | e
      · exact absurd e a3
      · exact absurd a4 (e r a1 a2)
    · rcases Int.lt_trichotomy r q with e | e | e
      · exact absurd a4 (b5 r a1 e)
      · exact e
      · exact absurd b4 (a5 q b1 e)
theorem n_s_nail {h : m_H} {k : Int} (X : n_R h k) (s : Int) (i1 : -2147483648 ≤ s) (i2 : s < 2147483648) : n_step h k (t10_nail 1 s) (t11_nail 127 s) := by
  have X' := X
  obtain ⟨I, gs, bud, x1, x2, x3, x4, x5, x6, x7⟩ := X'
  obtain ⟨r, e1, q1⟩ := n_hangingOn I x3 gs i1 i2
  obtain ⟨r2, e2, q2⟩ := n_nail I gs i1 i2
  refine ⟨r, h, r2, h, ?_, e2, by rw [n_nl_u q1 q2], n_R_more X⟩
  unfold t10_nail
  rw [if_pos (n_t1 I.2), n_p1_0 I.2, if_pos (n_t2 I.2), e1, n_bs]
