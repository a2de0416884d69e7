/-! CALLS: near, rivals: the steps -/
theorem n_s_rivals {h : m_H} {k : Int} (X : n_R h k) (t n m : Int) (t1 : -2147483648 ≤ t) (t2 : t < 2147483648) (a1 : -2147483648 ≤ n) (a2 : n < 2147483648) (b1 : -2147483648 ≤ m) (b2 : m < 2147483648) : n_step h k (t10_rivals 1 t n m) (t11_rivals 127 t n m) := by
  obtain ⟨b, h2, g2, st, e1, e2, I2, J2, R, R2, hb⟩ := n_both X t1 t2 a1 a2 b1 b2
  have I := X.1
  unfold n_step t10_rivals t11_rivals
  rw [if_pos (n_t1 I.2), n_p1_9 I.2, if_pos (n_t121 I.2), e1, n_bs]
  cases b
  · refine ⟨-1, h2, -1, g2, rfl, ?_, rfl, R⟩
    rw [if_pos (n_t127 I2.2), e2, n_bs]
    rfl
  · obtain ⟨c, sc, sr⟩ := hb rfl
    refine ⟨m_g h2 121 7 - 1, h2, m_g g2 127 91 - 1, g2, ?_, ?_, by rw [sc.1, sr.1], R⟩
    · show (if true = true then if m_t h2 1 = 10 then if m_t h2 (m_g h2 1 9) = 1 then some (m_g h2 (m_g h2 1 9) 7 - 1, h2) else none else none else _) = _
      rw [if_pos rfl, if_pos (n_t1 I2.2), n_p1_9 I2.2, if_pos (n_t121 I2.2)]
    · rw [if_pos (n_t127 I2.2), e2, n_bs]
      show (if true = true then if m_t g2 127 = 11 then some (m_g g2 127 91 - 1, g2) else none else _) = _
      rw [if_pos rfl, if_pos (n_t127 J2.2)]
theorem n_s_near {h : m_H} {k : Int} (X : n_R h k) (t n m f : Int) (t1 : -2147483648 ≤ t) (t2 : t < 2147483648) (a1 : -2147483648 ≤ n) (a2 : n < 2147483648) (b1 : -2147483648 ≤ m) (b2 : m < 2147483648) (f1 : -2147483648 ≤ f) (f2 : f < 2147483648) : n_step h k (t10_near 1 t n m f) (t11_near 127 t n m f) := by
  obtain ⟨b, h2, g2, st, e1, e2, I2, J2, R, R2, hb⟩ := n_both X t1 t2 a1 a2 b1 b2
  have I := X.1
  have t1h := n_t121 I2.2
  unfold n_step t10_near t11_near
  rw [if_pos (n_t1 I.2), n_p1_9 I.2, if_pos (n_t121 I.2), e1, n_bs]
  by_cases c : 0 ≤ f ∧ f ≤ 3
  · cases b
    · refine ⟨-1, h2, -1, g2, rfl, ?_, rfl, R⟩
      rw [m_w_of f1 f2, n_in (by omega) (by omega) (by omega) (by omega) (by omega) (by omega), decide_eq_true c, n_bs]
      show (if true = true then if m_t h2 127 = 11 then t11_nears 127 t n m h2 >>= _ else none else _) = _
      rw [if_pos rfl, if_pos (n_t127 I2.2), e2, n_bs]
      rfl
    · obtain ⟨cc, sc, sr⟩ := hb rfl
      obtain ⟨s3, s4, s5, s6⟩ := sc.2 cc
      obtain ⟨r3, r4, r5, r6⟩ := sr.2 cc
      have eb : t1_best 121 f h2 = some ((if f = 0 then st.2.1 else if f = 1 then st.2.2.1 else if f = 2 then st.2.2.2.1 else st.2.2.2.2), h2) := by
        unfold t1_best
        rw [m_w_of f1 f2, if_pos t1h, if_pos t1h, if_pos t1h, if_pos t1h, s3, s4, s5, s6]
        by_cases d0 : f = 0
        · rw [if_pos d0, if_pos d0]
        · rw [if_neg d0, if_neg d0]
          by_cases d1 : f = 1
          · rw [if_pos d1, if_pos d1]
          · rw [if_neg d1, if_neg d1]
            by_cases d2 : f = 2
            · rw [if_pos d2, if_pos d2]
            · rw [if_neg d2, if_neg d2, if_pos (by omega)]
      refine ⟨(if f = 0 then st.2.1 else if f = 1 then st.2.2.1 else if f = 2 then st.2.2.2.1 else st.2.2.2.2), h2, (if f = 0 then st.2.1 else if f = 1 then st.2.2.1 else if f = 2 then st.2.2.2.1 else st.2.2.2.2), g2, ?_, ?_, rfl, R⟩
      · show (if true = true then if m_t h2 1 = 10 then if m_t h2 (m_g h2 1 9) = 1 then t1_best (m_g h2 1 9) f h2 >>= _ else none else none else _) = _
        rw [if_pos rfl, if_pos (n_t1 I2.2), n_p1_9 I2.2, if_pos t1h, eb, n_bs]
      · rw [m_w_of f1 f2, n_in (by omega) (by omega) (by omega) (by omega) (by omega) (by omega), decide_eq_true c, n_bs]
        show (if true = true then if m_t h2 127 = 11 then t11_nears 127 t n m h2 >>= _ else none else _) = _
        rw [if_pos rfl, if_pos (n_t127 I2.2), e2, n_bs]
        show (if true = true then if f = 0 then if m_t g2 127 = 11 then some (m_g g2 127 87, g2) else none else if f = 1 then if m_t g2 127 = 11 then some (m_g g2 127 88, g2) else none else if f = 2 then if m_t g2 127 = 11 then some (m_g g2 127 89, g2) else none else if m_t g2 127 = 11 then some (m_g g2 127 90, g2) else none else _) = _
        rw [if_pos rfl, if_pos (n_t127 J2.2), if_pos (n_t127 J2.2), if_pos (n_t127 J2.2), if_pos (n_t127 J2.2), r3, r4, r5, r6]
        by_cases d0 : f = 0
        · rw [if_pos d0, if_pos d0]
        · rw [if_neg d0, if_neg d0]
          by_cases d1 : f = 1
          · rw [if_pos d1, if_pos d1]
          · rw [if_neg d1, if_neg d1]
            by_cases d2 : f = 2
            · rw [if_pos d2, if_pos d2]
            · rw [if_neg d2, if_neg d2]
  · refine ⟨-1, h2, -1, h2, ?_, ?_, rfl, R2⟩
    · cases b
      · rfl
      · show (if true = true then if m_t h2 1 = 10 then if m_t h2 (m_g h2 1 9) = 1 then t1_best (m_g h2 1 9) f h2 >>= _ else none else none else _) = _
        have eb : t1_best 121 f h2 = some (-1, h2) := by
          unfold t1_best
          rw [m_w_of f1 f2, if_neg (by omega), if_neg (by omega), if_neg (by omega), if_neg (by omega)]
        rw [if_pos rfl, if_pos (n_t1 I2.2), n_p1_9 I2.2, if_pos t1h, eb, n_bs]
    · rw [m_w_of f1 f2, n_in (by omega) (by omega) (by omega) (by omega) (by omega) (by omega), decide_eq_false c, n_bs]
      rfl
