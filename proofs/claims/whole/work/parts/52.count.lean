/-! CALLS: out, count -/
theorem n_s_out {h : m_H} {k : Int} (X : n_R h k) (t : Int) (i1 : -2147483648 ≤ t) (i2 : t < 2147483648) : n_step h k (t10_out 1 t) (t11_out 127 t) := by
  have X' := X
  obtain ⟨I, gs, bud, x1, x2, x3, x4, x5, x6, x7⟩ := X'
  obtain ⟨y1, y2, y3, y4, y5⟩ := x6
  have l5 := x5.2.2.1
  have R := n_wf_row I.1 (n_t107 I.2)
  have tM := n_t127 I.2
  have eC : t10_out 1 t h = some ((if 0 ≤ t ∧ t < m_g h 107 1 then n_rg h 107 t else -2147483648), h) := by
    unfold t10_out
    rw [if_pos (n_t1 I.2), n_p1_6 I.2, if_pos (n_t106 I.2), n_p106_1 I.2, n_sampleOf R i1 i2, n_bs]
  unfold n_step
  rw [eC]
  by_cases c : m_g h 127 60 = -1
  · have := (y4 c).2.2
    refine ⟨-2147483648, h, -2147483648, h, ?_, ?_, rfl, n_R_more X⟩
    · rw [if_neg (by omega)]
    · unfold t11_out
      rw [if_pos tM, m_w_of (by omega) (by omega), if_pos c]
  · obtain ⟨p1, p2, p3, p4, p5, p6⟩ := y5 (by omega)
    have ei := n_in (a := t) (b := 0) (c := m_g h 127 61 - 1) (h := h) (by omega) (by omega) (by omega) (by omega) (by omega) (by omega)
    by_cases d : 0 ≤ t ∧ t < m_g h 127 61
    · have l := n_l285 I.2
      refine ⟨m_g h 285 t, h, m_g h 285 t, h, ?_, ?_, rfl, n_R_more X⟩
      · rw [if_pos (by omega), (p5 t d.1 d.2).1]
      · unfold t11_out
        rw [if_pos tM, m_w_of (by omega) (by omega), if_neg c, m_w_of i1 i2, m_w_of (by omega) (by omega), ei, n_bs, decide_eq_true (by omega)]
        show (if true = true then if m_t h 127 = 11 then if m_t h (m_g h 127 63) = 20 ∧ 0 ≤ t ∧ t < m_l h (m_g h 127 63) then _ else none else none else _) = _
        rw [if_pos rfl, if_pos tM, n_p127_63 I.2, if_pos ⟨n_t285 I.2, by omega, by omega⟩]
    · refine ⟨-2147483648, h, -2147483648, h, ?_, ?_, rfl, n_R_more X⟩
      · rw [if_neg (by omega)]
      · unfold t11_out
        rw [if_pos tM, m_w_of (by omega) (by omega), if_neg c, m_w_of i1 i2, m_w_of (by omega) (by omega), ei, n_bs, decide_eq_false (by omega)]
        rfl
theorem n_isScore {g : m_H} {s : Int} (I : n_I g) (b1 : 0 ≤ m_g g 127 43) (b2 : m_g g 127 43 ≤ 8) : t11_isScore 127 s g = some (decide (0 ≤ m_w s ∧ m_w s < m_g g 127 43), g) := by
  have := m_w_lo s
  have := m_w_hi s
  unfold t11_isScore
  rw [if_pos (n_t127 I.2), m_w_of (x := m_g g 127 43 - 1) (by omega) (by omega), n_in (by omega) (by omega) (by omega) (by omega) (by omega) (by omega), n_bs]
  have : (decide (0 ≤ m_w s ∧ m_w s ≤ m_g g 127 43 - 1)) = decide (0 ≤ m_w s ∧ m_w s < m_g g 127 43) := decide_eq_decide.mpr (by omega)
  rw [this]
/-- the component's score of a number -/
theorem n_scoreOf_y {h g : m_H} {s : Int} (I : n_I h) (S : n_Rsc h g) (c : 0 ≤ s ∧ s < m_g g 127 43) : t10_scoreOf 1 s h = some (m_g h 19 s, h) := by
  obtain ⟨s1, s2, s3, s4⟩ := S
  have l := n_l19 I.2
  unfold t10_scoreOf
  rw [m_w_of (by omega) (by omega), if_neg (by omega), if_pos (n_t1 I.2), s1, m_w_of (by omega) (by omega), if_pos c.2, n_p1_3 I.2, if_pos (by rw [n_t19 I.2]; omega), l, m_w_of (by omega) (by omega), if_pos (by omega), if_pos ⟨n_t19 I.2, by omega, by omega⟩]
theorem n_scoreOf_n {h g : m_H} {s : Int} (I : n_I h) (S : n_Rsc h g) (i1 : -2147483648 ≤ s) (i2 : s < 2147483648) (c : ¬ (0 ≤ s ∧ s < m_g g 127 43)) : t10_scoreOf 1 s h = some (0, h) := by
  obtain ⟨s1, s2, s3, s4⟩ := S
  unfold t10_scoreOf
  rw [m_w_of i1 i2]
  by_cases d : s < 0
  · rw [if_pos d]
  · rw [if_neg d, if_pos (n_t1 I.2), s1, m_w_of (by omega) (by omega), if_neg (by omega)]
/-- how many of the first n strips are there -/
def n_th (g : m_H) : Nat → Int
  | 0 => 0
  | n + 1 => n_th g n + if m_g g 133 n = 0 then 1 else 0
theorem n_th_b (g : m_H) : ∀ n : Nat, 0 ≤ n_th g n ∧ n_th g n ≤ n
  | 0 => by unfold n_th; omega
  | n + 1 => by
    have := n_th_b g n
    rw [n_th]
    split <;> omega
theorem n_countThere {h g : m_H} (I : n_I h) (S : n_Rsh h g) (G : n_gs g) : t7_countThere 2 h = some (n_th g (m_g g 127 14).toNat, h) := by
  have B := G.1
  unfold n_shB at B
  have N := S.1.1
  have key := n_iter (fun i => t7_countThere_c4 2 (n_th g i.toNat) i h) 0 (m_g g 127 14) B.1 (fun i i1 i2 => by
    show t7_countThere_c4 2 (n_th g i.toNat) i h = t7_countThere_c4 2 (n_th g (i + 1).toNat) (i + 1) h
    obtain ⟨n, rfl⟩ : ∃ n : Nat, i = n := ⟨i.toNat, by omega⟩
    rw [show ((n : Int) + 1).toNat = n + 1 by omega, show (n : Int).toNat = n by omega, n_th, t7_countThere_c4, if_pos (n_t2 I.2), N, m_w_of (by omega) (by omega), m_w_of (by omega) (by omega), if_pos i2]
    have a := (n_st S ⟨i1, i2⟩).1.2.1
    by_cases c : m_g g 133 n = 0
    · rw [n_there_y I S G ⟨i1, i2⟩ c, n_bs, if_pos c]
      show (if m_g h 3 n = 0 then _ else _) = _
      rw [if_neg (by omega)]
    · rw [n_there_n I S G (by omega) (by omega) (fun q => c q.2.2), n_bs, if_neg c, Int.add_zero]
      rfl)
  unfold t7_countThere
  refine key.trans ?_
  show t7_countThere_c4 2 (n_th g (m_g g 127 14).toNat) (m_g g 127 14) h = _
  rw [t7_countThere_c4, if_pos (n_t2 I.2), N, if_neg (by omega)]
theorem n_countR {g : m_H} (I : n_I g) (G : n_gs g) : t11_count_c96 127 0 0 g = some (n_th g (m_g g 127 14).toNat, g) := by
  have B := G.1
  unfold n_shB at B
  have l := n_l133 I.2
  have key := n_iter (fun i => t11_count_c96 127 (n_th g i.toNat) i g) 0 (m_g g 127 14) B.1 (fun i i1 i2 => by
    show t11_count_c96 127 (n_th g i.toNat) i g = t11_count_c96 127 (n_th g (i + 1).toNat) (i + 1) g
    obtain ⟨n, rfl⟩ : ∃ n : Nat, i = n := ⟨i.toNat, by omega⟩
    have b := G.2.1 n i1 i2
    unfold n_strB at b
    rw [show ((n : Int) + 1).toNat = n + 1 by omega, show (n : Int).toNat = n by omega, n_th, t11_count_c96, if_pos (n_t127 I.2), m_w_of (by omega) (by omega), m_w_of (by omega) (by omega), if_pos i2, n_p127_5 I.2, if_pos ⟨n_t133 I.2, by omega, by omega⟩, m_w_of (by omega) (by omega)]
    by_cases c : m_g g 133 n = 0
    · rw [if_pos c, n_bs, if_pos c]
    · rw [if_neg c, n_bs, if_neg c])
  refine key.trans ?_
  show t11_count_c96 127 (n_th g (m_g g 127 14).toNat) (m_g g 127 14) g = _
  rw [t11_count_c96, if_pos (n_t127 I.2), if_neg (by omega)]
theorem n_s_count {h : m_H} {k : Int} (X : n_R h k) (w : Int) (i1 : -2147483648 ≤ w) (i2 : w < 2147483648) : n_step h k (t10_count 1 w) (t11_count 127 w) := by
  have X' := X
  obtain ⟨I, gs, bud, x1, x2, x3, x4, x5, x6, x7⟩ := X'
  have N := x3.1
  unfold n_shN at N
  have s2 := x5.2.1
  have s3 := x5.2.2.1
  have eS := n_isScore (s := w - 20) I s2 s3
  have t1 := n_t1 I.2
  have tM := n_t127 I.2
  have mw : (0 ≤ m_w (w - 20) ∧ m_w (w - 20) < m_g h 127 43) ↔ (20 ≤ w ∧ w - 20 < m_g h 127 43) := by
    rw [m_w]
    omega
  have hM := n_R_more X
  unfold n_step
  by_cases c : 20 ≤ w ∧ w - 20 < m_g h 127 43
  · have S := (x5.2.2.2.1 (w - 20) (by omega) c.2)
    obtain ⟨⟨⟨a1, a2, a3⟩, b1, b2⟩, b3⟩ := S
    rw [decide_eq_true (mw.mpr c)] at eS
    have l := n_l151 I.2
    refine ⟨m_g h 151 (w - 20), h, m_g h 151 (w - 20), h, ?_, ?_, rfl, hM⟩
    · unfold t10_count
      rw [m_w_of i1 i2, if_neg (by omega), if_neg (by omega), if_neg (by omega), if_neg (by omega), if_neg (by omega), if_neg (by omega), if_neg (by omega), if_neg (by omega), if_neg (by omega), if_neg (by omega), if_neg (by omega), if_neg (by omega), if_pos t1, n_scoreOf_y I x5 (by omega), n_bs]
      show (if m_g h 19 (w - 20) = 0 then _ else if m_t h (m_g h 19 (w - 20)) = 6 then _ else none) = _
      rw [if_neg (by omega), if_pos a1, b1]
    · unfold t11_count
      rw [if_pos tM, eS, n_bs]
      show (if true = true then if m_t h 127 = 11 then if m_t h (m_g h 127 34) = 20 ∧ 0 ≤ m_w (w - 20) ∧ m_w (w - 20) < m_l h (m_g h 127 34) then _ else none else none else _) = _
      rw [if_pos rfl, if_pos tM, n_p127_34 I.2, m_w_of (by omega) (by omega), if_pos ⟨n_t151 I.2, by omega, by omega⟩]
  · rw [decide_eq_false (fun q => c (mw.mp q))] at eS
    have base : t11_count 127 w h = (if w = 0 then (if m_t h 127 = 11 then some (m_g h 127 18, h) else none) else (if w = 1 then (if m_t h 127 = 11 then some (m_g h 127 14, h) else none) else (if w = 2 then (t11_count_c96 127 0 0 h) else (if w = 3 then (if m_t h 127 = 11 then some (m_g h 127 15, h) else none) else (if w = 4 then (if m_t h 127 = 11 then some (m_g h 127 16, h) else none) else (if w = 5 then (if m_t h 127 = 11 then some (m_g h 127 23, h) else none) else (if w = 6 then (if m_t h 127 = 11 then some (m_g h 127 43, h) else none) else (if w = 7 then (if m_t h 127 = 11 then some (m_g h 127 30, h) else none) else (if w = 8 then (if m_t h 127 = 11 then some (m_g h 127 85, h) else none) else (if w = 9 then (if m_t h 127 = 11 then some (m_g h 127 60, h) else none) else (if w = 10 then (if m_t h 127 = 11 then (if m_w (m_g h 127 60) = -1 then some (-1, h) else some (m_g h 127 61, h)) else none) else some (-1, h)))))))))))) := by
      unfold t11_count
      rw [if_pos tM, eS, n_bs, m_w_of i1 i2]
      rfl
    have y := x6
    obtain ⟨y1, y2, y3, y4, y5⟩ := y
    have eN := n_countThere I x3 gs
    have eR := n_countR I gs
    by_cases w0 : w = 0
    · refine ⟨m_g h 127 18, h, m_g h 127 18, h, ?_, base.trans ?_, rfl, hM⟩
      · unfold t10_count
        rw [m_w_of i1 i2, if_pos w0, if_pos t1, n_p1_0 I.2, if_pos (n_t2 I.2), N.2.2.1]
      · rw [if_pos w0, if_pos tM]
    by_cases w1 : w = 1
    · refine ⟨m_g h 127 14, h, m_g h 127 14, h, ?_, base.trans ?_, rfl, hM⟩
      · unfold t10_count
        rw [m_w_of i1 i2, if_neg w0, if_pos w1, if_pos t1, n_p1_0 I.2, if_pos (n_t2 I.2), N.1]
      · rw [if_neg w0, if_pos w1, if_pos tM]
    by_cases w2 : w = 2
    · refine ⟨n_th h (m_g h 127 14).toNat, h, n_th h (m_g h 127 14).toNat, h, ?_, base.trans ?_, rfl, hM⟩
      · unfold t10_count
        rw [m_w_of i1 i2, if_neg w0, if_neg w1, if_pos w2, if_pos t1, n_p1_0 I.2, if_pos (n_t2 I.2), eN, n_bs]
      · rw [if_neg w0, if_neg w1, if_pos w2, eR]
    by_cases w3 : w = 3
    · refine ⟨m_g h 127 15, h, m_g h 127 15, h, ?_, base.trans ?_, rfl, hM⟩
      · unfold t10_count
        rw [m_w_of i1 i2, if_neg w0, if_neg w1, if_neg w2, if_pos w3, if_pos t1, n_p1_0 I.2, if_pos (n_t2 I.2), N.2.1]
      · rw [if_neg w0, if_neg w1, if_neg w2, if_pos w3, if_pos tM]
    by_cases w4 : w = 4
    · refine ⟨m_g h 127 16, h, m_g h 127 16, h, ?_, base.trans ?_, rfl, hM⟩
      · unfold t10_count
        rw [m_w_of i1 i2, if_neg w0, if_neg w1, if_neg w2, if_neg w3, if_pos w4, if_pos t1, n_p1_1 I.2, if_pos (n_t8 I.2), n_size (n_t8 I.2), n_bs, x1.1]
      · rw [if_neg w0, if_neg w1, if_neg w2, if_neg w3, if_pos w4, if_pos tM]
    by_cases w5 : w = 5
    · refine ⟨m_g h 127 23, h, m_g h 127 23, h, ?_, base.trans ?_, rfl, hM⟩
      · unfold t10_count
        rw [m_w_of i1 i2, if_neg w0, if_neg w1, if_neg w2, if_neg w3, if_neg w4, if_pos w5, if_pos t1, n_p1_0 I.2, if_pos (n_t2 I.2), N.2.2.2.2.1]
      · rw [if_neg w0, if_neg w1, if_neg w2, if_neg w3, if_neg w4, if_pos w5, if_pos tM]
    by_cases w6 : w = 6
    · refine ⟨m_g h 127 43, h, m_g h 127 43, h, ?_, base.trans ?_, rfl, hM⟩
      · unfold t10_count
        rw [m_w_of i1 i2, if_neg w0, if_neg w1, if_neg w2, if_neg w3, if_neg w4, if_neg w5, if_pos w6, if_pos t1, x5.1]
      · rw [if_neg w0, if_neg w1, if_neg w2, if_neg w3, if_neg w4, if_neg w5, if_pos w6, if_pos tM]
    by_cases w7 : w = 7
    · refine ⟨m_g h 127 30, h, m_g h 127 30, h, ?_, base.trans ?_, rfl, hM⟩
      · unfold t10_count
        rw [m_w_of i1 i2, if_neg w0, if_neg w1, if_neg w2, if_neg w3, if_neg w4, if_neg w5, if_neg w6, if_pos w7, if_pos t1, n_p1_2 I.2, if_pos (n_t10 I.2), x4.1]
      · rw [if_neg w0, if_neg w1, if_neg w2, if_neg w3, if_neg w4, if_neg w5, if_neg w6, if_pos w7, if_pos tM]
    by_cases w8 : w = 8
    · refine ⟨m_g h 127 85, h, m_g h 127 85, h, ?_, base.trans ?_, rfl, hM⟩
      · unfold t10_count
        rw [m_w_of i1 i2, if_neg w0, if_neg w1, if_neg w2, if_neg w3, if_neg w4, if_neg w5, if_neg w6, if_neg w7, if_pos w8, if_pos t1, n_p1_8 I.2, if_pos (n_t119 I.2), n_size (n_t119 I.2), n_bs, x2.1]
      · rw [if_neg w0, if_neg w1, if_neg w2, if_neg w3, if_neg w4, if_neg w5, if_neg w6, if_neg w7, if_pos w8, if_pos tM]
    by_cases w9 : w = 9
    · refine ⟨m_g h 127 60, h, m_g h 127 60, h, ?_, base.trans ?_, rfl, hM⟩
      · unfold t10_count
        rw [m_w_of i1 i2, if_neg w0, if_neg w1, if_neg w2, if_neg w3, if_neg w4, if_neg w5, if_neg w6, if_neg w7, if_neg w8, if_pos w9, if_pos t1, n_p1_6 I.2, if_pos (n_t106 I.2), y1]
      · rw [if_neg w0, if_neg w1, if_neg w2, if_neg w3, if_neg w4, if_neg w5, if_neg w6, if_neg w7, if_neg w8, if_pos w9, if_pos tM]
    by_cases w10 : w = 10
    · by_cases e : m_g h 127 60 = -1
      · refine ⟨-1, h, -1, h, ?_, base.trans ?_, rfl, hM⟩
        · unfold t10_count
          rw [m_w_of i1 i2, if_neg w0, if_neg w1, if_neg w2, if_neg w3, if_neg w4, if_neg w5, if_neg w6, if_neg w7, if_neg w8, if_neg w9, if_pos w10, if_pos t1, n_p1_6 I.2, if_pos (n_t106 I.2), y1, m_w_of (by omega) (by omega), if_pos e]
        · rw [if_neg w0, if_neg w1, if_neg w2, if_neg w3, if_neg w4, if_neg w5, if_neg w6, if_neg w7, if_neg w8, if_neg w9, if_pos w10, if_pos tM, m_w_of (by omega) (by omega), if_pos e]
      · have pz := y5 (by omega)
        refine ⟨m_g h 127 61, h, m_g h 127 61, h, ?_, base.trans ?_, rfl, hM⟩
        · unfold t10_count
          rw [m_w_of i1 i2, if_neg w0, if_neg w1, if_neg w2, if_neg w3, if_neg w4, if_neg w5, if_neg w6, if_neg w7, if_neg w8, if_neg w9, if_pos w10, if_pos t1, n_p1_6 I.2, if_pos (n_t106 I.2), y1, m_w_of (by omega) (by omega), if_neg e, n_p106_1 I.2, if_pos (n_t107 I.2), n_size (n_t107 I.2), n_bs, pz.2.1]
        · rw [if_neg w0, if_neg w1, if_neg w2, if_neg w3, if_neg w4, if_neg w5, if_neg w6, if_neg w7, if_neg w8, if_neg w9, if_pos w10, if_pos tM, m_w_of (by omega) (by omega), if_neg e]
    refine ⟨-1, h, -1, h, ?_, base.trans ?_, rfl, hM⟩
    · unfold t10_count
      rw [m_w_of i1 i2, if_neg w0, if_neg w1, if_neg w2, if_neg w3, if_neg w4, if_neg w5, if_neg w6, if_neg w7, if_neg w8, if_neg w9, if_neg w10]
      by_cases e : w < 20
      · rw [if_pos e]
      · rw [if_neg e, if_pos t1, n_scoreOf_n I x5 (by omega) (by omega) (by omega), n_bs]
        rfl
    · rw [if_neg w0, if_neg w1, if_neg w2, if_neg w3, if_neg w4, if_neg w5, if_neg w6, if_neg w7, if_neg w8, if_neg w9, if_neg w10]
