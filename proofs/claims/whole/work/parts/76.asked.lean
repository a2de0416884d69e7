/-! CALLS: near, rivals: both searches, whole -/
def n_asked (h : m_H) (t n m : Int) : Prop := (1 ≤ n ∧ n ≤ 100) ∧ (0 ≤ m ∧ m ≤ 65535) ∧ 0 ≤ t ∧ t ≤ m_g h 127 85 - n
def n_found (g : m_H) (t n m : Int) : Int × Int × Int × Int × Int := n_stsF g t n m (m_g g 127 14).toNat 0 (0, 0, 0, 0, 0)
theorem n_okS_0 : n_okS (0, 0, 0, 0, 0) := ⟨by decide, fun q => absurd q (by decide)⟩
theorem n_isAsked {h : m_H} {n m : Int} (a1 : -2147483648 ≤ n) (a2 : n < 2147483648) (b1 : -2147483648 ≤ m) (b2 : m < 2147483648) : t1_isAsked n m h = some (decide ((1 ≤ n ∧ n ≤ 100) ∧ 0 ≤ m ∧ m ≤ 65535), h) := by
  unfold t1_isAsked
  rw [m_w_of a1 a2, m_w_of b1 b2]
  by_cases c : (1 ≤ n ∧ n ≤ 100) ∧ 0 ≤ m ∧ m ≤ 65535
  · rw [decide_eq_true c, if_neg (by omega), if_neg (by omega), if_neg (by omega), if_neg (by omega)]
  · rw [decide_eq_false c]
    by_cases d1 : n < 1
    · rw [if_pos d1]
    · rw [if_neg d1]
      by_cases d2 : 100 < n
      · rw [if_pos d2]
      · rw [if_neg d2]
        by_cases d3 : m < 0
        · rw [if_pos d3]
        · rw [if_neg d3, if_pos (by omega)]
theorem n_canAsk {h : m_H} {n m : Int} (a1 : -2147483648 ≤ n) (a2 : n < 2147483648) (b1 : -2147483648 ≤ m) (b2 : m < 2147483648) : t11_canAsk n m h = some (decide ((1 ≤ n ∧ n ≤ 100) ∧ 0 ≤ m ∧ m ≤ 65535), h) := by
  unfold t11_canAsk
  rw [m_w_of a1 a2, m_w_of b1 b2, n_in (by omega) (by omega) (by omega) (by omega) (by omega) (by omega), n_bs]
  by_cases c1 : 1 ≤ n ∧ n ≤ 100
  · rw [decide_eq_true c1]
    show (if true = true then t11_in m 0 65535 h >>= _ else _) = _
    rw [if_pos rfl, n_in (by omega) (by omega) (by omega) (by omega) (by omega) (by omega), n_bs]
    by_cases c2 : 0 ≤ m ∧ m ≤ 65535
    · rw [decide_eq_true c2, decide_eq_true ⟨c1, c2⟩]; rfl
    · rw [decide_eq_false c2, decide_eq_false (fun q => c2 q.2)]; rfl
  · rw [decide_eq_false c1, decide_eq_false (fun q => c1 q.1)]
    rfl
theorem n_searchC {h : m_H} {t n m k : Int} (I : n_I h) (S : n_Rsh h h) (G : n_gs h) (T : n_Rtape h h) (Bu : n_bud h k) (t1 : -2147483648 ≤ t) (t2 : t < 2147483648) (a1 : -2147483648 ≤ n) (a2 : n < 2147483648) (b1 : -2147483648 ≤ m) (b2 : m < 2147483648) : (n_asked h t n m → ∃ h2, t1_search 121 t n m h = some (decide (0 < (n_found h t n m).1), h2) ∧ n_cI h h2 k (n_found h t n m)) ∧ (¬ n_asked h t n m → t1_search 121 t n m h = some (false, m_p h 121 7 0)) ∧ n_cI h (m_p h 121 7 0) k (0, 0, 0, 0, 0) := by
  have B := G.1
  unfold n_shB at B
  have I0 : n_I (m_p h 121 7 0) := n_I_p I (by rw [n_t121 I.2]; omega) (by rw [n_t121 I.2]; omega) rfl
  have K0 : n_kp h (m_p h 121 7 0) [121] [122] := n_kp_mono (n_kp_p (by rw [n_t121 I.2]; omega)) (fun b hb => Or.inl hb) n_no
  have C0 : n_cI h (m_p h 121 7 0) k (0, 0, 0, 0, 0) := ⟨I0, K0, n_bud_same I rfl (fun r hr => n_gp_n (fun q => by rw [q.1] at hr; have := n_t121 I.2; omega)) Bu, fun j hj => n_gp_n (by omega), n_gp_y ⟨rfl, rfl⟩, fun q => absurd q (by decide)⟩
  have el : m_g (m_p h 121 7 0) 119 1 = m_g h 127 85 := (n_gp_n (by omega)).trans T.1
  have e0 : t1_search 121 t n m h = if decide ((1 ≤ n ∧ n ≤ 100) ∧ 0 ≤ m ∧ m ≤ 65535) = true then (if t < 0 then some (false, m_p h 121 7 0) else if m_w (m_g h 127 85 - n) < t then some (false, m_p h 121 7 0) else t1_search_x35 35 121 t n m 0 0 0 (m_p h 121 7 0)) else some (false, m_p h 121 7 0) := by
    unfold t1_search
    rw [if_pos (n_t121 I.2), n_bs, n_isAsked a1 a2 b1 b2, n_bs]
    show (if decide ((1 ≤ n ∧ n ≤ 100) ∧ 0 ≤ m ∧ m ≤ 65535) = true then (if m_w t < 0 then some (false, m_p h 121 7 0) else if m_t (m_p h 121 7 0) 121 = 1 then if m_t (m_p h 121 7 0) (m_g (m_p h 121 7 0) 121 1) = 5 then t5_size (m_g (m_p h 121 7 0) 121 1) (m_p h 121 7 0) >>= _ else none else none) else some (false, m_p h 121 7 0)) = _
    rw [m_w_of t1 t2, if_pos (n_t121 I0.2), n_p121_1 I0.2, if_pos (n_t119 I0.2), n_size (n_t119 I0.2), n_bs, el]
  have T3 := T.2
  refine ⟨fun q => ?_, fun q => ?_, C0⟩
  · obtain ⟨q1, q2, q3, q4⟩ := q
    obtain ⟨h2, e, C, -⟩ := n_strips (m := m) I S G T q1.1 q1.2 q3 (by omega) q2.1 q2.2 (m_g h 127 14).toNat 0 (m_p h 121 7 0) (0, 0, 0, 0, 0) (by omega) (by omega) C0 n_okS_0 (by show (0 : Int) + _ ≤ _; omega)
    refine ⟨h2, ?_, C⟩
    rw [e0, decide_eq_true ⟨q1, q2⟩, if_pos rfl, if_neg (by omega), m_w_of (by omega) (by omega), if_neg (by omega)]
    exact e
  · rw [e0]
    by_cases q1 : (1 ≤ n ∧ n ≤ 100) ∧ 0 ≤ m ∧ m ≤ 65535
    · rw [decide_eq_true q1, if_pos rfl]
      by_cases q2 : t < 0
      · rw [if_pos q2]
      · rw [if_neg q2, m_w_of (by omega) (by omega), if_pos (by
          by_cases z : t ≤ m_g h 127 85 - n
          · exact absurd ⟨q1.1, q1.2, by omega, z⟩ q
          · omega)]
    · rw [decide_eq_false q1]
      rfl
