/-! CALLS: fault, score: the component passes tokens -/
theorem n_kindC {x : m_H} (I : n_I x) {i : Int} (e7 : m_g x 10 7 = i) (i0 : 0 ≤ i) (i1 : i ≤ 1200) : t4_kind 10 x = some (m_g x 13 i, x) := by
  have l := n_l13 I.2
  unfold t4_kind
  rw [if_pos (n_t10 I.2), e7, m_w_of (x := i) (by omega) (by omega), if_neg (by omega), n_p10_3 I.2, if_pos (by rw [n_t13 I.2]; omega), l, m_w_of (x := 1201) (by omega) (by omega), if_pos (by omega), if_pos ⟨n_t13 I.2, i0, by omega⟩]
theorem n_valueC {x : m_H} (I : n_I x) {i : Int} (e7 : m_g x 10 7 = i) (i0 : 0 ≤ i) (i1 : i ≤ 1200) : t4_value 10 x = some (m_g x 14 i, x) := by
  have l := n_l14 I.2
  unfold t4_value
  rw [if_pos (n_t10 I.2), e7, m_w_of (x := i) (by omega) (by omega), if_neg (by omega), n_p10_4 I.2, if_pos (by rw [n_t14 I.2]; omega), l, m_w_of (x := 1201) (by omega) (by omega), if_pos (by omega), if_pos ⟨n_t14 I.2, i0, by omega⟩]
theorem n_passC {x : m_H} (I : n_I x) {i k : Int} (e7 : m_g x 10 7 = i) (i0 : 0 ≤ i) (i1 : i ≤ 1200) (k0 : 0 ≤ k) (k1 : k < 128) (r0 : 0 ≤ m_g x 13 i) (r1 : m_g x 13 i < 128) : t4_pass 10 k x = if m_g x 13 i = k then some (true, m_p x 10 7 (i + 1)) else some (false, x) := by
  unfold t4_pass
  rw [if_pos (n_t10 I.2), n_kindC I e7 i0 i1, n_bs]
  dsimp only
  rw [m_w_of (x := m_g x 13 i) (by omega) (by omega), m_w_of (x := k) (by omega) (by omega)]
  by_cases c : m_g x 13 i = k
  · rw [if_pos c, if_pos c, if_pos (n_t10 I.2), e7, n_bs]
  · rw [if_neg c, if_neg c]
theorem n_isNumC {x : m_H} (I : n_I x) {i lo hi : Int} (e7 : m_g x 10 7 = i) (i0 : 0 ≤ i) (i1 : i ≤ 1200) (lo0 : 0 ≤ lo) (lo1 : lo ≤ 1500) (h0 : 0 ≤ hi) (h1 : hi ≤ 1500) (r0 : 0 ≤ m_g x 13 i) (r1 : m_g x 13 i < 128) (v0 : m_g x 13 i = 25 → 0 ≤ m_g x 14 i ∧ m_g x 14 i ≤ 1000000) : t4_isNumber 10 lo hi x = some (decide (m_g x 13 i = 25 ∧ lo ≤ m_g x 14 i ∧ m_g x 14 i ≤ hi), x) := by
  unfold t4_isNumber
  rw [if_pos (n_t10 I.2), n_kindC I e7 i0 i1, n_bs]
  dsimp only
  rw [m_w_of (x := m_g x 13 i) (by omega) (by omega)]
  by_cases c : m_g x 13 i = 25
  · have v := v0 c
    rw [if_pos c, if_pos (n_t10 I.2), n_valueC I e7 i0 i1, n_bs]
    dsimp only
    rw [m_w_of (x := m_g x 14 i) (by omega) (by omega), m_w_of (x := lo) (by omega) (by omega)]
    by_cases d : m_g x 14 i < lo
    · rw [if_pos d, decide_eq_false (by omega)]
    · rw [if_neg d, if_pos (n_t10 I.2), n_valueC I e7 i0 i1, n_bs]
      dsimp only
      rw [m_w_of (x := m_g x 14 i) (by omega) (by omega), m_w_of (x := hi) (by omega) (by omega)]
      by_cases f : hi < m_g x 14 i
      · rw [if_pos f, decide_eq_false (by omega)]
      · rw [if_neg f, decide_eq_true (by omega)]
  · rw [if_neg c, decide_eq_false (fun z => c z.1)]
