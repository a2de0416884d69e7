/-! CALLS: near, rivals: the reference's search, whole -/
theorem n_searchR {g : m_H} {t n m : Int} (I : n_I g) (G : n_gs g) (T : n_Rtape g g) (t1 : -2147483648 ≤ t) (t2 : t < 2147483648) (a1 : -2147483648 ≤ n) (a2 : n < 2147483648) (b1 : -2147483648 ≤ m) (b2 : m < 2147483648) : (n_asked g t n m → ∃ g2, t11_nears 127 t n m g = some (decide (0 < (n_found g t n m).1), g2) ∧ n_rI g g2 (n_found g t n m)) ∧ (¬ n_asked g t n m → t11_nears 127 t n m g = some (false, g)) := by
  have B := G.1
  unfold n_shB at B
  have T3 := T.2
  have e0 : t11_nears 127 t n m g = if decide ((1 ≤ n ∧ n ≤ 100) ∧ 0 ≤ m ∧ m ≤ 65535) = true then (if t < 0 then some (false, g) else if m_w (m_g g 127 85 - n) < t then some (false, g) else t11_nears_x32 32 127 t n m 0 0 0 0 (m_p g 127 91 0)) else some (false, g) := by
    unfold t11_nears
    rw [n_canAsk a1 a2 b1 b2, n_bs]
    show (if decide ((1 ≤ n ∧ n ≤ 100) ∧ 0 ≤ m ∧ m ≤ 65535) = true then (if m_w t < 0 then some (false, g) else if m_t g 127 = 11 then if m_w (m_g g 127 85 - n) < m_w t then some (false, g) else some (m_p g 127 91 0) >>= _ else none) else some (false, g)) = _
    rw [m_w_of t1 t2, if_pos (n_t127 I.2), n_bs]
  refine ⟨fun q => ?_, fun q => ?_⟩
  · obtain ⟨q1, q2, q3, q4⟩ := q
    have K0 : n_kr g (m_p g 127 91 0) [149, 309] [86, 87, 88, 89, 90, 91] := n_kr_mono (n_kr_f (k := 91)) (fun b hb => absurd hb List.not_mem_nil) (fun b hb => by simp at hb ⊢; omega) (by decide)
    have I0 : n_I (m_p g 127 91 0) := n_I_p I (by rw [n_t127 I.2]; omega) (by rw [n_t127 I.2]; omega) rfl
    obtain ⟨g2, e, C, -⟩ := n_rstrips (m := m) G T q1.1 q1.2 q3 (by omega) q2.1 q2.2 (m_g g 127 14).toNat 0 (m_p g 127 91 0) (0, 0, 0, 0, 0) (by omega) (by omega) ⟨I0, K0, n_gp_y ⟨rfl, rfl⟩, fun q => absurd q (by decide)⟩ n_okS_0 (by show (0 : Int) + _ ≤ _; omega)
    refine ⟨g2, ?_, C⟩
    rw [e0, decide_eq_true ⟨q1, q2⟩, if_pos rfl, if_neg (by omega), m_w_of (by omega) (by omega), if_neg (by omega)]
    exact e
  · rw [e0]
    by_cases q1 : (1 ≤ n ∧ n ≤ 100) ∧ 0 ≤ m ∧ m ≤ 65535
    · rw [decide_eq_true q1, if_pos rfl]
      by_cases q2 : t < 0
      · rw [if_pos q2]
      · rw [if_neg q2, m_w_of (by omega) (by omega), if_pos (by
          by_cases z : t ≤ m_g g 127 85 - n
          · exact absurd ⟨q1.1, q1.2, by omega, z⟩ q
          · omega)]
    · rw [decide_eq_false q1]
      rfl
