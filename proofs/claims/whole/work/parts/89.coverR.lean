/-! CALLS: remade, stretch: the reference's fewest stretches -/
theorem n_rin {hh : m_H} {t w N : Int} (I : n_I hh) (t0 : 0 ≤ t) (t1 : t < N) (hN : N ≤ 1000) (l0 : 0 ≤ m_g hh 310 t) (l1 : m_g hh 310 t ≤ N - t) (hF : ∀ j, t < j → j ≤ N → 0 ≤ m_g hh 311 j ∧ m_g hh 311 j ≤ 1001) : ∀ (k : Nat) (z a : Int), 1 ≤ z → z ≤ 10000 → k = (m_g hh 310 t - z + 1).toNat → 0 ≤ a → a ≤ 1001 → t11_covers_x32 48 127 w t z (m_p hh 311 t a) = t11_covers_x32 32 127 w (t - 1) 0 (m_p hh 311 t (n_fmN (m_g hh 311) t k z a)) := by
  intro k
  have l3 := n_l310 I.2
  have l4 := n_l311 I.2
  induction k with
  | zero =>
    intro z a z1 z2 hk a0 a1
    have J : n_I (m_p hh 311 t a) := n_I_pa I (Or.inl (n_t311 I.2))
    have e0 : m_g (m_p hh 311 t a) 310 t = m_g hh 310 t := n_gp_n (by omega)
    show t11_covers_x32 48 127 w t z (m_p hh 311 t a) = t11_covers_x32 32 127 w (t - 1) 0 (m_p hh 311 t a)
    generalize m_p hh 311 t a = h2 at *
    rw [t11_covers_x32, if_neg (by omega), if_pos rfl, if_pos (n_t127 J.2), n_p127_83 J.2, m_w_of (x := t) (by omega) (by omega), if_pos ⟨n_t310 J.2, by omega, by have := n_l310 J.2; omega⟩, e0, m_w_of (x := m_g hh 310 t) (by omega) (by omega), m_w_of (x := z) (by omega) (by omega), if_pos (by omega)]
    rfl
  | succ k ih =>
    intro z a z1 z2 hk a0 a1
    have f := hF (t + z) (by omega) (by omega)
    have J : n_I (m_p hh 311 t a) := n_I_pa I (Or.inl (n_t311 I.2))
    have e0 : m_g (m_p hh 311 t a) 310 t = m_g hh 310 t := n_gp_n (by omega)
    have e1 : m_g (m_p hh 311 t a) 311 (t + z) = m_g hh 311 (t + z) := n_gp_n (by omega)
    have e2 : m_g (m_p hh 311 t a) 311 t = a := n_gp_y ⟨rfl, rfl⟩
    have r := ih (z + 1) (min a (m_g hh 311 (t + z) + 1)) (by omega) (by omega) (by omega) (by omega) (by omega)
    have ew : (if m_g hh 311 (t + z) + 1 < a then m_p (m_p hh 311 t a) 311 t (m_g hh 311 (t + z) + 1) else m_p hh 311 t a) = m_p hh 311 t (min a (m_g hh 311 (t + z) + 1)) := by
      by_cases c : m_g hh 311 (t + z) + 1 < a
      · rw [if_pos c, n_pp, Int.min_eq_right (by omega)]
      · rw [if_neg c, Int.min_eq_left (by omega)]
    show _ = t11_covers_x32 32 127 w (t - 1) 0 (m_p hh 311 t (n_fmN (m_g hh 311) t k (z + 1) (min a (m_g hh 311 (t + z) + 1))))
    rw [← r, ← ew]
    generalize m_p hh 311 t a = h2 at *
    rw [t11_covers_x32, if_neg (by omega), if_pos rfl, if_pos (n_t127 J.2), n_p127_83 J.2, m_w_of (x := t) (by omega) (by omega), if_pos ⟨n_t310 J.2, by omega, by have := n_l310 J.2; omega⟩, e0, m_w_of (x := m_g hh 310 t) (by omega) (by omega), m_w_of (x := z) (by omega) (by omega), if_neg (by omega), n_p127_84 J.2, m_w_of (x := t + z) (by omega) (by omega), if_pos ⟨n_t311 J.2, by omega, by have := n_l311 J.2; omega⟩, if_pos ⟨n_t311 J.2, by omega, by have := n_l311 J.2; omega⟩, e1, e2, m_w_of (x := m_g hh 311 (t + z) + 1) (by omega) (by omega), m_w_of (x := a) (by omega) (by omega)]
    by_cases c : m_g hh 311 (t + z) + 1 < a
    · rw [if_pos c, if_pos c, n_bs]
    · rw [if_neg c, if_neg c]
theorem n_rout {w N : Int} {n : Nat} {L : Int → Int} (hn : n = N) (hN : N ≤ 1000) (w1 : 1 ≤ w) (w2 : w ≤ 100) (hL : ∀ t, 0 ≤ t → t < N → 0 ≤ L t ∧ L t ≤ N - t) : ∀ (k : Nat) (hh : m_H), n_I hh → k ≤ n → (∀ t, 0 ≤ t → t < N → m_g hh 310 t = L t) → (∀ j : Int, k ≤ j → j ≤ N → m_g hh 311 j = n_tabN L w N 1001 (n - k) j) → ∃ h', t11_covers_x32 32 127 w (k - 1) 0 hh = some (decide (n_tabN L w N 1001 n 0 ≤ 1000), h') ∧ n_I h' ∧ h'.2 = hh.2 ∧ (∀ b j, b ≠ 311 → m_g h' b j = m_g hh b j) ∧ ∀ j, 0 ≤ j → j ≤ N → m_g h' 311 j = n_tabN L w N 1001 n j := by
  intro k
  induction k with
  | zero =>
    intro hh I kn eL eF
    have F0 := eF 0 (by omega) (by omega)
    have tb := n_tabN_b (L := L) (w := w) (N := N) (nv := 1001) w1 (by omega) (fun t t0 t1 => (hL t t0 t1).2) n 0 (by omega) (by omega) (by omega)
    have l4 := n_l311 I.2
    rw [Nat.sub_zero] at F0
    refine ⟨hh, ?_, I, rfl, fun _ _ _ => rfl, fun j j0 j1 => by rw [eF j (by omega) j1, Nat.sub_zero]⟩
    rw [t11_covers_x32, if_pos rfl, m_w_of (by omega) (by omega), if_pos (by omega), if_pos (n_t127 I.2), n_p127_84 I.2, if_pos ⟨n_t311 I.2, by omega, by omega⟩, F0, m_w_of (by omega) (by omega)]
    by_cases c : n_tabN L w N 1001 n 0 ≤ 1000
    · rw [if_neg (by omega), decide_eq_true c]
    · rw [if_pos (by omega), decide_eq_false c]
  | succ k ih =>
    intro hh I kn eL eF
    have lk := hL k (by omega) (by omega)
    have ek := eL k (by omega) (by omega)
    have l4 := n_l311 I.2
    have tb := fun j (j1 : ((k + 1 : Nat) : Int) ≤ j) (j2 : j ≤ N) => n_tabN_b (L := L) (w := w) (N := N) (nv := 1001) w1 (by omega) (fun t t0 t1 => (hL t t0 t1).2) (n - (k + 1)) j (by omega) (by omega) j2
    have ci := n_rin (hh := hh) (t := k) (w := w) (N := N) I (by omega) (by omega) hN (by omega) (by omega) (fun j j1 j2 => by rw [eF j (by omega) j2]; exact tb j (by omega) j2) (m_g hh 310 k - w + 1).toNat w 1001 w1 (by omega) rfl (by omega) (by omega)
    rw [ek] at ci
    have ev : n_fmN (m_g hh 311) k (L k - w + 1).toNat w 1001 = n_tabN L w N 1001 (n - k) k := by
      rw [show n - k = (n - (k + 1)) + 1 by omega, n_tabN_s, if_pos (by omega)]
      exact n_fmN_congr (b := 0) _ _ _ (fun i i1 i2 => eF _ (by omega) (by omega))
    rw [ev] at ci
    have J : n_I (m_p hh 311 k (n_tabN L w N 1001 (n - k) k)) := n_I_pa I (Or.inl (n_t311 I.2))
    obtain ⟨h', a1, a2, a3, a4, a5⟩ := ih _ J (by omega) (fun t t0 t1 => by rw [n_gp_n (by omega)]; exact eL t t0 t1) (fun j j1 j2 => by
      by_cases c : j = k
      · rw [c, n_gp_y ⟨rfl, rfl⟩]
      · rw [n_gp_n (by omega), eF j (by omega) j2, show n - k = (n - (k + 1)) + 1 by omega, n_tabN_s, if_neg (by omega)])
    refine ⟨h', ?_, a2, a3, fun b j hb => (a4 b j hb).trans (n_gp_n (by omega)), a5⟩
    rw [show ((k + 1 : Nat) : Int) - 1 = k by omega, t11_covers_x32, if_pos rfl, m_w_of (by omega) (by omega), if_neg (by omega), if_pos (n_t127 I.2), n_p127_84 I.2, if_pos ⟨n_t311 I.2, by omega, by omega⟩, n_bs, ci]
    exact a1
