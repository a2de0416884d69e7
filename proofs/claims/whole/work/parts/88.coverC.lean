/-! CALLS: remade, stretch: the component's fewest stretches -/
theorem n_pp (h : m_H) (a k x y : Int) : m_p (m_p h a k x) a k y = m_p h a k y := by
  refine n_ext rfl fun b j => ?_
  rw [m_g_p, m_g_p, m_g_p]
  by_cases c : b = a ∧ j = k
  · rw [if_pos c, if_pos c]
  · rw [if_neg c, if_neg c, if_neg c]
theorem n_fewF {h : m_H} {t : Int} (I : n_I h) (t0 : 0 ≤ t) (t1 : t ≤ 1000) : t1_fewestFrom 121 t h = some (m_g h 125 t, h) := by
  have l := n_l125 I.2
  unfold t1_fewestFrom
  rw [if_pos (n_t121 I.2), n_p121_9 I.2, n_entry_y (n_t125 I.2) (by omega) t0 (by omega), n_bs]
theorem n_longF {h : m_H} {t : Int} (I : n_I h) (t0 : 0 ≤ t) (t1 : t < 1000) : t1_longestFrom 121 t h = some (m_g h 124 t, h) := by
  have l := n_l124 I.2
  unfold t1_longestFrom
  rw [if_pos (n_t121 I.2), n_p121_8 I.2, n_entry_y (n_t124 I.2) (by omega) t0 (by omega), n_bs]
theorem n_cin {hh : m_H} {t w N : Int} (I : n_I hh) (t0 : 0 ≤ t) (t1 : t < N) (hN : N ≤ 1000) (l0 : 0 ≤ m_g hh 124 t) (l1 : m_g hh 124 t ≤ N - t) (w1 : 1 ≤ w) (w2 : w ≤ 100) (hF : ∀ j, t < j → j ≤ N → 0 ≤ m_g hh 125 j ∧ m_g hh 125 j ≤ 1000000) : ∀ (k : Nat) (z a : Int), 1 ≤ z → z ≤ 10000 → k = (m_g hh 124 t - z + 1).toNat → 0 ≤ a → a ≤ 1000000 → t1_coveredBy_x40 51 121 w t a z hh = t1_coveredBy_x40 40 121 w (t - 1) 0 0 (m_p hh 125 t (n_fmN (m_g hh 125) t k z a)) := by
  intro k
  have k1 := n_t121 I.2
  have l5 := n_l125 I.2
  induction k with
  | zero =>
    intro z a z1 z2 hk a0 a1
    rw [t1_coveredBy_x40, if_neg (by omega), if_pos rfl, if_pos k1, n_longF I t0 (by omega), n_bs]
    show (if m_w (m_g hh 124 t) < m_w z then if m_t hh 121 = 1 then t10_setEntry (m_g hh 121 9) t a hh >>= _ else none else _) = _
    rw [m_w_of (x := m_g hh 124 t) (by omega) (by omega), m_w_of (x := z) (by omega) (by omega), if_pos (by omega), if_pos k1, n_p121_9 I.2, n_setEntry_y (n_t125 I.2) (by omega) t0 (by omega), n_bs]
    rfl
  | succ k ih =>
    intro z a z1 z2 hk a0 a1
    have f := hF (t + z) (by omega) (by omega)
    rw [t1_coveredBy_x40, if_neg (by omega), if_pos rfl, if_pos k1, n_longF I t0 (by omega), n_bs]
    show (if m_w (m_g hh 124 t) < m_w z then _ else if m_t hh 121 = 1 then t1_fewestFrom 121 (t + z) hh >>= _ else none) = _
    rw [m_w_of (x := m_g hh 124 t) (by omega) (by omega), m_w_of (x := z) (by omega) (by omega), if_neg (by omega), if_pos k1, n_fewF I (by omega) (by omega), n_bs]
    show (some (m_min a (m_g hh 125 (t + z) + 1)) >>= fun x11 => t1_coveredBy_x40 51 121 w t x11 (z + 1) hh) = _
    rw [n_min (by omega) (by omega) (by omega) (by omega), n_bs, ih (z + 1) _ (by omega) (by omega) (by omega) (by omega) (by omega)]
    rfl
theorem n_fmN_b {F : Int → Int} {t N : Int} (hF : ∀ j, t < j → j ≤ N → 0 ≤ F j) : ∀ (k : Nat) (z a : Int), 1 ≤ z → t + z + k ≤ N + 1 → 0 ≤ a → 0 ≤ n_fmN F t k z a ∧ n_fmN F t k z a ≤ a
  | 0, _, a, _, _, a0 => ⟨a0, Int.le_refl _⟩
  | k + 1, z, a, z1, zk, a0 => by
    have f := hF (t + z) (by omega) (by omega)
    have r := n_fmN_b hF k (z + 1) (min a (F (t + z) + 1)) (by omega) (by omega) (by omega)
    unfold n_fmN
    omega
theorem n_tabN_b {L : Int → Int} {w N nv : Int} (w1 : 1 ≤ w) (n0 : 0 ≤ nv) (hL : ∀ t, 0 ≤ t → t < N → L t ≤ N - t) : ∀ (k : Nat) (j : Int), k ≤ N → N - k ≤ j → j ≤ N → 0 ≤ n_tabN L w N nv k j ∧ n_tabN L w N nv k j ≤ nv
  | 0, j, k0, j1, j2 => by unfold n_tabN; omega
  | k + 1, j, k0, j1, j2 => by
    rw [n_tabN_s]
    by_cases c : j = N - (k + 1)
    · rw [if_pos c]
      have l := hL j (by omega) (by omega)
      by_cases d : w ≤ L j
      · exact n_fmN_b (N := N) (fun i i1 i2 => (n_tabN_b w1 n0 hL k i (by omega) (by omega) i2).1) _ w nv (by omega) (by omega) n0
      · rw [show (L j - w + 1).toNat = 0 by omega]
        exact ⟨n0, Int.le_refl _⟩
    · rw [if_neg c]
      exact n_tabN_b w1 n0 hL k j (by omega) (by omega) j2
theorem n_cout {w N : Int} {n : Nat} {L : Int → Int} (hn : n = N) (hN : N ≤ 1000) (w1 : 1 ≤ w) (w2 : w ≤ 100) (hL : ∀ t, 0 ≤ t → t < N → 0 ≤ L t ∧ L t ≤ N - t) : ∀ (k : Nat) (hh : m_H), n_I hh → k ≤ n → (∀ t, 0 ≤ t → t < N → m_g hh 124 t = L t) → (∀ j : Int, k ≤ j → j ≤ N → m_g hh 125 j = n_tabN L w N 1000000 (n - k) j) → ∃ h', t1_coveredBy_x40 40 121 w (k - 1) 0 0 hh = some (decide (n_tabN L w N 1000000 n 0 < 1000000), h') ∧ n_I h' ∧ h'.2 = hh.2 ∧ (∀ b j, b ≠ 125 → m_g h' b j = m_g hh b j) ∧ ∀ j, 0 ≤ j → j ≤ N → m_g h' 125 j = n_tabN L w N 1000000 n j := by
  intro k
  induction k with
  | zero =>
    intro hh I kn eL eF
    have F0 := eF 0 (by omega) (by omega)
    have tb := n_tabN_b (L := L) (w := w) (N := N) (nv := 1000000) w1 (by omega) (fun t t0 t1 => (hL t t0 t1).2) n 0 (by omega) (by omega) (by omega)
    rw [Nat.sub_zero] at F0
    refine ⟨hh, ?_, I, rfl, fun _ _ _ => rfl, fun j j0 j1 => by rw [eF j (by omega) j1, Nat.sub_zero]⟩
    rw [t1_coveredBy_x40, if_pos rfl, m_w_of (by omega) (by omega), if_pos (by omega), if_pos (n_t121 I.2), n_fewF I (by omega) (by omega), n_bs]
    show (if m_w (m_g hh 125 0) < 1000000 then some (true, hh) else some (false, hh)) = _
    rw [F0, m_w_of (by omega) (by omega)]
    by_cases c : n_tabN L w N 1000000 n 0 < 1000000
    · rw [if_pos c, decide_eq_true c]
    · rw [if_neg c, decide_eq_false c]
  | succ k ih =>
    intro hh I kn eL eF
    have lk := hL k (by omega) (by omega)
    have ek := eL k (by omega) (by omega)
    have tb := fun j (j1 : ((k + 1 : Nat) : Int) ≤ j) (j2 : j ≤ N) => n_tabN_b (L := L) (w := w) (N := N) (nv := 1000000) w1 (by omega) (fun t t0 t1 => (hL t t0 t1).2) (n - (k + 1)) j (by omega) (by omega) j2
    have ci := n_cin (hh := hh) (t := k) (w := w) (N := N) I (by omega) (by omega) hN (by omega) (by omega) w1 w2 (fun j j1 j2 => by rw [eF j (by omega) j2]; exact tb j (by omega) j2) (m_g hh 124 k - w + 1).toNat w 1000000 w1 (by omega) rfl (by omega) (by omega)
    rw [ek] at ci
    have ev : n_fmN (m_g hh 125) k (L k - w + 1).toNat w 1000000 = n_tabN L w N 1000000 (n - k) k := by
      rw [show n - k = (n - (k + 1)) + 1 by omega, n_tabN_s, if_pos (by omega)]
      exact n_fmN_congr (b := 0) _ _ _ (fun i i1 i2 => eF _ (by omega) (by omega))
    rw [ev] at ci
    have J : n_I (m_p hh 125 k (n_tabN L w N 1000000 (n - k) k)) := n_I_pa I (Or.inl (n_t125 I.2))
    obtain ⟨h', a1, a2, a3, a4, a5⟩ := ih _ J (by omega) (fun t t0 t1 => by rw [n_gp_n (by omega)]; exact eL t t0 t1) (fun j j1 j2 => by
      by_cases c : j = k
      · rw [c, n_gp_y ⟨rfl, rfl⟩]
      · rw [n_gp_n (by omega), eF j (by omega) j2, show n - k = (n - (k + 1)) + 1 by omega, n_tabN_s, if_neg (by omega)])
    refine ⟨h', ?_, a2, a3, fun b j hb => (a4 b j hb).trans (n_gp_n (by omega)), a5⟩
    rw [show ((k + 1 : Nat) : Int) - 1 = k by omega, t1_coveredBy_x40, if_pos rfl, m_w_of (by omega) (by omega), if_neg (by omega), ci]
    exact a1
