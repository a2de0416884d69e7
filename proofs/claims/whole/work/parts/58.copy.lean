/-! CALLS: copy, speed: both -/
theorem n_pl_eq {h g : m_H} {s p q l j v n : Int} (e : ∀ i, 0 ≤ i → i < m_g g 131 s → n_rg h v i = m_g g 128 (m_g g 130 s + i)) (en : n = m_g g 131 s) (n1 : 1 ≤ n) (p1 : 1 ≤ p) (q1 : 1 ≤ q) (j1 : 0 ≤ j) : n_cl (Int.tdiv (n_cl (n_play (n_rg h v) n j p q) * l) 64) = n_pl g s p q l j := by
  subst en
  unfold n_pl
  rw [n_play_eq (r := n_rg h v) (r' := fun j => m_g g 128 (m_g g 130 s + j)) e j1 p1 q1 n1]
theorem n_cl64 (x : Int) : n_cl (Int.tdiv (n_cl x * 64) 64) = n_cl x := by
  have a := n_cl_lo x
  have b := n_cl_hi x
  rw [show Int.tdiv (n_cl x * 64) 64 = n_cl x from Int.mul_tdiv_cancel _ (by decide), n_cl_of a b]
theorem n_finP {h hf g1 : m_H} {k s kd n w gen hs : Int} {f f' : Int → Int} (X : n_R h k) (cs : 0 ≤ s ∧ s < m_g h 127 14) (w1 : 0 ≤ w ∧ w ≤ 1000) (A : n_new (m_p h (m_g h 3 s) 7 w) hf kd s (-1) 0 gen hs 0 n f) (N : n_newR hf g1 kd s (-1) 0 gen hs 0 n f') (hff : ∀ j, 0 ≤ j → j < n → f j = f' j) (hv : ∀ j, 0 ≤ j → j < n → -32768 ≤ f' j ∧ f' j ≤ 32767) (c1 : m_g h 127 14 + 1 ≤ 100) (c2 : m_g h 127 15 + n ≤ 20000) (n1 : 1 ≤ n) (n2 : n ≤ 300) (kd1 : 0 ≤ kd ∧ kd ≤ 6) (gen1 : 0 ≤ gen ∧ gen ≤ m_g h 127 14) (hs1 : 0 ≤ hs ∧ hs ≤ 1000) : n_R (m_p g1 136 s w) (k + 1) := by
  have X' := X
  obtain ⟨I, gs, bud, x1, x2, x3, x4, x5, x6, x7⟩ := X'
  have ST := n_st x3 cs
  obtain ⟨⟨a1, a2, a3, a4⟩, a5, a6⟩ := ST
  have Iw : n_I (m_p h (m_g h 3 s) 7 w) := n_I_p I (by omega) (by omega) (n_key_big I.2 a2 _)
  have K1 := n_kp_p (h := h) (a := m_g h 3 s) (k := 7) (v := w) (by omega)
  have KP : n_kp h hf [m_g h 3 s, 2, 3] [] := n_kp_trans K1 A.2.1 I.1 n_no
  have ref := fun b j (b1 : 127 ≤ b) (b2 : b < 312) => n_kp_ref I KP (fun b hb => by simp at hb; omega) n_no b1 b2 j
  have S0 := n_Rsh_g (g' := hf) x3 (fun b j => ref b j)
  have G0 := n_gs_g (g' := hf) gs (fun b j => ref b j)
  have e14 := ref 127 14 (by omega) (by omega)
  have e15 := ref 127 15 (by omega) (by omega)
  have S1 := n_Rsh_set (v := w) I S0 (by rw [e14]; exact cs) (Or.inr (Or.inl ⟨rfl, rfl⟩))
  have b := G0.2.1 s (by omega) (by omega)
  have Gw : n_gs (m_p hf 136 s w) := n_gs_set G0 (by decide) (by omega) (by
    unfold n_strB at b ⊢
    have E : ∀ c j, c ≠ 136 → m_g (m_p hf 136 s w) c j = m_g hf c j := fun c j hc => n_gp_n (fun q => hc q.1)
    rw [E 130 _ (by decide), E 131 _ (by decide), E 132 _ (by decide), E 133 _ (by decide), E 134 _ (by decide), E 135 _ (by decide), E 137 _ (by decide), E 138 _ (by decide), E 139 _ (by decide), E 140 _ (by decide), E 141 _ (by decide), E 127 _ (by decide), n_gp_y ⟨rfl, rfl⟩]
    omega) (fun q => absurd q (by decide))
  have Nw := n_newR_old (v := w) N (show s < m_g hf 127 14 by omega)
  have E127 : ∀ j, m_g (m_p hf 136 s w) 127 j = m_g hf 127 j := fun j => n_gp_n (fun q => absurd q.1 (by decide))
  have S2 := n_add_R Iw S1 Gw A Nw hff
  have G2 := n_add_gs Gw Nw (by rw [E127]; omega) (by rw [E127]; omega) n1 n2 kd1 (by rw [E127]; omega) hs1 (by omega) (by omega) (by omega) (by omega) hv
  have e11 : m_g (m_p h (m_g h 3 s) 7 w) 2 11 = m_g h 2 11 := n_gp_n (by omega)
  have d11 : m_g hf 2 11 = m_g h 2 11 + 1 := by rw [A.2.2.2.2.2.2.1, ← e11]; rfl
  have Bu : n_bud hf (k + 1) := by
    have b0 : n_bud (m_p h (m_g h 3 s) 7 w) k := n_bud_same I rfl (fun r hr => n_gp_n (fun q => by rw [q.1] at hr; omega)) bud
    have b1 := n_new_phi Iw A
    have m1 := A.2.2.1
    unfold n_bud at *
    omega
  exact n_fin2 X KP (n_kr_trans (n_newR_kr N) (n_kr_p (by omega) (by omega))) (fun b hb => by
    simp at hb
    rcases hb with e | e | e
    · exact Or.inr (Or.inr ⟨s, cs.1, cs.2, e⟩)
    · exact Or.inl e
    · exact Or.inr (Or.inl e)) (fun b hb => by simp at hb; omega) (fun q hq => by simp at hq; omega) A.1 Bu G2 S2 (by omega) (by omega)
theorem n_copyPace {h : m_H} {a : Int} (ha : m_t h a = 0) : t0_copyPace a h = some (1000 + m_g h a 0, h) := by unfold t0_copyPace; rw [if_pos ha]
theorem n_freeAny {h : m_H} {s : Int} (I : n_I h) (S : n_Rsh h h) (G : n_gs h) (i1 : -2147483648 ≤ s) (i2 : s < 2147483648) : ∃ r, t7_freeStrip 2 s h = some (r, h) ∧ ((r = m_g h 3 s ∧ 0 ≤ s ∧ s < m_g h 127 14 ∧ m_g h 133 s = 0 ∧ m_g h 132 s ≠ 3) ∨ r = 0) := by
  by_cases c : 0 ≤ s ∧ s < m_g h 127 14 ∧ m_g h 133 s = 0 ∧ m_g h 132 s ≠ 3
  · exact ⟨_, n_freeStrip_y I S G ⟨c.1, c.2.1⟩ c.2.2.1 c.2.2.2, Or.inl ⟨rfl, c⟩⟩
  · exact ⟨_, n_freeStrip_n I S G i1 i2 c, Or.inr rfl⟩
