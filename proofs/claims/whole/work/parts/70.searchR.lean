/-! CALLS: near, rivals: the reference's search of a way -/
def n_stR (g : m_H) (st : Int × Int × Int × Int × Int) : Prop := m_g g 127 91 = st.1 ∧ (0 < st.1 → m_g g 127 87 = st.2.1 ∧ m_g g 127 88 = st.2.2.1 ∧ m_g g 127 89 = st.2.2.2.1 ∧ m_g g 127 90 = st.2.2.2.2)
theorem n_rway {N n t m s w : Int} {T V : Int → Int} (n1 : 1 ≤ n) (n2 : n ≤ 100) (N1 : 1 ≤ N) (N2 : N ≤ 600) (t0 : 0 ≤ t) (t1 : t + n ≤ 1000) (m0 : 0 ≤ m) (m1 : m ≤ 65535) (hT : ∀ j, 0 ≤ j → j < n → -32768 ≤ T (t + j) ∧ T (t + j) ≤ 32767) (hV : ∀ j, 0 ≤ j → j < N → -32768 ≤ V j ∧ V j ≤ 32767) : ∀ (k : Nat) (p : Int) (h : m_H) (st : Int × Int × Int × Int × Int), n_I h → m_g h 127 86 = N → (∀ j, 0 ≤ j → j < n → m_g h 308 (t + j) = T (t + j)) → (∀ j, 0 ≤ j → j < N → m_g h 309 j = V j) → 0 ≤ p → p + k = max 0 (N - n + 1) → n_stR h st → 0 ≤ st.1 → st.1 ≤ 1000000 - k → (0 < st.1 → -1 ≤ st.2.2.2.2 ∧ st.2.2.2.2 ≤ 10000000) → ∃ h', t11_nears_x32 70 127 t n m s w p 0 h = t11_nears_x32 44 127 t n m s (w + 1) 0 0 h' ∧ n_I h' ∧ n_stR h' (n_plN (fun p => n_sumN (fun j => n_df (T (t + j)) (V (p + j))) m n.toNat 0 0) s w k p st) ∧ h'.2 = h.2 ∧ (∀ b j, b ≠ 127 → m_g h' b j = m_g h b j) ∧ ∀ j, j < 87 ∨ 91 < j → m_g h' 127 j = m_g h 127 j := by
  intro k
  induction k with
  | zero =>
    intro p h st I eN eT eV p0 pk S c0 c1 c2
    have k1 := n_t127 I.2
    refine ⟨h, ?_, I, S, rfl, fun b j _ => rfl, fun j _ => rfl⟩
    rw [t11_nears_x32, if_neg (by omega), if_neg (by omega), if_pos rfl, if_pos k1, eN, m_w_of (by omega) (by omega), m_w_of (by omega) (by omega), if_pos (by omega)]
  | succ k ih =>
    intro p h st I eN eT eV p0 pk S c0 c1 c2
    have k1 := n_t127 I.2
    have ms := n_sumAt (g := h) (p := p) (t := t) (n := n) (m := m) (T := T) (V := V) I (by omega) (by omega) p0 (by omega) t0 (by omega) m0 m1 (fun j j1 j2 => ⟨eT j j1 j2, hT j j1 j2⟩) (fun j j1 j2 => ⟨eV _ (by omega) (by omega), hV _ (by omega) (by omega)⟩)
    have sb := n_sumN_b (f := fun j => n_df (T (t + j)) (V (p + j))) (m := m) (n := n) (fun j j1 j2 => n_df_b (hT j j1 j2).1 (hT j j1 j2).2 (hV _ (by omega) (by omega)).1 (hV _ (by omega) (by omega)).2) n.toNat 0 0 (by omega) (by omega) (by omega) (by omega)
    have hc := n_hit_c st s w p (n_sumN (fun j => n_df (T (t + j)) (V (p + j))) m n.toNat 0 0)
    have step : ∀ h2 : m_H, n_I h2 → h2.2 = h.2 → (∀ b j, b ≠ 127 → m_g h2 b j = m_g h b j) → (∀ j, j < 87 ∨ 91 < j → m_g h2 127 j = m_g h 127 j) → n_stR h2 (n_hit st s w p (n_sumN (fun j => n_df (T (t + j)) (V (p + j))) m n.toNat 0 0)) → (0 < (n_hit st s w p (n_sumN (fun j => n_df (T (t + j)) (V (p + j))) m n.toNat 0 0)).1 → -1 ≤ (n_hit st s w p (n_sumN (fun j => n_df (T (t + j)) (V (p + j))) m n.toNat 0 0)).2.2.2.2 ∧ (n_hit st s w p (n_sumN (fun j => n_df (T (t + j)) (V (p + j))) m n.toNat 0 0)).2.2.2.2 ≤ 10000000) → ∃ h', t11_nears_x32 70 127 t n m s w (p + 1) 0 h2 = t11_nears_x32 44 127 t n m s (w + 1) 0 0 h' ∧ n_I h' ∧ n_stR h' (n_plN (fun p => n_sumN (fun j => n_df (T (t + j)) (V (p + j))) m n.toNat 0 0) s w (k + 1) p st) ∧ h'.2 = h.2 ∧ (∀ b j, b ≠ 127 → m_g h' b j = m_g h b j) ∧ ∀ j, j < 87 ∨ 91 < j → m_g h' 127 j = m_g h 127 j := fun h2 J e2 e3 e4 S2 cc => by
      obtain ⟨h', a1, a2, a3, a4, a5, a6⟩ := ih (p + 1) h2 (n_hit st s w p (n_sumN (fun j => n_df (T (t + j)) (V (p + j))) m n.toNat 0 0)) J (by rw [e4 86 (by omega)]; exact eN) (fun j j1 j2 => by rw [e3 _ _ (by omega)]; exact eT j j1 j2) (fun j j1 j2 => by rw [e3 _ _ (by omega)]; exact eV j j1 j2) (by omega) (by omega) S2 (by omega) (by omega) cc
      exact ⟨h', a1, a2, a3, a4.trans e2, fun b j hb => (a5 b j hb).trans (e3 b j hb), fun j hj => (a6 j hj).trans (e4 j hj)⟩
    generalize n_sumN (fun j => n_df (T (t + j)) (V (p + j))) m n.toNat 0 0 = x at *
    have Ip : ∀ (hh : m_H) (j v : Int), n_I hh → n_key 127 j = false → n_I (m_p hh 127 j v) := fun hh j v J kk => n_I_p J (by rw [n_t127 J.2]; omega) (by rw [n_t127 J.2]; omega) kk
    have eq1 : t11_nears_x32 70 127 t n m s w p 0 h = if m_w x = -1 then t11_nears_x32 70 127 t n m s w (p + 1) 0 h else if 1 < m_w (st.1 + 1) then if m_w x < m_w (m_g h 127 90) then t11_nears_x32 131 127 t n m s w p x (m_p h 127 91 (st.1 + 1)) else t11_nears_x32 70 127 t n m s w (p + 1) 0 (m_p h 127 91 (st.1 + 1)) else t11_nears_x32 131 127 t n m s w p x (m_p h 127 91 (st.1 + 1)) := by
      rw [t11_nears_x32, if_neg (by omega), if_neg (by omega), if_pos rfl, if_pos k1, eN, m_w_of (x := N) (by omega) (by omega), m_w_of (x := p + n) (by omega) (by omega), if_neg (by omega), ms, n_bs]
      show (if m_w x = -1 then t11_nears_x32 70 127 t n m s w (p + 1) 0 h else if m_t h 127 = 11 then some (m_p h 127 91 (m_g h 127 91 + 1)) >>= _ else none) = _
      rw [if_pos k1, n_bs, S.1]
      show (if m_w x = -1 then t11_nears_x32 70 127 t n m s w (p + 1) 0 h else if m_t (m_p h 127 91 (st.1 + 1)) 127 = 11 then if 1 < m_w (m_g (m_p h 127 91 (st.1 + 1)) 127 91) then if m_w x < m_w (m_g (m_p h 127 91 (st.1 + 1)) 127 90) then t11_nears_x32 131 127 t n m s w p x (m_p h 127 91 (st.1 + 1)) else t11_nears_x32 70 127 t n m s w (p + 1) 0 (m_p h 127 91 (st.1 + 1)) else t11_nears_x32 131 127 t n m s w p x (m_p h 127 91 (st.1 + 1)) else none) = _
      rw [m_t_p, if_pos k1, n_gp_y ⟨rfl, rfl⟩, n_gp_n (by omega)]
    rw [eq1, m_w_of (x := x) (by omega) (by omega), m_w_of (x := st.1 + 1) (by omega) (by omega)]
    by_cases cx : x = -1
    · rw [if_pos cx]
      have eh : n_hit st s w p x = st := by unfold n_hit; rw [if_pos cx]
      exact step h I rfl (fun _ _ _ => rfl) (fun _ _ => rfl) (by rw [eh]; exact S) (by rw [eh]; exact c2)
    · rw [if_neg cx]
      have I91 := Ip h 91 (st.1 + 1) I rfl
      have e131 : t11_nears_x32 131 127 t n m s w p x (m_p h 127 91 (st.1 + 1)) = t11_nears_x32 70 127 t n m s w (p + 1) 0 (m_p (m_p (m_p (m_p (m_p h 127 91 (st.1 + 1)) 127 87 s) 127 88 w) 127 89 p) 127 90 x) := by
        rw [t11_nears_x32, if_neg (by omega), if_neg (by omega), if_neg (by omega), if_pos rfl, m_t_p, if_pos k1, n_bs, m_t_p, m_t_p, if_pos k1, n_bs, m_t_p, m_t_p, m_t_p, if_pos k1, n_bs, m_t_p, m_t_p, m_t_p, m_t_p, if_pos k1, n_bs]
      have take : (st.1 = 0 ∨ x < st.2.2.2.2) → ∃ h', t11_nears_x32 131 127 t n m s w p x (m_p h 127 91 (st.1 + 1)) = t11_nears_x32 44 127 t n m s (w + 1) 0 0 h' ∧ n_I h' ∧ n_stR h' (n_plN (fun p => n_sumN (fun j => n_df (T (t + j)) (V (p + j))) m n.toNat 0 0) s w (k + 1) p st) ∧ h'.2 = h.2 ∧ (∀ b j, b ≠ 127 → m_g h' b j = m_g h b j) ∧ ∀ j, j < 87 ∨ 91 < j → m_g h' 127 j = m_g h 127 j := fun ct => by
        have eh : n_hit st s w p x = (st.1 + 1, s, w, p, x) := by unfold n_hit; rw [if_neg cx, if_pos ct]
        rw [e131]
        refine step _ (Ip _ 90 _ (Ip _ 89 _ (Ip _ 88 _ (Ip _ 87 _ I91 rfl) rfl) rfl) rfl) rfl (fun b j hb => by rw [n_gp_n (by omega), n_gp_n (by omega), n_gp_n (by omega), n_gp_n (by omega), n_gp_n (by omega)]) (fun j hj => by rw [n_gp_n (by omega), n_gp_n (by omega), n_gp_n (by omega), n_gp_n (by omega), n_gp_n (by omega)]) ?_ (by rw [eh]; intro _; show -1 ≤ x ∧ x ≤ 10000000; omega)
        rw [eh]
        refine ⟨?_, fun _ => ⟨?_, ?_, ?_, ?_⟩⟩
        · rw [n_gp_n (by omega), n_gp_n (by omega), n_gp_n (by omega), n_gp_n (by omega), n_gp_y ⟨rfl, rfl⟩]
        · rw [n_gp_n (by omega), n_gp_n (by omega), n_gp_n (by omega), n_gp_y ⟨rfl, rfl⟩]
        · rw [n_gp_n (by omega), n_gp_n (by omega), n_gp_y ⟨rfl, rfl⟩]
        · rw [n_gp_n (by omega), n_gp_y ⟨rfl, rfl⟩]
        · rw [n_gp_y ⟨rfl, rfl⟩]
      by_cases c7 : st.1 = 0
      · rw [if_neg (by omega)]; exact take (Or.inl c7)
      · have sp := S.2 (by omega)
        have cb := c2 (by omega)
        rw [if_pos (by omega), sp.2.2.2, m_w_of (x := st.2.2.2.2) (by omega) (by omega)]
        by_cases c8 : x < st.2.2.2.2
        · rw [if_pos c8]; exact take (Or.inr c8)
        · rw [if_neg c8]
          have eh : n_hit st s w p x = (st.1 + 1, st.2.1, st.2.2.1, st.2.2.2.1, st.2.2.2.2) := by unfold n_hit; rw [if_neg cx, if_neg (by omega)]
          refine step _ I91 rfl (fun b j hb => n_gp_n (by omega)) (fun j hj => n_gp_n (by omega)) ?_ (by rw [eh]; intro _; exact cb)
          rw [eh]
          exact ⟨n_gp_y ⟨rfl, rfl⟩, fun _ => ⟨(n_gp_n (by omega)).trans sp.1, (n_gp_n (by omega)).trans sp.2.1, (n_gp_n (by omega)).trans sp.2.2.1, (n_gp_n (by omega)).trans sp.2.2.2⟩⟩
