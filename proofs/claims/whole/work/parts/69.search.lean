/-! CALLS: near, rivals: what is found so far: how many, strip, way, place, sum -/
def n_hit (st : Int × Int × Int × Int × Int) (s w p x : Int) : Int × Int × Int × Int × Int :=
  if x = -1 then st else if st.1 = 0 ∨ x < st.2.2.2.2 then (st.1 + 1, s, w, p, x) else (st.1 + 1, st.2.1, st.2.2.1, st.2.2.2.1, st.2.2.2.2)
theorem n_hit_c (st : Int × Int × Int × Int × Int) (s w p x : Int) : st.1 ≤ (n_hit st s w p x).1 ∧ (n_hit st s w p x).1 ≤ st.1 + 1 := by
  unfold n_hit
  split
  · omega
  · split
    · show st.1 ≤ st.1 + 1 ∧ st.1 + 1 ≤ st.1 + 1; omega
    · show st.1 ≤ st.1 + 1 ∧ st.1 + 1 ≤ st.1 + 1; omega
def n_plN (f : Int → Int) (s w : Int) : Nat → Int → Int × Int × Int × Int × Int → Int × Int × Int × Int × Int
  | 0, _, st => st
  | k + 1, p, st => n_plN f s w k (p + 1) (n_hit st s w p (f p))
/-- the component's place of it -/
def n_stC (h : m_H) (st : Int × Int × Int × Int × Int) : Prop := m_g h 121 7 = st.1 ∧ (0 < st.1 → m_g h 121 3 = st.2.1 ∧ m_g h 121 4 = st.2.2.1 ∧ m_g h 121 5 = st.2.2.2.1 ∧ m_g h 121 6 = st.2.2.2.2)
theorem n_sway {N n t m s w : Int} {T V : Int → Int} (n1 : 1 ≤ n) (n2 : n ≤ 100) (N1 : 1 ≤ N) (N2 : N ≤ 600) (t0 : 0 ≤ t) (t1 : t ≤ 1000) (m0 : 0 ≤ m) (m1 : m ≤ 65535) (hT : ∀ j, 0 ≤ j → j < n → -32768 ≤ T (t + j) ∧ T (t + j) ≤ 32767) (hV : ∀ j, 0 ≤ j → j < N → -32768 ≤ V j ∧ V j ≤ 32767) : ∀ (k : Nat) (p : Int) (h : m_H) (st : Int × Int × Int × Int × Int), n_I h → m_g h 122 1 = N → (∀ j, 0 ≤ j → j < n → n_rg h 119 (t + j) = T (t + j)) → (∀ j, 0 ≤ j → j < N → n_rg h 122 j = V j) → 0 ≤ p → p + k = max 0 (N - n + 1) → n_stC h st → 0 ≤ st.1 → st.1 ≤ 1000000 - k → (0 < st.1 → -1 ≤ st.2.2.2.2 ∧ st.2.2.2.2 ≤ 10000000) → ∃ h', t1_searchWay_x3 3 121 s w t n m p 0 h = some ((), h') ∧ n_I h' ∧ n_stC h' (n_plN (fun p => n_sumN (fun j => n_df (T (t + j)) (V (p + j))) m n.toNat 0 0) s w k p st) ∧ h'.2 = h.2 ∧ (∀ b j, b ≠ 121 → m_g h' b j = m_g h b j) ∧ ∀ j, j < 3 ∨ 7 < j → m_g h' 121 j = m_g h 121 j := by
  intro k
  induction k with
  | zero =>
    intro p h st I eN eT eV p0 pk S c0 c1 c2
    have k1 := n_t121 I.2
    refine ⟨h, ?_, I, S, rfl, fun b j _ => rfl, fun j _ => rfl⟩
    rw [t1_searchWay_x3, if_pos rfl, if_pos k1, n_p121_2 I.2, if_pos (n_t122 I.2), n_size (n_t122 I.2), n_bs, eN]
    show (if m_w (N - n) < m_w p then some ((), h) else _) = _
    rw [m_w_of (by omega) (by omega), m_w_of (by omega) (by omega), if_pos (by omega)]
  | succ k ih =>
    intro p h st I eN eT eV p0 pk S c0 c1 c2
    have k1 := n_t121 I.2
    have ms := n_missAt (p := p) (t := t) (n := n) (m := m) (T := T) (V := V) I (by omega) (by omega) p0 (by omega) t0 (by omega) m0 m1 (fun j j1 j2 => ⟨eT j j1 j2, hT j j1 j2⟩) (fun j j1 j2 => ⟨eV _ (by omega) (by omega), hV _ (by omega) (by omega)⟩)
    have sb := n_sumN_b (f := fun j => n_df (T (t + j)) (V (p + j))) (m := m) (n := n) (fun j j1 j2 => n_df_b (hT j j1 j2).1 (hT j j1 j2).2 (hV _ (by omega) (by omega)).1 (hV _ (by omega) (by omega)).2) n.toNat 0 0 (by omega) (by omega) (by omega) (by omega)
    have hc := n_hit_c st s w p (n_sumN (fun j => n_df (T (t + j)) (V (p + j))) m n.toNat 0 0)
    have step : ∀ h2 : m_H, n_I h2 → h2.2 = h.2 → (∀ b j, b ≠ 121 → m_g h2 b j = m_g h b j) → (∀ j, j < 3 ∨ 7 < j → m_g h2 121 j = m_g h 121 j) → n_stC h2 (n_hit st s w p (n_sumN (fun j => n_df (T (t + j)) (V (p + j))) m n.toNat 0 0)) → (0 < (n_hit st s w p (n_sumN (fun j => n_df (T (t + j)) (V (p + j))) m n.toNat 0 0)).1 → -1 ≤ (n_hit st s w p (n_sumN (fun j => n_df (T (t + j)) (V (p + j))) m n.toNat 0 0)).2.2.2.2 ∧ (n_hit st s w p (n_sumN (fun j => n_df (T (t + j)) (V (p + j))) m n.toNat 0 0)).2.2.2.2 ≤ 10000000) → ∃ h', t1_searchWay_x3 3 121 s w t n m (p + 1) 0 h2 = some ((), h') ∧ n_I h' ∧ n_stC h' (n_plN (fun p => n_sumN (fun j => n_df (T (t + j)) (V (p + j))) m n.toNat 0 0) s w (k + 1) p st) ∧ h'.2 = h.2 ∧ (∀ b j, b ≠ 121 → m_g h' b j = m_g h b j) ∧ ∀ j, j < 3 ∨ 7 < j → m_g h' 121 j = m_g h 121 j := fun h2 J e2 e3 e4 S2 cc => by
      have rg : ∀ v, m_t h v = 5 → v ≠ 121 → ∀ j, n_rg h2 v j = n_rg h v j := fun v hv hn j => by
        have ha : m_g h v 0 ≠ 121 := fun e => by have := (n_wf_row I.1 hv).2.1; rw [e, k1] at this; omega
        unfold n_rg
        rw [e3 v 1 hn, e3 v 0 hn, e3 _ j ha]
      obtain ⟨h', a1, a2, a3, a4, a5, a6⟩ := ih (p + 1) h2 (n_hit st s w p (n_sumN (fun j => n_df (T (t + j)) (V (p + j))) m n.toNat 0 0)) J (by rw [e3 122 1 (by omega)]; exact eN) (fun j j1 j2 => by rw [rg 119 (n_t119 I.2) (by omega)]; exact eT j j1 j2) (fun j j1 j2 => by rw [rg 122 (n_t122 I.2) (by omega)]; exact eV j j1 j2) (by omega) (by omega) S2 (by omega) (by omega) cc
      exact ⟨h', a1, a2, a3, a4.trans e2, fun b j hb => (a5 b j hb).trans (e3 b j hb), fun j hj => (a6 j hj).trans (e4 j hj)⟩
    generalize n_sumN (fun j => n_df (T (t + j)) (V (p + j))) m n.toNat 0 0 = x at *
    have eq1 : t1_searchWay_x3 3 121 s w t n m p 0 h = if m_w x = -1 then t1_searchWay_x3 3 121 s w t n m (p + 1) 0 h else if m_w (m_g h 121 7) = 0 then t1_searchWay_x3 56 121 s w t n m p x h else if m_w x < m_w (m_g h 121 6) then t1_searchWay_x3 56 121 s w t n m p x h else t1_searchWay_x3 78 121 s w t n m p 0 h := by
      rw [t1_searchWay_x3, if_pos rfl, if_pos k1, n_p121_2 I.2, if_pos (n_t122 I.2), n_size (n_t122 I.2), n_bs, eN]
      show (if m_w (N - n) < m_w p then some ((), h) else if m_t h 121 = 1 then t1_missAt 121 p t n m h >>= _ else none) = _
      rw [m_w_of (x := N - n) (by omega) (by omega), m_w_of (x := p) (by omega) (by omega), if_neg (by omega), if_pos k1, ms, n_bs]
      show (if m_w x = -1 then _ else if m_t h 121 = 1 then _ else none) = _
      rw [if_pos k1]
    rw [eq1, m_w_of (x := x) (by omega) (by omega)]
    by_cases cx : x = -1
    · rw [if_pos cx]
      have eh : n_hit st s w p x = st := by unfold n_hit; rw [if_pos cx]
      exact step h I rfl (fun _ _ _ => rfl) (fun _ _ => rfl) (by rw [eh]; exact S) (by rw [eh]; exact c2)
    · rw [if_neg cx, S.1, m_w_of (x := st.1) (by omega) (by omega)]
      have e78 : ∀ hh : m_H, m_t hh 121 = 1 → t1_searchWay_x3 78 121 s w t n m p 0 hh = t1_searchWay_x3 3 121 s w t n m (p + 1) 0 (m_p hh 121 7 (m_g hh 121 7 + 1)) := fun hh kh => by
        rw [t1_searchWay_x3, if_neg (by omega), if_neg (by omega), if_pos rfl, if_pos kh, n_bs]
      have e56 : t1_searchWay_x3 56 121 s w t n m p x h = t1_searchWay_x3 78 121 s w t n m p 0 (m_p (m_p (m_p (m_p h 121 3 s) 121 4 w) 121 5 p) 121 6 x) := by
        rw [t1_searchWay_x3, if_neg (by omega), if_pos rfl, if_pos k1, n_bs, m_t_p, if_pos k1, n_bs, m_t_p, m_t_p, if_pos k1, n_bs, m_t_p, m_t_p, m_t_p, if_pos k1, n_bs]
      have Ip : ∀ (hh : m_H) (j v : Int), n_I hh → n_key 121 j = false → n_I (m_p hh 121 j v) := fun hh j v J kk => n_I_p J (by rw [n_t121 J.2]; omega) (by rw [n_t121 J.2]; omega) kk
      have take : (st.1 = 0 ∨ x < st.2.2.2.2) → ∃ h', t1_searchWay_x3 56 121 s w t n m p x h = some ((), h') ∧ n_I h' ∧ n_stC h' (n_plN (fun p => n_sumN (fun j => n_df (T (t + j)) (V (p + j))) m n.toNat 0 0) s w (k + 1) p st) ∧ h'.2 = h.2 ∧ (∀ b j, b ≠ 121 → m_g h' b j = m_g h b j) ∧ ∀ j, j < 3 ∨ 7 < j → m_g h' 121 j = m_g h 121 j := fun ct => by
        have eh : n_hit st s w p x = (st.1 + 1, s, w, p, x) := by unfold n_hit; rw [if_neg cx, if_pos ct]
        rw [e56, e78 _ (by rw [m_t_p, m_t_p, m_t_p, m_t_p]; exact k1), n_gp_n (by omega), n_gp_n (by omega), n_gp_n (by omega), n_gp_n (by omega), S.1]
        refine step _ (Ip _ 7 _ (Ip _ 6 _ (Ip _ 5 _ (Ip _ 4 _ (Ip _ 3 _ I rfl) rfl) rfl) rfl) rfl) rfl (fun b j hb => by rw [n_gp_n (by omega), n_gp_n (by omega), n_gp_n (by omega), n_gp_n (by omega), n_gp_n (by omega)]) (fun j hj => by rw [n_gp_n (by omega), n_gp_n (by omega), n_gp_n (by omega), n_gp_n (by omega), n_gp_n (by omega)]) ?_ (by rw [eh]; intro _; show -1 ≤ x ∧ x ≤ 10000000; omega)
        rw [eh]
        refine ⟨n_gp_y ⟨rfl, rfl⟩, fun _ => ⟨?_, ?_, ?_, ?_⟩⟩
        · rw [n_gp_n (by omega), n_gp_n (by omega), n_gp_n (by omega), n_gp_n (by omega), n_gp_y ⟨rfl, rfl⟩]
        · rw [n_gp_n (by omega), n_gp_n (by omega), n_gp_n (by omega), n_gp_y ⟨rfl, rfl⟩]
        · rw [n_gp_n (by omega), n_gp_n (by omega), n_gp_y ⟨rfl, rfl⟩]
        · rw [n_gp_n (by omega), n_gp_y ⟨rfl, rfl⟩]
      by_cases c7 : st.1 = 0
      · rw [if_pos c7]; exact take (Or.inl c7)
      · have sp := S.2 (by omega)
        have cb := c2 (by omega)
        rw [if_neg c7, sp.2.2.2, m_w_of (x := st.2.2.2.2) (by omega) (by omega)]
        by_cases c8 : x < st.2.2.2.2
        · rw [if_pos c8]; exact take (Or.inr c8)
        · rw [if_neg c8, e78 h k1, S.1]
          have eh : n_hit st s w p x = (st.1 + 1, st.2.1, st.2.2.1, st.2.2.2.1, st.2.2.2.2) := by unfold n_hit; rw [if_neg cx, if_neg (by omega)]
          refine step _ (Ip _ 7 _ I rfl) rfl (fun b j hb => n_gp_n (by omega)) (fun j hj => n_gp_n (by omega)) ?_ (by rw [eh]; intro _; exact cb)
          rw [eh]
          exact ⟨n_gp_y ⟨rfl, rfl⟩, fun _ => ⟨(n_gp_n (by omega)).trans sp.1, (n_gp_n (by omega)).trans sp.2.1, (n_gp_n (by omega)).trans sp.2.2.1, (n_gp_n (by omega)).trans sp.2.2.2⟩⟩
