/-! CALLS: near, rivals: one way of one strip, the component -/
def n_okS (st : Int × Int × Int × Int × Int) : Prop := 0 ≤ st.1 ∧ (0 < st.1 → -1 ≤ st.2.2.2.2 ∧ st.2.2.2.2 ≤ 10000000)
theorem n_hit_ok {st : Int × Int × Int × Int × Int} {s w p x : Int} (ok : n_okS st) (x1 : -1 ≤ x) (x2 : x ≤ 10000000) : n_okS (n_hit st s w p x) := by
  obtain ⟨o1, o2⟩ := ok
  unfold n_hit
  by_cases c : x = -1
  · rw [if_pos c]; exact ⟨o1, o2⟩
  · rw [if_neg c]
    by_cases d : st.1 = 0 ∨ x < st.2.2.2.2
    · rw [if_pos d]
      exact ⟨show 0 ≤ st.1 + 1 by omega, fun _ => ⟨x1, x2⟩⟩
    · rw [if_neg d]
      exact ⟨show 0 ≤ st.1 + 1 by omega, fun _ => o2 (by omega)⟩
theorem n_plN_ok {f : Int → Int} {s w N : Int} (hf : ∀ p, 0 ≤ p → p < N → -1 ≤ f p ∧ f p ≤ 10000000) : ∀ (k : Nat) (p : Int) (st : Int × Int × Int × Int × Int), 0 ≤ p → p + k ≤ N → n_okS st → n_okS (n_plN f s w k p st) ∧ (n_plN f s w k p st).1 ≤ st.1 + k := by
  intro k
  induction k with
  | zero => intro p st _ _ ok; exact ⟨ok, by show st.1 ≤ st.1 + _; omega⟩
  | succ k ih =>
    intro p st p0 pk ok
    have b := hf p p0 (by omega)
    have h1 := n_hit_ok (s := s) (w := w) (p := p) ok b.1 b.2
    have hc := n_hit_c st s w p (f p)
    have r := ih (p + 1) (n_hit st s w p (f p)) (by omega) (by omega) h1
    exact ⟨r.1, by show (n_plN f s w k (p + 1) (n_hit st s w p (f p))).1 ≤ _; omega⟩
def n_wayF (g : m_H) (t n m s w : Int) (st : Int × Int × Int × Int × Int) : Int × Int × Int × Int × Int := n_plN (fun p => n_sumN (fun j => n_df (m_g g 308 (t + j)) (n_wv g s w (p + j))) m n.toNat 0 0) s w (max 0 (n_wl g s w - n + 1)).toNat 0 st
theorem n_wayF_ok {g : m_H} {t n m s w : Int} {st : Int × Int × Int × Int × Int} (G : n_gs g) (T : n_Rtape g g) (c : 0 ≤ s ∧ s < m_g g 127 14) (n1 : 1 ≤ n) (n2 : n ≤ 100) (t0 : 0 ≤ t) (t1 : t + n ≤ m_g g 127 85) (ok : n_okS st) : n_okS (n_wayF g t n m s w st) ∧ (n_wayF g t n m s w st).1 ≤ st.1 + 600 := by
  have W := n_wl_1 G c w
  have hf : ∀ p, 0 ≤ p → p < max 0 (n_wl g s w - n + 1) → -1 ≤ n_sumN (fun j => n_df (m_g g 308 (t + j)) (n_wv g s w (p + j))) m n.toNat 0 0 ∧ n_sumN (fun j => n_df (m_g g 308 (t + j)) (n_wv g s w (p + j))) m n.toNat 0 0 ≤ 10000000 := fun p p0 p1 => by
    have sb := n_sumN_b (f := fun j => n_df (m_g g 308 (t + j)) (n_wv g s w (p + j))) (m := m) (n := n) (fun j j1 j2 => by
      have a := T.2.2.2 (t + j) (by omega) (by omega)
      have b := n_wv_b (w := w) (i := p + j) G c (by omega) (by omega)
      exact n_df_b a.2.1 a.2.2 b.1 b.2) n.toNat 0 0 (by omega) (by omega) (by omega) (by omega)
    omega
  have r := n_plN_ok (s := s) (w := w) hf (max 0 (n_wl g s w - n + 1)).toNat 0 st (by omega) (by omega) ok
  unfold n_wayF
  exact ⟨r.1, by omega⟩
theorem n_kp_rowv {h hh : m_H} (I : n_I h) (K : n_kp h hh [121] [122]) {v : Int} (hv : m_t h v = 5) (hn : v ≠ 122) : m_t hh v = 5 ∧ m_g hh v 1 = m_g h v 1 ∧ ∀ j, n_rg hh v j = n_rg h v j := by
  have l := n_wf_lt I.1 hv
  have k20 := (n_wf_row I.1 hv).2.1
  have t1 := n_t121 I.2
  have t2 := n_t122 I.2
  have k22 := (n_wf_row I.1 t2).2.1
  have ap := I.1.2.2.2.1 v 122 hv t2 hn
  have e1 := fun j => K.2.2.1 v l.1 (by simp; intro e; rw [e] at hv; omega) (by simp; exact hn) (fun r hr => by simp at hr; rw [hr]; intro e; rw [e] at hv; omega) j
  have e2 := fun j => K.2.2.1 (m_g h v 0) l.2.1 (by simp; intro e; rw [e] at k20; omega) (by simp; intro e; rw [e] at k20; omega) (fun r hr => by simp at hr; rw [hr]; exact ap) j
  exact ⟨by rw [(K.1 v l.1).1]; exact hv, e1 1, fun j => by unfold n_rg; rw [e1, e1, e2]⟩
theorem n_oneway {h hh : m_H} {t n m s w k : Int} {st : Int × Int × Int × Int × Int} (I : n_I h) (S : n_Rsh h h) (G : n_gs h) (T : n_Rtape h h) (c : 0 ≤ s ∧ s < m_g h 127 14) (w0 : 0 ≤ w) (w1 : w ≤ 3) (n1 : 1 ≤ n) (n2 : n ≤ 100) (t0 : 0 ≤ t) (t1 : t + n ≤ m_g h 127 85) (m0 : 0 ≤ m) (m1 : m ≤ 65535) (J : n_I hh) (K : n_kp h hh [121] [122]) (Bu : n_bud hh k) (F : ∀ j, j < 3 ∨ 7 < j → m_g hh 121 j = m_g h 121 j) (Q : n_stC hh st) (ok : n_okS st) (cb : st.1 ≤ 900000) : ∃ h1 h2, t1_fillWay 121 (m_g h (m_g h 3 s) 3) w hh = some ((), h1) ∧ n_I h1 ∧ t1_searchWay 121 s w t n m h1 = some ((), h2) ∧ n_I h2 ∧ n_kp h h2 [121] [122] ∧ n_bud h2 k ∧ (∀ j, j < 3 ∨ 7 < j → m_g h2 121 j = m_g h 121 j) ∧ n_stC h2 (n_wayF h t n m s w st) := by
  have W := n_wl_1 G c w
  have T3 := T.2.2.1
  obtain ⟨⟨a1, a2, a3, a4⟩, a5, a6, a7, a8, a9, a10, a11, a12, a13, a14, a15, a16, a17⟩ := n_st S c
  obtain ⟨r1, r2, r3⟩ := n_kp_rowv I K a3 (by omega)
  obtain ⟨h1, e1, A⟩ := n_fillWay (h := hh) (g := h) (v := m_g h (m_g h 3 s) 3) J G c r1 (by omega) (by rw [r2, a16]) (fun j j1 j2 => by rw [r3, a17 j j1 j2]; rfl) w0 w1
  have t122 := n_t122 J.2
  have I1 := n_I_rw J t122 A.1
  have K1 := n_kp_rw J.1 t122 A.1
  have KK : n_kp h h1 [121] [122] := n_kp_mono (n_kp_trans K K1 I.1 (fun r hr => Or.inl (by simp at hr; rw [hr]; exact n_t122 I.2))) (fun b hb => Or.inl (by simpa using hb)) (fun b hb => Or.inl (by simpa using hb))
  have l121 := I.1.1 121 (by rw [n_t121 I.2]; omega)
  have f121 : ∀ j, m_g h1 121 j = m_g hh 121 j := fun j => by
    have l := J.1.1 121 (by rw [n_t121 J.2]; omega)
    refine K1.2.2.1 121 l.2 (by simp) (by simp) (fun r hr => ?_) j
    simp at hr
    rw [hr]
    intro e
    have := (n_wf_row J.1 t122).2.1
    rw [← e, n_t121 J.2] at this
    omega
  have B1 := n_bud_rw J (by decide) A.1 Bu
  have q119 := (n_kp_rowv I KK (n_t119 I.2) (by omega)).2.2
  obtain ⟨h2, e2, I2, Q2, x2, x3, x4⟩ := n_sway (N := n_wl h s w) (n := n) (t := t) (m := m) (s := s) (w := w) (T := m_g h 308) (V := n_wv h s w) n1 n2 W.1 W.2 t0 (by omega) m0 m1 (fun j j1 j2 => (T.2.2.2 (t + j) (by omega) (by omega)).2) (fun j j1 j2 => n_wv_b G c j1 j2) (max 0 (n_wl h s w - n + 1)).toNat 0 h1 st I1 A.1.2.2.1 (fun j j1 j2 => by rw [q119]; exact (T.2.2.2 (t + j) (by omega) (by omega)).1) (fun j j1 j2 => by rw [n_rw_rg A.1, if_pos ⟨j1, j2⟩]) (by omega) (by omega) (by unfold n_stC at *; simp only [f121]; exact Q) ok.1 (by omega) ok.2
  have t1h : m_t h1 121 = 1 := n_t121 I1.2
  have K2 : n_kp h1 h2 [121] [] := ⟨fun b _ => ⟨n_e2t x2 b, n_e2l x2 b⟩, by rw [n_e2n x2]; omega, fun b hb q1 _ _ j => x3 b j (by simpa using q1), fun r hr => Or.inl (x3 r 0 (fun e => by rw [e] at hr; omega))⟩
  have K3 : n_kp h h2 [121] [122] := n_kp_mono (n_kp_trans KK K2 I.1 n_no) (fun b hb => Or.inl (by simpa using hb)) (fun b hb => Or.inl (by simpa using hb))
  exact ⟨h1, h2, e1, I1, e2, I2, K3, n_bud_same I1 x2 (fun r hr => x3 r 0 (fun e => by rw [e] at hr; omega)) B1, fun j hj => by rw [x4 j hj, f121, F j hj], Q2⟩
