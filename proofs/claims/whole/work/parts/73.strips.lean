/-! CALLS: near, rivals: the component's strips -/
theorem n_cI_sh {h hh : m_H} {k : Int} {st : Int × Int × Int × Int × Int} (I : n_I h) (S : n_Rsh h h) (G : n_gs h) (C : n_cI h hh k st) : n_Rsh hh hh ∧ n_gs hh ∧ (∀ b j, 127 ≤ b → b < 312 → m_g hh b j = m_g h b j) ∧ ∀ j, m_g hh 3 j = m_g h 3 j := by
  obtain ⟨J, K, Bu, F, Q⟩ := C
  have t121 := n_t121 I.2
  have t122 := n_t122 I.2
  have t3 := n_t3 I.2
  have s121 : n_sf h 121 := n_sfa I (by omega) (by omega) (Or.inl (by omega))
  have P : n_sp h hh [121] [122] [] [] := n_sp_of I K n_kr_rfl (n_in1 ⟨s121, Or.inl (by omega)⟩) (n_in1 t122)
  have nos : n_nos [] [] := by unfold n_nos; simp
  have k22 := (n_wf_row I.1 t122).2.1
  refine ⟨n_Rsh_sp I P nos (n_in1 ⟨Or.inr (by omega), by omega, by omega⟩) (n_in1 (by omega)) S, n_gs_sp P nos G, fun b j b1 b2 => n_kp_ref I K (n_in1 (by omega)) (n_in1 t122) b1 b2 j, fun j => K.2.2.1 3 (by have := I.2.2.2.2; omega) (by simp) (by simp) (fun r hr => by simp at hr; rw [hr]; intro e; rw [← e] at k22; omega) j⟩
theorem n_strips {h : m_H} {t n m k : Int} (I : n_I h) (S : n_Rsh h h) (G : n_gs h) (T : n_Rtape h h) (n1 : 1 ≤ n) (n2 : n ≤ 100) (t0 : 0 ≤ t) (t1 : t + n ≤ m_g h 127 85) (m0 : 0 ≤ m) (m1 : m ≤ 65535) : ∀ (kk : Nat) (s : Int) (hh : m_H) (st : Int × Int × Int × Int × Int), 0 ≤ s → s + kk = m_g h 127 14 → n_cI h hh k st → n_okS st → st.1 + 2400 * kk ≤ 900000 → ∃ h2, t1_search_x35 35 121 t n m s 0 0 hh = some (decide (0 < (n_stsF h t n m kk s st).1), h2) ∧ n_cI h h2 k (n_stsF h t n m kk s st) ∧ n_okS (n_stsF h t n m kk s st) ∧ (n_stsF h t n m kk s st).1 ≤ st.1 + 2400 * kk := by
  have B := G.1
  unfold n_shB at B
  have N := S.1
  unfold n_shN at N
  intro kk
  induction kk with
  | zero =>
    intro s hh st s0 sk C ok cb
    obtain ⟨S2, G2, ref, e3⟩ := n_cI_sh I S G C
    have C' := C
    obtain ⟨J, K, Bu, F, Q⟩ := C'
    have N2 := S2.1
    unfold n_shN at N2
    have r14 := ref 127 14 (by omega) (by omega)
    have ok1 := ok.1
    refine ⟨hh, ?_, C, ok, by show st.1 ≤ _; omega⟩
    rw [t1_search_x35, if_pos rfl, if_pos (n_t121 J.2), n_p121_0 J.2, if_pos (n_t2 J.2), N2.1, r14, if_neg (by rw [m_w_of (by omega) (by omega), m_w_of (by omega) (by omega)]; omega), Q.1, m_w_of (x := st.1) (by omega) (by omega)]
    show (if 0 < st.1 then some (true, hh) else some (false, hh)) = some (decide (0 < st.1), hh)
    by_cases c : 0 < st.1
    · rw [if_pos c, decide_eq_true c]
    · rw [if_neg c, decide_eq_false c]
  | succ kk ih =>
    intro s hh st s0 sk C ok cb
    have c : 0 ≤ s ∧ s < m_g h 127 14 := ⟨s0, by omega⟩
    have b := G.2.1 s c.1 c.2
    unfold n_strB at b
    obtain ⟨S2, G2, ref, e3⟩ := n_cI_sh I S G C
    have C' := C
    obtain ⟨J, K, Bu, F, Q⟩ := C'
    have N2 := S2.1
    unfold n_shN at N2
    have r14 := ref 127 14 (by omega) (by omega)
    have r133 := ref 133 s (by omega) (by omega)
    obtain ⟨⟨a1, a2, a3, a4⟩, a5, a6, a7, a8, a9⟩ := n_st S2 (i := s) (by omega)
    obtain ⟨⟨b1, b2, b3, b4⟩, b5⟩ := n_st S c
    have ek := n_known_y (i := s) J S2 G2 (by omega)
    have lq := I.1.1 (m_g h 3 s) (by omega)
    have k22 := (n_wf_row I.1 (n_t122 I.2)).2.1
    have q3 : m_g hh (m_g h 3 s) 3 = m_g h (m_g h 3 s) 3 := K.2.2.1 (m_g h 3 s) lq.2 (by simp; omega) (by simp; omega) (fun r hr => by simp at hr; rw [hr]; intro e; rw [← e] at k22; omega) 3
    rw [e3] at a1 a2 a8 ek
    have el : t1_layable 121 s hh = some ((if m_g h 133 s < 2 then m_g h (m_g h 3 s) 3 else 0), hh) := by
      unfold t1_layable
      rw [if_pos (n_t121 J.2), n_p121_0 J.2, if_pos (n_t2 J.2), ek, n_bs]
      show (if m_g h 3 s = 0 then some (0, hh) else if m_t hh (m_g h 3 s) = 8 then if m_w (m_g hh (m_g h 3 s) 4) = 2 then some (0, hh) else some (m_g hh (m_g h 3 s) 3, hh) else none) = _
      rw [if_neg (by omega), if_pos a1, a8, r133, m_w_of (by omega) (by omega), q3]
      by_cases d : m_g h 133 s < 2
      · rw [if_pos d, if_neg (by omega)]
      · rw [if_neg d, if_pos (by omega)]
    have e35 : t1_search_x35 35 121 t n m s 0 0 hh = t1_search_x35 58 121 t n m s (if m_g h 133 s < 2 then m_g h (m_g h 3 s) 3 else 0) 0 hh := by
      rw [t1_search_x35, if_pos rfl, if_pos (n_t121 J.2), n_p121_0 J.2, if_pos (n_t2 J.2), N2.1, r14, if_pos (by rw [m_w_of (by omega) (by omega), m_w_of (by omega) (by omega)]; omega), el, n_bs]
    rw [e35]
    show ∃ h2, _ = some (decide (0 < (n_stsF h t n m kk (s + 1) (if m_g h 133 s < 2 then n_wysF h t n m s 4 0 st else st)).1), h2) ∧ n_cI h h2 k (n_stsF h t n m kk (s + 1) (if m_g h 133 s < 2 then n_wysF h t n m s 4 0 st else st)) ∧ n_okS (n_stsF h t n m kk (s + 1) (if m_g h 133 s < 2 then n_wysF h t n m s 4 0 st else st)) ∧ (n_stsF h t n m kk (s + 1) (if m_g h 133 s < 2 then n_wysF h t n m s 4 0 st else st)).1 ≤ _
    by_cases d : m_g h 133 s < 2
    · rw [if_pos d, if_pos d]
      obtain ⟨h2, e2, C2, ok2, c2⟩ := n_ways I S G T c n1 n2 t0 t1 m0 m1 4 0 hh st (by omega) (by omega) C ok (by omega)
      obtain ⟨h3, e3', C3, ok3, c3⟩ := ih (s + 1) h2 (n_wysF h t n m s 4 0 st) (by omega) (by omega) C2 ok2 (by omega)
      exact ⟨h3, e2.trans e3', C3, ok3, by omega⟩
    · rw [if_neg d, if_neg d]
      obtain ⟨h3, e3', C3, ok3, c3⟩ := ih (s + 1) hh st (by omega) (by omega) C ok (by omega)
      refine ⟨h3, ?_, C3, ok3, by omega⟩
      rw [t1_search_x35, if_neg (by omega), if_pos rfl, m_w_of (by omega) (by omega), if_pos (by omega), if_pos rfl]
      exact e3'
