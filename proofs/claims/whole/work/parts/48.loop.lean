/-! CALLS: loop -/
theorem n_s_loop {h : m_H} {k : Int} (X : n_R h k) (s : Int) (i1 : -2147483648 ≤ s) (i2 : s < 2147483648) : n_step h k (t10_loop 1 s) (t11_loop 127 s) := by
  have X' := X
  obtain ⟨I, gs, bud, x1, x2, x3, x4, x5, x6, x7⟩ := X'
  have B := gs.1
  unfold n_shB at B
  have N := x3.1
  unfold n_shN at N
  have t2 := n_t2 I.2
  unfold n_step t10_loop
  rw [if_pos (n_t1 I.2), n_p1_0 I.2, if_pos t2]
  by_cases c : (0 ≤ s ∧ s < m_g h 127 14 ∧ m_g h 133 s = 0 ∧ m_g h 132 s ≠ 3) ∧ m_g h 127 14 + 1 ≤ 100 ∧ m_g h 127 15 + m_g h 131 s ≤ 20000
  · obtain ⟨c1, c4, c5⟩ := c
    have hs : 0 ≤ s ∧ s < m_g h 127 14 := ⟨c1.1, c1.2.1⟩
    have b := gs.2.1 s hs.1 hs.2
    unfold n_strB at b
    have ST := n_st x3 hs
    obtain ⟨⟨a1, a2, a3, a4⟩, a5, a6, a7, a8, a9, a10, a11, a12, a13, a14, a15, a16, a17⟩ := ST
    have F := n_st_F x3 gs hs
    obtain ⟨h1, f0, e1, A1⟩ := n_beginOf (kd := 3) (n := m_g h 131 s) I F (by omega) (by omega) (by omega) (by omega)
    obtain ⟨F1, O1, Or1, Ol1, lq, lr⟩ := n_stF_new I F A1
    have kr := A1.2.2.2.1.2.1
    have ka := A1.2.2.2.1.1
    have r1 : m_t h1 (m_g h (m_g h 3 s) 3) = 5 := by have := F1.1.2.2.1; rw [O1] at this; exact this
    obtain ⟨h2, e2, B2⟩ := n_fillPartC (v := m_n h + 1) (w := m_g h (m_g h 3 s) 3) (b := 0) (n := m_g h 131 s) A1.1.1 kr r1 (by omega) (by omega) (by omega) (by omega) (by omega) (fun j => by rw [Or1]; exact F.2.2.2.2.2 j)
    have A2 := n_new_rw I A1 B2
    obtain ⟨F2, O2, Or2, Ol2, -, -⟩ := n_stF_new I F A2
    have I3 := n_tk_I (st := 1) A2.1 F2.1.1 F2.1.2.1
    have K3 := n_tk_kp (st := 1) A2.1 F2.1.1
    have KP : n_kp h (n_tk h2 (m_g h 3 s) 1) [2, 3, m_g h 3 s, 2] [] := n_kp_trans A2.2.1 K3 I.1 n_no
    have ref := fun b j (b1 : 127 ≤ b) (b2 : b < 312) => n_kp_ref I KP (fun b hb => by simp at hb; omega) n_no b1 b2 j
    have G0 := n_gs_g (g' := n_tk h2 (m_g h 3 s) 1) gs (fun b j => ref b j)
    have e14 := ref 127 14 (by omega) (by omega)
    have e15 := ref 127 15 (by omega) (by omega)
    have e131 := ref 131 s (by omega) (by omega)
    have e130 := ref 130 s (by omega) (by omega)
    have e133 := ref 133 s (by omega) (by omega)
    have e132 := ref 132 s (by omega) (by omega)
    have tk := n_takeAway (st := 1) A2.1 F2.1.1 F2.1.2.1
    have gfin := fun g1 f' N1 hf hv => n_fin3 (g1 := g1) (f' := f') X hs A2 (n_tk h2 (m_g h 3 s) 1) rfl N1 hf hv c4 c5 (by omega) (by omega) (by omega)
    have ka3 : m_t (n_tk h2 (m_g h 3 s) 1) (m_n h) = 8 := A2.2.2.2.1.1
    have f03 : m_g (n_tk h2 (m_g h 3 s) 1) (m_n h) 0 = m_g h 2 1 := by
      have hn := I.2.2.2.2
      unfold n_tk
      rw [n_gp_n (by omega), n_gp_n (by omega), n_gp_n (by omega)]
      exact A2.2.2.2.2.1.1
    generalize n_tk h2 (m_g h 3 s) 1 = h3 at *
    obtain ⟨g1, ec, N1, G1⟩ := n_loopR (s := s) I3 G0 (by omega) (by omega) (by omega)
    have R := gfin g1 (fun j => m_g h3 128 (m_g h3 130 s + j)) (by rw [e131] at N1; exact N1) (fun j j1 j2 => by
      show n_rg h1 (m_g h (m_g h 3 s) 3) (0 + j) = m_g h3 128 (m_g h3 130 s + j)
      rw [Or1, show 0 + j = j by omega, a17 _ (by omega) (by omega), e130, ref 128 _ (by omega) (by omega)]) (fun j j1 j2 => by
      have := gs.2.2.2.1 (m_g h 130 s + j) (by omega) (by omega)
      show -32768 ≤ m_g h3 128 (m_g h3 130 s + j) ∧ m_g h3 128 (m_g h3 130 s + j) ≤ 32767
      rw [e130, ref 128 _ (by omega) (by omega)]
      exact this)
    refine ⟨m_g h 2 1, h3, m_g h3 127 14, n_us g1 s 1, ?_, ec, by rw [e14, N.1], R⟩
    have er := n_hasRoom (a := 1) (b := m_g h 131 s) I (by omega) (by omega) (by omega) (by omega) (by omega) (by omega) (by omega) (by omega)
    rw [decide_eq_true (by omega)] at er
    have u1 : m_t h1 2 = 7 := n_t2 A1.1.2
    have u2 : m_t h2 2 = 7 := n_t2 A2.1.2
    unfold t7_loopOf
    rw [if_pos t2, n_freeStrip_y I x3 gs hs c1.2.2.1 c1.2.2.2, n_bs]
    show (if m_g h 3 s = 0 then _ else if m_t h (m_g h 3 s) = 8 then if m_t h (m_g h (m_g h 3 s) 3) = 5 then t5_size (m_g h (m_g h 3 s) 3) h >>= _ else none else none) >>= _ = _
    rw [if_neg (by omega), if_pos a1, if_pos a3, n_size a3, n_bs, a16]
    show (if m_t h 2 = 7 then t7_hasRoom 2 1 (m_g h 131 s) h >>= _ else none) >>= _ = _
    rw [if_pos t2, er, n_bs]
    show (if true = true then if m_t h (m_g h 3 s) = 8 then if m_t h (m_g h (m_g h 3 s) 3) = 5 then t5_size (m_g h (m_g h 3 s) 3) h >>= _ else none else none else _) >>= _ = _
    rw [if_pos rfl, if_pos a1, if_pos a3, n_size a3, n_bs, a16]
    show (if m_t h 2 = 7 then t7_beginOf 2 3 (m_g h 131 s) (m_g h 3 s) h >>= _ else none) >>= _ = _
    rw [if_pos t2, e1, n_bs]
    show (if m_t h1 (m_n h) = 8 then if m_t h1 (m_g h 3 s) = 8 then if m_t h1 (m_g h1 (m_g h 3 s) 3) = 5 then t5_size (m_g h1 (m_g h 3 s) 3) h1 >>= _ else none else none else none) >>= _ = _
    rw [if_pos ka, if_pos F1.1.1, O1, if_pos r1, n_size r1, n_bs]
    show (if m_t h1 (m_g h1 (m_n h) 3) = 5 then t5_fillPart (m_g h1 (m_n h) 3) (m_g h (m_g h 3 s) 3) 0 (m_g h1 (m_g h (m_g h 3 s) 3) 1) h1 >>= _ else none) >>= _ = _
    rw [A1.2.2.2.2.1.2.2.2.1, if_pos kr, Ol1, a16, e2, n_bs]
    show (if m_t h2 2 = 7 then t7_takeAway 2 (m_g h 3 s) 1 h2 >>= _ else none) >>= _ = _
    rw [if_pos u2, tk, n_bs]
    show (if m_t h3 (m_n h) = 8 then some (m_g h3 (m_n h) 0, h3) else none) >>= _ = _
    rw [if_pos ka3, n_bs, f03]
  · refine ⟨-1, h, -1, h, ?_, (n_plainR_n I gs i1 i2 2 c).2, rfl, n_R_more X⟩
    rw [(n_turnC_n I x3 gs i1 i2 c).2, n_bs]
