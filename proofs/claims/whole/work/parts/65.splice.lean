/-! CALLS: splice: the step -/
theorem n_tk_old {h : m_H} {a st b j : Int} (h1 : b ≠ a) (h2 : b ≠ 2) : m_g (n_tk h a st) b j = m_g h b j := by
  unfold n_tk
  rw [n_gp_n (fun q => h2 q.1), n_gp_n (fun q => h1 q.1), n_gp_n (fun q => h1 q.1)]
theorem n_tk_11 {h : m_H} {a st : Int} : m_g (n_tk h a st) 2 11 = m_g h 2 11 + 1 := by unfold n_tk; rw [n_gp_y ⟨rfl, rfl⟩]
theorem n_tk_bud {h : m_H} {a st k : Int} (I : n_I h) (ha : m_t h a = 8) (B : n_bud h k) : n_bud (n_tk h a st) k :=
  n_bud_same I rfl (fun r hr => by
    have t2 := n_t2 I.2
    exact n_tk_old (fun e => by rw [e] at hr; omega) (fun e => by rw [e] at hr; omega)) B
theorem n_s_splice {h : m_H} {k : Int} (X : n_R h k) (s u a : Int) (i1 : -2147483648 ≤ s) (i2 : s < 2147483648) (j1 : -2147483648 ≤ u) (j2 : u < 2147483648) (y1 : -2147483648 ≤ a) (y2 : a < 2147483648) : n_step h k (t10_splice 1 s u a) (t11_splice 127 s u a) := by
  have X' := X
  obtain ⟨I, gs, bud, x1, x2, x3, x4, x5, x6, x7⟩ := X'
  have B := gs.1
  unfold n_shB at B
  have N := x3.1
  unfold n_shN at N
  have t2 := n_t2 I.2
  unfold n_step t10_splice
  rw [if_pos (n_t1 I.2), n_p1_0 I.2, if_pos t2]
  by_cases c : n_maySplice h s u a
  · have c' := c
    obtain ⟨c1, c2, c3, ⟨c4, c5⟩, c6, c7, c8, c9, c10⟩ := c'
    have hs : 0 ≤ s ∧ s < m_g h 127 14 := ⟨c1.1, c1.2.1⟩
    have hu : 0 ≤ u ∧ u < m_g h 127 14 := ⟨c2.1, c2.2.1⟩
    have b := gs.2.1 s hs.1 hs.2
    have bu := gs.2.1 u hu.1 hu.2
    unfold n_strB at b bu
    have ne := n_cells x3 hs hu c3
    have F := n_st_F x3 gs hs
    have F' := n_st_F x3 gs hu
    obtain ⟨⟨a1, a2, a3, a4⟩, a5, a6, a7, a8, a9, a10, a11, a12, a13, a14, a15, a16, a17⟩ := n_st x3 hs
    obtain ⟨⟨b1, b2, b3, b4⟩, b5, b6, b7, b8, b9, b10, b11, b12, b13, b14, b15, b16, b17⟩ := n_st x3 hu
    obtain ⟨h1, h4, h5, e1, G1, ka1, u0, ag, ⟨z1, z2, z3, z4, z5, z6, z7⟩, e5, A⟩ := n_joinC (k := a) I F F' (by omega) (by omega) a16 b16 (by omega) (by omega) c4 c5 c6 c7 c8
    rw [a9, a10, a11, b9, b10, b11] at A
    obtain ⟨F5, O5, -, -, lq, lr⟩ := n_stF_new I F A
    obtain ⟨G5, P5, -, -, mq, mr⟩ := n_stF_new I F' A
    have tk1 := n_takeAway (st := 1) A.1 F5.1.1 F5.1.2.1
    have I6 := n_tk_I (st := 1) A.1 F5.1.1 F5.1.2.1
    have K6 := n_tk_kp (st := 1) A.1 F5.1.1
    have kq6 : m_t (n_tk h5 (m_g h 3 s) 1) (m_g h 3 u) = 8 := G5.1.1
    have tk2 := n_takeAway (st := 1) I6 kq6 b2
    have I7 := n_tk_I (st := 1) I6 kq6 b2
    have K7 := n_tk_kp (st := 1) I6 kq6
    have KP : n_kp h (n_tk (n_tk h5 (m_g h 3 s) 1) (m_g h 3 u) 1) [2, 3, m_g h 3 s, 2, m_g h 3 u, 2] [] := n_kp_trans (n_kp_trans A.2.1 K6 I.1 n_no) K7 I.1 n_no
    have ref := fun b j (b1 : 127 ≤ b) (b2 : b < 312) => n_kp_ref I KP (fun b hb => by simp at hb; omega) n_no b1 b2 j
    have G0 := n_gs_g (g' := n_tk (n_tk h5 (m_g h 3 s) 1) (m_g h 3 u) 1) gs (fun b j => ref b j)
    have S0 := n_Rsh_g (g' := n_tk (n_tk h5 (m_g h 3 s) 1) (m_g h 3 u) 1) x3 (fun b j => ref b j)
    have Bu : n_bud (n_tk (n_tk h5 (m_g h 3 s) 1) (m_g h 3 u) 1) (k + 1) := by
      refine n_tk_bud I6 kq6 (n_tk_bud A.1 F5.1.1 ?_)
      have p1 := n_new_phi I A
      have m1 := A.2.2.1
      unfold n_bud at *
      omega
    have q3 : ∀ i, i ≠ m_g h 2 1 → m_g h5 3 i = m_g h 3 i := fun i hi => by rw [A.2.2.2.2.2.2.2, if_neg hi]
    have d11 : m_g h5 2 11 = m_g h 2 11 + 1 := by rw [A.2.2.2.2.2.2.1]; rfl
    have dd : m_g (n_tk (n_tk h5 (m_g h 3 s) 1) (m_g h 3 u) 1) 2 11 = m_g h 2 11 + 3 := by rw [n_tk_11, n_tk_11, d11]; omega
    have RU := fun (g : m_H) (S : n_Rsh h5 g) (hc : 0 ≤ s ∧ s < m_g g 127 14) => n_use_R (st := 1) A.1 S hc
    rw [q3 s (by omega)] at RU
    have RU2 := fun (g : m_H) (S : n_Rsh (n_tk h5 (m_g h 3 s) 1) g) (hc : 0 ≤ u ∧ u < m_g g 127 14) => n_use_R (st := 1) I6 S hc
    have q6 : m_g (n_tk h5 (m_g h 3 s) 1) 3 u = m_g h 3 u := by rw [n_tk_old (by omega) (by omega), q3 u (by omega)]
    rw [q6] at RU2
    have ka7 : m_t (n_tk (n_tk h5 (m_g h 3 s) 1) (m_g h 3 u) 1) (m_n h) = 8 := A.2.2.2.1.1
    have hn := I.2.2.2.2
    have f07 : m_g (n_tk (n_tk h5 (m_g h 3 s) 1) (m_g h 3 u) 1) (m_n h) 0 = m_g h 2 1 := by
      rw [n_tk_old (by omega) (by omega), n_tk_old (by omega) (by omega)]
      exact A.2.2.2.2.1.1
    have u6 : m_t (n_tk h5 (m_g h 3 s) 1) 2 = 7 := n_t2 I6.2
    have e14 := ref 127 14 (by omega) (by omega)
    have e15 := ref 127 15 (by omega) (by omega)
    have rr := fun b j (b1 : 128 ≤ b) (b2 : b ≤ 148) => ref b j (by omega) (by omega)
    generalize n_tk h5 (m_g h 3 s) 1 = h6 at *
    generalize n_tk h6 (m_g h 3 u) 1 = h7 at *
    have M7 : n_maySplice h7 s u a := by
      unfold n_maySplice
      rw [e14, e15, rr 133 s (by omega) (by omega), rr 132 s (by omega) (by omega), rr 133 u (by omega) (by omega), rr 132 u (by omega) (by omega), rr 131 s (by omega) (by omega), rr 131 u (by omega) (by omega)]
      exact c
    obtain ⟨g1, ec, N1, G1'⟩ := n_spliceR I7 G0 M7
    rw [rr 134 s (by omega) (by omega), rr 134 u (by omega) (by omega), rr 135 s (by omega) (by omega), rr 135 u (by omega) (by omega), rr 136 s (by omega) (by omega), rr 136 u (by omega) (by omega), rr 131 s (by omega) (by omega), rr 131 u (by omega) (by omega)] at N1
    have S1 := n_add_R I S0 G0 A N1 (fun j q1 q2 => by
      unfold n_jr
      rw [rr 130 s (by omega) (by omega), rr 130 u (by omega) (by omega), rr 131 s (by omega) (by omega)]
      exact n_jn_eq (l2 := m_g h 131 u) c4 (fun i w1 w2 => by rw [a17 i w1 (by omega), rr 128 _ (by omega) (by omega)]) (fun i w1 w2 => by rw [b17 i w1 w2, rr 128 _ (by omega) (by omega)]) c7 q1 (by omega))
    have k14 : m_g g1 127 14 = m_g h7 127 14 + 1 := N1.2.2.1.1
    have S2 := RU g1 S1 (by omega)
    have G2 := n_use_gs (st := 1) G1' (show 0 ≤ s ∧ s < m_g g1 127 14 by omega) (by omega) (by omega)
    have k14' : m_g (n_us g1 s 1) 127 14 = m_g g1 127 14 := (n_us_kr g1 s 1).2.2 127 14 (by decide) (by simp)
    have S3 := RU2 _ S2 (by omega)
    have G3 := n_use_gs (st := 1) G2 (show 0 ≤ u ∧ u < m_g (n_us g1 s 1) 127 14 by omega) (by omega) (by omega)
    have R := n_fin2 X KP (n_kr_trans (n_kr_trans (n_newR_kr N1) (n_us_kr g1 s 1)) (n_us_kr (n_us g1 s 1) u 1)) (fun b hb => by
      simp at hb
      rcases hb with e | e | e | e | e | e
      · exact Or.inl e
      · exact Or.inr (Or.inl e)
      · exact Or.inr (Or.inr ⟨s, hs.1, hs.2, e⟩)
      · exact Or.inl e
      · exact Or.inr (Or.inr ⟨u, hu.1, hu.2, e⟩)
      · exact Or.inl e) (fun b hb => by simp at hb; omega) (fun q hq => by simp at hq; omega) I7 Bu G3 S3 (by omega) (by omega)
    refine ⟨m_g h 2 1, h7, m_g h7 127 14, n_us (n_us g1 s 1) u 1, ?_, ec, by rw [e14, N.1], R⟩
    have er := n_hasRoom (a := 1) (b := m_g h 131 s + m_g h 131 u - a) I (by omega) (by omega) (by omega) (by omega) (by omega) (by omega) (by omega) (by omega)
    rw [decide_eq_true (by omega)] at er
    have ej : t5_joinedSize (m_g h (m_g h 3 s) 3) (m_g h (m_g h 3 u) 3) a h = some (m_g h 131 s + m_g h 131 u - a, h) := by
      unfold t5_joinedSize
      rw [if_pos a3, if_pos b3, a16, b16]
    unfold t7_joinedOf
    rw [if_pos t2, n_freeStrip_y I x3 gs hs c1.2.2.1 c1.2.2.2, n_bs]
    show (if m_t h 2 = 7 then t7_freeStrip 2 u h >>= _ else none) >>= _ = _
    rw [if_pos t2, n_freeStrip_y I x3 gs hu c2.2.2.1 c2.2.2.2, n_bs]
    show (if m_g h 3 s = 0 then _ else if m_g h 3 u = 0 then _ else if 0 ≤ m_g h 3 s ∧ 0 ≤ m_g h 3 u then if m_g h 3 s = m_g h 3 u then _ else if m_w a < 0 then _ else if 20 < m_w a then _ else if m_t h (m_g h 3 s) = 8 then if m_t h (m_g h (m_g h 3 s) 3) = 5 then t5_size (m_g h (m_g h 3 s) 3) h >>= _ else none else none else none) >>= _ = _
    rw [if_neg (by omega), if_neg (by omega), if_pos (by omega), if_neg ne, m_w_of (x := a) (by omega) (by omega), if_neg (by omega), if_neg (by omega), if_pos a1, if_pos a3, n_size a3, n_bs, a16]
    show (if m_t h (m_g h 3 u) = 8 then if m_t h (m_g h (m_g h 3 u) 3) = 5 then t5_size (m_g h (m_g h 3 u) 3) h >>= _ else none else none) >>= _ = _
    rw [if_pos b1, if_pos b3, n_size b3, n_bs, b16]
    show (if m_w (m_min (m_g h 131 s) (m_g h 131 u)) < a then _ else if m_t h (m_g h 3 s) = 8 then if m_t h (m_g h 3 u) = 8 then t5_joinedSize (m_g h (m_g h 3 s) 3) (m_g h (m_g h 3 u) 3) a h >>= _ else none else none) >>= _ = _
    rw [n_mmin (by omega) (by omega) (by omega) (by omega), m_w_of (by omega) (by omega), if_neg (by omega), if_pos a1, if_pos b1, ej, n_bs]
    show (if 300 < m_w (m_g h 131 s + m_g h 131 u - a) then _ else if m_t h 2 = 7 then t7_hasRoom 2 1 (m_g h 131 s + m_g h 131 u - a) h >>= _ else none) >>= _ = _
    rw [m_w_of (by omega) (by omega), if_neg (by omega), if_pos t2, er, n_bs]
    show (if true = true then if m_t h 2 = 7 then t7_beginOf 2 4 (m_g h 131 s + m_g h 131 u - a) (m_g h 3 s) h >>= _ else none else _) >>= _ = _
    rw [if_pos rfl, if_pos t2, e1, n_bs]
    show (if m_t h1 (m_g h 3 u) = 8 then if m_t h1 (m_n h) = 8 then some (m_p h1 (m_n h) 10 (m_g h1 (m_g h 3 u) 0)) >>= _ else none else none) >>= _ = _
    rw [if_pos G1.1.1, if_pos ka1, u0, n_bs]
    show (if m_t (m_p h1 (m_n h) 10 u) (m_n h) = 8 then t8_ageAs (m_n h) (m_g h 3 u) (m_p h1 (m_n h) 10 u) >>= _ else none) >>= _ = _
    rw [m_t_p, if_pos ka1, ag, n_bs]
    show (if m_t h4 (m_n h) = 8 then if m_t h4 (m_g h 3 s) = 8 then if m_t h4 (m_g h 3 u) = 8 then if m_t h4 (m_g h4 (m_n h) 3) = 5 then t5_fillJoined (m_g h4 (m_n h) 3) (m_g h4 (m_g h 3 s) 3) (m_g h4 (m_g h 3 u) 3) a h4 >>= _ else none else none else none else none) >>= _ = _
    rw [if_pos z1, if_pos z2, if_pos z3, z4, if_pos z5, z6, z7, e5, n_bs]
    show (if m_t h5 2 = 7 then t7_takeAway 2 (m_g h 3 s) 1 h5 >>= _ else none) >>= _ = _
    rw [if_pos (n_t2 A.1.2), tk1, n_bs]
    show (if m_t h6 2 = 7 then t7_takeAway 2 (m_g h 3 u) 1 h6 >>= _ else none) >>= _ = _
    rw [if_pos u6, tk2, n_bs]
    show (if m_t h7 (m_n h) = 8 then some (m_g h7 (m_n h) 0, h7) else none) >>= _ = _
    rw [if_pos ka7, n_bs, f07]
  · refine ⟨-1, h, -1, h, ?_, n_spliceR_n I gs i1 i2 j1 j2 y1 y2 c, rfl, n_R_more X⟩
    rw [n_spliceC_n I x3 gs i1 i2 j1 j2 y1 y2 c, n_bs]
