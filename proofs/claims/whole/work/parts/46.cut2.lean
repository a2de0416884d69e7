/-! CALLS: cut -/
theorem n_cutR_n {g : m_H} {s p : Int} (I : n_I g) (G : n_gs g) (i1 : -2147483648 ≤ s) (i2 : s < 2147483648) (p1 : -2147483648 ≤ p) (p2 : p < 2147483648) (c : ¬ ((0 ≤ s ∧ s < m_g g 127 14 ∧ m_g g 133 s = 0) ∧ (1 ≤ p ∧ p ≤ m_g g 131 s - 1) ∧ 1 ≤ m_g g 131 s - p - m_g g 127 17 ∧ m_g g 127 14 + 2 ≤ 100 ∧ m_g g 127 15 + (m_g g 131 s - m_g g 127 17) ≤ 20000)) : t11_cut 127 s p g = some (-1, g) := by
  have B := G.1
  unfold n_shB at B
  have eT := n_isThere I G i1 i2
  unfold t11_cut
  rw [if_pos (n_t127 I.2), eT, n_bs]
  by_cases c1 : 0 ≤ s ∧ s < m_g g 127 14 ∧ m_g g 133 s = 0
  · have b := G.2.1 s c1.1 c1.2.1
    unfold n_strB at b
    have l3 := n_l131 I.2
    have ei := n_in (a := p) (b := 1) (c := m_g g 131 s - 1) (h := g) (by omega) (by omega) (by omega) (by omega) (by omega) (by omega)
    rw [decide_eq_true c1]
    show (if true = true then if m_t g 127 = 11 then if m_t g (m_g g 127 3) = 20 ∧ 0 ≤ m_w s ∧ m_w s < m_l g (m_g g 127 3) then t11_in (m_w p) 1 (m_w (m_g g (m_g g 127 3) (m_w s) - 1)) g >>= _ else none else none else _) = _
    rw [if_pos rfl, if_pos (n_t127 I.2), n_p127_3 I.2, m_w_of (x := s) (by omega) (by omega), if_pos ⟨n_t131 I.2, by omega, by omega⟩, m_w_of (by omega) (by omega), m_w_of (by omega) (by omega), ei, n_bs]
    by_cases c2 : 1 ≤ p ∧ p ≤ m_g g 131 s - 1
    · rw [decide_eq_true c2]
      show (if true = true then if m_t g 127 = 11 then if m_t g (m_g g 127 3) = 20 ∧ 0 ≤ s ∧ s < m_l g (m_g g 127 3) then if m_w (m_g g (m_g g 127 3) s - p - m_g g 127 17) < 1 then _ else t11_isRoom 127 2 (m_g g (m_g g 127 3) s - m_g g 127 17) g >>= _ else none else none else _) = _
      rw [if_pos rfl, if_pos (n_t127 I.2), n_p127_3 I.2, if_pos ⟨n_t131 I.2, by omega, by omega⟩, m_w_of (by omega) (by omega)]
      by_cases c3 : m_g g 131 s - p - m_g g 127 17 < 1
      · rw [if_pos c3]
      · have er := n_isRoom (a := 2) (b := m_g g 131 s - m_g g 127 17) I G (by omega) (by omega) (by omega) (by omega)
        rw [decide_eq_false (by omega)] at er
        rw [if_neg c3, er, n_bs]
        rfl
    · rw [decide_eq_false c2]
      rfl
  · rw [decide_eq_false c1]
    rfl
theorem n_cutC_n {h g : m_H} {s p : Int} (I : n_I h) (S : n_Rsh h g) (G : n_gs g) (i1 : -2147483648 ≤ s) (i2 : s < 2147483648) (p1 : -2147483648 ≤ p) (p2 : p < 2147483648) (c : ¬ ((0 ≤ s ∧ s < m_g g 127 14 ∧ m_g g 133 s = 0) ∧ (1 ≤ p ∧ p ≤ m_g g 131 s - 1) ∧ 1 ≤ m_g g 131 s - p - m_g g 127 17 ∧ m_g g 127 14 + 2 ≤ 100 ∧ m_g g 127 15 + (m_g g 131 s - m_g g 127 17) ≤ 20000)) : t7_cutAt 2 s p h = some (-1, h) := by
  have B := G.1
  unfold n_shB at B
  have N := S.1
  unfold n_shN at N
  unfold t7_cutAt
  by_cases c1 : 0 ≤ s ∧ s < m_g g 127 14 ∧ m_g g 133 s = 0
  · have b := G.2.1 s c1.1 c1.2.1
    unfold n_strB at b
    obtain ⟨⟨a1, a2, a3, a4⟩, a5, a6, a7, a8, a9, a10, a11, a12, a13, a14, a15, a16, a17⟩ := n_st S ⟨c1.1, c1.2.1⟩
    rw [if_pos (n_t2 I.2), n_there_y I S G ⟨c1.1, c1.2.1⟩ c1.2.2, n_bs]
    show (if m_g h 3 s = 0 then _ else if m_w p < 1 then _ else if m_t h (m_g h 3 s) = 8 then if m_t h (m_g h (m_g h 3 s) 3) = 5 then t5_size (m_g h (m_g h 3 s) 3) h >>= _ else none else none) = _
    rw [if_neg (by omega), m_w_of p1 p2]
    by_cases c2 : p < 1
    · rw [if_pos c2]
    · rw [if_neg c2, if_pos a1, if_pos a3, n_size a3, n_bs]
      show (if p < m_w (m_g h (m_g h (m_g h 3 s) 3) 1) then if m_t h 2 = 7 then some (p + m_g h 2 4) >>= fun x12 => if m_t h (m_g h 3 s) = 8 then if m_t h (m_g h (m_g h 3 s) 3) = 5 then t5_size (m_g h (m_g h 3 s) 3) h >>= _ else none else none else none else _) = _
      rw [a16, m_w_of (by omega) (by omega)]
      by_cases c3 : p < m_g g 131 s
      · rw [if_pos c3, if_pos (n_t2 I.2), n_bs, if_pos a1, if_pos a3, n_size a3, n_bs]
        show (some (m_g h (m_g h (m_g h 3 s) 3) 1 - (p + m_g h 2 4)) >>= fun x17 => if m_w x17 < 1 then some (-1, h) else if m_t h 2 = 7 then t7_hasRoom 2 2 (p + x17) h >>= _ else none) = _
        rw [n_bs, a16, m_w_of (by omega) (by omega)]
        by_cases c4 : m_g g 131 s - (p + m_g h 2 4) < 1
        · rw [if_pos c4]
        · have er := n_hasRoom (a := 2) (b := p + (m_g g 131 s - (p + m_g h 2 4))) I (by omega) (by omega) (by omega) (by omega) (by omega) (by omega) (by omega) (by omega)
          rw [decide_eq_false (by omega)] at er
          rw [if_neg c4, if_pos (n_t2 I.2), er, n_bs]
          rfl
      · rw [if_neg c3]
  · rw [if_pos (n_t2 I.2), n_there_n I S G i1 i2 c1, n_bs]
    rfl
theorem n_s_cut {h : m_H} {k : Int} (X : n_R h k) (s p : Int) (i1 : -2147483648 ≤ s) (i2 : s < 2147483648) (p1 : -2147483648 ≤ p) (p2 : p < 2147483648) : n_step h k (t10_cut 1 s p) (t11_cut 127 s p) := by
  have X' := X
  obtain ⟨I, gs, bud, x1, x2, x3, x4, x5, x6, x7⟩ := X'
  have B := gs.1
  unfold n_shB at B
  have N := x3.1
  unfold n_shN at N
  have t2 := n_t2 I.2
  unfold n_step t10_cut
  rw [if_pos (n_t1 I.2), n_p1_0 I.2, if_pos t2]
  by_cases c : (0 ≤ s ∧ s < m_g h 127 14 ∧ m_g h 133 s = 0) ∧ (1 ≤ p ∧ p ≤ m_g h 131 s - 1) ∧ 1 ≤ m_g h 131 s - p - m_g h 127 17 ∧ m_g h 127 14 + 2 ≤ 100 ∧ m_g h 127 15 + (m_g h 131 s - m_g h 127 17) ≤ 20000
  · obtain ⟨c1, c2, c3, c4, c5⟩ := c
    have hs : 0 ≤ s ∧ s < m_g h 127 14 := ⟨c1.1, c1.2.1⟩
    have b := gs.2.1 s hs.1 hs.2
    unfold n_strB at b
    have ST := n_st x3 hs
    obtain ⟨⟨a1, a2, a3, a4⟩, a5, a6, a7, a8, a9, a10, a11, a12, a13, a14, a15, a16, a17⟩ := ST
    have F := n_st_F x3 gs hs
    obtain ⟨h1, e1, A1⟩ := n_addPart (from0 := 0) (n := p) I F (by omega) (by omega) (by omega) (by omega) (by omega) (by omega)
    obtain ⟨F1, O1, Or1, Ol1, lq, lr⟩ := n_stF_new I F A1
    have C2 := A1.2.2.2.2.2.2.1
    have C3 := A1.2.2.2.2.2.2.2
    have d1 : m_g h1 2 1 = m_g h 2 1 + 1 := by rw [C2]; rfl
    have d11 : m_g h1 2 11 = m_g h 2 11 + 1 := by rw [C2]; rfl
    obtain ⟨h2, e2, A2⟩ := n_addPart (from0 := p + m_g h 2 4) (n := m_g h 131 s - (p + m_g h 2 4)) A1.1 F1 (by omega) (by omega) (by omega) (by omega) (by omega) (by omega)
    obtain ⟨F2, O2, Or2, Ol2, lq2, lr2⟩ := n_stF_new A1.1 F1 A2
    have d11' : m_g h2 2 11 = m_g h1 2 11 + 1 := by rw [A2.2.2.2.2.2.2.1]; rfl
    have q3 : m_g h1 3 s = m_g h 3 s := by rw [C3, if_neg (by omega)]
    have q32 : m_g h2 3 s = m_g h 3 s := by rw [A2.2.2.2.2.2.2.2, if_neg (by omega)]; exact q3
    have I3 := n_tk_I (st := 1) A2.1 F2.1.1 F2.1.2.1
    have K3 := n_tk_kp (st := 1) A2.1 F2.1.1
    have KP : n_kp h (n_tk h2 (m_g h 3 s) 1) [2, 3, 2, 3, m_g h 3 s, 2] [] := n_kp_trans (n_kp_trans A1.2.1 A2.2.1 I.1 n_no) K3 I.1 n_no
    have hA : ∀ b ∈ [2, 3, 2, 3, m_g h 3 s, 2], b = 2 ∨ b = 3 ∨ ∃ i, 0 ≤ i ∧ i < m_g h 127 14 ∧ b = m_g h 3 i := fun b hb => by
      simp at hb
      rcases hb with e | e | e | e | e | e
      · exact Or.inl e
      · exact Or.inr (Or.inl e)
      · exact Or.inl e
      · exact Or.inr (Or.inl e)
      · exact Or.inr (Or.inr ⟨s, hs.1, hs.2, e⟩)
      · exact Or.inl e
    have hA2 : ∀ b ∈ [2, 3, 2, 3, m_g h 3 s, 2], b < 127 ∨ 312 ≤ b := fun b hb => by
      simp at hb
      omega
    have ref := fun b j (b1 : 127 ≤ b) (b2 : b < 312) => n_kp_ref I KP hA2 n_no b1 b2 j
    have S0 := n_Rsh_g (g' := n_tk h2 (m_g h 3 s) 1) x3 (fun b j => ref b j)
    have G0 := n_gs_g (g' := n_tk h2 (m_g h 3 s) 1) gs (fun b j => ref b j)
    have e14 := ref 127 14 (by omega) (by omega)
    have e15 := ref 127 15 (by omega) (by omega)
    have e17 := ref 127 17 (by omega) (by omega)
    have e133 := ref 133 s (by omega) (by omega)
    have e131 := ref 131 s (by omega) (by omega)
    have e3d : m_g (n_tk h2 (m_g h 3 s) 1) 2 11 = m_g h2 2 11 + 1 := by unfold n_tk; rw [n_gp_y ⟨rfl, rfl⟩]
    have tk := n_takeAway (st := 1) A2.1 F2.1.1 F2.1.2.1
    have Bu : n_bud (n_tk h2 (m_g h 3 s) 1) (k + 1) := by
      have b1 := n_new_phi I A1
      have b2 := n_new_phi A1.1 A2
      have m1 := A1.2.2.1
      have m2 := A2.2.2.1
      have : n_bud h2 (k + 1) := by unfold n_bud at *; omega
      exact n_bud_same A2.1 rfl (fun r hr => by
        have t2' := n_t2 A2.1.2
        unfold n_tk
        rw [n_gp_n (fun q => by rw [q.1] at hr; omega), n_gp_n (fun q => by rw [q.1] at hr; have := F2.1.1; omega), n_gp_n (fun q => by rw [q.1] at hr; have := F2.1.1; omega)]) this
    have RU := fun (g : m_H) (S : n_Rsh h2 g) (hc : 0 ≤ s ∧ s < m_g g 127 14) => n_use_R (st := 1) A2.1 S hc
    rw [q32] at RU
    generalize n_tk h2 (m_g h 3 s) 1 = h3 at *
    obtain ⟨g1, g2, ec, N1, N2, G1, G2⟩ := n_cutR (s := s) (p := p) I3 G0 (by omega) (by omega) (by omega) (by omega) (by omega) (by omega) (by omega)
    have J1 := n_newR_I I3 N1
    have J2 := n_newR_I J1 N2
    have T0 := n_st S0 (i := s) (by omega)
    have A1' := A1
    rw [T0.2.2.2.2.2.1, T0.2.2.2.2.2.2.1, T0.2.2.2.2.2.2.2.1] at A1'
    have S1 := n_add_R I S0 G0 A1' N1 (fun j j1 j2 => by
      show n_rg h (m_g h (m_g h 3 s) 3) (0 + j) = m_g h3 128 (m_g h3 130 s + (0 + j))
      exact T0.2.2.2.2.2.2.2.2.2.2.2.2.2 (0 + j) (by omega) (by omega))
    have k14 : m_g g1 127 14 = m_g h3 127 14 + 1 := N1.2.2.1.1
    have T1 := n_st S1 (i := s) (by omega)
    rw [q3] at T1
    have A2' := A2
    rw [T1.2.2.2.2.2.1, T1.2.2.2.2.2.2.1, T1.2.2.2.2.2.2.2.1] at A2'
    have k131 : m_g g1 131 s = m_g h3 131 s := N1.2.1 131 s (by omega) (by omega) (by omega) (by omega)
    have k130 : m_g g1 130 s = m_g h3 130 s := N1.2.1 130 s (by omega) (by omega) (by omega) (by omega)
    have ew : p + m_g h3 127 17 = p + m_g h 2 4 := by omega
    have en : m_g h3 131 s - p - m_g h3 127 17 = m_g h 131 s - (p + m_g h 2 4) := by omega
    rw [ew, en] at N2
    have S2 := n_add_R A1.1 S1 G1 A2' N2 (fun j j1 j2 => by
      show n_rg h1 (m_g h1 (m_g h 3 s) 3) (p + m_g h 2 4 + j) = m_g h3 128 (m_g h3 130 s + (p + m_g h 2 4 + j))
      have := T1.2.2.2.2.2.2.2.2.2.2.2.2.2 (p + m_g h 2 4 + j) (by omega) (by omega)
      rw [this, k130]
      exact N1.2.1 128 _ (by have := (G0.2.1 s (by omega) (by omega)); unfold n_strB at this; omega) (by omega) (by omega) (by omega))
    have k142 : m_g g2 127 14 = m_g g1 127 14 + 1 := N2.2.2.1.1
    have SU := RU g2 S2 (by omega)
    have GU := n_use_gs (st := 1) (s := s) G2 (by omega) (by omega) (by omega)
    have KR := n_kr_trans (n_kr_trans (n_newR_kr N1) (n_newR_kr N2)) (n_us_kr g2 s 1)
    refine ⟨m_g h 2 1, h3, m_g h3 127 14, n_us g2 s 1, ?_, ec, by rw [e14, N.1], n_fin2 X KP KR hA (fun b hb => by simp at hb; omega) (fun q hq => by simp at hq; omega) I3 Bu GU SU (by omega) (by omega)⟩
    have er := n_hasRoom (a := 2) (b := p + (m_g h 131 s - (p + m_g h 2 4))) I (by omega) (by omega) (by omega) (by omega) (by omega) (by omega) (by omega) (by omega)
    rw [decide_eq_true (by omega)] at er
    have u1 : m_t h1 2 = 7 := n_t2 A1.1.2
    have u2 : m_t h2 2 = 7 := n_t2 A2.1.2
    unfold t7_cutAt
    rw [if_pos t2, n_there_y I x3 gs hs c1.2.2, n_bs]
    show (if m_g h 3 s = 0 then _ else if m_w p < 1 then _ else if m_t h (m_g h 3 s) = 8 then if m_t h (m_g h (m_g h 3 s) 3) = 5 then t5_size (m_g h (m_g h 3 s) 3) h >>= _ else none else none) >>= _ = _
    rw [if_neg (by omega), m_w_of p1 p2, if_neg (by omega), if_pos a1, if_pos a3, n_size a3, n_bs]
    show (if p < m_w (m_g h (m_g h (m_g h 3 s) 3) 1) then if m_t h 2 = 7 then some (p + m_g h 2 4) >>= fun x12 => if m_t h (m_g h 3 s) = 8 then if m_t h (m_g h (m_g h 3 s) 3) = 5 then t5_size (m_g h (m_g h 3 s) 3) h >>= _ else none else none else none else _) >>= _ = _
    rw [a16, m_w_of (by omega) (by omega), if_pos (by omega), if_pos t2, n_bs, if_pos a1, if_pos a3, n_size a3, n_bs]
    show (some (m_g h (m_g h (m_g h 3 s) 3) 1 - (p + m_g h 2 4)) >>= fun x17 => if m_w x17 < 1 then some (-1, h) else if m_t h 2 = 7 then t7_hasRoom 2 2 (p + x17) h >>= _ else none) >>= _ = _
    rw [n_bs, a16, m_w_of (by omega) (by omega), if_neg (by omega), if_pos t2, er, n_bs]
    show (if true = true then if m_t h 2 = 7 then t7_addPart 2 (m_g h 3 s) 0 p h >>= _ else none else _) >>= _ = _
    rw [if_pos rfl, if_pos t2, e1, n_bs]
    show (if m_t h1 2 = 7 then t7_addPart 2 (m_g h 3 s) (p + m_g h 2 4) (m_g h 131 s - (p + m_g h 2 4)) h1 >>= _ else none) >>= _ = _
    rw [if_pos u1, e2, n_bs]
    show (if m_t h2 2 = 7 then t7_takeAway 2 (m_g h 3 s) 1 h2 >>= _ else none) >>= _ = _
    rw [if_pos u2, tk, n_bs, n_bs]
  · refine ⟨-1, h, -1, h, ?_, n_cutR_n I gs i1 i2 p1 p2 c, rfl, n_R_more X⟩
    rw [n_cutC_n I x3 gs i1 i2 p1 p2 c, n_bs]
