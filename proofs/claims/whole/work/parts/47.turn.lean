/-! CALLS: turn, loop -/
/-- one strip has come of another one, which is used -/
theorem n_fin3 {h h1 g1 : m_H} {k s kd n : Int} {f f' : Int → Int} (X : n_R h k) (hs : 0 ≤ s ∧ s < m_g h 127 14) (A1 : n_new h h1 kd s (-1) 0 (m_g h (m_g h 3 s) 5) (m_g h (m_g h 3 s) 6) (m_g h (m_g h 3 s) 7) n f) (h3 : m_H) (e3 : h3 = n_tk h1 (m_g h 3 s) 1) (N1 : n_newR h3 g1 kd s (-1) 0 (m_g h3 134 s) (m_g h3 135 s) (m_g h3 136 s) n f') (hf : ∀ j, 0 ≤ j → j < n → f j = f' j) (hv : ∀ j, 0 ≤ j → j < n → -32768 ≤ f' j ∧ f' j ≤ 32767)
    (c1 : m_g h 127 14 + 1 ≤ 100) (c2 : m_g h 127 15 + n ≤ 20000) (n1 : 1 ≤ n) (n2 : n ≤ 300) (kd1 : 0 ≤ kd ∧ kd ≤ 6) : n_R (n_us g1 s 1) (k + 1) := by
  have X' := X
  obtain ⟨I, gs, bud, x1, x2, x3, x4, x5, x6, x7⟩ := X'
  have N := x3.1
  unfold n_shN at N
  have F := n_st_F x3 gs hs
  obtain ⟨F1, O1, Or1, Ol1, lq, lr⟩ := n_stF_new I F A1
  have ST := n_st x3 hs
  have I3 := n_tk_I (st := 1) A1.1 F1.1.1 F1.1.2.1
  have K3 := n_tk_kp (st := 1) A1.1 F1.1.1
  have KP : n_kp h (n_tk h1 (m_g h 3 s) 1) [2, 3, m_g h 3 s, 2] [] := n_kp_trans A1.2.1 K3 I.1 n_no
  have hA : ∀ b ∈ [2, 3, m_g h 3 s, 2], b = 2 ∨ b = 3 ∨ ∃ i, 0 ≤ i ∧ i < m_g h 127 14 ∧ b = m_g h 3 i := fun b hb => by
    simp at hb
    rcases hb with e | e | e | e
    · exact Or.inl e
    · exact Or.inr (Or.inl e)
    · exact Or.inr (Or.inr ⟨s, hs.1, hs.2, e⟩)
    · exact Or.inl e
  have hA2 : ∀ b ∈ [2, 3, m_g h 3 s, 2], b < 127 ∨ 312 ≤ b := fun b hb => by
    have := ST.1.2.1
    simp at hb
    omega
  have ref := fun b j (b1 : 127 ≤ b) (b2 : b < 312) => n_kp_ref I KP hA2 n_no b1 b2 j
  have S0 := n_Rsh_g (g' := n_tk h1 (m_g h 3 s) 1) x3 (fun b j => ref b j)
  have G0 := n_gs_g (g' := n_tk h1 (m_g h 3 s) 1) gs (fun b j => ref b j)
  have e14 := ref 127 14 (by omega) (by omega)
  have e15 := ref 127 15 (by omega) (by omega)
  have e3d : m_g (n_tk h1 (m_g h 3 s) 1) 2 11 = m_g h1 2 11 + 1 := by unfold n_tk; rw [n_gp_y ⟨rfl, rfl⟩]
  have d11 : m_g h1 2 11 = m_g h 2 11 + 1 := by rw [A1.2.2.2.2.2.2.1]; rfl
  have q3 : m_g h1 3 s = m_g h 3 s := by rw [A1.2.2.2.2.2.2.2, if_neg (by omega)]
  have Bu : n_bud (n_tk h1 (m_g h 3 s) 1) (k + 1) := by
    have b1 := n_new_phi I A1
    have m1 := A1.2.2.1
    have : n_bud h1 (k + 1) := by unfold n_bud at *; omega
    exact n_bud_same A1.1 rfl (fun r hr => by
      have t2' := n_t2 A1.1.2
      unfold n_tk
      rw [n_gp_n (fun q => by rw [q.1] at hr; omega), n_gp_n (fun q => by rw [q.1] at hr; have := F1.1.1; omega), n_gp_n (fun q => by rw [q.1] at hr; have := F1.1.1; omega)]) this
  have RU := fun (g : m_H) (S : n_Rsh h1 g) (hc : 0 ≤ s ∧ s < m_g g 127 14) => n_use_R (st := 1) A1.1 S hc
  rw [q3] at RU
  rw [← e3] at *
  have T0 := n_st S0 (i := s) (by omega)
  have A1' := A1
  rw [T0.2.2.2.2.2.1, T0.2.2.2.2.2.2.1, T0.2.2.2.2.2.2.2.1] at A1'
  have S1 := n_add_R I S0 G0 A1' N1 hf
  have k14 : m_g g1 127 14 = m_g h3 127 14 + 1 := N1.2.2.1.1
  have b := G0.2.1 s hs.1 (by omega)
  unfold n_strB at b
  have G1 := n_add_gs G0 N1 (by omega) (by omega) n1 n2 kd1 (by omega) (by omega) (by omega) (by omega) (by omega) (by omega) hv
  exact n_fin2 X KP (n_kr_trans (n_newR_kr N1) (n_us_kr g1 s 1)) hA (fun b hb => by simp at hb; omega) (fun q hq => by simp at hq; omega) I3 Bu (n_use_gs G1 (by omega) (by omega) (by omega)) (RU g1 S1 (by omega)) (by omega) (by omega)
theorem n_plainR_n {g : m_H} {s : Int} (I : n_I g) (G : n_gs g) (i1 : -2147483648 ≤ s) (i2 : s < 2147483648) (kd : Int) (c : ¬ ((0 ≤ s ∧ s < m_g g 127 14 ∧ m_g g 133 s = 0 ∧ m_g g 132 s ≠ 3) ∧ m_g g 127 14 + 1 ≤ 100 ∧ m_g g 127 15 + m_g g 131 s ≤ 20000)) : t11_turn 127 s g = some (-1, g) ∧ t11_loop 127 s g = some (-1, g) := by
  have B := G.1
  unfold n_shB at B
  have eT := n_isPlain I G i1 i2
  unfold t11_turn t11_loop
  rw [if_pos (n_t127 I.2), if_pos (n_t127 I.2), eT, n_bs, n_bs]
  by_cases c1 : 0 ≤ s ∧ s < m_g g 127 14 ∧ m_g g 133 s = 0 ∧ m_g g 132 s ≠ 3
  · have b := G.2.1 s c1.1 c1.2.1
    unfold n_strB at b
    have l3 := n_l131 I.2
    have er := n_isRoom (a := 1) (b := m_g g 131 s) I G (by omega) (by omega) (by omega) (by omega)
    rw [decide_eq_false (by omega)] at er
    rw [decide_eq_true c1]
    constructor
    · show (if true = true then if m_t g 127 = 11 then if m_t g (m_g g 127 3) = 20 ∧ 0 ≤ m_w s ∧ m_w s < m_l g (m_g g 127 3) then t11_isRoom 127 1 (m_g g (m_g g 127 3) (m_w s)) g >>= _ else none else none else _) = _
      rw [if_pos rfl, if_pos (n_t127 I.2), n_p127_3 I.2, m_w_of (x := s) (by omega) (by omega), if_pos ⟨n_t131 I.2, by omega, by omega⟩, er, n_bs]
      rfl
    · show (if true = true then if m_t g 127 = 11 then if m_t g (m_g g 127 3) = 20 ∧ 0 ≤ m_w s ∧ m_w s < m_l g (m_g g 127 3) then t11_isRoom 127 1 (m_g g (m_g g 127 3) (m_w s)) g >>= _ else none else none else _) = _
      rw [if_pos rfl, if_pos (n_t127 I.2), n_p127_3 I.2, m_w_of (x := s) (by omega) (by omega), if_pos ⟨n_t131 I.2, by omega, by omega⟩, er, n_bs]
      rfl
  · rw [decide_eq_false c1]
    exact ⟨rfl, rfl⟩
theorem n_turnR {g : m_H} {s : Int} (I : n_I g) (G : n_gs g) (c : 0 ≤ s ∧ s < m_g g 127 14 ∧ m_g g 133 s = 0 ∧ m_g g 132 s ≠ 3) (r1 : m_g g 127 14 + 1 ≤ 100) (r2 : m_g g 127 15 + m_g g 131 s ≤ 20000) : ∃ g1, t11_turn 127 s g = some (m_g g 127 14, n_us g1 s 1) ∧ n_newR g g1 2 s (-1) 0 (m_g g 134 s) (m_g g 135 s) (m_g g 136 s) (m_g g 131 s) (fun j => m_g g 128 (m_g g 130 s + (m_g g 131 s - 1 - j))) ∧ n_gs g1 := by
  have B := G.1
  unfold n_shB at B
  have b := G.2.1 s c.1 c.2.1
  unfold n_strB at b
  obtain ⟨ga, ea, NA⟩ := n_comes (kd := 2) (one := s) (oth := -1) (bg := 0) I B.1 (by omega) (by omega) (by omega) (fun j => m_g g 128 (m_g g 130 s + (m_g g 131 s - 1 - j)))
  rw [if_neg (by omega), if_neg (by omega), if_neg (by omega)] at NA
  obtain ⟨g1, eb, N1⟩ := n_itR (fun i g' => t11_turn_c42 127 s (m_g g 127 14) (m_g g 131 s - 1 - i) g') (fun i g' => n_newR g g' 2 s (-1) 0 (m_g g 134 s) (m_g g 135 s) (m_g g 136 s) i (fun j => m_g g 128 (m_g g 130 s + (m_g g 131 s - 1 - j)))) 0 (m_g g 131 s) (by omega) (fun i g' i1 i2 N => by
    have J := n_newR_I I N
    have e3 := n_at3 (s := s) (x := m_g g 131 s - 1 - i) I G N ⟨c.1, c.2.1⟩ (by omega) (by omega)
    obtain ⟨g2, e2, N2⟩ := n_adds (v := m_g g 128 (m_g g 130 s + (m_g g 131 s - 1 - i))) I N B.1 (by omega) i1 (by omega) B.2.2.1 (by omega) rfl
    refine ⟨g2, ?_, N2⟩
    show t11_turn_c42 127 s (m_g g 127 14) (m_g g 131 s - 1 - i) g' = t11_turn_c42 127 s (m_g g 127 14) (m_g g 131 s - 1 - (i + 1)) g2
    rw [t11_turn_c42, m_w_of (by omega) (by omega), if_neg (by omega), if_pos (n_t127 J.2), e3, n_bs]
    show (if m_t g' 127 = 11 then t11_adds 127 (m_g g 127 14) (m_g g 128 (m_g g 130 s + (m_g g 131 s - 1 - i))) g' >>= _ else none) = _
    rw [if_pos (n_t127 J.2), e2, n_bs, show m_g g 131 s - 1 - (i + 1) = m_g g 131 s - 1 - i + (-1) by omega]) ga NA
  have I1 := n_newR_I I N1
  have Ia := n_newR_I I NA
  have G1 := n_add_gs G N1 (by omega) (by omega) (by omega) (by omega) (by omega) (by omega) (by omega) (by omega) (by omega) (by omega) (by omega) (fun j j1 j2 => G.2.2.2.1 _ (by omega) (by omega))
  refine ⟨g1, ?_, N1, G1⟩
  have eT := n_isPlain I G (i := s) (by omega) (by omega)
  rw [decide_eq_true c] at eT
  have er := n_isRoom (a := 1) (b := m_g g 131 s) I G (by omega) (by omega) (by omega) (by omega)
  rw [decide_eq_true ⟨r1, r2⟩] at er
  have l3 := n_l131 I.2
  have l4 := n_l131 Ia.2
  have k131 : m_g ga 131 s = m_g g 131 s := NA.2.1 131 s (by omega) (by omega) (by omega) (by omega)
  have k14 : m_g g1 127 14 = m_g g 127 14 + 1 := N1.2.2.1.1
  unfold t11_turn
  rw [if_pos (n_t127 I.2), eT, n_bs]
  show (if true = true then if m_t g 127 = 11 then if m_t g (m_g g 127 3) = 20 ∧ 0 ≤ m_w s ∧ m_w s < m_l g (m_g g 127 3) then t11_isRoom 127 1 (m_g g (m_g g 127 3) (m_w s)) g >>= _ else none else none else _) = _
  rw [if_pos rfl, if_pos (n_t127 I.2), n_p127_3 I.2, m_w_of (x := s) (by omega) (by omega), if_pos ⟨n_t131 I.2, by omega, by omega⟩, er, n_bs]
  show (if true = true then if m_t g 127 = 11 then t11_comes 127 2 s (-1) 0 g >>= _ else none else _) = _
  rw [if_pos rfl, if_pos (n_t127 I.2), ea, n_bs]
  show (if m_t ga 127 = 11 then if m_t ga (m_g ga 127 3) = 20 ∧ 0 ≤ s ∧ s < m_l ga (m_g ga 127 3) then some (m_g ga (m_g ga 127 3) s - 1) >>= _ else none else none) = _
  rw [if_pos (n_t127 Ia.2), n_p127_3 Ia.2, if_pos ⟨n_t131 Ia.2, by omega, by omega⟩, k131, n_bs]
  have eb' : t11_turn_c42 127 s (m_g g 127 14) (m_g g 131 s - 1) ga = t11_turn_c42 127 s (m_g g 127 14) (m_g g 131 s - 1 - m_g g 131 s) g1 := by
    have := eb
    simp only [Int.sub_zero] at this
    exact this
  refine eb'.trans ?_
  rw [t11_turn_c42, m_w_of (by omega) (by omega), if_pos (by omega), if_pos (n_t127 I1.2), n_uses (st := 1) I1 G1 (by omega), n_bs]
theorem n_loopR {g : m_H} {s : Int} (I : n_I g) (G : n_gs g) (c : 0 ≤ s ∧ s < m_g g 127 14 ∧ m_g g 133 s = 0 ∧ m_g g 132 s ≠ 3) (r1 : m_g g 127 14 + 1 ≤ 100) (r2 : m_g g 127 15 + m_g g 131 s ≤ 20000) : ∃ g1, t11_loop 127 s g = some (m_g g 127 14, n_us g1 s 1) ∧ n_newR g g1 3 s (-1) 0 (m_g g 134 s) (m_g g 135 s) (m_g g 136 s) (m_g g 131 s) (fun j => m_g g 128 (m_g g 130 s + j)) ∧ n_gs g1 := by
  have B := G.1
  unfold n_shB at B
  have b := G.2.1 s c.1 c.2.1
  unfold n_strB at b
  obtain ⟨ga, ea, NA⟩ := n_comes (kd := 3) (one := s) (oth := -1) (bg := 0) I B.1 (by omega) (by omega) (by omega) (fun j => m_g g 128 (m_g g 130 s + j))
  rw [if_neg (by omega), if_neg (by omega), if_neg (by omega)] at NA
  obtain ⟨g1, eb, N1⟩ := n_itR (fun i g' => t11_loop_c35 127 s (m_g g 127 14) i g') (fun i g' => n_newR g g' 3 s (-1) 0 (m_g g 134 s) (m_g g 135 s) (m_g g 136 s) i (fun j => m_g g 128 (m_g g 130 s + j))) 0 (m_g g 131 s) (by omega) (fun i g' i1 i2 N => by
    have J := n_newR_I I N
    have e3 := n_at3 (s := s) (x := i) I G N ⟨c.1, c.2.1⟩ (by omega) (by omega)
    obtain ⟨g2, e2, N2⟩ := n_adds (v := m_g g 128 (m_g g 130 s + i)) I N B.1 (by omega) i1 (by omega) B.2.2.1 (by omega) rfl
    refine ⟨g2, ?_, N2⟩
    have q131 : m_g g' 131 s = m_g g 131 s := N.2.1 131 s (by omega) (by omega) (by omega) (by omega)
    have l3 := n_l131 J.2
    show t11_loop_c35 127 s (m_g g 127 14) i g' = t11_loop_c35 127 s (m_g g 127 14) (i + 1) g2
    rw [t11_loop_c35, if_pos (n_t127 J.2), n_p127_3 J.2, m_w_of (x := s) (by omega) (by omega), if_pos ⟨n_t131 J.2, by omega, by omega⟩, q131, m_w_of (by omega) (by omega), m_w_of (by omega) (by omega), if_pos i2, e3, n_bs]
    show (if m_t g' 127 = 11 then t11_adds 127 (m_g g 127 14) (m_g g 128 (m_g g 130 s + i)) g' >>= _ else none) = _
    rw [if_pos (n_t127 J.2), e2, n_bs]) ga NA
  have I1 := n_newR_I I N1
  have G1 := n_add_gs G N1 (by omega) (by omega) (by omega) (by omega) (by omega) (by omega) (by omega) (by omega) (by omega) (by omega) (by omega) (fun j j1 j2 => G.2.2.2.1 _ (by omega) (by omega))
  refine ⟨g1, ?_, N1, G1⟩
  have eT := n_isPlain I G (i := s) (by omega) (by omega)
  rw [decide_eq_true c] at eT
  have er := n_isRoom (a := 1) (b := m_g g 131 s) I G (by omega) (by omega) (by omega) (by omega)
  rw [decide_eq_true ⟨r1, r2⟩] at er
  have l3 := n_l131 I.2
  have l4 := n_l131 I1.2
  have k14 : m_g g1 127 14 = m_g g 127 14 + 1 := N1.2.2.1.1
  have q131 : m_g g1 131 s = m_g g 131 s := N1.2.1 131 s (by omega) (by omega) (by omega) (by omega)
  unfold t11_loop
  rw [if_pos (n_t127 I.2), eT, n_bs]
  show (if true = true then if m_t g 127 = 11 then if m_t g (m_g g 127 3) = 20 ∧ 0 ≤ m_w s ∧ m_w s < m_l g (m_g g 127 3) then t11_isRoom 127 1 (m_g g (m_g g 127 3) (m_w s)) g >>= _ else none else none else _) = _
  rw [if_pos rfl, if_pos (n_t127 I.2), n_p127_3 I.2, m_w_of (x := s) (by omega) (by omega), if_pos ⟨n_t131 I.2, by omega, by omega⟩, er, n_bs]
  show (if true = true then if m_t g 127 = 11 then t11_comes 127 3 s (-1) 0 g >>= _ else none else _) = _
  rw [if_pos rfl, if_pos (n_t127 I.2), ea, n_bs]
  refine eb.trans ?_
  show t11_loop_c35 127 s (m_g g 127 14) (m_g g 131 s) g1 = _
  rw [t11_loop_c35, if_pos (n_t127 I1.2), n_p127_3 I1.2, m_w_of (x := s) (by omega) (by omega), if_pos ⟨n_t131 I1.2, by omega, by omega⟩, q131, if_neg (by omega), n_uses (st := 1) I1 G1 (by omega), n_bs]
theorem n_turnC_n {h g : m_H} {s : Int} (I : n_I h) (S : n_Rsh h g) (G : n_gs g) (i1 : -2147483648 ≤ s) (i2 : s < 2147483648) (c : ¬ ((0 ≤ s ∧ s < m_g g 127 14 ∧ m_g g 133 s = 0 ∧ m_g g 132 s ≠ 3) ∧ m_g g 127 14 + 1 ≤ 100 ∧ m_g g 127 15 + m_g g 131 s ≤ 20000)) : t7_turnedOf 2 s h = some (-1, h) ∧ t7_loopOf 2 s h = some (-1, h) := by
  have B := G.1
  unfold n_shB at B
  have N := S.1
  unfold n_shN at N
  unfold t7_turnedOf t7_loopOf
  by_cases c1 : 0 ≤ s ∧ s < m_g g 127 14 ∧ m_g g 133 s = 0 ∧ m_g g 132 s ≠ 3
  · have b := G.2.1 s c1.1 c1.2.1
    unfold n_strB at b
    obtain ⟨⟨a1, a2, a3, a4⟩, a5, a6, a7, a8, a9, a10, a11, a12, a13, a14, a15, a16, a17⟩ := n_st S ⟨c1.1, c1.2.1⟩
    have er := n_hasRoom (a := 1) (b := m_g g 131 s) I (by omega) (by omega) (by omega) (by omega) (by omega) (by omega) (by omega) (by omega)
    rw [decide_eq_false (by omega)] at er
    have ef := n_freeStrip_y I S G ⟨c1.1, c1.2.1⟩ c1.2.2.1 c1.2.2.2
    constructor
    · rw [if_pos (n_t2 I.2), ef, n_bs]
      show (if m_g h 3 s = 0 then _ else if m_t h (m_g h 3 s) = 8 then if m_t h (m_g h (m_g h 3 s) 3) = 5 then t5_size (m_g h (m_g h 3 s) 3) h >>= _ else none else none) = _
      rw [if_neg (by omega), if_pos a1, if_pos a3, n_size a3, n_bs, a16]
      show (if m_t h 2 = 7 then t7_hasRoom 2 1 (m_g g 131 s) h >>= _ else none) = _
      rw [if_pos (n_t2 I.2), er, n_bs]
      rfl
    · rw [if_pos (n_t2 I.2), ef, n_bs]
      show (if m_g h 3 s = 0 then _ else if m_t h (m_g h 3 s) = 8 then if m_t h (m_g h (m_g h 3 s) 3) = 5 then t5_size (m_g h (m_g h 3 s) 3) h >>= _ else none else none) = _
      rw [if_neg (by omega), if_pos a1, if_pos a3, n_size a3, n_bs, a16]
      show (if m_t h 2 = 7 then t7_hasRoom 2 1 (m_g g 131 s) h >>= _ else none) = _
      rw [if_pos (n_t2 I.2), er, n_bs]
      rfl
  · have ef := n_freeStrip_n I S G i1 i2 c1
    constructor
    · rw [if_pos (n_t2 I.2), ef, n_bs]
      rfl
    · rw [if_pos (n_t2 I.2), ef, n_bs]
      rfl
theorem n_s_turn {h : m_H} {k : Int} (X : n_R h k) (s : Int) (i1 : -2147483648 ≤ s) (i2 : s < 2147483648) : n_step h k (t10_turn 1 s) (t11_turn 127 s) := by
  have X' := X
  obtain ⟨I, gs, bud, x1, x2, x3, x4, x5, x6, x7⟩ := X'
  have B := gs.1
  unfold n_shB at B
  have N := x3.1
  unfold n_shN at N
  have t2 := n_t2 I.2
  unfold n_step t10_turn
  rw [if_pos (n_t1 I.2), n_p1_0 I.2, if_pos t2]
  by_cases c : (0 ≤ s ∧ s < m_g h 127 14 ∧ m_g h 133 s = 0 ∧ m_g h 132 s ≠ 3) ∧ m_g h 127 14 + 1 ≤ 100 ∧ m_g h 127 15 + m_g h 131 s ≤ 20000
  · obtain ⟨c1, c4, c5⟩ := c
    have hs : 0 ≤ s ∧ s < m_g h 127 14 := ⟨c1.1, c1.2.1⟩
    have b := gs.2.1 s hs.1 hs.2
    unfold n_strB at b
    have ST := n_st x3 hs
    obtain ⟨⟨a1, a2, a3, a4⟩, a5, a6, a7, a8, a9, a10, a11, a12, a13, a14, a15, a16, a17⟩ := ST
    have F := n_st_F x3 gs hs
    obtain ⟨h1, f0, e1, A1⟩ := n_beginOf (kd := 2) (n := m_g h 131 s) I F (by omega) (by omega) (by omega) (by omega)
    obtain ⟨F1, O1, Or1, Ol1, lq, lr⟩ := n_stF_new I F A1
    have kr := A1.2.2.2.1.2.1
    have ka := A1.2.2.2.1.1
    have r1 : m_t h1 (m_g h (m_g h 3 s) 3) = 5 := by have := F1.1.2.2.1; rw [O1] at this; exact this
    obtain ⟨h2, e2, B2⟩ := n_fillTurned (v := m_n h + 1) (w := m_g h (m_g h 3 s) 3) A1.1.1 kr r1 (by omega) (by omega) (fun j => by rw [Or1]; exact F.2.2.2.2.2 j)
    rw [Ol1, a16] at B2
    have A2 := n_new_rw I A1 B2
    obtain ⟨F2, O2, Or2, Ol2, -, -⟩ := n_stF_new I F A2
    have I3 := n_tk_I (st := 1) A2.1 F2.1.1 F2.1.2.1
    have K3 := n_tk_kp (st := 1) A2.1 F2.1.1
    have KP : n_kp h (n_tk h2 (m_g h 3 s) 1) [2, 3, m_g h 3 s, 2] [] := n_kp_trans A2.2.1 K3 I.1 n_no
    have ref := fun b j (b1 : 127 ≤ b) (b2 : b < 312) => n_kp_ref I KP (fun b hb => by simp at hb; omega) n_no b1 b2 j
    have G0 := n_gs_g (g' := n_tk h2 (m_g h 3 s) 1) gs (fun b j => ref b j)
    have e14 := ref 127 14 (by omega) (by omega)
    have e15 := ref 127 15 (by omega) (by omega)
    have e131 := ref 131 s (by omega) (by omega)
    have e130 := ref 130 s (by omega) (by omega)
    have e133 := ref 133 s (by omega) (by omega)
    have e132 := ref 132 s (by omega) (by omega)
    have tk := n_takeAway (st := 1) A2.1 F2.1.1 F2.1.2.1
    have gfin := fun g1 f' N1 hf hv => n_fin3 (g1 := g1) (f' := f') X hs A2 (n_tk h2 (m_g h 3 s) 1) rfl N1 hf hv c4 c5 (by omega) (by omega) (by omega)
    have ka3 : m_t (n_tk h2 (m_g h 3 s) 1) (m_n h) = 8 := A2.2.2.2.1.1
    have f03 : m_g (n_tk h2 (m_g h 3 s) 1) (m_n h) 0 = m_g h 2 1 := by
      have hn := I.2.2.2.2
      unfold n_tk
      rw [n_gp_n (by omega), n_gp_n (by omega), n_gp_n (by omega)]
      exact A2.2.2.2.2.1.1
    generalize n_tk h2 (m_g h 3 s) 1 = h3 at *
    obtain ⟨g1, ec, N1, G1⟩ := n_turnR (s := s) I3 G0 (by omega) (by omega) (by omega)
    have R := gfin g1 (fun j => m_g h3 128 (m_g h3 130 s + (m_g h3 131 s - 1 - j))) (by rw [e131] at N1 ⊢; exact N1) (fun j j1 j2 => by
      show n_rg h1 (m_g h (m_g h 3 s) 3) (m_g h 131 s - 1 - j) = m_g h3 128 (m_g h3 130 s + (m_g h3 131 s - 1 - j))
      rw [Or1, a17 _ (by omega) (by omega), e130, e131, ref 128 _ (by omega) (by omega)]) (fun j j1 j2 => by
      have := gs.2.2.2.1 (m_g h 130 s + (m_g h 131 s - 1 - j)) (by omega) (by omega)
      show -32768 ≤ m_g h3 128 (m_g h3 130 s + (m_g h3 131 s - 1 - j)) ∧ m_g h3 128 (m_g h3 130 s + (m_g h3 131 s - 1 - j)) ≤ 32767
      rw [e130, e131, ref 128 _ (by omega) (by omega)]
      exact this)
    refine ⟨m_g h 2 1, h3, m_g h3 127 14, n_us g1 s 1, ?_, ec, by rw [e14, N.1], R⟩
    have er := n_hasRoom (a := 1) (b := m_g h 131 s) I (by omega) (by omega) (by omega) (by omega) (by omega) (by omega) (by omega) (by omega)
    rw [decide_eq_true (by omega)] at er
    have u1 : m_t h1 2 = 7 := n_t2 A1.1.2
    have u2 : m_t h2 2 = 7 := n_t2 A2.1.2
    unfold t7_turnedOf
    rw [if_pos t2, n_freeStrip_y I x3 gs hs c1.2.2.1 c1.2.2.2, n_bs]
    show (if m_g h 3 s = 0 then _ else if m_t h (m_g h 3 s) = 8 then if m_t h (m_g h (m_g h 3 s) 3) = 5 then t5_size (m_g h (m_g h 3 s) 3) h >>= _ else none else none) >>= _ = _
    rw [if_neg (by omega), if_pos a1, if_pos a3, n_size a3, n_bs, a16]
    show (if m_t h 2 = 7 then t7_hasRoom 2 1 (m_g h 131 s) h >>= _ else none) >>= _ = _
    rw [if_pos t2, er, n_bs]
    show (if true = true then if m_t h (m_g h 3 s) = 8 then if m_t h (m_g h (m_g h 3 s) 3) = 5 then t5_size (m_g h (m_g h 3 s) 3) h >>= _ else none else none else _) >>= _ = _
    rw [if_pos rfl, if_pos a1, if_pos a3, n_size a3, n_bs, a16]
    show (if m_t h 2 = 7 then t7_beginOf 2 2 (m_g h 131 s) (m_g h 3 s) h >>= _ else none) >>= _ = _
    rw [if_pos t2, e1, n_bs]
    show (if m_t h1 (m_n h) = 8 then if m_t h1 (m_g h 3 s) = 8 then if m_t h1 (m_g h1 (m_n h) 3) = 5 then t5_fillTurned (m_g h1 (m_n h) 3) (m_g h1 (m_g h 3 s) 3) h1 >>= _ else none else none else none) >>= _ = _
    rw [if_pos ka, if_pos F1.1.1, A1.2.2.2.2.1.2.2.2.1, if_pos kr, O1, e2, n_bs]
    show (if m_t h2 2 = 7 then t7_takeAway 2 (m_g h 3 s) 1 h2 >>= _ else none) >>= _ = _
    rw [if_pos u2, tk, n_bs]
    show (if m_t h3 (m_n h) = 8 then some (m_g h3 (m_n h) 0, h3) else none) >>= _ = _
    rw [if_pos ka3, n_bs, f03]
  · refine ⟨-1, h, -1, h, ?_, (n_plainR_n I gs i1 i2 2 c).1, rfl, n_R_more X⟩
    rw [(n_turnC_n I x3 gs i1 i2 c).1, n_bs]
