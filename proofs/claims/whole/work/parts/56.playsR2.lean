/-! CALLS: copy, speed: the reference, whole -/
theorem n_playsR {g : m_H} {s t kd p q l n : Int} (I : n_I g) (G : n_gs g) (c : 0 ≤ s ∧ s < m_g g 127 14 ∧ m_g g 133 s = 0 ∧ m_g g 132 s ≠ 3) (ct : 0 ≤ t ∧ t < m_g g 127 23) (w1 : m_g g 136 s < 1000) (p1 : 1 ≤ p) (p2 : p ≤ 1100) (q1 : 1 ≤ q) (q2 : q ≤ 1000) (l1 : 0 ≤ l) (l2 : l ≤ 128) (en : n = Int.tdiv ((m_g g 131 s - 1) * q) p + 1) (r0 : n ≤ 300) (r1 : m_g g 127 14 + 1 ≤ 100) (r2 : m_g g 127 15 + n ≤ 20000) : ∃ g1, t11_plays 127 s t kd p q l g = some (m_g g 127 14, m_p g1 136 s (n_top (m_g g 136 s + m_g g 145 t))) ∧ n_newR g g1 kd s (-1) 0 (m_g g 134 s + 1) (n_top (m_g g 135 s + m_g g 144 t)) 0 n (n_pl g s p q l) := by
  have B := G.1
  unfold n_shB at B
  have b := G.2.1 s c.1 c.2.1
  unfold n_strB at b
  have bt := G.2.2.1 t ct.1 ct.2
  unfold n_macB at bt
  obtain ⟨ga, ea, NA⟩ := n_comes (kd := kd) (one := s) (oth := -1) (bg := 0) I B.1 (by omega) (by omega) (by omega) (n_pl g s p q l)
  rw [if_neg (by omega), if_neg (by omega), if_neg (by omega)] at NA
  have NB := n_newR_p (b := 134) (v := m_g g 134 s + 1) NA (by decide)
  have q134 : m_g ga 134 (m_g g 127 14) = m_g g 134 s := NA.2.2.2.1.2.2.2.2.1
  simp only [Int.reduceEq, ↓reduceIte] at NB
  obtain ⟨gb, hgb⟩ : ∃ x, x = m_p ga 134 (m_g g 127 14) (m_g g 134 s + 1) := ⟨_, rfl⟩
  rw [← hgb] at NB
  have NC := n_newR_p (b := 135) (v := n_top (m_g g 135 s + m_g g 144 t)) NB (by decide)
  simp only [Int.reduceEq, ↓reduceIte] at NC
  have q135 : m_g gb 135 (m_g g 127 14) = m_g g 135 s := NB.2.2.2.1.2.2.2.2.2.1
  have q144 : m_g gb 144 t = m_g g 144 t := NB.2.1 144 t (by omega) (by omega) (by omega) (by omega)
  obtain ⟨gc, hgc⟩ : ∃ x, x = m_p gb 135 (m_g g 127 14) (n_top (m_g g 135 s + m_g g 144 t)) := ⟨_, rfl⟩
  rw [← hgc] at NC
  have ND := n_newR_p (b := 136) (v := 0) NC (by decide)
  simp only [Int.reduceEq, ↓reduceIte] at ND
  obtain ⟨gd, hgd⟩ : ∃ x, x = m_p gc 136 (m_g g 127 14) 0 := ⟨_, rfl⟩
  rw [← hgd] at ND
  obtain ⟨g1, ef, N1⟩ := n_plays2 I G ⟨c.1, c.2.1⟩ ct p1 p2 q1 q2 l1 l2 en r0 r1 r2 ND
  refine ⟨g1, ?_, N1⟩
  have Ia := n_newR_I I NA
  have Ib := n_newR_I I NB
  have Ic := n_newR_I I NC
  have b0 := n_mulp (a := m_g g 131 s - 1) (b := q) (A := 300) (B := 1000) (by omega) (by omega) (by omega) q2
  have b1 := n_td b0.1 p1
  have k132 : ∀ v, v = n_top (m_g g 135 s + m_g g 144 t) → t11_plays_c132 127 s t p q l n (m_g g 127 14) 135 (m_g g 127 14) v gb = some (m_g g 127 14, m_p g1 136 s (n_top (m_g g 136 s + m_g g 145 t))) := fun v hv => by
    have l7 := n_l135 Ib.2
    have l8 := n_l136 Ic.2
    subst hv
    unfold t11_plays_c132
    rw [m_w_of (x := m_g g 127 14) (by omega) (by omega), if_pos ⟨n_t135 Ib.2, by omega, by omega⟩, ← hgc, n_bs]
    show (if m_t gc 127 = 11 then if m_t gc (m_g gc 127 8) = 20 ∧ 0 ≤ m_g g 127 14 ∧ m_g g 127 14 < m_l gc (m_g gc 127 8) then some (m_p gc (m_g gc 127 8) (m_g g 127 14) 0) >>= _ else none else none) = _
    rw [if_pos (n_t127 Ic.2), n_p127_8 Ic.2, if_pos ⟨n_t136 Ic.2, by omega, by omega⟩, ← hgd, n_bs]
    exact ef
  have eT := n_isPlain I G (i := s) (by omega) (by omega)
  rw [decide_eq_true c] at eT
  have eM := n_isMachine (i := t) I B.2.2.2.2.2.2.2.2.1 B.2.2.2.2.2.2.2.2.2.1 (by omega) (by omega)
  rw [decide_eq_true ct] at eM
  have er := n_isRoom (a := 1) (b := n) I G (by omega) (by omega) (by omega) (by omega)
  rw [decide_eq_true ⟨r1, r2⟩] at er
  have eL := n_longAt (g := g) (n := m_g g 131 s) (p := p) (q := q) (by omega) (by omega) p1 p2 q1 q2
  rw [← en] at eL
  have l3 := n_l131 I.2
  have l8 := n_l136 I.2
  have l6 := n_l134 Ia.2
  have l7 := n_l135 Ib.2
  have l21 := n_l144 Ib.2
  unfold t11_plays
  rw [if_pos (n_t127 I.2), eT, n_bs]
  show (if true = true then if m_t g 127 = 11 then t11_isMachine 127 t g >>= _ else none else _) = _
  rw [if_pos rfl, if_pos (n_t127 I.2), eM, n_bs]
  show (if true = true then if m_t g 127 = 11 then if m_t g (m_g g 127 8) = 20 ∧ 0 ≤ m_w s ∧ m_w s < m_l g (m_g g 127 8) then if m_w (m_g g (m_g g 127 8) (m_w s)) < 1000 then if m_t g (m_g g 127 3) = 20 ∧ 0 ≤ m_w s ∧ m_w s < m_l g (m_g g 127 3) then t11_longAt (m_g g (m_g g 127 3) (m_w s)) p q g >>= _ else none else _ else none else none else _) = _
  rw [if_pos rfl, if_pos (n_t127 I.2), n_p127_8 I.2, m_w_of (x := s) (by omega) (by omega), if_pos ⟨n_t136 I.2, by omega, by omega⟩, m_w_of (x := m_g g 136 s) (by omega) (by omega), if_pos w1, n_p127_3 I.2, if_pos ⟨n_t131 I.2, by omega, by omega⟩, eL, n_bs]
  show (if 300 < m_w n then _ else if m_t g 127 = 11 then t11_isRoom 127 1 n g >>= _ else none) = _
  rw [m_w_of (x := n) (by omega) (by omega), if_neg (by omega), if_pos (n_t127 I.2), er, n_bs]
  show (if true = true then if m_t g 127 = 11 then t11_comes 127 kd s (-1) 0 g >>= _ else none else _) = _
  rw [if_pos rfl, if_pos (n_t127 I.2), ea, n_bs]
  show (if m_t ga 127 = 11 then if m_t ga (m_g ga 127 6) = 20 ∧ 0 ≤ m_w (m_g g 127 14) ∧ m_w (m_g g 127 14) < m_l ga (m_g ga 127 6) then some (m_p ga (m_g ga 127 6) (m_w (m_g g 127 14)) (m_g ga (m_g ga 127 6) (m_w (m_g g 127 14)) + 1)) >>= _ else none else none) = _
  rw [if_pos (n_t127 Ia.2), n_p127_6 Ia.2, m_w_of (x := m_g g 127 14) (by omega) (by omega), if_pos ⟨n_t134 Ia.2, by omega, by omega⟩, q134, ← hgb, n_bs]
  show (if m_t gb 127 = 11 then if m_t gb (m_g gb 127 7) = 20 ∧ 0 ≤ m_g g 127 14 ∧ m_g g 127 14 < m_l gb (m_g gb 127 7) then if m_t gb (m_g gb 127 21) = 20 ∧ 0 ≤ m_w t ∧ m_w t < m_l gb (m_g gb 127 21) then if 1000 < m_w (m_g gb (m_g gb 127 7) (m_g g 127 14) + m_g gb (m_g gb 127 21) (m_w t)) then t11_plays_c132 127 s t p q l n (m_g g 127 14) (m_g gb 127 7) (m_g g 127 14) 1000 gb else t11_plays_c132 127 s t p q l n (m_g g 127 14) (m_g gb 127 7) (m_g g 127 14) (m_g gb (m_g gb 127 7) (m_g g 127 14) + m_g gb (m_g gb 127 21) (m_w t)) gb else none else none else none) = _
  rw [if_pos (n_t127 Ib.2), n_p127_7 Ib.2, n_p127_21 Ib.2, m_w_of (x := t) (by omega) (by omega), if_pos ⟨n_t135 Ib.2, by omega, by omega⟩, if_pos ⟨n_t144 Ib.2, by omega, by omega⟩, q135, q144, m_w_of (x := m_g g 135 s + m_g g 144 t) (by omega) (by omega)]
  by_cases cw : 1000 < m_g g 135 s + m_g g 144 t
  · rw [if_pos cw, k132 _ (by unfold n_top; rw [if_pos cw])]
  · rw [if_neg cw, k132 _ (by unfold n_top; rw [if_neg cw])]
theorem n_playsR_n {g : m_H} {s t kd p q l : Int} (I : n_I g) (G : n_gs g) (i1 : -2147483648 ≤ s) (i2 : s < 2147483648) (j1 : -2147483648 ≤ t) (j2 : t < 2147483648) (p1 : 1 ≤ p) (p2 : p ≤ 1100) (q1 : 1 ≤ q) (q2 : q ≤ 1000) (c : ¬ ((0 ≤ s ∧ s < m_g g 127 14 ∧ m_g g 133 s = 0 ∧ m_g g 132 s ≠ 3) ∧ (0 ≤ t ∧ t < m_g g 127 23) ∧ m_g g 136 s < 1000 ∧ Int.tdiv ((m_g g 131 s - 1) * q) p + 1 ≤ 300 ∧ m_g g 127 14 + 1 ≤ 100 ∧ m_g g 127 15 + (Int.tdiv ((m_g g 131 s - 1) * q) p + 1) ≤ 20000)) : t11_plays 127 s t kd p q l g = some (-1, g) := by
  have B := G.1
  unfold n_shB at B
  unfold t11_plays
  rw [if_pos (n_t127 I.2), n_isPlain I G i1 i2, n_bs]
  by_cases c1 : 0 ≤ s ∧ s < m_g g 127 14 ∧ m_g g 133 s = 0 ∧ m_g g 132 s ≠ 3
  · have b := G.2.1 s c1.1 c1.2.1
    unfold n_strB at b
    rw [decide_eq_true c1]
    show (if true = true then if m_t g 127 = 11 then t11_isMachine 127 t g >>= _ else none else _) = _
    rw [if_pos rfl, if_pos (n_t127 I.2), n_isMachine (i := t) I B.2.2.2.2.2.2.2.2.1 B.2.2.2.2.2.2.2.2.2.1 j1 j2, n_bs]
    by_cases c2 : 0 ≤ t ∧ t < m_g g 127 23
    · rw [decide_eq_true c2]
      have l3 := n_l131 I.2
      have l8 := n_l136 I.2
      show (if true = true then if m_t g 127 = 11 then if m_t g (m_g g 127 8) = 20 ∧ 0 ≤ m_w s ∧ m_w s < m_l g (m_g g 127 8) then if m_w (m_g g (m_g g 127 8) (m_w s)) < 1000 then if m_t g (m_g g 127 3) = 20 ∧ 0 ≤ m_w s ∧ m_w s < m_l g (m_g g 127 3) then t11_longAt (m_g g (m_g g 127 3) (m_w s)) p q g >>= _ else none else _ else none else none else _) = _
      rw [if_pos rfl, if_pos (n_t127 I.2), n_p127_8 I.2, m_w_of (x := s) (by omega) (by omega), if_pos ⟨n_t136 I.2, by omega, by omega⟩, m_w_of (x := m_g g 136 s) (by omega) (by omega)]
      by_cases c3 : m_g g 136 s < 1000
      · have b0 := n_mulp (a := m_g g 131 s - 1) (b := q) (A := 300) (B := 1000) (by omega) (by omega) (by omega) q2
        have b1 := n_td b0.1 p1
        have eL := n_longAt (g := g) (n := m_g g 131 s) (p := p) (q := q) (by omega) (by omega) p1 p2 q1 q2
        rw [if_pos c3, n_p127_3 I.2, if_pos ⟨n_t131 I.2, by omega, by omega⟩, eL, n_bs]
        have n1 : 1 ≤ Int.tdiv ((m_g g 131 s - 1) * q) p + 1 ∧ Int.tdiv ((m_g g 131 s - 1) * q) p + 1 ≤ 300001 := by omega
        generalize Int.tdiv ((m_g g 131 s - 1) * q) p + 1 = n at *
        show (if 300 < m_w n then some (-1, g) else if m_t g 127 = 11 then t11_isRoom 127 1 n g >>= _ else none) = _
        rw [m_w_of (x := n) (by omega) (by omega)]
        by_cases c4 : 300 < n
        · rw [if_pos c4]
        · have er := n_isRoom (a := 1) (b := n) I G (by omega) (by omega) (by omega) (by omega)
          rw [decide_eq_false (by omega)] at er
          rw [if_neg c4, if_pos (n_t127 I.2), er, n_bs]
          rfl
      · rw [if_neg c3]
    · rw [decide_eq_false c2]
      rfl
  · rw [decide_eq_false c1]
    rfl
