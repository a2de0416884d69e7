/-! CALLS: splice: the reference, whole -/
theorem n_ageR {g ga : m_H} {kd one oth bg gen hs wr n b x y : Int} {f : Int → Int} (N : n_newR g ga kd one oth bg gen hs wr n f) (hb : b = 134 ∨ b = 135 ∨ b = 136) (e1 : b = 134 → gen = x) (e2 : b = 135 → hs = x) (e3 : b = 136 → wr = x) : ∃ gb, (∀ C : m_H → Option (Int × m_H), (if x < y then C (m_p ga b (m_g g 127 14) y) else C ga) = C gb) ∧ n_newR g gb kd one oth bg (if b = 134 then max x y else gen) (if b = 135 then max x y else hs) (if b = 136 then max x y else wr) n f := by
  by_cases c : x < y
  · refine ⟨m_p ga b (m_g g 127 14) y, fun C => if_pos c, ?_⟩
    have := n_newR_p (v := y) N hb
    rw [show max x y = y by omega]
    exact this
  · refine ⟨ga, fun C => if_neg c, ?_⟩
    rw [show max x y = x by omega]
    rcases hb with e | e | e
    · subst e; rw [if_pos rfl, if_neg (by decide), if_neg (by decide), ← e1 rfl]; exact N
    · subst e; rw [if_neg (by decide), if_pos rfl, if_neg (by decide), ← e2 rfl]; exact N
    · subst e; rw [if_neg (by decide), if_neg (by decide), if_pos rfl, ← e3 rfl]; exact N
def n_maySplice (h : m_H) (s u k : Int) : Prop := (0 ≤ s ∧ s < m_g h 127 14 ∧ m_g h 133 s = 0 ∧ m_g h 132 s ≠ 3) ∧ (0 ≤ u ∧ u < m_g h 127 14 ∧ m_g h 133 u = 0 ∧ m_g h 132 u ≠ 3) ∧ s ≠ u ∧ (0 ≤ k ∧ k ≤ 20) ∧ k ≤ m_g h 131 s ∧ k ≤ m_g h 131 u ∧ m_g h 131 s + m_g h 131 u - k ≤ 300 ∧ m_g h 127 14 + 1 ≤ 100 ∧ m_g h 127 15 + (m_g h 131 s + m_g h 131 u - k) ≤ 20000
theorem n_spliceR {g : m_H} {s u k : Int} (I : n_I g) (G : n_gs g) (M : n_maySplice g s u k) : ∃ g1, t11_splice 127 s u k g = some (m_g g 127 14, n_us (n_us g1 s 1) u 1) ∧ n_newR g g1 4 s u 0 (max (m_g g 134 s) (m_g g 134 u)) (max (m_g g 135 s) (m_g g 135 u)) (max (m_g g 136 s) (m_g g 136 u)) (m_g g 131 s + m_g g 131 u - k) (n_jr g s u k) ∧ n_gs g1 := by
  obtain ⟨c, d, ne, ⟨k0, k1⟩, k2, k3, n2, r1, r2⟩ := M
  have B := G.1
  unfold n_shB at B
  have b := G.2.1 s c.1 c.2.1
  have bu := G.2.1 u d.1 d.2.1
  unfold n_strB at b bu
  obtain ⟨ga, ea, NA⟩ := n_comes (kd := 4) (one := s) (oth := u) (bg := 0) I B.1 (by omega) (by omega) (by omega) (n_jr g s u k)
  rw [if_neg (by omega), if_neg (by omega), if_neg (by omega)] at NA
  obtain ⟨gb, hb, NB⟩ := n_ageR (b := 134) (x := m_g g 134 s) (y := m_g g 134 u) NA (by decide) (fun _ => rfl) (fun q => absurd q (by decide)) (fun q => absurd q (by decide))
  simp only [Int.reduceEq, ↓reduceIte] at NB
  obtain ⟨gc, hc, NC⟩ := n_ageR (b := 135) (x := m_g g 135 s) (y := m_g g 135 u) NB (by decide) (fun q => absurd q (by decide)) (fun _ => rfl) (fun q => absurd q (by decide))
  simp only [Int.reduceEq, ↓reduceIte] at NC
  obtain ⟨gd, hd, ND⟩ := n_ageR (b := 136) (x := m_g g 136 s) (y := m_g g 136 u) NC (by decide) (fun q => absurd q (by decide)) (fun q => absurd q (by decide)) (fun _ => rfl)
  simp only [Int.reduceEq, ↓reduceIte] at ND
  obtain ⟨g1, ef, N1, G1⟩ := n_spl3 I G ⟨c.1, c.2.1⟩ ⟨d.1, d.2.1⟩ k0 k1 k2 k3 n2 r1 r2 (by omega) (by omega) (by omega) ND
  refine ⟨g1, ?_, N1, G1⟩
  have Ia := n_newR_I I NA
  have Ib := n_newR_I I NB
  have Ic := n_newR_I I NC
  have eT := n_isPlain I G (i := s) (by omega) (by omega)
  rw [decide_eq_true c] at eT
  have eU := n_isPlain I G (i := u) (by omega) (by omega)
  rw [decide_eq_true d] at eU
  have er := n_isRoom (a := 1) (b := m_g g 131 s + m_g g 131 u - k) I G (by omega) (by omega) (by omega) (by omega)
  rw [decide_eq_true ⟨r1, r2⟩] at er
  have l3 := n_l131 I.2
  have l6 := n_l134 Ia.2
  have l7 := n_l135 Ib.2
  have l8 := n_l136 Ic.2
  have qa1 : m_g ga 134 (m_g g 127 14) = m_g g 134 s := NA.2.2.2.1.2.2.2.2.1
  have qa2 : m_g ga 134 u = m_g g 134 u := NA.2.1 134 u (by omega) (by omega) (by omega) (by omega)
  have qb1 : m_g gb 135 (m_g g 127 14) = m_g g 135 s := NB.2.2.2.1.2.2.2.2.2.1
  have qb2 : m_g gb 135 u = m_g g 135 u := NB.2.1 135 u (by omega) (by omega) (by omega) (by omega)
  have qc1 : m_g gc 136 (m_g g 127 14) = m_g g 136 s := NC.2.2.2.1.2.2.2.2.2.2.1
  have qc2 : m_g gc 136 u = m_g g 136 u := NC.2.1 136 u (by omega) (by omega) (by omega) (by omega)
  unfold t11_splice
  rw [if_pos (n_t127 I.2), eT, n_bs]
  show (if true = true then if m_t g 127 = 11 then t11_isPlain 127 u g >>= _ else none else _) = _
  rw [if_pos rfl, if_pos (n_t127 I.2), eU, n_bs]
  show (if true = true then if m_w s = m_w u then _ else t11_in (m_w k) 0 20 g >>= _ else _) = _
  rw [if_pos rfl, m_w_of (x := s) (by omega) (by omega), m_w_of (x := u) (by omega) (by omega), if_neg ne, m_w_of (x := k) (by omega) (by omega), n_in (by omega) (by omega) (by omega) (by omega) (by omega) (by omega), decide_eq_true ⟨k0, k1⟩, n_bs]
  show (if true = true then if m_t g 127 = 11 then if m_t g (m_g g 127 3) = 20 ∧ 0 ≤ s ∧ s < m_l g (m_g g 127 3) then if m_w (m_g g (m_g g 127 3) s) < k then _ else if m_t g (m_g g 127 3) = 20 ∧ 0 ≤ u ∧ u < m_l g (m_g g 127 3) then if m_w (m_g g (m_g g 127 3) u) < k then _ else some (m_g g (m_g g 127 3) s + m_g g (m_g g 127 3) u - k) >>= _ else none else none else none else _) = _
  rw [if_pos rfl, if_pos (n_t127 I.2), n_p127_3 I.2, if_pos ⟨n_t131 I.2, by omega, by omega⟩, m_w_of (x := m_g g 131 s) (by omega) (by omega), if_neg (by omega), if_pos ⟨n_t131 I.2, by omega, by omega⟩, m_w_of (x := m_g g 131 u) (by omega) (by omega), if_neg (by omega), n_bs]
  show (if 300 < m_w (m_g g 131 s + m_g g 131 u - k) then _ else t11_isRoom 127 1 (m_g g 131 s + m_g g 131 u - k) g >>= _) = _
  rw [m_w_of (x := m_g g 131 s + m_g g 131 u - k) (by omega) (by omega), if_neg (by omega), er, n_bs]
  show (if true = true then if m_t g 127 = 11 then t11_comes 127 4 s u 0 g >>= _ else none else _) = _
  rw [if_pos rfl, if_pos (n_t127 I.2), ea, n_bs]
  show (if m_t ga 127 = 11 then if m_t ga (m_g ga 127 6) = 20 ∧ 0 ≤ u ∧ u < m_l ga (m_g ga 127 6) then if m_t ga (m_g ga 127 6) = 20 ∧ 0 ≤ m_w (m_g g 127 14) ∧ m_w (m_g g 127 14) < m_l ga (m_g ga 127 6) then if m_w (m_g ga (m_g ga 127 6) (m_w (m_g g 127 14))) < m_w (m_g ga (m_g ga 127 6) u) then some (m_p ga (m_g ga 127 6) (m_w (m_g g 127 14)) (m_g ga (m_g ga 127 6) u)) >>= _ else t11_splice_c131 127 s u k (m_g g 127 14) ga else none else none else none) = _
  rw [if_pos (n_t127 Ia.2), n_p127_6 Ia.2, if_pos ⟨n_t134 Ia.2, by omega, by omega⟩, m_w_of (x := m_g g 127 14) (by omega) (by omega), if_pos ⟨n_t134 Ia.2, by omega, by omega⟩, qa1, qa2, m_w_of (x := m_g g 134 s) (by omega) (by omega), m_w_of (x := m_g g 134 u) (by omega) (by omega), n_bs]
  refine (hb (fun g' => t11_splice_c131 127 s u k (m_g g 127 14) g')).trans ?_
  show t11_splice_c131 127 s u k (m_g g 127 14) gb = _
  unfold t11_splice_c131
  rw [if_pos (n_t127 Ib.2), n_p127_7 Ib.2, m_w_of (x := u) (by omega) (by omega), if_pos ⟨n_t135 Ib.2, by omega, by omega⟩, m_w_of (x := m_g g 127 14) (by omega) (by omega), if_pos ⟨n_t135 Ib.2, by omega, by omega⟩, qb1, qb2, m_w_of (x := m_g g 135 s) (by omega) (by omega), m_w_of (x := m_g g 135 u) (by omega) (by omega), n_bs]
  refine (hc (fun g' => t11_splice_c160 127 s u k (m_g g 127 14) g')).trans ?_
  show t11_splice_c160 127 s u k (m_g g 127 14) gc = _
  unfold t11_splice_c160
  rw [if_pos (n_t127 Ic.2), n_p127_8 Ic.2, m_w_of (x := u) (by omega) (by omega), if_pos ⟨n_t136 Ic.2, by omega, by omega⟩, m_w_of (x := m_g g 127 14) (by omega) (by omega), if_pos ⟨n_t136 Ic.2, by omega, by omega⟩, qc1, qc2, m_w_of (x := m_g g 136 s) (by omega) (by omega), m_w_of (x := m_g g 136 u) (by omega) (by omega), n_bs]
  refine (hd (fun g' => t11_splice_c192 127 s u k (m_g g 127 14) 0 g')).trans ?_
  exact ef
theorem n_spliceR_n {g : m_H} {s u k : Int} (I : n_I g) (G : n_gs g) (i1 : -2147483648 ≤ s) (i2 : s < 2147483648) (j1 : -2147483648 ≤ u) (j2 : u < 2147483648) (y1 : -2147483648 ≤ k) (y2 : k < 2147483648) (c : ¬ n_maySplice g s u k) : t11_splice 127 s u k g = some (-1, g) := by
  unfold n_maySplice at c
  have B := G.1
  unfold n_shB at B
  unfold t11_splice
  rw [if_pos (n_t127 I.2), n_isPlain I G i1 i2, n_bs]
  by_cases c1 : 0 ≤ s ∧ s < m_g g 127 14 ∧ m_g g 133 s = 0 ∧ m_g g 132 s ≠ 3
  · have b := G.2.1 s c1.1 c1.2.1
    unfold n_strB at b
    rw [decide_eq_true c1]
    show (if true = true then if m_t g 127 = 11 then t11_isPlain 127 u g >>= _ else none else _) = _
    rw [if_pos rfl, if_pos (n_t127 I.2), n_isPlain I G j1 j2, n_bs]
    by_cases c2 : 0 ≤ u ∧ u < m_g g 127 14 ∧ m_g g 133 u = 0 ∧ m_g g 132 u ≠ 3
    · have bu := G.2.1 u c2.1 c2.2.1
      unfold n_strB at bu
      rw [decide_eq_true c2]
      show (if true = true then if m_w s = m_w u then some (-1, g) else t11_in (m_w k) 0 20 g >>= _ else _) = _
      rw [if_pos rfl, m_w_of (x := s) (by omega) (by omega), m_w_of (x := u) (by omega) (by omega)]
      by_cases c3 : s = u
      · rw [if_pos c3]
      · rw [if_neg c3, m_w_of (x := k) (by omega) (by omega), n_in (by omega) (by omega) (by omega) (by omega) (by omega) (by omega), n_bs]
        by_cases c4 : 0 ≤ k ∧ k ≤ 20
        · rw [decide_eq_true c4]
          have l3 := n_l131 I.2
          show (if true = true then if m_t g 127 = 11 then if m_t g (m_g g 127 3) = 20 ∧ 0 ≤ s ∧ s < m_l g (m_g g 127 3) then if m_w (m_g g (m_g g 127 3) s) < k then some (-1, g) else if m_t g (m_g g 127 3) = 20 ∧ 0 ≤ u ∧ u < m_l g (m_g g 127 3) then if m_w (m_g g (m_g g 127 3) u) < k then some (-1, g) else some (m_g g (m_g g 127 3) s + m_g g (m_g g 127 3) u - k) >>= _ else none else none else none else _) = _
          rw [if_pos rfl, if_pos (n_t127 I.2), n_p127_3 I.2, if_pos ⟨n_t131 I.2, by omega, by omega⟩, m_w_of (x := m_g g 131 s) (by omega) (by omega)]
          by_cases c5 : m_g g 131 s < k
          · rw [if_pos c5]
          · rw [if_neg c5, if_pos ⟨n_t131 I.2, by omega, by omega⟩, m_w_of (x := m_g g 131 u) (by omega) (by omega)]
            by_cases c6 : m_g g 131 u < k
            · rw [if_pos c6]
            · rw [if_neg c6, n_bs]
              show (if 300 < m_w (m_g g 131 s + m_g g 131 u - k) then some (-1, g) else t11_isRoom 127 1 (m_g g 131 s + m_g g 131 u - k) g >>= _) = _
              rw [m_w_of (x := m_g g 131 s + m_g g 131 u - k) (by omega) (by omega)]
              by_cases c7 : 300 < m_g g 131 s + m_g g 131 u - k
              · rw [if_pos c7]
              · have er := n_isRoom (a := 1) (b := m_g g 131 s + m_g g 131 u - k) I G (by omega) (by omega) (by omega) (by omega)
                rw [decide_eq_false (fun q => c ⟨c1, c2, c3, c4, by omega, by omega, by omega, q⟩)] at er
                rw [if_neg c7, er, n_bs]
                rfl
        · rw [decide_eq_false c4]
          rfl
    · rw [decide_eq_false c2]
      rfl
  · rw [decide_eq_false c1]
    rfl
