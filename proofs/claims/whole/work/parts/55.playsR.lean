/-! CALLS: copy, speed: the reference -/
def n_top (x : Int) : Int := if 1000 < x then 1000 else x
theorem n_top_b {x : Int} (h : 0 ≤ x) : 0 ≤ n_top x ∧ n_top x ≤ 1000 := by unfold n_top; split <;> omega
theorem n_newR_fl {g g' : m_H} {kd one oth bg gen hs wr n i : Int} {f r : Int → Int} (N : n_newR g g' kd one oth bg gen hs wr n f) : n_newR g (n_fl g' 149 0 i r) kd one oth bg gen hs wr n f := by
  obtain ⟨e, N1, N2, N3, N4⟩ := N
  have E : ∀ c j, c ≠ 149 → m_g (n_fl g' 149 0 i r) c j = m_g g' c j := fun c j hc => by rw [n_g_fl, if_neg (fun q => hc q.1)]
  refine ⟨e, fun c j h1 h2 h3 h4 => by rw [E c j h4]; exact N1 c j h1 h2 h3 h4, ⟨by rw [E _ _ (by decide)]; exact N2.1, by rw [E _ _ (by decide)]; exact N2.2⟩, ?_, fun j j1 j2 => by rw [E _ _ (by decide)]; exact N4 j j1 j2⟩
  rw [E 130 _ (by decide), E 131 _ (by decide), E 132 _ (by decide), E 133 _ (by decide), E 134 _ (by decide), E 135 _ (by decide), E 136 _ (by decide), E 137 _ (by decide), E 138 _ (by decide), E 139 _ (by decide), E 140 _ (by decide), E 141 _ (by decide)]
  exact N3
def n_pl (g : m_H) (s p q l : Int) : Int → Int := fun j => n_cl (Int.tdiv (n_cl (n_play (fun j => m_g g 128 (m_g g 130 s + j)) (m_g g 131 s) j p q) * l) 64)
theorem n_plays2 {g gd : m_H} {s t kd p q l n gen hs : Int} (I : n_I g) (G : n_gs g) (c : 0 ≤ s ∧ s < m_g g 127 14) (ct : 0 ≤ t ∧ t < m_g g 127 23) (p1 : 1 ≤ p) (p2 : p ≤ 1100) (q1 : 1 ≤ q) (q2 : q ≤ 1000) (l1 : 0 ≤ l) (l2 : l ≤ 128) (en : n = Int.tdiv ((m_g g 131 s - 1) * q) p + 1) (r0 : n ≤ 300) (r1 : m_g g 127 14 + 1 ≤ 100) (r2 : m_g g 127 15 + n ≤ 20000) (N : n_newR g gd kd s (-1) 0 gen hs 0 0 (n_pl g s p q l)) : ∃ g1, t11_plays_c144 127 s t p q l n (m_g g 127 14) 0 gd = some (m_g g 127 14, m_p g1 136 s (n_top (m_g g 136 s + m_g g 145 t))) ∧ n_newR g g1 kd s (-1) 0 gen hs 0 n (n_pl g s p q l) := by
  have B := G.1
  unfold n_shB at B
  have b := G.2.1 s c.1 c.2
  unfold n_strB at b
  have bt := G.2.2.1 t ct.1 ct.2
  unfold n_macB at bt
  have b0 := n_mulp (a := m_g g 131 s - 1) (b := q) (A := 300) (B := 1000) (by omega) (by omega) (by omega) q2
  have b1 := n_td b0.1 p1
  have sv : ∀ j, 0 ≤ j → j < m_g g 131 s → -32768 ≤ m_g g 128 (m_g g 130 s + j) ∧ m_g g 128 (m_g g 130 s + j) ≤ 32767 := fun j j1 j2 => G.2.2.2.1 _ (by omega) (by omega)
  have k1 := n_fill (fun i h => t11_plays_c144 127 s t p q l n (m_g g 127 14) i h) (h := gd) (a := 149) (lo := 0) (n := m_g g 131 s) (fun j => m_g g 128 (m_g g 130 s + j)) (by omega) (fun i i1 i2 => by
    have Ni := n_newR_fl (i := i) (r := fun j => m_g g 128 (m_g g 130 s + j)) N
    show t11_plays_c144 127 s t p q l n (m_g g 127 14) i _ = t11_plays_c144 127 s t p q l n (m_g g 127 14) (i + 1) _
    rw [t11_plays_c144]
    generalize n_fl gd 149 0 i (fun j => m_g g 128 (m_g g 130 s + j)) = hi at *
    have J := n_newR_I I Ni
    have e3 := n_at3 (s := s) (x := i) I G Ni c (by omega) (by omega)
    have q131 : m_g hi 131 s = m_g g 131 s := Ni.2.1 131 s (by omega) (by omega) (by omega) (by omega)
    have l3 := n_l131 J.2
    have l9 := n_l149 J.2
    rw [if_pos (n_t127 J.2), n_p127_3 J.2, m_w_of (x := s) (by omega) (by omega), if_pos ⟨n_t131 J.2, by omega, by omega⟩, q131, m_w_of (x := i) (by omega) (by omega), m_w_of (x := m_g g 131 s) (by omega) (by omega), if_pos i2, e3, n_bs]
    show (if m_t hi (m_g hi 127 28) = 20 ∧ 0 ≤ i ∧ i < m_l hi (m_g hi 127 28) then some (m_p hi (m_g hi 127 28) i (m_g g 128 (m_g g 130 s + i))) >>= _ else none) = _
    rw [n_p127_28 J.2, if_pos ⟨n_t149 J.2, by omega, by omega⟩, n_bs])
  have Ne := n_newR_fl (i := m_g g 131 s) (r := fun j => m_g g 128 (m_g g 130 s + j)) N
  have e149 : ∀ j, 0 ≤ j → j < m_g g 131 s → m_g (n_fl gd 149 0 (m_g g 131 s) (fun j => m_g g 128 (m_g g 130 s + j))) 149 j = m_g g 128 (m_g g 130 s + j) := fun j j1 j2 => by rw [n_g_fl, if_pos ⟨rfl, j1, j2⟩]
  generalize n_fl gd 149 0 (m_g g 131 s) (fun j => m_g g 128 (m_g g 130 s + j)) = ge at *
  obtain ⟨g1, eb, N1, -⟩ := n_itR (fun i g' => t11_plays_c178 127 s t p q l n (m_g g 127 14) i g') (fun i g' => n_newR g g' kd s (-1) 0 gen hs 0 i (n_pl g s p q l) ∧ ∀ j, 0 ≤ j → j < m_g g 131 s → m_g g' 149 j = m_g g 128 (m_g g 130 s + j)) 0 n (by omega) (fun i g' i1 i2 ⟨Ni, ei⟩ => by
    have J := n_newR_I I Ni
    have l3 := n_l131 J.2
    have q131 : m_g g' 131 s = m_g g 131 s := Ni.2.1 131 s (by omega) (by omega) (by omega) (by omega)
    have sa := n_sampleAt (g := g') (n := m_g g 131 s) (i := i) J (by omega) (by omega) i1 (by omega) (by omega) p1 p2 q1 q2 (fun j j1 j2 => by rw [ei j j1 j2]; exact sv j j1 j2)
    rw [n_play_eq (r' := fun j => m_g g 128 (m_g g 130 s + j)) ei i1 p1 q1 (by omega)] at sa
    have lo := n_cl_lo (n_play (fun j => m_g g 128 (m_g g 130 s + j)) (m_g g 131 s) i p q)
    have hi := n_cl_hi (n_play (fun j => m_g g 128 (m_g g 130 s + j)) (m_g g 131 s) i p q)
    obtain ⟨g2, e2, N2, e3⟩ := n_adds2 (v := n_pl g s p q l i) I Ni B.1 (by omega) i1 (by omega) B.2.2.1 (by omega) rfl
    refine ⟨g2, ?_, N2, fun j j1 j2 => (e3 j).trans (ei j j1 j2)⟩
    show t11_plays_c178 127 s t p q l n (m_g g 127 14) i g' = t11_plays_c178 127 s t p q l n (m_g g 127 14) (i + 1) g2
    rw [t11_plays_c178, m_w_of (x := i) (by omega) (by omega), m_w_of (x := n) (by omega) (by omega), if_pos i2, if_pos (n_t127 J.2), n_p127_3 J.2, m_w_of (x := s) (by omega) (by omega), if_pos ⟨n_t131 J.2, by omega, by omega⟩, q131, sa, n_bs]
    unfold n_pl at e2
    generalize n_cl (n_play (fun j => m_g g 128 (m_g g 130 s + j)) (m_g g 131 s) i p q) = x at *
    have mb := n_mulb (a := x) (b := l) (A := 32768) (B := 128) (by omega) (by omega) l1 l2
    have md := n_tdb (x := x * l) (q := 64) (B := 32768 * 128) (by omega) mb.1 mb.2
    show (t11_bounded (Int.tdiv (m_v (m_w x * m_w l)) 64) g' >>= _) = _
    rw [m_w_of (x := x) (by omega) (by omega), m_w_of (x := l) (by omega) (by omega), m_v_of (by omega) (by omega), n_bounded (by omega) (by omega), n_bs]
    show (if m_t g' 127 = 11 then t11_adds 127 (m_g g 127 14) (n_cl (Int.tdiv (x * l) 64)) g' >>= _ else none) = _
    rw [if_pos (n_t127 J.2), e2, n_bs]) ge ⟨Ne, e149⟩
  refine ⟨g1, k1.trans ?_, N1⟩
  have Ie := n_newR_I I Ne
  have I1 := n_newR_I I N1
  have qe : m_g ge 131 s = m_g g 131 s := Ne.2.1 131 s (by omega) (by omega) (by omega) (by omega)
  have q136 : m_g g1 136 s = m_g g 136 s := N1.2.1 136 s (by omega) (by omega) (by omega) (by omega)
  have q145 : m_g g1 145 t = m_g g 145 t := N1.2.1 145 t (by omega) (by omega) (by omega) (by omega)
  have l3 := n_l131 Ie.2
  have l8 := n_l136 I1.2
  have l22 := n_l145 I1.2
  show t11_plays_c144 127 s t p q l n (m_g g 127 14) (m_g g 131 s) ge = _
  rw [t11_plays_c144, if_pos (n_t127 Ie.2), n_p127_3 Ie.2, m_w_of (x := s) (by omega) (by omega), if_pos ⟨n_t131 Ie.2, by omega, by omega⟩, qe, if_neg (by omega)]
  refine eb.trans ?_
  show t11_plays_c178 127 s t p q l n (m_g g 127 14) n g1 = _
  rw [t11_plays_c178, if_neg (by omega), if_pos (n_t127 I1.2), n_p127_8 I1.2, n_p127_22 I1.2, m_w_of (x := s) (by omega) (by omega), m_w_of (x := t) (by omega) (by omega), if_pos ⟨n_t136 I1.2, by omega, by omega⟩, if_pos ⟨n_t145 I1.2, by omega, by omega⟩, q136, q145, m_w_of (x := m_g g 136 s + m_g g 145 t) (by omega) (by omega)]
  unfold n_top
  by_cases cw : 1000 < m_g g 136 s + m_g g 145 t
  · rw [if_pos cw, if_pos cw, n_bs]
  · rw [if_neg cw, if_neg cw, n_bs]
