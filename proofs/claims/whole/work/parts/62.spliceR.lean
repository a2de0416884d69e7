/-! CALLS: splice: the reference -/
theorem n_splicedR {g : m_H} {x y i k : Int} (x1 : -32768 ≤ x) (x2 : x ≤ 32767) (y1 : -32768 ≤ y) (y2 : y ≤ 32767) (i1 : 0 ≤ i) (i2 : i < k) (k2 : k ≤ 20) : t11_spliced x y i k g = some (n_cl (Int.tdiv (x * (k - i) + y * (i + 1)) (k + 1)), g) := by
  have a := n_mulb (a := x) (b := k - i) (A := 32768) (B := 20) (by omega) (by omega) (by omega) (by omega)
  have b := n_mulb (a := y) (b := i + 1) (A := 32768) (B := 20) (by omega) (by omega) (by omega) (by omega)
  have b2 := n_tdb (x := x * (k - i) + y * (i + 1)) (q := k + 1) (B := 2000000) (by omega) (by omega) (by omega)
  unfold t11_spliced
  rw [m_w_of (x := k + 1) (by omega) (by omega), m_v_of (x := k + 1) (by omega) (by omega), if_neg (by omega), m_w_of (x := x) (by omega) (by omega), m_w_of (x := y) (by omega) (by omega), m_w_of (x := k - i) (by omega) (by omega), m_w_of (x := i + 1) (by omega) (by omega), m_v_of (by omega) (by omega), n_bounded (by omega) (by omega), n_bs]
def n_jr (g : m_H) (s u k : Int) : Int → Int := n_jn (fun j => m_g g 128 (m_g g 130 s + j)) (fun j => m_g g 128 (m_g g 130 u + j)) (m_g g 131 s - k) k
theorem n_spl3 {g gd : m_H} {s u k gen hs wr : Int} (I : n_I g) (G : n_gs g) (c : 0 ≤ s ∧ s < m_g g 127 14) (d : 0 ≤ u ∧ u < m_g g 127 14) (k0 : 0 ≤ k) (k1 : k ≤ 20) (k2 : k ≤ m_g g 131 s) (k3 : k ≤ m_g g 131 u) (n2 : m_g g 131 s + m_g g 131 u - k ≤ 300) (r1 : m_g g 127 14 + 1 ≤ 100) (r2 : m_g g 127 15 + (m_g g 131 s + m_g g 131 u - k) ≤ 20000) (ge1 : 0 ≤ gen ∧ gen ≤ m_g g 127 14) (hs1 : 0 ≤ hs ∧ hs ≤ 1000) (wr1 : 0 ≤ wr ∧ wr ≤ 1000) (N : n_newR g gd 4 s u 0 gen hs wr 0 (n_jr g s u k)) : ∃ g1, t11_splice_c192 127 s u k (m_g g 127 14) 0 gd = some (m_g g 127 14, n_us (n_us g1 s 1) u 1) ∧ n_newR g g1 4 s u 0 gen hs wr (m_g g 131 s + m_g g 131 u - k) (n_jr g s u k) ∧ n_gs g1 := by
  have B := G.1
  unfold n_shB at B
  have b := G.2.1 s c.1 c.2
  have bu := G.2.1 u d.1 d.2
  unfold n_strB at b bu
  have sv : ∀ j, 0 ≤ j → j < m_g g 131 s → -32768 ≤ m_g g 128 (m_g g 130 s + j) ∧ m_g g 128 (m_g g 130 s + j) ≤ 32767 := fun j j1 j2 => G.2.2.2.1 _ (by omega) (by omega)
  have su : ∀ j, 0 ≤ j → j < m_g g 131 u → -32768 ≤ m_g g 128 (m_g g 130 u + j) ∧ m_g g 128 (m_g g 130 u + j) ≤ 32767 := fun j j1 j2 => G.2.2.2.1 _ (by omega) (by omega)
  obtain ⟨ge, e1, N1⟩ := n_itR (fun i g' => t11_splice_c192 127 s u k (m_g g 127 14) i g') (fun i g' => n_newR g g' 4 s u 0 gen hs wr i (n_jr g s u k)) 0 (m_g g 131 s - k) (by omega) (fun i g' i1 i2 N => by
    have J := n_newR_I I N
    have e3 := n_at3 (s := s) (x := i) I G N c (by omega) (by omega)
    have ef : n_jr g s u k i = m_g g 128 (m_g g 130 s + i) := by unfold n_jr n_jn; rw [if_pos i2]
    obtain ⟨g2, e2, N2⟩ := n_adds (v := m_g g 128 (m_g g 130 s + i)) I N B.1 (by omega) i1 (by omega) B.2.2.1 (by omega) ef.symm
    refine ⟨g2, ?_, N2⟩
    have q131 : m_g g' 131 s = m_g g 131 s := N.2.1 131 s (by omega) (by omega) (by omega) (by omega)
    have l3 := n_l131 J.2
    show t11_splice_c192 127 s u k (m_g g 127 14) i g' = t11_splice_c192 127 s u k (m_g g 127 14) (i + 1) g2
    rw [t11_splice_c192, if_pos (n_t127 J.2), n_p127_3 J.2, m_w_of (x := s) (by omega) (by omega), if_pos ⟨n_t131 J.2, by omega, by omega⟩, q131, m_w_of (x := i) (by omega) (by omega), m_w_of (x := m_g g 131 s - k) (by omega) (by omega), if_pos i2, e3, n_bs]
    show (if m_t g' 127 = 11 then t11_adds 127 (m_g g 127 14) (m_g g 128 (m_g g 130 s + i)) g' >>= _ else none) = _
    rw [if_pos (n_t127 J.2), e2, n_bs]) gd N
  obtain ⟨gf, e2, N2⟩ := n_itR (fun i g' => t11_splice_c227 127 s u k (m_g g 127 14) (i - (m_g g 131 s - k)) g') (fun i g' => n_newR g g' 4 s u 0 gen hs wr i (n_jr g s u k)) (m_g g 131 s - k) (m_g g 131 s) (by omega) (fun i g' i1 i2 N => by
    have J := n_newR_I I N
    have e3 := n_at3 (s := s) (x := i) I G N c (by omega) (by omega)
    have e4 := n_at3 (s := u) (x := i - (m_g g 131 s - k)) I G N d (by omega) (by omega)
    have vs := sv i (by omega) (by omega)
    have vu := su (i - (m_g g 131 s - k)) (by omega) (by omega)
    have e5 := n_splicedR (g := g') (x := m_g g 128 (m_g g 130 s + i)) (y := m_g g 128 (m_g g 130 u + (i - (m_g g 131 s - k)))) (i := i - (m_g g 131 s - k)) (k := k) vs.1 vs.2 vu.1 vu.2 (by omega) (by omega) k1
    have ef : n_jr g s u k i = n_cl (Int.tdiv (m_g g 128 (m_g g 130 s + i) * (k - (i - (m_g g 131 s - k))) + m_g g 128 (m_g g 130 u + (i - (m_g g 131 s - k))) * (i - (m_g g 131 s - k) + 1)) (k + 1)) := by unfold n_jr n_jn n_jm; rw [if_neg (by omega), if_pos (by omega)]
    rw [← ef] at e5
    obtain ⟨g2, e2, N2⟩ := n_adds (v := n_jr g s u k i) I N B.1 (by omega) (by omega) (by omega) B.2.2.1 (by omega) rfl
    refine ⟨g2, ?_, N2⟩
    have q131 : m_g g' 131 s = m_g g 131 s := N.2.1 131 s (by omega) (by omega) (by omega) (by omega)
    have l3 := n_l131 J.2
    show t11_splice_c227 127 s u k (m_g g 127 14) (i - (m_g g 131 s - k)) g' = t11_splice_c227 127 s u k (m_g g 127 14) (i + 1 - (m_g g 131 s - k)) g2
    rw [t11_splice_c227, m_w_of (x := i - (m_g g 131 s - k)) (by omega) (by omega), m_w_of (x := k) (by omega) (by omega), if_pos (by omega), if_pos (n_t127 J.2), n_p127_3 J.2, m_w_of (x := s) (by omega) (by omega), if_pos ⟨n_t131 J.2, by omega, by omega⟩, q131, show m_g g 131 s - k + (i - (m_g g 131 s - k)) = i by omega, e3, n_bs]
    show (if m_t g' 127 = 11 then t11_at 127 u (i - (m_g g 131 s - k)) g' >>= _ else none) = _
    rw [if_pos (n_t127 J.2), e4, n_bs]
    show (t11_spliced (m_g g 128 (m_g g 130 s + i)) (m_g g 128 (m_g g 130 u + (i - (m_g g 131 s - k)))) (i - (m_g g 131 s - k)) k g' >>= _) = _
    rw [e5, n_bs]
    show (if m_t g' 127 = 11 then t11_adds 127 (m_g g 127 14) (n_jr g s u k i) g' >>= _ else none) = _
    rw [if_pos (n_t127 J.2), e2, n_bs, show i - (m_g g 131 s - k) + 1 = i + 1 - (m_g g 131 s - k) by omega]) ge N1
  obtain ⟨g1, e3, N3⟩ := n_itR (fun i g' => t11_splice_c277 127 s u (m_g g 127 14) (i - (m_g g 131 s - k)) g') (fun i g' => n_newR g g' 4 s u 0 gen hs wr i (n_jr g s u k)) (m_g g 131 s) (m_g g 131 s + m_g g 131 u - k) (by omega) (fun i g' i1 i2 N => by
    have J := n_newR_I I N
    have e4 := n_at3 (s := u) (x := i - (m_g g 131 s - k)) I G N d (by omega) (by omega)
    have ef : n_jr g s u k i = m_g g 128 (m_g g 130 u + (i - (m_g g 131 s - k))) := by unfold n_jr n_jn; rw [if_neg (by omega), if_neg (by omega)]
    obtain ⟨g2, e2, N2⟩ := n_adds (v := m_g g 128 (m_g g 130 u + (i - (m_g g 131 s - k)))) I N B.1 (by omega) (by omega) (by omega) B.2.2.1 (by omega) ef.symm
    refine ⟨g2, ?_, N2⟩
    have q131 : m_g g' 131 u = m_g g 131 u := N.2.1 131 u (by omega) (by omega) (by omega) (by omega)
    have l3 := n_l131 J.2
    show t11_splice_c277 127 s u (m_g g 127 14) (i - (m_g g 131 s - k)) g' = t11_splice_c277 127 s u (m_g g 127 14) (i + 1 - (m_g g 131 s - k)) g2
    rw [t11_splice_c277, if_pos (n_t127 J.2), n_p127_3 J.2, m_w_of (x := u) (by omega) (by omega), if_pos ⟨n_t131 J.2, by omega, by omega⟩, q131, m_w_of (x := i - (m_g g 131 s - k)) (by omega) (by omega), m_w_of (x := m_g g 131 u) (by omega) (by omega), if_pos (by omega), e4, n_bs]
    show (if m_t g' 127 = 11 then t11_adds 127 (m_g g 127 14) (m_g g 128 (m_g g 130 u + (i - (m_g g 131 s - k)))) g' >>= _ else none) = _
    rw [if_pos (n_t127 J.2), e2, n_bs, show i - (m_g g 131 s - k) + 1 = i + 1 - (m_g g 131 s - k) by omega]) gf N2
  have Ie := n_newR_I I N1
  have If := n_newR_I I N2
  have I1 := n_newR_I I N3
  have G1 := n_add_gs G N3 (by omega) (by omega) (by omega) (by omega) (by omega) ge1 hs1 wr1 (by omega) (by omega) (by omega) (fun j j1 j2 => n_jn_b (l2 := m_g g 131 u) k0 (fun i y1 y2 => sv i y1 (by omega)) su j1 (by omega))
  refine ⟨g1, ?_, N3, G1⟩
  have k14 : m_g g1 127 14 = m_g g 127 14 + 1 := N3.2.2.1.1
  have qe : m_g ge 131 s = m_g g 131 s := N1.2.1 131 s (by omega) (by omega) (by omega) (by omega)
  have q1 : m_g g1 131 u = m_g g 131 u := N3.2.1 131 u (by omega) (by omega) (by omega) (by omega)
  have l3 := n_l131 Ie.2
  have l4 := n_l131 I1.2
  refine e1.trans ?_
  show t11_splice_c192 127 s u k (m_g g 127 14) (m_g g 131 s - k) ge = _
  rw [t11_splice_c192, if_pos (n_t127 Ie.2), n_p127_3 Ie.2, m_w_of (x := s) (by omega) (by omega), if_pos ⟨n_t131 Ie.2, by omega, by omega⟩, qe, if_neg (by omega)]
  have z : (0 : Int) = m_g g 131 s - k - (m_g g 131 s - k) := by omega
  refine Eq.trans (congrArg (fun x => t11_splice_c227 127 s u k (m_g g 127 14) x ge) z) (e2.trans ?_)
  show t11_splice_c227 127 s u k (m_g g 127 14) (m_g g 131 s - (m_g g 131 s - k)) gf = _
  rw [t11_splice_c227, if_neg (by rw [show m_g g 131 s - (m_g g 131 s - k) = k by omega]; omega)]
  refine Eq.trans (congrArg (fun x => t11_splice_c277 127 s u (m_g g 127 14) x gf) (show k = m_g g 131 s - (m_g g 131 s - k) by omega)) (e3.trans ?_)
  show t11_splice_c277 127 s u (m_g g 127 14) (m_g g 131 s + m_g g 131 u - k - (m_g g 131 s - k)) g1 = _
  have U1 := n_uses (st := 1) I1 G1 (show 0 ≤ s ∧ s < m_g g1 127 14 by omega)
  have G2 := n_use_gs (st := 1) G1 (show 0 ≤ s ∧ s < m_g g1 127 14 by omega) (by omega) (by omega)
  have I2 : n_I (n_us g1 s 1) := n_kr_I I1 (n_us_kr g1 s 1) (fun b hb => by
    simp at hb
    rcases hb with e | e <;> rw [e]
    · exact Or.inl (n_t133 I1.2)
    · exact Or.inl (n_t137 I1.2)) rfl
  have k14' : m_g (n_us g1 s 1) 127 14 = m_g g1 127 14 := (n_us_kr g1 s 1).2.2 127 14 (by decide) (by simp)
  have U2 := n_uses (st := 1) I2 G2 (show 0 ≤ u ∧ u < m_g (n_us g1 s 1) 127 14 by omega)
  rw [t11_splice_c277, if_pos (n_t127 I1.2), n_p127_3 I1.2, m_w_of (x := u) (by omega) (by omega), if_pos ⟨n_t131 I1.2, by omega, by omega⟩, q1, if_neg (by rw [m_w_of (by omega) (by omega), m_w_of (by omega) (by omega)]; omega), U1, n_bs]
  show (if m_t (n_us g1 s 1) 127 = 11 then t11_uses 127 u 1 (n_us g1 s 1) >>= _ else none) = _
  rw [if_pos (n_t127 I2.2), U2, n_bs]
