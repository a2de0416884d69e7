/-! CALLS: splice: the component, and the end -/
theorem n_mmin {a b : Int} (h1 : -2147483648 ≤ a) (h2 : a < 2147483648) (h3 : -2147483648 ≤ b) (h4 : b < 2147483648) : m_min a b = min a b := by
  unfold m_min
  rw [m_w_of h1 h2, m_w_of h3 h4]
  split <;> omega
theorem n_cells {h : m_H} {s u : Int} (S : n_Rsh h h) (c : 0 ≤ s ∧ s < m_g h 127 14) (d : 0 ≤ u ∧ u < m_g h 127 14) (ne : s ≠ u) : m_g h 3 s ≠ m_g h 3 u := fun e => by
  have a := (n_st S c).2.1
  have b := (n_st S d).2.1
  rw [e, b] at a
  exact ne a.symm
theorem n_spliceC_n {h : m_H} {s u k : Int} (I : n_I h) (S : n_Rsh h h) (G : n_gs h) (i1 : -2147483648 ≤ s) (i2 : s < 2147483648) (j1 : -2147483648 ≤ u) (j2 : u < 2147483648) (y1 : -2147483648 ≤ k) (y2 : k < 2147483648) (c : ¬ n_maySplice h s u k) : t7_joinedOf 2 s u k h = some (-1, h) := by
  unfold n_maySplice at c
  have B := G.1
  unfold n_shB at B
  have N := S.1
  unfold n_shN at N
  have t2 := n_t2 I.2
  obtain ⟨r, er, cr⟩ := n_freeAny I S G i1 i2
  obtain ⟨q, eq, cq⟩ := n_freeAny I S G j1 j2
  unfold t7_joinedOf
  rw [if_pos t2, er, n_bs]
  show (if m_t h 2 = 7 then t7_freeStrip 2 u h >>= _ else none) = _
  rw [if_pos t2, eq, n_bs]
  rcases cr with ⟨cr, c1⟩ | cr
  · rcases cq with ⟨cq, c2⟩ | cq
    · have b := G.2.1 s c1.1 c1.2.1
      have bu := G.2.1 u c2.1 c2.2.1
      unfold n_strB at b bu
      obtain ⟨⟨a1, a2, a3, a4⟩, a5, a6, a7, a8, a9, a10, a11, a12, a13, a14, a15, a16, a17⟩ := n_st S ⟨c1.1, c1.2.1⟩
      obtain ⟨⟨b1, b2, b3, b4⟩, b5, b6, b7, b8, b9, b10, b11, b12, b13, b14, b15, b16, b17⟩ := n_st S ⟨c2.1, c2.2.1⟩
      show (if r = 0 then some (-1, h) else if q = 0 then some (-1, h) else if 0 ≤ r ∧ 0 ≤ q then if r = q then some (-1, h) else if m_w k < 0 then some (-1, h) else if 20 < m_w k then some (-1, h) else if m_t h r = 8 then if m_t h (m_g h r 3) = 5 then t5_size (m_g h r 3) h >>= _ else none else none else none) = _
      rw [if_neg (by omega), if_neg (by omega), if_pos (by omega)]
      by_cases c3 : s = u
      · rw [if_pos (by rw [cr, cq, c3])]
      · have ne := n_cells S ⟨c1.1, c1.2.1⟩ ⟨c2.1, c2.2.1⟩ c3
        subst cr cq
        rw [if_neg ne, m_w_of (x := k) (by omega) (by omega)]
        by_cases c4 : k < 0
        · rw [if_pos c4]
        · rw [if_neg c4]
          by_cases c5 : 20 < k
          · rw [if_pos c5]
          · rw [if_neg c5, if_pos a1, if_pos a3, n_size a3, n_bs, a16]
            show (if m_t h (m_g h 3 u) = 8 then if m_t h (m_g h (m_g h 3 u) 3) = 5 then t5_size (m_g h (m_g h 3 u) 3) h >>= _ else none else none) = _
            rw [if_pos b1, if_pos b3, n_size b3, n_bs, b16]
            show (if m_w (m_min (m_g h 131 s) (m_g h 131 u)) < k then some (-1, h) else if m_t h (m_g h 3 s) = 8 then if m_t h (m_g h 3 u) = 8 then t5_joinedSize (m_g h (m_g h 3 s) 3) (m_g h (m_g h 3 u) 3) k h >>= _ else none else none) = _
            rw [n_mmin (by omega) (by omega) (by omega) (by omega), m_w_of (by omega) (by omega)]
            by_cases c6 : min (m_g h 131 s) (m_g h 131 u) < k
            · rw [if_pos c6]
            · have ej : t5_joinedSize (m_g h (m_g h 3 s) 3) (m_g h (m_g h 3 u) 3) k h = some (m_g h 131 s + m_g h 131 u - k, h) := by
                unfold t5_joinedSize
                rw [if_pos a3, if_pos b3, a16, b16]
              rw [if_neg c6, if_pos a1, if_pos b1, ej, n_bs]
              show (if 300 < m_w (m_g h 131 s + m_g h 131 u - k) then some (-1, h) else if m_t h 2 = 7 then t7_hasRoom 2 1 (m_g h 131 s + m_g h 131 u - k) h >>= _ else none) = _
              rw [m_w_of (by omega) (by omega)]
              by_cases c7 : 300 < m_g h 131 s + m_g h 131 u - k
              · rw [if_pos c7]
              · have er := n_hasRoom (a := 1) (b := m_g h 131 s + m_g h 131 u - k) I (by omega) (by omega) (by omega) (by omega) (by omega) (by omega) (by omega) (by omega)
                rw [decide_eq_false (fun z => c ⟨c1, c2, c3, ⟨by omega, by omega⟩, by omega, by omega, by omega, by omega, by omega⟩)] at er
                rw [if_neg c7, if_pos t2, er, n_bs]
                rfl
    · subst cq
      show (if r = 0 then some (-1, h) else _) = _
      by_cases z : r = 0
      · rw [if_pos z]
      · rw [if_neg z]; rfl
  · subst cr
    rfl
theorem n_ageAs {h : m_H} {r q x y z : Int} (kr : m_t h r = 8) (kq : m_t h q = 8) (ne : q ≠ r) (b1 : 0 ≤ m_g h r 5 ∧ m_g h r 5 ≤ 1000) (b2 : 0 ≤ m_g h r 6 ∧ m_g h r 6 ≤ 1000) (b3 : 0 ≤ m_g h r 7 ∧ m_g h r 7 ≤ 1000) (d1 : 0 ≤ m_g h q 5 ∧ m_g h q 5 ≤ 1000) (d2 : 0 ≤ m_g h q 6 ∧ m_g h q 6 ≤ 1000) (d3 : 0 ≤ m_g h q 7 ∧ m_g h q 7 ≤ 1000) (ex : x = max (m_g h r 5) (m_g h q 5)) (ey : y = max (m_g h r 6) (m_g h q 6)) (ez : z = max (m_g h r 7) (m_g h q 7)) : t8_ageAs r q h = some ((), m_p (m_p (m_p h r 5 x) r 6 y) r 7 z) := by
  have e1 := n_max (a := m_g h r 5) (b := m_g h q 5) (by omega) (by omega) (by omega) (by omega)
  have e2 := n_max (a := m_g h r 6) (b := m_g h q 6) (by omega) (by omega) (by omega) (by omega)
  have e3 := n_max (a := m_g h r 7) (b := m_g h q 7) (by omega) (by omega) (by omega) (by omega)
  rw [← ex] at e1
  rw [← ey] at e2
  rw [← ez] at e3
  clear b1 b2 b3 d1 d2 d3 ex ey ez
  unfold t8_ageAs
  rw [if_pos kr, if_pos kq, e1, n_bs, m_t_p, if_pos kr, m_t_p, if_pos kq, n_gp_n (by omega), n_gp_n (by omega), e2, n_bs, m_t_p, m_t_p, if_pos kr, m_t_p, m_t_p, if_pos kq, n_gp_n (by omega), n_gp_n (by omega), n_gp_n (by omega), n_gp_n (by omega), e3, n_bs]
theorem n_joinC {h : m_H} {s u k q1 q2 l1 l2 : Int} (I : n_I h) (F : n_stF h q1 s) (F' : n_stF h q2 u) (c1 : 0 ≤ m_g h 2 1) (c2 : m_g h 2 1 < 100) (e1' : m_g h (m_g h q1 3) 1 = l1) (e2' : m_g h (m_g h q2 3) 1 = l2) (l1b : 1 ≤ l1 ∧ l1 ≤ 300) (l2b : 1 ≤ l2 ∧ l2 ≤ 300) (k0 : 0 ≤ k) (k1 : k ≤ 20) (k2 : k ≤ l1) (k3 : k ≤ l2) (nb : l1 + l2 - k ≤ 300) : ∃ h1 h4 h5, t7_beginOf 2 4 (l1 + l2 - k) q1 h = some (m_n h, h1) ∧ n_stF h1 q2 u ∧ m_t h1 (m_n h) = 8 ∧ m_g h1 q2 0 = u ∧ t8_ageAs (m_n h) q2 (m_p h1 (m_n h) 10 u) = some ((), h4) ∧ (m_t h4 (m_n h) = 8 ∧ m_t h4 q1 = 8 ∧ m_t h4 q2 = 8 ∧ m_g h4 (m_n h) 3 = m_n h + 1 ∧ m_t h4 (m_n h + 1) = 5 ∧ m_g h4 q1 3 = m_g h q1 3 ∧ m_g h4 q2 3 = m_g h q2 3) ∧ t5_fillJoined (m_n h + 1) (m_g h q1 3) (m_g h q2 3) k h4 = some ((), h5) ∧ n_new h h5 4 s u 0 (max (m_g h q1 5) (m_g h q2 5)) (max (m_g h q1 6) (m_g h q2 6)) (max (m_g h q1 7) (m_g h q2 7)) (l1 + l2 - k) (n_jn (n_rg h (m_g h q1 3)) (n_rg h (m_g h q2 3)) (l1 - k) k) := by
  obtain ⟨h1, f0, e1, A1⟩ := n_beginOf (kd := 4) (n := l1 + l2 - k) I F c1 c2 (by omega) nb
  obtain ⟨F1, O1, -, -, lq, lr⟩ := n_stF_new I F A1
  obtain ⟨G1, P1, -, -, mq, mr⟩ := n_stF_new I F' A1
  have A2 := n_new_f (v := u) (j := 10) I A1 (by decide)
  have A3 := n_new_f (v := max (m_g h q1 5) (m_g h q2 5)) (j := 5) I A2 (by decide)
  have A4 := n_new_f (v := max (m_g h q1 6) (m_g h q2 6)) (j := 6) I A3 (by decide)
  have A5 := n_new_f (v := max (m_g h q1 7) (m_g h q2 7)) (j := 7) I A4 (by decide)
  simp only [Int.reduceEq, ↓reduceIte] at A2 A3 A4 A5
  have FA := A2.2.2.2.2.1
  have k2' := A2.2.2.2.1.1
  obtain ⟨G2, P2, -, -, -, -⟩ := n_stF_new I F' A2
  obtain ⟨F5, O5, Or5, Ol5, -, -⟩ := n_stF_new I F A5
  obtain ⟨G5, P5, Pr5, Pl5, -, -⟩ := n_stF_new I F' A5
  have f5 := FA.2.2.2.2.2.1
  have f6 := FA.2.2.2.2.2.2.1
  have f7 := FA.2.2.2.2.2.2.2.1
  have ag := n_ageAs (h := m_p h1 (m_n h) 10 u) (r := m_n h) (q := q2) (x := max (m_g h q1 5) (m_g h q2 5)) (y := max (m_g h q1 6) (m_g h q2 6)) (z := max (m_g h q1 7) (m_g h q2 7)) k2' G2.1.1 (by omega) (by rw [f5]; exact F.2.2.1) (by rw [f6]; exact F.2.2.2.1) (by rw [f7]; exact F.2.2.2.2.1) G2.2.2.1 G2.2.2.2.1 G2.2.2.2.2.1 (by rw [f5, P2]) (by rw [f6, P2]) (by rw [f7, P2])
  generalize m_p (m_p (m_p (m_p h1 (m_n h) 10 u) (m_n h) 5 (max (m_g h q1 5) (m_g h q2 5))) (m_n h) 6 (max (m_g h q1 6) (m_g h q2 6))) (m_n h) 7 (max (m_g h q1 7) (m_g h q2 7)) = h4 at *
  have kr := A5.2.2.2.1.2.1
  have r5 : m_t h4 (m_g h q1 3) = 5 := by have := F5.1.2.2.1; rw [O5] at this; exact this
  have s5 : m_t h4 (m_g h q2 3) = 5 := by have := G5.1.2.2.1; rw [P5] at this; exact this
  obtain ⟨h5, e5, B5⟩ := n_fillJoined (v := m_n h + 1) (w := m_g h q1 3) (u := m_g h q2 3) (k := k) A5.1.1 kr r5 s5 (by omega) (by omega) (fun j => by rw [Or5]; exact F.2.2.2.2.2 j) (fun j => by rw [Pr5]; exact F'.2.2.2.2.2 j) (by omega) (by omega) k0 k1 (by omega) (by omega)
  rw [Ol5, Pl5, e1', e2', show n_rg h4 (m_g h q1 3) = n_rg h (m_g h q1 3) from funext Or5, show n_rg h4 (m_g h q2 3) = n_rg h (m_g h q2 3) from funext Pr5] at B5
  have A6 := n_new_rw I A5 B5
  exact ⟨h1, h4, h5, e1, G1, A1.2.2.2.1.1, (P1 0).trans F'.2.1, ag, ⟨A5.2.2.2.1.1, F5.1.1, G5.1.1, A5.2.2.2.2.1.2.2.2.1, kr, O5 3, P5 3⟩, e5, A6⟩
