/-! CALLS: lead: two fields of a cell that walk -/
def n_h2 (h : m_H) (a i1 i2 o x : Int) : m_H := (fun b j => if b = a ∧ j = i1 then o else if b = a ∧ j = i2 then x else m_g h b j, h.2)
theorem n_g_h2 (h : m_H) (a i1 i2 o x b j : Int) : m_g (n_h2 h a i1 i2 o x) b j = if b = a ∧ j = i1 then o else if b = a ∧ j = i2 then x else m_g h b j := rfl
theorem n_h2_1 {h : m_H} {a i1 i2 o x : Int} (hi : i1 ≠ i2) : m_g (n_h2 h a i1 i2 o x) a i1 = o ∧ m_g (n_h2 h a i1 i2 o x) a i2 = x := by
  rw [n_g_h2, n_g_h2, if_pos ⟨rfl, rfl⟩, if_neg (fun q => hi q.2.symm), if_pos ⟨rfl, rfl⟩]
  exact ⟨rfl, rfl⟩
theorem n_h2_o {h : m_H} {a i1 i2 o x b j : Int} (c : b ≠ a ∨ (j ≠ i1 ∧ j ≠ i2)) : m_g (n_h2 h a i1 i2 o x) b j = m_g h b j := by
  rw [n_g_h2, if_neg (by omega), if_neg (by omega)]
theorem n_h2_p1 {h : m_H} {a i1 i2 o x y : Int} : m_p (n_h2 h a i1 i2 o x) a i1 y = n_h2 h a i1 i2 y x := by
  refine n_ext rfl fun b j => ?_
  rw [m_g_p, n_g_h2, n_g_h2]
  by_cases c : b = a ∧ j = i1
  · rw [if_pos c, if_pos c]
  · rw [if_neg c, if_neg c, if_neg c]
theorem n_h2_p2 {h : m_H} {a i1 i2 o x y : Int} (hi : i1 ≠ i2) : m_p (n_h2 h a i1 i2 o x) a i2 y = n_h2 h a i1 i2 o y := by
  refine n_ext rfl fun b j => ?_
  rw [m_g_p, n_g_h2, n_g_h2]
  by_cases c : b = a ∧ j = i2
  · rw [if_pos c, if_neg (by omega), if_pos c]
  · rw [if_neg c, if_neg c, if_neg c]
theorem n_h2_pp {h : m_H} {a i1 i2 o x : Int} (hi : i1 ≠ i2) : m_p (m_p h a i1 o) a i2 x = n_h2 h a i1 i2 o x := by
  refine n_ext rfl fun b j => ?_
  rw [m_g_p, m_g_p, n_g_h2]
  by_cases c : b = a ∧ j = i2
  · rw [if_pos c, if_neg (by omega), if_pos c]
  · rw [if_neg c, if_neg c]
theorem n_h2_as {h : m_H} {a i1 i2 o : Int} (hi : i1 ≠ i2) : m_p h a i1 o = n_h2 h a i1 i2 o (m_g h a i2) := by
  refine n_ext rfl fun b j => ?_
  rw [m_g_p, n_g_h2]
  by_cases c : b = a ∧ j = i1
  · rw [if_pos c, if_pos c]
  · rw [if_neg c, if_neg c]
    by_cases d : b = a ∧ j = i2
    · rw [if_pos d, d.1, d.2]
    · rw [if_neg d]
/-- nothing but two fields of cell 106 has changed -/
theorem n_Rpc_67 {h hc : m_H} (I : n_I h) (e : ∀ b, b ≠ 106 → m_g hc b = m_g h b) (a2 : m_g hc 106 2 = m_g h 106 2) (a3 : m_g hc 106 3 = m_g h 106 3) (l43 : m_g h 127 43 ≤ 8) (X : n_Rpc h h) : n_Rpc hc hc := by
  obtain ⟨x1, x2, x3, x4, x5⟩ := X
  have e127 := e 127 (by omega)
  have na : m_g h 107 0 ≠ 106 := fun q => by
    have := (n_wf_row I.1 (n_t107 I.2)).2.1
    rw [q, n_t106 I.2] at this
    omega
  have rg : ∀ j, n_rg hc 107 j = n_rg h 107 j := fun j => by
    unfold n_rg
    rw [e 107 (by omega), e _ na]
  refine ⟨by rw [a3, e127]; exact x1, by rw [e127]; exact x2, by rw [e127]; exact x3, fun q => by rw [e127] at q; rw [a2, e 109 (by omega), e 107 (by omega)]; exact x4 q, fun q => ?_⟩
  rw [e127] at q ⊢
  have Y := x5 q
  generalize m_g h 127 60 = k at Y q x3 ⊢
  have off : n_off hc k = n_off h k := by
    funext n
    induction n with
    | zero => rfl
    | succ n ih => unfold n_off; rw [ih, e (153 + k) (by omega), e (213 + k) (by omega)]
  have eL : ∀ o, n_lenR hc k o = n_lenR h k o := fun o => by
    unfold n_lenR
    rw [e127, e 286 (by omega), e 142 (by omega), e (153 + k) (by omega), e (163 + k) (by omega), e (173 + k) (by omega), e (183 + k) (by omega), e (193 + k) (by omega)]
  unfold n_piece at *
  simp only [rg, eL]
  rw [a2, off, e127, e 19 (by omega), e 107 (by omega), e 112 (by omega), e 113 (by omega), e 151 (by omega), e 285 (by omega), e 286 (by omega), e 287 (by omega), e 288 (by omega), e 289 (by omega), e 290 (by omega), e 291 (by omega), e (153 + k) (by omega), e (163 + k) (by omega), e (183 + k) (by omega), e (193 + k) (by omega), e (213 + k) (by omega), e (223 + k) (by omega)]
  exact Y
theorem n_R67 {h : m_H} {k : Int} (X : n_R h k) (o x : Int) : n_R (n_h2 h 106 6 7 o x) k := by
  have X' := X
  obtain ⟨I, gs, bud, x1, x2, x3, x4, x5, x6, x7⟩ := X'
  have t106 := n_t106 I.2
  have e : ∀ b, b ≠ 106 → m_g (n_h2 h 106 6 7 o x) b = m_g h b := fun b hb => funext fun j => n_h2_o (Or.inl hb)
  have J : n_I (n_h2 h 106 6 7 o x) := by
    rw [← n_h2_pp (by omega)]
    exact n_I_p (n_I_p I (by omega) (by omega) rfl) (by rw [m_t_p]; omega) (by rw [m_t_p]; omega) rfl
  have K : n_kp h (n_h2 h 106 6 7 o x) [106] [] := ⟨fun _ _ => ⟨rfl, rfl⟩, Int.le_refl _, fun b _ q _ _ j => by rw [e b (by simpa using q)], fun r hr => Or.inl (by rw [e r (fun z => by rw [z] at hr; omega)])⟩
  have s106 : n_sf h 106 := n_sfa I (by omega) (by omega) (Or.inl (by omega))
  have P : n_sp h (n_h2 h 106 6 7 o x) [106] [] [] [] := n_sp_of I K n_kr_rfl (n_in1 ⟨s106, Or.inl (by omega)⟩) n_no
  have nos : n_nos [] [] := by unfold n_nos; simp
  have nosc : n_nosc [] := by unfold n_nosc; simp
  obtain ⟨g0, g1, g2, g3, g4, g5, g6, g7⟩ := n_fr X P
  have M := g7 nos (by decide) (by decide) (by rw [e 2 (by omega)]) (by decide) (by decide)
  refine ⟨J, g0 nos, n_bud_same I rfl (fun r hr => by rw [e r (fun z => by rw [z] at hr; omega)]) bud, g1 (by decide) (by decide) (by decide), g2 (by decide) (by decide) (by decide), g3 nos (n_in1 ⟨Or.inr (by omega), by omega, by omega⟩) n_no, g4 (by decide) (by decide) (by decide) (by decide), g5 nosc (by decide) (n_in1 ⟨by omega, by omega, Or.inl (by omega)⟩), n_Rpc_67 I e (n_h2_o (Or.inr ⟨by omega, by omega⟩)) (n_h2_o (Or.inr ⟨by omega, by omega⟩)) x5.2.2.1 x6, ?_⟩
  unfold n_Rm at *
  refine ⟨M.1, M.2.1, M.2.2.1, M.2.2.2.1, ?_, M.2.2.2.2.2⟩
  rw [e 2 (by omega)]
  exact x7.2.2.2.2.1
/-- one step back: from order o and its place x to an order ahead and a place in that -/
def n_ls (g : m_H) (k o x : Int) : Int × Int :=
  if m_g g (153 + k) o = 2 then (m_g g (163 + k) o, x + m_g g (183 + k) o)
  else if m_g g (153 + k) o = 3 then (m_g g (163 + k) o, m_g g 286 (m_g g (163 + k) o) - 1 - x)
  else if m_g g (153 + k) o = 4 then (m_g g (163 + k) o, Int.tdiv (x * m_g g (183 + k) o) (m_g g (193 + k) o))
  else if m_g g (153 + k) o = 5 then (if x < m_g g 286 (m_g g (163 + k) o) then (m_g g (163 + k) o, x) else (m_g g (173 + k) o, x + (m_g g (183 + k) o - m_g g 286 (m_g g (163 + k) o))))
  else if m_g g (153 + k) o = 6 then (m_g g (163 + k) o, Int.tmod x (m_g g 286 (m_g g (163 + k) o)))
  else if m_g g (153 + k) o = 8 then (m_g g (163 + k) o, Int.tdiv (x * (1000 + m_g g 142 (m_g g (183 + k) o))) 1000)
  else (m_g g (163 + k) o, x)
theorem n_tdle {x p q M L : Int} (x0 : 0 ≤ x) (x1 : x ≤ L) (p0 : 0 ≤ p) (q1 : 1 ≤ q) (h : L * p ≤ M * q) : 0 ≤ Int.tdiv (x * p) q ∧ Int.tdiv (x * p) q ≤ M := by
  have e0 : 0 ≤ x * p := Int.mul_nonneg x0 p0
  have e1 : x * p ≤ L * p := Int.mul_le_mul_of_nonneg_right x1 p0
  obtain ⟨t1, t2, t3, t4, t5, t6⟩ := n_td e0 q1
  refine ⟨t1, ?_⟩
  by_cases c : Int.tdiv (x * p) q ≤ M
  · exact c
  · have e2 : (M + 1) * q ≤ Int.tdiv (x * p) q * q := Int.mul_le_mul_of_nonneg_right (by omega) (by omega)
    have e3 : (M + 1) * q = M * q + q := by rw [Int.add_mul, Int.one_mul]
    omega
/-- what a step needs -/
theorem n_stp {h : m_H} {k a o x : Int} (G : n_gs h) (C : n_pc h k a) (o0 : 0 ≤ o) (o1 : o < m_g h 151 k) (v1 : 2 ≤ m_g h (153 + k) o) (v2 : m_g h (153 + k) o ≠ 12) (x0 : 0 ≤ x) (x1 : x < m_g h 286 o) : (0 ≤ (n_ls h k o x).1 ∧ (n_ls h k o x).1 < o) ∧ m_g h (153 + k) (n_ls h k o x).1 ≠ 12 ∧ 0 ≤ (n_ls h k o x).2 ∧ (n_ls h k o x).2 < m_g h 286 (n_ls h k o x).1 := by
  have B := n_scc_b C.1 o0 o1
  obtain ⟨-, -, -, -, -, p, -, -, pl⟩ := C.2.2.1
  have L := pl o o0 o1
  have bv := B.2.1
  clear pl
  have q1 := B.2.2.2.1 (by omega)
  have len := fun y (y0 : 0 ≤ y) (y1 : y < m_g h 151 k) (yv : m_g h (153 + k) y ≠ 12) => (p y y0 y1).2.2.2.1 yv
  have n1 := (len (m_g h (163 + k) o) q1.1 (by omega) q1.2.2).2
  have n0 := (len o o0 o1 v2).2
  unfold n_ls
  by_cases c2 : m_g h (153 + k) o = 2
  · rw [if_pos c2]
    have := L.1 c2
    have := B.2.2.2.2.2.2.1 (by omega)
    exact ⟨⟨q1.1, q1.2.1⟩, q1.2.2, show 0 ≤ x + m_g h (183 + k) o by omega, show x + m_g h (183 + k) o < m_g h 286 (m_g h (163 + k) o) by omega⟩
  rw [if_neg c2]
  by_cases c3 : m_g h (153 + k) o = 3
  · rw [if_pos c3]
    have := L.2.1 (by omega)
    exact ⟨⟨q1.1, q1.2.1⟩, q1.2.2, show 0 ≤ m_g h 286 (m_g h (163 + k) o) - 1 - x by omega, show m_g h 286 (m_g h (163 + k) o) - 1 - x < m_g h 286 (m_g h (163 + k) o) by omega⟩
  rw [if_neg c3]
  by_cases c4 : m_g h (153 + k) o = 4
  · rw [if_pos c4]
    have z := L.2.2.1 c4
    have y := B.2.2.2.2.2.2.2.2.2.1 c4
    have := n_tdle (x := x) (p := m_g h (183 + k) o) (q := m_g h (193 + k) o) (M := m_g h 286 (m_g h (163 + k) o) - 1) (L := m_g h 286 o - 1) x0 (by omega) (by omega) y.2.2.1 z
    exact ⟨⟨q1.1, q1.2.1⟩, q1.2.2, this.1, show Int.tdiv (x * m_g h (183 + k) o) (m_g h (193 + k) o) < m_g h 286 (m_g h (163 + k) o) by omega⟩
  rw [if_neg c4]
  by_cases c5 : m_g h (153 + k) o = 5
  · rw [if_pos c5]
    have z := L.2.2.2.1 c5
    have y := B.2.2.2.2.2.1 c5
    have n2 := (len (m_g h (173 + k) o) y.1 (by omega) y.2.2).2
    have := B.2.2.2.2.2.2.1 (by omega)
    by_cases d : x < m_g h 286 (m_g h (163 + k) o)
    · rw [if_pos d]
      exact ⟨⟨q1.1, q1.2.1⟩, q1.2.2, x0, d⟩
    · rw [if_neg d]
      exact ⟨⟨y.1, y.2.1⟩, y.2.2, show 0 ≤ x + (m_g h (183 + k) o - m_g h 286 (m_g h (163 + k) o)) by omega, show x + (m_g h (183 + k) o - m_g h 286 (m_g h (163 + k) o)) < m_g h 286 (m_g h (173 + k) o) by omega⟩
  rw [if_neg c5]
  by_cases c6 : m_g h (153 + k) o = 6
  · rw [if_pos c6]
    have t := n_td (x := x) (q := m_g h 286 (m_g h (163 + k) o)) x0 n1.1
    exact ⟨⟨q1.1, q1.2.1⟩, q1.2.2, t.2.2.2.2.1, t.2.2.2.2.2⟩
  rw [if_neg c6]
  by_cases c8 : m_g h (153 + k) o = 8
  · rw [if_pos c8]
    have z := L.2.2.2.2 c8
    have y := B.2.2.2.2.2.2.1 (by omega)
    have mb := G.2.2.1 (m_g h (183 + k) o) y.1 z.1
    unfold n_macB at mb
    have := n_tdle (x := x) (p := 1000 + m_g h 142 (m_g h (183 + k) o)) (q := 1000) (M := m_g h 286 (m_g h (163 + k) o) - 1) (L := m_g h 286 o - 1) x0 (by omega) (by omega) (by omega) z.2
    exact ⟨⟨q1.1, q1.2.1⟩, q1.2.2, this.1, show Int.tdiv (x * (1000 + m_g h 142 (m_g h (183 + k) o))) 1000 < m_g h 286 (m_g h (163 + k) o) by omega⟩
  rw [if_neg c8]
  have := L.2.1 (by omega)
  exact ⟨⟨q1.1, q1.2.1⟩, q1.2.2, x0, show x < m_g h 286 (m_g h (163 + k) o) by omega⟩
