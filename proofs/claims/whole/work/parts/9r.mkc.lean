/-! CALLS: make: the component notes leads, and lays -/
/-- the orders of score k stand at the cell a -/
def n_scw (x g : m_H) (k a : Int) : Prop := (m_t x a = 6 ∧ m_g x a 1 = m_g g 151 k ∧ m_t x (m_g x a 0) = 20 ∧ m_l x (m_g x a 0) = 8 * m_g g 151 k) ∧ (0 ≤ m_g g 151 k ∧ m_g g 151 k ≤ 40) ∧ (∀ o, 0 ≤ o → o < m_g g 151 k → n_ord x g k (m_g x a 0) o) ∧ ∀ o, 0 ≤ o → o < m_g g 151 k → n_ordB g k o
theorem n_scw_of {x g : m_H} {k a : Int} (I : n_I x) (C : n_scc x g k a) : n_scw x g k a :=
  ⟨⟨C.1.1.1, C.1.2.1, (I.1.2.2.2.2 a C.1.1.1).1, C.1.2.2.1⟩, C.2.2.1, C.1.2.2.2.2.1, C.2.2.2⟩
theorem n_scw_e {x y g : m_H} {k a : Int} (W : n_scw y g k a) (t1 : m_t x a = m_t y a) (t2 : m_t x (m_g y a 0) = m_t y (m_g y a 0)) (l2 : m_l x (m_g y a 0) = m_l y (m_g y a 0)) (e : ∀ j, j ≠ 2 → m_g x a j = m_g y a j) (e2 : ∀ j, m_g x (m_g y a 0) j = m_g y (m_g y a 0) j) : n_scw x g k a := by
  obtain ⟨⟨w1, w2, w3, w4⟩, w5, w6, w7⟩ := W
  have e0 := e 0 (by omega)
  refine ⟨⟨t1.trans w1, (e 1 (by omega)).trans w2, by rw [e0, t2]; exact w3, by rw [e0, l2]; exact w4⟩, w5, fun o o0 o1 => ?_, w7⟩
  have := w6 o o0 o1
  rw [e0]
  unfold n_ord at *
  simp only [e2]
  exact this
theorem n_cellW {x g : m_H} {k a o w : Int} (W : n_scw x g k a) (o0 : 0 ≤ o) (o1 : o < m_g g 151 k) (w0 : 0 ≤ w) (w1 : w < 8) : t6_cell a o w x = some (m_g x (m_g x a 0) (8 * o + w), x) := by
  obtain ⟨⟨s1, t2, q, t3⟩, C3, -, -⟩ := W
  unfold t6_cell
  rw [n_bs, m_w_of (x := o) (by omega) (by omega), if_neg (by omega), if_pos s1, t2, m_w_of (x := m_g g 151 k) (by omega) (by omega), if_pos o1, m_w_of (x := o * 8 + w) (by omega) (by omega), if_neg (by omega), if_pos (by omega), t3, m_w_of (x := 8 * m_g g 151 k) (by omega) (by omega), if_pos (by omega), if_pos ⟨q, by omega, by omega⟩, show o * 8 + w = 8 * o + w by omega]
theorem n_isPutW {x g : m_H} {k a o : Int} (W : n_scw x g k a) (o0 : 0 ≤ o) (o1 : o < m_g g 151 k) : t6_isPut a o x = some (decide (m_g g (153 + k) o = 12), x) := by
  have b := W.2.2.2 o o0 o1
  have b1 := b.1
  have b2 := b.2.1
  clear b
  unfold t6_isPut
  rw [if_pos W.1.1, n_cellW W o0 o1 (by omega) (by omega), n_bs]
  show (if m_w (m_g x (m_g x a 0) (8 * o + 0)) = 12 then some (true, x) else some (false, x)) = _
  rw [Int.add_zero, (W.2.2.1 o o0 o1).1, m_w_of (by omega) (by omega)]
  by_cases c : m_g g (153 + k) o = 12
  · rw [if_pos c, decide_eq_true c]
  · rw [if_neg c, decide_eq_false c]
theorem n_oneW {x g : m_H} {k a o : Int} (W : n_scw x g k a) (o0 : 0 ≤ o) (o1 : o < m_g g 151 k) : t6_one a o x = some (m_g g (163 + k) o, x) := by
  unfold t6_one
  rw [if_pos W.1.1, n_cellW W o0 o1 (by omega) (by omega), n_bs]
  show some (m_g x (m_g x a 0) (8 * o + 1), x) = _
  rw [(W.2.2.1 o o0 o1).2.1]
theorem n_timesW {x g : m_H} {k a o : Int} (I : n_I x) (e : m_g x 106 2 = a) (W : n_scw x g k a) (o0 : 0 ≤ o) (o1 : o < m_g g 151 k) : t2_times 106 o x = some (n_tm g k o, x) := by
  have q := W.2.2.1 o o0 o1
  unfold t2_times n_tm
  rw [if_pos (n_t106 I.2), e, if_pos W.1.1, n_cellW W o0 o1 (by omega) (by omega), n_bs]
  show some (m_g x (m_g x a 0) (8 * o + 6), x) = _
  by_cases v : m_g g (153 + k) o = 12
  · rw [if_pos v, (q.2.2.2.2.2.2.1 v).1]
  · rw [if_neg v, (q.2.2.2.2.2.2.2 v).1]
theorem n_beginW {x g : m_H} {k a o j : Int} (I : n_I x) (e : m_g x 106 2 = a) (W : n_scw x g k a) (o0 : 0 ≤ o) (o1 : o < m_g g 151 k) (v : m_g g (153 + k) o = 12) : t2_beginOf 106 o j x = some (n_bg g k o j, x) := by
  have q := W.2.2.1 o o0 o1
  unfold t2_beginOf n_bg
  rw [if_pos (n_t106 I.2), e, if_pos W.1.1, n_cellW W o0 o1 (by omega) (by omega), n_bs]
  dsimp only
  rw [if_pos (n_t106 I.2), e, if_pos W.1.1, n_cellW W o0 o1 (by omega) (by omega), n_bs]
  dsimp only
  rw [q.2.2.2.1 (by omega), (q.2.2.2.2.2.2.1 v).2]
/-- the leads are noted -/
theorem n_noteC {g : m_H} {k a : Int} {f : Int → Int} (I : n_I g) (C : n_scc g g k a) (D : ∀ o, 0 ≤ o → o < m_g g 151 k → m_g g 24 o = f o) : ∃ x, t3_noteLeads 20 a g = some ((), x) ∧ n_I x ∧ x.2 = g.2 ∧ (∀ b j, ¬ (b = a ∧ j = 2) → b ≠ m_g g a 3 → m_g x b j = m_g g b j) ∧ m_g x a 2 = 1 ∧ ∀ o, 0 ≤ o → o < m_g g 151 k → m_g x (m_g g a 3) o = f o := by
  have C3 := C.2.2.1
  have t6 := n_scc_t C
  have a3 := C.1.1.2.2.2.1
  have W := I.1.2.2.2.2 a t6
  have J1 : n_I (m_p g a 2 1) := n_I_p I (by omega) (fun _ => by omega) (n_key_big I.2 C.1.1.2.1 2)
  have na : m_g g a 3 ≠ a := fun q => by rw [q] at W; omega
  have r1 : ∀ b j, ¬ (b = a ∧ j = 2) → m_g (m_p g a 2 1) b j = m_g g b j := fun b j h => n_gp_n h
  have r2 : m_g (m_p g a 2 1) a 2 = 1 := n_gp_y ⟨rfl, rfl⟩
  have r3 : (m_p g a 2 1).2 = g.2 := rfl
  unfold t3_noteLeads
  rw [if_pos t6, n_bs]
  generalize m_p g a 2 1 = y at *
  have t6' : m_t y a = 6 := by rw [n_e2t r3]; exact t6
  have tb : m_t y (m_g g a 3) = 20 := by rw [n_e2t r3]; exact W.2.1
  have lb : m_l y (m_g g a 3) = 40 := by rw [n_e2l r3]; exact W.2.2.1
  have key := n_fill (fun i h => t3_noteLeads_c7 20 a i h) (h := y) (a := m_g g a 3) (lo := 0) (n := m_g g 151 k) f (by omega) (fun i i1 i2 => by
    show t3_noteLeads_c7 20 a i _ = t3_noteLeads_c7 20 a (i + 1) _
    have J : n_I (n_fl y (m_g g a 3) 0 i f) := n_I_fl J1 (Or.inl tb)
    have q : ∀ b j, b ≠ m_g g a 3 → m_g (n_fl y (m_g g a 3) 0 i f) b j = m_g y b j := fun b j hb => by rw [n_g_fl, if_neg (fun z => hb z.1)]
    have q2 : (n_fl y (m_g g a 3) 0 i f).2 = y.2 := rfl
    generalize n_fl y (m_g g a 3) 0 i f = z at *
    have l24 := n_l24 J.2
    have ea1 : m_g z a 1 = m_g g 151 k := (q a 1 (fun w => na w.symm)).trans ((r1 a 1 (by omega)).trans C.1.2.1)
    have ea3 : m_g z a 3 = m_g g a 3 := (q a 3 (fun w => na w.symm)).trans (r1 a 3 (by omega))
    have e24 : m_g z 24 i = f i := (q 24 i (by omega)).trans ((r1 24 i (by have := C.1.1.2.1; omega)).trans (D i i1 i2))
    rw [t3_noteLeads_c7, if_pos (by rw [n_e2t q2]; exact t6'), ea1, m_w_of (by omega) (by omega), m_w_of (by omega) (by omega), if_pos i2, if_pos (n_t20 J.2), n_p20_3 J.2, n_entry_y (n_t24 J.2) (by omega) i1 (by omega), n_bs]
    dsimp only
    rw [ea3, n_setEntry_y (by rw [n_e2t q2]; exact tb) (by rw [n_e2l q2, lb]; omega) i1 (by rw [n_e2l q2, lb]; omega), n_bs, e24])
  have J : n_I (n_fl y (m_g g a 3) 0 (m_g g 151 k) f) := n_I_fl J1 (Or.inl tb)
  have q : ∀ b j, b ≠ m_g g a 3 → m_g (n_fl y (m_g g a 3) 0 (m_g g 151 k) f) b j = m_g y b j := fun b j hb => by rw [n_g_fl, if_neg (fun z => hb z.1)]
  have qq : ∀ j, 0 ≤ j → j < m_g g 151 k → m_g (n_fl y (m_g g a 3) 0 (m_g g 151 k) f) (m_g g a 3) j = f j := fun j j0 j1 => by rw [n_g_fl, if_pos ⟨rfl, j0, j1⟩]
  have q2 : (n_fl y (m_g g a 3) 0 (m_g g 151 k) f).2 = y.2 := rfl
  refine ⟨n_fl y (m_g g a 3) 0 (m_g g 151 k) f, key.trans ?_, J, q2.trans r3, fun b j h1 h2 => (q b j h2).trans (r1 b j h1), (q a 2 (fun w => na w.symm)).trans r2, qq⟩
  show t3_noteLeads_c7 20 a (m_g g 151 k) _ = _
  generalize n_fl y (m_g g a 3) 0 (m_g g 151 k) f = z at *
  have ea1 : m_g z a 1 = m_g g 151 k := (q a 1 (fun w => na w.symm)).trans ((r1 a 1 (by omega)).trans C.1.2.1)
  rw [t3_noteLeads_c7, if_pos (by rw [n_e2t q2]; exact t6'), ea1, if_neg (by omega)]
