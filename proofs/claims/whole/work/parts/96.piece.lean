/-! CALLS: why, lead, quarrel: the piece as both read it -/
def n_bg (g : m_H) (k o j : Int) : Int := m_g g (183 + k) o + j * m_g g (223 + k) o
def n_ln (g : m_H) (k o : Int) : Int := m_g g 286 (m_g g (163 + k) o)
def n_tm (g : m_H) (k o : Int) : Int := if m_g g (153 + k) o = 12 then m_g g (213 + k) o else 0
/-- laying j of order o has the time t -/
def n_ov (g : m_H) (k o t j : Int) : Prop := n_bg g k o j ≤ t ∧ t < n_bg g k o j + n_ln g k o
/-- what is known of the piece that was made last, of score k at the cell a -/
def n_pc (h : m_H) (k a : Int) : Prop := n_scc h h k a ∧ m_g h 106 2 = a ∧ n_piece h h k ∧ m_g h 127 60 = k ∧ 0 ≤ k ∧ k < m_g h 127 43
theorem n_pc_of {h : m_H} (S : n_Rsc h h) (P : n_Rpc h h) (c : m_g h 127 60 ≠ -1) : n_pc h (m_g h 127 60) (m_g h 19 (m_g h 127 60)) := by
  obtain ⟨p1, p2, p3, p4, p5⟩ := P
  have y := p5 (by omega)
  exact ⟨n_scc_of S (by omega) p3, y.1, y, rfl, by omega, p3⟩
theorem n_mulq {j x A B : Int} (j0 : 0 ≤ j) (j1 : j ≤ A) (x0 : 0 ≤ x) (x1 : x ≤ B) : 0 ≤ j * x ∧ j * x ≤ A * B := ⟨Int.mul_nonneg j0 x0, Int.le_trans (Int.mul_le_mul_of_nonneg_right j1 x0) (Int.mul_le_mul_of_nonneg_left x1 (by omega))⟩
/-- a put's numbers -/
theorem n_putB {g : m_H} {k o : Int} (b : n_ordB g k o) (v : m_g g (153 + k) o = 12) : (0 ≤ m_g g (163 + k) o ∧ m_g g (163 + k) o < o ∧ m_g g (153 + k) (m_g g (163 + k) o) ≠ 12) ∧ (0 ≤ m_g g (183 + k) o ∧ m_g g (183 + k) o ≤ 1500) ∧ (0 ≤ m_g g (193 + k) o ∧ m_g g (193 + k) o ≤ 15) ∧ (1 ≤ m_g g (213 + k) o ∧ m_g g (213 + k) o ≤ 9) ∧ 0 ≤ m_g g (223 + k) o ∧ m_g g (223 + k) o ≤ 999 := by
  obtain ⟨b1, b2, b3, b4, b5, b6, b7, b8, b9, b10, b11, b12, b13, b14, b15, b16, b17⟩ := b
  have q := b17 v
  exact ⟨b4 (by omega), b7 (by omega), ⟨q.1, q.2.1⟩, ⟨q.2.2.1, q.2.2.2.1⟩, q.2.2.2.2⟩
theorem n_bg_b {g : m_H} {k o j : Int} (b : n_ordB g k o) (v : m_g g (153 + k) o = 12) (j0 : 0 ≤ j) (j1 : j ≤ 9) : 0 ≤ n_bg g k o j ∧ n_bg g k o j ≤ 10500 := by
  obtain ⟨p1, p2, p3, p4, p5⟩ := n_putB b v
  have := n_mulq j0 j1 p5.1 p5.2
  unfold n_bg
  omega
theorem n_tm_b {g : m_H} {k o : Int} (b : n_ordB g k o) : 0 ≤ n_tm g k o ∧ n_tm g k o ≤ 9 ∧ (0 < n_tm g k o → m_g g (153 + k) o = 12) := by
  unfold n_tm
  by_cases v : m_g g (153 + k) o = 12
  · have := (n_putB b v).2.2.2.1
    rw [if_pos v]
    exact ⟨by omega, by omega, fun _ => v⟩
  · rw [if_neg v]
    exact ⟨by omega, by omega, fun q => by omega⟩
theorem n_ln_b {h : m_H} {k a o : Int} (C : n_pc h k a) (o0 : 0 ≤ o) (o1 : o < m_g h 151 k) (v : m_g h (153 + k) o = 12) : 1 ≤ n_ln h k o ∧ n_ln h k o ≤ 1500 ∧ m_g h 112 o = n_ln h k o := by
  have b := (n_putB (n_scc_b C.1 o0 o1) v).1
  obtain ⟨-, -, -, -, -, p, -⟩ := C.2.2.1
  have p1 := (p (m_g h (163 + k) o) b.1 (by omega)).2.2.2.1 b.2.2
  exact ⟨p1.2.1, p1.2.2, (p o o0 o1).2.2.2.2 v⟩
theorem n_pcI {h : m_H} {k a : Int} (C : n_pc h k a) : m_g h 106 2 = a ∧ m_t h a = 6 := ⟨C.2.1, n_scc_t C.1⟩
theorem n_timesC {h : m_H} {k a o : Int} (I : n_I h) (C : n_pc h k a) (o0 : 0 ≤ o) (o1 : o < m_g h 151 k) : t2_times 106 o h = some (n_tm h k o, h) := by
  obtain ⟨c1, c2⟩ := n_pcI C
  have q := n_scc_o C.1 o0 o1
  have b := n_scc_b C.1 o0 o1
  unfold t2_times n_tm
  rw [if_pos (n_t106 I.2), c1, if_pos c2, n_cell I C.1 o0 o1 (by omega) (by omega), n_bs]
  show some (m_g h (m_g h a 0) (8 * o + 6), h) = _
  by_cases v : m_g h (153 + k) o = 12
  · rw [if_pos v, (q.2.2.2.2.2.2.1 v).1]
  · rw [if_neg v, (q.2.2.2.2.2.2.2 v).1]
theorem n_beginC {h : m_H} {k a o j : Int} (I : n_I h) (C : n_pc h k a) (o0 : 0 ≤ o) (o1 : o < m_g h 151 k) (v : m_g h (153 + k) o = 12) : t2_beginOf 106 o j h = some (n_bg h k o j, h) := by
  obtain ⟨c1, c2⟩ := n_pcI C
  have q := n_scc_o C.1 o0 o1
  unfold t2_beginOf n_bg
  rw [if_pos (n_t106 I.2), c1, if_pos c2, n_cell I C.1 o0 o1 (by omega) (by omega), n_bs]
  show (if m_t h 106 = 2 then if m_t h (m_g h 106 2) = 6 then t6_cell (m_g h 106 2) o 7 h >>= _ else none else none) = _
  rw [if_pos (n_t106 I.2), c1, if_pos c2, n_cell I C.1 o0 o1 (by omega) (by omega), n_bs]
  show some (m_g h (m_g h a 0) (8 * o + 3) + j * m_g h (m_g h a 0) (8 * o + 7), h) = _
  rw [q.2.2.2.1 (by omega), (q.2.2.2.2.2.2.1 v).2]
theorem n_lengthC {h : m_H} {k a o : Int} (I : n_I h) (C : n_pc h k a) (o0 : 0 ≤ o) (o1 : o < m_g h 151 k) : t2_length 106 o h = some (m_g h 112 o, h) := by
  have l := n_l112 I.2
  have c3 := C.1.2.2.1
  unfold t2_length
  rw [if_pos (n_t106 I.2), n_p106_4 I.2, n_entry_y (n_t112 I.2) (by omega) o0 (by omega), n_bs]
/-- where the earliest laying of an order begins that has the time t -/
def n_bw (g : m_H) (k o t r : Int) : Prop := (r = -1 ∧ ∀ j, 0 ≤ j → j < n_tm g k o → ¬ n_ov g k o t j) ∨ (∃ j, 0 ≤ j ∧ j < n_tm g k o ∧ n_ov g k o t j ∧ r = n_bg g k o j ∧ ∀ i, 0 ≤ i → i < j → ¬ n_ov g k o t i)
theorem n_beginWith {h : m_H} {k a o t : Int} (I : n_I h) (C : n_pc h k a) (o0 : 0 ≤ o) (o1 : o < m_g h 151 k) (t1 : -2147483648 ≤ t) (t2 : t < 2147483648) : ∃ r, t2_beginWith 106 o t h = some (r, h) ∧ n_bw h k o t r := by
  have b := n_scc_b C.1 o0 o1
  have tb := n_tm_b b
  have nv : ∀ j, 0 ≤ j → j < n_tm h k o → t2_beginWith_c2 106 o t j h = if n_bg h k o j ≤ t ∧ t < n_bg h k o j + n_ln h k o then some (n_bg h k o j, h) else t2_beginWith_c2 106 o t (j + 1) h := fun j j0 j1 => by
    have v := tb.2.2 (by omega)
    have bb := n_bg_b b v j0 (by omega)
    have lb := n_ln_b C o0 o1 v
    rw [t2_beginWith_c2, if_pos (n_t106 I.2), n_timesC I C o0 o1, n_bs]
    show (if m_w j < m_w (n_tm h k o) then if m_t h 106 = 2 then t2_beginOf 106 o j h >>= _ else none else some (-1, h)) = _
    rw [m_w_of (x := j) (by omega) (by omega), m_w_of (x := n_tm h k o) (by omega) (by omega), if_pos j1, if_pos (n_t106 I.2), n_beginC I C o0 o1 v, n_bs]
    show (if m_w t < m_w (n_bg h k o j) then t2_beginWith_c2 106 o t (j + 1) h else if m_t h 106 = 2 then t2_length 106 o h >>= _ else none) = _
    rw [m_w_of t1 t2, m_w_of (x := n_bg h k o j) (by omega) (by omega), if_pos (n_t106 I.2), n_lengthC I C o0 o1, n_bs, lb.2.2]
    show (if t < n_bg h k o j then t2_beginWith_c2 106 o t (j + 1) h else if t < m_w (n_bg h k o j + n_ln h k o) then some (n_bg h k o j, h) else t2_beginWith_c2 106 o t (j + 1) h) = _
    rw [m_w_of (x := n_bg h k o j + n_ln h k o) (by omega) (by omega)]
    by_cases c : t < n_bg h k o j
    · rw [if_pos c, if_neg (by omega)]
    · rw [if_neg c]
      by_cases d : t < n_bg h k o j + n_ln h k o
      · rw [if_pos d, if_pos ⟨by omega, d⟩]
      · rw [if_neg d, if_neg (fun q => d q.2)]
  have ne : t2_beginWith_c2 106 o t (n_tm h k o) h = some (-1, h) := by
    rw [t2_beginWith_c2, if_pos (n_t106 I.2), n_timesC I C o0 o1, n_bs]
    show (if m_w (n_tm h k o) < m_w (n_tm h k o) then _ else some (-1, h)) = _
    rw [if_neg (by omega)]
  unfold t2_beginWith
  rcases n_find (fun j => t2_beginWith_c2 106 o t j h) 0 (n_tm h k o) (fun j => n_ov h k o t j) tb.1 (fun j j0 j1 hp => by
    show t2_beginWith_c2 106 o t j h = t2_beginWith_c2 106 o t (j + 1) h
    rw [nv j j0 j1]
    exact if_neg hp) with ⟨x, y⟩ | ⟨j, x, y, c, d, e⟩
  · exact ⟨-1, y.trans ne, Or.inl ⟨rfl, x⟩⟩
  · refine ⟨n_bg h k o j, e.trans ?_, Or.inr ⟨j, x, y, c, rfl, d⟩⟩
    show t2_beginWith_c2 106 o t j h = _
    rw [nv j x y]
    exact if_pos c
/-- whether one of the first n layings of o has the time t -/
def n_ovN (g : m_H) (k o t : Int) : Nat → Bool
  | 0 => false
  | n + 1 => n_ovN g k o t n || decide (n_bg g k o n ≤ t ∧ t < n_bg g k o n + n_ln g k o)
theorem n_ovN_t {g : m_H} {k o t : Int} : ∀ n : Nat, n_ovN g k o t n = true ↔ ∃ j : Int, 0 ≤ j ∧ j < n ∧ n_ov g k o t j
  | 0 => by
    unfold n_ovN
    constructor
    · intro q; cases q
    · intro ⟨j, a, b, c⟩; omega
  | n + 1 => by
    unfold n_ovN
    rw [Bool.or_eq_true, n_ovN_t n, decide_eq_true_eq]
    constructor
    · intro q
      rcases q with ⟨j, a, b, c⟩ | q
      · exact ⟨j, a, by omega, c⟩
      · exact ⟨n, by omega, by omega, q⟩
    · intro ⟨j, a, b, c⟩
      by_cases e : j = n
      · right; rw [e] at c; exact c
      · left; exact ⟨j, a, by omega, c⟩
def n_in0 (g : m_H) (k t o : Int) : Bool := n_ovN g k o t (n_tm g k o).toNat
theorem n_bw_in {g : m_H} {k o t r : Int} (b : n_ordB g k o) (B : n_bw g k o t r) : n_in0 g k t o = decide (r ≠ -1) ∧ -1 ≤ r ∧ r ≤ 10500 := by
  have tb := n_tm_b b
  have q := n_ovN_t (g := g) (k := k) (o := o) (t := t) (n_tm g k o).toNat
  unfold n_in0
  rcases B with ⟨e, f⟩ | ⟨j, j0, j1, c, e, f⟩
  · have : n_ovN g k o t (n_tm g k o).toNat = false := by
      cases hh : n_ovN g k o t (n_tm g k o).toNat
      · rfl
      · obtain ⟨j, x, y, z⟩ := q.mp hh
        exact absurd z (f j x (by omega))
    rw [this, decide_eq_false (by omega)]
    exact ⟨rfl, by omega, by omega⟩
  · have bb := n_bg_b b (tb.2.2 (by omega)) j0 (by omega)
    rw [q.mpr ⟨j, j0, by omega, c⟩, decide_eq_true (by omega)]
    exact ⟨rfl, by omega, by omega⟩
