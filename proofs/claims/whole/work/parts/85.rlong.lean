/-! CALLS: remade, stretch, unfound: the reference's longest runs, by diagonals -/
/-- dealt with at the time t: as n_QD, and of the way w of the strip s the places p with t - p below b -/
def n_QB (g : m_H) (t s w b : Int) : Int → Int → Int → Prop := fun s' w' p => (0 ≤ s' ∧ 0 ≤ w' ∧ w' < 4 ∧ m_g g 133 s' < 2 ∧ 0 ≤ p ∧ p < n_wl g s' w') ∧ (s' < s ∨ (s' = s ∧ (w' < w ∨ (w' = w ∧ t - p < b))))
theorem n_QB_next {g : m_H} {m t s w b L : Int} (X : n_isQ g m t (n_QB g t s w b) L) (c : t < b ∨ b + n_wl g s w ≤ t) : n_isQ g m t (n_QB g t s w (b + 1)) L :=
  n_isQ_iff X (fun s' w' p => by
    unfold n_QB
    constructor
    · intro ⟨q1, q2⟩; exact ⟨q1, by omega⟩
    · intro ⟨q1, q2⟩
      refine ⟨q1, ?_⟩
      by_cases e : s' = s ∧ w' = w
      · obtain ⟨e1, e2⟩ := e
        subst e1 e2
        omega
      · omega)
theorem n_QB_add {g : m_H} {m t s w b L : Int} (X : n_isQ g m t (n_QB g t s w b) L) (s0 : 0 ≤ s) (d : m_g g 133 s < 2) (w0 : 0 ≤ w) (w1 : w < 4) (c1 : b ≤ t) (c2 : t < b + n_wl g s w) : n_isQ g m t (n_QB g t s w (b + 1)) (max L (n_run g m s w t (t - b))) :=
  n_isQ_add X (s0 := s) (w0 := w) (p0 := t - b) (fun s' w' p => by
    unfold n_QB
    constructor
    · intro ⟨q1, q2⟩
      by_cases e : s' = s ∧ w' = w ∧ p = t - b
      · exact Or.inr e
      · exact Or.inl ⟨q1, by omega⟩
    · intro q
      rcases q with ⟨q1, q2⟩ | ⟨e1, e2, e3⟩
      · exact ⟨q1, by omega⟩
      · subst e1 e2 e3
        exact ⟨⟨s0, w0, w1, d, by omega, by omega⟩, by omega⟩)
theorem n_QB_begin {g : m_H} {m t s w L : Int} (X : n_isQ g m t (n_QD g s w) L) (t0 : 0 ≤ t) : n_isQ g m t (n_QB g t s w (1 - n_wl g s w)) L :=
  n_isQ_iff X (fun s' w' p => by
    unfold n_QD n_QB
    constructor
    · intro ⟨q1, q2⟩; exact ⟨q1, by omega⟩
    · intro ⟨q1, q2⟩
      refine ⟨q1, ?_⟩
      by_cases e : s' = s ∧ w' = w
      · obtain ⟨e1, e2⟩ := e
        subst e1 e2
        omega
      · omega)
theorem n_QB_end {g : m_H} {m t s w b L : Int} (X : n_isQ g m t (n_QB g t s w b) L) (tb : t < b) : n_isQ g m t (n_QD g s (w + 1)) L :=
  n_isQ_iff X (fun s' w' p => by unfold n_QD n_QB; constructor <;> intro ⟨q1, q2⟩ <;> exact ⟨q1, by omega⟩)
theorem n_better {h : m_H} {t x : Int} (I : n_I h) (t0 : 0 ≤ t) (t1 : t ≤ 1000) (x1 : -2147483648 ≤ x) (x2 : x < 2147483648) (b1 : -2147483648 ≤ m_g h 310 t) (b2 : m_g h 310 t < 2147483648) : t11_better 127 t x h = some ((), m_p h 310 t (max (m_g h 310 t) x)) := by
  have l := n_l310 I.2
  unfold t11_better
  rw [if_pos (n_t127 I.2), n_p127_83 I.2, m_w_of (x := t) (by omega) (by omega), if_pos ⟨n_t310 I.2, by omega, by omega⟩, m_w_of b1 b2, m_w_of x1 x2]
  by_cases c : m_g h 310 t < x
  · rw [if_pos c, n_bs, Int.max_eq_right (by omega)]
  · rw [if_neg c, Int.max_eq_left (by omega)]
    have e : m_p h 310 t (m_g h 310 t) = h := by
      refine n_ext rfl fun b j => ?_
      rw [m_g_p]
      by_cases q : b = 310 ∧ j = t
      · rw [if_pos q, q.1, q.2]
      · rw [if_neg q]
    rw [e]
theorem n_differs {h : m_H} {x y : Int} (x1 : -32768 ≤ x) (x2 : x ≤ 32767) (y1 : -32768 ≤ y) (y2 : y ≤ 32767) : t11_differs x y h = some (n_df x y, h) := by
  unfold t11_differs n_df
  rw [m_w_of (by omega) (by omega), m_w_of (by omega) (by omega)]
  by_cases c : x < y
  · rw [if_pos c, if_pos c]
  · rw [if_neg c, if_neg c]
/-- what stays while one way is dealt with: tape and row of the way are there -/
def n_rlW (g hh : m_H) (s w : Int) : Prop := n_I hh ∧ m_g hh 127 85 = m_g g 127 85 ∧ m_g hh 127 86 = n_wl g s w ∧ (∀ j, m_g hh 308 j = m_g g 308 j) ∧ ∀ j, 0 ≤ j → j < n_wl g s w → m_g hh 309 j = n_wv g s w j
theorem n_rlW_p {g hh : m_H} {s w t x : Int} (C : n_rlW g hh s w) : n_rlW g (m_p hh 310 t x) s w := by
  obtain ⟨I, c1, c2, c3, c4⟩ := C
  exact ⟨n_I_pa I (Or.inl (n_t310 I.2)), by rw [n_gp_n (by omega)]; exact c1, by rw [n_gp_n (by omega)]; exact c2, fun j => by rw [n_gp_n (by omega)]; exact c3 j, fun j j1 j2 => by rw [n_gp_n (by omega)]; exact c4 j j1 j2⟩
/-- a diagonal, from the time k - 1 on back -/
theorem n_rdiag {g : m_H} {m s w b : Int} (c : n_wl g s w ≤ 599) (c1 : 1 ≤ n_wl g s w) (N : m_g g 127 85 ≤ 1000) (m0 : 0 ≤ m) (m1 : m ≤ 65535) (s0 : 0 ≤ s) (d : m_g g 133 s < 2) (w0 : 0 ≤ w) (w1 : w < 4) (hx : ∀ t, 0 ≤ t → t < m_g g 127 85 → -32768 ≤ m_g g 308 t ∧ m_g g 308 t ≤ 32767) (hb : ∀ j, 0 ≤ j → j < n_wl g s w → -32768 ≤ n_wv g s w j ∧ n_wv g s w j ≤ 32767) (b1 : 1 - n_wl g s w ≤ b) (b2 : b < m_g g 127 85) : ∀ (k : Nat) (hh : m_H), n_rlW g hh s w → k ≤ m_g g 127 85 → k ≤ b + n_wl g s w → (∀ t, 0 ≤ t → t < m_g g 127 85 → n_isQ g m t (n_QB g t s w (if k ≤ t then b + 1 else b)) (m_g hh 310 t)) → ∃ h', t11_longest_x25 112 127 m s w b (n_run g m s w k (k - b)) (k - 1) hh = t11_longest_x25 62 127 m s w (b + 1) 0 0 h' ∧ n_rlW g h' s w ∧ h'.2 = hh.2 ∧ (∀ x j, x ≠ 310 → m_g h' x j = m_g hh x j) ∧ (∀ j, j < 0 ∨ m_g g 127 85 ≤ j → m_g h' 310 j = m_g hh 310 j) ∧ ∀ t, 0 ≤ t → t < m_g g 127 85 → n_isQ g m t (n_QB g t s w (b + 1)) (m_g h' 310 t) := by
  intro k
  induction k with
  | zero =>
    intro hh C kN kb Q
    refine ⟨hh, ?_, C, rfl, fun _ _ _ => rfl, fun _ _ => rfl, fun t t1 t2 => by have := Q t t1 t2; rw [if_pos (by omega)] at this; exact this⟩
    rw [t11_longest_x25, if_neg (by omega), if_neg (by omega), if_neg (by omega), if_pos rfl, m_w_of (by omega) (by omega), if_pos (by omega)]
  | succ k ih =>
    intro hh C kN kb Q
    have C' := C
    obtain ⟨I, e1, e2, e3, e4⟩ := C'
    have eT : ((k + 1 : Nat) : Int) - 1 = k := by omega
    have l8 := n_l308 I.2
    have l9 := n_l309 I.2
    by_cases cb : (k : Int) < b
    · refine ⟨hh, ?_, C, rfl, fun _ _ _ => rfl, fun _ _ => rfl, fun t t1 t2 => ?_⟩
      · rw [eT, t11_longest_x25, if_neg (by omega), if_neg (by omega), if_neg (by omega), if_pos rfl, m_w_of (by omega) (by omega), m_w_of (by omega) (by omega), if_neg (by omega), if_pos cb]
      · have := Q t t1 t2
        by_cases q : ((k + 1 : Nat) : Int) ≤ t
        · rw [if_pos q] at this; exact this
        · rw [if_neg q] at this; exact n_QB_next this (Or.inl (by omega))
    · have x1 := hx k (by omega) (by omega)
      have v1 := hb (k - b) (by omega) (by omega)
      have df := n_df_b x1.1 x1.2 v1.1 v1.2
      have Qk := Q k (by omega) (by omega)
      rw [if_neg (by omega)] at Qk
      have Lb := n_isQ_b Qk (by omega)
      have rb := n_run_b g m s w k (k - b)
      have rb1 := n_run_b g m s w ((k + 1 : Nat) : Int) (((k + 1 : Nat) : Int) - b)
      have er := n_run_s (g := g) (m := m) (s := s) (w := w) (t := k) (p := k - b) (by omega)
      rw [show (k : Int) + 1 = ((k + 1 : Nat) : Int) by omega, show (k : Int) - b + 1 = ((k + 1 : Nat) : Int) - b by omega] at er
      have ef : n_fit g m s w k (k - b) = decide (n_df (m_g g 308 k) (n_wv g s w (k - b)) ≤ m) := by
        rcases n_fit_df (g := g) (m := m) (s := s) (w := w) (t := k) (p := k - b) (by omega) (by omega) with q | q
        · exact q
        · omega
      have e112 : t11_longest_x25 112 127 m s w b (n_run g m s w ((k + 1 : Nat) : Int) (((k + 1 : Nat) : Int) - b)) k hh = t11_longest_x25 112 127 m s w b (n_run g m s w k (k - b)) (k - 1) (m_p hh 310 k (max (m_g hh 310 k) (n_run g m s w k (k - b)))) := by
        generalize n_run g m s w ((k + 1 : Nat) : Int) (((k + 1 : Nat) : Int) - b) = R1 at *
        rw [t11_longest_x25, if_neg (by omega), if_neg (by omega), if_neg (by omega), if_pos rfl, m_w_of (x := (k : Int)) (by omega) (by omega), m_w_of (x := b) (by omega) (by omega), if_neg (by omega), if_neg cb, if_pos (n_t127 I.2), n_p127_81 I.2, if_pos ⟨n_t308 I.2, by omega, by omega⟩, n_p127_82 I.2, m_w_of (x := (k : Int) - b) (by omega) (by omega), if_pos ⟨n_t309 I.2, by omega, by omega⟩, e3, e4 _ (by omega) (by omega), n_differs x1.1 x1.2 v1.1 v1.2, n_bs]
        show (if m_w m < m_w (n_df (m_g g 308 k) (n_wv g s w (k - b))) then if m_t hh 127 = 11 then t11_better 127 k 0 hh >>= _ else none else some (R1 + 1) >>= fun x12 => if m_t hh 127 = 11 then t11_better 127 k x12 hh >>= _ else none) = _
        rw [m_w_of (x := m) (by omega) (by omega), m_w_of (by omega) (by omega)]
        by_cases q : m < n_df (m_g g 308 k) (n_wv g s w (k - b))
        · have e0 : n_run g m s w k (k - b) = 0 := by rw [er, ef, decide_eq_false (by omega)]; rfl
          rw [if_pos q, if_pos (n_t127 I.2), n_better I (by omega) (by omega) (by omega) (by omega) (by omega) (by omega), n_bs, e0]
          rfl
        · have e0 : n_run g m s w k (k - b) = R1 + 1 := by rw [er, ef, decide_eq_true (by omega)]; rfl
          rw [if_neg q, n_bs, if_pos (n_t127 I.2), n_better I (by omega) (by omega) (by omega) (by omega) (by omega) (by omega), n_bs, e0]
          rfl
      obtain ⟨h', a1, a2, a3, a4, a5, a6⟩ := ih (m_p hh 310 k (max (m_g hh 310 k) (n_run g m s w k (k - b)))) (n_rlW_p C) (by omega) (by omega) (fun t t1 t2 => by
        by_cases q : t = k
        · rw [q, n_gp_y ⟨rfl, rfl⟩, if_pos (by omega)]
          exact n_QB_add Qk s0 d w0 w1 (by omega) (by omega)
        · rw [n_gp_n (by omega)]
          have := Q t t1 t2
          by_cases q2 : (k : Int) ≤ t
          · rw [if_pos q2]; rw [if_pos (by omega)] at this; exact this
          · rw [if_neg q2]; rw [if_neg (by omega)] at this; exact this)
      refine ⟨h', ?_, a2, a3, fun x j hx => (a4 x j hx).trans (n_gp_n (by omega)), fun j hj => (a5 j hj).trans (n_gp_n (by omega)), a6⟩
      rw [eT, e112]
      exact a1
/-- all diagonals of a way -/
theorem n_rdiags {g : m_H} {m s w : Int} (c : n_wl g s w ≤ 599) (c1 : 1 ≤ n_wl g s w) (N0 : 0 ≤ m_g g 127 85) (N : m_g g 127 85 ≤ 1000) (m0 : 0 ≤ m) (m1 : m ≤ 65535) (s0 : 0 ≤ s) (d : m_g g 133 s < 2) (w0 : 0 ≤ w) (w1 : w < 4) (hx : ∀ t, 0 ≤ t → t < m_g g 127 85 → -32768 ≤ m_g g 308 t ∧ m_g g 308 t ≤ 32767) (hb : ∀ j, 0 ≤ j → j < n_wl g s w → -32768 ≤ n_wv g s w j ∧ n_wv g s w j ≤ 32767) : ∀ (k : Nat) (b : Int) (hh : m_H), n_rlW g hh s w → b + k = m_g g 127 85 → 1 - n_wl g s w ≤ b → (∀ t, 0 ≤ t → t < m_g g 127 85 → n_isQ g m t (n_QB g t s w b) (m_g hh 310 t)) → ∃ h', t11_longest_x25 62 127 m s w b 0 0 hh = t11_longest_x25 35 127 m s (w + 1) 0 0 0 h' ∧ n_rlW g h' s w ∧ h'.2 = hh.2 ∧ (∀ x j, x ≠ 310 → m_g h' x j = m_g hh x j) ∧ (∀ j, j < 0 ∨ m_g g 127 85 ≤ j → m_g h' 310 j = m_g hh 310 j) ∧ ∀ t, 0 ≤ t → t < m_g g 127 85 → n_isQ g m t (n_QD g s (w + 1)) (m_g h' 310 t) := by
  intro k
  induction k with
  | zero =>
    intro b hh C bk bw Q
    obtain ⟨I, e1, e2, e3, e4⟩ := C
    refine ⟨hh, ?_, ⟨I, e1, e2, e3, e4⟩, rfl, fun _ _ _ => rfl, fun _ _ => rfl, fun t t1 t2 => n_QB_end (Q t t1 t2) (by omega)⟩
    rw [t11_longest_x25, if_neg (by omega), if_neg (by omega), if_pos rfl, if_pos (n_t127 I.2), e1, m_w_of (by omega) (by omega), m_w_of (by omega) (by omega), if_neg (by omega)]
  | succ k ih =>
    intro b hh C bk bw Q
    have C' := C
    obtain ⟨I, e1, e2, e3, e4⟩ := C'
    have e62 : t11_longest_x25 62 127 m s w b 0 0 hh = t11_longest_x25 112 127 m s w b 0 (min (m_g g 127 85 - 1) (b + n_wl g s w - 1)) hh := by
      rw [t11_longest_x25, if_neg (by omega), if_neg (by omega), if_pos rfl, if_pos (n_t127 I.2), e1, e2, m_w_of (x := b) (by omega) (by omega), m_w_of (x := m_g g 127 85) (by omega) (by omega), if_pos (by omega), m_w_of (x := m_g g 127 85 - 1) (by omega) (by omega), m_w_of (x := b + n_wl g s w - 1) (by omega) (by omega)]
      by_cases q : m_g g 127 85 - 1 < b + n_wl g s w - 1
      · rw [if_pos q, n_bs, Int.min_eq_left (by omega)]
      · rw [if_neg q, n_bs, Int.min_eq_right (by omega)]
    have ek : ((min (m_g g 127 85) (b + n_wl g s w)).toNat : Int) = min (m_g g 127 85) (b + n_wl g s w) := by omega
    have e0 : n_run g m s w (min (m_g g 127 85) (b + n_wl g s w)) (min (m_g g 127 85) (b + n_wl g s w) - b) = 0 := by
      by_cases q : m_g g 127 85 ≤ b + n_wl g s w
      · exact n_run_end (by omega)
      · exact n_run_out (by omega)
    obtain ⟨h1, a1, a2, a3, a4, a5, a6⟩ := n_rdiag c c1 N m0 m1 s0 d w0 w1 hx hb bw (by omega) (min (m_g g 127 85) (b + n_wl g s w)).toNat hh C (by omega) (by omega) (fun t t1 t2 => by
      rw [ek]
      by_cases q : min (m_g g 127 85) (b + n_wl g s w) ≤ t
      · rw [if_pos q]; exact n_QB_next (Q t t1 t2) (Or.inr (by omega))
      · rw [if_neg q]; exact Q t t1 t2)
    rw [ek, e0] at a1
    obtain ⟨h', b1, b2, b3, b4, b5, b6⟩ := ih (b + 1) h1 a2 (by omega) (by omega) a6
    refine ⟨h', ?_, b2, b3.trans a3, fun x j hx => (b4 x j hx).trans (a4 x j hx), fun j hj => (b5 j hj).trans (a5 j hj), b6⟩
    rw [e62, show min (m_g g 127 85 - 1) (b + n_wl g s w - 1) = min (m_g g 127 85) (b + n_wl g s w) - 1 by omega]
    exact a1.trans b1
