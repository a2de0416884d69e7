/-! CALLS: fault, score: both parse: the relation -/
/-- what the component's parse leaves alone -/
def n_qC (h x : m_H) : Prop := n_I x ∧ x.2 = h.2 ∧ ∀ b j, ¬ (b = 12 ∨ b = 13 ∨ b = 14 ∨ b = 16 ∨ b = 18) → ¬ (b = 10 ∧ (j = 5 ∨ j = 6 ∨ j = 7 ∨ j = 10)) → ¬ (b = 15 ∧ j = 1) → m_g x b j = m_g h b j
/-- the arrays of the score that the reference reads -/
def n_scr (b : Int) : Prop := b = 161 ∨ b = 171 ∨ b = 181 ∨ b = 191 ∨ b = 201 ∨ b = 211 ∨ b = 221 ∨ b = 231
/-- what the reference's reading leaves alone -/
def n_qR (k g : m_H) : Prop := n_I g ∧ g.2 = k.2 ∧ ∀ b j, ¬ n_scr b → ¬ (b = 232 ∨ b = 233 ∨ b = 234) → ¬ (b = 127 ∧ (j = 31 ∨ j = 32 ∨ j = 33 ∨ j = 47)) → ¬ (b = 151 ∧ j = 8) → m_g g b j = m_g k b j
/-- the begin of both: h of the component, k of the reference; there are c' tokens -/
def n_qB (h k : m_H) (c' : Nat) : Prop := n_alk h ∧ n_txC h ∧ n_I k ∧ (∀ b j, 127 ≤ b → b < 312 → m_g k b j = m_g h b j) ∧ n_ps (m_g h 11) (m_g h 10 1) c' = m_g h 10 1 ∧ ∀ q : Nat, q < c' → n_ps (m_g h 11) (m_g h 10 1) q < m_g h 10 1
/-- begin, kind, value of token i -/
def n_pq (h : m_H) (i : Nat) : Int := n_ps (m_g h 11) (m_g h 10 1) i
def n_kq (h : m_H) (i : Nat) : Int := n_kT9 (m_g h 11) (m_g h 10 1) (n_pq h i)
def n_vq (h : m_H) (i : Nat) : Int := n_vT9 (m_g h 11) (m_g h 10 1) (n_pq h i)
/-- the component stands at token i -/
def n_qT (h x : m_H) (c' i : Nat) : Prop := n_qC h x ∧ (∀ q : Nat, q ≤ c' → n_rec (m_g h 11) (m_g h 10 1) x q) ∧ i ≤ c' ∧ m_g x 10 7 = i
/-- the reference has found the fault f -/
def n_qF (k g : m_H) (f : Int) : Prop := n_qR k g ∧ m_g g 127 33 = f ∧ 0 ≤ f ∧ f ≤ 1200
/-- both have found a fault -/
def n_qX (h k : m_H) (c' : Nat) (x g : m_H) : Prop := ∃ i, n_qT h x c' i ∧ n_qF k g (n_pq h i)
/-- names -/
def n_qN (h x g : m_H) (o : Int) : Prop :=
  (0 ≤ m_g g 127 47 ∧ m_g g 127 47 ≤ o) ∧
  (∀ w, 0 ≤ w → w < m_g g 127 47 → (0 ≤ m_g g 232 w ∧ m_g g 232 w ≤ m_g h 127 30) ∧ n_kT9 (m_g h 11) (m_g h 10 1) (m_g g 232 w) = 24 ∧ m_g g 233 w = n_we (m_g h 150) (m_g h 127 30) (m_g g 232 w) - m_g g 232 w ∧ (0 ≤ m_g g 234 w ∧ m_g g 234 w < o) ∧ m_g x 18 (m_g g 234 w) = n_vT9 (m_g h 11) (m_g h 10 1) (m_g g 232 w) ∧ m_g g 161 (m_g g 234 w) ≠ 12) ∧
  (∀ q, 0 ≤ q → q < o → m_g x 18 q = -1 ∨ ∃ w, (0 ≤ w ∧ w < m_g g 127 47) ∧ m_g g 234 w = q) ∧
  ∀ q q', 0 ≤ q → q < o → 0 ≤ q' → q' < o → m_g x 18 q = m_g x 18 q' → m_g x 18 q ≠ -1 → q = q'
/-- the orders that have come -/
def n_qO (x g : m_H) (o : Int) : Prop := ∀ q, 0 ≤ q → q < o → n_ord x g 8 16 q ∧ n_ordB g 8 q
/-- the order that is coming: its cells here and there, its name (cell 8), the names and the verbs ahead (cells from 9 on) -/
def n_qK (x g : m_H) (o : Int) (c d : Int → Int) : Prop := (∀ w, 0 ≤ w → w < 8 → m_g x 16 (8 * o + w) = c w) ∧ (∀ w, 0 ≤ w → w < 8 → m_g g (161 + 10 * w) o = d w) ∧ m_g x 18 o = c 8 ∧ (∀ q, 0 ≤ q → q < o → m_g x 18 q = c (9 + q)) ∧ ∀ q, 0 ≤ q → q < o → m_g g 161 q = d (9 + q)
/-- both stand at token i, o orders have come, nm numbers of the next one -/
def n_qP (h k : m_H) (c' : Nat) (x g : m_H) (i : Nat) (o nm : Int) (c d : Int → Int) : Prop :=
  n_qT h x c' i ∧ n_qR k g ∧ (m_g g 127 31 = n_pq h i ∧ m_g g 127 32 = n_we (m_g h 150) (m_g h 127 30) (n_pq h i) ∧ m_g g 127 33 = -1) ∧ (m_g x 15 1 = o ∧ m_g g 151 8 = o ∧ m_g x 10 10 = nm ∧ 0 ≤ o ∧ o ≤ 40) ∧ n_qN h x g o ∧ n_qO x g o ∧ n_qK x g o c d
def n_up (c : Int → Int) (w v : Int) : Int → Int := fun z => if z = w then v else c z
/-! places of tokens -/
theorem n_ps_b {b : Int → Int} {n : Int} (n0 : 0 ≤ n) : ∀ (q : Nat), (∀ z : Nat, z < q → n_ps b n z < n) → (q : Int) ≤ n_ps b n q ∧ n_ps b n q ≤ n
  | 0, _ => by
    have := n_sk_b (b := b) (n := n) (p := 0) n0
    show ((0 : Nat) : Int) ≤ n_sk b n 0 ∧ n_sk b n 0 ≤ n
    omega
  | q + 1, h => by
    have ih := n_ps_b n0 q (fun z hz => h z (by omega))
    have lt := h q (by omega)
    have eb := n_eK_b (b := b) lt
    have sb := n_sk_b (b := b) eb.2
    show ((q + 1 : Nat) : Int) ≤ n_sk b n (n_eK b n (n_ps b n q)) ∧ n_sk b n (n_eK b n (n_ps b n q)) ≤ n
    omega
theorem n_qB_n {h k : m_H} {c' : Nat} (B : n_qB h k c') : m_g h 10 1 = m_g h 127 30 ∧ 0 ≤ m_g h 127 30 ∧ m_g h 127 30 ≤ 1200 := by
  obtain ⟨A, ⟨x0, x1, x2⟩, r⟩ := B
  have a := A.1
  omega
theorem n_qB_p {h k : m_H} {c' i : Nat} (B : n_qB h k c') (hi : i ≤ c') : (i : Int) ≤ n_pq h i ∧ n_pq h i ≤ m_g h 127 30 ∧ (i < c' → n_pq h i < m_g h 127 30) := by
  have N := n_qB_n B
  obtain ⟨A, X, b1, b2, b3, b4⟩ := B
  have p := n_ps_b (b := m_g h 11) (n := m_g h 10 1) (by omega) i (fun z hz => b4 z (by omega))
  unfold n_pq
  refine ⟨p.1, by omega, fun q => by have := b4 i q; omega⟩
theorem n_qB_e {h k : m_H} {c' i : Nat} (B : n_qB h k c') (hi : i ≤ c') (e : n_pq h i = m_g h 127 30) : i = c' := by
  by_cases c : i < c'
  · have := (n_qB_p B hi).2.2 c; omega
  · omega
theorem n_qB_l {h k : m_H} {c' : Nat} (B : n_qB h k c') : n_pq h c' = m_g h 127 30 := by
  have N := n_qB_n B
  obtain ⟨A, X, b1, b2, b3, b4⟩ := B
  unfold n_pq
  omega
theorem n_pq_s {h : m_H} {i : Nat} : n_pq h (i + 1) = n_sk (m_g h 11) (m_g h 10 1) (n_eK (m_g h 11) (m_g h 10 1) (n_pq h i)) := rfl
/-! the component's token -/
theorem n_qT_k {h k x : m_H} {c' i : Nat} (B : n_qB h k c') (T : n_qT h x c' i) : m_g x 13 i = n_kq h i ∧ m_g x 12 i = n_pq h i ∧ (n_kq h i = 24 ∨ n_kq h i = 25 → m_g x 14 i = n_vq h i) := by
  obtain ⟨C, R, hi, e7⟩ := T
  have r := R i hi
  have N := n_qB_n B
  have P := n_qB_p B hi
  unfold n_rec at r
  refine ⟨r.2.1, r.1, fun q => ?_⟩
  unfold n_kq at q
  unfold n_vq n_pq at *
  rcases q with q | q
  · have m := n_nmT B.1 (by omega) (by omega) q
    have K := (n_K4 B.1 (by omega) (by omega)).mp q
    exact r.2.2 (by omega) (Or.inl ⟨m.2.1, by omega⟩)
  · have m := n_kT25.mp q
    have d := of_decide_eq_true m.2
    exact r.2.2 m.1 (Or.inr ⟨decide_eq_false (by omega), m.2⟩)
theorem n_kq_b {h : m_H} {i : Nat} : 0 ≤ n_kq h i ∧ n_kq h i < 128 := n_kT9_b
/-! the reference's place -/
theorem n_qR_tx {h k g : m_H} {c' : Nat} (B : n_qB h k c') (R : n_qR k g) : n_tx g ∧ m_g g 150 = m_g h 150 ∧ m_g g 127 30 = m_g h 127 30 := by
  have N := n_qB_n B
  obtain ⟨A, X, b1, b2, b3, b4⟩ := B
  obtain ⟨I, r1, r2⟩ := R
  have e150 : m_g g 150 = m_g h 150 := funext fun j => by rw [r2 150 j (by unfold n_scr; omega) (by omega) (by omega) (by omega)]; exact b2 150 j (by omega) (by omega)
  have e30 : m_g g 127 30 = m_g h 127 30 := by rw [r2 127 30 (by unfold n_scr; omega) (by omega) (by omega) (by omega)]; exact b2 127 30 (by omega) (by omega)
  refine ⟨⟨I, by omega, by omega, fun j j0 j1 => ?_⟩, e150, e30⟩
  obtain ⟨a1, a2⟩ := A.2 j j0 (by omega)
  rw [e150, a2]
  split <;> omega
theorem n_atR_same {g : m_H} {p : Int} (e1 : m_g g 127 31 = p) (e2 : m_g g 127 32 = n_we (m_g g 150) (m_g g 127 30) p) : n_atR g p = g := by
  obtain ⟨v1, v2, v3⟩ := n_atR_f (g := g) (p := p)
  refine n_ext rfl fun b j => ?_
  by_cases c : b = 127 ∧ (j = 31 ∨ j = 32)
  · rcases c.2 with q | q
    · rw [c.1, q, v1, e1]
    · rw [c.1, q, v2, e2]
  · exact v3 b j c
theorem n_qP_g {h k x g : m_H} {c' i : Nat} {o nm : Int} {c d : Int → Int} (B : n_qB h k c') (P : n_qP h k c' x g i o nm c d) : n_tx g ∧ m_g g 150 = m_g h 150 ∧ m_g g 127 30 = m_g h 127 30 ∧ n_atR g (n_pq h i) = g ∧ 0 ≤ n_pq h i ∧ n_pq h i ≤ m_g h 127 30 := by
  obtain ⟨T, R, ⟨f1, f2, f3⟩, r⟩ := P
  obtain ⟨X, e1, e2⟩ := n_qR_tx B R
  have p := n_qB_p B T.2.2.1
  exact ⟨X, e1, e2, n_atR_same f1 (by rw [e1, e2]; exact f2), by omega, p.2.1⟩
/-! small changes -/
theorem n_qC_p {h x : m_H} (C : n_qC h x) {a j v : Int} (ha : (a = 10 ∧ (j = 7 ∨ j = 10)) ∨ (a = 15 ∧ j = 1) ∨ a = 16 ∨ a = 18) : n_qC h (m_p x a j v) := by
  obtain ⟨I, e, f⟩ := C
  have I2 : n_I (m_p x a j v) := by
    rcases ha with ⟨q, q2⟩ | ⟨q, q2⟩ | q | q
    · rw [q]
      refine n_I_p I (by rw [n_t10 I.2]; omega) (by rw [n_t10 I.2]; omega) ?_
      rcases q2 with w | w <;> rw [w] <;> rfl
    · rw [q, q2]
      exact n_I_p I (by rw [n_t15 I.2]; omega) (fun _ => by omega) rfl
    · rw [q]; exact n_I_pa I (Or.inl (n_t16 I.2))
    · rw [q]; exact n_I_pa I (Or.inl (n_t18 I.2))
  exact ⟨I2, e, fun b z h1 h2 h3 => by rw [n_gp_n (by omega)]; exact f b z h1 h2 h3⟩
theorem n_rec_p {h x : m_H} {c' : Nat} (R : ∀ q : Nat, q ≤ c' → n_rec (m_g h 11) (m_g h 10 1) x q) {a j v : Int} (ha : a < 12 ∨ 14 < a) : ∀ q : Nat, q ≤ c' → n_rec (m_g h 11) (m_g h 10 1) (m_p x a j v) q := fun q hq => n_rec_e (R q hq) ⟨n_gp_n (by omega), n_gp_n (by omega), n_gp_n (by omega)⟩
theorem n_scr_t {g : m_H} (F : n_fx g) {b : Int} (s : n_scr b) : m_t g b = 20 ∧ m_l g b = 40 := by
  unfold n_scr at s
  rcases s with e | e | e | e | e | e | e | e <;> rw [e]
  · exact n_2d F (b := 153) (k := 8) (by decide) (by omega) (by omega)
  · exact n_2d F (b := 163) (k := 8) (by decide) (by omega) (by omega)
  · exact n_2d F (b := 173) (k := 8) (by decide) (by omega) (by omega)
  · exact n_2d F (b := 183) (k := 8) (by decide) (by omega) (by omega)
  · exact n_2d F (b := 193) (k := 8) (by decide) (by omega) (by omega)
  · exact n_2d F (b := 203) (k := 8) (by decide) (by omega) (by omega)
  · exact n_2d F (b := 213) (k := 8) (by decide) (by omega) (by omega)
  · exact n_2d F (b := 223) (k := 8) (by decide) (by omega) (by omega)
theorem n_qR_p {k g : m_H} (R : n_qR k g) {a j v : Int} (ha : (a = 127 ∧ (j = 31 ∨ j = 32 ∨ j = 33 ∨ j = 47)) ∨ (a = 151 ∧ j = 8) ∨ n_scr a ∨ (a = 232 ∨ a = 233 ∨ a = 234)) : n_qR k (m_p g a j v) := by
  obtain ⟨I, e, f⟩ := R
  have I2 : n_I (m_p g a j v) := by
    rcases ha with ⟨q, q2⟩ | ⟨q, q2⟩ | q | q
    · rw [q]
      refine n_I_p I (by rw [n_t127 I.2]; omega) (by rw [n_t127 I.2]; omega) ?_
      rcases q2 with w | w | w | w <;> rw [w] <;> rfl
    · rw [q]; exact n_I_pa I (Or.inl (n_t151 I.2))
    · exact n_I_pa I (Or.inl (n_scr_t I.2 q).1)
    · rcases q with q | q | q <;> rw [q]
      · exact n_I_pa I (Or.inl (n_t232 I.2))
      · exact n_I_pa I (Or.inl (n_t233 I.2))
      · exact n_I_pa I (Or.inl (n_t234 I.2))
  refine ⟨I2, e, fun b z h1 h2 h3 h4 => ?_⟩
  rw [n_gp_n (fun w => ?_)]
  · exact f b z h1 h2 h3 h4
  · rcases ha with q | q | q | q
    · exact h3 (by omega)
    · exact h4 (by omega)
    · exact h1 (by rw [w.1]; exact q)
    · exact h2 (by omega)
theorem n_qR_at {h k g : m_H} {c' : Nat} (B : n_qB h k c') (R : n_qR k g) (p : Int) : n_qR k (n_atR g p) := by
  have e : n_atR g p = m_p (m_p g 127 31 p) 127 32 (n_we (m_g g 150) (m_g g 127 30) p) := by
    unfold n_atR
    rw [n_h2_pp (by omega)]
  rw [e]
  exact n_qR_p (n_qR_p R (Or.inl ⟨rfl, by omega⟩)) (Or.inl ⟨rfl, by omega⟩)
theorem n_qF_of {h k g : m_H} {c' i : Nat} (B : n_qB h k c') (R : n_qR k g) (hi : i ≤ c') : n_qF k (m_p g 127 33 (n_pq h i)) (n_pq h i) := by
  have p := n_qB_p B hi
  have n := n_qB_n B
  exact ⟨n_qR_p R (Or.inl ⟨rfl, by omega⟩), n_gp_y ⟨rfl, rfl⟩, by omega, by omega⟩
/-! names and orders are carried over -/
theorem n_qN_S {h x g x' g' : m_H} {o : Int} (N : n_qN h x g o) (e18 : ∀ j, m_g x' 18 j = m_g x 18 j) (e47 : m_g g' 127 47 = m_g g 127 47) (e1 : ∀ j, m_g g' 232 j = m_g g 232 j) (e2 : ∀ j, m_g g' 233 j = m_g g 233 j) (e3 : ∀ j, m_g g' 234 j = m_g g 234 j) (e4 : ∀ j, j < o → m_g g' 161 j = m_g g 161 j) : n_qN h x' g' o := by
  obtain ⟨n1, n2, n3, n4⟩ := N
  unfold n_qN
  simp only [e18, e47, e1, e2, e3]
  refine ⟨n1, fun w w0 w1 => ?_, n3, n4⟩
  obtain ⟨a1, a2, a3, a4, a5, a6⟩ := n2 w w0 w1
  exact ⟨a1, a2, a3, a4, a5, by rw [e4 _ a4.2]; exact a6⟩
theorem n_qO_S {x g x' g' : m_H} {o : Int} (O : n_qO x g o) (e16 : ∀ j, j < 8 * o → m_g x' 16 j = m_g x 16 j) (es : ∀ b j, n_scr b → j < o → m_g g' b j = m_g g b j) : n_qO x' g' o := fun q q0 q1 => by
  obtain ⟨a, b⟩ := O q q0 q1
  have s1 : n_scr 161 := by unfold n_scr; omega
  have s2 : n_scr 171 := by unfold n_scr; omega
  have s3 : n_scr 181 := by unfold n_scr; omega
  have s4 : n_scr 191 := by unfold n_scr; omega
  have s5 : n_scr 201 := by unfold n_scr; omega
  have s6 : n_scr 211 := by unfold n_scr; omega
  have s7 : n_scr 221 := by unfold n_scr; omega
  have s8 : n_scr 231 := by unfold n_scr; omega
  have f1 := es 161 q s1 q1
  have f2 := es 171 q s2 q1
  have f3 := es 181 q s3 q1
  have f4 := es 191 q s4 q1
  have f5 := es 201 q s5 q1
  have f6 := es 211 q s6 q1
  have f7 := es 221 q s7 q1
  have f8 := es 231 q s8 q1
  constructor
  · unfold n_ord at *
    simp only [show (153 : Int) + 8 = 161 from rfl, show (163 : Int) + 8 = 171 from rfl, show (173 : Int) + 8 = 181 from rfl, show (183 : Int) + 8 = 191 from rfl, show (193 : Int) + 8 = 201 from rfl, show (203 : Int) + 8 = 211 from rfl, show (213 : Int) + 8 = 221 from rfl, show (223 : Int) + 8 = 231 from rfl] at *
    rw [f1, f2, f3, f4, f5, f6, f7, f8, e16 (8 * q) (by omega), e16 (8 * q + 1) (by omega), e16 (8 * q + 2) (by omega), e16 (8 * q + 3) (by omega), e16 (8 * q + 4) (by omega), e16 (8 * q + 5) (by omega), e16 (8 * q + 6) (by omega), e16 (8 * q + 7) (by omega)]
    exact a
  · unfold n_ordB at *
    simp only [show (153 : Int) + 8 = 161 from rfl, show (163 : Int) + 8 = 171 from rfl, show (173 : Int) + 8 = 181 from rfl, show (183 : Int) + 8 = 191 from rfl, show (193 : Int) + 8 = 201 from rfl, show (203 : Int) + 8 = 211 from rfl, show (213 : Int) + 8 = 221 from rfl, show (223 : Int) + 8 = 231 from rfl] at *
    rw [f1, f2, f3, f4, f5, f6, f7, f8]
    obtain ⟨b1, b2, b3, b4, b5, b6, b7⟩ := b
    refine ⟨b1, b2, b3, fun v => ?_, b5, fun v => ?_, b7⟩
    · obtain ⟨w1, w2, w3⟩ := b4 v
      exact ⟨w1, w2, by rw [es 161 _ s1 (by omega)]; exact w3⟩
    · obtain ⟨w1, w2, w3⟩ := b6 v
      exact ⟨w1, w2, by rw [es 161 _ s1 (by omega)]; exact w3⟩
/-- the next token -/
theorem n_qP_next {h k x g : m_H} {c' i : Nat} {o nm : Int} {c d : Int → Int} (B : n_qB h k c') (P : n_qP h k c' x g i o nm c d) (hi : i < c') : n_qP h k c' (m_p x 10 7 ((i : Int) + 1)) (n_atR g (n_pq h (i + 1))) (i + 1) o nm c d := by
  obtain ⟨X, x1, x2, x3, x4, x5⟩ := n_qP_g B P
  obtain ⟨⟨C, R, hi2, e7⟩, RR, ⟨f1, f2, f3⟩, ⟨s1, s2, s3, s4, s5⟩, N, O, K⟩ := P
  obtain ⟨v1, v2, v3⟩ := n_atR_f (g := g) (p := n_pq h (i + 1))
  refine ⟨⟨n_qC_p C (Or.inl ⟨rfl, by omega⟩), n_rec_p R (by omega), hi, by rw [n_gp_y ⟨rfl, rfl⟩]; omega⟩, n_qR_at B RR _, ⟨v1, by rw [v2, x1, x2], by rw [v3 127 33 (by omega)]; exact f3⟩, ⟨by rw [n_gp_n (by omega)]; exact s1, by rw [v3 151 8 (by omega)]; exact s2, by rw [n_gp_n (by omega)]; exact s3, s4, s5⟩, ?_, ?_, ?_⟩
  · exact n_qN_S N (fun j => n_gp_n (by omega)) (v3 127 47 (by omega)) (fun j => v3 232 j (by omega)) (fun j => v3 233 j (by omega)) (fun j => v3 234 j (by omega)) (fun j _ => v3 161 j (by omega))
  · exact n_qO_S O (fun j _ => n_gp_n (by omega)) (fun b j sb _ => v3 b j (by unfold n_scr at sb; omega))
  · exact ⟨fun w w0 w1 => by rw [n_gp_n (by omega)]; exact K.1 w w0 w1, fun w w0 w1 => by rw [v3 _ o (by omega)]; exact K.2.1 w w0 w1, by rw [n_gp_n (by omega)]; exact K.2.2.1, fun q q0 q1 => by rw [n_gp_n (by omega)]; exact K.2.2.2.1 q q0 q1, fun q q0 q1 => by rw [v3 161 q (by omega)]; exact K.2.2.2.2 q q0 q1⟩
/-- a cell of the order that is coming -/
theorem n_qP_cell {h k x g : m_H} {c' i : Nat} {o nm : Int} {c d : Int → Int} (P : n_qP h k c' x g i o nm c d) {w : Int} (w0 : 0 ≤ w) (w1 : w < 8) (v : Int) : n_qP h k c' (m_p x 16 (8 * o + w) v) g i o nm (n_up c w v) d := by
  obtain ⟨⟨C, R, hi2, e7⟩, RR, ff, ⟨s1, s2, s3, s4, s5⟩, N, O, K⟩ := P
  refine ⟨⟨n_qC_p C (Or.inr (Or.inr (Or.inl rfl))), n_rec_p R (by omega), hi2, by rw [n_gp_n (by omega)]; exact e7⟩, RR, ff, ⟨by rw [n_gp_n (by omega)]; exact s1, s2, by rw [n_gp_n (by omega)]; exact s3, s4, s5⟩, ?_, ?_, ?_⟩
  · exact n_qN_S N (fun j => n_gp_n (by omega)) rfl (fun _ => rfl) (fun _ => rfl) (fun _ => rfl) (fun _ _ => rfl)
  · exact n_qO_S O (fun j hj => n_gp_n (by omega)) (fun _ _ _ _ => rfl)
  · refine ⟨fun z z0 z1 => ?_, K.2.1, by rw [n_gp_n (by omega)]; unfold n_up; rw [if_neg (by omega)]; exact K.2.2.1, fun q q0 q1 => by rw [n_gp_n (by omega)]; unfold n_up; rw [if_neg (by omega)]; exact K.2.2.2.1 q q0 q1, K.2.2.2.2⟩
    rw [m_g_p]
    unfold n_up
    by_cases q : z = w
    · rw [if_pos ⟨rfl, by omega⟩, if_pos q]
    · rw [if_neg (by omega), if_neg q]
      exact K.1 z z0 z1
theorem n_qP_nm {h k x g : m_H} {c' i : Nat} {o nm : Int} {c d : Int → Int} (P : n_qP h k c' x g i o nm c d) (v : Int) : n_qP h k c' (m_p x 10 10 v) g i o v c d := by
  obtain ⟨⟨C, R, hi2, e7⟩, RR, ff, ⟨s1, s2, s3, s4, s5⟩, N, O, K⟩ := P
  refine ⟨⟨n_qC_p C (Or.inl ⟨rfl, by omega⟩), n_rec_p R (by omega), hi2, by rw [n_gp_n (by omega)]; exact e7⟩, RR, ff, ⟨by rw [n_gp_n (by omega)]; exact s1, s2, n_gp_y ⟨rfl, rfl⟩, s4, s5⟩, ?_, ?_, ?_⟩
  · exact n_qN_S N (fun j => n_gp_n (by omega)) rfl (fun _ => rfl) (fun _ => rfl) (fun _ => rfl) (fun _ _ => rfl)
  · exact n_qO_S O (fun j hj => n_gp_n (by omega)) (fun _ _ _ _ => rfl)
  · exact ⟨fun z z0 z1 => by rw [n_gp_n (by omega)]; exact K.1 z z0 z1, K.2.1, by rw [n_gp_n (by omega)]; exact K.2.2.1, fun q q0 q1 => by rw [n_gp_n (by omega)]; exact K.2.2.2.1 q q0 q1, K.2.2.2.2⟩
theorem n_qP_scr {h k x g : m_H} {c' i : Nat} {o nm : Int} {c d : Int → Int} (P : n_qP h k c' x g i o nm c d) {w : Int} (w0 : 0 ≤ w) (w1 : w < 8) (v : Int) : n_qP h k c' x (m_p g (161 + 10 * w) o v) i o nm c (n_up d w v) := by
  obtain ⟨T, RR, ⟨f1, f2, f3⟩, ⟨s1, s2, s3, s4, s5⟩, N, O, K⟩ := P
  refine ⟨T, n_qR_p RR (Or.inr (Or.inr (Or.inl (by unfold n_scr; omega)))), ⟨by rw [n_gp_n (by omega)]; exact f1, by rw [n_gp_n (by omega)]; exact f2, by rw [n_gp_n (by omega)]; exact f3⟩, ⟨s1, by rw [n_gp_n (by omega)]; exact s2, s3, s4, s5⟩, ?_, ?_, ?_⟩
  · exact n_qN_S N (fun _ => rfl) (n_gp_n (by omega)) (fun j => n_gp_n (by omega)) (fun j => n_gp_n (by omega)) (fun j => n_gp_n (by omega)) (fun j hj => n_gp_n (by omega))
  · exact n_qO_S O (fun _ _ => rfl) (fun b j _ hj => n_gp_n (by omega))
  · refine ⟨K.1, fun z z0 z1 => ?_, K.2.2.1, K.2.2.2.1, fun q q0 q1 => by rw [n_gp_n (by omega)]; unfold n_up; rw [if_neg (by omega)]; exact K.2.2.2.2 q q0 q1⟩
    rw [m_g_p]
    unfold n_up
    by_cases q : z = w
    · rw [if_pos ⟨by omega, rfl⟩, if_pos q]
    · rw [if_neg (by omega), if_neg q]
      exact K.2.1 z z0 z1
/-- another name in the component's list of the order that is coming -/
theorem n_qP_name {h k x g : m_H} {c' i : Nat} {o nm : Int} {c d : Int → Int} (P : n_qP h k c' x g i o nm c d) (v : Int) : n_qP h k c' (m_p x 18 o v) g i o nm (n_up c 8 v) d := by
  obtain ⟨⟨C, R, hi2, e7⟩, RR, ff, ⟨s1, s2, s3, s4, s5⟩, N, O, K⟩ := P
  have e : ∀ j, j < o → m_g (m_p x 18 o v) 18 j = m_g x 18 j := fun j hj => n_gp_n (by omega)
  refine ⟨⟨n_qC_p C (Or.inr (Or.inr (Or.inr rfl))), n_rec_p R (by omega), hi2, by rw [n_gp_n (by omega)]; exact e7⟩, RR, ff, ⟨by rw [n_gp_n (by omega)]; exact s1, s2, by rw [n_gp_n (by omega)]; exact s3, s4, s5⟩, ?_, ?_, ?_⟩
  · obtain ⟨n1, n2, n3, n4⟩ := N
    refine ⟨n1, fun w w0 w1 => ?_, fun q q0 q1 => ?_, fun q q' q0 q1 q2 q3 => ?_⟩
    · obtain ⟨a1, a2, a3, a4, a5, a6⟩ := n2 w w0 w1
      exact ⟨a1, a2, a3, a4, by rw [e _ a4.2]; exact a5, a6⟩
    · rw [e q q1]; exact n3 q q0 q1
    · rw [e q q1, e q' q3]; exact n4 q q' q0 q1 q2 q3
  · exact n_qO_S O (fun j hj => n_gp_n (by omega)) (fun _ _ _ _ => rfl)
  · exact ⟨fun z z0 z1 => by rw [n_gp_n (by omega)]; unfold n_up; rw [if_neg (by omega)]; exact K.1 z z0 z1, K.2.1, by rw [n_gp_y ⟨rfl, rfl⟩]; unfold n_up; rw [if_pos rfl], fun q q0 q1 => by rw [n_gp_n (by omega)]; unfold n_up; rw [if_neg (by omega)]; exact K.2.2.2.1 q q0 q1, K.2.2.2.2⟩
