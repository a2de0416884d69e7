/-! CALLS: remade, stretch, unfound: the longest run of the layings dealt with so far (Q says which) -/
def n_isQ (g : m_H) (m t : Int) (Q : Int → Int → Int → Prop) (L : Int) : Prop := (∀ s w p, Q s w p → n_run g m s w t p ≤ L) ∧ (L = 0 ∨ ∃ s w p, Q s w p ∧ n_run g m s w t p = L) ∧ 0 ≤ L
theorem n_run_b (g : m_H) (m s w t p : Int) : 0 ≤ n_run g m s w t p ∧ (n_run g m s w t p ≤ m_g g 127 85 - t ∨ n_run g m s w t p = 0) := by
  unfold n_run
  have b := n_runN_b (n_fit g m s w) (m_g g 127 85 - t).toNat t p
  refine ⟨b.1, ?_⟩
  by_cases c : 0 ≤ m_g g 127 85 - t
  · left; omega
  · right; omega
theorem n_isQ_b {g : m_H} {m t : Int} {Q : Int → Int → Int → Prop} {L : Int} (X : n_isQ g m t Q L) (ht : t ≤ m_g g 127 85) : 0 ≤ L ∧ L ≤ m_g g 127 85 - t := by
  refine ⟨X.2.2, ?_⟩
  rcases X.2.1 with e | ⟨s, w, p, -, e⟩
  · omega
  · have := (n_run_b g m s w t p).2
    omega
theorem n_isQ_iff {g : m_H} {m t : Int} {Q Q' : Int → Int → Int → Prop} {L : Int} (X : n_isQ g m t Q L) (e : ∀ s w p, Q s w p ↔ Q' s w p) : n_isQ g m t Q' L := by
  refine ⟨fun s w p q => X.1 s w p ((e s w p).mpr q), ?_, X.2.2⟩
  rcases X.2.1 with e2 | ⟨s, w, p, q, e2⟩
  · exact Or.inl e2
  · exact Or.inr ⟨s, w, p, (e s w p).mp q, e2⟩
theorem n_isQ_none {g : m_H} {m t : Int} {Q : Int → Int → Int → Prop} (e : ∀ s w p, ¬ Q s w p) : n_isQ g m t Q 0 := ⟨fun s w p q => absurd q (e s w p), Or.inl rfl, Int.le_refl _⟩
/-- one laying more -/
theorem n_isQ_add {g : m_H} {m t s0 w0 p0 : Int} {Q Q' : Int → Int → Int → Prop} {L : Int} (X : n_isQ g m t Q L) (e : ∀ s w p, Q' s w p ↔ (Q s w p ∨ (s = s0 ∧ w = w0 ∧ p = p0))) : n_isQ g m t Q' (max L (n_run g m s0 w0 t p0)) := by
  have b := (n_run_b g m s0 w0 t p0).1
  refine ⟨fun s w p q => ?_, ?_, by have := X.2.2; omega⟩
  · rcases (e s w p).mp q with h1 | ⟨h1, h2, h3⟩
    · have := X.1 s w p h1; omega
    · rw [h1, h2, h3]; omega
  · by_cases c : n_run g m s0 w0 t p0 ≤ L
    · rw [Int.max_eq_left c]
      rcases X.2.1 with h1 | ⟨s, w, p, q, h1⟩
      · exact Or.inl h1
      · exact Or.inr ⟨s, w, p, (e s w p).mpr (Or.inl q), h1⟩
    · rw [Int.max_eq_right (by omega)]
      exact Or.inr ⟨s0, w0, p0, (e s0 w0 p0).mpr (Or.inr ⟨rfl, rfl, rfl⟩), rfl⟩
/-- the greatest of L and f 0 .. f (k - 1) -/
def n_mxN (L : Int) (f : Int → Int) : Nat → Int
  | 0 => L
  | k + 1 => max (n_mxN L f k) (f k)
theorem n_mxN_b {L : Int} {f : Int → Int} {M : Int} (h0 : 0 ≤ L) (h1 : L ≤ M) (hf : ∀ j, f j ≤ M) : ∀ k : Nat, 0 ≤ n_mxN L f k ∧ n_mxN L f k ≤ M
  | 0 => ⟨h0, h1⟩
  | k + 1 => by
    have := n_mxN_b h0 h1 hf k
    have := hf k
    unfold n_mxN
    omega
theorem n_isQ_addN {g : m_H} {m t s0 w0 : Int} {Q : Int → Int → Int → Prop} {L : Int} (X : n_isQ g m t Q L) : ∀ k : Nat, n_isQ g m t (fun s w p => Q s w p ∨ (s = s0 ∧ w = w0 ∧ 0 ≤ p ∧ p < k)) (n_mxN L (fun p => n_run g m s0 w0 t p) k)
  | 0 => n_isQ_iff X (fun s w p => ⟨Or.inl, fun q => by
      rcases q with q | q
      · exact q
      · omega⟩)
  | k + 1 => n_isQ_add (n_isQ_addN X k) (s0 := s0) (w0 := w0) (p0 := k) (fun s w p => by
      constructor
      · intro q
        rcases q with q | ⟨q1, q2, q3, q4⟩
        · exact Or.inl (Or.inl q)
        · by_cases c : p = k
          · exact Or.inr ⟨q1, q2, c⟩
          · exact Or.inl (Or.inr ⟨q1, q2, q3, by omega⟩)
      · intro q
        rcases q with (q | ⟨q1, q2, q3, q4⟩) | ⟨q1, q2, q3⟩
        · exact Or.inl q
        · exact Or.inr ⟨q1, q2, q3, by omega⟩
        · exact Or.inr ⟨q1, q2, by omega, by omega⟩)
/-- the layings of all strips ahead of s and of all ways ahead of w of the strip s -/
def n_QD (g : m_H) (s w : Int) : Int → Int → Int → Prop := fun s' w' p => (0 ≤ s' ∧ 0 ≤ w' ∧ w' < 4 ∧ m_g g 133 s' < 2 ∧ 0 ≤ p ∧ p < n_wl g s' w') ∧ (s' < s ∨ (s' = s ∧ w' < w))
theorem n_QD_way {g : m_H} {m t s w L : Int} (X : n_isQ g m t (n_QD g s w) L) (c : 0 ≤ s) (d : m_g g 133 s < 2) (w0 : 0 ≤ w) (w1 : w < 4) (wl : 0 ≤ n_wl g s w) : n_isQ g m t (n_QD g s (w + 1)) (n_mxN L (fun p => n_run g m s w t p) (n_wl g s w).toNat) :=
  n_isQ_iff (n_isQ_addN X (s0 := s) (w0 := w) (n_wl g s w).toNat) (fun s' w' p => by
    unfold n_QD
    constructor
    · intro q
      rcases q with ⟨q1, q2⟩ | ⟨q1, q2, q3, q4⟩
      · exact ⟨q1, by omega⟩
      · subst q1 q2
        exact ⟨⟨c, w0, w1, d, q3, by omega⟩, by omega⟩
    · intro ⟨q1, q2⟩
      by_cases e : s' = s ∧ w' = w
      · obtain ⟨e1, e2⟩ := e
        subst e1 e2
        exact Or.inr ⟨rfl, rfl, q1.2.2.2.2.1, by omega⟩
      · exact Or.inl ⟨q1, by omega⟩)
theorem n_QD_strip {g : m_H} {m t s L : Int} (X : n_isQ g m t (n_QD g s 4) L) : n_isQ g m t (n_QD g (s + 1) 0) L :=
  n_isQ_iff X (fun s' w' p => by unfold n_QD; constructor <;> intro ⟨q1, q2⟩ <;> exact ⟨q1, by omega⟩)
theorem n_QD_lost {g : m_H} {m t s L : Int} (X : n_isQ g m t (n_QD g s 0) L) (d : ¬ m_g g 133 s < 2) : n_isQ g m t (n_QD g (s + 1) 0) L :=
  n_isQ_iff X (fun s' w' p => by
    unfold n_QD
    constructor
    · intro ⟨q1, q2⟩; exact ⟨q1, by omega⟩
    · intro ⟨q1, q2⟩
      refine ⟨q1, ?_⟩
      by_cases e : s' = s
      · subst e; exact absurd q1.2.2.2.1 d
      · omega)
theorem n_QD_all {g : m_H} {m t L : Int} (X : n_isQ g m t (n_QD g (m_g g 127 14) 0) L) : n_isL g m t L := by
  have e : ∀ s w p, n_QD g (m_g g 127 14) 0 s w p ↔ n_lay g s w p := fun s w p => by
    unfold n_QD n_lay
    constructor
    · intro ⟨⟨a, b, c, d, e, f⟩, q⟩; exact ⟨a, by omega, d, b, c, e, f⟩
    · intro ⟨a, b, c, d, e, f, i⟩; exact ⟨⟨a, d, e, c, f, i⟩, by omega⟩
  have Y := n_isQ_iff X e
  exact ⟨Y.1, Y.2.1, Y.2.2⟩
theorem n_QD_0 {g : m_H} {m t : Int} : n_isQ g m t (n_QD g 0 0) 0 := n_isQ_none (fun s w p q => by unfold n_QD at q; omega)
/-- the longest run one time on is not shorter by more than one -/
theorem n_isL_shift {g : m_H} {m t L L' : Int} (a : n_isL g m t L) (b : n_isL g m (t + 1) L') (ht : t < m_g g 127 85) : L - 1 ≤ L' := by
  rcases a.2.1 with e | ⟨s, w, p, q, e⟩
  · have := b.2.2; omega
  · rw [n_run_s ht] at e
    have b0 := b.2.2
    by_cases c : n_fit g m s w t p = true
    · rw [if_pos c] at e
      by_cases d : p + 1 < n_wl g s w
      · have := b.1 s w (p + 1) ⟨q.1, q.2.1, q.2.2.1, q.2.2.2.1, q.2.2.2.2.1, by have := q.2.2.2.2.2.1; omega, d⟩
        omega
      · have := n_run_out (g := g) (m := m) (s := s) (w := w) (t := t + 1) (p := p + 1) (by omega)
        omega
    · rw [if_neg c] at e
      omega
theorem n_fit_df {g : m_H} {m s w t p : Int} (ht : t < m_g g 127 85) (hp : p < n_wl g s w) : n_fit g m s w t p = decide (n_df (m_g g 308 t) (n_wv g s w p) ≤ m) ∨ m < 0 := by
  by_cases hm : m < 0
  · exact Or.inr hm
  · left
    unfold n_fit n_df
    refine decide_eq_decide.mpr ?_
    split <;> constructor <;> intro q <;> omega
