/-! CALLS: remade, stretch, unfound: the longest run from a time -/
theorem n_isL_le {g : m_H} {m t L L' : Int} (a : n_isL g m t L) (b : n_isL g m t L') : L ≤ L' := by
  obtain ⟨a1, a2, a3⟩ := a
  obtain ⟨b1, b2, b3⟩ := b
  rcases a2 with e | ⟨s, w, p, l, e⟩
  · omega
  · have := b1 s w p l
    omega
theorem n_isL_eq {g : m_H} {m t L L' : Int} (a : n_isL g m t L) (b : n_isL g m t L') : L = L' := by
  have := n_isL_le a b
  have := n_isL_le b a
  omega
/-- a run, one time back: none where the samples don't fit, else one more than the run behind -/
theorem n_runN_s (ok : Int → Int → Bool) (k : Nat) (t p : Int) : n_runN ok (k + 1) t p = if ok t p then n_runN ok k (t + 1) (p + 1) + 1 else 0 := rfl
theorem n_run_s {g : m_H} {m s w t p : Int} (h1 : t < m_g g 127 85) : n_run g m s w t p = if n_fit g m s w t p then n_run g m s w (t + 1) (p + 1) + 1 else 0 := by
  unfold n_run
  have e : (m_g g 127 85 - t).toNat = (m_g g 127 85 - (t + 1)).toNat + 1 := by omega
  rw [e, n_runN_s]
theorem n_run_end {g : m_H} {m s w t p : Int} (h1 : m_g g 127 85 ≤ t) : n_run g m s w t p = 0 := by
  unfold n_run
  have e : (m_g g 127 85 - t).toNat = 0 := by omega
  rw [e]
  rfl
theorem n_runN_b (ok : Int → Int → Bool) : ∀ (k : Nat) (t p : Int), 0 ≤ n_runN ok k t p ∧ n_runN ok k t p ≤ k := by
  intro k
  induction k with
  | zero => intro t p; exact ⟨Int.le_refl _, Int.le_refl _⟩
  | succ k ih =>
    intro t p
    rw [n_runN_s]
    have := ih (t + 1) (p + 1)
    split <;> omega
theorem n_run_out {g : m_H} {m s w t p : Int} (h1 : n_wl g s w ≤ p) : n_run g m s w t p = 0 := by
  by_cases c : t < m_g g 127 85
  · have : n_fit g m s w t p = false := by unfold n_fit; rw [decide_eq_false_iff_not]; omega
    rw [n_run_s c, this]
    rfl
  · exact n_run_end (by omega)
theorem n_fillA {h : m_H} {a v : Int} (ha : m_t h a = 20) (l1 : 0 ≤ m_l h a) (l2 : m_l h a ≤ 100000) : tJ7_fill_53178 a v h = some ((), n_fl h a 0 (m_l h a) (fun _ => v)) := by
  have key := n_fill (fun i h' => tJ7_fill_53178_c5 a v i (m_l h a) h') (h := h) (a := a) (lo := 0) (n := m_l h a) (fun _ => v) l1 (fun i i1 i2 => by
    show tJ7_fill_53178_c5 a v i (m_l h a) _ = tJ7_fill_53178_c5 a v (i + 1) (m_l h a) _
    rw [tJ7_fill_53178_c5, m_w_of (by omega) (by omega), m_w_of (by omega) (by omega), if_pos i2, n_t_fl, n_l_fl, if_pos ⟨ha, i1, i2⟩, n_bs])
  unfold tJ7_fill_53178
  rw [if_pos (by omega), n_bs]
  refine key.trans ?_
  show tJ7_fill_53178_c5 a v (m_l h a) (m_l h a) _ = _
  rw [tJ7_fill_53178_c5, if_neg (by omega)]
