/-! CALLS: remade, stretch, unfound: the longest run from a time -/
theorem n_isL_le {g : m_H} {m t L L' : Int} (a : n_isL g m t L) (b : n_isL g m t L') : L ≤ L' := by
  obtain ⟨a1, a2, a3⟩ := a
  obtain ⟨b1, b2, b3⟩ := b
  rcases a2 with e | ⟨s, w, p, l, e⟩
  · omega
  · have := b1 s w p l
    omega
theorem n_isL_eq {g : m_H} {m t L L' : Int} (a : n_isL g m t L) (b : n_isL g m t L') : L = L' := by
  have := n_isL_le a b
  have := n_isL_le b a
  omega
/-- a run, one time back: none where the samples don't fit, else one more than the run behind -/
theorem n_runN_s (ok : Int → Int → Bool) (k : Nat) (t p : Int) : n_runN ok (k + 1) t p = if ok t p then n_runN ok k (t + 1) (p + 1) + 1 else 0 := rfl
