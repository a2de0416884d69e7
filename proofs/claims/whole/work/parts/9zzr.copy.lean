/-! CALLS: score: the reference copies a score -/
/-- one of the arrays of score q -/
abbrev n_c8 (q b : Int) : Prop := 0 ≤ b - 153 - q ∧ b - 153 - q ≤ 70 ∧ (b - 153 - q) % 10 = 0
/-- the first i orders of the score that was read are copied to score q -/
def n_cp8 (g : m_H) (q i : Int) : m_H := (fun b j => if n_c8 q b ∧ 0 ≤ j ∧ j < i then m_g g (b + 8 - q) j else m_g g b j, g.2)
theorem n_cp8_g (g : m_H) (q i b j : Int) : m_g (n_cp8 g q i) b j = if n_c8 q b ∧ 0 ≤ j ∧ j < i then m_g g (b + 8 - q) j else m_g g b j := rfl
theorem n_c8_t {g : m_H} (F : n_fx g) {q b : Int} (q0 : 0 ≤ q) (q1 : q < 8) (h : n_c8 q b) : m_t g b = 20 ∧ m_l g b = 40 := by
  have c : b = 153 + q ∨ b = 163 + q ∨ b = 173 + q ∨ b = 183 + q ∨ b = 193 + q ∨ b = 203 + q ∨ b = 213 + q ∨ b = 223 + q := by omega
  rcases c with e | e | e | e | e | e | e | e <;> rw [e]
  · exact n_2d F (b := 153) (by decide) q0 (by omega)
  · exact n_2d F (b := 163) (by decide) q0 (by omega)
  · exact n_2d F (b := 173) (by decide) q0 (by omega)
  · exact n_2d F (b := 183) (by decide) q0 (by omega)
  · exact n_2d F (b := 193) (by decide) q0 (by omega)
  · exact n_2d F (b := 203) (by decide) q0 (by omega)
  · exact n_2d F (b := 213) (by decide) q0 (by omega)
  · exact n_2d F (b := 223) (by decide) q0 (by omega)
theorem n_cp8_I {g : m_H} (I : n_I g) {q i : Int} (q0 : 0 ≤ q) (q1 : q < 8) : n_I (n_cp8 g q i) := by
  have T := fun b (h : n_c8 q b) => (n_c8_t I.2 q0 q1 h).1
  refine ⟨n_wf_same I.1 rfl (fun r hr j => ?_) (fun s hs => ?_), n_fx_of I.2 (Int.le_refl _) (fun _ _ _ => ⟨rfl, rfl⟩) (fun b j hb => ?_)⟩
  · rw [n_cp8_g, if_neg (fun z => by have := T r z.1; omega)]
  · rw [n_cp8_g, n_cp8_g, if_neg (fun z => by have := T s z.1; omega), if_neg (fun z => by have := T s z.1; omega)]
    exact ⟨rfl, rfl⟩
  · rw [n_cp8_g, if_neg (fun z => by
      have := T b z.1
      have k := n_key_ar I.2 j (Or.inl this)
      rw [hb] at k; cases k)]
theorem n_cp8_s {g : m_H} {q i : Int} (i0 : 0 ≤ i) : (m_p (m_p (m_p (m_p (m_p (m_p (m_p (m_p (n_cp8 g q i) (153 + q) i (m_g g (153 + 8) i)) (163 + q) i (m_g g (163 + 8) i)) (173 + q) i (m_g g (173 + 8) i)) (183 + q) i (m_g g (183 + 8) i)) (193 + q) i (m_g g (193 + 8) i)) (203 + q) i (m_g g (203 + 8) i)) (213 + q) i (m_g g (213 + 8) i)) (223 + q) i (m_g g (223 + 8) i)) = n_cp8 g q (i + 1) := by
  refine n_ext rfl fun b j => ?_
  by_cases hj : j = i
  · subst hj
    by_cases c : n_c8 q b
    · rw [n_cp8_g g q (j + 1), if_pos ⟨c, i0, by omega⟩]
      have cs : b = 153 + q ∨ b = 163 + q ∨ b = 173 + q ∨ b = 183 + q ∨ b = 193 + q ∨ b = 203 + q ∨ b = 213 + q ∨ b = 223 + q := by omega
      rcases cs with e | e | e | e | e | e | e | e
      · rw [n_gp_n (by omega), n_gp_n (by omega), n_gp_n (by omega), n_gp_n (by omega), n_gp_n (by omega), n_gp_n (by omega), n_gp_n (by omega), n_gp_y ⟨e, rfl⟩, show b + 8 - q = 153 + 8 by omega]
      · rw [n_gp_n (by omega), n_gp_n (by omega), n_gp_n (by omega), n_gp_n (by omega), n_gp_n (by omega), n_gp_n (by omega), n_gp_y ⟨e, rfl⟩, show b + 8 - q = 163 + 8 by omega]
      · rw [n_gp_n (by omega), n_gp_n (by omega), n_gp_n (by omega), n_gp_n (by omega), n_gp_n (by omega), n_gp_y ⟨e, rfl⟩, show b + 8 - q = 173 + 8 by omega]
      · rw [n_gp_n (by omega), n_gp_n (by omega), n_gp_n (by omega), n_gp_n (by omega), n_gp_y ⟨e, rfl⟩, show b + 8 - q = 183 + 8 by omega]
      · rw [n_gp_n (by omega), n_gp_n (by omega), n_gp_n (by omega), n_gp_y ⟨e, rfl⟩, show b + 8 - q = 193 + 8 by omega]
      · rw [n_gp_n (by omega), n_gp_n (by omega), n_gp_y ⟨e, rfl⟩, show b + 8 - q = 203 + 8 by omega]
      · rw [n_gp_n (by omega), n_gp_y ⟨e, rfl⟩, show b + 8 - q = 213 + 8 by omega]
      · rw [n_gp_y ⟨e, rfl⟩, show b + 8 - q = 223 + 8 by omega]
    · rw [n_cp8_g g q (j + 1), if_neg (fun z => c z.1)]
      rw [n_gp_n (by omega), n_gp_n (by omega), n_gp_n (by omega), n_gp_n (by omega), n_gp_n (by omega), n_gp_n (by omega), n_gp_n (by omega), n_gp_n (by omega), n_cp8_g, if_neg (fun z => c z.1)]
  · rw [n_gp_n (by omega), n_gp_n (by omega), n_gp_n (by omega), n_gp_n (by omega), n_gp_n (by omega), n_gp_n (by omega), n_gp_n (by omega), n_gp_n (by omega), n_cp8_g, n_cp8_g]
    by_cases c : n_c8 q b ∧ 0 ≤ j ∧ j < i
    · rw [if_pos c, if_pos ⟨c.1, by omega, by omega⟩]
    · rw [if_neg c, if_neg (fun z => c ⟨z.1, by omega, by omega⟩)]
theorem n_copyS {g : m_H} (I : n_I g) {q i : Int} (e43 : m_g g 127 43 = q) (q0 : 0 ≤ q) (q1 : q < 8) (i0 : 0 ≤ i) (i1 : i < 40) : t11_score_c48 127 i (n_cp8 g q i) = t11_score_c48 127 (i + 1) (n_cp8 g q (i + 1)) := by
  have H0 : n_I (n_cp8 g q i) := n_cp8_I I q0 q1
  have r0 : ∀ b j, ¬ n_c8 q b → m_g (n_cp8 g q i) b j = m_g g b j := fun b j h => by rw [n_cp8_g, if_neg (fun z => h z.1)]
  have f0 : m_g (n_cp8 g q i) 127 43 = q := by rw [r0 127 43 (by omega)]; exact e43
  have H1 : n_I (m_p (n_cp8 g q i) (153 + q) i (m_g g (153 + 8) i)) := n_I_pa H0 (Or.inl (n_d35 H0.2 (k := q) (o := 0) q0 (by omega) (by omega) (by omega)).1)
  have f1 : m_g (m_p (n_cp8 g q i) (153 + q) i (m_g g (153 + 8) i)) 127 43 = q := by rw [n_gp_n (by omega)]; exact f0
  have v0 : m_g (n_cp8 g q i) (153 + 8) i = m_g g (153 + 8) i := by rw [r0 _ _ (by omega)]
  have H2 : n_I (m_p (m_p (n_cp8 g q i) (153 + q) i (m_g g (153 + 8) i)) (163 + q) i (m_g g (163 + 8) i)) := n_I_pa H1 (Or.inl (n_d36 H1.2 (k := q) (o := 0) q0 (by omega) (by omega) (by omega)).1)
  have f2 : m_g (m_p (m_p (n_cp8 g q i) (153 + q) i (m_g g (153 + 8) i)) (163 + q) i (m_g g (163 + 8) i)) 127 43 = q := by rw [n_gp_n (by omega)]; exact f1
  have v1 : m_g (m_p (n_cp8 g q i) (153 + q) i (m_g g (153 + 8) i)) (163 + 8) i = m_g g (163 + 8) i := by rw [n_gp_n (by omega), r0 _ _ (by omega)]
  have H3 : n_I (m_p (m_p (m_p (n_cp8 g q i) (153 + q) i (m_g g (153 + 8) i)) (163 + q) i (m_g g (163 + 8) i)) (173 + q) i (m_g g (173 + 8) i)) := n_I_pa H2 (Or.inl (n_d37 H2.2 (k := q) (o := 0) q0 (by omega) (by omega) (by omega)).1)
  have f3 : m_g (m_p (m_p (m_p (n_cp8 g q i) (153 + q) i (m_g g (153 + 8) i)) (163 + q) i (m_g g (163 + 8) i)) (173 + q) i (m_g g (173 + 8) i)) 127 43 = q := by rw [n_gp_n (by omega)]; exact f2
  have v2 : m_g (m_p (m_p (n_cp8 g q i) (153 + q) i (m_g g (153 + 8) i)) (163 + q) i (m_g g (163 + 8) i)) (173 + 8) i = m_g g (173 + 8) i := by rw [n_gp_n (by omega), n_gp_n (by omega), r0 _ _ (by omega)]
  have H4 : n_I (m_p (m_p (m_p (m_p (n_cp8 g q i) (153 + q) i (m_g g (153 + 8) i)) (163 + q) i (m_g g (163 + 8) i)) (173 + q) i (m_g g (173 + 8) i)) (183 + q) i (m_g g (183 + 8) i)) := n_I_pa H3 (Or.inl (n_d38 H3.2 (k := q) (o := 0) q0 (by omega) (by omega) (by omega)).1)
  have f4 : m_g (m_p (m_p (m_p (m_p (n_cp8 g q i) (153 + q) i (m_g g (153 + 8) i)) (163 + q) i (m_g g (163 + 8) i)) (173 + q) i (m_g g (173 + 8) i)) (183 + q) i (m_g g (183 + 8) i)) 127 43 = q := by rw [n_gp_n (by omega)]; exact f3
  have v3 : m_g (m_p (m_p (m_p (n_cp8 g q i) (153 + q) i (m_g g (153 + 8) i)) (163 + q) i (m_g g (163 + 8) i)) (173 + q) i (m_g g (173 + 8) i)) (183 + 8) i = m_g g (183 + 8) i := by rw [n_gp_n (by omega), n_gp_n (by omega), n_gp_n (by omega), r0 _ _ (by omega)]
  have H5 : n_I (m_p (m_p (m_p (m_p (m_p (n_cp8 g q i) (153 + q) i (m_g g (153 + 8) i)) (163 + q) i (m_g g (163 + 8) i)) (173 + q) i (m_g g (173 + 8) i)) (183 + q) i (m_g g (183 + 8) i)) (193 + q) i (m_g g (193 + 8) i)) := n_I_pa H4 (Or.inl (n_d39 H4.2 (k := q) (o := 0) q0 (by omega) (by omega) (by omega)).1)
  have f5 : m_g (m_p (m_p (m_p (m_p (m_p (n_cp8 g q i) (153 + q) i (m_g g (153 + 8) i)) (163 + q) i (m_g g (163 + 8) i)) (173 + q) i (m_g g (173 + 8) i)) (183 + q) i (m_g g (183 + 8) i)) (193 + q) i (m_g g (193 + 8) i)) 127 43 = q := by rw [n_gp_n (by omega)]; exact f4
  have v4 : m_g (m_p (m_p (m_p (m_p (n_cp8 g q i) (153 + q) i (m_g g (153 + 8) i)) (163 + q) i (m_g g (163 + 8) i)) (173 + q) i (m_g g (173 + 8) i)) (183 + q) i (m_g g (183 + 8) i)) (193 + 8) i = m_g g (193 + 8) i := by rw [n_gp_n (by omega), n_gp_n (by omega), n_gp_n (by omega), n_gp_n (by omega), r0 _ _ (by omega)]
  have H6 : n_I (m_p (m_p (m_p (m_p (m_p (m_p (n_cp8 g q i) (153 + q) i (m_g g (153 + 8) i)) (163 + q) i (m_g g (163 + 8) i)) (173 + q) i (m_g g (173 + 8) i)) (183 + q) i (m_g g (183 + 8) i)) (193 + q) i (m_g g (193 + 8) i)) (203 + q) i (m_g g (203 + 8) i)) := n_I_pa H5 (Or.inl (n_d40 H5.2 (k := q) (o := 0) q0 (by omega) (by omega) (by omega)).1)
  have f6 : m_g (m_p (m_p (m_p (m_p (m_p (m_p (n_cp8 g q i) (153 + q) i (m_g g (153 + 8) i)) (163 + q) i (m_g g (163 + 8) i)) (173 + q) i (m_g g (173 + 8) i)) (183 + q) i (m_g g (183 + 8) i)) (193 + q) i (m_g g (193 + 8) i)) (203 + q) i (m_g g (203 + 8) i)) 127 43 = q := by rw [n_gp_n (by omega)]; exact f5
  have v5 : m_g (m_p (m_p (m_p (m_p (m_p (n_cp8 g q i) (153 + q) i (m_g g (153 + 8) i)) (163 + q) i (m_g g (163 + 8) i)) (173 + q) i (m_g g (173 + 8) i)) (183 + q) i (m_g g (183 + 8) i)) (193 + q) i (m_g g (193 + 8) i)) (203 + 8) i = m_g g (203 + 8) i := by rw [n_gp_n (by omega), n_gp_n (by omega), n_gp_n (by omega), n_gp_n (by omega), n_gp_n (by omega), r0 _ _ (by omega)]
  have H7 : n_I (m_p (m_p (m_p (m_p (m_p (m_p (m_p (n_cp8 g q i) (153 + q) i (m_g g (153 + 8) i)) (163 + q) i (m_g g (163 + 8) i)) (173 + q) i (m_g g (173 + 8) i)) (183 + q) i (m_g g (183 + 8) i)) (193 + q) i (m_g g (193 + 8) i)) (203 + q) i (m_g g (203 + 8) i)) (213 + q) i (m_g g (213 + 8) i)) := n_I_pa H6 (Or.inl (n_d41 H6.2 (k := q) (o := 0) q0 (by omega) (by omega) (by omega)).1)
  have f7 : m_g (m_p (m_p (m_p (m_p (m_p (m_p (m_p (n_cp8 g q i) (153 + q) i (m_g g (153 + 8) i)) (163 + q) i (m_g g (163 + 8) i)) (173 + q) i (m_g g (173 + 8) i)) (183 + q) i (m_g g (183 + 8) i)) (193 + q) i (m_g g (193 + 8) i)) (203 + q) i (m_g g (203 + 8) i)) (213 + q) i (m_g g (213 + 8) i)) 127 43 = q := by rw [n_gp_n (by omega)]; exact f6
  have v6 : m_g (m_p (m_p (m_p (m_p (m_p (m_p (n_cp8 g q i) (153 + q) i (m_g g (153 + 8) i)) (163 + q) i (m_g g (163 + 8) i)) (173 + q) i (m_g g (173 + 8) i)) (183 + q) i (m_g g (183 + 8) i)) (193 + q) i (m_g g (193 + 8) i)) (203 + q) i (m_g g (203 + 8) i)) (213 + 8) i = m_g g (213 + 8) i := by rw [n_gp_n (by omega), n_gp_n (by omega), n_gp_n (by omega), n_gp_n (by omega), n_gp_n (by omega), n_gp_n (by omega), r0 _ _ (by omega)]
  have H8 : n_I (m_p (m_p (m_p (m_p (m_p (m_p (m_p (m_p (n_cp8 g q i) (153 + q) i (m_g g (153 + 8) i)) (163 + q) i (m_g g (163 + 8) i)) (173 + q) i (m_g g (173 + 8) i)) (183 + q) i (m_g g (183 + 8) i)) (193 + q) i (m_g g (193 + 8) i)) (203 + q) i (m_g g (203 + 8) i)) (213 + q) i (m_g g (213 + 8) i)) (223 + q) i (m_g g (223 + 8) i)) := n_I_pa H7 (Or.inl (n_d42 H7.2 (k := q) (o := 0) q0 (by omega) (by omega) (by omega)).1)
  have f8 : m_g (m_p (m_p (m_p (m_p (m_p (m_p (m_p (m_p (n_cp8 g q i) (153 + q) i (m_g g (153 + 8) i)) (163 + q) i (m_g g (163 + 8) i)) (173 + q) i (m_g g (173 + 8) i)) (183 + q) i (m_g g (183 + 8) i)) (193 + q) i (m_g g (193 + 8) i)) (203 + q) i (m_g g (203 + 8) i)) (213 + q) i (m_g g (213 + 8) i)) (223 + q) i (m_g g (223 + 8) i)) 127 43 = q := by rw [n_gp_n (by omega)]; exact f7
  have v7 : m_g (m_p (m_p (m_p (m_p (m_p (m_p (m_p (n_cp8 g q i) (153 + q) i (m_g g (153 + 8) i)) (163 + q) i (m_g g (163 + 8) i)) (173 + q) i (m_g g (173 + 8) i)) (183 + q) i (m_g g (183 + 8) i)) (193 + q) i (m_g g (193 + 8) i)) (203 + q) i (m_g g (203 + 8) i)) (213 + q) i (m_g g (213 + 8) i)) (223 + 8) i = m_g g (223 + 8) i := by rw [n_gp_n (by omega), n_gp_n (by omega), n_gp_n (by omega), n_gp_n (by omega), n_gp_n (by omega), n_gp_n (by omega), n_gp_n (by omega), r0 _ _ (by omega)]
  rw [← n_cp8_s i0, t11_score_c48, m_w_of (x := i) (by omega) (by omega), if_pos i1]
  rw [if_pos (n_t127 H0.2), f0, m_w_of (x := q) (by omega) (by omega), if_pos (n_c35 H0.2 (k := q) q0 (by omega)), if_pos (n_c35 H0.2 (k := 8) (by omega) (by omega)), n_a35 H0.2 (k := 8) (by omega) (by omega), if_pos (n_d35 H0.2 (k := 8) (by omega) (by omega) i0 i1), n_a35 H0.2 (k := q) q0 (by omega), if_pos (n_d35 H0.2 (k := q) q0 (by omega) i0 i1), v0, n_bs]
  rw [if_pos (n_t127 H1.2), f1, m_w_of (x := q) (by omega) (by omega), if_pos (n_c36 H1.2 (k := q) q0 (by omega)), if_pos (n_c36 H1.2 (k := 8) (by omega) (by omega)), n_a36 H1.2 (k := 8) (by omega) (by omega), if_pos (n_d36 H1.2 (k := 8) (by omega) (by omega) i0 i1), n_a36 H1.2 (k := q) q0 (by omega), if_pos (n_d36 H1.2 (k := q) q0 (by omega) i0 i1), v1, n_bs]
  rw [if_pos (n_t127 H2.2), f2, m_w_of (x := q) (by omega) (by omega), if_pos (n_c37 H2.2 (k := q) q0 (by omega)), if_pos (n_c37 H2.2 (k := 8) (by omega) (by omega)), n_a37 H2.2 (k := 8) (by omega) (by omega), if_pos (n_d37 H2.2 (k := 8) (by omega) (by omega) i0 i1), n_a37 H2.2 (k := q) q0 (by omega), if_pos (n_d37 H2.2 (k := q) q0 (by omega) i0 i1), v2, n_bs]
  rw [if_pos (n_t127 H3.2), f3, m_w_of (x := q) (by omega) (by omega), if_pos (n_c38 H3.2 (k := q) q0 (by omega)), if_pos (n_c38 H3.2 (k := 8) (by omega) (by omega)), n_a38 H3.2 (k := 8) (by omega) (by omega), if_pos (n_d38 H3.2 (k := 8) (by omega) (by omega) i0 i1), n_a38 H3.2 (k := q) q0 (by omega), if_pos (n_d38 H3.2 (k := q) q0 (by omega) i0 i1), v3, n_bs]
  rw [if_pos (n_t127 H4.2), f4, m_w_of (x := q) (by omega) (by omega), if_pos (n_c39 H4.2 (k := q) q0 (by omega)), if_pos (n_c39 H4.2 (k := 8) (by omega) (by omega)), n_a39 H4.2 (k := 8) (by omega) (by omega), if_pos (n_d39 H4.2 (k := 8) (by omega) (by omega) i0 i1), n_a39 H4.2 (k := q) q0 (by omega), if_pos (n_d39 H4.2 (k := q) q0 (by omega) i0 i1), v4, n_bs]
  rw [if_pos (n_t127 H5.2), f5, m_w_of (x := q) (by omega) (by omega), if_pos (n_c40 H5.2 (k := q) q0 (by omega)), if_pos (n_c40 H5.2 (k := 8) (by omega) (by omega)), n_a40 H5.2 (k := 8) (by omega) (by omega), if_pos (n_d40 H5.2 (k := 8) (by omega) (by omega) i0 i1), n_a40 H5.2 (k := q) q0 (by omega), if_pos (n_d40 H5.2 (k := q) q0 (by omega) i0 i1), v5, n_bs]
  rw [if_pos (n_t127 H6.2), f6, m_w_of (x := q) (by omega) (by omega), if_pos (n_c41 H6.2 (k := q) q0 (by omega)), if_pos (n_c41 H6.2 (k := 8) (by omega) (by omega)), n_a41 H6.2 (k := 8) (by omega) (by omega), if_pos (n_d41 H6.2 (k := 8) (by omega) (by omega) i0 i1), n_a41 H6.2 (k := q) q0 (by omega), if_pos (n_d41 H6.2 (k := q) q0 (by omega) i0 i1), v6, n_bs]
  rw [if_pos (n_t127 H7.2), f7, m_w_of (x := q) (by omega) (by omega), if_pos (n_c42 H7.2 (k := q) q0 (by omega)), if_pos (n_c42 H7.2 (k := 8) (by omega) (by omega)), n_a42 H7.2 (k := 8) (by omega) (by omega), if_pos (n_d42 H7.2 (k := 8) (by omega) (by omega) i0 i1), n_a42 H7.2 (k := q) q0 (by omega), if_pos (n_d42 H7.2 (k := q) q0 (by omega) i0 i1), v7, n_bs]
theorem n_copyL {g : m_H} (I : n_I g) {q : Int} (e43 : m_g g 127 43 = q) (q0 : 0 ≤ q) (q1 : q < 8) : t11_score_c48 127 0 g = some (q, m_p (n_cp8 g q 40) 127 43 (q + 1)) := by
  have key := n_iter (fun i => t11_score_c48 127 i (n_cp8 g q i)) 0 40 (by omega) (fun i i0 i1 => n_copyS I e43 q0 q1 i0 i1)
  have e0 : n_cp8 g q 0 = g := n_ext rfl fun b j => by rw [n_cp8_g, if_neg (by omega)]
  have J : n_I (n_cp8 g q 40) := n_cp8_I I q0 q1
  have f0 : m_g (n_cp8 g q 40) 127 43 = q := by rw [n_cp8_g, if_neg (by omega)]; exact e43
  have t : m_t (m_p (n_cp8 g q 40) 127 43 (q + 1)) 127 = 11 := by rw [m_t_p]; exact n_t127 J.2
  try dsimp only at key
  rw [e0] at key
  rw [key, t11_score_c48, m_w_of (x := 40) (by omega) (by omega), if_neg (by omega), if_pos (n_t127 J.2), f0, n_bs, if_pos t, n_gp_y ⟨rfl, rfl⟩, show q + 1 - 1 = q by omega]
