/-! CALLS: score: its end -/
theorem n_z5 {h x z : m_H} {q o : Int} (I : n_I h) (C : n_qC h x) (Z : n_wrt x z o) (o0 : 0 ≤ o) (o1 : o ≤ 40) : n_I (m_p (m_p (m_p z 19 q (m_n x)) 10 1 0) 1 4 (q + 1)) ∧ (∀ b j, b ≠ 19 → b ≠ 10 → b ≠ 1 → m_g (m_p (m_p (m_p z 19 q (m_n x)) 10 1 0) 1 4 (q + 1)) b j = m_g z b j) ∧ n_kp h (m_p (m_p (m_p z 19 q (m_n x)) 10 1 0) 1 4 (q + 1)) [1, 10, 12, 13, 14, 15, 16, 18, 19] [] ∧ ∀ b j, 127 ≤ b → b < 312 → m_g (m_p (m_p (m_p z 19 q (m_n x)) 10 1 0) 1 4 (q + 1)) b j = m_g h b j := by
  have J := n_wrt_I C.1 Z o0 o1
  have nx : m_n x = m_n h := n_e2n C.2.1
  have hn := I.2.2.2.2
  have e5 : ∀ b j, b ≠ 19 → b ≠ 10 → b ≠ 1 → m_g (m_p (m_p (m_p z 19 q (m_n x)) 10 1 0) 1 4 (q + 1)) b j = m_g z b j := fun b j h1 h2 h3 => by
    rw [n_gp_n (by omega), n_gp_n (by omega), n_gp_n (by omega)]
  have J1 : n_I (m_p z 19 q (m_n x)) := n_I_p J (by rw [n_t19 J.2]; omega) (by rw [n_t19 J.2]; omega) (n_key19 q)
  have J2 : n_I (m_p (m_p z 19 q (m_n x)) 10 1 0) := n_I_p J1 (by rw [n_t10 J1.2]; omega) (by rw [n_t10 J1.2]; omega) rfl
  have J3 : n_I (m_p (m_p (m_p z 19 q (m_n x)) 10 1 0) 1 4 (q + 1)) := n_I_p J2 (by rw [n_t1 J2.2]; omega) (by rw [n_t1 J2.2]; omega) rfl
  obtain ⟨zn, zs, T, L, O, zf, zc⟩ := Z
  refine ⟨J3, e5, ⟨fun b hb => ?_, ?_, fun b hb h1 _ _ j => ?_, fun r hr => Or.inl ?_⟩, fun b j b0 b1 => ?_⟩
  · rw [m_t_p, m_t_p, m_t_p, m_l_p, m_l_p, m_l_p, T, L, if_neg (by omega), if_neg (by omega), if_neg (by omega), if_neg (by omega), if_neg (by omega), if_neg (by omega), n_e2t C.2.1, n_e2l C.2.1]
    exact ⟨rfl, rfl⟩
  · rw [m_n_p, m_n_p, m_n_p]; omega
  · simp at h1
    rw [e5 b j (by omega) (by omega) (by omega), O b j (by omega)]
    exact C.2.2 b j (by omega) (by omega) (by omega)
  · have lr := n_wf_lt I.1 hr
    have t1 := n_t1 I.2
    have t10 := n_t10 I.2
    have t12 := n_t12 I.2
    have t13 := n_t13 I.2
    have t14 := n_t14 I.2
    have t15 := n_t15 I.2
    have t16 := n_t16 I.2
    have t18 := n_t18 I.2
    have t19 := n_t19 I.2
    rw [e5 r 0 (fun w => by rw [w] at hr; omega) (fun w => by rw [w] at hr; omega) (fun w => by rw [w] at hr; omega), O r 0 (by omega)]
    refine C.2.2 r 0 (fun w => ?_) (fun w => ?_) (fun w => ?_)
    · rcases w with w | w | w | w | w <;> rw [w] at hr <;> omega
    · rw [w.1] at hr; omega
    · rw [w.1] at hr; omega
  · rw [e5 b j (by omega) (by omega) (by omega), O b j (by omega)]
    exact n_qC_ref C b j b0 b1
theorem n_g4 {k g : m_H} {q o : Int} (R : n_qR k g) (q0 : 0 ≤ q) (q1 : q < 8) : n_I (m_p (n_cp8 (m_p (m_p g 127 30 0) 151 q o) q 40) 127 43 (q + 1)) ∧ n_kr k (m_p (n_cp8 (m_p (m_p g 127 30 0) 151 q o) q 40) 127 43 (q + 1)) [151, 161, 171, 181, 191, 201, 211, 221, 231, 232, 233, 234, 153 + q, 163 + q, 173 + q, 183 + q, 193 + q, 203 + q, 213 + q, 223 + q] [30, 31, 32, 33, 43, 47] ∧ (∀ b j, n_c8 q b → 0 ≤ j → j < 40 → m_g (m_p (n_cp8 (m_p (m_p g 127 30 0) 151 q o) q 40) 127 43 (q + 1)) b j = m_g g (b + 8 - q) j) ∧ m_g (m_p (n_cp8 (m_p (m_p g 127 30 0) 151 q o) q 40) 127 43 (q + 1)) 127 43 = q + 1 ∧ m_g (m_p (n_cp8 (m_p (m_p g 127 30 0) 151 q o) q 40) 127 43 (q + 1)) 127 30 = 0 ∧ m_g (m_p (n_cp8 (m_p (m_p g 127 30 0) 151 q o) q 40) 127 43 (q + 1)) 151 q = o ∧ ∀ p, p ≠ 8 → p ≠ q → m_g (m_p (n_cp8 (m_p (m_p g 127 30 0) 151 q o) q 40) 127 43 (q + 1)) 151 p = m_g k 151 p := by
  have I1 : n_I (m_p g 127 30 0) := n_I_p R.1 (by rw [n_t127 R.1.2]; omega) (by rw [n_t127 R.1.2]; omega) rfl
  have I2 : n_I (m_p (m_p g 127 30 0) 151 q o) := n_I_pa I1 (Or.inl (n_t151 I1.2))
  have I3 := n_cp8_I (i := 40) I2 q0 q1
  have I4 : n_I (m_p (n_cp8 (m_p (m_p g 127 30 0) 151 q o) q 40) 127 43 (q + 1)) := n_I_p I3 (by rw [n_t127 I3.2]; omega) (by rw [n_t127 I3.2]; omega) rfl
  have fr : ∀ b j, ¬ n_c8 q b → ¬ (b = 127 ∧ (j = 43 ∨ j = 30)) → ¬ (b = 151 ∧ j = q) → m_g (m_p (n_cp8 (m_p (m_p g 127 30 0) 151 q o) q 40) 127 43 (q + 1)) b j = m_g g b j := fun b j h1 h2 h3 => by
    rw [n_gp_n (by omega), n_cp8_g, if_neg (fun w => h1 w.1), n_gp_n (by omega), n_gp_n (by omega)]
  refine ⟨I4, ⟨R.2.1, fun b hb => by simp at hb; omega, fun b j hb hj => ?_⟩, fun b j c j0 j1 => ?_, n_gp_y ⟨rfl, rfl⟩, ?_, ?_, fun p p8 pq => ?_⟩
  · simp at hb hj
    rw [fr b j (by omega) (by omega) (by omega)]
    exact R.2.2 b j (by unfold n_scr; omega) (by omega) (by omega) (by omega)
  · rw [n_gp_n (by omega), n_cp8_g, if_pos ⟨c, j0, j1⟩, n_gp_n (by omega), n_gp_n (by omega)]
  · rw [n_gp_n (by omega), n_cp8_g, if_neg (by omega), n_gp_n (by omega), n_gp_y ⟨rfl, rfl⟩]
  · rw [n_gp_n (by omega), n_cp8_g, if_neg (by omega), n_gp_y ⟨rfl, rfl⟩]
  · rw [fr 151 p (by omega) (by omega) (by omega)]
    exact R.2.2 151 p (by unfold n_scr; omega) (by omega) (by omega) (by omega)
theorem n_cellsS {h : m_H} (I : n_I h) : ∀ b ∈ [1, 10, 12, 13, 14, 15, 16, 18, 19], n_sf h b ∧ (b < 127 ∨ 312 ≤ b) := fun b hb => by
  have t1 := n_t1 I.2
  have t19 := n_t19 I.2
  have E := n_cellsA I
  simp at hb
  by_cases c1 : b = 1
  · rw [c1]; exact ⟨n_sfa I (by omega) (by omega) (Or.inl (by omega)), by omega⟩
  · by_cases c2 : b = 19
    · rw [c2]; exact ⟨n_sfa I (by omega) (by omega) (Or.inl (by omega)), by omega⟩
    · exact E b (by simp; omega)
/-- an order of the new score -/
theorem n_ordNew {y x g : m_H} {q n w : Int} (q0 : 0 ≤ q) (q1 : q < 8) (w0 : 0 ≤ w) (w1 : w < 40) (c : ∀ j, 0 ≤ j → j < 8 → m_g y n (8 * w + j) = m_g x 16 (8 * w + j)) (e : ∀ b j, n_c8 q b → 0 ≤ j → j < 40 → m_g y b j = m_g g (b + 8 - q) j) (O : n_ord x g 8 16 w) (B : n_ordB g 8 w) : n_ord y y q n w ∧ n_ordB y q w := by
  have c0 := c 0 (by omega) (by omega)
  rw [Int.add_zero] at c0
  have f0 : ∀ j, 0 ≤ j → j < 40 → m_g y (153 + q) j = m_g g (153 + 8) j := fun j j0 j1 => by rw [e (153 + q) j (by omega) j0 j1, show 153 + q + 8 - q = 153 + 8 by omega]
  have f1 : ∀ j, 0 ≤ j → j < 40 → m_g y (163 + q) j = m_g g (163 + 8) j := fun j j0 j1 => by rw [e (163 + q) j (by omega) j0 j1, show 163 + q + 8 - q = 163 + 8 by omega]
  have f2 : ∀ j, 0 ≤ j → j < 40 → m_g y (173 + q) j = m_g g (173 + 8) j := fun j j0 j1 => by rw [e (173 + q) j (by omega) j0 j1, show 173 + q + 8 - q = 173 + 8 by omega]
  have f3 : ∀ j, 0 ≤ j → j < 40 → m_g y (183 + q) j = m_g g (183 + 8) j := fun j j0 j1 => by rw [e (183 + q) j (by omega) j0 j1, show 183 + q + 8 - q = 183 + 8 by omega]
  have f4 : ∀ j, 0 ≤ j → j < 40 → m_g y (193 + q) j = m_g g (193 + 8) j := fun j j0 j1 => by rw [e (193 + q) j (by omega) j0 j1, show 193 + q + 8 - q = 193 + 8 by omega]
  have f5 : ∀ j, 0 ≤ j → j < 40 → m_g y (203 + q) j = m_g g (203 + 8) j := fun j j0 j1 => by rw [e (203 + q) j (by omega) j0 j1, show 203 + q + 8 - q = 203 + 8 by omega]
  have f6 : ∀ j, 0 ≤ j → j < 40 → m_g y (213 + q) j = m_g g (213 + 8) j := fun j j0 j1 => by rw [e (213 + q) j (by omega) j0 j1, show 213 + q + 8 - q = 213 + 8 by omega]
  have f7 : ∀ j, 0 ≤ j → j < 40 → m_g y (223 + q) j = m_g g (223 + 8) j := fun j j0 j1 => by rw [e (223 + q) j (by omega) j0 j1, show 223 + q + 8 - q = 223 + 8 by omega]
  constructor
  · unfold n_ord at *
    rw [c0, c 1 (by omega) (by omega), c 2 (by omega) (by omega), c 3 (by omega) (by omega), c 4 (by omega) (by omega), c 5 (by omega) (by omega), c 6 (by omega) (by omega), c 7 (by omega) (by omega), f0 w w0 w1, f1 w w0 w1, f2 w w0 w1, f3 w w0 w1, f4 w w0 w1, f5 w w0 w1, f6 w w0 w1, f7 w w0 w1]
    exact O
  · unfold n_ordB at *
    rw [f0 w w0 w1, f1 w w0 w1, f2 w w0 w1, f3 w w0 w1, f4 w w0 w1, f5 w w0 w1, f6 w w0 w1, f7 w w0 w1]
    obtain ⟨b1, b2, b3, b4, b5, b6, b7⟩ := B
    refine ⟨b1, b2, b3, fun v => ?_, b5, fun v => ?_, b7⟩
    · obtain ⟨u1, u2, u3⟩ := b4 v
      exact ⟨u1, u2, by rw [f0 _ u1 (by omega)]; exact u3⟩
    · obtain ⟨u1, u2, u3⟩ := b6 v
      exact ⟨u1, u2, by rw [f0 _ u1 (by omega)]; exact u3⟩
theorem n_finSc {h x z g : m_H} {k q o nm : Int} {c' : Nat} {c d : Int → Int} (X : n_R h k) (eq : m_g h 127 43 = q) (q1 : q < 8) (C : n_qC h x) (Z : n_wrt x z o) (R : n_qR (m_p (m_p (m_p z 19 q (m_n x)) 10 1 0) 1 4 (q + 1)) g) (S : n_qP h (m_p (m_p (m_p z 19 q (m_n x)) 10 1 0) 1 4 (q + 1)) c' x g c' o nm c d) : n_R (m_p (n_cp8 (m_p (m_p g 127 30 0) 151 q o) q 40) 127 43 (q + 1)) (k + 1) := by
  have X' := X
  obtain ⟨I, gs, bud, x1, x2, x3, x4, x5, x6, x7⟩ := X'
  obtain ⟨y1, y2, y3, y4, y5, y6⟩ := x5
  rw [eq] at y1 y2 y3 y4 y5 y6
  have o0 := S.2.2.2.1.2.2.2.1
  have o1 := S.2.2.2.1.2.2.2.2
  have O := S.2.2.2.2.2.1
  obtain ⟨J5, e5, KP, ref5⟩ := n_z5 (q := q) I C Z o0 o1
  obtain ⟨J4, KR, e8, f43, f30, f151, fp⟩ := n_g4 (o := o) R y2 q1
  have P := n_sp_of I KP KR (n_cellsS I) n_no
  have nx : m_n x = m_n h := n_e2n C.2.1
  have hn := I.2.2.2.2
  have z19 : ∀ j, m_g (m_p (m_p (m_p z 19 q (m_n x)) 10 1 0) 1 4 (q + 1)) 19 j = if j = q then m_n h else m_g h 19 j := fun j => by
    rw [n_gp_n (by omega), n_gp_n (by omega), m_g_p]
    by_cases w : j = q
    · rw [if_pos ⟨rfl, w⟩, if_pos w, nx]
    · rw [if_neg (by omega), if_neg w, Z.2.2.2.2.1 19 j (by omega)]
      exact C.2.2 19 j (by omega) (by omega) (by omega)
  have z14 : m_g (m_p (m_p (m_p z 19 q (m_n x)) 10 1 0) 1 4 (q + 1)) 1 4 = q + 1 := n_gp_y ⟨rfl, rfl⟩
  have z101 : m_g (m_p (m_p (m_p z 19 q (m_n x)) 10 1 0) 1 4 (q + 1)) 10 1 = 0 := by rw [n_gp_n (by omega), n_gp_y ⟨rfl, rfl⟩]
  have zt : ∀ b, m_t (m_p (m_p (m_p z 19 q (m_n x)) 10 1 0) 1 4 (q + 1)) b = if b = m_n h + 2 then 20 else if b = m_n h + 1 then 20 else if b = m_n h then 6 else m_t h b := fun b => by
    rw [m_t_p, m_t_p, m_t_p, Z.2.2.1, nx, n_e2t C.2.1]
  have zl : ∀ b, m_l (m_p (m_p (m_p z 19 q (m_n x)) 10 1 0) 1 4 (q + 1)) b = if b = m_n h + 2 then 40 else if b = m_n h + 1 then 8 * o else if b = m_n h then 4 else m_l h b := fun b => by
    rw [m_l_p, m_l_p, m_l_p, Z.2.2.2.1, nx, n_e2l C.2.1]
  have znn : m_n (m_p (m_p (m_p z 19 q (m_n x)) 10 1 0) 1 4 (q + 1)) = m_n h + 3 := by rw [m_n_p, m_n_p, m_n_p, Z.1, nx]
  have zss : m_s (m_p (m_p (m_p z 19 q (m_n x)) 10 1 0) 1 4 (q + 1)) = m_s h + 44 + 8 * o := by rw [m_s_p, m_s_p, m_s_p, Z.2.1, n_e2s C.2.1]
  have zf := Z.2.2.2.2.2.1
  have zc := Z.2.2.2.2.2.2
  rw [nx] at zf zc
  have zn0 : ∀ j, m_g (m_p (m_p (m_p z 19 q (m_n x)) 10 1 0) 1 4 (q + 1)) (m_n h) j = m_g z (m_n h) j := fun j => e5 _ j (by omega) (by omega) (by omega)
  have zn1 : ∀ j, m_g (m_p (m_p (m_p z 19 q (m_n x)) 10 1 0) 1 4 (q + 1)) (m_n h + 1) j = m_g z (m_n h + 1) j := fun j => e5 _ j (by omega) (by omega) (by omega)
  generalize (m_p (m_p (m_p z 19 q (m_n x)) 10 1 0) 1 4 (q + 1)) = z5 at *
  have comp := fun b j (hb : b < 127 ∨ 312 ≤ b) => n_kr_comp KR hb j
  have e2 : (m_p (n_cp8 (m_p (m_p g 127 30 0) 151 q o) q 40) 127 43 (q + 1)).2 = z5.2 := KR.1
  generalize (m_p (n_cp8 (m_p (m_p g 127 30 0) 151 q o) q 40) 127 43 (q + 1)) = y at *
  have sa := fun b (b1 : 127 < b) (b2 : b < 312) (hb : b ∉ [151, 161, 171, 181, 191, 201, 211, 221, 231, 232, 233, 234, 153 + q, 163 + q, 173 + q, 183 + q, 193 + q, 203 + q, 213 + q, 223 + q]) j => n_sp_a P b1 b2 hb j
  have tn0 : m_t y (m_n h) = 6 := by rw [n_e2t e2, zt, if_neg (by omega), if_neg (by omega), if_pos rfl]
  have l1 : m_l y (m_n h + 1) = 8 * o := by rw [n_e2l e2, zl, if_neg (by omega), if_pos rfl]
  have a0 : m_g y (m_n h) 0 = m_n h + 1 := by rw [comp _ _ (by omega), zn0]; exact zf.1
  have a1 : m_g y (m_n h) 1 = o := by rw [comp _ _ (by omega), zn0]; exact zf.2.1
  have a2 : m_g y (m_n h) 2 = 0 := by rw [comp _ _ (by omega), zn0]; exact zf.2.2.1
  have a3 : m_g y (m_n h) 3 = m_n h + 2 := by rw [comp _ _ (by omega), zn0]; exact zf.2.2.2
  have ac : ∀ j, 0 ≤ j → j < 8 * o → m_g y (m_n h + 1) j = m_g x 16 j := fun j j0 j1 => by rw [comp _ _ (by omega), zn1]; exact zc j j0 j1
  have y19 : ∀ j, m_g y 19 j = if j = q then m_n h else m_g h 19 j := fun j => by rw [comp 19 j (by omega)]; exact z19 j
  have e292 : ∀ p, m_g y 292 p = m_g h 292 p := fun p => sa 292 (by omega) (by omega) (by simp; omega) p
  have SS : ∀ p, 0 ≤ p → p < q → n_scS h y p := fun p p0 p1 => by
    refine ⟨?_, e292 p, fun w => ⟨?_, ?_, ?_, ?_, ?_, ?_, ?_, ?_, ?_⟩⟩
    · rw [fp p (by omega) (by omega)]; exact ref5 151 p (by omega) (by omega)
    all_goals exact sa _ (by omega) (by omega) (by simp; omega) w
  obtain ⟨g0, g1, g2', g3, g4, g5, g6, g7⟩ := n_fr X P
  have nos : n_nos [151, 161, 171, 181, 191, 201, 211, 221, 231, 232, 233, 234, 153 + q, 163 + q, 173 + q, 183 + q, 193 + q, 203 + q, 213 + q, 223 + q] [30, 31, 32, 33, 43, 47] := ⟨fun b hb => by simp at hb; omega, fun b hb => by simp at hb; omega⟩
  have T := fun p (p0 : 0 ≤ p) (p1 : p < q) => by
    obtain ⟨⟨⟨s1, s2, s3, s4, s5⟩, S2⟩, S3⟩ := y4 p p0 p1
    exact n_sp_sc I P (fun b hb => Or.inl (by simp at hb; omega)) s1 s2 s3 s4
  have new := fun w (w0 : 0 ≤ w) (w1 : w < o) => n_ordNew (y := y) (x := x) (g := g) (q := q) (n := m_n h + 1) (w := w) y2 q1 w0 (by omega) (fun j j0 j1 => ac _ (by omega) (by omega)) e8 (O w w0 w1).1 (O w w0 w1).2
  refine ⟨J4, g0 nos, ?_, g1 List.not_mem_nil (by simp; omega) (by simp), g2' List.not_mem_nil (by simp; omega) (by simp), g3 nos (fun b hb => ?_) n_no, ?_, ?_, ?_, g7 nos (by simp; omega) (by simp) ?_ (by simp) (by simp)⟩
  · have ph : n_phi y = n_phi h := n_phi_eq (fun r hr => by
      have tr := (n_rows_t I.2 hr).1
      have lr := n_wf_lt I.1 tr
      have e : m_g y r 0 = m_g h r 0 := by
        have w := n_ref_row I tr
        rw [comp r 0 w.1]
        rcases KP.2.2.2 r tr with q | q
        · exact q
        · have v := KP.2.2.1 r lr.1 (fun w => by
            have := (n_cellsS I r w).1.2.1
            exact this tr) List.not_mem_nil n_no 0
          exact v
      unfold n_cap
      rw [e, n_e2l e2, (KP.1 _ lr.2.1).2])
    unfold n_bud at *
    rw [ph, n_e2n e2, n_e2s e2, znn, zss]
    omega
  · have t1 := n_t1 I.2
    have t10 := n_t10 I.2
    have t12 := n_t12 I.2
    have t13 := n_t13 I.2
    have t14 := n_t14 I.2
    have t15 := n_t15 I.2
    have t16 := n_t16 I.2
    have t18 := n_t18 I.2
    have t19 := n_t19 I.2
    simp at hb
    rcases hb with e | e | e | e | e | e | e | e | e <;> rw [e] <;> omega
  · unfold n_Rread
    rw [comp 10 1 (by omega), z101, f30]
    exact ⟨rfl, by omega, by omega, fun j j0 j1 => by omega⟩
  · refine ⟨by rw [comp 1 4 (by omega), z14, f43], by rw [f43]; omega, by rw [f43]; omega, fun p p0 p1 => ?_, fun p r p0 p1 r0 r1 hne => ?_, fun p p0 p1 => ?_⟩
    · rw [f43] at p1
      by_cases c : p = q
      · rw [c, y19, if_pos rfl, f151, e292, y6 q (Int.le_refl _) q1]
        refine ⟨?_, o0, o1, by omega, by omega, fun w w0 w1 => (new w w0 w1).2⟩
        unfold n_score
        rw [a0, a1, a2, a3, l1, f151, e292, y6 q (Int.le_refl _) q1]
        exact ⟨⟨tn0, hn, by omega, by omega, by omega⟩, rfl, rfl, rfl, fun w w0 w1 => (new w w0 w1).1, fun w => absurd w (by decide)⟩
      · have Sp := SS p p0 (by omega)
        obtain ⟨⟨⟨s1, s2, s3, s4, s5⟩, t2, t3, t4, t5, t6⟩, u1, u2, u3, u4, u5⟩ := y4 p p0 (by omega)
        obtain ⟨v1, v2, v3, v4, v5, v6⟩ := T p p0 (by omega)
        rw [y19, if_neg c, Sp.1, Sp.2.1]
        refine ⟨?_, u1, u2, u3, u4, fun w w0 w1 => n_ordB_S Sp (u5 w w0 w1)⟩
        unfold n_score
        rw [v2, v2, v2, v2, v1, v5, Sp.1, Sp.2.1]
        refine ⟨⟨rfl, s2, s3, s4, s5⟩, t2, t3, t4, fun w w0 w1 => n_ord_S Sp v3 (t5 w w0 w1), fun m w w0 w1 => ?_⟩
        rw [v4, (Sp.2.2 w).2.2.2.2.2.2.2.2]
        exact t6 m w w0 w1
    · rw [f43] at p1 r1
      have bd : ∀ p, 0 ≤ p → p < q → m_g h 19 p < m_n h ∧ m_g h (m_g h 19 p) 0 < m_n h ∧ m_g h (m_g h 19 p) 3 < m_n h := fun p p0 p1 => by
        have s1 := (y4 p p0 p1).1.1.1
        have w := I.1.2.2.2.2 _ s1
        exact ⟨(I.1.1 _ (by omega)).2, (I.1.1 _ (by omega)).2, (I.1.1 _ (by omega)).2⟩
      rw [y19, y19]
      by_cases c : p = q
      · have r2 : r < q := by omega
        have b := bd r r0 r2
        rw [if_pos c, if_neg (by omega), a3, (T r r0 r2).2.1, (T r r0 r2).2.1]
        omega
      · have p2 : p < q := by omega
        have b := bd p p0 p2
        rw [if_neg c, (T p p0 p2).2.1]
        by_cases c2 : r = q
        · rw [if_pos c2, a3, a0]
          omega
        · have r2 : r < q := by omega
          rw [if_neg c2, (T r r0 r2).2.1, (T r r0 r2).2.1]
          exact y5 p r p0 p2 r0 r2 hne
    · rw [f43] at p0
      rw [e292]
      exact y6 p (by omega) p1
  · exact n_Rpc_sp I P (fun p p0 p1 => ⟨SS p p0 (by omega), by rw [y19, if_neg (by omega)]⟩) (by rw [f43, eq]; omega) (by rw [n_sp_f P (k := 23) (by simp)]; exact Int.le_refl _) (fun j _ _ => sa 142 (by omega) (by omega) (by simp; omega) j) (fun b hb => by simp at hb; omega) (fun p hp => by simp at hp; omega) (fun b hb => by simp at hb; omega) List.not_mem_nil (fun p w p0 p1 w0 w1 => (y4 p p0 (by omega)).2.2.2.2.2 w w0 w1) x6
  · rw [comp 2 11 (by omega), KP.2.2.1 2 (by omega) (by simp) List.not_mem_nil n_no 11]
theorem n_s_score {h : m_H} {k : Int} (X : n_R h k) : n_step h k (t10_score 1) (t11_score 127) := by
  have X' := X
  obtain ⟨I, gs, bud, x1, x2, x3, x4, x5, x6, x7⟩ := X'
  obtain ⟨y1, y2, y3, y45⟩ := x5
  obtain ⟨q, eq⟩ : ∃ q, q = m_g h 127 43 := ⟨_, rfl⟩
  rw [← eq] at y1 y2 y3
  have l19 := n_l19 I.2
  have hC : t10_score 1 h = if q < 8 then (t4_firstFault 10 h >>= fun ⟨r6, h5⟩ => (if (m_w r6) = (-1) then
    (if m_t h5 1 = 10 then if m_t h5 (m_g h5 1 2) = 4 then t4_written (m_g h5 1 2) h5 >>= fun ⟨r11, h10⟩ => if (m_t h10 (m_g h5 1 3) = 26 ∧ 0 ≤ (m_w (m_g h5 1 4)) ∧ (m_w (m_g h5 1 4)) < m_l h10 (m_g h5 1 3)) ∧ m_t h10 r11 = 6 then some (m_p h10 (m_g h5 1 3) (m_w (m_g h5 1 4)) r11) >>= fun h13 => if m_t h13 1 = 10 then if m_t h13 (m_g h13 1 2) = 4 then some (m_p h13 (m_g h13 1 2) 1 0) >>= fun h16 => if m_t h16 1 = 10 then some (m_p h16 1 4 ((m_g h16 1 4) + 1)) >>= fun h18 => if m_t h18 1 = 10 then some (((m_g h18 1 4) - 1), h18) else none else none else none else none else none else none else none)
  else
    some ((-1), h5))) else some (-1, h) := by
    unfold t10_score
    rw [if_pos (n_t1 I.2), n_p1_3 I.2, if_pos (by rw [n_t19 I.2]; omega), y1, l19, m_w_of (x := q) (by omega) (by omega), m_w_of (x := 8) (by omega) (by omega), n_p1_2 I.2, if_pos (n_t10 I.2)]
  by_cases c8 : q < 8
  · rw [if_pos c8] at hC
    obtain ⟨c0, a0, x, g00, B0, f0, r0, C0, R0, l0, u0, v0, w0⟩ := n_parseJ I x4 I (fun _ _ _ _ => rfl)
    rw [f0, n_bs] at hC
    dsimp only at hC
    rw [m_w_of (x := a0) (by omega) (by omega)] at hC
    by_cases ca : a0 = -1
    · obtain ⟨o, nm, c, d, P0⟩ := w0 ca
      have o0 := P0.2.2.2.1.2.2.2.1
      have o1 := P0.2.2.2.1.2.2.2.2
      obtain ⟨z, fw, Z⟩ := n_writtenC C0.1 P0.2.2.2.1.1 o0 o1
      obtain ⟨J5, e5, KP, ref5⟩ := n_z5 (q := q) I C0 Z o0 o1
      have Jz := n_wrt_I C0.1 Z o0 o1
      have nx : m_n x = m_n h := n_e2n C0.2.1
      have hn := I.2.2.2.2
      have x14 : m_g x 1 4 = q := by rw [C0.2.2 1 4 (by omega) (by omega) (by omega)]; exact y1
      have tz : m_t z (m_n x) = 6 := by rw [Z.2.2.1, if_neg (by omega), if_neg (by omega), if_pos rfl]
      have I1 : n_I (m_p z 19 q (m_n x)) := n_I_p Jz (by rw [n_t19 Jz.2]; omega) (by rw [n_t19 Jz.2]; omega) (n_key19 q)
      have I2 : n_I (m_p (m_p z 19 q (m_n x)) 10 1 0) := n_I_p I1 (by rw [n_t10 I1.2]; omega) (by rw [n_t10 I1.2]; omega) rfl
      have lz := n_l19 Jz.2
      have z14 : m_g (m_p (m_p z 19 q (m_n x)) 10 1 0) 1 4 = q := by
        rw [n_gp_n (by omega), n_gp_n (by omega), Z.2.2.2.2.1 1 4 (by omega)]
        exact x14
      rw [if_pos ca, if_pos (n_t1 C0.1.2), n_p1_2 C0.1.2, if_pos (n_t10 C0.1.2), fw, n_bs] at hC
      dsimp only at hC
      rw [n_p1_3 C0.1.2, x14, m_w_of (x := q) (by omega) (by omega), if_pos ⟨⟨n_t19 Jz.2, y2, by omega⟩, tz⟩, n_bs, if_pos (n_t1 I1.2), n_p1_2 I1.2, if_pos (n_t10 I1.2), n_bs, if_pos (n_t1 I2.2), z14, n_bs, if_pos (n_t1 J5.2), n_gp_y ⟨rfl, rfl⟩] at hC
      obtain ⟨c1, a1, x1', g, B1, f1, r1, C1, R1, l1, u1, v1, w1⟩ := n_parseJ I x4 J5 ref5
      rw [f0] at f1
      have ee := Option.some.inj f1
      have ea : a0 = a1 := congrArg Prod.fst ee
      have ex : x = x1' := congrArg Prod.snd ee
      subst ea ex
      obtain ⟨o', nm', cc, dd, P1⟩ := w1 ca
      have eo : o' = o := by rw [← P1.2.2.2.1.1]; exact P0.2.2.2.1.1
      rw [eo] at P1
      have g43 : m_g g 127 43 = q := by
        rw [R1.2.2 127 43 (by unfold n_scr; omega) (by omega) (by omega) (by omega), ref5 127 43 (by omega) (by omega)]
        exact eq.symm
      have K1 : n_I (m_p g 127 30 0) := n_I_p R1.1 (by rw [n_t127 R1.1.2]; omega) (by rw [n_t127 R1.1.2]; omega) rfl
      have K2 : n_I (m_p (m_p g 127 30 0) 151 q o) := n_I_pa K1 (Or.inl (n_t151 K1.2))
      have k43 : m_g (m_p (m_p g 127 30 0) 151 q o) 127 43 = q := by rw [n_gp_n (by omega), n_gp_n (by omega)]; exact g43
      have l5 := n_l151 K1.2
      refine ⟨_, _, q, (m_p (n_cp8 (m_p (m_p g 127 30 0) 151 q o) q 40) 127 43 (q + 1)), hC, ?_, by rw [show q + 1 - 1 = q by omega], n_finSc X eq.symm c8 C0 Z R1 P1⟩
      unfold t11_score
      rw [if_pos (n_t127 J5.2), ref5 127 43 (by omega) (by omega), ← eq, m_w_of (x := q) (by omega) (by omega), if_neg (by omega), r1, n_bs]
      dsimp only
      rw [if_pos (n_t127 R1.1.2), v1, ca, m_w_of (x := -1) (by omega) (by omega), if_pos rfl, n_bs, if_pos (n_t127 K1.2), n_p127_34 K1.2, if_pos ⟨n_t151 K1.2, by omega, by omega⟩, n_gp_n (h := g) (a := 127) (k := 30) (v := 0) (b := 127) (j := 43) (by omega), g43, m_w_of (x := q) (by omega) (by omega), if_pos ⟨n_t151 K1.2, by omega, by omega⟩, n_gp_n (h := g) (a := 127) (k := 30) (v := 0) (b := 151) (j := 8) (by omega), P1.2.2.2.1.2.1, n_bs]
      exact n_copyL K2 k43 y2 c8
    · rw [if_neg ca] at hC
      obtain ⟨c1, a1, x1', g, B1, f1, r1, C1, R1, l1, u1, v1, w1⟩ := n_parseJ I x4 C0.1 (n_qC_ref C0)
      rw [f0] at f1
      have ee := Option.some.inj f1
      have ea : a0 = a1 := congrArg Prod.fst ee
      have ex : x = x1' := congrArg Prod.snd ee
      subst ea ex
      refine ⟨-1, x, -1, g, hC, ?_, rfl, n_qRead X C1 R1⟩
      unfold t11_score
      rw [if_pos (n_t127 C0.1.2), n_qC_ref C0 127 43 (by omega) (by omega), ← eq, m_w_of (x := q) (by omega) (by omega), if_neg (by omega), r1, n_bs]
      dsimp only
      rw [if_pos (n_t127 R1.1.2), v1, m_w_of (x := a0) (by omega) (by omega), if_neg ca]
  · rw [if_neg c8] at hC
    refine ⟨-1, h, -1, h, hC, ?_, rfl, n_R_more X⟩
    unfold t11_score
    rw [if_pos (n_t127 I.2), ← eq, m_w_of (x := q) (by omega) (by omega), if_pos (by omega)]
