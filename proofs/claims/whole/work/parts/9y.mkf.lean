/-! CALLS: make: the scores behind it -/
theorem n_mkSc {h z : m_H} {k a : Int} (I : n_I h) (X : n_Rsc h h) (k0 : 0 ≤ k) (k1 : k < m_g h 127 43) (ea : m_g h 19 k = a) (cell : ∀ b j, (b < 127 ∨ 312 ≤ b) → n_sf h b → b ≠ a → b ≠ m_g h a 3 → b ≠ 24 → b ≠ 106 → b ≠ 112 → b ≠ 113 → m_g z b j = m_g h b j) (tl : ∀ b, b < m_n h → m_t z b = m_t h b ∧ m_l z b = m_l h b) (fa : ∀ j, j ≠ 2 → m_g z a j = m_g h a j) (a2 : m_g z a 2 = 1) (e43 : m_g z 127 43 = m_g h 127 43) (e : ∀ b j, 151 ≤ b → b ≤ 231 → m_g z b j = m_g h b j) (r292 : m_g z 292 k = 1) (r292q : ∀ q, q ≠ k → m_g z 292 q = m_g h 292 q) (r294 : ∀ q o, 0 ≤ q → q < 8 → q ≠ k → m_g z (294 + q) o = m_g h (294 + q) o) (lead : ∀ o, 0 ≤ o → o < m_g h 151 k → m_g z (m_g h a 3) o = m_g z (294 + k) o ∧ -1 ≤ m_g z (294 + k) o ∧ m_g z (294 + k) o < 100) : n_Rsc z z := by
  have e1 := cell 1 4 (by omega) (n_sfa I (a := 1) (by omega) (by rw [n_t1 I.2]; omega) (Or.inl (by rw [n_t1 I.2]; omega)))
  have e19 := fun j => cell 19 j (by omega) (n_sfa I (a := 19) (by omega) (by rw [n_t19 I.2]; omega) (Or.inl (by rw [n_t19 I.2]; omega)))
  obtain ⟨x1, x2, x3, x4, x5, x6⟩ := X
  have A0 := (x4 k k0 k1).1.1
  rw [ea] at A0
  obtain ⟨A1, A2, A3, A4, A5⟩ := A0
  have Wa := I.1.2.2.2.2 a A1
  have e1' := e1 (by omega) (by omega) (by omega) (by omega) (by omega) (by omega)
  have e19' := fun j => e19 j (by omega) (by omega) (by omega) (by omega) (by omega) (by omega)
  have eB := fun q o (q0 : 0 ≤ q) (q1 : q < 9) (b : n_ordB h q o) => n_ordB_e (g := h) (g' := z) (k := q) (o := o)
  have sc : ∀ q, 0 ≤ q → q < m_g h 127 43 → ∀ b, m_t h b = 6 → b = m_g h 19 q → n_sf h b ∧ n_sf h (m_g h b 0) ∧ n_sf h (m_g h b 3) := fun q q0 q1 b hb eb => by
    have W := I.1.2.2.2.2 b hb
    exact ⟨⟨(I.1.1 b (by omega)).2, by omega, fun r hr w => by have := (n_wf_row I.1 hr).2.1; rw [w] at this; omega⟩, ⟨(I.1.1 _ (by omega)).2, by omega, fun r hr => (W.2.2.2.2 r hr).1⟩, ⟨(I.1.1 _ (by omega)).2, by omega, fun r hr => (W.2.2.2.2 r hr).2⟩⟩
  -- fields 0 and 3 of all scores stay
  have fq : ∀ q, 0 ≤ q → q < m_g h 127 43 → (∀ j, j ≠ 2 → m_g z (m_g h 19 q) j = m_g h (m_g h 19 q) j) ∧ (q ≠ k → ∀ j, m_g z (m_g h 19 q) j = m_g h (m_g h 19 q) j) ∧ (∀ j, m_g z (m_g h (m_g h 19 q) 0) j = m_g h (m_g h (m_g h 19 q) 0) j) ∧ (q ≠ k → ∀ j, m_g z (m_g h (m_g h 19 q) 3) j = m_g h (m_g h (m_g h 19 q) 3) j) := fun q q0 q1 => by
    obtain ⟨B1, B2, B3, B4, B5⟩ := (x4 q q0 q1).1.1
    obtain ⟨f1, f2, f3⟩ := sc q q0 q1 _ B1 rfl
    have Wb := I.1.2.2.2.2 _ B1
    have n1 : m_g h (m_g h 19 q) 0 ≠ a := fun w => by rw [w] at Wb; omega
    have n3 : m_g h (m_g h 19 q) 3 ≠ a := fun w => by rw [w] at Wb; omega
    have n4 : m_g h 19 q ≠ m_g h a 3 := fun w => by rw [w] at B1; omega
    by_cases c : q = k
    · rw [c, ea] at f1 f2 f3 B1 B2 B3 B4 B5 n1 n3 n4 ⊢
      exact ⟨fa, fun w => absurd rfl w, fun j => cell _ j (by omega) f2 n1 B5 (by omega) (by omega) (by omega) (by omega), fun w => absurd rfl w⟩
    · have y := x5 q k q0 q1 k0 k1 c
      have y2 := x5 k q k0 k1 q0 q1 (fun w => c w.symm)
      rw [ea] at y y2
      have al := fun j => cell (m_g h 19 q) j (by omega) f1 y.1 n4 (by omega) (by omega) (by omega) (by omega)
      exact ⟨fun j _ => al j, fun _ => al, fun j => cell _ j (by omega) f2 n1 (fun w => y2.2.2 w.symm) (by omega) (by omega) (by omega) (by omega), fun _ j => cell _ j (by omega) f3 n3 y.2.1 (by omega) (by omega) (by omega) (by omega)⟩
  refine ⟨by rw [e1', e43]; exact x1, by rw [e43]; exact x2, by rw [e43]; exact x3, fun q q0 q1 => ?_, fun q r q0 q1 r0 r1 hn => ?_, fun q q0 q1 => ?_⟩
  · rw [e43] at q1
    obtain ⟨⟨⟨s1, s2, s3, s4, s5⟩, t2, t3, t4, t5, t6⟩, u1, u2, u3, u4, u5⟩ := x4 q q0 q1
    obtain ⟨f1, f2, f3, f4⟩ := fq q q0 q1
    obtain ⟨g1, g2, g3⟩ := sc q q0 q1 _ s1 rfl
    have e0 := f1 0 (by omega)
    have e3 := f1 3 (by omega)
    have ord : ∀ o, 0 ≤ o → o < m_g h 151 q → n_ord z z q (m_g h (m_g h 19 q) 0) o := fun o o0 o1 => by
      have := t5 o o0 o1
      unfold n_ord at *
      rw [f3, f3, f3, f3, f3, f3, f3, f3, e (153 + q) o (by omega) (by omega), e (163 + q) o (by omega) (by omega), e (173 + q) o (by omega) (by omega), e (183 + q) o (by omega) (by omega), e (193 + q) o (by omega) (by omega), e (203 + q) o (by omega) (by omega), e (213 + q) o (by omega) (by omega), e (223 + q) o (by omega) (by omega)]
      exact this
    have ordB : ∀ o, 0 ≤ o → o < m_g h 151 q → n_ordB z q o := fun o o0 o1 => by
      have w := u5 o o0 o1
      have y := fun b j (hb : 151 ≤ b ∧ b ≤ 231) => e b j (by omega) (by omega)
      unfold n_ordB at *
      rw [y (153 + q) o (by omega), y (163 + q) o (by omega), y (173 + q) o (by omega), y (183 + q) o (by omega), y (193 + q) o (by omega), y (203 + q) o (by omega), y (213 + q) o (by omega), y (223 + q) o (by omega), y (153 + q) _ (by omega), y (153 + q) _ (by omega)]
      exact w
    rw [e19', e 151 q (by omega) (by omega)]
    unfold n_score
    rw [e0, e3, (tl _ g1.1).1, (tl _ g2.1).2, e 151 q (by omega) (by omega), f1 1 (by omega)]
    by_cases c : q = k
    · have ec : m_g h 19 q = a := by rw [c]; exact ea
      refine ⟨⟨⟨s1, s2, s3, s4, s5⟩, t2, t3, by rw [ec, a2, c, r292], ord, fun _ o o0 o1 => by rw [ec, c]; exact lead o o0 (by rw [← c]; exact o1)⟩, u1, u2, by rw [c, r292]; omega, by rw [c, r292]; omega, ordB⟩
    · rw [r292q q c]
      exact ⟨⟨⟨s1, s2, s3, s4, s5⟩, t2, t3, by rw [f2 c]; exact t4, ord, fun m o o0 o1 => by rw [f4 c, r294 q o q0 (by omega) c]; exact t6 m o o0 o1⟩, u1, u2, u3, u4, ordB⟩
  · rw [e43] at q1 r1
    rw [e19', e19', (fq q q0 q1).1 3 (by omega), (fq r r0 r1).1 3 (by omega), (fq r r0 r1).1 0 (by omega)]
    exact x5 q r q0 q1 r0 r1 hn
  · rw [e43] at q0
    rw [r292q q (by omega)]
    exact x6 q q0 q1
