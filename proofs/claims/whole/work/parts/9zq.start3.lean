/-! THE START: n_R -/
theorem n_ok_0 : n_ok (m_a m_h0 10 10) := n_okA ⟨by decide, fun _ _ => rfl⟩
theorem n_start0 : ∃ h3 h8, t10_init 1 (m_a m_h0 10 10) = some ((), h3) ∧ m_n h3 = 127 ∧ t11_init 127 (m_a h3 11 92) = some ((), h8) ∧ n_ok h8 ∧ n_chk h8 = true := by
  have A := n_chk_all
  have P := n_pr_n_t10F (v0 := 1) n_ok_0
  cases e : n_t10F 1 (m_a m_h0 10 10) with
  | none => rw [e] at A; cases A
  | some r =>
    rw [e] at A
    obtain ⟨u, h3⟩ := r
    have P3 : n_ok h3 := P _ e
    dsimp only at A
    rw [Bool.and_eq_true, decide_eq_true_eq] at A
    obtain ⟨A1, A2⟩ := A
    have Q := n_pr_t11_init (v0 := 127) (n_okA (t := 11) (n := 92) P3)
    cases e2 : t11_init 127 (m_a h3 11 92) with
    | none => rw [e2] at A2; cases A2
    | some r2 =>
      rw [e2] at A2
      obtain ⟨u2, h8⟩ := r2
      exact ⟨h3, h8, n_t10_ok _ _ _ e, A1, e2, Q _ e2, A2⟩
theorem n_start {h : m_H} (O : n_ok h) (A : n_chk h = true) : n_R h 0 := by
  unfold n_chk at A
  simp only [Bool.and_eq_true, decide_eq_true_eq] at A
  obtain ⟨⟨⟨⟨⟨⟨⟨nn, ss⟩, ph⟩, a1⟩, a2⟩, a3⟩, a4⟩, a5⟩ := A
  rw [List.all_eq_true] at a1 a2 a3 a4 a5
  have T : ∀ a, 1 ≤ a → a < 312 → m_t h a = n_kT.getD (a.toNat - 1) 0 ∧ m_l h a = n_kL.getD (a.toNat - 1) 0 := fun a h1 h2 => by
    have q := a1 (a.toNat - 1) (List.mem_range.mpr (by omega))
    rw [Bool.and_eq_true, decide_eq_true_eq, decide_eq_true_eq, show ((a.toNat - 1 : Nat) : Int) + 1 = a by omega] at q
    exact q
  have out : ∀ a, m_t h a ≠ -1 → 1 ≤ a ∧ a < 312 := fun a ha => by
    by_cases c : 1 ≤ a ∧ a < 312
    · exact c
    · exact absurd (O.2 a (by omega)) ha
  have C : ∀ a, 1 ≤ a → a < 312 → n_chR h a = true := fun a h1 h2 => by
    have q := a4 (a.toNat - 1) (List.mem_range.mpr (by omega))
    rw [show ((a.toNat - 1 : Nat) : Int) + 1 = a by omega] at q
    exact q
  have row : ∀ r, m_t h r = 5 → (1 ≤ r ∧ r < 312) ∧ m_g h r 0 = r + 1 ∧ m_g h r 1 = 0 ∧ m_t h (r + 1) = 20 ∧ m_l h (r + 1) = 0 := fun r hr => by
    have o := out r (by omega)
    have q := C r o.1 o.2
    unfold n_chR at q
    simp only [Bool.and_eq_true, Bool.or_eq_true, decide_eq_true_eq] at q
    rcases q.1 with w | w
    · exact absurd hr w
    · exact ⟨o, w.1.1.1, w.1.1.2, w.1.2, w.2⟩
  have sco : ∀ s, m_t h s = 6 → m_t h (m_g h s 0) = 20 ∧ m_t h (m_g h s 3) = 20 ∧ m_l h (m_g h s 3) = 40 ∧ m_l h (m_g h s 0) < 60000000 ∧ m_t h (m_g h s 0 - 1) ≠ 5 ∧ m_t h (m_g h s 3 - 1) ≠ 5 := fun s hs => by
    have o := out s (by omega)
    have q := C s o.1 o.2
    unfold n_chR at q
    simp only [Bool.and_eq_true, Bool.or_eq_true, decide_eq_true_eq] at q
    rcases q.2 with w | w
    · exact absurd hs w
    · exact ⟨w.1.1.1.1.1, w.1.1.1.1.2, w.1.1.1.2, w.1.1.2, w.1.2, w.2⟩
  have Z : ∀ q ∈ n_zf, m_g h q.1 q.2.1 = q.2.2 := fun q hq => of_decide_eq_true (a5 q hq)
  have W : n_wf h := by
    refine ⟨fun a ha => by rw [nn]; exact out a ha, by omega, fun r hr => ?_, fun r q hr hq hn => ?_, fun s hs => ?_⟩
    · obtain ⟨o, r0, r1, r2, r3⟩ := row r hr
      unfold n_row n_cap
      rw [r0, r1, r2, r3]
      exact ⟨⟨hr, rfl, by omega, by omega, by omega⟩, by omega, fun _ => rfl⟩
    · rw [(row r hr).2.1, (row q hq).2.1]
      omega
    · obtain ⟨s1, s2, s3, s4, s5, s6⟩ := sco s hs
      refine ⟨s1, s2, s3, s4, fun r hr => ?_⟩
      rw [(row r hr).2.1]
      refine ⟨fun e => s5 ?_, fun e => s6 ?_⟩
      · rw [← e, Int.add_sub_cancel]; exact hr
      · rw [← e, Int.add_sub_cancel]; exact hr
  have F : n_fx h := by
    refine ⟨T, fun q hq => of_decide_eq_true (a2 q hq), fun q hq i i0 i1 => ?_, by omega⟩
    have w := a3 q hq
    rw [List.all_eq_true] at w
    have y := of_decide_eq_true (w i.toNat (List.mem_range.mpr (by omega)))
    rw [show ((i.toNat : Nat) : Int) = i by omega] at y
    exact y
  have z14 : m_g h 127 14 = 0 := Z (127, 14, 0) (by decide)
  have z15 : m_g h 127 15 = 0 := Z (127, 15, 0) (by decide)
  have z16 : m_g h 127 16 = 0 := Z (127, 16, 0) (by decide)
  have z17 : m_g h 127 17 = 0 := Z (127, 17, 0) (by decide)
  have z18 : m_g h 127 18 = 0 := Z (127, 18, 0) (by decide)
  have z23 : m_g h 127 23 = 0 := Z (127, 23, 0) (by decide)
  have z27 : m_g h 127 27 = 0 := Z (127, 27, 0) (by decide)
  have z30 : m_g h 127 30 = 0 := Z (127, 30, 0) (by decide)
  have z43 : m_g h 127 43 = 0 := Z (127, 43, 0) (by decide)
  have z85 : m_g h 127 85 = 0 := Z (127, 85, 0) (by decide)
  have z60 : m_g h 127 60 = -1 := Z (127, 60, -1) (by decide)
  have y8 : m_g h 8 1 = 0 := Z (8, 1, 0) (by decide)
  have y119 : m_g h 119 1 = 0 := Z (119, 1, 0) (by decide)
  have y21 : m_g h 2 1 = 0 := Z (2, 1, 0) (by decide)
  have y22 : m_g h 2 2 = 0 := Z (2, 2, 0) (by decide)
  have y23 : m_g h 2 3 = 0 := Z (2, 3, 0) (by decide)
  have y24 : m_g h 2 4 = 0 := Z (2, 4, 0) (by decide)
  have y26 : m_g h 2 6 = 0 := Z (2, 6, 0) (by decide)
  have y210 : m_g h 2 10 = 0 := Z (2, 10, 0) (by decide)
  have y10 : m_g h 10 1 = 0 := Z (10, 1, 0) (by decide)
  have y14 : m_g h 1 4 = 0 := Z (1, 4, 0) (by decide)
  have p3 : m_g h 106 3 = -1 := Z (106, 3, -1) (by decide)
  have p2 : m_g h 106 2 = 109 := Z (106, 2, 109) (by decide)
  have p1 : m_g h 109 1 = 0 := Z (109, 1, 0) (by decide)
  have p7 : m_g h 107 1 = 0 := Z (107, 1, 0) (by decide)
  have m1 : m_g h 121 11 = -1 := Z (121, 11, -1) (by decide)
  have m2 : m_g h 121 12 = 0 := Z (121, 12, 0) (by decide)
  have m3 : m_g h 2 11 = 0 := Z (2, 11, 0) (by decide)
  refine ⟨⟨W, F⟩, ⟨?_, fun i i0 i1 => by omega, fun i i0 i1 => by omega, fun i i0 i1 => by omega, fun i j i0 ij j1 => by omega, fun j j0 j1 => by omega⟩, ?_, ⟨by omega, by omega, by omega, fun j j0 j1 => by omega⟩, ⟨by omega, by omega, by omega, fun j j0 j1 => by omega⟩, ⟨?_, fun i i0 i1 => by omega, fun i i0 i1 => by omega, fun j j0 j1 => by omega⟩, ⟨by omega, by omega, by omega, fun j j0 j1 => by omega⟩, ⟨by omega, by omega, by omega, fun k k0 k1 => by omega, fun k q k0 k1 => by omega, fun q q0 q1 => ?_⟩, ⟨by omega, by omega, by omega, fun _ => ⟨p2, p1, p7⟩, fun q => by omega⟩, ⟨by omega, by omega, by omega, by omega, by omega, fun q => absurd m1 q⟩⟩
  · unfold n_shB
    omega
  · unfold n_bud
    omega
  · unfold n_shN
    omega
  · have c : q = 0 ∨ q = 1 ∨ q = 2 ∨ q = 3 ∨ q = 4 ∨ q = 5 ∨ q = 6 ∨ q = 7 := by omega
    rcases c with e | e | e | e | e | e | e | e <;> rw [e]
    · exact Z (292, 0, 0) (by decide)
    · exact Z (292, 1, 0) (by decide)
    · exact Z (292, 2, 0) (by decide)
    · exact Z (292, 3, 0) (by decide)
    · exact Z (292, 4, 0) (by decide)
    · exact Z (292, 5, 0) (by decide)
    · exact Z (292, 6, 0) (by decide)
    · exact Z (292, 7, 0) (by decide)
theorem n_phi_b {h : m_H} (I : n_I h) : n_phi h ≤ 270000 := by
  have g : ∀ l : List Int, (∀ r ∈ l, m_t h r = 5) → (l.map (n_cap h)).sum ≤ 6000 * l.length := by
    intro l
    induction l with
    | nil => intro _; simp
    | cons a l ih =>
      intro hl
      have q := (n_wf_lt I.1 (hl a (by simp))).2.2.1
      have w := ih (fun r hr => hl r (by simp [hr]))
      rw [List.map_cons, List.sum_cons, List.length_cons]
      omega
  have w := g n_rows (fun r hr => (n_rows_t I.2 hr).1)
  have e : n_rows.length = 45 := by decide
  unfold n_phi
  rw [e] at w
  omega
/-- the whole law, but for fault and score -/
theorem n_pure0 (HF : ∀ h k, n_R h k → n_step h k (t10_fault 1) (t11_fault 127)) (HS : ∀ h k, n_R h k → n_step h k (t10_score 1) (t11_score 127)) (xn : Int) (xs : Int → Int) (h1 : 0 ≤ xn) (h2 : xn ≤ 3072) (hx : ∀ j, -2147483648 ≤ xs j ∧ xs j < 2147483648) : ∃ h', tL_law xn xs (-1) m_h0 = some (true, h') ∧ m_n h' ≤ 600001 ∧ m_s h' ≤ 7302250 := by
  obtain ⟨h3, h8, e1, e2, e3, O, A⟩ := n_start0
  have R := n_start O A
  obtain ⟨h', k', e4, R', kb⟩ := n_law hx h1 h2 HF HS 513 0 0 h8 (by omega) (by omega) (by omega) (by omega) R
  have ph := n_phi_b R'.1
  have B := R'.2.2.1
  unfold n_bud at B
  refine ⟨h', ?_, by omega, by omega⟩
  have n0 : m_n m_h0 = 1 := rfl
  have t1 : m_t (m_a m_h0 10 10) 1 = 10 := by decide
  have t2 : m_t (m_a h3 11 92) 127 = 11 := by rw [m_t_a, if_pos e2.symm]
  unfold tL_law
  rw [n_bs, n0, if_pos (by rw [t1]; omega), e1, n_bs]
  dsimp only
  rw [n_bs, n_bs, e2, if_pos (by rw [t2]; omega), e3, n_bs]
  dsimp only
  rw [n_bs]
  exact e4
