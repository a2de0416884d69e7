/-! CALLS: fault -/
theorem n_Rsc_sp2 {h h' : m_H} {A R Tc Tf : List Int} (I : n_I h) (P : n_sp h h' A R Tc Tf) (c : ∀ k, 0 ≤ k → k < 8 → n_scS h h' k) (c2 : 43 ∉ Tf) (cA : ∀ b ∈ A, b ≠ 1 ∧ b ≠ 19 ∧ (b < 312 ∨ m_t h b = 8 ∨ m_t h b = 0)) (X : n_Rsc h h) : n_Rsc h' h' := by
  have f := n_sp_f P c2
  have e1 := (n_sp_cell P (n_sfa I (a := 1) (by omega) (by rw [n_t1 I.2]; omega) (Or.inl (by rw [n_t1 I.2]; omega))) (by omega) (fun q => (cA 1 q).1 rfl)).1
  have e19 := (n_sp_cell P (n_sfa I (a := 19) (by omega) (by rw [n_t19 I.2]; omega) (Or.inl (by rw [n_t19 I.2]; omega))) (by omega) (fun q => (cA 19 q).2.1 rfl)).1
  obtain ⟨x1, x2, x3, x4, x5, x6⟩ := X
  have T := fun k (k1 : 0 ≤ k) (k2 : k < m_g h 127 43) => by
    obtain ⟨⟨⟨s1, s2, s3, s4, s5⟩, S2⟩, S3⟩ := x4 k k1 k2
    exact n_sp_sc I P (fun b hb => (cA b hb).2.2) s1 s2 s3 s4
  refine ⟨by rw [e1, f]; exact x1, by rw [f]; exact x2, by rw [f]; exact x3, fun k k1 k2 => ?_, fun k q k1 k2 q1 q2 hn => ?_, fun q q0 q1 => ?_⟩
  · rw [f] at k2
    have S := c k k1 (by omega)
    obtain ⟨⟨⟨s1, s2, s3, s4, s5⟩, t2, t3, t4, t5, t6⟩, u1, u2, u3, u4, u5⟩ := x4 k k1 k2
    obtain ⟨v1, v2, v3, v4, v5, v6⟩ := T k k1 k2
    rw [e19, S.1, S.2.1]
    refine ⟨?_, u1, u2, u3, u4, fun o o1 o2 => n_ordB_S S (u5 o o1 o2)⟩
    unfold n_score
    rw [v2, v2, v2, v2, v1, v5, S.1, S.2.1]
    refine ⟨⟨rfl, s2, s3, s4, s5⟩, t2, t3, t4, fun o o1 o2 => n_ord_S S v3 (t5 o o1 o2), fun m o o1 o2 => ?_⟩
    rw [v4, (S.2.2 o).2.2.2.2.2.2.2.2]
    exact t6 m o o1 o2
  · rw [f] at k2 q2
    rw [e19, e19, (T k k1 k2).2.1, (T q q1 q2).2.1, (T q q1 q2).2.1]
    exact x5 k q k1 k2 q1 q2 hn
  · rw [f] at q0
    rw [(c q (by omega) q1).2.1]
    exact x6 q q0 q1
theorem n_scr_n {b : Int} (s : n_scr b) : 161 ≤ b ∧ b ≤ 231 := by unfold n_scr at s; omega
theorem n_finF {h g2 : m_H} {A Tc Tf : List Int} {k : Int} (X : n_R h k) (P : n_sp h g2 A [] Tc Tf) (I2 : n_I g2) (B : n_bud g2 (k + 1)) (cA : ∀ b ∈ A, b = 10 ∨ b = 12 ∨ b = 13 ∨ b = 14 ∨ b = 15 ∨ b = 16 ∨ b = 18) (cT : ∀ b ∈ Tc, b = 151 ∨ n_scr b ∨ b = 232 ∨ b = 233 ∨ b = 234) (cF : ∀ j ∈ Tf, j = 31 ∨ j = 32 ∨ j = 33 ∨ j = 47) (e151 : ∀ q, q < 8 → m_g g2 151 q = m_g h 151 q) (T : n_Rread g2 g2) : n_R g2 (k + 1) := by
  have X' := X
  obtain ⟨I, gs, bud, x1, x2, x3, x4, x5, x6, x7⟩ := X'
  obtain ⟨g0, g1, g2', g3, g4, g5, g6, g7⟩ := n_fr X P
  have nos : n_nos Tc Tf := ⟨fun b hb => by have := cT b hb; unfold n_scr at this; omega, fun b hb => by have := cF b hb; omega⟩
  have nA : ∀ b, (b < 10 ∨ b = 11 ∨ b = 17 ∨ 18 < b) → b ∉ A := fun b hb q => by have := cA b q; omega
  have nT : ∀ b, (b < 151 ∨ (153 ≤ b ∧ b ≤ 231 ∧ ¬ n_scr b) ∨ b = 152 ∨ 234 < b) → b ∉ Tc := fun b hb q => by
    have := cT b q
    unfold n_scr at this hb
    omega
  have nF : ∀ b, (b < 31 ∨ (33 < b ∧ b < 47) ∨ 47 < b) → b ∉ Tf := fun b hb q => by have := cF b q; omega
  have e2 := (n_sp_cell P (n_sf2 I) (by omega) (nA 2 (by omega))).1
  have e19 := (n_sp_cell P (n_sfa I (a := 19) (by omega) (by rw [n_t19 I.2]; omega) (Or.inl (by rw [n_t19 I.2]; omega))) (by omega) (nA 19 (by omega))).1
  have S : ∀ q, 0 ≤ q → q < 8 → n_scS h g2 q := fun q q0 q1 => by
    have a := fun b (b1 : 127 < b) (b2 : b < 312) (hb : b ∉ Tc) j => n_sp_a P b1 b2 hb j
    refine ⟨e151 q q1, a 292 (by omega) (by omega) (nT _ (by omega)) q, fun o => ⟨?_, ?_, ?_, ?_, ?_, ?_, ?_, ?_, ?_⟩⟩ <;> exact a _ (by omega) (by omega) (nT _ (by unfold n_scr; omega)) o
  refine ⟨I2, g0 nos, B, g1 List.not_mem_nil (nT 129 (by omega)) (nF 16 (by omega)), g2' List.not_mem_nil (nT 308 (by omega)) (nF 85 (by omega)), g3 nos (fun b hb => ?_) n_no, T, n_Rsc_sp2 I P S (nF 43 (by omega)) (fun b hb => by have := cA b hb; omega) x5, ?_, g7 nos (nT 308 (by omega)) (nF 85 (by omega)) (e2 11) (nA 121 (by omega)) (nA 124 (by omega))⟩
  · have q := cA b hb
    have t10 := n_t10 I.2
    have t12 := n_t12 I.2
    have t13 := n_t13 I.2
    have t14 := n_t14 I.2
    have t15 := n_t15 I.2
    have t16 := n_t16 I.2
    have t18 := n_t18 I.2
    rcases q with e | e | e | e | e | e | e <;> rw [e] <;> omega
  · exact n_Rpc_sp I P (fun q q1 q2 => ⟨S q q1 (by have := x5.2.2.1; omega), e19 q⟩) (by rw [n_sp_f P (nF 43 (by omega))]; exact Int.le_refl _) (by rw [n_sp_f P (nF 23 (by omega))]; exact Int.le_refl _) (fun j _ _ => n_sp_a P (by omega) (by omega) (nT 142 (by omega)) j) (fun b hb => by have := cT b hb; unfold n_scr at this; omega) (fun q hq => by have := cF q hq; omega) (fun b hb => by have := cA b hb; omega) List.not_mem_nil (fun q o q1 q2 o1 o2 => (x5.2.2.2.1 q q1 q2).2.2.2.2.2 o o1 o2) x6
/-- what the component's parse leaves, as a frame -/
theorem n_qC_kp {h x : m_H} (I : n_I h) (C : n_qC h x) : n_kp h x [10, 12, 13, 14, 15, 16, 18] [] := by
  obtain ⟨J, e, f⟩ := C
  refine ⟨fun b _ => ⟨n_e2t e b, n_e2l e b⟩, by rw [n_e2n e]; exact Int.le_refl _, fun b _ hb _ _ j => ?_, fun r hr => Or.inl ?_⟩
  · simp at hb
    exact f b j (by omega) (by omega) (by omega)
  · have t10 := n_t10 I.2
    have t12 := n_t12 I.2
    have t13 := n_t13 I.2
    have t14 := n_t14 I.2
    have t15 := n_t15 I.2
    have t16 := n_t16 I.2
    have t18 := n_t18 I.2
    refine f r 0 (fun q => ?_) (fun q => ?_) (fun q => ?_)
    · rcases q with q | q | q | q | q <;> rw [q] at hr <;> omega
    · rw [q.1] at hr; omega
    · rw [q.1] at hr; omega
theorem n_qR_kr {k g : m_H} (R : n_qR k g) : n_kr k g [151, 161, 171, 181, 191, 201, 211, 221, 231, 232, 233, 234] [31, 32, 33, 47] := by
  obtain ⟨J, e, f⟩ := R
  refine ⟨e, by decide, fun b j hb hj => ?_⟩
  simp at hb hj
  exact f b j (by unfold n_scr; omega) (by omega) (by omega) (by omega)
theorem n_cellsA {h : m_H} (I : n_I h) : ∀ b ∈ [10, 12, 13, 14, 15, 16, 18], n_sf h b ∧ (b < 127 ∨ 312 ≤ b) := fun b hb => by
  have t10 := n_t10 I.2
  have t12 := n_t12 I.2
  have t13 := n_t13 I.2
  have t14 := n_t14 I.2
  have t15 := n_t15 I.2
  have t16 := n_t16 I.2
  have t18 := n_t18 I.2
  have l12 := n_l12 I.2
  have l13 := n_l13 I.2
  have l14 := n_l14 I.2
  have l16 := n_l16 I.2
  have l18 := n_l18 I.2
  simp at hb
  rcases hb with e | e | e | e | e | e | e <;> rw [e]
  · exact ⟨n_sfa I (by omega) (by omega) (Or.inl (by omega)), by omega⟩
  · exact ⟨n_sfa I (by omega) (by omega) (Or.inr (by omega)), by omega⟩
  · exact ⟨n_sfa I (by omega) (by omega) (Or.inr (by omega)), by omega⟩
  · exact ⟨n_sfa I (by omega) (by omega) (Or.inr (by omega)), by omega⟩
  · exact ⟨n_sfa I (by omega) (by omega) (Or.inl (by omega)), by omega⟩
  · exact ⟨n_sfa I (by omega) (by omega) (Or.inr (by omega)), by omega⟩
  · exact ⟨n_sfa I (by omega) (by omega) (Or.inr (by omega)), by omega⟩
/-- the heap behind a call that only read the text -/
theorem n_qRead {h x g : m_H} {k : Int} (X : n_R h k) (C : n_qC h x) (R : n_qR x g) : n_R g (k + 1) := by
  have X' := X
  obtain ⟨I, gs, bud, x1, x2, x3, x4, x5, x6, x7⟩ := X'
  have KP := n_qC_kp I C
  have KR := n_qR_kr R
  have P := n_sp_of I KP KR (n_cellsA I) n_no
  have e2 : g.2 = h.2 := R.2.1.trans C.2.1
  have all : ∀ b j, ¬ n_scr b → ¬ (b = 232 ∨ b = 233 ∨ b = 234) → ¬ (b = 127 ∧ (j = 31 ∨ j = 32 ∨ j = 33 ∨ j = 47)) → ¬ (b = 151 ∧ j = 8) → ¬ (b = 12 ∨ b = 13 ∨ b = 14 ∨ b = 16 ∨ b = 18) → ¬ (b = 10 ∧ (j = 5 ∨ j = 6 ∨ j = 7 ∨ j = 10)) → ¬ (b = 15 ∧ j = 1) → m_g g b j = m_g h b j := fun b j h1 h2 h3 h4 h5 h6 h7 => (R.2.2 b j h1 h2 h3 h4).trans (C.2.2 b j h5 h6 h7)
  refine n_finF X P R.1 (n_bud_same I e2 (fun r hr => ?_) (n_bud_more bud)) (fun b hb => by simp at hb; omega) (fun b hb => by simp at hb; unfold n_scr; omega) (fun b hb => by simp at hb; omega) (fun q hq => all 151 q (by unfold n_scr; omega) (by omega) (by omega) (by omega) (by omega) (by omega) (by omega)) ?_
  · have w := n_ref_row I hr
    have := KP.2.2.2 r hr
    have e := R.2.2 r 0 (by unfold n_scr; omega) (by omega) (by omega) (by omega)
    have c : m_g x r 0 = m_g h r 0 := by
      have t10 := n_t10 I.2
      have t12 := n_t12 I.2
      have t13 := n_t13 I.2
      have t14 := n_t14 I.2
      have t15 := n_t15 I.2
      have t16 := n_t16 I.2
      have t18 := n_t18 I.2
      refine C.2.2 r 0 (fun q => ?_) (fun q => ?_) (fun q => ?_)
      · rcases q with q | q | q | q | q <;> rw [q] at hr <;> omega
      · rw [q.1] at hr; omega
      · rw [q.1] at hr; omega
    exact e.trans c
  · have e10 := all 10 1 (by unfold n_scr; omega) (by omega) (by omega) (by omega) (by omega) (by omega) (by omega)
    have e30 := all 127 30 (by unfold n_scr; omega) (by omega) (by omega) (by omega) (by omega) (by omega) (by omega)
    have e11 := fun j => all 11 j (by unfold n_scr; omega) (by omega) (by omega) (by omega) (by omega) (by omega) (by omega)
    have e150 := fun j => all 150 j (by unfold n_scr; omega) (by omega) (by omega) (by omega) (by omega) (by omega) (by omega)
    unfold n_Rread at *
    simp only [e10, e30, e11, e150]
    exact x4
theorem n_qC_ref {h x : m_H} (C : n_qC h x) : ∀ b j, 127 ≤ b → b < 312 → m_g x b j = m_g h b j := fun b j b0 b1 => C.2.2 b j (by omega) (by omega) (by omega)
theorem n_s_fault {h : m_H} {k : Int} (X : n_R h k) : n_step h k (t10_fault 1) (t11_fault 127) := by
  have X' := X
  obtain ⟨I, gs, bud, x1, x2, x3, x4, x5, x6, x7⟩ := X'
  obtain ⟨c0, a0, y0, g0, B0, f0, r0, C0, R0, l0, u0, v0, w0⟩ := n_parseJ I x4 I (fun _ _ _ _ => rfl)
  obtain ⟨c1, a, x, g, B1, f1, r1, C1, R1, l1, u1, v1, w1⟩ := n_parseJ I x4 C0.1 (n_qC_ref C0)
  rw [f0] at f1
  have ee := Option.some.inj f1
  have ea : a0 = a := congrArg Prod.fst ee
  have ex : y0 = x := congrArg Prod.snd ee
  subst ea ex
  refine ⟨a0, y0, m_g g 127 33, g, ?_, ?_, by rw [v1], n_qRead X C1 R1⟩
  · unfold t10_fault
    rw [if_pos (n_t1 I.2), n_p1_2 I.2, if_pos (n_t10 I.2), f0, n_bs]
  · unfold t11_fault
    rw [if_pos (n_t127 C0.1.2), r1, n_bs]
    dsimp only
    rw [if_pos (n_t127 R1.1.2)]
