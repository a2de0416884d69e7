/-! CALLS: lose, hang, read, machine -/
theorem n_Rsh_g {h g g' : m_H} (S : n_Rsh h g) (e : ∀ b j, 127 ≤ b → b < 312 → m_g g' b j = m_g g b j) : n_Rsh h g' := by
  have E := fun b (b1 : 127 ≤ b) (b2 : b < 312) j => e b j b1 b2
  unfold n_Rsh n_shN n_strip n_mach at *
  simp only [E 127 (by omega) (by omega), E 128 (by omega) (by omega), E 130 (by omega) (by omega), E 131 (by omega) (by omega), E 132 (by omega) (by omega), E 133 (by omega) (by omega), E 134 (by omega) (by omega), E 135 (by omega) (by omega), E 136 (by omega) (by omega), E 137 (by omega) (by omega), E 138 (by omega) (by omega), E 139 (by omega) (by omega), E 140 (by omega) (by omega), E 141 (by omega) (by omega), E 142 (by omega) (by omega), E 143 (by omega) (by omega), E 144 (by omega) (by omega), E 145 (by omega) (by omega), E 146 (by omega) (by omega), E 147 (by omega) (by omega), E 148 (by omega) (by omega)]
  exact S
theorem n_gs_g {g g' : m_H} (S : n_gs g) (e : ∀ b j, 127 ≤ b → b < 312 → m_g g' b j = m_g g b j) : n_gs g' := by
  have E := fun b (b1 : 127 ≤ b) (b2 : b < 312) j => e b j b1 b2
  unfold n_gs n_shB n_strB n_macB at *
  simp only [E 127 (by omega) (by omega), E 128 (by omega) (by omega), E 130 (by omega) (by omega), E 131 (by omega) (by omega), E 132 (by omega) (by omega), E 133 (by omega) (by omega), E 134 (by omega) (by omega), E 135 (by omega) (by omega), E 136 (by omega) (by omega), E 137 (by omega) (by omega), E 138 (by omega) (by omega), E 139 (by omega) (by omega), E 140 (by omega) (by omega), E 141 (by omega) (by omega), E 142 (by omega) (by omega), E 143 (by omega) (by omega), E 144 (by omega) (by omega), E 145 (by omega) (by omega), E 146 (by omega) (by omega), E 147 (by omega) (by omega), E 148 (by omega) (by omega)]
  exact S
theorem n_Rsh_gg {h g : m_H} {Tc Tf : List Int} (I : n_I h) (K : n_kr h g Tc Tf) (S : n_Rsh h g) : n_Rsh g g := by
  have C := fun b (hb : b < 127 ∨ 312 ≤ b) j => n_kr_comp K hb j
  have T := n_e2t K.1
  obtain ⟨S1, S2, S3, S4⟩ := S
  refine ⟨?_, fun i i1 i2 => ?_, fun i i1 i2 => ?_, fun j j1 j2 => ?_⟩
  · unfold n_shN at *
    rw [C 2 (by omega), C 2 (by omega), C 2 (by omega), C 2 (by omega), C 2 (by omega), C 2 (by omega)]
    exact S1
  · have X := S2 i i1 i2
    rw [C 3 (by omega)]
    generalize m_g h 3 i = q at *
    unfold n_strip at X ⊢
    have q1 : q < 127 ∨ 312 ≤ q := Or.inr X.1.2.1
    have q2 : m_g h q 3 < 127 ∨ 312 ≤ m_g h q 3 := Or.inr X.1.2.2.2
    simp only [C q q1, C _ q2, T, n_kr_rg I K X.1.2.2.1]
    exact X
  · have X := S3 i i1 i2
    rw [C 4 (by omega)]
    generalize m_g h 4 i = q at *
    unfold n_mach at X ⊢
    have q1 : q < 127 ∨ 312 ≤ q := Or.inr X.1.2
    simp only [C q q1, T]
    exact X
  · rw [C 5 (by omega), C 6 (by omega), C 7 (by omega)]
    exact S4 j j1 j2
/-- a call on both that touches strips, machines, readings; the rest by what it leaves alone -/
theorem n_fin {h ha hb : m_H} {A R Tc Tf : List Int} {k : Int} (X : n_R h k) (KP : n_kp h ha A R) (KR : n_kr ha hb Tc Tf) (hA : ∀ b ∈ A, n_sf h b ∧ (b < 127 ∨ 312 ≤ b)) (hA2 : ∀ b ∈ A, (b < 127 ∧ b ≠ 1 ∧ b ≠ 10 ∧ b ≠ 11 ∧ b ≠ 19 ∧ b ≠ 106 ∧ b ≠ 109 ∧ b ≠ 112 ∧ b ≠ 113 ∧ b ≠ 121 ∧ b ≠ 124) ∨ m_t h b = 8) (hR : ∀ r ∈ R, m_t h r = 5 ∧ r = 8)
    (hTc : ∀ b ∈ Tc, n_ar ha b ∧ ((b = 129 ∧ 8 ∈ R) ∨ b = 128 ∨ b = 149 ∨ (130 ≤ b ∧ b ≤ 141) ∨ (146 ≤ b ∧ b ≤ 148))) (hTf : ∀ k ∈ Tf, (k = 16 ∧ 8 ∈ R) ∨ k = 14 ∨ k = 15 ∨ k = 27) (Ia : n_I ha) (Ba : n_bud ha (k + 1)) (G : n_gs hb) (S : n_Rsh ha hb) (hh : n_Rhand hb hb) (hm : n_Rm hb hb (k + 1)) : n_R hb (k + 1) := by
  have X' := X
  obtain ⟨I, gs, bud, x1, x2, x3, x4, x5, x6, x7⟩ := X'
  have hR1 : ∀ r ∈ R, m_t h r = 5 := fun r hr => (hR r hr).1
  have P := n_sp_of I KP KR hA hR1
  obtain ⟨g0, g1, g2, g3, g4, g5, g6, g7⟩ := n_fr X P
  have nR : ∀ x : Int, x ≠ 8 → x ∉ R := fun x hx q => hx (hR x q).2
  have nT : ∀ x : Int, (x = 127 ∨ x = 142 ∨ x = 150 ∨ 151 ≤ x) → x ∉ Tc := fun x hx q => by have := (hTc x q).2; omega
  have nF : ∀ x : Int, x ≠ 14 → x ≠ 15 → x ≠ 16 → x ≠ 27 → x ∉ Tf := fun x h1 h2 h3 h4 q => by have := hTf x q; omega
  have nsc : n_nosc Tc := fun b hb => by have := (hTc b hb).2; omega
  have nA : ∀ x : Int, (x = 1 ∨ x = 10 ∨ x = 11 ∨ x = 19 ∨ x = 106 ∨ x = 109 ∨ x = 112 ∨ x = 113 ∨ x = 121 ∨ x = 124) → m_t h x ≠ 8 → x ∉ A := fun x hx hy q => by have := hA2 x q; omega
  refine ⟨n_kr_I Ia KR (fun b hb => (hTc b hb).1) ?_, G, n_bud_same Ia KR.1 (fun r hr => n_kr_comp KR (n_ref_row Ia hr).1 0) Ba, hh, g2 (nR _ (by omega)) (nT _ (by omega)) (nF _ (by omega) (by omega) (by omega) (by omega)), n_Rsh_gg Ia KR S, g4 (nT _ (by omega)) (nF _ (by omega) (by omega) (by omega) (by omega)) (nA _ (by omega) (by rw [n_t10 I.2]; omega)) (nA _ (by omega) (by rw [n_t11 I.2]; omega)), g5 nsc (nF _ (by omega) (by omega) (by omega) (by omega)) (fun b hb => ?_), g6 nsc (nF _ (by omega) (by omega) (by omega) (by omega)) (nF _ (by omega) (by omega) (by omega) (by omega)) (nT _ (by omega)) (fun b hb => by have := (hTc b hb).2; omega) (fun q hq => by have := hTf q hq; omega) (fun b hb => ?_) (nR _ (by omega)), hm⟩
  · rw [List.all_eq_true]
    intro q hq
    have := hTf q hq
    rcases (show q = 16 ∨ q = 14 ∨ q = 15 ∨ q = 27 by omega) with e | e | e | e <;> rw [e] <;> rfl
  · have := hA2 b hb
    have u1 := n_t1 I.2
    have u2 := n_t19 I.2
    refine ⟨fun e => ?_, fun e => ?_, ?_⟩
    · rw [e] at this; omega
    · rw [e] at this; omega
    · omega
  · have := hA2 b hb
    have u1 := n_t19 I.2
    have u2 := n_t106 I.2
    have u3 := n_t109 I.2
    have u4 := n_t112 I.2
    have u5 := n_t113 I.2
    refine ⟨fun e => ?_, fun e => ?_, fun e => ?_, fun e => ?_, fun e => ?_⟩ <;> rw [e] at this <;> omega
theorem n_in2 {a b : Int} {P : Int → Prop} (h1 : P a) (h2 : P b) : ∀ x ∈ [a, b], P x := fun x hx => by
  rcases List.mem_cons.mp hx with e | e
  · rw [e]; exact h1
  · rw [List.mem_singleton.mp e]; exact h2
theorem n_in1 {a : Int} {P : Int → Prop} (h1 : P a) : ∀ x ∈ [a], P x := fun x hx => by rw [List.mem_singleton.mp hx]; exact h1
theorem n_s_lose {h : m_H} {k : Int} (X : n_R h k) (s : Int) (i1 : -2147483648 ≤ s) (i2 : s < 2147483648) : n_stepb h k (t10_lose 1 s) (t11_lose 127 s) := by
  have X' := X
  obtain ⟨I, gs, bud, x1, x2, x3, x4, x5, x6, x7⟩ := X'
  have tM := n_t127 I.2
  have eT := n_isThere I gs i1 i2
  unfold n_stepb t10_lose t11_lose
  rw [if_pos (n_t1 I.2), n_p1_0 I.2, if_pos (n_t2 I.2)]
  by_cases c : 0 ≤ s ∧ s < m_g h 127 14 ∧ m_g h 133 s = 0
  · have hs : 0 ≤ s ∧ s < m_g h 127 14 := ⟨c.1, c.2.1⟩
    obtain ⟨⟨s1, s2, s3, s4⟩, s5⟩ := n_st x3 hs
    have Ka := n_tk_kp (st := 2) I s1
    have J1 := n_tk_I (st := 2) I s1 s2
    have hA : ∀ b ∈ [m_g h 3 s, 2], n_sf h b ∧ (b < 127 ∨ 312 ≤ b) := n_in2 ⟨n_st_sf I x3 hs, Or.inr s2⟩ ⟨n_sf2 I, by omega⟩
    have ref := fun b j (b1 : 127 ≤ b) (b2 : b < 312) => n_kp_ref I Ka (fun b hb => (hA b hb).2) n_no b1 b2 j
    have e11 : m_g (n_tk h (m_g h 3 s) 2) 2 11 = m_g h 2 11 + 1 := by unfold n_tk; rw [m_g_p, if_pos ⟨rfl, rfl⟩]
    have e121 : ∀ j, m_g (n_tk h (m_g h 3 s) 2) 121 j = m_g h 121 j := fun j => by unfold n_tk; rw [m_g_p, if_neg (by omega), m_g_p, if_neg (by omega), m_g_p, if_neg (by omega)]
    have S0 := n_Rsh_g (g' := n_tk h (m_g h 3 s) 2) x3 (fun b j => ref b j)
    have gs1 := n_gs_g (g' := n_tk h (m_g h 3 s) 2) gs (fun b j => ref b j)
    have hs1 : 0 ≤ s ∧ s < m_g (n_tk h (m_g h 3 s) 2) 127 14 := by rw [ref 127 14 (by omega) (by omega)]; exact hs
    have RR := n_use_R (st := 2) I S0 hs1
    have gs2 := n_use_gs (st := 2) gs1 hs1 (by omega) (by omega)
    have eT1 := n_isThere J1 gs1 i1 i2
    rw [ref 127 14 (by omega) (by omega), ref 133 s (by omega) (by omega), decide_eq_true c] at eT1
    have u := n_uses (st := 2) J1 gs1 hs1
    have KR := n_us_kr (n_tk h (m_g h 3 s) 2) s 2
    have t1 := n_t1 I.2
    have t2 := n_t2 I.2
    have tM1 := n_t127 J1.2
    have t3 := n_t133 J1.2
    have t7 := n_t137 J1.2
    have Bu : n_bud (n_tk h (m_g h 3 s) 2) (k + 1) := n_bud_same I rfl (fun r hr => Ka.2.2.1 r (n_wf_lt I.1 hr).1 (fun q => by
      simp at q
      rcases q with e | e <;> rw [e] at hr <;> omega) List.not_mem_nil n_no 0) (n_bud_more bud)
    have eC := n_takeAway (st := 2) I s1 s2
    generalize n_tk h (m_g h 3 s) 2 = ha at *
    have P := n_sp_of I Ka KR hA n_no
    refine ⟨true, ha, true, n_us ha s 2, ?_, ?_, rfl, n_fin X Ka KR hA (n_in2 (Or.inr s1) (Or.inl (by omega))) n_no (n_in2 ⟨Or.inl t3, by omega⟩ ⟨Or.inl t7, by omega⟩) n_no J1 Bu gs2 RR ?_ ?_⟩
    · rw [n_there_y I x3 gs hs c.2.2, n_bs]
      simp (disch := omega) only [m_w_of, n_ltT, n_ltF, n_leT, n_leF, n_eqT, n_eqF, n_bs, n_bn, ↓reduceIte, true_and, and_true, and_self, false_and, and_false, or_true, true_or, or_false, false_or, not_true_eq_false, not_false_eq_true, Bool.false_eq_true, reduceCtorEq, eq_self, n_p1_0 I.2, eC]
    · simp (disch := omega) only [m_w_of, n_ltT, n_ltF, n_leT, n_leF, n_eqT, n_eqF, n_bs, n_bn, ↓reduceIte, true_and, and_true, and_self, false_and, and_false, or_true, true_or, or_false, false_or, not_true_eq_false, not_false_eq_true, Bool.false_eq_true, reduceCtorEq, eq_self, eT1, u]
    · exact (n_fr X P).2.1 List.not_mem_nil (by decide) (by decide) 
    · exact n_Rm_new ((n_kr_comp KR (by omega) 11).trans (e121 11)) ((n_kr_comp KR (by omega) 12).trans (e121 12)) (by rw [n_kr_comp KR (by omega) 11]; omega) (by rw [n_kr_comp KR (by omega) 11]; omega) x7
  · rw [decide_eq_false c] at eT
    refine ⟨false, h, false, h, ?_, ?_, rfl, n_R_more X⟩
    · rw [n_there_n I x3 gs i1 i2 c, n_bs]
      simp only [↓reduceIte]
    · simp (disch := omega) only [m_w_of, n_ltT, n_ltF, n_leT, n_leF, n_eqT, n_eqF, n_bs, n_bn, ↓reduceIte, true_and, and_true, and_self, false_and, and_false, or_true, true_or, or_false, false_or, not_true_eq_false, not_false_eq_true, Bool.false_eq_true, reduceCtorEq, eq_self, eT]
