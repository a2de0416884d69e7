/-! CALLS: strip, tape -/
theorem n_new_rw {h h1 h2 : m_H} {kd one oth bg gen hs wr n : Int} {f f' : Int → Int} (I : n_I h) (A : n_new h h1 kd one oth bg gen hs wr n f) (B : n_rwc h1 h2 (m_n h + 1) n f') : n_new h h2 kd one oth bg gen hs wr n f' := by
  obtain ⟨I1, K, B1, ⟨ka, kr, kn⟩, FA, ⟨R1, R2⟩, C2, C3⟩ := A
  have I2 := n_I_rw I1 kr B.1
  have hn := I.2.2.2.2
  have R := n_wf_row I1.1 kr
  have D := B.1.2.2.2.2
  have hc := B.2 (by have := R.2.2.2.1; unfold n_cap; omega)
  have e1 := D.2.2.2.2.2.1
  have e2 := D.2.2.2.2.2.2.1
  have e3 := D.2.2.2.2.2.2.2.1
  have old : ∀ b, b < m_n h1 → b ≠ m_n h + 1 → b ≠ m_g h1 (m_n h + 1) 0 → ∀ j, m_g h2 b j = m_g h1 b j := fun b q1 q2 q3 j => D.2.1 b q1 q2 q3 j
  have nea : m_n h ≠ m_g h1 (m_n h + 1) 0 := fun e => by have := R.2.1; rw [← e] at this; omega
  have kl := K.1
  refine ⟨I2, ⟨fun b hb => ?_, by omega, fun b hb q1 q2 q3 j => ?_, fun r hr => ?_⟩, by omega, ⟨by rw [(D.1 _ (by omega)).1]; exact ka, by rw [(D.1 _ (by omega)).1]; exact kr, ?_⟩, ?_, ⟨B.1.2.2.1, fun j j1 j2 => by rw [n_rw_rg B.1, if_pos ⟨j1, j2⟩]⟩, fun j => by rw [old 2 (by omega) (by omega) (by omega)]; exact C2 j, fun j => by rw [old 3 (by omega) (by omega) (by omega)]; exact C3 j⟩
  · have u := D.1 b (by omega)
    have v := kl b hb
    omega
  · rw [old b (by omega) (by omega) (by omega), K.2.2.1 b hb q1 q2 q3]
  · have lr := n_wf_lt I.1 hr
    rw [old r (by omega) (by omega) (by omega)]
    exact K.2.2.2 r hr
  · have q := D.2.2.2.1
    omega
  · simp only [old (m_n h) (by omega) (by omega) nea]
    exact FA
/-- a new strip with another number in one place -/
theorem n_new_f {h h1 : m_H} {kd one oth bg gen hs wr n v j : Int} {f : Int → Int} (I : n_I h) (A : n_new h h1 kd one oth bg gen hs wr n f) (hj : j = 5 ∨ j = 6 ∨ j = 7 ∨ j = 9 ∨ j = 10 ∨ j = 11) : n_new h (m_p h1 (m_n h) j v) kd (if j = 9 then v else one) (if j = 10 then v else oth) (if j = 11 then v else bg) (if j = 5 then v else gen) (if j = 6 then v else hs) (if j = 7 then v else wr) n f := by
  obtain ⟨I1, K, B1, ⟨ka, kr, kn⟩, FA, ⟨R1, R2⟩, C2, C3⟩ := A
  have hn := I.2.2.2.2
  have I2 : n_I (m_p h1 (m_n h) j v) := n_I_p I1 (by omega) (by omega) (n_key_big I1.2 (by omega) _)
  have R := n_wf_row I1.1 kr
  have E : ∀ b i, b ≠ m_n h → m_g (m_p h1 (m_n h) j v) b i = m_g h1 b i := fun b i q => n_gp_n (fun p => q p.1)
  have F : ∀ i, m_g (m_p h1 (m_n h) j v) (m_n h) i = if i = j then v else m_g h1 (m_n h) i := fun i => by
    by_cases c : i = j
    · rw [n_gp_y ⟨rfl, c⟩, if_pos c]
    · rw [n_gp_n (fun p => c p.2), if_neg c]
  have nea : m_g h1 (m_n h + 1) 0 ≠ m_n h := fun e => by have := R.2.1; rw [e] at this; omega
  refine ⟨I2, ⟨K.1, K.2.1, fun b hb q1 q2 q3 i => ?_, fun r hr => ?_⟩, B1, ⟨ka, kr, by rw [E _ _ (by omega)]; exact kn⟩, ?_, ⟨by rw [E _ _ (by omega)]; exact R1, fun i i1 i2 => ?_⟩, fun i => by rw [E 2 _ (by omega)]; exact C2 i, fun i => by rw [E 3 _ (by omega)]; exact C3 i⟩
  · rw [E b i (by omega)]; exact K.2.2.1 b hb q1 q2 q3 i
  · have lr := n_wf_lt I.1 hr
    rw [E r 0 (by omega)]; exact K.2.2.2 r hr
  · simp only [F]
    rcases hj with e | e | e | e | e | e <;> subst e <;> simp only [Int.reduceEq, ↓reduceIte] <;> exact ⟨FA.1, FA.2.1, FA.2.2.1, FA.2.2.2.1, FA.2.2.2.2.1, by first | trivial | exact FA.2.2.2.2.2.1, by first | trivial | exact FA.2.2.2.2.2.2.1, by first | trivial | exact FA.2.2.2.2.2.2.2.1, FA.2.2.2.2.2.2.2.2.1, by first | trivial | exact FA.2.2.2.2.2.2.2.2.2.1, by first | trivial | exact FA.2.2.2.2.2.2.2.2.2.2.1, by first | trivial | exact FA.2.2.2.2.2.2.2.2.2.2.2⟩
  · have := R2 i i1 i2
    unfold n_rg at this ⊢
    rw [E (m_n h + 1) _ (by omega), E (m_n h + 1) _ (by omega), E _ _ nea]
    exact this
theorem n_new_phi {h h1 : m_H} {kd one oth bg gen hs wr n : Int} {f : Int → Int} (I : n_I h) (A : n_new h h1 kd one oth bg gen hs wr n f) : n_phi h1 = n_phi h := by
  obtain ⟨I1, K, B1, q⟩ := A
  refine n_phi_eq (fun r hr => ?_)
  have t := n_rows_t I.2 hr
  have l := n_wf_lt I.1 t.1
  have t2 := n_t2 I.2
  have t3 := n_t3 I.2
  unfold n_cap
  rw [K.2.2.1 r l.1 (by simp; exact ⟨fun e => by rw [e] at t; omega, fun e => by rw [e] at t; omega⟩) List.not_mem_nil n_no, (K.1 _ l.2.1).2]
/-- the shelf's relation, when a fixed row is filled -/
theorem n_Rsh_rw {h h' g : m_H} {v n : Int} {f : Int → Int} (I : n_I h) (S : n_Rsh h g) (hv : m_t h v = 5) (h3 : v < 312) (A : n_rw h h' v n f) : n_Rsh h' g := by
  have c := fun b (q : n_sf h b) => n_sf_ch I.1 hv A.2.2.2.2 q
  have sf := fun b (b1 : 2 ≤ b) (b2 : b ≤ 7) => (show n_sf h b from by
    rcases (show b = 2 ∨ b = 3 ∨ b = 4 ∨ b = 5 ∨ b = 6 ∨ b = 7 by omega) with e | e | e | e | e | e <;> rw [e]
    · exact n_sf2 I
    · exact n_sfa I (by omega) (by rw [n_t3 I.2]; omega) (Or.inl (by rw [n_t3 I.2]; omega))
    · exact n_sfa I (by omega) (by rw [n_t4 I.2]; omega) (Or.inl (by rw [n_t4 I.2]; omega))
    · exact n_sfa I (by omega) (by rw [n_t5 I.2]; omega) (Or.inr (by rw [n_l5 I.2]; omega))
    · exact n_sfa I (by omega) (by rw [n_t6 I.2]; omega) (Or.inr (by rw [n_l6 I.2]; omega))
    · exact n_sfa I (by omega) (by rw [n_t7 I.2]; omega) (Or.inr (by rw [n_l7 I.2]; omega)))
  have e := fun b b1 b2 j => (c b (sf b b1 b2)).2.1 j
  obtain ⟨S1, S2, S3, S4⟩ := S
  refine ⟨?_, fun i i1 i2 => ?_, fun i i1 i2 => ?_, fun j j1 j2 => ?_⟩
  · unfold n_shN at *
    rw [e 2 (by omega) (by omega), e 2 (by omega) (by omega), e 2 (by omega) (by omega), e 2 (by omega) (by omega), e 2 (by omega) (by omega), e 2 (by omega) (by omega)]
    exact S1
  · have X := S2 i i1 i2
    rw [e 3 (by omega) (by omega)]
    generalize m_g h 3 i = q at *
    unfold n_strip at X ⊢
    have hq := c q ⟨(I.1.1 q (by omega)).2, by omega, fun r hr e => by have := (n_wf_row I.1 hr).2.1; rw [e] at this; omega⟩
    have hr := n_oth I.1 hv A.2.2.2.2 X.1.2.2.1 (by omega)
    simp only [hq.2.1, hq.2.2.1, hr.2.2.1, hr.2.2.2.2, hr.1.1]
    exact ⟨⟨X.1.1, X.1.2.1, trivial, X.1.2.2.2⟩, X.2⟩
  · have X := S3 i i1 i2
    rw [e 4 (by omega) (by omega)]
    generalize m_g h 4 i = q at *
    unfold n_mach at X ⊢
    have hq := c q ⟨(I.1.1 q (by omega)).2, by omega, fun r hr e => by have := (n_wf_row I.1 hr).2.1; rw [e] at this; omega⟩
    simp only [hq.2.1, hq.2.2.1]
    exact X
  · rw [e 5 (by omega) (by omega), e 6 (by omega) (by omega), e 7 (by omega) (by omega)]
    exact S4 j j1 j2
theorem n_Rsh_kr {h g g' : m_H} {Tc Tf : List Int} (S : n_Rsh h g) (K : n_kr g g' Tc Tf) (c : n_nos Tc Tf) : n_Rsh h g' := by
  have E := fun b (hb : b = 128 ∨ (130 ≤ b ∧ b ≤ 148)) j => K.2.2 b j (fun q => by have := c.1 b q; omega) (fun q => by omega)
  have F := fun k (hk : k = 14 ∨ k = 15 ∨ k = 17 ∨ k = 18 ∨ k = 23 ∨ k = 27) => K.2.2 127 k (fun q => by have := K.2.1 127 q; omega) (fun q => by have := c.2 k q.2; omega)
  unfold n_Rsh n_shN n_strip n_mach at *
  simp only [F 14 (by omega), F 15 (by omega), F 17 (by omega), F 18 (by omega), F 23 (by omega), F 27 (by omega), E 128 (by omega), E 130 (by omega), E 131 (by omega), E 132 (by omega), E 133 (by omega), E 134 (by omega), E 135 (by omega), E 136 (by omega), E 137 (by omega), E 138 (by omega), E 139 (by omega), E 140 (by omega), E 141 (by omega), E 142 (by omega), E 143 (by omega), E 144 (by omega), E 145 (by omega), E 146 (by omega), E 147 (by omega), E 148 (by omega)]
  exact S
theorem n_gs_kr {g g' : m_H} {Tc Tf : List Int} (S : n_gs g) (K : n_kr g g' Tc Tf) (c : n_nos Tc Tf) : n_gs g' := by
  have E := fun b (hb : b = 128 ∨ (130 ≤ b ∧ b ≤ 148)) j => K.2.2 b j (fun q => by have := c.1 b q; omega) (fun q => by omega)
  have F := fun k (hk : k = 14 ∨ k = 15 ∨ k = 17 ∨ k = 18 ∨ k = 23 ∨ k = 27) => K.2.2 127 k (fun q => by have := K.2.1 127 q; omega) (fun q => by have := c.2 k q.2; omega)
  unfold n_gs n_shB n_strB n_macB at *
  simp only [F 14 (by omega), F 15 (by omega), F 17 (by omega), F 18 (by omega), F 23 (by omega), F 27 (by omega), E 128 (by omega), E 130 (by omega), E 131 (by omega), E 132 (by omega), E 133 (by omega), E 134 (by omega), E 135 (by omega), E 136 (by omega), E 137 (by omega), E 138 (by omega), E 139 (by omega), E 140 (by omega), E 141 (by omega), E 142 (by omega), E 143 (by omega), E 144 (by omega), E 145 (by omega), E 146 (by omega), E 147 (by omega), E 148 (by omega)]
  exact S
/-- the reference's hand loses its first n -/
def n_hl (g : m_H) (n : Int) : m_H := m_p (n_fl g 129 0 (m_g g 127 16 - n) (fun j => m_g g 129 (j + n))) 127 16 (m_g g 127 16 - n)
theorem n_handLoses {g : m_H} {n : Int} (I : n_I g) (h0 : 0 ≤ n) (h1 : n ≤ m_g g 127 16) (h2 : m_g g 127 16 ≤ 300) : t11_handLoses 127 n g = some ((), n_hl g n) := by
  have key := n_iter (fun i => t11_handLoses_c2 127 n i (n_fl g 129 0 (i - n) (fun j => m_g g 129 (j + n)))) n (m_g g 127 16) h1 (fun i i1 i2 => by
    have tM : m_t (n_fl g 129 0 (i - n) (fun j => m_g g 129 (j + n))) 127 = 11 := show m_t g 127 = 11 from n_t127 I.2
    have t9 : m_t (n_fl g 129 0 (i - n) (fun j => m_g g 129 (j + n))) 129 = 20 := show m_t g 129 = 20 from n_t129 I.2
    have l9 : m_l (n_fl g 129 0 (i - n) (fun j => m_g g 129 (j + n))) 129 = 300 := show m_l g 129 = 300 from n_l129 I.2
    have e1 : ∀ j, m_g (n_fl g 129 0 (i - n) (fun j => m_g g 129 (j + n))) 127 j = m_g g 127 j := fun j => by rw [n_g_fl, if_neg (by omega)]
    have p1 := (e1 1).trans (n_p127_1 I.2)
    have e2 : m_g (n_fl g 129 0 (i - n) (fun j => m_g g 129 (j + n))) 129 i = m_g g 129 i := by rw [n_g_fl, if_neg (by omega)]
    have ef : m_p (n_fl g 129 0 (i - n) (fun j => m_g g 129 (j + n))) 129 (i - n) (m_g g 129 i) = n_fl g 129 0 (i + 1 - n) (fun j => m_g g 129 (j + n)) := by
      rw [n_p_fl (by omega) (by show m_g g 129 i = m_g g 129 (i - n + n); congr 1; omega)]
      congr 1; omega
    show t11_handLoses_c2 127 n i _ = t11_handLoses_c2 127 n (i + 1) _
    rw [t11_handLoses_c2, ← ef]
    have e16 := e1 16
    generalize n_fl g 129 0 (i - n) (fun j => m_g g 129 (j + n)) = gi at *
    clear I
    simp (disch := omega) only [m_w_of, n_ltT, n_ltF, n_leT, n_leF, n_eqT, n_eqF, n_bs, n_bn, ↓reduceIte, true_and, and_true, and_self, false_and, and_false, or_true, true_or, or_false, false_or, not_true_eq_false, not_false_eq_true, Bool.false_eq_true, reduceCtorEq, eq_self, p1, e16, e2])
  have k2 : t11_handLoses_c2 127 n n g = t11_handLoses_c2 127 n (m_g g 127 16) (n_fl g 129 0 (m_g g 127 16 - n) (fun j => m_g g 129 (j + n))) := by
    have := key
    simp only [n_fl_0 g 129 0 (n - n) _ (by omega)] at this
    exact this
  have tM : m_t (n_fl g 129 0 (m_g g 127 16 - n) (fun j => m_g g 129 (j + n))) 127 = 11 := show m_t g 127 = 11 from n_t127 I.2
  have e16 : m_g (n_fl g 129 0 (m_g g 127 16 - n) (fun j => m_g g 129 (j + n))) 127 16 = m_g g 127 16 := by rw [n_g_fl, if_neg (by omega)]
  unfold t11_handLoses n_hl
  rw [k2, t11_handLoses_c2, if_pos tM, e16, if_neg (by omega), n_bs]
theorem n_hl_kr (g : m_H) (n : Int) : n_kr g (n_hl g n) [129] [16] := n_kr_trans (n_kr_fl (by omega) (by omega)) n_kr_f
/-- both hands lose their first n -/
theorem n_hand_drop {h h' g : m_H} {n : Int} (X : n_Rhand h g) (h0 : 0 ≤ n) (h1 : n ≤ m_g g 127 16) (A : n_rw h h' 8 (m_g h 8 1 - n) (fun j => n_rg h 8 (j + n))) : n_Rhand h' (n_hl g n) := by
  obtain ⟨x1, x2, x3, x4⟩ := X
  have e16 : m_g (n_hl g n) 127 16 = m_g g 127 16 - n := by unfold n_hl; rw [n_gp_y ⟨rfl, rfl⟩]
  refine ⟨by rw [A.2.2.1, e16, x1], by omega, by omega, fun j j1 j2 => ?_⟩
  have e9 : m_g (n_hl g n) 129 j = m_g g 129 (j + n) := by
    unfold n_hl
    rw [n_gp_n (by omega), n_g_fl, if_pos ⟨rfl, j1, by omega⟩]
  rw [n_rw_rg A, if_pos (by omega), e9]
  exact x4 (j + n) (by omega) (by omega)
