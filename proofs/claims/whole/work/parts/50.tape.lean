/-! CALLS: tape, wipe -/
theorem n_Rm_none {h h' : m_H} {k : Int} (e1 : m_g h' 121 11 = -1) (e2 : m_g h' 121 12 = m_g h 121 12) (e3 : m_g h' 2 11 = m_g h 2 11) (X : n_Rm h h k) : n_Rm h' h' (k + 1) := by
  unfold n_Rm at *
  rw [e1, e2, e3]
  exact ⟨by omega, by omega, X.2.2.1, X.2.2.2.1, by omega, fun q => absurd rfl q⟩
theorem n_Rtape_gg {h g : m_H} {Tc Tf : List Int} (I : n_I h) (K : n_kr h g Tc Tf) (X : n_Rtape h g) : n_Rtape g g := by
  unfold n_Rtape at *
  simp only [n_kr_comp K (show (119 : Int) < 127 ∨ 312 ≤ (119 : Int) by omega), n_kr_rg I K (n_t119 I.2)]
  exact X
/-- a call that touches the tape (and the hand) -/
theorem n_finT {h ha hb : m_H} {A R Tc Tf : List Int} {k : Int} (X : n_R h k) (KP : n_kp h ha A R) (KR : n_kr ha hb Tc Tf) (hA : ∀ b ∈ A, b = 121) (hR : ∀ r ∈ R, r = 119 ∨ r = 8) (hTc : ∀ b ∈ Tc, b = 308 ∨ b = 129) (hTf : ∀ k ∈ Tf, k = 85 ∨ k = 16) (Ia : n_I ha) (Ba : n_bud ha (k + 1)) (T : n_Rtape ha hb) (H : n_Rhand ha hb) (em : m_g ha 121 11 = -1) (em2 : m_g ha 121 12 = m_g h 121 12) : n_R hb (k + 1) := by
  have X' := X
  obtain ⟨I, gs, bud, x1, x2, x3, x4, x5, x6, x7⟩ := X'
  have t121 := n_t121 I.2
  have hA1 : ∀ b ∈ A, n_sf h b ∧ (b < 127 ∨ 312 ≤ b) := fun b q => by
    rw [hA b q]; exact ⟨n_sfa I (by omega) (by omega) (Or.inl (by omega)), by omega⟩
  have hR1 : ∀ r ∈ R, m_t h r = 5 := fun r q => by
    rcases hR r q with e | e <;> rw [e]
    · exact n_t119 I.2
    · exact n_t8 I.2
  have P := n_sp_of I KP KR hA1 hR1
  obtain ⟨g0, g1, g2, g3, g4, g5, g6, g7⟩ := n_fr X P
  have nos : n_nos Tc Tf := ⟨fun b q => by have := hTc b q; omega, fun q hq => by have := hTf q hq; omega⟩
  have nosc : n_nosc Tc := fun b q => by have := hTc b q; omega
  have nT : ∀ x : Int, x ≠ 308 → x ≠ 129 → x ∉ Tc := fun x q1 q2 q => by have := hTc x q; omega
  have nF : ∀ x : Int, x ≠ 85 → x ≠ 16 → x ∉ Tf := fun x q1 q2 q => by have := hTf x q; omega
  have nA : ∀ x : Int, x ≠ 121 → x ∉ A := fun x q1 q => q1 (hA x q)
  have I2 : n_I hb := n_kr_I Ia KR (fun b q => by
    rcases hTc b q with e | e <;> rw [e]
    · exact Or.inl (n_t308 Ia.2)
    · exact Or.inl (n_t129 Ia.2)) (by
    rw [List.all_eq_true]
    intro q hq
    rcases hTf q hq with e | e <;> rw [e] <;> rfl)
  have e11 : m_g hb 2 11 = m_g h 2 11 := by
    rw [n_kr_comp KR (by omega), KP.2.2.1 2 (by have := I.2.2.2.2; omega) (nA 2 (by omega)) (fun q => by have := hR 2 q; omega) (fun r hr e => by
      have := (n_wf_row I.1 (hR1 r hr)).2.1
      rw [← e, n_t2 I.2] at this; omega)]
  refine ⟨I2, g0 nos, n_bud_same Ia KR.1 (fun r hr => n_kr_comp KR (n_ref_row Ia hr).1 0) Ba, n_Rhand_gg Ia KR H, n_Rtape_gg Ia KR T, g3 nos (fun b q => by rw [hA b q, t121]; omega) (fun r q => by have := hR r q; omega), g4 (nT _ (by omega) (by omega)) (nF _ (by omega) (by omega)) (nA _ (by omega)) (nA _ (by omega)), g5 nosc (nF _ (by omega) (by omega)) (fun b q => by rw [hA b q]; omega), g6 nosc (nF _ (by omega) (by omega)) (nF _ (by omega) (by omega)) (nT _ (by omega) (by omega)) (fun b q => by have := hTc b q; omega) (fun q hq => by have := hTf q hq; omega) (fun b q => by rw [hA b q]; omega) (fun q => by have := hR 107 q; omega), n_Rm_none (by rw [n_kr_comp KR (by omega)]; exact em) (by rw [n_kr_comp KR (by omega)]; exact em2) e11 x7⟩
theorem n_s_wipe {h : m_H} {k : Int} (X : n_R h k) : n_step h k (t10_wipe 1) (t11_wipe 127) := by
  have X' := X
  obtain ⟨I, gs, bud, x1, x2, x3, x4, x5, x6, x7⟩ := X'
  have t121 := n_t121 I.2
  have I0 : n_I (m_p h 121 11 (-1)) := n_I_p I (by omega) (by omega) rfl
  have K0 := n_kp_p (h := h) (a := 121) (k := 11) (v := -1) (by omega)
  have rg0 : ∀ r, m_t h r = 5 → ∀ j, n_rg (m_p h 121 11 (-1)) r j = n_rg h r j := fun r hr j => by
    have k20 := (n_wf_row I.1 hr).2.1
    have e1 : ∀ i, m_g (m_p h 121 11 (-1)) r i = m_g h r i := fun i => n_gp_n (fun p => by rw [p.1] at hr; omega)
    have e2 : m_g (m_p h 121 11 (-1)) (m_g h r 0) j = m_g h (m_g h r 0) j := n_gp_n (fun p => by rw [p.1] at k20; omega)
    unfold n_rg
    rw [e1, e1, e2]
  have sz : m_g (m_p h 121 11 (-1)) 119 1 = m_g h 119 1 := n_gp_n (by omega)
  obtain ⟨h1, e1, A⟩ := n_shrink (n := 0) I0.1 (n_t119 I0.2) (by omega) (by rw [sz]; have := x2.1; have := x2.2.1; omega) (by omega)
  have I1 := n_I_rw I0 (n_t119 I0.2) A
  have KP : n_kp h h1 [121] [119] := n_kp_trans K0 (n_kp_rw I0.1 (n_t119 I0.2) A) I.1 (n_in1 (Or.inl (n_t119 I.2)))
  have KR : n_kr h1 (m_p h1 127 85 0) [] [85] := n_kr_f
  have s121 : n_sf (m_p h 121 11 (-1)) 121 := n_sfa I0 (by omega) (by rw [n_t121 I0.2]; omega) (Or.inl (by rw [n_t121 I0.2]; omega))
  have c121 := fun j => n_rw_cell I0 (n_t119 I0.2) A s121 j
  have hR1 : ∀ r ∈ [(119 : Int)], m_t h r = 5 := n_in1 (n_t119 I.2)
  have ref := fun b j (b1 : 127 ≤ b) (b2 : b < 312) => n_kp_ref I KP (n_in1 (by omega)) hR1 b1 b2 j
  have e85 := ref 127 85 (by omega) (by omega)
  have Bu : n_bud h1 (k + 1) := n_bud_rw I0 (by decide) A (n_bud_same I rfl (fun r hr => n_gp_n (fun p => by rw [p.1] at hr; omega)) (n_bud_more bud))
  have H1 : n_Rhand h1 (m_p h1 127 85 0) := by
    have o := n_oth I0.1 (n_t119 I0.2) A.2.2.2.2 (n_t8 I0.2) (by omega)
    unfold n_Rhand at *
    have f16 : m_g (m_p h1 127 85 0) 127 16 = m_g h 127 16 := by rw [n_gp_n (by omega)]; exact ref 127 16 (by omega) (by omega)
    have f129 : ∀ j, m_g (m_p h1 127 85 0) 129 j = m_g h 129 j := fun j => by rw [n_gp_n (by omega)]; exact ref 129 j (by omega) (by omega)
    rw [f16, o.2.2.1, n_gp_n (by omega)]
    simp only [f129, o.2.2.2.2, rg0 8 (n_t8 I.2)]
    exact x1
  refine ⟨m_g h 119 1, h1, m_g h1 127 85, m_p h1 127 85 0, ?_, ?_, by rw [e85, x2.1], n_finT X KP KR (by simp) (by simp) n_no (by simp) I1 Bu ?_ H1 (by rw [c121, n_gp_y ⟨rfl, rfl⟩]) (by rw [c121, n_gp_n (by omega)])⟩
  · unfold t10_wipe t10_emptied t1_forget
    rw [if_pos (n_t1 I.2), n_p1_9 I.2, if_pos t121, if_pos t121, n_bs, n_bs]
    show (if m_t (m_p h 121 11 (-1)) 1 = 10 then (if m_t (m_p h 121 11 (-1)) (m_g (m_p h 121 11 (-1)) 1 8) = 5 then t5_size (m_g (m_p h 121 11 (-1)) 1 8) (m_p h 121 11 (-1)) >>= _ else none) >>= _ else none) = _
    rw [if_pos (n_t1 I0.2), n_p1_8 I0.2, if_pos (n_t119 I0.2), n_size (n_t119 I0.2), n_bs, sz]
    show (if m_t (m_p h 121 11 (-1)) 119 = 5 then t5_resize 119 0 (m_p h 121 11 (-1)) >>= _ else none) >>= _ = _
    rw [if_pos (n_t119 I0.2), e1, n_bs]
    rfl
  · unfold t11_wipe
    rw [if_pos (n_t127 I1.2)]
    rfl
  · refine ⟨?_, by rw [n_gp_y ⟨rfl, rfl⟩]; omega, by rw [n_gp_y ⟨rfl, rfl⟩]; omega, fun j j1 j2 => ?_⟩
    · rw [n_gp_y ⟨rfl, rfl⟩]
      exact A.2.2.1
    · rw [n_gp_y ⟨rfl, rfl⟩] at j2
      omega
theorem n_tapeC {h : m_H} {n : Int} (I : n_I h) (l8 : n ≤ m_g h 8 1) (l8b : m_g h 8 1 ≤ 300) (n0 : 0 ≤ n) (l1 : m_g h 119 1 + n ≤ 1000) (sv : n_sv h 8) : ∃ h', t10_tape_c35 1 n 0 h = t10_tape_c35 1 n n h' ∧ n_rw h h' 119 (m_g h 119 1 + n) (fun j => if j < m_g h 119 1 then n_rg h 119 j else n_rg h 8 (j - m_g h 119 1)) := by
  have L := n_len I.1 (n_t119 I.2)
  have base : n_rw h h 119 (m_g h 119 1 + 0) (fun j => if j < m_g h 119 1 then n_rg h 119 j else n_rg h 8 (j - m_g h 119 1)) := by
    refine ⟨n_wf_row I.1 (n_t119 I.2), (n_wf_lt I.1 (n_t119 I.2)).2.2.1, by omega, fun j j1 j2 => ?_, n_ch_rfl I.1 (n_t119 I.2)⟩
    show _ = if j < m_g h 119 1 then n_rg h 119 j else n_rg h 8 (j - m_g h 119 1)
    rw [if_pos (by omega)]
    unfold n_rg
    rw [if_pos (by omega)]
  exact n_itR (fun i h' => t10_tape_c35 1 n i h') (fun i h' => n_rw h h' 119 (m_g h 119 1 + i) (fun j => if j < m_g h 119 1 then n_rg h 119 j else n_rg h 8 (j - m_g h 119 1))) 0 n n0 (fun i h' i1 i2 A => by
    have J := n_I_rw I (n_t119 I.2) A
    have o := n_oth I.1 (n_t119 I.2) A.2.2.2.2 (n_t8 I.2) (by omega)
    have v := sv i
    have e119 := A.2.2.1
    obtain ⟨h2, e2, B⟩ := n_add (x := n_rg h 8 i) J.1 (n_t119 J.2) (by omega) (by omega) (by omega)
    refine ⟨h2, ?_, n_rw_eq (n_rw_trans I.1 (n_t119 I.2) A B) (by omega) (fun j j1 j2 => ?_)⟩
    · show t10_tape_c35 1 n i h' = t10_tape_c35 1 n (i + 1) h2
      rw [t10_tape_c35, m_w_of (by omega) (by omega), m_w_of (by omega) (by omega), if_pos i2, if_pos (n_t1 J.2), n_p1_1 J.2, if_pos (n_t8 J.2), n_get o.1 (by omega) (by omega), n_bs, o.2.2.2.2]
      show (if m_t h' (m_g h' 1 8) = 5 then t5_add (m_g h' 1 8) (n_rg h 8 i) h' >>= _ else none) = _
      rw [n_p1_8 J.2, if_pos (n_t119 J.2), e2, n_bs]
    · show (if j = m_g h' 119 1 then n_cl (n_rg h 8 i) else n_rg h' 119 j) = if j < m_g h 119 1 then n_rg h 119 j else n_rg h 8 (j - m_g h 119 1)
      rw [e119, n_rw_rg A]
      by_cases c : j = m_g h 119 1 + i
      · rw [if_pos c, if_neg (by omega), n_cl_of v.1 v.2]
        congr 1; omega
      · rw [if_neg c, if_pos (by omega)]) h base
theorem n_tapeR {g : m_H} {n : Int} (I : n_I g) (n1 : 1 ≤ n) (n2 : n ≤ m_g g 127 16) (n3 : m_g g 127 16 ≤ 300) (t1 : 0 ≤ m_g g 127 85) (t2 : m_g g 127 85 + n ≤ 1000) : t11_tape 127 n g = some (m_g g 127 85 + n, n_hl (m_p (n_fl g 308 (m_g g 127 85) (m_g g 127 85 + n) (fun x => m_g g 129 (x - m_g g 127 85))) 127 85 (m_g g 127 85 + n)) n) := by
  have key := n_iter (fun i => t11_tape_c30 127 n i (n_fl g 308 (m_g g 127 85) (m_g g 127 85 + i) (fun x => m_g g 129 (x - m_g g 127 85)))) 0 n (by omega) (fun i i1 i2 => by
    have J := n_I_fl (a := 308) (lo := m_g g 127 85) (hi := m_g g 127 85 + i) (f := fun x => m_g g 129 (x - m_g g 127 85)) I (Or.inl (n_t308 I.2))
    have e : ∀ b j, b ≠ 308 → m_g (n_fl g 308 (m_g g 127 85) (m_g g 127 85 + i) (fun x => m_g g 129 (x - m_g g 127 85))) b j = m_g g b j := fun b j q => by rw [n_g_fl, if_neg (fun p => q p.1)]
    have ef : m_p (n_fl g 308 (m_g g 127 85) (m_g g 127 85 + i) (fun x => m_g g 129 (x - m_g g 127 85))) 308 (m_g g 127 85 + i) (m_g g 129 i) = n_fl g 308 (m_g g 127 85) (m_g g 127 85 + (i + 1)) (fun x => m_g g 129 (x - m_g g 127 85)) := by
      rw [n_p_fl (by omega) (by show m_g g 129 i = m_g g 129 (m_g g 127 85 + i - m_g g 127 85); congr 1; omega)]
      congr 1; omega
    have e1 := e 127 85 (by omega)
    have e2 := e 129 i (by omega)
    have l1 := n_l129 J.2
    have l2 := n_l308 J.2
    show t11_tape_c30 127 n i _ = t11_tape_c30 127 n (i + 1) _
    rw [t11_tape_c30, ← ef]
    generalize n_fl g 308 (m_g g 127 85) (m_g g 127 85 + i) (fun x => m_g g 129 (x - m_g g 127 85)) = gi at *
    rw [m_w_of (by omega) (by omega), m_w_of (by omega) (by omega), if_pos i2, if_pos (n_t127 J.2), n_p127_1 J.2, if_pos ⟨n_t129 J.2, by omega, by omega⟩, n_p127_81 J.2, e1, m_w_of (by omega) (by omega), if_pos ⟨n_t308 J.2, by omega, by omega⟩, n_bs, e2])
  have J := n_I_fl (a := 308) (lo := m_g g 127 85) (hi := m_g g 127 85 + n) (f := fun x => m_g g 129 (x - m_g g 127 85)) I (Or.inl (n_t308 I.2))
  have e : ∀ b j, b ≠ 308 → m_g (n_fl g 308 (m_g g 127 85) (m_g g 127 85 + n) (fun x => m_g g 129 (x - m_g g 127 85))) b j = m_g g b j := fun b j q => by rw [n_g_fl, if_neg (fun p => q p.1)]
  have k0 : t11_tape_c30 127 n 0 g = t11_tape_c30 127 n n (n_fl g 308 (m_g g 127 85) (m_g g 127 85 + n) (fun x => m_g g 129 (x - m_g g 127 85))) := by
    have := key
    simp only [n_fl_0 g 308 (m_g g 127 85) (m_g g 127 85 + 0) _ (by omega)] at this
    exact this
  have ei := n_in (a := n) (b := 1) (c := m_g g 127 16) (h := g) (by omega) (by omega) (by omega) (by omega) (by omega) (by omega)
  rw [decide_eq_true ⟨n1, n2⟩] at ei
  have e85 := e 127 85 (by omega)
  have e16 := e 127 16 (by omega)
  unfold t11_tape
  rw [if_pos (n_t127 I.2), m_w_of (by omega) (by omega), m_w_of (by omega) (by omega), ei, n_bs]
  show (if true = true then if m_t g 127 = 11 then if 1000 < m_w (m_g g 127 85 + n) then _ else t11_tape_c30 127 n 0 g else none else _) = _
  rw [if_pos rfl, if_pos (n_t127 I.2), m_w_of (by omega) (by omega), if_neg (by omega), k0]
  generalize n_fl g 308 (m_g g 127 85) (m_g g 127 85 + n) (fun x => m_g g 129 (x - m_g g 127 85)) = g1 at *
  have J1 : n_I (m_p g1 127 85 (m_g g 127 85 + n)) := n_I_p J (by rw [n_t127 J.2]; omega) (fun e => by rw [n_t127 J.2] at e; omega) rfl
  have f16 : m_g (m_p g1 127 85 (m_g g 127 85 + n)) 127 16 = m_g g 127 16 := by rw [n_gp_n (by omega)]; exact e16
  have hl := n_handLoses (n := n) J1 (by omega) (by omega) (by omega)
  have J2 := n_kr_I J1 (n_hl_kr _ n) (n_in1 (Or.inl (n_t129 J1.2))) rfl
  have f85 : m_g (n_hl (m_p g1 127 85 (m_g g 127 85 + n)) n) 127 85 = m_g g 127 85 + n := by
    unfold n_hl
    rw [n_gp_n (by omega), n_g_fl, if_neg (by omega), n_gp_y ⟨rfl, rfl⟩]
  rw [t11_tape_c30, if_neg (by omega), if_pos (n_t127 J.2), e85, n_bs, if_pos (n_t127 J1.2), hl, n_bs]
  show (if m_t (n_hl (m_p g1 127 85 (m_g g 127 85 + n)) n) 127 = 11 then _ else none) = _
  rw [if_pos (n_t127 J2.2), f85]
theorem n_s_tape {h : m_H} {k : Int} (X : n_R h k) (n : Int) (i1 : -2147483648 ≤ n) (i2 : n < 2147483648) : n_step h k (t10_tape 1 n) (t11_tape 127 n) := by
  have X' := X
  obtain ⟨I, gs, bud, x1, x2, x3, x4, x5, x6, x7⟩ := X'
  have t1 := n_t1 I.2
  have t8 := n_t8 I.2
  have t119 := n_t119 I.2
  have xh := x1
  obtain ⟨y1, y2, y3, y4⟩ := xh
  have xt := x2
  obtain ⟨z1, z2, z3, z4⟩ := xt
  unfold n_step
  by_cases c : 1 ≤ n ∧ n ≤ m_g h 127 16 ∧ m_g h 127 85 + n ≤ 1000
  · have sv : n_sv h 8 := fun j => by
      by_cases q : 0 ≤ j ∧ j < m_g h 127 16
      · have := y4 j q.1 q.2; omega
      · unfold n_rg; rw [if_neg (by omega)]; omega
    obtain ⟨h1, e1, A1⟩ := n_tapeC (n := n) I (by omega) (by omega) (by omega) (by omega) sv
    have I1 := n_I_rw I t119 A1
    have o := n_oth I.1 t119 A1.2.2.2.2 t8 (by omega)
    obtain ⟨h2, e2, A2⟩ := n_dropFirst (n := n) I1.1 (n_t8 I1.2) (by omega) (by rw [o.2.2.1]; omega) (by rw [o.2.2.1]; omega) (fun j => by rw [o.2.2.2.2]; exact sv j)
    have I2 := n_I_rw I1 (n_t8 I1.2) A2
    have o2 := n_oth I1.1 (n_t8 I1.2) A2.2.2.2.2 (n_t119 I1.2) (by omega)
    have I3 : n_I (m_p h2 121 11 (-1)) := n_I_p I2 (by rw [n_t121 I2.2]; omega) (fun e => by rw [n_t121 I2.2] at e; omega) rfl
    have KP : n_kp h (m_p h2 121 11 (-1)) [121] [119, 8] := n_kp_trans (n_kp_trans (n_kp_rw I.1 t119 A1) (n_kp_rw I1.1 (n_t8 I1.2) A2) I.1 (n_in1 (Or.inl t8))) (n_kp_p (by rw [n_t121 I2.2]; omega)) I.1 n_no
    have hR1 : ∀ r ∈ [(119 : Int), 8], m_t h r = 5 := n_in2 t119 t8
    have ref := fun b j (b1 : 127 ≤ b) (b2 : b < 312) => n_kp_ref I KP (n_in1 (by omega)) hR1 b1 b2 j
    have q3 : ∀ r, m_t h2 r = 5 → ∀ j, m_g (m_p h2 121 11 (-1)) r j = m_g h2 r j := fun r hr j => n_gp_n (fun p => by rw [p.1, n_t121 I2.2] at hr; omega)
    have rg3 : ∀ r, m_t h2 r = 5 → ∀ j, n_rg (m_p h2 121 11 (-1)) r j = n_rg h2 r j := fun r hr j => by
      have k20 := (n_wf_row I2.1 hr).2.1
      unfold n_rg
      rw [q3 r hr, q3 r hr, n_gp_n (fun p => by rw [p.1, n_t121 I2.2] at k20; omega)]
    have r16 := ref 127 16 (by omega) (by omega)
    have r85 := ref 127 85 (by omega) (by omega)
    have r129 := fun j => ref 129 j (by omega) (by omega)
    have r308 := fun j => ref 308 j (by omega) (by omega)
    have eR := n_tapeR (n := n) I3 c.1 (by omega) (by omega) (by omega) (by omega)
    have Bu : n_bud (m_p h2 121 11 (-1)) (k + 1) := n_bud_same I2 rfl (fun r hr => q3 r hr 0) (n_bud_rw I1 (by decide) A2 (n_bud_rw I (by decide) A1 (n_bud_more bud)))
    have sf121 := n_sfa I (a := 121) (by omega) (by rw [n_t121 I.2]; omega) (Or.inl (by rw [n_t121 I.2]; omega))
    have sf121' := n_sfa I1 (a := 121) (by omega) (by rw [n_t121 I1.2]; omega) (Or.inl (by rw [n_t121 I1.2]; omega))
    have c121 : m_g (m_p h2 121 11 (-1)) 121 12 = m_g h 121 12 := by rw [n_gp_n (by omega), n_rw_cell I1 (n_t8 I1.2) A2 sf121', n_rw_cell I t119 A1 sf121]
    have h8 : m_g (m_p h2 121 11 (-1)) 8 1 = m_g h 127 16 - n := by rw [q3 8 (n_t8 I2.2), A2.2.2.1, o.2.2.1, y1]
    have g8 : ∀ j, 0 ≤ j → j < m_g h 127 16 - n → n_rg (m_p h2 121 11 (-1)) 8 j = m_g h 129 (j + n) := fun j j1 j2 => by
      rw [rg3 8 (n_t8 I2.2), n_rw_rg A2, o.2.2.1, if_pos (by omega), o.2.2.2.2]
      exact (y4 (j + n) (by omega) (by omega)).1
    have h119 : m_g (m_p h2 121 11 (-1)) 119 1 = m_g h 127 85 + n := by rw [q3 119 (n_t119 I2.2), o2.2.2.1, A1.2.2.1, z1]
    have g119 : ∀ j, 0 ≤ j → j < m_g h 127 85 + n → n_rg (m_p h2 121 11 (-1)) 119 j = if j < m_g h 127 85 then m_g h 308 j else m_g h 129 (j - m_g h 127 85) := fun j j1 j2 => by
      rw [rg3 119 (n_t119 I2.2), o2.2.2.2.2, n_rw_rg A1, if_pos (by omega), z1]
      by_cases q : j < m_g h 127 85
      · rw [if_pos q, if_pos q]; exact (z4 j j1 q).1
      · rw [if_neg q, if_neg q]; exact (y4 _ (by omega) (by omega)).1
    have tM3 := n_t119 I3.2
    have t31 := n_t1 I3.2
    have p38 := n_p1_8 I3.2
    have e11 : m_g (m_p h2 121 11 (-1)) 121 11 = -1 := n_gp_y ⟨rfl, rfl⟩
    have comp : t10_tape 1 n h = some (m_g (m_p h2 121 11 (-1)) 119 1, m_p h2 121 11 (-1)) := by
      unfold t10_tape
      rw [m_w_of i1 i2, if_neg (by omega), if_pos t1, n_p1_1 I.2, if_pos t8, n_size t8, n_bs]
      show (if m_w (m_g h 8 1) < n then _ else if m_t h 1 = 10 then if m_t h (m_g h 1 8) = 5 then t5_size (m_g h 1 8) h >>= _ else none else none) = _
      rw [m_w_of (by omega) (by omega), if_neg (by omega), if_pos t1, n_p1_8 I.2, if_pos t119, n_size t119, n_bs]
      show (if 1000 < m_w (m_g h 119 1 + n) then _ else t10_tape_c35 1 n 0 h) = _
      rw [m_w_of (by omega) (by omega), if_neg (by omega), e1, t10_tape_c35, if_neg (by omega), if_pos (n_t1 I1.2), n_p1_1 I1.2, if_pos (n_t8 I1.2), e2, n_bs]
      show (if m_t h2 1 = 10 then if m_t h2 (m_g h2 1 9) = 1 then t1_forget (m_g h2 1 9) h2 >>= _ else none else none) = _
      have ef : t1_forget 121 h2 = some ((), m_p h2 121 11 (-1)) := by
        unfold t1_forget
        rw [if_pos (n_t121 I2.2), n_bs]
      rw [if_pos (n_t1 I2.2), n_p1_9 I2.2, if_pos (n_t121 I2.2), ef, n_bs]
      show (if m_t (m_p h2 121 11 (-1)) 1 = 10 then if m_t (m_p h2 121 11 (-1)) (m_g (m_p h2 121 11 (-1)) 1 8) = 5 then t5_size (m_g (m_p h2 121 11 (-1)) 1 8) (m_p h2 121 11 (-1)) >>= _ else none else none) = _
      rw [if_pos t31, p38, if_pos tM3, n_size tM3, n_bs]
    clear e1 e2 A1 A2 o o2 q3 rg3
    generalize m_p h2 121 11 (-1) = ha at *
    have G : n_kr ha (n_hl (m_p (n_fl ha 308 (m_g ha 127 85) (m_g ha 127 85 + n) (fun x => m_g ha 129 (x - m_g ha 127 85))) 127 85 (m_g ha 127 85 + n)) n) [308, 129] [85, 16] := n_kr_trans (n_kr_trans (n_kr_fl (by omega) (by omega)) n_kr_f) (n_hl_kr _ n)
    have v85 : m_g (n_hl (m_p (n_fl ha 308 (m_g ha 127 85) (m_g ha 127 85 + n) (fun x => m_g ha 129 (x - m_g ha 127 85))) 127 85 (m_g ha 127 85 + n)) n) 127 85 = m_g ha 127 85 + n := by
      unfold n_hl
      rw [n_gp_n (by omega), n_g_fl, if_neg (by omega), n_gp_y ⟨rfl, rfl⟩]
    have v16 : m_g (n_hl (m_p (n_fl ha 308 (m_g ha 127 85) (m_g ha 127 85 + n) (fun x => m_g ha 129 (x - m_g ha 127 85))) 127 85 (m_g ha 127 85 + n)) n) 127 16 = m_g ha 127 16 - n := by
      unfold n_hl
      rw [n_gp_y ⟨rfl, rfl⟩, n_gp_n (by omega), n_g_fl, if_neg (by omega)]
    have v129 : ∀ j, 0 ≤ j → j < m_g ha 127 16 - n → m_g (n_hl (m_p (n_fl ha 308 (m_g ha 127 85) (m_g ha 127 85 + n) (fun x => m_g ha 129 (x - m_g ha 127 85))) 127 85 (m_g ha 127 85 + n)) n) 129 j = m_g ha 129 (j + n) := fun j j1 j2 => by
      have f16 : m_g (m_p (n_fl ha 308 (m_g ha 127 85) (m_g ha 127 85 + n) (fun x => m_g ha 129 (x - m_g ha 127 85))) 127 85 (m_g ha 127 85 + n)) 127 16 = m_g ha 127 16 := by rw [n_gp_n (by omega), n_g_fl, if_neg (by omega)]
      unfold n_hl
      rw [n_gp_n (by omega), n_g_fl, f16, if_pos ⟨rfl, j1, j2⟩, n_gp_n (by omega), n_g_fl, if_neg (by omega)]
    have v308 : ∀ j, m_g (n_hl (m_p (n_fl ha 308 (m_g ha 127 85) (m_g ha 127 85 + n) (fun x => m_g ha 129 (x - m_g ha 127 85))) 127 85 (m_g ha 127 85 + n)) n) 308 j = if m_g ha 127 85 ≤ j ∧ j < m_g ha 127 85 + n then m_g ha 129 (j - m_g ha 127 85) else m_g ha 308 j := fun j => by
      unfold n_hl
      rw [n_gp_n (by omega), n_g_fl, if_neg (by omega), n_gp_n (by omega), n_g_fl]
      by_cases q : m_g ha 127 85 ≤ j ∧ j < m_g ha 127 85 + n
      · rw [if_pos ⟨rfl, q⟩, if_pos q]
      · rw [if_neg (fun p => q p.2), if_neg q]
    generalize n_hl (m_p (n_fl ha 308 (m_g ha 127 85) (m_g ha 127 85 + n) (fun x => m_g ha 129 (x - m_g ha 127 85))) 127 85 (m_g ha 127 85 + n)) n = hb at *
    have T : n_Rtape ha hb := by
      refine ⟨by omega, by omega, by omega, fun j j1 j2 => ?_⟩
      rw [g119 j j1 (by omega), v308, r129, r308]
      by_cases q : j < m_g h 127 85
      · rw [if_pos q, if_neg (by omega)]
        exact ⟨rfl, (z4 j j1 q).2⟩
      · rw [if_neg q, if_pos (by omega), r85]
        exact ⟨rfl, (y4 _ (by omega) (by omega)).2⟩
    have H : n_Rhand ha hb := by
      refine ⟨by omega, by omega, by omega, fun j j1 j2 => ?_⟩
      rw [g8 j j1 (by omega), v129 j j1 (by omega), r129]
      exact ⟨rfl, (y4 _ (by omega) (by omega)).2⟩
    exact ⟨m_g ha 119 1, ha, m_g ha 127 85 + n, hb, comp, eR, by rw [h119, r85], n_finT X KP G (by simp) (by simp) (by simp) (by simp) I3 Bu T H e11 c121⟩
  · refine ⟨-1, h, -1, h, ?_, ?_, rfl, n_R_more X⟩
    · unfold t10_tape
      by_cases d1 : n < 1
      · rw [m_w_of i1 i2, if_pos d1]
      · rw [m_w_of i1 i2, if_neg d1, if_pos t1, n_p1_1 I.2, if_pos t8, n_size t8, n_bs]
        show (if m_w (m_g h 8 1) < n then _ else if m_t h 1 = 10 then if m_t h (m_g h 1 8) = 5 then t5_size (m_g h 1 8) h >>= _ else none else none) = _
        rw [m_w_of (by omega) (by omega)]
        by_cases d2 : m_g h 8 1 < n
        · rw [if_pos d2]
        · rw [if_neg d2, if_pos t1, n_p1_8 I.2, if_pos t119, n_size t119, n_bs]
          show (if 1000 < m_w (m_g h 119 1 + n) then _ else _) = _
          rw [m_w_of (by omega) (by omega), if_pos (by omega)]
    · have ei := n_in (a := n) (b := 1) (c := m_g h 127 16) (h := h) (by omega) (by omega) (by omega) (by omega) (by omega) (by omega)
      unfold t11_tape
      rw [if_pos (n_t127 I.2), m_w_of (by omega) (by omega), m_w_of (by omega) (by omega), ei, n_bs]
      by_cases d : 1 ≤ n ∧ n ≤ m_g h 127 16
      · rw [decide_eq_true d]
        show (if true = true then if m_t h 127 = 11 then if 1000 < m_w (m_g h 127 85 + n) then _ else _ else none else _) = _
        rw [if_pos rfl, if_pos (n_t127 I.2), m_w_of (by omega) (by omega), if_pos (by omega)]
      · rw [decide_eq_false d]
        rfl
