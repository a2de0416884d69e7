/-! CALLS: make -/
theorem n_lk_bg {g g' : m_H} (K : n_lk g g') {k : Int} (k0 : 0 ≤ k) (k1 : k < 8) (o j : Int) : n_bg g' k o j = n_bg g k o j := by
  unfold n_bg
  rw [K.1 (183 + k) o (by omega), K.1 (223 + k) o (by omega)]
theorem n_lk_tm {g g' : m_H} (K : n_lk g g') {k : Int} (k0 : 0 ≤ k) (k1 : k < 8) (o : Int) : n_tm g' k o = n_tm g k o := by
  unfold n_tm
  rw [K.1 (153 + k) o (by omega), K.1 (213 + k) o (by omega)]
theorem n_lk_sO {g g' : m_H} (K : n_lk g g') {k : Int} (k0 : 0 ≤ k) (k1 : k < 8) (d o : Int) : ∀ n : Nat, n_sO g' k d o n = n_sO g k d o n
  | 0 => rfl
  | n + 1 => by
    funext t
    rw [n_sO_s, n_sO_s, n_lk_sO K k0 k1 d o n, n_lk_bg K k0 k1, n_lk_L K k0 k1, n_lk_S K k0 k1, K.1 (163 + k) o (by omega)]
theorem n_lk_sT {g g' : m_H} (K : n_lk g g') {k : Int} (k0 : 0 ≤ k) (k1 : k < 8) (d : Int) : ∀ n : Nat, n_sT g' k d n = n_sT g k d n
  | 0 => rfl
  | n + 1 => by
    funext t
    rw [n_sT_s, n_sT_s, n_lk_sT K k0 k1 d n, n_lk_sO K k0 k1, n_lk_tm K k0 k1]
theorem n_lk_eT {g g' : m_H} (K : n_lk g g') {k : Int} (k0 : 0 ≤ k) (k1 : k < 8) (d : Int) : ∀ n : Nat, n_eT g' k d n = n_eT g k d n
  | 0 => rfl
  | n + 1 => by
    rw [n_eT_s, n_eT_s, n_lk_eT K k0 k1 d n, n_lk_bg K k0 k1, n_lk_tm K k0 k1, n_lk_L K k0 k1, K.1 (153 + k) _ (by omega), K.1 (163 + k) _ (by omega)]
/-- the reference's arrays and fields that a made score changes -/
def n_mTc (k : Int) : List Int := n_rTc ++ [285, 286, 287, 288, 289, 290, 291, 292, 294 + k]
theorem n_mTc_m {k b : Int} : b ∈ n_mTc k ↔ ((b = 149 ∨ (238 ≤ b ∧ b ≤ 284)) ∨ (285 ≤ b ∧ b ≤ 292) ∨ b = 294 + k) := by
  unfold n_mTc
  rw [List.mem_append, n_rTc_m]
  simp only [List.mem_cons, List.not_mem_nil, or_false]
  omega
theorem n_mTf_m {j : Int} : j ∈ [(58 : Int), 59, 60, 61, 62] ↔ 58 ≤ j ∧ j ≤ 62 := by
  simp only [List.mem_cons, List.not_mem_nil, or_false]
  omega
theorem n_s_make_y {h : m_H} {k s d : Int} (X : n_R h k) (c : 0 ≤ s ∧ s < m_g h 127 43) (c2 : 0 ≤ d ∧ d ≤ m_g h 127 18) {hh : m_H} (F : n_cF h hh k) (st : n_stD h s d (m_g h 151 s)) (D : n_cP h hh s d (m_g h 151 s) (m_g h 151 s)) (R1 : n_R hh (k + 1)) (ref : ∀ b j, 127 ≤ b → b < 312 → m_g hh b j = m_g h b j) : ∃ x1 x5 z e, t3_noteLeads 20 (m_g h 19 s) hh = some ((), x1) ∧ t2_layAll 106 (m_g h 19 s) s 20 x1 = some ((), x5) ∧ m_t x5 107 = 5 ∧ m_g x5 107 1 = e ∧ n_I x1 ∧ n_I x5 ∧ t11_make 127 s d x5 = some (e, z) ∧ n_R z (k + 1) := by
  have X' := X
  obtain ⟨I, gs, bud, x1, x2, x3, x4, x5, x6, x7⟩ := X'
  have s3 := x5.2.2.1
  have k8 : s < 8 := by omega
  have C := n_scc_of x5 c.1 c.2
  have C3 := C.2.2.1
  have J := R1.1
  have SP := n_cF_P X F
  have K := n_lk_of ref
  have e151 := ref 151 s (by omega) (by omega)
  have e43 := ref 127 43 (by omega) (by omega)
  have e19h : ∀ j, m_g hh 19 j = m_g h 19 j := (n_sp_cell SP (n_sfa I (a := 19) (by omega) (by rw [n_t19 I.2]; omega) (Or.inl (by rw [n_t19 I.2]; omega))) (by omega) (by decide)).1
  have C' : n_scc hh hh s (m_g h 19 s) := by
    rw [← e19h]
    exact n_scc_of R1.2.2.2.2.2.2.2.1 c.1 (by rw [e43]; exact c.2)
  generalize ea : m_g h 19 s = a at *
  have st' : n_stD hh s d (m_g hh 151 s) := by rw [e151]; exact (n_lk_st K c.1 k8).mpr st
  have eL := n_lk_L K c.1 k8 d
  have eS := n_lk_S K c.1 k8 d
  obtain ⟨y1, y2, y5, f1, f2, MF, A, B5⟩ := n_makeC J R1.2.1 F.2.2 C' st' (fun o o0 o1 => (D.2 o o0 (by omega)).trans (n_lk_sOf K c.1 k8 o d).symm) (fun o o0 o1 ov => by
    rw [eL, eS]
    exact D.1 o o0 (by omega) (by rw [← ref (153 + s) o (by omega) (by omega)]; exact ov))
  obtain ⟨J2, m2, me, ma2, mb3, m62, m63, m11⟩ := MF
  have t5 := n_t107 J2.2
  have J5 := n_I_rw J2 t5 A
  obtain ⟨a1, a2, a3, a4, a5⟩ := C'.1.1
  have Wa := J.1.2.2.2.2 a a1
  have n3 : m_g hh a 3 ≠ a := fun q => by rw [q] at Wa; omega
  have r107 := n_ref_row J2 t5
  -- the reference's part is the same
  have rX : ∀ b j, 127 ≤ b → b < 312 → m_g y5 b j = m_g hh b j := fun b j h1 h2 => by
    have hb : b < m_n y2 := by have := J2.1.2.1; omega
    rw [A.2.2.2.2.2.1 b hb (by omega) (fun q => by have := r107.2; omega) j]
    exact me b j (by omega) (by omega) (by omega) (by omega) (by omega)
  have KA : n_kp hh y2 [a, m_g hh a 3, 106, 112, 113] [] := by
    refine ⟨fun b _ => ⟨n_e2t m2 b, n_e2l m2 b⟩, by rw [n_e2n m2]; exact Int.le_refl _, fun b _ q _ _ j => ?_, fun r hr => Or.inl ?_⟩
    · simp only [List.mem_cons, List.not_mem_nil, or_false] at q
      exact me b j (by omega) (by omega) (by omega) (by omega) (by omega)
    · have q2 := n_t106 J.2
      have q3 := n_t112 J.2
      have q4 := n_t113 J.2
      exact me r 0 (by omega) (fun w => by rw [w] at hr; omega) (by omega) (fun w => by rw [w] at hr; omega) (fun w => by rw [w] at hr; omega)
  have KB := n_kp_trans KA (n_kp_rw J2.1 t5 A) J.1 (fun r hr => Or.inl (by rw [List.mem_singleton.mp hr]; exact n_t107 J.2))
  have KC := n_kp_trans F.2.1 KB I.1 (fun r hr => Or.inl (by
    have : r = 107 := by simpa using hr
    rw [this]
    exact n_t107 I.2))
  simp only [List.append_nil, List.nil_append] at KC
  have ah : ∀ j, m_g hh a j = m_g h a j := fun j => by
    have a1' := C.1.1.1
    exact (n_sp_cell SP (b := a) ⟨(I.1.1 a (by omega)).2, by omega, fun r hr e => by have := (n_wf_row I.1 hr).2.1; rw [e] at this; omega⟩ (by omega) (by simp; omega)).1 j
  have Wh := I.1.2.2.2.2 a C.1.1.1
  have sfa : n_sf h a := ⟨(I.1.1 a (by have := C.1.1.1; omega)).2, by have := C.1.1.1; omega, fun r hr e => by have := (n_wf_row I.1 hr).2.1; have := C.1.1.1; rw [e] at *; omega⟩
  have sfb : n_sf h (m_g h a 3) := ⟨(I.1.1 _ (by omega)).2, by omega, fun r hr => (Wh.2.2.2.2 r hr).2⟩
  have k106 := n_t106 I.2
  have k112 := n_t112 I.2
  have k113 := n_t113 I.2
  have k24 := n_t24 I.2
  have cA : ∀ b ∈ [24] ++ [a, m_g hh a 3, 106, 112, 113], b = 24 ∨ b = a ∨ b = m_g h a 3 ∨ b = 106 ∨ b = 112 ∨ b = 113 := fun b hb => by
    rw [ah] at hb
    simpa using hb
  have hA : ∀ b ∈ [24] ++ [a, m_g hh a 3, 106, 112, 113], n_sf h b ∧ (b < 127 ∨ 312 ≤ b) := fun b hb => by
    have h312 : 312 ≤ m_g h a 3 := C.1.1.2.2.2.1
    rcases cA b hb with q | q | q | q | q | q <;> rw [q]
    · exact ⟨n_sfa I (by omega) (by omega) (Or.inr (by rw [n_l24 I.2]; omega)), by omega⟩
    · exact ⟨sfa, by omega⟩
    · exact ⟨sfb, by omega⟩
    · exact ⟨n_sfa I (by omega) (by omega) (Or.inl (by omega)), by omega⟩
    · exact ⟨n_sfa I (by omega) (by omega) (Or.inr (by rw [n_l112 I.2]; omega)), by omega⟩
    · exact ⟨n_sfa I (by omega) (by omega) (Or.inr (by rw [n_l113 I.2]; omega)), by omega⟩
  have hR : ∀ r ∈ n_prows ++ [107], m_t h r = 5 := fun r hr => by
    rcases List.mem_append.mp hr with q | q
    · exact n_prows_t I.2 q
    · rw [List.mem_singleton.mp q]; exact n_t107 I.2
  have nos0 : n_nos [] [] := by unfold n_nos; simp
  have P5 : n_sp h y5 ([24] ++ [a, m_g hh a 3, 106, 112, 113]) (n_prows ++ [107]) [] [] := n_sp_of I KC n_kr_rfl hA hR
  have G5 : n_gs y5 := n_gs_sp P5 nos0 gs
  have rH : ∀ b j, 127 ≤ b → b < 312 → m_g y5 b j = m_g h b j := fun b j h1 h2 => (rX b j h1 h2).trans (ref b j h1 h2)
  have K5 := n_lk_of rX
  obtain ⟨z, f3, MZ⟩ := n_makeR (d := d) J5 G5 (n_scc_g C' (fun b j h1 h2 => rX b j (by omega) h2)) (by rw [rH 127 43 (by omega) (by omega)]; exact c.2) (by rw [rH 127 43 (by omega) (by omega)]; exact s3) c2.1 (by rw [rH 127 18 (by omega) (by omega)]; exact c2.2) (by rw [rX 151 s (by omega) (by omega)]; exact (n_lk_st K5 c.1 k8).mpr st')
  have eO := n_off_e (g := hh) (g' := y5) (k := s) (fun b j h1 h2 => rX b j (by omega) (by omega)) c.1 k8
  unfold n_mkZ at MZ
  rw [rX 151 s (by omega) (by omega), n_lk_eT K5 c.1 k8, n_lk_sT K5 c.1 k8, n_lk_L K5 c.1 k8, eO] at MZ
  rw [rX 151 s (by omega) (by omega), n_lk_eT K5 c.1 k8] at f3
  simp only [eO, n_lk_sOf K5 c.1 k8, n_lk_tm K5 c.1 k8, n_lk_bg K5 c.1 k8] at MZ
  obtain ⟨Jz, z2, ze, ⟨z60, z61, z62, z292⟩, z285, zo, zl⟩ := MZ
  have KR : n_kr y5 z (n_mTc s) [58, 59, 60, 61, 62] := ⟨z2, fun b hb => by have := n_mTc_m.mp hb; omega, fun b j h1 h2 => by
    rw [n_mTc_m] at h1
    rw [n_mTf_m] at h2
    exact ze b j (by omega) (by omega) (by omega) (by omega)⟩
  have P : n_sp h z ([24] ++ [a, m_g hh a 3, 106, 112, 113]) (n_prows ++ [107]) (n_mTc s) [58, 59, 60, 61, 62] := n_sp_of I KC KR hA hR
  have Bz : n_bud z (k + 1) := n_bud_same J5 z2 (fun r hr => n_kr_comp KR (n_ref_row J5 hr).1 0) (n_bud_more B5)
  have nos : n_nos (n_mTc s) [58, 59, 60, 61, 62] := by
    unfold n_nos
    exact ⟨fun b hb => by have := n_mTc_m.mp hb; omega, fun b hb => by have := n_mTf_m.mp hb; omega⟩
  have nT : ∀ b, (b ≤ 150 ∧ b ≠ 149 ∨ 302 ≤ b) → b ∉ n_mTc s := fun b hb q => by have := n_mTc_m.mp q; omega
  have nF : ∀ j, j < 58 ∨ 62 < j → j ∉ [(58 : Int), 59, 60, 61, 62] := fun j hj q => by have := n_mTf_m.mp q; omega
  have nA : ∀ b, b < 312 → b ≠ 24 → b ≠ 106 → b ≠ 112 → b ≠ 113 → b ∉ [24] ++ [a, m_g hh a 3, 106, 112, 113] := fun b h1 h2 h3 h4 h5 q => by
    have h312 : 312 ≤ m_g h a 3 := C.1.1.2.2.2.1
    have := cA b q
    omega
  have nR : ∀ b, (b < 26 ∨ 107 < b) → b ∉ n_prows ++ [107] := fun b hb q => by
    rcases List.mem_append.mp q with w | w
    · have R : n_prows.all (fun b => decide (26 ≤ b ∧ b ≤ 104)) = true := by decide +kernel
      rw [List.all_eq_true] at R
      have := of_decide_eq_true (R b w)
      omega
    · have := List.mem_singleton.mp w
      omega
  obtain ⟨g0, g1, g2', g3, g4, g5, g6, g7⟩ := n_fr X P
  have e2 := (n_sp_cell P (n_sf2 I) (by omega) (nA 2 (by omega) (by omega) (by omega) (by omega) (by omega))).1
  have az : ∀ j, j ≠ 2 → m_g z a j = m_g h a j := fun j hj => by
    have sa2 : n_sf y2 a := by
      have a1' : m_t y2 a = 6 := by rw [n_e2t m2]; exact a1
      exact ⟨(J2.1.1 a (by omega)).2, by omega, fun r hr e => by have := (n_wf_row J2.1 hr).2.1; rw [e] at this; omega⟩
    rw [n_kr_comp KR (Or.inr a2) j, n_rw_cell J2 t5 A sa2 j, me a j (by omega) (fun q => n3 q.symm) (by omega) (by omega) (by omega)]
    exact ah j
  have h312 : 312 ≤ m_g h a 3 := C.1.1.2.2.2.1
  have ah3 := ah 3
  have sa2 : m_t y2 a = 6 := by rw [n_e2t m2]; exact a1
  have y2a3 : m_g y2 a 3 = m_g hh a 3 := me a 3 (by omega) (fun q => n3 q.symm) (by omega) (by omega) (by omega)
  have W2 := J2.1.2.2.2.2 a sa2
  have s106 : n_sf y2 106 := n_sfa J2 (by omega) (by rw [n_t106 J2.2]; omega) (Or.inl (by rw [n_t106 J2.2]; omega))
  have s112 : n_sf y2 112 := n_sfa J2 (by omega) (by rw [n_t112 J2.2]; omega) (Or.inr (by rw [n_l112 J2.2]; omega))
  have s113 : n_sf y2 113 := n_sfa J2 (by omega) (by rw [n_t113 J2.2]; omega) (Or.inr (by rw [n_l113 J2.2]; omega))
  have sa : n_sf y2 a := ⟨(J2.1.1 a (by omega)).2, by omega, fun r hr e => by have := (n_wf_row J2.1 hr).2.1; rw [e] at this; omega⟩
  have sb3 : n_sf y2 (m_g hh a 3) := by
    rw [← y2a3]
    exact ⟨(J2.1.1 _ (by omega)).2, by omega, fun r hr => (W2.2.2.2.2 r hr).2⟩
  have cz : ∀ b j, (b < 127 ∨ 312 ≤ b) → n_sf y2 b → m_g z b j = m_g y2 b j := fun b j hb hs => (n_kr_comp KR hb j).trans (n_rw_cell J2 t5 A hs j)
  have so := fun o => n_sOf_b (g := hh) (k := s) (o := o) (d := d) (by have B := R1.2.1.1; unfold n_shB at B; omega)
  have so1 : ∀ o, -1 ≤ n_sOf hh s o d ∧ n_sOf hh s o d < 100 := fun o => by
    have B := R1.2.1.1
    unfold n_shB at B
    have := so o
    omega
  have zH : ∀ b j, 151 ≤ b → b ≤ 231 → m_g z b j = m_g h b j := fun b j h1 h2 => (ze b j (by omega) (by omega) (by omega) (by omega)).trans (rH b j (by omega) (by omega))
  have zHH : ∀ b j, (127 < b ∧ b ≤ 148) ∨ (151 ≤ b ∧ b ≤ 231) → m_g z b j = m_g hh b j := fun b j hb => (ze b j (by omega) (by omega) (by omega) (by omega)).trans (rX b j (by omega) (by omega))
  have z43 : m_g z 127 43 = m_g h 127 43 := (ze 127 43 (by omega) (by omega) (by omega) (by omega)).trans (rH 127 43 (by omega) (by omega))
  have z19 : m_g z 19 s = a := ((n_sp_cell P (n_sfa I (a := 19) (by omega) (by rw [n_t19 I.2]; omega) (Or.inl (by rw [n_t19 I.2]; omega))) (by omega) (nA 19 (by omega) (by omega) (by omega) (by omega) (by omega))).1 s).trans ea
  have Sc : n_Rsc z z := n_mkSc (z := z) (k := s) (a := a) I x5 c.1 c.2 ea (fun b j hb hs h1 h2 h3 h4 h5 h6 => (n_sp_cell P hs hb (fun q => by have := cA b q; omega)).1 j) (fun b hb => P.1.1 b hb) az ((cz a 2 (by omega) sa).trans ma2) z43 zH z292 (fun q hq => (ze 292 q (by omega) (by omega) (by omega) (by omega)).trans (rH 292 q (by omega) (by omega))) (fun q o q0 q1 hq => (ze (294 + q) o (by omega) (by omega) (by omega) (by omega)).trans (rH (294 + q) o (by omega) (by omega))) (fun o o0 o1 => by
    rw [← ah3, cz _ o (by omega) sb3, mb3 o o0 (by omega), (zo o o0 (by omega)).2.1]
    exact ⟨rfl, so1 o⟩)
  have eb := n_eT_b (g := hh) (k := s) (d := d) (N := (m_g hh 151 s).toNat) (fun z z0 z1 => n_scc_b C' z0 (by omega)) (fun z z0 z1 => st' z z0 (by omega)) _ (Nat.le_refl _)
  have ok : ∀ o : Int, 0 ≤ o → o < m_g hh 151 s → m_g hh (153 + s) o ≠ 12 → n_okO hh s d o := fun o o0 o1 ov => n_okAll R1.2.1 (N := m_g hh 151 s) (fun z z0 z1 => n_scc_b C' z0 z1) (m_g hh 151 s).toNat (by omega) (fun z z0 z1 => st' z z0 (by omega)) o o0 (by omega) ov
  have z151 : m_g z 151 s = m_g hh 151 s := zHH 151 s (by omega)
  have en := A.2.2.1
  have Pc : n_Rpc z z := by
    refine ⟨by rw [cz 106 3 (by omega) s106, m63, z60], by omega, by rw [z60, z43]; exact c.2, fun q => by omega, fun _ => ?_⟩
    rw [z60]
    refine ⟨by rw [cz 106 2 (by omega) s106, m62, z19], ?_, by rw [z61]; exact eb.1, by rw [z61]; exact eb.2, fun j j0 j1 => ?_, fun o o0 o1 => ?_, ?_, fun o j o0 o1 v j0 j1 => ?_, fun o o0 o1 => ?_⟩
    · rw [n_kr_comp KR (by omega) 1, en, z61]
    · rw [z61] at j1
      rw [n_kr_rg J5 KR (n_t107 J5.2), n_rw_rg A, if_pos ⟨j0, j1⟩, z285 j j0 j1]
      exact ⟨rfl, n_cl_lo _, n_cl_hi _⟩
    · rw [z151] at o1
      obtain ⟨w1, w2⟩ := m11 o o0 o1
      obtain ⟨w3, w4, w5⟩ := zo o o0 o1
      rw [zHH (153 + s) o (by omega), cz 113 o (by omega) s113, w1, w3, cz 112 o (by omega) s112, w2]
      unfold n_lz
      refine ⟨rfl, (so1 o).1, (so1 o).2, fun ov => ?_, fun ov => ?_⟩
      · have := ok o o0 o1 ov
        rw [rX (153 + s) o (by omega) (by omega)] at w5
        rw [if_neg ov, w5 ov]
        exact ⟨rfl, this.1, this.2.1⟩
      · have y := (n_putB (n_scc_b C' o0 o1) ov).1
        have w6 := (zo (m_g hh (163 + s) o) y.1 (by omega)).2.2
        rw [rX (153 + s) _ (by omega) (by omega)] at w6
        rw [if_pos ov, zHH (163 + s) o (by omega), w6 y.2.2]
    · rw [z62, z151]
      exact (n_off_e (g := hh) (g' := z) (k := s) (fun b j h1 h2 => zHH b j (by omega)) c.1 k8 _).symm
    · rw [z151] at o1
      rw [zHH (153 + s) o (by omega)] at v
      rw [zHH (213 + s) o (by omega)] at j1
      have y := (n_putB (n_scc_b C' o0 o1) v).1
      have tm : n_tm hh s o = m_g hh (213 + s) o := by unfold n_tm; rw [if_pos v]
      obtain ⟨p1, p2, p3, p4⟩ := zl o j o0 o1 j0 (by omega)
      have w6 := (zo (m_g hh (163 + s) o) y.1 (by omega)).2.2
      rw [rX (153 + s) _ (by omega) (by omega)] at w6
      rw [n_off_e (g := hh) (g' := z) (k := s) (fun b j h1 h2 => zHH b j (by omega)) c.1 k8, p1, p2, p3, p4, zHH (193 + s) o (by omega), zHH (183 + s) o (by omega), zHH (223 + s) o (by omega), zHH (163 + s) o (by omega), w6 y.2.2, rX (193 + s) o (by omega) (by omega), rX (163 + s) o (by omega) (by omega)]
      exact ⟨rfl, rfl, rfl, rfl⟩
    · rw [z151] at o1
      exact n_lenR_of (d := d) R1.2.1 c.1 k8 (n_scc_b C' o0 o1) o0 zHH ((ze 127 23 (by omega) (by omega) (by omega) (by omega)).trans (rX 127 23 (by omega) (by omega))) (fun q q0 q1 qv => ⟨(zo q q0 (by omega)).2.2 (by rw [rX (153 + s) q (by omega) (by omega)]; exact qv), ok q q0 (by omega) qv⟩) (st' o o0 o1)
  refine ⟨y1, y5, z, _, f1, f2, n_t107 J5.2, en, ?_, J5, f3, Jz, g0 nos, Bz, g1 (nR 8 (by omega)) (nT 129 (by omega)) (nF 16 (by omega)), g2' (nR 119 (by omega)) (nT 308 (by omega)) (nF 85 (by omega)), g3 nos (fun b hb => ?_) (fun r hr => ?_), g4 (nT 150 (by omega)) (nF 30 (by omega)) (nA 10 (by omega) (by omega) (by omega) (by omega) (by omega)) (nA 11 (by omega) (by omega) (by omega) (by omega) (by omega)), Sc, Pc, g7 nos (nT 308 (by omega)) (nF 85 (by omega)) (e2 11) (nA 121 (by omega) (by omega) (by omega) (by omega) (by omega)) (nA 124 (by omega) (by omega) (by omega) (by omega) (by omega))⟩
  · obtain ⟨w, ew, Jw, -⟩ := n_noteC J C' (f := fun o => n_sOf hh s o d) (fun o o0 o1 => (D.2 o o0 (by omega)).trans (n_lk_sOf K c.1 k8 o d).symm)
    rw [f1] at ew
    cases ew
    exact Jw
  · have := C.1.1.1
    have q3 := Wh.2.1
    rcases cA b hb with q | q | q | q | q | q <;> rw [q] <;> refine ⟨?_, ?_, ?_⟩ <;> omega
  · by_cases w : r = 107
    · omega
    · rcases List.mem_append.mp hr with q | q
      · have R : n_prows.all (fun b => decide (26 ≤ b ∧ b ≤ 104)) = true := by decide +kernel
        rw [List.all_eq_true] at R
        have := of_decide_eq_true (R r q)
        omega
      · exact absurd (List.mem_singleton.mp q) w
theorem n_s_make {h : m_H} {k : Int} (X : n_R h k) (s d : Int) (i1 : -2147483648 ≤ s) (i2 : s < 2147483648) (d1 : -2147483648 ≤ d) (d2 : d < 2147483648) : n_step h k (t10_make 1 s d) (t11_make 127 s d) := by
  have X' := X
  obtain ⟨I, gs, bud, x1, x2, x3, x4, x5, x6, x7⟩ := X'
  have s2 := x5.2.1
  have s3 := x5.2.2.1
  have eC := n_canMake I gs s2 s3 i1 i2 d1 d2
  unfold n_step
  by_cases c : 0 ≤ s ∧ s < m_g h 127 43
  · have C := n_scc_of x5 c.1 c.2
    have a0 := C.1.1.2.1
    by_cases c2 : 0 ≤ d ∧ d ≤ m_g h 127 18
    · obtain ⟨z, hh, g', e1, e2, F, F2, f, PP, R1, R2, ref⟩ := n_plays X c d1 d2
      have J := R1.1
      have hz : -2147483648 ≤ z ∧ z < 2147483648 := by
        have := C.2.2.1
        unfold n_ff at f
        omega
      by_cases q : z = -1
      · subst q
        have st : n_stD h s d (m_g h 151 s) := by
          unfold n_ff at f
          rcases f with f | f
          · exact f.2
          · omega
        obtain ⟨y1, y5, w, e, f1, f2, t5, en, J1, J5, f3, RR⟩ := n_s_make_y X c c2 F st (PP rfl).1 R1 ref
        refine ⟨e, y5, e, w, ?_, f3, rfl, RR⟩
        unfold t10_make
        rw [if_pos (n_t1 I.2), n_scoreOf_y I x5 c, n_bs]
        dsimp only
        rw [if_neg (by omega), if_pos (n_t1 I.2), n_isPastC I x3 d1 d2 gs, n_bs, decide_eq_true c2]
        dsimp only
        rw [if_pos rfl, if_pos (n_t1 I.2), n_p1_5 I.2, if_pos (n_t20 I.2), e1, n_bs]
        dsimp only
        rw [m_w_of (x := -1) (by omega) (by omega), if_pos rfl, if_pos (n_t1 J.2), n_p1_5 J.2, if_pos (n_t20 J.2), f1, n_bs]
        dsimp only
        rw [if_pos (n_t1 J1.2), n_p1_6 J1.2, n_p1_5 J1.2, if_pos (n_t106 J1.2), f2, n_bs]
        dsimp only
        rw [if_pos (n_t1 J5.2), n_p1_6 J5.2, if_pos (n_t106 J5.2), n_p106_1 J5.2, if_pos t5, n_size t5, n_bs, en]
      · have eC2 := n_canMake (h := hh) R1.1 R1.2.1 (by rw [ref 127 43 (by omega) (by omega)]; exact s2) (by rw [ref 127 43 (by omega) (by omega)]; exact s3) i1 i2 d1 d2
        rw [ref 127 43 (by omega) (by omega), ref 127 18 (by omega) (by omega), decide_eq_true ⟨c, c2⟩] at eC2
        refine ⟨-1, hh, -1, g', ?_, ?_, rfl, R2⟩
        · unfold t10_make
          rw [if_pos (n_t1 I.2), n_scoreOf_y I x5 c, n_bs]
          dsimp only
          rw [if_neg (by omega), if_pos (n_t1 I.2), n_isPastC I x3 d1 d2 gs, n_bs, decide_eq_true c2]
          dsimp only
          rw [if_pos rfl, if_pos (n_t1 I.2), n_p1_5 I.2, if_pos (n_t20 I.2), e1, n_bs]
          dsimp only
          rw [m_w_of (x := z) (by omega) (by omega), if_neg q]
        · unfold t11_make
          rw [if_pos (n_t127 J.2), eC2, n_bs]
          dsimp only
          rw [if_pos rfl, if_pos (n_t127 J.2), e2, n_bs]
          dsimp only
          rw [m_w_of (x := z) (by omega) (by omega), if_neg q]
    · rw [decide_eq_false (fun q => c2 q.2)] at eC
      refine ⟨-1, h, -1, h, ?_, ?_, rfl, n_R_more X⟩
      · unfold t10_make
        rw [if_pos (n_t1 I.2), n_scoreOf_y I x5 c, n_bs]
        dsimp only
        rw [if_neg (by omega), if_pos (n_t1 I.2), n_isPastC I x3 d1 d2 gs, n_bs, decide_eq_false c2]
        rfl
      · unfold t11_make
        rw [if_pos (n_t127 I.2), eC, n_bs]
        rfl
  · rw [decide_eq_false (fun q => c q.1)] at eC
    refine ⟨-1, h, -1, h, ?_, ?_, rfl, n_R_more X⟩
    · unfold t10_make
      rw [if_pos (n_t1 I.2), n_scoreOf_n I x5 i1 i2 c, n_bs]
      rfl
    · unfold t11_make
      rw [if_pos (n_t127 I.2), eC, n_bs]
      rfl
