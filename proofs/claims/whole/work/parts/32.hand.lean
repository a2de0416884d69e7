/-! THE HAND -/
def n_hi (a : Int) : Int := n_cl (m_shr a 16)
def n_lo (a : Int) : Int := n_cl (m_i2s a)
theorem n_feedPair {h : m_H} {a : Int} (I : n_I h) (hl : m_g h 8 1 ≤ 298) : ∃ h', t10_feedPair 1 a h = some ((), h') ∧ n_rw h h' 8 (m_g h 8 1 + 2) (fun j => if j = m_g h 8 1 + 1 then n_lo a else if j = m_g h 8 1 then n_hi a else n_rg h 8 j) := by
  have q1 := n_i32 (Int32.ofInt a >>> (Int32.ofInt 16 &&& 31))
  have q2 := n_i32 (Int32.ofInt a).toInt16.toInt32
  obtain ⟨h1, e1, A1⟩ := n_add (x := m_shr a 16) I.1 (n_t8 I.2) (by omega) q1.1 q1.2
  have I1 := n_I_rw I (n_t8 I.2) A1
  have l1 := A1.2.2.1
  obtain ⟨h2, e2, A2⟩ := n_add (x := m_i2s a) I1.1 (n_t8 I1.2) (by omega) q2.1 q2.2
  unfold t10_feedPair
  rw [if_pos (n_t1 I.2), n_p1_1 I.2, if_pos (n_t8 I.2), e1, n_bs]
  show ∃ h', (if m_t h1 1 = 10 then if m_t h1 (m_g h1 1 1) = 5 then t5_add (m_g h1 1 1) (m_i2s a) h1 >>= _ else none else none) = _ ∧ _
  rw [if_pos (n_t1 I1.2), n_p1_1 I1.2, if_pos (n_t8 I1.2), e2, n_bs]
  refine ⟨h2, rfl, ?_⟩
  refine n_rw_eq (n_rw_trans I.1 (n_t8 I.2) A1 A2) (by omega) (fun j j1 j2 => ?_)
  rw [n_rw_rg A1, l1]
  unfold n_lo n_hi
  by_cases c : j = m_g h 8 1 + 1
  · rw [if_pos c, if_pos c]
  · rw [if_neg c, if_neg c, if_pos (by omega)]
/-- what hands writes -/
def n_hg (g : m_H) (a : Int) : m_H := m_p (m_p (m_p g 129 (m_g g 127 16) (m_i2s (m_ushr a 16))) 129 (m_g g 127 16 + 1) (m_i2s a)) 127 16 (m_g g 127 16 + 2)
theorem n_hands {g : m_H} {a : Int} (I : n_I g) (h1 : 0 ≤ m_g g 127 16) (h2 : m_g g 127 16 ≤ 298) : t11_hands 127 a g = some ((), n_hg g a) := by
  have t := n_t127 I.2
  have t2 := n_t129 I.2
  have l2 := n_l129 I.2
  have p := n_p127_1 I.2
  unfold t11_hands n_hg
  simp (disch := omega) only [m_w_of, n_ltT, n_ltF, n_leT, n_leF, n_eqT, n_eqF, n_bs, n_bn, ↓reduceIte, true_and, and_true, and_self, false_and, and_false, or_true, true_or, or_false, false_or, not_true_eq_false, not_false_eq_true, Bool.false_eq_true, reduceCtorEq, eq_self, m_g_p, m_t_p, m_l_p, m_n_p, m_s_p, n_g_fl, n_t_fl, n_l_fl, n_n_fl, n_s_fl, p]
theorem n_hand_pair {h h' g : m_H} {a : Int} (X : n_Rhand h g) (hl : m_g g 127 16 ≤ 298) (A : n_rw h h' 8 (m_g h 8 1 + 2) (fun j => if j = m_g h 8 1 + 1 then n_lo a else if j = m_g h 8 1 then n_hi a else n_rg h 8 j)) : n_Rhand h' (n_hg g a) := by
  obtain ⟨x1, x2, x3, x4⟩ := X
  have e := A.2.2.1
  have e16 : m_g (n_hg g a) 127 16 = m_g g 127 16 + 2 := by unfold n_hg; rw [m_g_p, if_pos ⟨rfl, rfl⟩]
  refine ⟨by omega, by omega, by omega, fun j j1 j2 => ?_⟩
  rw [n_rw_rg A, x1, if_pos (by omega)]
  have e129 : m_g (n_hg g a) 129 j = if j = m_g g 127 16 + 1 then m_i2s a else if j = m_g g 127 16 then m_i2s (m_ushr a 16) else m_g g 129 j := by
    unfold n_hg
    rw [m_g_p, if_neg (by omega), m_g_p, m_g_p]
    by_cases c : j = m_g g 127 16 + 1
    · rw [if_pos ⟨rfl, c⟩, if_pos c]
    · rw [if_neg (fun q => c q.2), if_neg c]
      by_cases c2 : j = m_g g 127 16
      · rw [if_pos ⟨rfl, c2⟩, if_pos c2]
      · rw [if_neg (fun q => c2 q.2), if_neg c2]
  rw [e129]
  unfold n_lo n_hi
  rw [n_hi_eq, n_lo_eq]
  have r1 := n_i2s a
  have r2 := n_i2s (m_ushr a 16)
  by_cases c : j = m_g g 127 16 + 1
  · rw [if_pos c, if_pos c]; omega
  · rw [if_neg c, if_neg c]
    by_cases c2 : j = m_g g 127 16
    · rw [if_pos c2, if_pos c2]; omega
    · rw [if_neg c2, if_neg c2]
      exact x4 j j1 (by omega)
theorem n_hg_kr (g : m_H) (a : Int) : n_kr g (n_hg g a) [129] [16] := by
  have K := n_kr_trans (n_kr_trans (n_kr_p (h := g) (a := 129) (k := m_g g 127 16) (v := m_i2s (m_ushr a 16)) (by omega) (by omega)) (n_kr_p (a := 129) (k := m_g g 127 16 + 1) (v := m_i2s a) (by omega) (by omega))) (n_kr_f (k := 16) (v := m_g g 127 16 + 2))
  exact n_kr_mono K (by decide) (by decide) (by decide)
theorem n_hg_I {g : m_H} (I : n_I g) (a : Int) : n_I (n_hg g a) := n_kr_I I (n_hg_kr g a) (fun b hb => by rw [List.mem_singleton.mp hb]; exact Or.inl (n_t129 I.2)) rfl
/-- the reference's cells as they were -/
theorem n_kp_ref {h h1 : m_H} {A R : List Int} (I : n_I h) (K : n_kp h h1 A R) (hA : ∀ b ∈ A, b < 127 ∨ 312 ≤ b) (hR : ∀ r ∈ R, m_t h r = 5) {b : Int} (b1 : 127 ≤ b) (b2 : b < 312) (j : Int) : m_g h1 b j = m_g h b j :=
  K.2.2.1 b (by have := I.2.2.2.2; omega) (fun q => by have := hA b q; omega) (fun q => by have := (n_ref_row I (hR b q)).1; omega) (fun r hr e => by have := (n_ref_row I (hR r hr)).2; omega) j
/-- the component's cells as they were -/
theorem n_kr_comp {h h1 : m_H} {Tc Tf : List Int} (K : n_kr h h1 Tc Tf) {b : Int} (hb : b < 127 ∨ 312 ≤ b) (j : Int) : m_g h1 b j = m_g h b j :=
  K.2.2 b j (fun q => by have := K.2.1 b q; omega) (fun q => by omega)
theorem n_kr_rg {h h1 : m_H} {Tc Tf : List Int} (I : n_I h) (K : n_kr h h1 Tc Tf) {r : Int} (hr : m_t h r = 5) (j : Int) : n_rg h1 r j = n_rg h r j := by
  have q := n_ref_row I hr
  unfold n_rg
  rw [n_kr_comp K q.1, n_kr_comp K q.1, n_kr_comp K q.2]
theorem n_Rhand_gg {h g : m_H} {Tc Tf : List Int} (I : n_I h) (K : n_kr h g Tc Tf) (X : n_Rhand h g) : n_Rhand g g := by
  unfold n_Rhand at *
  simp only [n_kr_comp K (show (8 : Int) < 127 ∨ 312 ≤ (8 : Int) by omega), n_kr_rg I K (n_t8 I.2)]
  exact X
theorem n_Rhand_hh {h h1 : m_H} {A R : List Int} (I : n_I h) (K : n_kp h h1 A R) (hA : ∀ b ∈ A, b < 127 ∨ 312 ≤ b) (hR : ∀ r ∈ R, m_t h r = 5) (X : n_Rhand h h) : n_Rhand h h1 := by
  unfold n_Rhand at *
  simp only [n_kp_ref I K hA hR (show (127 : Int) ≤ 127 by omega) (by omega), n_kp_ref I K hA hR (show (127 : Int) ≤ 129 by omega) (by omega)]
  exact X
set_option maxHeartbeats 1000000 in
theorem n_s_hand {h : m_H} {k : Int} (X : n_R h k) (a b c d e : Int) : n_step h k (t10_hand 1 a b c d e) (t11_hand 127 a b c d e) := by
  have X' := X
  obtain ⟨I, gs, bud, x1, x2, x3, x4, x5, x6, x7⟩ := X'
  have L := x1.1
  have L0 := x1.2.1
  have L1 := x1.2.2.1
  unfold n_step t10_hand
  rw [if_pos (n_t1 I.2), n_p1_1 I.2, if_pos (n_t8 I.2), n_size (n_t8 I.2), n_bs]
  by_cases cc : 300 < m_g h 8 1 + 10
  · refine ⟨-1, h, -1, h, ?_, ?_, rfl, n_R_more X⟩
    · show (if 300 < m_w (m_g h 8 1 + 10) then _ else _) = _
      rw [m_w_of (by omega) (by omega), if_pos cc]
    · unfold t11_hand
      rw [if_pos (n_t127 I.2), m_w_of (by omega) (by omega), if_pos (by omega)]
  · obtain ⟨h1, e1, A1⟩ := n_feedPair (a := a) I (by omega)
    have I1 := n_I_rw I (n_t8 I.2) A1
    have l1 := A1.2.2.1
    obtain ⟨h2, e2, A2⟩ := n_feedPair (a := b) I1 (by omega)
    have I2 := n_I_rw I1 (n_t8 I1.2) A2
    have l2 := A2.2.2.1
    obtain ⟨h3, e3, A3⟩ := n_feedPair (a := c) I2 (by omega)
    have I3 := n_I_rw I2 (n_t8 I2.2) A3
    have l3 := A3.2.2.1
    obtain ⟨h4, e4, A4⟩ := n_feedPair (a := d) I3 (by omega)
    have I4 := n_I_rw I3 (n_t8 I3.2) A4
    have l4 := A4.2.2.1
    obtain ⟨h5, e5, A5⟩ := n_feedPair (a := e) I4 (by omega)
    have I5 := n_I_rw I4 (n_t8 I4.2) A5
    have l5 := A5.2.2.1
    have AA := n_rw_trans I.1 (n_t8 I.2) (n_rw_trans I.1 (n_t8 I.2) (n_rw_trans I.1 (n_t8 I.2) (n_rw_trans I.1 (n_t8 I.2) A1 A2) A3) A4) A5
    have KP := n_kp_rw I.1 (n_t8 I.2) AA
    have y0 : n_Rhand h h5 := n_Rhand_hh I KP (fun _ q => absurd q List.not_mem_nil) (fun r q => by rw [List.mem_singleton.mp q]; exact n_t8 I.2) x1
    have m0 := y0.1
    have y1 := n_hand_pair (a := a) y0 (by omega) A1
    have J1 := n_hg_I I5 a
    have m1 := y1.1
    have y2 := n_hand_pair (a := b) y1 (by omega) A2
    have J2 := n_hg_I J1 b
    have m2 := y2.1
    have y3 := n_hand_pair (a := c) y2 (by omega) A3
    have J3 := n_hg_I J2 c
    have m3 := y3.1
    have y4 := n_hand_pair (a := d) y3 (by omega) A4
    have J4 := n_hg_I J3 d
    have m4 := y4.1
    have y5 := n_hand_pair (a := e) y4 (by omega) A5
    have J5 := n_hg_I J4 e
    have m5 := y5.1
    have KR : n_kr h5 (n_hg (n_hg (n_hg (n_hg (n_hg h5 a) b) c) d) e) [129] [16] := n_kr_mono (n_kr_trans (n_kr_trans (n_kr_trans (n_kr_trans (n_hg_kr h5 a) (n_hg_kr _ b)) (n_hg_kr _ c)) (n_hg_kr _ d)) (n_hg_kr _ e)) (by decide) (by decide) (by decide)
    have P := n_sp_of I KP KR (fun _ q => absurd q List.not_mem_nil) (fun r q => by rw [List.mem_singleton.mp q]; exact n_t8 I.2)
    refine ⟨m_g h5 8 1, h5, m_g (n_hg (n_hg (n_hg (n_hg (n_hg h5 a) b) c) d) e) 127 16, n_hg (n_hg (n_hg (n_hg (n_hg h5 a) b) c) d) e, ?_, ?_, by rw [m5], ?_⟩
    · show (if 300 < m_w (m_g h 8 1 + 10) then _ else if m_t h 1 = 10 then t10_feedPair 1 a h >>= _ else none) = _
      rw [m_w_of (by omega) (by omega), if_neg cc, if_pos (n_t1 I.2), e1, n_bs]
      show (if m_t h1 1 = 10 then t10_feedPair 1 b h1 >>= _ else none) = _
      rw [if_pos (n_t1 I1.2), e2, n_bs]
      show (if m_t h2 1 = 10 then t10_feedPair 1 c h2 >>= _ else none) = _
      rw [if_pos (n_t1 I2.2), e3, n_bs]
      show (if m_t h3 1 = 10 then t10_feedPair 1 d h3 >>= _ else none) = _
      rw [if_pos (n_t1 I3.2), e4, n_bs]
      show (if m_t h4 1 = 10 then t10_feedPair 1 e h4 >>= _ else none) = _
      rw [if_pos (n_t1 I4.2), e5, n_bs]
      show (if m_t h5 1 = 10 then if m_t h5 (m_g h5 1 1) = 5 then t5_size (m_g h5 1 1) h5 >>= _ else none else none) = _
      rw [if_pos (n_t1 I5.2), n_p1_1 I5.2, if_pos (n_t8 I5.2), n_size (n_t8 I5.2), n_bs]
    · unfold t11_hand
      rw [if_pos (n_t127 I5.2), m_w_of (by omega) (by omega), if_neg (by omega), n_hands I5 (by omega) (by omega), n_bs]
      show (if m_t (n_hg h5 a) 127 = 11 then t11_hands 127 b (n_hg h5 a) >>= _ else none) = _
      rw [if_pos (n_t127 J1.2), n_hands J1 (by omega) (by omega), n_bs]
      show (if m_t (n_hg (n_hg h5 a) b) 127 = 11 then t11_hands 127 c (n_hg (n_hg h5 a) b) >>= _ else none) = _
      rw [if_pos (n_t127 J2.2), n_hands J2 (by omega) (by omega), n_bs]
      show (if m_t (n_hg (n_hg (n_hg h5 a) b) c) 127 = 11 then t11_hands 127 d (n_hg (n_hg (n_hg h5 a) b) c) >>= _ else none) = _
      rw [if_pos (n_t127 J3.2), n_hands J3 (by omega) (by omega), n_bs]
      show (if m_t (n_hg (n_hg (n_hg (n_hg h5 a) b) c) d) 127 = 11 then t11_hands 127 e (n_hg (n_hg (n_hg (n_hg h5 a) b) c) d) >>= _ else none) = _
      rw [if_pos (n_t127 J4.2), n_hands J4 (by omega) (by omega), n_bs]
      show (if m_t (n_hg (n_hg (n_hg (n_hg (n_hg h5 a) b) c) d) e) 127 = 11 then _ else none) = _
      rw [if_pos (n_t127 J5.2)]
    · obtain ⟨g0, g1, g2, g3, g4, g5, g6, g7⟩ := n_fr X P
      have B1 := n_bud_more (n_bud_rw I (by decide) AA bud)
      refine ⟨J5, g0 (by decide), n_bud_same I5 KR.1 (fun r hr => n_kr_comp KR (n_ref_row I5 hr).1 0) B1, n_Rhand_gg I5 KR y5, g2 (by decide) (by decide) (by decide), g3 (by decide) (by simp) (by decide), g4 (by decide) (by decide) (by decide) (by decide), g5 (by decide) (by decide) (by simp), g6 (by decide) (by decide) (by decide) (by decide) (by decide) (by decide) (by simp) (by decide), g7 (by decide) (by decide) (by decide) ?_ (by decide) (by decide)⟩
      rw [n_kr_comp KR (by omega)]
      exact KP.2.2.1 2 (by have := I.2.2.2.2; omega) (by decide) (by decide) (fun r q => by rw [List.mem_singleton.mp q]; intro e; have := (n_wf_row I.1 (n_t8 I.2)).2.1; rw [← e, n_t2 I.2] at this; omega) 11
