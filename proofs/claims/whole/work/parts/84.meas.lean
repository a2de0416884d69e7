/-! CALLS: remade, stretch, unfound: the component measures all ways and strips -/
theorem n_mways {h : m_H} {m s k : Int} (I : n_I h) (S : n_Rsh h h) (G : n_gs h) (T : n_Rtape h h) (c : 0 ≤ s ∧ s < m_g h 127 14) (d : m_g h 133 s < 2) (m0 : 0 ≤ m) (m1 : m ≤ 65535) : ∀ (kk : Nat) (w : Int) (hh : m_H), 0 ≤ w → w + kk = 4 → n_mI h hh k m s w → ∃ h2, t1_measure_x33 53 121 m s (m_g h (m_g h 3 s) 3) w hh = t1_measure_x33 33 121 m (s + 1) 0 0 h2 ∧ n_mI h h2 k m s 4 := by
  obtain ⟨⟨a1, a2, a3, a4⟩, a5⟩ := n_st S c
  intro kk
  induction kk with
  | zero =>
    intro w hh w0 wk C
    have e : w = 4 := by omega
    subst e
    refine ⟨hh, ?_, C⟩
    rw [t1_measure_x33, if_neg (by omega), if_pos rfl, m_w_of (by omega) (by omega), if_neg (by omega)]
  | succ kk ih =>
    intro w hh w0 wk C
    obtain ⟨h1, h2, e1, I1, e2, C2⟩ := n_mone I S G T c d w0 (by omega) m0 m1 C
    obtain ⟨h3, e3, C3⟩ := ih (w + 1) h2 (by omega) (by omega) C2
    refine ⟨h3, ?_, C3⟩
    rw [t1_measure_x33, if_neg (by omega), if_pos rfl, m_w_of (by omega) (by omega), if_pos (by omega), if_neg (by omega), if_pos (n_t121 C.1.2), e1, n_bs]
    show (if m_t h1 121 = 1 then t1_measureWay 121 m h1 >>= _ else none) = _
    rw [if_pos (n_t121 I1.2), e2, n_bs]
    exact e3
theorem n_mI_sh {h hh : m_H} {k m s w : Int} (I : n_I h) (S : n_Rsh h h) (G : n_gs h) (C : n_mI h hh k m s w) : n_Rsh hh hh ∧ n_gs hh ∧ (∀ b j, 127 ≤ b → b < 312 → m_g hh b j = m_g h b j) ∧ (∀ j, m_g hh 3 j = m_g h 3 j) ∧ ∀ j, m_g hh 2 j = m_g h 2 j := by
  have P := n_mI_P I C
  have nos : n_nos [] [] := by unfold n_nos; simp
  have t124 := n_t124 I.2
  have t126 := n_t126 I.2
  have t121 := n_t121 I.2
  refine ⟨n_Rsh_sp I P nos (fun b hb => by
    simp at hb
    rcases hb with e | e | e <;> rw [e] <;> exact ⟨Or.inr (by omega), by omega, by omega⟩) (n_in1 (by omega)) S, n_gs_sp P nos G, fun b j b1 b2 => P.2.2.1 b b1 b2 (by simp) j (fun q => by simp at q), (n_sp_cell P (n_sfa I (a := 3) (by omega) (by rw [n_t3 I.2]; omega) (Or.inl (by rw [n_t3 I.2]; omega))) (by omega) (by decide)).1, (n_sp_cell P (n_sf2 I) (by omega) (by decide)).1⟩
theorem n_mstrips {h : m_H} {m k : Int} (I : n_I h) (S : n_Rsh h h) (G : n_gs h) (T : n_Rtape h h) (m0 : 0 ≤ m) (m1 : m ≤ 65535) : ∀ (kk : Nat) (s : Int) (hh : m_H), 0 ≤ s → s + kk = m_g h 127 14 → n_mI h hh k m s 0 → ∃ h2, t1_measure_x33 33 121 m s 0 0 hh = some ((), m_p (m_p h2 121 11 m) 121 12 (m_g h 2 11)) ∧ n_mI h h2 k m (m_g h 127 14) 0 := by
  have B := G.1
  unfold n_shB at B
  have N := S.1
  unfold n_shN at N
  intro kk
  induction kk with
  | zero =>
    intro s hh s0 sk C
    obtain ⟨S2, G2, ref, e3, e2⟩ := n_mI_sh I S G C
    have es : s = m_g h 127 14 := by omega
    have J := C.1
    have N2 := S2.1
    unfold n_shN at N2
    have r14 := ref 127 14 (by omega) (by omega)
    refine ⟨hh, ?_, by rw [← es]; exact C⟩
    have p0 : m_g (m_p hh 121 11 m) 121 0 = 2 := by rw [n_gp_n (by omega)]; exact n_p121_0 J.2
    rw [t1_measure_x33, if_pos rfl, if_pos (n_t121 J.2), n_p121_0 J.2, if_pos (n_t2 J.2), N2.1, r14, if_neg (by rw [m_w_of (by omega) (by omega), m_w_of (by omega) (by omega)]; omega), n_bs, m_t_p, if_pos (n_t121 J.2), p0, m_t_p, if_pos (n_t2 J.2), n_gp_n (by omega), e2, n_bs]
  | succ kk ih =>
    intro s hh s0 sk C
    have c : 0 ≤ s ∧ s < m_g h 127 14 := ⟨s0, by omega⟩
    have b := G.2.1 s c.1 c.2
    unfold n_strB at b
    obtain ⟨S2, G2, ref, e3, e2⟩ := n_mI_sh I S G C
    have P := n_mI_P I C
    have J := C.1
    have N2 := S2.1
    unfold n_shN at N2
    have r14 := ref 127 14 (by omega) (by omega)
    have r133 := ref 133 s (by omega) (by omega)
    obtain ⟨⟨a1, a2, a3, a4⟩, a5, a6, a7, a8, a9⟩ := n_st S2 (i := s) (by omega)
    obtain ⟨⟨b1, b2, b3, b4⟩, b5⟩ := n_st S c
    have ek := n_known_y (i := s) J S2 G2 (by omega)
    have sfs : n_sf h (m_g h 3 s) := ⟨(I.1.1 (m_g h 3 s) (by omega)).2, by omega, fun r hr e => by have := (n_wf_row I.1 hr).2.1; rw [e] at this; omega⟩
    have q3 : m_g hh (m_g h 3 s) 3 = m_g h (m_g h 3 s) 3 := (n_sp_cell P sfs (by omega) (by simp; omega)).1 3
    rw [e3] at a1 a2 a8 ek
    have el : t1_layable 121 s hh = some ((if m_g h 133 s < 2 then m_g h (m_g h 3 s) 3 else 0), hh) := by
      unfold t1_layable
      rw [if_pos (n_t121 J.2), n_p121_0 J.2, if_pos (n_t2 J.2), ek, n_bs]
      show (if m_g h 3 s = 0 then some (0, hh) else if m_t hh (m_g h 3 s) = 8 then if m_w (m_g hh (m_g h 3 s) 4) = 2 then some (0, hh) else some (m_g hh (m_g h 3 s) 3, hh) else none) = _
      rw [if_neg (by omega), if_pos a1, a8, r133, m_w_of (by omega) (by omega), q3]
      by_cases d : m_g h 133 s < 2
      · rw [if_pos d, if_neg (by omega)]
      · rw [if_neg d, if_pos (by omega)]
    have e35 : t1_measure_x33 33 121 m s 0 0 hh = t1_measure_x33 53 121 m s (if m_g h 133 s < 2 then m_g h (m_g h 3 s) 3 else 0) 0 hh := by
      rw [t1_measure_x33, if_pos rfl, if_pos (n_t121 J.2), n_p121_0 J.2, if_pos (n_t2 J.2), N2.1, r14, if_pos (by rw [m_w_of (by omega) (by omega), m_w_of (by omega) (by omega)]; omega), el, n_bs]
    rw [e35]
    by_cases d : m_g h 133 s < 2
    · rw [if_pos d]
      obtain ⟨h2, e2', C2⟩ := n_mways I S G T c d m0 m1 4 0 hh (by omega) (by omega) C
      obtain ⟨h3, e3', C3⟩ := ih (s + 1) h2 (by omega) (by omega) ⟨C2.1, C2.2.1, C2.2.2.1, C2.2.2.2.1, fun t t1 t2 => n_QD_strip (C2.2.2.2.2 t t1 t2)⟩
      exact ⟨h3, e2'.trans e3', C3⟩
    · rw [if_neg d]
      obtain ⟨h3, e3', C3⟩ := ih (s + 1) hh (by omega) (by omega) ⟨C.1, C.2.1, C.2.2.1, C.2.2.2.1, fun t t1 t2 => n_QD_lost (C.2.2.2.2 t t1 t2) d⟩
      refine ⟨h3, ?_, C3⟩
      rw [t1_measure_x33, if_neg (by omega), if_pos rfl, m_w_of (by omega) (by omega), if_pos (by omega), if_pos rfl]
      exact e3'
/-- behind the measuring: the longest run from each time stands in 124, and what was measured is noted -/
def n_mE (h hh : m_H) (k m : Int) : Prop := n_I hh ∧ n_kp h hh [121, 124, 126] [122] ∧ n_bud hh k ∧ (∀ j, j < 11 ∨ 12 < j → m_g hh 121 j = m_g h 121 j) ∧ m_g hh 121 11 = m ∧ m_g hh 121 12 = m_g h 2 11 ∧ ∀ t, 0 ≤ t → t < m_g h 127 85 → n_isL h m t (m_g hh 124 t)
theorem n_measure {h : m_H} {m k : Int} (I : n_I h) (S : n_Rsh h h) (G : n_gs h) (T : n_Rtape h h) (M : n_Rm h h k) (Bu : n_bud h k) (k1 : k ≤ 1000) (m0 : 0 ≤ m) (m1 : m ≤ 65535) : ∃ h2, t1_measure 121 m h = some ((), h2) ∧ n_mE h h2 k m := by
  obtain ⟨M1, M2, M3, M4, M5, M6⟩ := M
  have t1 := n_t121 I.2
  have t4 := n_t124 I.2
  have l4 := n_l124 I.2
  have B := G.1
  unfold n_shB at B
  have T3 := T.2.2.1
  have anew : ∃ h2, t1_measure_c23 121 m h = some ((), h2) ∧ n_mE h h2 k m := by
    have I0 : n_I (n_fl h 124 0 1000 (fun _ => 0)) := n_I_fl I (Or.inl t4)
    have ge : ∀ b j, b ≠ 124 → m_g (n_fl h 124 0 1000 (fun _ => 0)) b j = m_g h b j := fun b j h1 => by rw [n_g_fl, if_neg (by omega)]
    have K0 : n_kp h (n_fl h 124 0 1000 (fun _ => 0)) [121, 124, 126] [122] := n_kp_mono (n_kp_fl (by omega)) (fun b hb => Or.inl (by simp at hb ⊢; omega)) n_no
    have B0 : n_bud (n_fl h 124 0 1000 (fun _ => 0)) k := n_bud_same I rfl (fun r hr => ge r 0 (by intro e; rw [e] at hr; omega)) Bu
    obtain ⟨h2, e2, C⟩ := n_mstrips I S G T m0 m1 (m_g h 127 14).toNat 0 (n_fl h 124 0 1000 (fun _ => 0)) (by omega) (by omega) ⟨I0, K0, B0, fun j => ge 121 j (by omega), fun t t1 t2 => by rw [n_g_fl, if_pos ⟨rfl, t1, by omega⟩]; exact n_QD_0⟩
    obtain ⟨J, K, Bu2, F, Q⟩ := C
    have j1 := n_t121 J.2
    have J1 : n_I (m_p h2 121 11 m) := n_I_p J (by omega) (by omega) rfl
    have J2 : n_I (m_p (m_p h2 121 11 m) 121 12 (m_g h 2 11)) := n_I_p J1 (by rw [m_t_p]; omega) (by rw [m_t_p]; omega) rfl
    have gp : ∀ b j, b ≠ 121 ∨ (j ≠ 11 ∧ j ≠ 12) → m_g (m_p (m_p h2 121 11 m) 121 12 (m_g h 2 11)) b j = m_g h2 b j := fun b j hb => by rw [n_gp_n (by omega), n_gp_n (by omega)]
    have K2 : n_kp h2 (m_p (m_p h2 121 11 m) 121 12 (m_g h 2 11)) [121] [] := ⟨fun _ _ => ⟨rfl, rfl⟩, Int.le_refl _, fun b hb q _ _ j => gp b j (Or.inl (by simpa using q)), fun r hr => Or.inl (gp r 0 (Or.inr (by omega)))⟩
    refine ⟨_, ?_, J2, n_kp_mono (n_kp_trans K K2 I.1 n_no) (fun b hb => Or.inl (by simp at hb ⊢; omega)) (fun b hb => Or.inl (by simpa using hb)), n_bud_same J rfl (fun r hr => gp r 0 (Or.inr (by omega))) Bu2, fun j hj => by rw [gp 121 j (Or.inr (by omega)), F j], ?_, n_gp_y ⟨rfl, rfl⟩, fun t t1 t2 => ?_⟩
    · unfold t1_measure_c23
      rw [if_pos t1, n_p121_8 I.2, n_fillA t4 (by omega) (by omega), l4, n_bs]
      exact e2
    · rw [n_gp_n (by omega), n_gp_y ⟨rfl, rfl⟩]
    · rw [gp 124 t (Or.inl (by omega))]
      exact n_QD_all (Q t t1 t2)
  unfold t1_measure
  rw [if_pos t1, m_w_of (x := m_g h 121 11) (by omega) (by omega), m_w_of (x := m) (by omega) (by omega)]
  by_cases c : m_g h 121 11 = m
  · rw [if_pos c, n_p121_0 I.2, if_pos (n_t2 I.2), m_w_of (x := m_g h 121 12) (by omega) (by omega), m_w_of (x := m_g h 2 11) (by omega) (by omega)]
    by_cases c2 : m_g h 121 12 = m_g h 2 11
    · rw [if_pos c2]
      have X := M6 (by omega) c2
      rw [c] at X
      exact ⟨h, rfl, I, n_kp_mono n_kp_rfl n_no n_no, Bu, fun _ _ => rfl, c, c2, X⟩
    · rw [if_neg c2]; exact anew
  · rw [if_neg c]; exact anew
