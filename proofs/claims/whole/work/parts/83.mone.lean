/-! CALLS: remade, stretch, unfound: the component's measureWay, whole, and one way of one strip -/
theorem n_mway {hh g : m_H} {m s w : Int} (I : n_I hh) (c : n_wl g s w ≤ 599) (c1 : 1 ≤ n_wl g s w) (N0 : 0 ≤ m_g g 127 85) (N : m_g g 127 85 ≤ 1000) (m0 : 0 ≤ m) (m1 : m ≤ 65535) (hx : ∀ t, 0 ≤ t → t < m_g g 127 85 → -32768 ≤ m_g g 308 t ∧ m_g g 308 t ≤ 32767) (hb : ∀ j, 0 ≤ j → j < n_wl g s w → -32768 ≤ n_wv g s w j ∧ n_wv g s w j ≤ 32767) (en : m_g hh 122 1 = n_wl g s w) (hV : ∀ j, 0 ≤ j → j < n_wl g s w → n_rg hh 122 j = n_wv g s w j) (eT : m_g hh 119 1 = m_g g 127 85) (hT : ∀ t, 0 ≤ t → t < m_g g 127 85 → n_rg hh 119 t = m_g g 308 t) (hL : ∀ t, 0 ≤ t → t < m_g g 127 85 → 0 ≤ m_g hh 124 t ∧ m_g hh 124 t ≤ 1000) : ∃ h', t1_measureWay 121 m hh = some ((), h') ∧ n_I h' ∧ h'.2 = hh.2 ∧ (∀ b j, b ≠ 124 → b ≠ 126 → m_g h' b j = m_g hh b j) ∧ ∀ t, 0 ≤ t → t < m_g g 127 85 → m_g h' 124 t = n_mxN (m_g hh 124 t) (fun p => n_run g m s w t p) (n_wl g s w).toNat := by
  have k1 := n_t121 I.2
  have t4 := n_t124 I.2
  have l4 := n_l124 I.2
  have t6 := n_t126 I.2
  have l6 := n_l126 I.2
  have t9 := n_t119 I.2
  have t2 := n_t122 I.2
  have R2 := n_wf_row I.1 t2
  have s4 := n_sfa I (a := 124) (by omega) (by omega) (Or.inr (by omega))
  have s6 := n_sfa I (a := 126) (by omega) (by omega) (Or.inr (by omega))
  have v4 := s4.2.2 122 t2
  have v6 := s6.2.2 122 t2
  obtain ⟨r1, r2, r3, r4, r5⟩ := R2
  have I6 : n_I (n_fl hh 126 0 600 (fun _ => 0)) := n_I_fl I (Or.inl t6)
  have ge : ∀ b j, b ≠ 126 → m_g (n_fl hh 126 0 600 (fun _ => 0)) b j = m_g hh b j := fun b j h1 => by rw [n_g_fl, if_neg (by omega)]
  have rg : ∀ v, m_t hh v = 5 → ∀ j, n_rg (n_fl hh 126 0 600 (fun _ => 0)) v j = n_rg hh v j := fun v hv j => by
    unfold n_rg
    have nv : v ≠ 126 := fun e => by rw [e] at hv; omega
    rw [ge v 1 nv, ge v 0 nv, ge _ j (s6.2.2 v hv)]
  have e1 : t1_measureWay 121 m hh = t1_measureWay_x50 50 121 m (m_g hh 122 0) (n_wl g s w) (m_g g 127 85 - 1) 0 0 0 (n_fl hh 126 0 600 (fun _ => 0)) := by
    have ef : tJ7_fill_53178 126 0 hh = some ((), n_fl hh 126 0 600 (fun _ => 0)) := by rw [n_fillA t6 (by omega) (by omega), l6]
    have em : m_min (n_wl g s w) (m_min (m_l hh (m_g hh 122 0)) (600 - 1)) = n_wl g s w := by
      rw [n_min (a := m_l hh (m_g hh 122 0)) (by omega) (by omega) (by omega) (by omega), n_min (by omega) (by omega) (by omega) (by omega)]
      omega
    unfold t1_measureWay
    rw [if_pos k1, n_p121_2 I.2, if_pos t2, n_bs, n_size t2, n_bs, en]
    show (if 20 ≤ m_t hh (m_g hh 122 0) then if m_t hh 121 = 1 then if 20 ≤ m_t hh (m_g hh 121 10) then some (m_min (n_wl g s w) (m_min (m_l hh (m_g hh 122 0)) (m_l hh (m_g hh 121 10) - 1))) >>= fun x9 => tJ7_fill_53178 (m_g hh 121 10) 0 hh >>= _ else none else none else none) = _
    rw [if_pos (by omega), if_pos k1, n_p121_10 I.2, if_pos (by omega), l6, em, n_bs, ef, n_bs]
    generalize hq : n_fl hh 126 0 600 (fun _ => 0) = h2 at *
    have z := ge 119 1 (by omega)
    show (if m_t h2 121 = 1 then if m_t h2 (m_g h2 121 1) = 5 then t5_size (m_g h2 121 1) h2 >>= _ else none else none) = _
    rw [if_pos (n_t121 I6.2), n_p121_1 I6.2, if_pos (n_t119 I6.2), n_size (n_t119 I6.2), n_bs, z, eT]
    rfl
  obtain ⟨h', a1, a2, a3, a4, a5⟩ := n_mtimes (g := g) (m := m) (s := s) (w := w) (v := m_g hh 122 0) c c1 N m0 m1 hx hb v4 v6 (m_g g 127 85).toNat (n_fl hh 126 0 600 (fun _ => 0)) I6 (by omega) r2 (by show _ ≤ m_l hh _; omega) (fun j j1 j2 => by
    rw [ge _ j v6, ← hV j j1 j2]
    unfold n_rg
    rw [if_pos (by omega)]) (fun t t1 t2 => by rw [rg 119 t9]; exact hT t t1 t2) (fun t t1 t2 => by rw [ge 124 t (by omega)]; exact hL t t1 (by omega)) (fun j j1 j2 => by rw [n_g_fl, if_pos ⟨rfl, j1, j2⟩, n_run_end (by omega)])
  rw [show ((m_g g 127 85).toNat : Int) = m_g g 127 85 by omega] at a1 a5
  refine ⟨h', e1.trans a1, a2, a3, fun b j h1 h2 => (a4 b j h1 h2).trans (ge b j h2), fun t t1 t2 => ?_⟩
  rw [a5 t, if_pos ⟨t1, t2⟩, ge 124 t (by omega)]
/-- the component in the midst of measuring: h is the heap ahead of it -/
def n_mI (h hh : m_H) (k m s w : Int) : Prop := n_I hh ∧ n_kp h hh [121, 124, 126] [122] ∧ n_bud hh k ∧ (∀ j, m_g hh 121 j = m_g h 121 j) ∧ ∀ t, 0 ≤ t → t < m_g h 127 85 → n_isQ h m t (n_QD h s w) (m_g hh 124 t)
theorem n_mI_P {h hh : m_H} {k m s w : Int} (I : n_I h) (C : n_mI h hh k m s w) : n_sp h hh [121, 124, 126] [122] [] [] := by
  have t1 := n_t121 I.2
  have t4 := n_t124 I.2
  have l4 := n_l124 I.2
  have t6 := n_t126 I.2
  have l6 := n_l126 I.2
  exact n_sp_of I C.2.1 n_kr_rfl (fun b hb => by
    simp at hb
    rcases hb with e | e | e <;> rw [e]
    · exact ⟨n_sfa I (by omega) (by omega) (Or.inl (by omega)), Or.inl (by omega)⟩
    · exact ⟨n_sfa I (by omega) (by omega) (Or.inr (by omega)), Or.inl (by omega)⟩
    · exact ⟨n_sfa I (by omega) (by omega) (Or.inr (by omega)), Or.inl (by omega)⟩) (n_in1 (n_t122 I.2))
theorem n_mone {h hh : m_H} {m s w k : Int} (I : n_I h) (S : n_Rsh h h) (G : n_gs h) (T : n_Rtape h h) (c : 0 ≤ s ∧ s < m_g h 127 14) (d : m_g h 133 s < 2) (w0 : 0 ≤ w) (w1 : w ≤ 3) (m0 : 0 ≤ m) (m1 : m ≤ 65535) (C : n_mI h hh k m s w) : ∃ h1 h2, t1_fillWay 121 (m_g h (m_g h 3 s) 3) w hh = some ((), h1) ∧ n_I h1 ∧ t1_measureWay 121 m h1 = some ((), h2) ∧ n_mI h h2 k m s (w + 1) := by
  have W := n_wl_1 G c w
  have T3 := T.2
  have P := n_mI_P I C
  obtain ⟨J, K, Bu, F, Q⟩ := C
  obtain ⟨⟨a1, a2, a3, a4⟩, a5, a6, a7, a8, a9, a10, a11, a12, a13, a14, a15, a16, a17⟩ := n_st S c
  obtain ⟨r1, -, r2, -, r3⟩ := n_sp_row I P a3 (by simp; omega)
  obtain ⟨h1, e1, A⟩ := n_fillWay (h := hh) (g := h) (v := m_g h (m_g h 3 s) 3) J G c r1 (by omega) (by rw [r2, a16]) (fun j j1 j2 => by rw [r3, a17 j j1 j2]; rfl) w0 w1
  have t122 := n_t122 J.2
  have I1 := n_I_rw J t122 A.1
  have K1 := n_kp_rw J.1 t122 A.1
  have KK : n_kp h h1 [121, 124, 126] [122] := n_kp_mono (n_kp_trans K K1 I.1 (fun r hr => Or.inl (by simp at hr; rw [hr]; exact n_t122 I.2))) (fun b hb => Or.inl (by simpa using hb)) (fun b hb => Or.inl (by simpa using hb))
  have k22 := (n_wf_row J.1 t122).2.1
  have same : ∀ b, b < 312 → b ≠ 122 → m_t hh b ≠ 20 ∨ 0 < m_l hh b → 1 ≤ b → m_t hh b ≠ 5 → ∀ j, m_g h1 b j = m_g hh b j := fun b hb h2 h3 hb1 h5 j => by
    have sf := n_sfa J hb h5 h3
    exact K1.2.2.1 b sf.1 (by simp) (by simpa using h2) (fun r hr => by
      simp at hr
      rw [hr]
      exact fun e => sf.2.2 122 t122 e.symm) j
  have f121 := same 121 (by omega) (by omega) (Or.inl (by rw [n_t121 J.2]; omega)) (by omega) (by rw [n_t121 J.2]; omega)
  have f124 := same 124 (by omega) (by omega) (Or.inr (by rw [n_l124 J.2]; omega)) (by omega) (by rw [n_t124 J.2]; omega)
  have B1 := n_bud_rw J (by decide) A.1 Bu
  have P1 : n_sp h h1 [121, 124, 126] [122] [] [] := n_mI_P I ⟨I1, KK, B1, fun j => (f121 j).trans (F j), fun t t1 t2 => by rw [f124]; exact Q t t1 t2⟩
  have q119 := n_sp_row I P1 (n_t119 I.2) (by decide)
  obtain ⟨h2, e2, I2, x2, x3, x4⟩ := n_mway (hh := h1) (g := h) (m := m) (s := s) (w := w) I1 (n_wl_599 G c w) W.1 (by omega) (by omega) m0 m1 (fun t t1 t2 => (T.2.2.2 t t1 t2).2) (fun j j1 j2 => n_wv_b G c j1 j2) A.1.2.2.1 (fun j j1 j2 => by rw [n_rw_rg A.1, if_pos ⟨j1, j2⟩]) (by rw [q119.2.2.1]; exact T.1) (fun t t1 t2 => by rw [q119.2.2.2.2]; exact (T.2.2.2 t t1 t2).1) (fun t t1 t2 => by
    have := n_isQ_b (Q t t1 t2) (by omega)
    rw [f124]
    omega)
  have s4 := n_sfa I1 (a := 124) (by omega) (by rw [n_t124 I1.2]; omega) (Or.inr (by rw [n_l124 I1.2]; omega))
  have s6 := n_sfa I1 (a := 126) (by omega) (by rw [n_t126 I1.2]; omega) (Or.inr (by rw [n_l126 I1.2]; omega))
  have nr : ∀ r, m_t h1 r = 5 → r ≠ 124 ∧ r ≠ 126 := fun r hr => ⟨fun e => s4.2.1 (by rw [← e]; exact hr), fun e => s6.2.1 (by rw [← e]; exact hr)⟩
  have K2 : n_kp h1 h2 [124, 126] [] := ⟨fun b _ => ⟨n_e2t x2 b, n_e2l x2 b⟩, by rw [n_e2n x2]; omega, fun b hb q1 _ _ j => by simp at q1; exact x3 b j q1.1 q1.2, fun r hr => Or.inl (x3 r 0 (nr r hr).1 (nr r hr).2)⟩
  have K3 : n_kp h h2 [121, 124, 126] [122] := n_kp_mono (n_kp_trans KK K2 I.1 n_no) (fun b hb => Or.inl (by simp at hb ⊢; omega)) (fun b hb => Or.inl (by simpa using hb))
  refine ⟨h1, h2, e1, I1, e2, I2, K3, n_bud_same I1 x2 (fun r hr => x3 r 0 (nr r hr).1 (nr r hr).2) B1, fun j => by rw [x3 121 j (by omega) (by omega), f121, F j], fun t t1 t2 => ?_⟩
  rw [x4 t t1 t2, f124]
  exact n_QD_way (Q t t1 t2) c.1 d w0 (by omega) (by omega)
