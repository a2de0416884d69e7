/-! CALLS: make ..: the component fills the row of an order -/
theorem n_ecT_c {r s : Int → Int} {a b N : Int} (e : ∀ j, 0 ≤ j → j < N → r j = s j) (a1 : 1 ≤ a) : ∀ (n : Nat), n ≤ N → ∀ j, 0 ≤ j → j < N → n_ecT r a b n j = n_ecT s a b n j
  | 0, _, j, j0, j1 => e j j0 j1
  | n + 1, hn, j, j0, j1 => by
    rw [n_ecT_s, n_ecT_s]
    by_cases c : j = n
    · rw [if_pos c, if_pos c]
      by_cases d : (n : Int) < a
      · rw [if_pos d, if_pos d, e n (by omega) (by omega)]
      · rw [if_neg d, if_neg d, e n (by omega) (by omega), n_ecT_c e a1 n (by omega) _ (by omega) (by omega)]
    · rw [if_neg c, if_neg c, n_ecT_c e a1 n (by omega) j j0 j1]
/-- a row that stands -/
theorem n_wrow {h hh : m_H} {k d o m q kk : Int} (X : n_R h kk) (F : n_cF h hh kk) (D : n_cP h hh k d o m) (q0 : 0 ≤ q) (q1 : q < o) (q2 : q < 40) (v : m_g h (153 + k) q ≠ 12) (K : n_okO h k d q) : m_t hh (26 + 2 * q) = 5 ∧ m_g hh (26 + 2 * q) 1 = n_L h k d q ∧ (∀ j, n_rg hh (26 + 2 * q) j = n_z (n_S h k d q) (n_L h k d q) j) ∧ n_sv hh (26 + 2 * q) := by
  obtain ⟨e1, e2⟩ := D.1 q q0 q1 v
  have er : ∀ j, n_rg hh (26 + 2 * q) j = n_z (n_S h k d q) (n_L h k d q) j := fun j => by
    unfold n_z
    by_cases c : 0 ≤ j ∧ j < n_L h k d q
    · rw [if_pos c, e2 j c.1 c.2]
    · rw [if_neg c]
      unfold n_rg
      rw [e1, if_neg c]
  refine ⟨(n_prt F.1.2 q0 q2).1, e1, er, fun j => ?_⟩
  rw [er]
  unfold n_z
  by_cases c : 0 ≤ j ∧ j < n_L h k d q
  · rw [if_pos c]; exact K.2.2 j c.1 c.2
  · rw [if_neg c]; omega
theorem n_z_in {r : Int → Int} {n j : Int} (j0 : 0 ≤ j) (j1 : j < n) : n_z r n j = r j := by unfold n_z; rw [if_pos ⟨j0, j1⟩]
/-- take, mark -/
theorem n_t3strip {h hh : m_H} {v s kk : Int} (X : n_R h kk) (F : n_cF h hh kk) (hv : m_t hh v = 5) (v1 : v < 312) (s0 : s = -1 ∨ (0 ≤ s ∧ s < m_g h 127 14 ∧ m_g h 133 s = 0)) : (s = -1 → t3_fillStrip 20 v s hh = some (false, hh)) ∧ (s ≠ -1 → ∃ h', t3_fillStrip 20 v s hh = some (true, h') ∧ n_rwc hh h' v (m_g h 131 s) (n_smp h s)) := by
  have J := F.1
  have S := n_cF_S X F
  have G := X.2.1
  have Bs := G.1.2.1
  unfold t3_fillStrip
  rw [if_pos (n_t20 J.2), n_p20_0 J.2, if_pos (n_t2 J.2)]
  constructor
  · intro e
    rw [e, n_there_n J S G (by omega) (by omega) (by omega), n_bs]
    rfl
  · intro e
    have c : 0 ≤ s ∧ s < m_g h 127 14 := by omega
    obtain ⟨⟨a1, a2, a3, a4⟩, b1, b2, b3, b4, b5, b6, b7, b8, b9, b10, b11, b12, b13⟩ := n_st S c
    have q := G.2.1 s c.1 c.2
    unfold n_strB at q
    have sv : n_sv hh (m_g hh (m_g hh 3 s) 3) := fun j => by
      by_cases z : 0 ≤ j ∧ j < m_g h 131 s
      · rw [b13 j z.1 z.2]
        exact G.2.2.2.1 _ (by omega) (by omega)
      · unfold n_rg
        rw [b12, if_neg z]
        omega
    obtain ⟨h', e1, A⟩ := n_fillPartC (v := v) (w := m_g hh (m_g hh 3 s) 3) (b := 0) (n := m_g h 131 s) J.1 hv a3 (by omega) (by omega) (by omega) (by omega) (by omega) sv
    refine ⟨h', ?_, ⟨n_rw_eq A.1 rfl (fun j j0 j1 => ?_), A.2⟩⟩
    · rw [n_there_y J S G c (by omega), n_bs]
      dsimp only
      rw [if_neg (by omega), if_pos a1, if_pos a3, n_size a3, n_bs, b12]
      dsimp only
      rw [if_pos hv, e1, n_bs]
    · rw [show 0 + j = j by omega, b13 j j0 j1]
      rfl
theorem n_fillRowC {h hh : m_H} {k a d o kk : Int} (X : n_R h kk) (C : n_scc h h k a) (o0 : 0 ≤ o) (o1 : o < m_g h 151 k) (v12 : m_g h (153 + k) o ≠ 12) (st : n_stD h k d o) (F : n_cF h hh kk) (D : n_cP h hh k d o (o + 1)) : ∃ h', t3_fillRow 20 a o hh = some (n_rK h k d (n_L h k d) o, h') ∧ n_cF h h' kk ∧ (n_rK h k d (n_L h k d) o = true → n_cP h h' k d (o + 1) (o + 1)) := by
  have G := X.2.1
  have J := F.1
  have C3 := C.2.2.1
  have C' := n_cF_C X F C
  have S' := n_cF_S X F
  have b := n_scc_b C o0 o1
  have b1 := b.1
  have b2 := b.2.1
  have Bs := G.1
  unfold n_shB at Bs
  have od := n_scc_o C' o0 o1
  have oka : ∀ q, 0 ≤ q → q < o → m_g h (153 + k) q ≠ 12 → n_okO h k d q := fun q q0 q1 qv => n_okAll G (N := m_g h 151 k) (fun z z0 z1 => n_scc_b C z0 z1) o.toNat (by omega) (fun z z0 z1 => st z z0 (by omega)) q q0 (by omega) qv
  have hv := (n_prt J.2 o0 (show o < 40 by omega)).1
  have eL := n_L_eq (d := d) b o0
  have eS := fun i => n_S_eq (d := d) b o0 i
  have fin : ∀ h' N f, n_rw hh h' (26 + 2 * o) N f → N = n_L h k d o → (∀ j, 0 ≤ j → j < N → f j = n_S h k d o j) → n_cF h h' kk ∧ n_cP h h' k d (o + 1) (o + 1) := fun h' N f A e1 e2 => ⟨n_cF_rw X F o0 (by omega) A, n_cP_rw X F D o0 (by omega) A e1 e2⟩
  have roww : t3_row 20 (m_g h (163 + k) o) hh = some ((if m_g h (153 + k) o ≤ 1 then 22 else 26 + 2 * m_g h (163 + k) o), hh) := by
    by_cases c : m_g h (153 + k) o ≤ 1
    · rw [if_pos c, b.2.2.1 c, n_rowN J]
    · have q := b.2.2.2.1 (by omega)
      rw [if_neg c, n_rowC J q.1 (by omega)]
  have wv := m_w_of (x := m_g h (153 + k) o) (by omega) (by omega)
  have t20 := n_t20 J.2
  have ta := n_scc_t C'
  unfold t3_fillRow
  rw [if_pos t20, n_rowC J o0 (by omega), n_bs]
  dsimp only
  rw [if_pos ta, n_oneC J C' o0 o1, n_bs]
  dsimp only
  rw [if_pos t20, roww, n_bs]
  dsimp only
  rw [if_pos ta, n_numC (w := 0) J C' o0 o1 (by omega) (by omega), n_bs]
  dsimp only
  rw [if_pos ta, n_numC (w := 1) J C' o0 o1 (by omega) (by omega), n_bs]
  dsimp only
  rw [if_pos ta, n_verbC J C' o0 o1, n_bs]
  dsimp only
  rw [wv, show 8 * o + (3 + (0 : Int)) = 8 * o + 3 by omega, show 8 * o + (3 + (1 : Int)) = 8 * o + 4 by omega]
  by_cases c1 : m_g h (153 + k) o ≤ 1
  · have eK : n_rK h k d (n_L h k d) o = decide (n_sOf h k o d ≠ -1) := by unfold n_rK; rw [if_pos c1]
    have eL1 : n_L h k d o = m_g h 131 (n_sOf h k o d) := by rw [eL]; unfold n_rL; rw [if_pos c1]
    have eS1 : ∀ i, n_S h k d o i = n_smp h (n_sOf h k o d) i := fun i => by rw [eS]; unfold n_rS; rw [if_pos c1]
    have so := n_sOf_b (g := h) (k := k) (o := o) (d := d) Bs.1
    obtain ⟨f1, f2⟩ := n_t3strip (s := n_sOf h k o d) X F hv (by omega) so
    have l24 := n_l24 J.2
    have ent : t10_entry 24 o (-1) hh = some (n_sOf h k o d, hh) := by
      rw [n_entry_y (n_t24 J.2) (by omega) o0 (by omega), D.2 o o0 (by omega)]
    have both : ∃ h', (if m_t hh 20 = 3 then t10_entry (m_g hh 20 3) o (-1) hh >>= fun ⟨r22, h21⟩ => if m_t h21 20 = 3 then t3_fillStrip 20 (26 + 2 * o) r22 h21 >>= fun ⟨r25, h24⟩ => some (r25, h24) else none else none) = some (n_rK h k d (n_L h k d) o, h') ∧ n_cF h h' kk ∧ (n_rK h k d (n_L h k d) o = true → n_cP h h' k d (o + 1) (o + 1)) := by
      rw [if_pos t20, n_p20_3 J.2, ent, n_bs]
      dsimp only
      rw [if_pos t20, eK]
      by_cases z : n_sOf h k o d = -1
      · rw [f1 z, n_bs, decide_eq_false (by omega)]
        exact ⟨hh, rfl, F, fun q => by cases q⟩
      · obtain ⟨h', e1, A⟩ := f2 z
        obtain ⟨g1, g2⟩ := fin h' _ _ A.1 eL1.symm (fun j _ _ => (eS1 j).symm)
        rw [e1, n_bs, decide_eq_true z]
        exact ⟨h', rfl, g1, fun _ => g2⟩
    by_cases c0 : m_g h (153 + k) o = 0
    · rw [if_pos c0]; exact both
    · rw [if_neg c0, if_pos (by omega)]; exact both
  · have q1 := b.2.2.2.1 (by omega)
    have k1 := oka _ q1.1 q1.2.1 q1.2.2
    obtain ⟨hw, e1, er, sw⟩ := n_wrow X F D q1.1 q1.2.1 (by omega) q1.2.2 k1
    obtain ⟨l1, l2, s1⟩ := k1
    have wn : 26 + 2 * m_g h (163 + k) o ≠ 26 + 2 * o := by omega
    have erz : ∀ j, 0 ≤ j → j < n_L h k d (m_g h (163 + k) o) → n_rg hh (26 + 2 * m_g h (163 + k) o) j = n_S h k d (m_g h (163 + k) o) j := fun j j0 j1 => by rw [er]; exact n_z_in j0 j1
    rw [if_neg c1, if_neg (by omega), if_neg (by omega)]
    generalize hW : 26 + 2 * m_g h (163 + k) o = w at *
    by_cases c2 : m_g h (153 + k) o = 2
    · have eK : n_rK h k d (n_L h k d) o = decide (m_g h (183 + k) o < m_g h (193 + k) o ∧ m_g h (193 + k) o ≤ n_L h k d (m_g h (163 + k) o)) := by unfold n_rK; rw [if_neg c1, if_pos c2]
      have eL1 : n_L h k d o = m_g h (193 + k) o - m_g h (183 + k) o := by rw [eL]; unfold n_rL; rw [if_neg c1, if_pos c2]
      have eS1 : ∀ i, n_S h k d o i = n_S h k d (m_g h (163 + k) o) (m_g h (183 + k) o + i) := fun i => by rw [eS]; unfold n_rS; rw [if_neg c1, if_pos c2]
      have b7 := b.2.2.2.2.2.2.1 (by omega)
      have b15 := b.2.2.2.2.2.2.2.2.2.2.2.2.2.2.2.1 (Or.inl c2)
      obtain ⟨f1, f2⟩ := n_t3cut (v := 26 + 2 * o) (w := w) (a := m_g h (183 + k) o) (b := m_g h (193 + k) o) J.1 hv hw wn sw (by omega) b7.1 b7.2 b15.1 b15.2
      rw [e1] at f1 f2
      rw [if_pos c2, od.2.2.2.1 (by omega), od.2.2.2.2.1 (by omega), eK]
      by_cases z : m_g h (183 + k) o < m_g h (193 + k) o ∧ m_g h (193 + k) o ≤ n_L h k d (m_g h (163 + k) o)
      · obtain ⟨h', e2, A⟩ := f2 z
        obtain ⟨g1, g2⟩ := fin h' _ _ A.1 eL1.symm (fun j j0 j1 => by rw [eS1, erz _ (by omega) (by omega)])
        rw [e2, n_bs, decide_eq_true z]
        exact ⟨h', rfl, g1, fun _ => g2⟩
      · rw [f1 z, n_bs, decide_eq_false z]
        exact ⟨hh, rfl, F, fun q => by cases q⟩
    rw [if_neg c2]
    by_cases c3 : m_g h (153 + k) o = 3
    · have eK : n_rK h k d (n_L h k d) o = true := by unfold n_rK; rw [if_neg c1, if_neg c2, if_neg (by omega), if_neg (by omega), if_neg (by omega), if_neg (by omega), if_neg (by omega), if_neg (by omega)]
      have eL1 : n_L h k d o = n_L h k d (m_g h (163 + k) o) := by rw [eL]; unfold n_rL; rw [if_neg c1, if_neg c2, if_neg (by omega), if_neg (by omega), if_neg (by omega), if_neg (by omega)]
      have eS1 : ∀ i, n_S h k d o i = n_S h k d (m_g h (163 + k) o) (n_L h k d (m_g h (163 + k) o) - 1 - i) := fun i => by rw [eS]; unfold n_rS; rw [if_neg c1, if_neg c2, if_pos c3]
      obtain ⟨h', e2, A⟩ := n_fillTurned (v := 26 + 2 * o) (w := w) J.1 hv hw wn (by omega) sw
      obtain ⟨g1, g2⟩ := fin h' _ _ A.1 (by rw [e1, eL1]) (fun j j0 j1 => by rw [e1] at j1 ⊢; rw [eS1, erz _ (by omega) (by omega)])
      rw [if_pos c3, if_pos hv, e2, n_bs, eK]
      exact ⟨h', rfl, g1, fun _ => g2⟩
    rw [if_neg c3]
    have b7 := b.2.2.2.2.2.2.1 c3
    by_cases c4 : m_g h (153 + k) o = 4
    · have y := b.2.2.2.2.2.2.2.2.2.1 c4
      have eL1 : n_L h k d o = Int.tdiv ((n_L h k d (m_g h (163 + k) o) - 1) * m_g h (193 + k) o) (m_g h (183 + k) o) + 1 := by rw [eL]; unfold n_rL; rw [if_neg c1, if_neg c2, if_pos c4]
      have eK : n_rK h k d (n_L h k d) o = decide (n_L h k d o ≤ 1500) := by unfold n_rK; rw [if_neg c1, if_neg c2, if_pos c4, eL]
      have eS1 : ∀ i, n_S h k d o i = n_cl (n_play (n_S h k d (m_g h (163 + k) o)) (n_L h k d (m_g h (163 + k) o)) i (m_g h (183 + k) o) (m_g h (193 + k) o)) := fun i => by rw [eS]; unfold n_rS; rw [if_neg c1, if_neg c2, if_neg c3, if_pos c4]
      obtain ⟨-, -, f1, f2⟩ := n_t3played (v := 26 + 2 * o) (w := w) (p := m_g h (183 + k) o) (q := m_g h (193 + k) o) (n := n_L h k d o) J.1 hv hw wn sw (by omega) (by omega) (by omega) (by omega) (by omega) (by omega) (by rw [e1, eL1])
      rw [if_pos c4, od.2.2.2.1 (by omega), od.2.2.2.2.1 (by omega), eK]
      by_cases z : n_L h k d o ≤ 1500
      · obtain ⟨h', e2, A⟩ := f2 z
        obtain ⟨g1, g2⟩ := fin h' _ _ A.1 rfl (fun j j0 j1 => by rw [eS1, e1, n_play_eq erz j0 (by omega) (by omega) (by omega)])
        rw [e2, n_bs, decide_eq_true z]
        exact ⟨h', rfl, g1, fun _ => g2⟩
      · rw [f1 z, n_bs, decide_eq_false z]
        exact ⟨hh, rfl, F, fun q => by cases q⟩
    rw [if_neg c4]
    by_cases c5 : m_g h (153 + k) o = 5
    · have y := b.2.2.2.2.2.1 c5
      have k2 := oka _ y.1 y.2.1 y.2.2
      obtain ⟨hu, u1, ur, su⟩ := n_wrow X F D y.1 y.2.1 (by omega) y.2.2 k2
      obtain ⟨m1, m2, s2⟩ := k2
      have urz : ∀ j, 0 ≤ j → j < n_L h k d (m_g h (173 + k) o) → n_rg hh (26 + 2 * m_g h (173 + k) o) j = n_S h k d (m_g h (173 + k) o) j := fun j j0 j1 => by rw [ur]; exact n_z_in j0 j1
      have b11 := b.2.2.2.2.2.2.2.2.2.2.1 c5
      have eL1 : n_L h k d o = n_L h k d (m_g h (163 + k) o) + n_L h k d (m_g h (173 + k) o) - m_g h (183 + k) o := by rw [eL]; unfold n_rL; rw [if_neg c1, if_neg c2, if_neg c4, if_pos c5]
      have eK : n_rK h k d (n_L h k d) o = decide (m_g h (183 + k) o ≤ n_L h k d (m_g h (163 + k) o) ∧ m_g h (183 + k) o ≤ n_L h k d (m_g h (173 + k) o) ∧ n_L h k d (m_g h (163 + k) o) + n_L h k d (m_g h (173 + k) o) - m_g h (183 + k) o ≤ 1500) := by rw [← eL1, eL]; unfold n_rK; rw [if_neg c1, if_neg c2, if_neg c4, if_pos c5]
      have eS1 : ∀ i, n_S h k d o i = n_jn (n_S h k d (m_g h (163 + k) o)) (n_S h k d (m_g h (173 + k) o)) (n_L h k d (m_g h (163 + k) o) - m_g h (183 + k) o) (m_g h (183 + k) o) i := fun i => by rw [eS]; unfold n_rS; rw [if_neg c1, if_neg c2, if_neg c3, if_neg c4, if_pos c5]
      obtain ⟨f1, f2⟩ := n_t3joined (v := 26 + 2 * o) (w := w) (u := 26 + 2 * m_g h (173 + k) o) (k := m_g h (183 + k) o) J.1 hv hw hu wn (by omega) sw su (by omega) (by omega) (by omega) (by omega) b7.1 b11
      rw [e1, u1] at f1 f2
      rw [if_pos c5, if_pos ta, n_otherC J C' o0 o1, n_bs]
      dsimp only
      rw [if_pos t20, n_rowC J y.1 (by omega), n_bs]
      dsimp only
      rw [od.2.2.2.1 (by omega), eK]
      by_cases z : m_g h (183 + k) o ≤ n_L h k d (m_g h (163 + k) o) ∧ m_g h (183 + k) o ≤ n_L h k d (m_g h (173 + k) o) ∧ n_L h k d (m_g h (163 + k) o) + n_L h k d (m_g h (173 + k) o) - m_g h (183 + k) o ≤ 1500
      · obtain ⟨h', e2, A⟩ := f2 z
        obtain ⟨g1, g2⟩ := fin h' _ _ A.1 eL1.symm (fun j j0 j1 => by rw [eS1]; exact n_jn_eq (l2 := n_L h k d (m_g h (173 + k) o)) b7.1 (fun i i0 i1 => erz i i0 (by omega)) urz z.2.1 j0 (by omega))
        rw [e2, n_bs, decide_eq_true z]
        exact ⟨h', rfl, g1, fun _ => g2⟩
      · rw [f1 z, n_bs, decide_eq_false z]
        exact ⟨hh, rfl, F, fun q => by cases q⟩
    rw [if_neg c5]
    by_cases c6 : m_g h (153 + k) o = 6
    · have eL1 : n_L h k d o = m_g h (183 + k) o := by rw [eL]; unfold n_rL; rw [if_neg c1, if_neg c2, if_neg c4, if_neg c5, if_pos c6]
      have eK : n_rK h k d (n_L h k d) o = decide (1 ≤ m_g h (183 + k) o) := by unfold n_rK; rw [if_neg c1, if_neg c2, if_neg c4, if_neg c5, if_pos c6]
      have eS1 : ∀ i, n_S h k d o i = n_S h k d (m_g h (163 + k) o) (Int.tmod i (n_L h k d (m_g h (163 + k) o))) := fun i => by rw [eS]; unfold n_rS; rw [if_neg c1, if_neg c2, if_neg c3, if_neg c4, if_neg c5, if_pos c6]
      obtain ⟨h', e2, A⟩ := n_fillRound (v := 26 + 2 * o) (w := w) (n := m_g h (183 + k) o) J.1 hv hw wn b7.1 (by omega) (by omega) sw
      obtain ⟨g1, g2⟩ := fin h' _ _ A.1 eL1.symm (fun j j0 j1 => by
        have t := n_td (x := j) (q := n_L h k d (m_g h (163 + k) o)) j0 l1
        rw [eS1, e1, erz _ t.2.2.2.2.1 t.2.2.2.2.2])
      rw [if_pos c6, if_pos hv, od.2.2.2.1 (by omega), e2, n_bs]
      dsimp only
      rw [n_isLen (by omega) (by omega), n_bs, eK, show decide (1 ≤ m_g h (183 + k) o ∧ m_g h (183 + k) o ≤ 1500) = decide (1 ≤ m_g h (183 + k) o) from decide_eq_decide.mpr (by omega)]
      exact ⟨h', rfl, g1, fun _ => g2⟩
    rw [if_neg c6]
    -- a copy of the row ahead, for echo and gain
    obtain ⟨x1, p1, A1⟩ := n_fillPartC (v := 26 + 2 * o) (w := w) (b := 0) (n := n_L h k d (m_g h (163 + k) o)) J.1 hv hw wn (by omega) (by omega) (by omega) (by omega) sw
    have W1 := n_rw_wf J.1 hv A1.1
    have hv1 : m_t x1 (26 + 2 * o) = 5 := A1.1.1.1
    have n1 : m_g x1 (26 + 2 * o) 1 = n_L h k d (m_g h (163 + k) o) := A1.1.2.2.1
    have rg1 : ∀ j, n_rg x1 (26 + 2 * o) j = n_z (n_S h k d (m_g h (163 + k) o)) (n_L h k d (m_g h (163 + k) o)) j := fun j => by
      rw [n_rw_rg A1.1]
      unfold n_z
      by_cases z : 0 ≤ j ∧ j < n_L h k d (m_g h (163 + k) o)
      · rw [if_pos z, if_pos z, show 0 + j = j by omega, erz j z.1 z.2]
      · rw [if_neg z, if_neg z]
    have sv1 : n_sv x1 (26 + 2 * o) := fun j => by
      rw [rg1]
      unfold n_z
      by_cases z : 0 ≤ j ∧ j < n_L h k d (m_g h (163 + k) o)
      · rw [if_pos z]; exact s1 j z.1 z.2
      · rw [if_neg z]; omega
    have eLs : m_g h (153 + k) o ≠ 8 → n_L h k d o = n_L h k d (m_g h (163 + k) o) := fun z => by rw [eL]; unfold n_rL; rw [if_neg c1, if_neg c2, if_neg c4, if_neg c5, if_neg c6, if_neg z]
    by_cases c7 : m_g h (153 + k) o = 7
    · have y := b.2.2.2.2.2.2.2.2.2.2.2.1 c7
      have eK : n_rK h k d (n_L h k d) o = true := by unfold n_rK; rw [if_neg c1, if_neg c2, if_neg c4, if_neg c5, if_neg c6, if_neg (by omega), if_neg (by omega), if_neg (by omega)]
      have eS1 : ∀ i, n_S h k d o i = n_ecT (n_S h k d (m_g h (163 + k) o)) (m_g h (183 + k) o) (m_g h (193 + k) o) (n_L h k d (m_g h (163 + k) o)).toNat i := fun i => by rw [eS]; unfold n_rS; rw [if_neg c1, if_neg c2, if_neg c3, if_neg c4, if_neg c5, if_neg c6, if_pos c7]
      obtain ⟨h', e2, A⟩ := n_echo (a := m_g h (183 + k) o) (b := m_g h (193 + k) o) W1 hv1 sv1 y.1 y.2.1 y.2.2.1 y.2.2.2
      rw [n1] at A
      have AA := n_rw_trans J.1 hv A1.1 A.1
      obtain ⟨g1, g2⟩ := fin h' _ _ AA (eLs (by omega)).symm (fun j j0 j1 => by
        rw [eS1]
        exact n_ecT_c (N := n_L h k d (m_g h (163 + k) o)) (fun i i0 i1 => by rw [rg1]; exact n_z_in i0 i1) y.1 _ (by omega) j j0 j1)
      rw [if_pos c7, if_pos hw, n_size hw, n_bs, e1]
      dsimp only
      rw [if_pos hv, p1, n_bs]
      dsimp only
      rw [if_pos hv1, od.2.2.2.1 (by omega), od.2.2.2.2.1 (by omega), e2, n_bs, eK]
      exact ⟨h', rfl, g1, fun _ => g2⟩
    rw [if_neg c7]
    by_cases c8 : m_g h (153 + k) o = 8
    · have eL1 : n_L h k d o = Int.tdiv ((n_L h k d (m_g h (163 + k) o) - 1) * 1000) (1000 + m_g h 142 (m_g h (183 + k) o)) + 1 := by rw [eL]; unfold n_rL; rw [if_neg c1, if_neg c2, if_neg c4, if_neg c5, if_neg c6, if_pos c8]
      have eK : n_rK h k d (n_L h k d) o = decide (m_g h (183 + k) o < m_g h 127 23 ∧ n_L h k d o ≤ 1500) := by unfold n_rK; rw [if_neg c1, if_neg c2, if_neg c4, if_neg c5, if_neg c6, if_pos c8, eL]
      have eS1 : ∀ i, n_S h k d o i = n_cl (Int.tdiv (n_cl (n_play (n_S h k d (m_g h (163 + k) o)) (n_L h k d (m_g h (163 + k) o)) i (1000 + m_g h 142 (m_g h (183 + k) o)) 1000) * m_g h 143 (m_g h (183 + k) o)) 64) := fun i => by rw [eS]; unfold n_rS; rw [if_neg c1, if_neg c2, if_neg c3, if_neg c4, if_neg c5, if_neg c6, if_neg c7, if_pos c8]
      rw [if_pos c8, if_pos t20, n_p20_0 J.2, if_pos (n_t2 J.2), od.2.2.2.1 (by omega), eK]
      by_cases z0 : m_g h (183 + k) o < m_g h 127 23
      · have mm := S'.2.2.1 (m_g h (183 + k) o) b7.1 z0
        have mb := G.2.2.1 (m_g h (183 + k) o) b7.1 z0
        unfold n_mach at mm
        unfold n_macB at mb
        have ec : t0_copyPace (m_g hh 4 (m_g h (183 + k) o)) hh = some (1000 + m_g h 142 (m_g h (183 + k) o), hh) := by unfold t0_copyPace; rw [if_pos mm.1.1, mm.2.1]
        have ps := n_playedSize (h := hh) (w := w) (p := 1000 + m_g h 142 (m_g h (183 + k) o)) (q := 1000) hw (by omega) (by omega) (by omega) (by omega) (by omega) (by omega)
        rw [e1, ← eL1] at ps
        have nb := n_td (x := (n_L h k d (m_g h (163 + k) o) - 1) * 1000) (q := 1000 + m_g h 142 (m_g h (183 + k) o)) (Int.mul_nonneg (by omega) (by omega)) (by omega)
        have nb2 : 1 ≤ n_L h k d o ∧ n_L h k d o ≤ 2000000 := by omega
        rw [n_machineOf_y J S' G ⟨b7.1, z0⟩, n_bs]
        dsimp only
        unfold t3_fillCopied
        rw [if_neg (by omega), if_pos mm.1.1, ec, n_bs]
        dsimp only
        rw [if_pos hw, ps, n_bs]
        dsimp only
        rw [n_isLen (by omega) (by omega), n_bs]
        dsimp only
        by_cases z : n_L h k d o ≤ 1500
        · obtain ⟨x2, e2, A⟩ := n_fillPlayed (v := 26 + 2 * o) (w := w) (p := 1000 + m_g h 142 (m_g h (183 + k) o)) (q := 1000) (n := n_L h k d o) J.1 hv hw wn sw (by omega) (by omega) (by omega) (by omega) (by omega) (by omega) (by rw [e1, eL1]) (by omega)
          have W2 := n_rw_wf J.1 hv A.1
          have hv2 : m_t x2 (26 + 2 * o) = 5 := A.1.1.1
          have n2 : m_g x2 (26 + 2 * o) 1 = n_L h k d o := A.1.2.2.1
          have sv2 : n_sv x2 (26 + 2 * o) := fun j => by
            rw [n_rw_rg A.1]
            by_cases y : 0 ≤ j ∧ j < n_L h k d o
            · rw [if_pos y]; exact ⟨n_cl_lo _, n_cl_hi _⟩
            · rw [if_neg y]; omega
          have s4 : n_sf hh (m_g hh 4 (m_g h (183 + k) o)) := ⟨(J.1.1 _ (by omega)).2, by omega, fun r hr e => by have := (n_wf_row J.1 hr).2.1; rw [e] at this; omega⟩
          have sc := n_sf_ch J.1 hv A.1.2.2.2.2 s4
          obtain ⟨x3, e3, A3⟩ := n_level (t := m_g h 143 (m_g h (183 + k) o)) W2 hv2 sv2 (by omega) (by omega)
          rw [n2] at A3
          have AA := n_rw_trans J.1 hv A.1 A3.1
          obtain ⟨g1, g2⟩ := fin x3 _ _ AA rfl (fun j j0 j1 => by rw [eS1, n_rw_rg A.1, if_pos ⟨j0, j1⟩, e1, n_play_eq erz j0 (by omega) (by omega) (by omega)])
          rw [decide_eq_true (show 1 ≤ n_L h k d o ∧ n_L h k d o ≤ 1500 from ⟨nb2.1, z⟩), if_pos rfl, if_pos mm.1.1, ec, n_bs]
          dsimp only
          rw [if_pos hv, e2, n_bs]
          dsimp only
          rw [if_pos (show m_t x2 (m_g hh 4 (m_g h (183 + k) o)) = 0 by rw [sc.2.2.1]; exact mm.1.1), if_pos hv2, sc.2.1, mm.2.2.1, e3, n_bs]
          dsimp only
          rw [n_bs, decide_eq_true (show m_g h (183 + k) o < m_g h 127 23 ∧ n_L h k d o ≤ 1500 from ⟨z0, z⟩)]
          exact ⟨x3, rfl, g1, fun _ => g2⟩
        · rw [decide_eq_false (show ¬ (1 ≤ n_L h k d o ∧ n_L h k d o ≤ 1500) from fun q => z q.2), decide_eq_false (show ¬ (m_g h (183 + k) o < m_g h 127 23 ∧ n_L h k d o ≤ 1500) from fun q => z q.2)]
          exact ⟨hh, rfl, F, fun q => by cases q⟩
      · rw [n_machineOf_n J S' G (by omega) (by omega) (fun q => z0 q.2), n_bs, decide_eq_false (show ¬ (m_g h (183 + k) o < m_g h 127 23 ∧ n_L h k d o ≤ 1500) from fun q => z0 q.1)]
        dsimp only
        unfold t3_fillCopied
        rw [if_pos rfl, n_bs]
        exact ⟨hh, rfl, F, fun q => by cases q⟩
    rw [if_neg c8]
    by_cases c9 : m_g h (153 + k) o = 9
    · have y := b.2.2.2.2.2.2.2.2.2.2.2.2.2.1 c9
      have eK : n_rK h k d (n_L h k d) o = true := by unfold n_rK; rw [if_neg c1, if_neg c2, if_neg c4, if_neg c5, if_neg c6, if_neg c8, if_neg (by omega), if_neg (by omega)]
      have eS1 : ∀ i, n_S h k d o i = n_cl (n_ft (n_S h k d (m_g h (163 + k) o)) (n_L h k d (m_g h (163 + k) o)) (m_g h (183 + k) o) (m_g h (193 + k) o) (m_g h (203 + k) o) i) := fun i => by rw [eS]; unfold n_rS; rw [if_neg c1, if_neg c2, if_neg c3, if_neg c4, if_neg c5, if_neg c6, if_neg c7, if_neg c8, if_pos c9]
      obtain ⟨h', e2, A⟩ := n_filt (v := 26 + 2 * o) (w := w) (x := m_g h (183 + k) o) (y := m_g h (193 + k) o) (z := m_g h (203 + k) o) J.1 hv hw wn (by omega) sw b7.1 y.1 y.2.1 y.2.2.1 y.2.2.2.1 y.2.2.2.2
      obtain ⟨g1, g2⟩ := fin h' _ _ A.1 (by rw [e1]; exact (eLs c8).symm) (fun j j0 j1 => by rw [e1] at j1; rw [eS1, er, er, er, n_z_in j0 j1]; rfl)
      rw [if_pos c9, if_pos ta, n_numC (w := 2) J C' o0 o1 (by omega) (by omega), n_bs]
      dsimp only
      rw [if_pos hv, od.2.2.2.1 (by omega), od.2.2.2.2.1 (by omega), show 8 * o + (3 + (2 : Int)) = 8 * o + 5 by omega, od.2.2.2.2.2.1 c9, e2, n_bs, eK]
      exact ⟨h', rfl, g1, fun _ => g2⟩
    rw [if_neg c9]
    by_cases c10 : m_g h (153 + k) o = 10
    · have eK : n_rK h k d (n_L h k d) o = decide (m_g h (183 + k) o ≤ n_L h k d (m_g h (163 + k) o) ∧ m_g h (193 + k) o ≤ n_L h k d (m_g h (163 + k) o)) := by unfold n_rK; rw [if_neg c1, if_neg c2, if_neg c4, if_neg c5, if_neg c6, if_neg c8, if_pos c10]
      have eS1 : ∀ i, n_S h k d o i = n_fdO (n_fdI (n_S h k d (m_g h (163 + k) o)) (m_g h (183 + k) o)) (n_L h k d (m_g h (163 + k) o)) (m_g h (193 + k) o) i := fun i => by rw [eS]; unfold n_rS; rw [if_neg c1, if_neg c2, if_neg c3, if_neg c4, if_neg c5, if_neg c6, if_neg c7, if_neg c8, if_neg c9, if_pos c10]
      have b15 := b.2.2.2.2.2.2.2.2.2.2.2.2.2.2.2.1 (Or.inr c10)
      obtain ⟨f1, f2⟩ := n_t3faded (v := 26 + 2 * o) (w := w) (a := m_g h (183 + k) o) (b := m_g h (193 + k) o) J.1 hv hw wn sw (by omega) (by omega) b7.1 b7.2 b15.1 b15.2
      rw [e1] at f1 f2
      rw [if_pos c10, od.2.2.2.1 (by omega), od.2.2.2.2.1 (by omega), eK]
      by_cases z : m_g h (183 + k) o ≤ n_L h k d (m_g h (163 + k) o) ∧ m_g h (193 + k) o ≤ n_L h k d (m_g h (163 + k) o)
      · obtain ⟨h', e2, A⟩ := f2 z
        obtain ⟨g1, g2⟩ := fin h' _ _ A (eLs c8).symm (fun j j0 j1 => by rw [eS1]; unfold n_fdO n_fdI; rw [erz j j0 j1])
        rw [e2, n_bs, decide_eq_true z]
        exact ⟨h', rfl, g1, fun _ => g2⟩
      · rw [f1 z, n_bs, decide_eq_false z]
        exact ⟨hh, rfl, F, fun q => by cases q⟩
    rw [if_neg c10]
    have b11 := b.2.2.2.2.2.2.2.2.2.2.2.2.2.2.1 (show m_g h (153 + k) o = 11 by omega)
    have eK : n_rK h k d (n_L h k d) o = true := by unfold n_rK; rw [if_neg c1, if_neg c2, if_neg c4, if_neg c5, if_neg c6, if_neg c8, if_neg c10, if_neg v12]
    have eS1 : ∀ i, n_S h k d o i = n_cl (Int.tdiv (n_S h k d (m_g h (163 + k) o) i * m_g h (183 + k) o) 64) := fun i => by rw [eS]; unfold n_rS; rw [if_neg c1, if_neg c2, if_neg c3, if_neg c4, if_neg c5, if_neg c6, if_neg c7, if_neg c8, if_neg c9, if_neg c10]
    obtain ⟨h', e2, A⟩ := n_level (t := m_g h (183 + k) o) W1 hv1 sv1 b7.1 b11
    rw [n1] at A
    have AA := n_rw_trans J.1 hv A1.1 A.1
    obtain ⟨g1, g2⟩ := fin h' _ _ AA (eLs c8).symm (fun j j0 j1 => by rw [eS1, rg1, n_z_in j0 j1])
    rw [if_pos hw, n_size hw, n_bs, e1]
    dsimp only
    rw [if_pos hv, p1, n_bs]
    dsimp only
    rw [if_pos hv1, od.2.2.2.1 c3, e2, n_bs, eK]
    exact ⟨h', rfl, g1, fun _ => g2⟩
