/-! CALLS: make ..: the reference does an order -/
theorem n_rop_rip {g g1 g2 : m_H} {o n : Int} {f f2 : Int → Int} (A : n_rop g g1 o n f) (B : n_rip g1 g2 o n f2) (o0 : 0 ≤ o) (o1 : o < 40) : n_rop g g2 o n f2 :=
  ⟨B.1, B.2.1.trans A.2.1, (B.2.2.2 278 o (by omega)).trans A.2.2.1, B.2.2.1, fun b j h1 h2 h3 => (B.2.2.2 b j h2).trans (A.2.2.2.2 b j h1 h2 h3)⟩
theorem n_doesR {g gg : m_H} {k a d o : Int} (G : n_gs g) {hq : m_H} (C : n_scc hq g k a) (d1 : -2147483648 ≤ d) (d2 : d < 2147483648) (o0 : 0 ≤ o) (o1 : o < m_g g 151 k) (st : n_stD g k d o) (F : n_rF g gg) (R : n_rR g gg k d o o) (Y : n_rY g gg k d o 0) : ∃ g', t11_does 127 k o d gg = some (n_rK g k d (n_L g k d) o, g') ∧ n_rF g g' ∧ (n_rK g k d (n_L g k d) o = true → n_rR g g' k d (o + 1) (o + 1) ∧ n_rY g g' k d (o + 1) 0) := by
  have C3 := C.2.2.1
  have k0 := C.2.1.1
  have k8 := C.2.1.2
  have k1 : k < 9 := by omega
  have oh : o < 40 := by omega
  have b := n_scc_b C o0 o1
  have b1 := b.1
  have b2 := b.2.1
  have bl := n_below b
  have Bs := G.1
  unfold n_shB at Bs
  have oka : ∀ q, 0 ≤ q → q < o → m_g g (153 + k) q ≠ 12 → n_okO g k d q := fun q q0 q1 qv => n_okAll G (N := m_g g 151 k) (fun z z0 z1 => n_scc_b C z0 z1) o.toNat (by omega) (fun z z0 z1 => st z z0 (by omega)) q q0 (by omega) qv
  have eL := n_L_eq (d := d) b o0
  have eS := fun i => n_S_eq (d := d) b o0 i
  have FF := F.1.2
  have wk := m_w_of (x := k) (by omega) (by omega)
  have wo := m_w_of (x := o) (by omega) (by omega)
  have wv := m_w_of (x := m_g g (153 + k) o) (by omega) (by omega)
  -- the source is none yet
  have J : n_I (m_p gg 279 o (-1)) := n_I_pa F.1 (Or.inl (n_t279 FF))
  have F6 : n_rF g (m_p gg 279 o (-1)) := ⟨J, F.2.1, fun b j h1 h2 => (n_gp_n (by omega)).trans (F.2.2 b j h1 h2)⟩
  have oth : ∀ b j, ¬ (b = 279 ∧ j = o) → m_g (m_p gg 279 o (-1)) b j = m_g gg b j := fun b j h => n_gp_n h
  have Y6 : n_rY g (m_p gg 279 o (-1)) k d o 0 := by
    obtain ⟨y1, y2, y3, y4⟩ := Y
    refine ⟨by rw [oth 127 58 (by omega)]; exact y1, fun q i q0 i0 hq => by rw [oth 281 _ (by omega), oth 282 _ (by omega), oth 283 _ (by omega), oth 284 _ (by omega)]; exact y2 q i q0 i0 hq, fun t t0 t1 => by rw [oth 280 t (by omega)]; exact y3 t t0 t1, by rw [oth 127 59 (by omega)]; exact y4⟩
  have R6 : ∀ x, (2 ≤ m_g g (153 + k) o → x = -1) → n_rR g (m_p gg 279 o (-1)) k d o o := fun x _ => ⟨fun q q0 q1 qv => by
    obtain ⟨x1, x2⟩ := R.1 q q0 q1 qv
    exact ⟨by rw [oth 278 q (by omega)]; exact x1, fun i i0 i1 => by rw [oth (238 + q) i (by omega)]; exact x2 i i0 i1⟩, fun q q0 q1 => by rw [oth 279 q (by omega)]; exact R.2 q q0 q1⟩
  have R6' := R6 (-1) (fun _ => rfl)
  have R7 : 2 ≤ m_g g (153 + k) o → n_rR g (m_p gg 279 o (-1)) k d o (o + 1) := fun hv => ⟨R6'.1, fun q q0 q1 => by
    by_cases c : q = o
    · subst c
      rw [n_gp_y ⟨rfl, rfl⟩]
      unfold n_sOf
      rw [if_neg (by omega), if_neg (by omega)]
    · exact R6'.2 q q0 (by omega)⟩
  have fin : ∀ g' N f, 2 ≤ m_g g (153 + k) o → m_g g (153 + k) o ≠ 12 → n_rop (m_p gg 279 o (-1)) g' o N f → N = n_L g k d o → (∀ j, 0 ≤ j → j < N → f j = n_S g k d o j) → n_rF g g' ∧ n_rR g g' k d (o + 1) (o + 1) ∧ n_rY g g' k d (o + 1) 0 := fun g' N f hv v12 A e1 e2 => ⟨n_rop_F F6 o0 oh A, n_rop_R (R7 hv) Y6 o0 oh v12 A e1 e2⟩
  have c52 := n_c52 FF o0 oh
  rw [n_p127_52 FF] at c52
  unfold t11_does
  rw [if_pos (n_t127 FF), wk, wo, if_pos (n_c36 FF k0 k1), n_a36 FF k0 k1, if_pos (n_d36 FF k0 k1 o0 oh), F.2.2 (163 + k) o (by omega) (by omega), n_bs, n_p127_52 FF, if_pos c52, n_bs]
  have rr : ∀ b j, 151 ≤ b → b < 232 → m_g (m_p gg 279 o (-1)) b j = m_g g b j := fun b j h1 h2 => F6.2.2 b j (by omega) (by omega)
  have r142 : ∀ b j, 142 ≤ b → b < 144 → m_g (m_p gg 279 o (-1)) b j = m_g g b j := fun b j h1 h2 => F6.2.2 b j (by omega) (by omega)
  have r23 : m_g (m_p gg 279 o (-1)) 127 23 = m_g g 127 23 := F6.2.2 127 23 (by omega) (by omega)
  have GG := n_rF_gs G F6
  have sO6 := n_rF_sOf F6 k0 k8 o d
  have b6 := n_ordB_e (g' := m_p gg 279 o (-1)) (fun b j hb => F6.2.2 b j (by omega) (by omega)) k0 k1 b
  generalize hg6 : m_p gg 279 o (-1) = g6 at *
  have F6' := J.2
  have tM := n_t127 F6'
  rw [if_pos tM, if_pos (n_c35 F6' k0 k1), n_a35 F6' k0 k1, if_pos (n_d35 F6' k0 k1 o0 oh), rr (153 + k) o (by omega) (by omega), wv]
  by_cases c1 : m_g g (153 + k) o ≤ 1
  · have eK : n_rK g k d (n_L g k d) o = decide (n_sOf g k o d ≠ -1) := by unfold n_rK; rw [if_pos c1]
    have eL1 : n_L g k d o = m_g g 131 (n_sOf g k o d) := by rw [eL]; unfold n_rL; rw [if_pos c1]
    have eS1 : ∀ i, n_S g k d o i = n_smp g (n_sOf g k o d) i := fun i => by rw [eS]; unfold n_rS; rw [if_pos c1]
    obtain ⟨f1, f2⟩ := n_rtake (d := d) J GG k0 k8 o0 oh b6 (by rw [rr (153 + k) o (by omega) (by omega)]; exact c1) d1 d2
    rw [sO6] at f1 f2
    have both : ∃ g', (t11_takes 127 k o d g6 >>= fun ⟨r12, h11⟩ => some (r12, h11)) = some (n_rK g k d (n_L g k d) o, g') ∧ n_rF g g' ∧ (n_rK g k d (n_L g k d) o = true → n_rR g g' k d (o + 1) (o + 1) ∧ n_rY g g' k d (o + 1) 0) := by
      have J7 : n_I (m_p g6 279 o (n_sOf g k o d)) := n_I_pa J (Or.inl (n_t279 F6'))
      have F7 : n_rF g (m_p g6 279 o (n_sOf g k o d)) := ⟨J7, F6.2.1, fun b j h1 h2 => (n_gp_n (by omega)).trans (F6.2.2 b j h1 h2)⟩
      rw [eK]
      by_cases z : n_sOf g k o d = -1
      · rw [f1 z, n_bs, decide_eq_false (by omega)]
        exact ⟨_, rfl, F7, fun q => by cases q⟩
      · obtain ⟨g', e1, A⟩ := f2 z
        have oth7 : ∀ b j, ¬ (b = 279 ∧ j = o) → m_g (m_p g6 279 o (n_sOf g k o d)) b j = m_g g6 b j := fun b j h => n_gp_n h
        have R8 : n_rR g (m_p g6 279 o (n_sOf g k o d)) k d o (o + 1) := ⟨fun q q0 q1 qv => by
          obtain ⟨x1, x2⟩ := R6'.1 q q0 q1 qv
          exact ⟨by rw [oth7 278 q (by omega)]; exact x1, fun i i0 i1 => by rw [oth7 (238 + q) i (by omega)]; exact x2 i i0 i1⟩, fun q q0 q1 => by
          by_cases c : q = o
          · rw [c, n_gp_y ⟨rfl, rfl⟩]
          · rw [oth7 279 q (by omega)]; exact R6'.2 q q0 (by omega)⟩
        have Y8 : n_rY g (m_p g6 279 o (n_sOf g k o d)) k d o 0 := by
          obtain ⟨y1, y2, y3, y4⟩ := Y6
          refine ⟨by rw [oth7 127 58 (by omega)]; exact y1, fun q i q0 i0 hq => by rw [oth7 281 _ (by omega), oth7 282 _ (by omega), oth7 283 _ (by omega), oth7 284 _ (by omega)]; exact y2 q i q0 i0 hq, fun t t0 t1 => by rw [oth7 280 t (by omega)]; exact y3 t t0 t1, by rw [oth7 127 59 (by omega)]; exact y4⟩
        have so := n_sOf_b (g := g) (k := k) (o := o) (d := d) Bs.1
        have e131 : m_g g6 131 (n_sOf g k o d) = m_g g 131 (n_sOf g k o d) := F6.2.2 131 _ (by omega) (by omega)
        have esm : ∀ i, n_smp g6 (n_sOf g k o d) i = n_smp g (n_sOf g k o d) i := fun i => by unfold n_smp; rw [F6.2.2 130 _ (by omega) (by omega), F6.2.2 128 _ (by omega) (by omega)]
        rw [e1, n_bs, decide_eq_true z]
        exact ⟨g', rfl, n_rop_F F7 o0 oh A, fun _ => n_rop_R R8 Y8 o0 oh (by omega) A (by rw [e131, eL1]) (fun j j0 j1 => by rw [esm, eS1])⟩
    by_cases c0 : m_g g (153 + k) o = 0
    · rw [if_pos c0]; exact both
    · rw [if_neg c0, if_pos (by omega)]; exact both
  · have hv2 : 2 ≤ m_g g (153 + k) o := by omega
    have q1 := b.2.2.2.1 hv2
    have ah : m_g g (163 + k) o < 40 := by omega
    have kk1 := oka _ q1.1 q1.2.1 q1.2.2
    have kk1' := kk1
    obtain ⟨e1, erz⟩ := R6'.1 _ q1.1 q1.2.1 q1.2.2
    obtain ⟨l1, l2, s1⟩ := kk1'
    have l1' : 1 ≤ m_g g6 278 (m_g g (163 + k) o) := by rw [e1]; exact l1
    have l2' : m_g g6 278 (m_g g (163 + k) o) ≤ 1500 := by rw [e1]; exact l2
    have s1' : n_sB (m_g g6 (238 + m_g g (163 + k) o)) (m_g g6 278 (m_g g (163 + k) o)) := fun i i0 i1 => by rw [e1] at i1; rw [erz i i0 i1]; exact s1 i i0 i1
    have cd38 := n_d38 F6' k0 k1 o0 oh
    have cd39 := n_d39 F6' k0 k1 o0 oh
    have r38 := rr (183 + k) o (by omega) (by omega)
    have r39 := rr (193 + k) o (by omega) (by omega)
    have w38 : ∀ x y, -2147483648 ≤ x → x < 2147483648 → m_w x = y → x = y := fun x y h1 h2 h3 => by rw [m_w_of h1 h2] at h3; exact h3
    rw [if_neg (by omega), if_neg (by omega)]
    by_cases c2 : m_g g (153 + k) o = 2
    · have eK : n_rK g k d (n_L g k d) o = decide (m_g g (183 + k) o < m_g g (193 + k) o ∧ m_g g (193 + k) o ≤ n_L g k d (m_g g (163 + k) o)) := by unfold n_rK; rw [if_neg c1, if_pos c2]
      have eL1 : n_L g k d o = m_g g (193 + k) o - m_g g (183 + k) o := by rw [eL]; unfold n_rL; rw [if_neg c1, if_pos c2]
      have eS1 : ∀ i, n_S g k d o i = n_S g k d (m_g g (163 + k) o) (m_g g (183 + k) o + i) := fun i => by rw [eS]; unfold n_rS; rw [if_neg c1, if_pos c2]
      have b7 := b.2.2.2.2.2.2.1 (by omega)
      have b15 := b.2.2.2.2.2.2.2.2.2.2.2.2.2.2.2.1 (Or.inl c2)
      obtain ⟨f1, f2⟩ := n_rcut (g := g6) (o := o) (a := m_g g (163 + k) o) (x := m_g g (183 + k) o) (y := m_g g (193 + k) o) J o0 oh q1.1 q1.2.1 l1' l2' b7.1 b7.2 b15.1 b15.2
      rw [e1] at f1 f2
      rw [if_pos c2, if_pos (n_c38 F6' k0 k1), n_a38 F6' k0 k1, if_pos cd38, if_pos (n_c39 F6' k0 k1), n_a39 F6' k0 k1, if_pos cd39, r38, r39, eK]
      by_cases z : m_g g (183 + k) o < m_g g (193 + k) o ∧ m_g g (193 + k) o ≤ n_L g k d (m_g g (163 + k) o)
      · obtain ⟨g', e2, A⟩ := f2 z
        obtain ⟨g1, g2⟩ := fin g' _ _ hv2 (by omega) A eL1.symm (fun j j0 j1 => by rw [eS1, erz _ (by omega) (by omega)])
        rw [e2, n_bs, decide_eq_true z]
        exact ⟨g', rfl, g1, fun _ => g2⟩
      · rw [f1 z, n_bs, decide_eq_false z]
        exact ⟨g6, rfl, F6, fun q => by cases q⟩
    rw [if_neg c2]
    by_cases c3 : m_g g (153 + k) o = 3
    · have eK : n_rK g k d (n_L g k d) o = true := by unfold n_rK; rw [if_neg c1, if_neg c2, if_neg (by omega), if_neg (by omega), if_neg (by omega), if_neg (by omega), if_neg (by omega), if_neg (by omega)]
      have eL1 : n_L g k d o = n_L g k d (m_g g (163 + k) o) := by rw [eL]; unfold n_rL; rw [if_neg c1, if_neg c2, if_neg (by omega), if_neg (by omega), if_neg (by omega), if_neg (by omega)]
      have eS1 : ∀ i, n_S g k d o i = n_S g k d (m_g g (163 + k) o) (n_L g k d (m_g g (163 + k) o) - 1 - i) := fun i => by rw [eS]; unfold n_rS; rw [if_neg c1, if_neg c2, if_pos c3]
      obtain ⟨g', e2, A⟩ := n_rturn (g := g6) (o := o) (a := m_g g (163 + k) o) J o0 oh q1.1 q1.2.1 l1' l2'
      obtain ⟨g1, g2⟩ := fin g' _ _ hv2 (by omega) A (by rw [e1, eL1]) (fun j j0 j1 => by rw [e1] at j1 ⊢; rw [eS1, erz _ (by omega) (by omega)])
      rw [if_pos c3, e2, eK]
      exact ⟨g', rfl, g1, fun _ => g2⟩
    rw [if_neg c3]
    have b7 := b.2.2.2.2.2.2.1 c3
    by_cases c4 : m_g g (153 + k) o = 4
    · have y := b.2.2.2.2.2.2.2.2.2.1 c4
      have eL1 : n_L g k d o = Int.tdiv ((n_L g k d (m_g g (163 + k) o) - 1) * m_g g (193 + k) o) (m_g g (183 + k) o) + 1 := by rw [eL]; unfold n_rL; rw [if_neg c1, if_neg c2, if_pos c4]
      have eK : n_rK g k d (n_L g k d) o = decide (n_L g k d o ≤ 1500) := by unfold n_rK; rw [if_neg c1, if_neg c2, if_pos c4, eL]
      have eS1 : ∀ i, n_S g k d o i = n_cl (n_play (n_S g k d (m_g g (163 + k) o)) (n_L g k d (m_g g (163 + k) o)) i (m_g g (183 + k) o) (m_g g (193 + k) o)) := fun i => by rw [eS]; unfold n_rS; rw [if_neg c1, if_neg c2, if_neg c3, if_pos c4]
      obtain ⟨f1, f2⟩ := n_rplay (g := g6) (o := o) (a := m_g g (163 + k) o) (p := m_g g (183 + k) o) (q := m_g g (193 + k) o) (l := 64) (n := n_L g k d o) J o0 oh q1.1 q1.2.1 l1' l2' (by omega) (by omega) (by omega) (by omega) (by omega) (by omega) s1' (by rw [e1, eL1])
      rw [if_pos c4, if_pos (n_c38 F6' k0 k1), n_a38 F6' k0 k1, if_pos cd38, if_pos (n_c39 F6' k0 k1), n_a39 F6' k0 k1, if_pos cd39, r38, r39, eK]
      by_cases z : n_L g k d o ≤ 1500
      · obtain ⟨g', e2, A⟩ := f2 z
        obtain ⟨g1, g2⟩ := fin g' _ _ hv2 (by omega) A rfl (fun j j0 j1 => by
          have cb := n_cl_lo (n_play (n_S g k d (m_g g (163 + k) o)) (n_L g k d (m_g g (163 + k) o)) j (m_g g (183 + k) o) (m_g g (193 + k) o))
          have cb2 := n_cl_hi (n_play (n_S g k d (m_g g (163 + k) o)) (n_L g k d (m_g g (163 + k) o)) j (m_g g (183 + k) o) (m_g g (193 + k) o))
          rw [eS1, e1, n_play_eq erz j0 (by omega) (by omega) (by omega), Int.mul_tdiv_cancel _ (by omega), n_cl_of cb cb2])
        rw [e2, n_bs, decide_eq_true z]
        exact ⟨g', rfl, g1, fun _ => g2⟩
      · rw [f1 z, n_bs, decide_eq_false z]
        exact ⟨g6, rfl, F6, fun q => by cases q⟩
    rw [if_neg c4]
    by_cases c5 : m_g g (153 + k) o = 5
    · have y := b.2.2.2.2.2.1 c5
      have kk2 := oka _ y.1 y.2.1 y.2.2
      obtain ⟨u1, urz⟩ := R6'.1 _ y.1 y.2.1 y.2.2
      obtain ⟨m1, m2, s2⟩ := kk2
      have b11 := b.2.2.2.2.2.2.2.2.2.2.1 c5
      have eL1 : n_L g k d o = n_L g k d (m_g g (163 + k) o) + n_L g k d (m_g g (173 + k) o) - m_g g (183 + k) o := by rw [eL]; unfold n_rL; rw [if_neg c1, if_neg c2, if_neg c4, if_pos c5]
      have eK : n_rK g k d (n_L g k d) o = decide (m_g g (183 + k) o ≤ n_L g k d (m_g g (163 + k) o) ∧ m_g g (183 + k) o ≤ n_L g k d (m_g g (173 + k) o) ∧ n_L g k d (m_g g (163 + k) o) + n_L g k d (m_g g (173 + k) o) - m_g g (183 + k) o ≤ 1500) := by rw [← eL1, eL]; unfold n_rK; rw [if_neg c1, if_neg c2, if_neg c4, if_pos c5]
      have eS1 : ∀ i, n_S g k d o i = n_jn (n_S g k d (m_g g (163 + k) o)) (n_S g k d (m_g g (173 + k) o)) (n_L g k d (m_g g (163 + k) o) - m_g g (183 + k) o) (m_g g (183 + k) o) i := fun i => by rw [eS]; unfold n_rS; rw [if_neg c1, if_neg c2, if_neg c3, if_neg c4, if_pos c5]
      obtain ⟨f1, f2⟩ := n_rjoin (g := g6) (o := o) (a := m_g g (163 + k) o) (b := m_g g (173 + k) o) (k := m_g g (183 + k) o) J o0 oh q1.1 q1.2.1 y.1 y.2.1 l1' l2' (by rw [u1]; exact m1) (by rw [u1]; exact m2) b7.1 b11 s1' (fun i i0 i1 => by rw [u1] at i1; rw [urz i i0 i1]; exact s2 i i0 i1)
      rw [e1, u1] at f1 f2
      rw [if_pos c5, if_pos (n_c37 F6' k0 k1), n_a37 F6' k0 k1, if_pos (n_d37 F6' k0 k1 o0 oh), if_pos (n_c38 F6' k0 k1), n_a38 F6' k0 k1, if_pos cd38, r38, rr (173 + k) o (by omega) (by omega), eK]
      by_cases z : m_g g (183 + k) o ≤ n_L g k d (m_g g (163 + k) o) ∧ m_g g (183 + k) o ≤ n_L g k d (m_g g (173 + k) o) ∧ n_L g k d (m_g g (163 + k) o) + n_L g k d (m_g g (173 + k) o) - m_g g (183 + k) o ≤ 1500
      · obtain ⟨g', e2, A⟩ := f2 z
        obtain ⟨g1, g2⟩ := fin g' _ _ hv2 (by omega) A eL1.symm (fun j j0 j1 => by rw [eS1]; exact n_jn_eq (l2 := n_L g k d (m_g g (173 + k) o)) b7.1 (fun i i0 i1 => erz i i0 (by omega)) urz z.2.1 j0 (by omega))
        rw [e2, n_bs, decide_eq_true z]
        exact ⟨g', rfl, g1, fun _ => g2⟩
      · rw [f1 z, n_bs, decide_eq_false z]
        exact ⟨g6, rfl, F6, fun q => by cases q⟩
    rw [if_neg c5]
    by_cases c6 : m_g g (153 + k) o = 6
    · have eL1 : n_L g k d o = m_g g (183 + k) o := by rw [eL]; unfold n_rL; rw [if_neg c1, if_neg c2, if_neg c4, if_neg c5, if_pos c6]
      have eK : n_rK g k d (n_L g k d) o = decide (1 ≤ m_g g (183 + k) o) := by unfold n_rK; rw [if_neg c1, if_neg c2, if_neg c4, if_neg c5, if_pos c6]
      have eS1 : ∀ i, n_S g k d o i = n_S g k d (m_g g (163 + k) o) (Int.tmod i (n_L g k d (m_g g (163 + k) o))) := fun i => by rw [eS]; unfold n_rS; rw [if_neg c1, if_neg c2, if_neg c3, if_neg c4, if_neg c5, if_pos c6]
      obtain ⟨f1, f2⟩ := n_rloop (g := g6) (o := o) (a := m_g g (163 + k) o) (n := m_g g (183 + k) o) J o0 oh q1.1 q1.2.1 l1' l2' b7.1 b7.2
      rw [if_pos c6, if_pos (n_c38 F6' k0 k1), n_a38 F6' k0 k1, if_pos cd38, r38, eK]
      by_cases z : 1 ≤ m_g g (183 + k) o
      · obtain ⟨g', e2, A⟩ := f2 z
        obtain ⟨g1, g2⟩ := fin g' _ _ hv2 (by omega) A eL1.symm (fun j j0 j1 => by
          have t := n_td (x := j) (q := n_L g k d (m_g g (163 + k) o)) j0 l1
          rw [eS1, e1, erz _ t.2.2.2.2.1 t.2.2.2.2.2])
        rw [e2, n_bs, decide_eq_true z]
        exact ⟨g', rfl, g1, fun _ => g2⟩
      · rw [f1 z, n_bs, decide_eq_false z]
        exact ⟨g6, rfl, F6, fun q => by cases q⟩
    rw [if_neg c6]
    have eLs : m_g g (153 + k) o ≠ 8 → n_L g k d o = n_L g k d (m_g g (163 + k) o) := fun z => by rw [eL]; unfold n_rL; rw [if_neg c1, if_neg c2, if_neg c4, if_neg c5, if_neg c6, if_neg z]
    -- a copy of the row ahead, for echo and fade
    obtain ⟨x1, p1, A1⟩ := n_rlist (g := g6) (o := o) (a := m_g g (163 + k) o) J o0 oh q1.1 q1.2.1 l1' l2'
    rw [e1] at A1
    have FX := n_rop_F F6 o0 oh A1
    have rx : ∀ j, 0 ≤ j → j < n_L g k d (m_g g (163 + k) o) → m_g x1 (238 + o) j = n_S g k d (m_g g (163 + k) o) j := fun j j0 j1 => by rw [A1.2.2.2.1 j j0 j1, erz j j0 j1]
    have sx : n_sB (m_g x1 (238 + o)) (n_L g k d (m_g g (163 + k) o)) := fun j j0 j1 => by rw [rx j j0 j1]; exact s1 j j0 j1
    have FX' := FX.1.2
    by_cases c7 : m_g g (153 + k) o = 7
    · have y := b.2.2.2.2.2.2.2.2.2.2.2.1 c7
      have eK : n_rK g k d (n_L g k d) o = true := by unfold n_rK; rw [if_neg c1, if_neg c2, if_neg c4, if_neg c5, if_neg c6, if_neg (by omega), if_neg (by omega), if_neg (by omega)]
      have eS1 : ∀ i, n_S g k d o i = n_ecT (n_S g k d (m_g g (163 + k) o)) (m_g g (183 + k) o) (m_g g (193 + k) o) (n_L g k d (m_g g (163 + k) o)).toNat i := fun i => by rw [eS]; unfold n_rS; rw [if_neg c1, if_neg c2, if_neg c3, if_neg c4, if_neg c5, if_neg c6, if_pos c7]
      obtain ⟨g', e2, A⟩ := n_recho (a := m_g g (183 + k) o) (b := m_g g (193 + k) o) FX.1 o0 oh A1.2.2.1 l1 l2 y.1 y.2.1 y.2.2.1 y.2.2.2 sx
      have AA := n_rop_rip A1 A o0 oh
      obtain ⟨g1, g2⟩ := fin g' _ _ hv2 (by omega) AA (eLs (by omega)).symm (fun j j0 j1 => by
        rw [eS1]
        exact n_ecT_c (N := n_L g k d (m_g g (163 + k) o)) rx y.1 _ (by omega) j j0 j1)
      rw [if_pos c7, p1, n_bs]
      dsimp only
      rw [if_pos (n_t127 FX'), if_pos (n_c38 FX' k0 k1), n_a38 FX' k0 k1, if_pos (n_d38 FX' k0 k1 o0 oh), if_pos (n_c39 FX' k0 k1), n_a39 FX' k0 k1, if_pos (n_d39 FX' k0 k1 o0 oh), FX.2.2 (183 + k) o (by omega) (by omega), FX.2.2 (193 + k) o (by omega) (by omega), e2, n_bs, eK]
      exact ⟨g', rfl, g1, fun _ => g2⟩
    rw [if_neg c7]
    by_cases c8 : m_g g (153 + k) o = 8
    · have eL1 : n_L g k d o = Int.tdiv ((n_L g k d (m_g g (163 + k) o) - 1) * 1000) (1000 + m_g g 142 (m_g g (183 + k) o)) + 1 := by rw [eL]; unfold n_rL; rw [if_neg c1, if_neg c2, if_neg c4, if_neg c5, if_neg c6, if_pos c8]
      have eK : n_rK g k d (n_L g k d) o = decide (m_g g (183 + k) o < m_g g 127 23 ∧ n_L g k d o ≤ 1500) := by unfold n_rK; rw [if_neg c1, if_neg c2, if_neg c4, if_neg c5, if_neg c6, if_pos c8, eL]
      have eS1 : ∀ i, n_S g k d o i = n_cl (Int.tdiv (n_cl (n_play (n_S g k d (m_g g (163 + k) o)) (n_L g k d (m_g g (163 + k) o)) i (1000 + m_g g 142 (m_g g (183 + k) o)) 1000) * m_g g 143 (m_g g (183 + k) o)) 64) := fun i => by rw [eS]; unfold n_rS; rw [if_neg c1, if_neg c2, if_neg c3, if_neg c4, if_neg c5, if_neg c6, if_neg c7, if_pos c8]
      have im := n_isMachine (g := g6) (i := m_g g (183 + k) o) J (by rw [r23]; omega) (by rw [r23]; omega) (by omega) (by omega)
      rw [r23] at im
      rw [if_pos c8, if_pos (n_c38 F6' k0 k1), n_a38 F6' k0 k1, if_pos cd38, r38, im, n_bs, eK]
      dsimp only
      by_cases z0 : m_g g (183 + k) o < m_g g 127 23
      · have mb := G.2.2.1 (m_g g (183 + k) o) b7.1 z0
        unfold n_macB at mb
        obtain ⟨f1, f2⟩ := n_rplay (g := g6) (o := o) (a := m_g g (163 + k) o) (p := 1000 + m_g g 142 (m_g g (183 + k) o)) (q := 1000) (l := m_g g 143 (m_g g (183 + k) o)) (n := n_L g k d o) J o0 oh q1.1 q1.2.1 l1' l2' (by omega) (by omega) (by omega) (by omega) (by omega) (by omega) s1' (by rw [e1, eL1])
        have l142 := n_l142 F6'
        have l143 := n_l143 F6'
        rw [decide_eq_true (show 0 ≤ m_g g (183 + k) o ∧ m_g g (183 + k) o < m_g g 127 23 from ⟨b7.1, z0⟩), if_pos rfl, if_pos tM, if_pos (n_c38 F6' k0 k1), n_a38 F6' k0 k1, if_pos cd38, r38, m_w_of (x := m_g g (183 + k) o) (by omega) (by omega), n_p127_19 F6', if_pos ⟨n_t142 F6', b7.1, by omega⟩, n_p127_20 F6', if_pos ⟨n_t143 F6', b7.1, by omega⟩, r142 142 _ (by omega) (by omega), r142 143 _ (by omega) (by omega)]
        by_cases z : n_L g k d o ≤ 1500
        · obtain ⟨g', e2, A⟩ := f2 z
          obtain ⟨g1, g2⟩ := fin g' _ _ hv2 (by omega) A rfl (fun j j0 j1 => by rw [eS1, e1, n_play_eq erz j0 (by omega) (by omega) (by omega)])
          rw [e2, n_bs, decide_eq_true (show m_g g (183 + k) o < m_g g 127 23 ∧ n_L g k d o ≤ 1500 from ⟨z0, z⟩)]
          exact ⟨g', rfl, g1, fun _ => g2⟩
        · rw [f1 z, n_bs, decide_eq_false (show ¬ (m_g g (183 + k) o < m_g g 127 23 ∧ n_L g k d o ≤ 1500) from fun q => z q.2)]
          exact ⟨g6, rfl, F6, fun q => by cases q⟩
      · rw [decide_eq_false (show ¬ (0 ≤ m_g g (183 + k) o ∧ m_g g (183 + k) o < m_g g 127 23) from fun q => z0 q.2), decide_eq_false (show ¬ (m_g g (183 + k) o < m_g g 127 23 ∧ n_L g k d o ≤ 1500) from fun q => z0 q.1)]
        exact ⟨g6, rfl, F6, fun q => by cases q⟩
    rw [if_neg c8]
    by_cases c9 : m_g g (153 + k) o = 9
    · have y := b.2.2.2.2.2.2.2.2.2.2.2.2.2.1 c9
      have eK : n_rK g k d (n_L g k d) o = true := by unfold n_rK; rw [if_neg c1, if_neg c2, if_neg c4, if_neg c5, if_neg c6, if_neg c8, if_neg (by omega), if_neg (by omega)]
      have eS1 : ∀ i, n_S g k d o i = n_cl (n_ft (n_S g k d (m_g g (163 + k) o)) (n_L g k d (m_g g (163 + k) o)) (m_g g (183 + k) o) (m_g g (193 + k) o) (m_g g (203 + k) o) i) := fun i => by rw [eS]; unfold n_rS; rw [if_neg c1, if_neg c2, if_neg c3, if_neg c4, if_neg c5, if_neg c6, if_neg c7, if_neg c8, if_pos c9]
      obtain ⟨g', e2, A⟩ := n_rfilt (g := g6) (o := o) (a := m_g g (163 + k) o) (x := m_g g (183 + k) o) (y := m_g g (193 + k) o) (z := m_g g (203 + k) o) J o0 oh q1.1 q1.2.1 l1' l2' s1' b7.1 y.1 y.2.1 y.2.2.1 y.2.2.2.1 y.2.2.2.2
      have ez : ∀ j, n_z (m_g g6 (238 + m_g g (163 + k) o)) (n_L g k d (m_g g (163 + k) o)) j = n_z (n_S g k d (m_g g (163 + k) o)) (n_L g k d (m_g g (163 + k) o)) j := fun j => by
        unfold n_z
        by_cases c : 0 ≤ j ∧ j < n_L g k d (m_g g (163 + k) o)
        · rw [if_pos c, if_pos c, erz j c.1 c.2]
        · rw [if_neg c, if_neg c]
      obtain ⟨g1, g2⟩ := fin g' _ _ hv2 (by omega) A (by rw [e1]; exact (eLs c8).symm) (fun j j0 j1 => by rw [e1] at j1 ⊢; rw [eS1]; unfold n_ft; rw [ez, ez, erz j j0 j1])
      rw [if_pos c9, if_pos (n_c38 F6' k0 k1), n_a38 F6' k0 k1, if_pos cd38, if_pos (n_c39 F6' k0 k1), n_a39 F6' k0 k1, if_pos cd39, if_pos (n_c40 F6' k0 k1), n_a40 F6' k0 k1, if_pos (n_d40 F6' k0 k1 o0 oh), r38, r39, rr (203 + k) o (by omega) (by omega), e2, n_bs, eK]
      exact ⟨g', rfl, g1, fun _ => g2⟩
    rw [if_neg c9]
    by_cases c10 : m_g g (153 + k) o = 10
    · have eK : n_rK g k d (n_L g k d) o = decide (m_g g (183 + k) o ≤ n_L g k d (m_g g (163 + k) o) ∧ m_g g (193 + k) o ≤ n_L g k d (m_g g (163 + k) o)) := by unfold n_rK; rw [if_neg c1, if_neg c2, if_neg c4, if_neg c5, if_neg c6, if_neg c8, if_pos c10]
      have eS1 : ∀ i, n_S g k d o i = n_fdO (n_fdI (n_S g k d (m_g g (163 + k) o)) (m_g g (183 + k) o)) (n_L g k d (m_g g (163 + k) o)) (m_g g (193 + k) o) i := fun i => by rw [eS]; unfold n_rS; rw [if_neg c1, if_neg c2, if_neg c3, if_neg c4, if_neg c5, if_neg c6, if_neg c7, if_neg c8, if_neg c9, if_pos c10]
      have b15 := b.2.2.2.2.2.2.2.2.2.2.2.2.2.2.2.1 (Or.inr c10)
      obtain ⟨f1, f2⟩ := n_rfade (g := x1) (o := o) (x := m_g g (183 + k) o) (y := m_g g (193 + k) o) FX.1 o0 oh A1.2.2.1 l1 l2 b7.1 b7.2 b15.1 b15.2 sx
      rw [if_pos c10, p1, n_bs]
      dsimp only
      rw [if_pos (n_t127 FX'), if_pos (n_c38 FX' k0 k1), n_a38 FX' k0 k1, if_pos (n_d38 FX' k0 k1 o0 oh), if_pos (n_c39 FX' k0 k1), n_a39 FX' k0 k1, if_pos (n_d39 FX' k0 k1 o0 oh), FX.2.2 (183 + k) o (by omega) (by omega), FX.2.2 (193 + k) o (by omega) (by omega), eK]
      by_cases z : m_g g (183 + k) o ≤ n_L g k d (m_g g (163 + k) o) ∧ m_g g (193 + k) o ≤ n_L g k d (m_g g (163 + k) o)
      · obtain ⟨g', e2, A⟩ := f2 z
        have AA := n_rop_rip A1 A o0 oh
        obtain ⟨g1, g2⟩ := fin g' _ _ hv2 (by omega) AA (eLs c8).symm (fun j j0 j1 => by rw [eS1]; unfold n_fdO n_fdI; rw [rx j j0 j1])
        rw [e2, n_bs, decide_eq_true z]
        exact ⟨g', rfl, g1, fun _ => g2⟩
      · rw [f1 z, n_bs, decide_eq_false z]
        exact ⟨x1, rfl, FX, fun q => by cases q⟩
    rw [if_neg c10]
    by_cases c11 : m_g g (153 + k) o = 11
    · have b11 := b.2.2.2.2.2.2.2.2.2.2.2.2.2.2.1 c11
      have eK : n_rK g k d (n_L g k d) o = true := by unfold n_rK; rw [if_neg c1, if_neg c2, if_neg c4, if_neg c5, if_neg c6, if_neg c8, if_neg c10, if_neg (by omega)]
      have eS1 : ∀ i, n_S g k d o i = n_cl (Int.tdiv (n_S g k d (m_g g (163 + k) o) i * m_g g (183 + k) o) 64) := fun i => by rw [eS]; unfold n_rS; rw [if_neg c1, if_neg c2, if_neg c3, if_neg c4, if_neg c5, if_neg c6, if_neg c7, if_neg c8, if_neg c9, if_neg c10]
      obtain ⟨g', e2, A⟩ := n_rgain (g := g6) (k := k) (o := o) (a := m_g g (163 + k) o) J k0 k8 o0 oh q1.1 q1.2.1 l1' l2' s1' (by rw [r38]; exact b7.1) (by rw [r38]; exact b11)
      obtain ⟨g1, g2⟩ := fin g' _ _ hv2 (by omega) A (by rw [e1]; exact (eLs c8).symm) (fun j j0 j1 => by rw [e1] at j1; rw [eS1, erz j j0 j1, r38])
      rw [if_pos c11, e2, eK]
      exact ⟨g', rfl, g1, fun _ => g2⟩
    rw [if_neg c11]
    have v12 : m_g g (153 + k) o = 12 := by omega
    have eb := n_eT_b (g := g) (k := k) (d := d) (N := o.toNat) (fun z z0 z1 => n_scc_b C z0 (by omega)) (fun z z0 z1 => st z z0 (by omega)) o.toNat (Nat.le_refl _)
    obtain ⟨g', e2, F8, R8⟩ := n_laysR C o0 o1 v12 kk1 eb F6 (R7 hv2) Y6
    rw [e2, n_bs]
    exact ⟨g', rfl, F8, R8⟩
