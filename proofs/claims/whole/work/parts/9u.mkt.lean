/-! CALLS: make: the component lays all of the puts, and limits -/
theorem n_mkB_W {g y x : m_H} {k a : Int} {F : Int → Int} (I : n_I y) (W : n_scw y g k a) (W2 : ∀ r, m_t y r = 5 → m_g y r 0 ≠ m_g y a 0) (e6 : m_g y 106 2 = a) (S : n_mkB y x F) : n_scw x g k a ∧ m_g x 106 2 = a := by
  have R := n_wf_row I.1 (n_t107 I.2)
  have s6 := n_sfa I (a := 106) (by omega) (by rw [n_t106 I.2]; omega) (Or.inl (by rw [n_t106 I.2]; omega))
  have na : a ≠ m_g y 107 0 := fun q => by have := R.2.1; have := W.1.1; rw [← q] at *; omega
  exact ⟨n_scw_e W (n_e2t S.2.1 a) (n_e2t S.2.1 _) (n_e2l S.2.1 _) (fun j _ => S.2.2.1 a j na) (fun j => S.2.2.1 _ j (fun q => W2 107 (n_t107 I.2) q.symm)), (S.2.2.1 106 2 (fun q => s6.2.2 107 (n_t107 I.2) q.symm)).trans e6⟩
theorem n_layOut {g y : m_H} {k a d o : Int} (I : n_I y) (W : n_scw y g k a) (W2 : ∀ r, m_t y r = 5 → m_g y r 0 ≠ m_g y a 0) (e6 : m_g y 106 2 = a) (Rw : ∀ o, 0 ≤ o → o < m_g g 151 k → m_g g (153 + k) o ≠ 12 → (m_g y (26 + 2 * o) 1 = n_L g k d o ∧ ∀ i, 0 ≤ i → i < n_L g k d o → n_rg y (26 + 2 * o) i = n_S g k d o i) ∧ 1 ≤ n_L g k d o ∧ n_L g k d o ≤ 1500) (o0 : 0 ≤ o) (o1 : o < m_g g 151 k) : ∀ (m j : Nat) (x : m_H) (r : Int), n_tm g k o = j + m → (0 < n_tm g k o → r = 26 + 2 * m_g g (163 + k) o) → n_mkB y x (fun t => n_sT g k d o.toNat t + n_sO g k d o j t) → ∃ x', t2_layPut_x2 2 106 o r j 0 0 x = some ((), x') ∧ n_mkB y x' (n_sT g k d (o + 1).toNat) := by
  have tb := n_tm_b (W.2.2.2 o o0 o1)
  have C3 := W.2.1
  intro m
  induction m with
  | zero =>
    intro j x r em er S
    obtain ⟨Wx, x6⟩ := n_mkB_W I W W2 e6 S
    refine ⟨x, ?_, n_mkB_eq S (fun t => ?_)⟩
    · rw [t2_layPut_x2, if_pos rfl, if_pos (n_t106 S.1.2), n_timesW S.1 x6 Wx o0 o1, n_bs]
      dsimp only
      rw [m_w_of (x := (j : Int)) (by omega) (by omega), m_w_of (x := n_tm g k o) (by omega) (by omega), if_neg (by omega)]
    · have := n_sT_s g k d o.toNat t
      rw [show ((o.toNat : Nat) : Int) = o by omega, show o.toNat + 1 = (o + 1).toNat by omega, show (n_tm g k o).toNat = j by omega] at this
      rw [this]
  | succ m ih =>
    intro j x r em er S
    obtain ⟨Wx, x6⟩ := n_mkB_W I W W2 e6 S
    have v := tb.2.2 (by omega)
    have pb := n_putB (W.2.2.2 o o0 o1) v
    have bb := n_bg_b (j := j) (W.2.2.2 o o0 o1) v (by omega) (by omega)
    obtain ⟨⟨q1, q2⟩, q3, q4⟩ := Rw (m_g g (163 + k) o) pb.1.1 (by omega) pb.1.2.2
    have rr := er (by omega)
    obtain ⟨x', f1, S'⟩ := n_layIn (g := g) (o := o) (j := j) (bg := n_bg g k o j) (G := fun t => n_sT g k d o.toNat t + n_sO g k d o j t) I bb.1 (by omega) pb.1.1 (by omega) q4 q1 q2 (n_L g k d (m_g g (163 + k) o)).toNat 0 x (by omega) (by omega) (n_mkB_eq S (fun t => by rw [if_neg (by omega)]; omega))
    obtain ⟨x2, f2, S2⟩ := ih (j + 1) x' r (by omega) er (n_mkB_eq S' (fun t => by rw [n_sO_s]; omega))
    refine ⟨x2, ?_, S2⟩
    rw [t2_layPut_x2, if_pos rfl, if_pos (n_t106 S.1.2), n_timesW S.1 x6 Wx o0 o1, n_bs]
    dsimp only
    rw [m_w_of (x := (j : Int)) (by omega) (by omega), m_w_of (x := n_tm g k o) (by omega) (by omega), if_pos (by omega), if_pos (n_t106 S.1.2), n_beginW S.1 x6 Wx o0 o1 v, n_bs]
    dsimp only
    rw [rr, f1, ← rr]
    exact f2
theorem n_limitC {x : m_H} (I : n_I x) {v : Int} (hv : m_t x v = 5) (E : m_g x v 1 ≤ 3000) (b : ∀ t, 0 ≤ t → t < m_g x v 1 → -2147483648 ≤ m_g x (m_g x v 0) t ∧ m_g x (m_g x v 0) t < 2147483648) : t5_limit v x = some ((), n_fl x (m_g x v 0) 0 (m_g x v 1) (fun t => n_cl (m_g x (m_g x v 0) t))) := by
  have R := n_wf_row I.1 hv
  have R' := R
  obtain ⟨r1, r2, r3, r4, r5⟩ := R'
  have nv : v ≠ m_g x v 0 := fun q => by rw [← q] at r2; omega
  have key := n_fill (fun i h => t5_limit_c2 v i h) (h := x) (a := m_g x v 0) (lo := 0) (n := m_g x v 1) (fun t => n_cl (m_g x (m_g x v 0) t)) (by omega) (fun i i1 i2 => by
    show t5_limit_c2 v i _ = t5_limit_c2 v (i + 1) _
    obtain ⟨p1, p2, p3, p4, p5⟩ := n_lf I.1 hv 0 i (fun t => n_cl (m_g x (m_g x v 0) t))
    have ec : m_g (n_fl x (m_g x v 0) 0 i (fun t => n_cl (m_g x (m_g x v 0) t))) (m_g x v 0) i = m_g x (m_g x v 0) i := by rw [n_g_fl, if_neg (by omega)]
    have bi := b i i1 i2
    generalize n_fl x (m_g x v 0) 0 i (fun t => n_cl (m_g x (m_g x v 0) t)) = z at *
    have eg : n_rg z v i = m_g x (m_g x v 0) i := by
      unfold n_rg
      rw [p3, if_pos ⟨i1, i2⟩, p2, ec]
    rw [t5_limit_c2, if_pos p1.1, p3, m_w_of (x := i) (by omega) (by omega), m_w_of (x := m_g x v 1) (by omega) (by omega), if_pos i2, n_get p1 (by omega) (by omega), n_bs, eg]
    dsimp only
    rw [if_pos p1.1, n_set p1 i1 (by omega) bi.1 bi.2, n_bs, p2])
  refine key.trans ?_
  show t5_limit_c2 v (m_g x v 1) _ = _
  obtain ⟨p1, p2, p3, p4, p5⟩ := n_lf I.1 hv 0 (m_g x v 1) (fun t => n_cl (m_g x (m_g x v 0) t))
  generalize n_fl x (m_g x v 0) 0 (m_g x v 1) (fun t => n_cl (m_g x (m_g x v 0) t)) = z at *
  rw [t5_limit_c2, if_pos p1.1, p3, if_neg (by omega)]
theorem n_layPuts {g y : m_H} {k a d : Int} (I : n_I y) (W : n_scw y g k a) (W2 : ∀ r, m_t y r = 5 → m_g y r 0 ≠ m_g y a 0) (e6 : m_g y 106 2 = a) (Rw : ∀ o, 0 ≤ o → o < m_g g 151 k → m_g g (153 + k) o ≠ 12 → (m_g y (26 + 2 * o) 1 = n_L g k d o ∧ ∀ i, 0 ≤ i → i < n_L g k d o → n_rg y (26 + 2 * o) i = n_S g k d o i) ∧ 1 ≤ n_L g k d o ∧ n_L g k d o ≤ 1500) : ∀ (m : Nat) (o : Int) (x : m_H), 0 ≤ o → m_g g 151 k = o + m → n_mkB y x (n_sT g k d o.toNat) → ∃ x', t2_layAll_c147 106 20 o x = (t5_limit 107 x' >>= fun ⟨_, h13⟩ => some ((), h13)) ∧ n_mkB y x' (n_sT g k d (m_g g 151 k).toNat) := by
  have C3 := W.2.1
  intro m
  induction m with
  | zero =>
    intro o x o0 em S
    have eo : o = m_g g 151 k := by omega
    subst eo
    obtain ⟨Wx, x6⟩ := n_mkB_W I W W2 e6 S
    refine ⟨x, ?_, S⟩
    rw [t2_layAll_c147, if_pos (n_t106 S.1.2), x6, if_pos Wx.1.1, Wx.1.2.1, if_neg (by omega), n_p106_1 S.1.2, if_pos (n_t107 S.1.2)]
  | succ m ih =>
    intro o x o0 em S
    obtain ⟨Wx, x6⟩ := n_mkB_W I W W2 e6 S
    have b := W.2.2.2 o o0 (by omega)
    have b1 := b.2.2.1
    have b2 := b.2.2.2.1
    have tb := n_tm_b b
    have row : ∃ r, t3_row 20 (m_g g (163 + k) o) x = some (r, x) ∧ (0 < n_tm g k o → r = 26 + 2 * m_g g (163 + k) o) := by
      by_cases c : m_g g (153 + k) o ≤ 1
      · rw [b1 c]
        exact ⟨22, n_rowN S.1, fun q => by have := tb.2.2 q; omega⟩
      · have := b2 (by omega)
        exact ⟨_, n_rowC S.1 this.1 (by omega), fun _ => rfl⟩
    obtain ⟨r, er, hr⟩ := row
    obtain ⟨x1, f1, S1⟩ := n_layOut I W W2 e6 Rw o0 (by omega) (n_tm g k o).toNat 0 x r (by omega) hr (n_mkB_eq S (fun t => by show _ = _ + 0; omega))
    obtain ⟨x2, f2, S2⟩ := ih (o + 1) x1 (by omega) (by omega) S1
    refine ⟨x2, ?_, S2⟩
    rw [t2_layAll_c147, if_pos (n_t106 S.1.2), x6, if_pos Wx.1.1, Wx.1.2.1, m_w_of (x := o) (by omega) (by omega), m_w_of (x := m_g g 151 k) (by omega) (by omega), if_pos (by omega), n_oneW Wx o0 (by omega), n_bs]
    dsimp only
    rw [if_pos (n_t20 S.1.2), er, n_bs]
    dsimp only
    rw [if_pos (n_t106 S.1.2)]
    unfold t2_layPut
    rw [show t2_layPut_x2 2 106 o r 0 0 0 x = some ((), x1) from f1, n_bs]
    exact f2
