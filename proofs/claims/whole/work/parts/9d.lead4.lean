/-! CALLS: lead: the step -/
theorem n_ls_S {g h : m_H} {k : Int} (e : ∀ b, b ≠ 106 → m_g g b = m_g h b) (k0 : 0 ≤ k) (o x : Int) : n_ls g k o x = n_ls h k o x := by
  unfold n_ls
  rw [e 286 (by omega), e 142 (by omega), e (153 + k) (by omega), e (163 + k) (by omega), e (173 + k) (by omega), e (183 + k) (by omega), e (193 + k) (by omega)]
theorem n_ldN_S {g h : m_H} {k : Int} (e : ∀ b, b ≠ 106 → m_g g b = m_g h b) (k0 : 0 ≤ k) : ∀ (n : Nat) (o x : Int), n_ldN g k n o x = n_ldN h k n o x := by
  intro n
  induction n with
  | zero => intro o x; rfl
  | succ n ih => intro o x; rw [n_ldN_s, n_ldN_s, e (153 + k) (by omega), n_ls_S e k0, ih]
theorem n_ovS {g h : m_H} {k : Int} (e : ∀ b, b ≠ 106 → m_g g b = m_g h b) (k0 : 0 ≤ k) : (∀ o, n_tm g k o = n_tm h k o) ∧ (∀ o j, n_bg g k o j = n_bg h k o j) ∧ (∀ o, n_ln g k o = n_ln h k o) ∧ (∀ t o, n_in0 g k t o = n_in0 h k t o) := by
  have a1 : ∀ o, n_tm g k o = n_tm h k o := fun o => by unfold n_tm; rw [e (153 + k) (by omega), e (213 + k) (by omega)]
  have a2 : ∀ o j, n_bg g k o j = n_bg h k o j := fun o j => by unfold n_bg; rw [e (183 + k) (by omega), e (223 + k) (by omega)]
  have a3 : ∀ o, n_ln g k o = n_ln h k o := fun o => by unfold n_ln; rw [e 286 (by omega), e (163 + k) (by omega)]
  have a4 : ∀ o t (n : Nat), n_ovN g k o t n = n_ovN h k o t n := fun o t n => by
    induction n with
    | zero => rfl
    | succ n ih => unfold n_ovN; rw [ih, a2, a3]
  exact ⟨a1, a2, a3, fun t o => by unfold n_in0; rw [a1, a4]⟩
theorem n_fpS {g h : m_H} {k : Int} (e : ∀ b, b ≠ 106 → m_g g b = m_g h b) (k0 : 0 ≤ k) {t tr r : Int} (A : n_fp g k t tr r) : n_fp h k t tr r := by
  obtain ⟨-, -, -, a4⟩ := n_ovS e k0
  unfold n_fp at *
  simp only [a4] at A
  rw [e 151 (by omega), e (153 + k) (by omega), e (193 + k) (by omega)] at A
  exact A
theorem n_bwS {g h : m_H} {k : Int} (e : ∀ b, b ≠ 106 → m_g g b = m_g h b) (k0 : 0 ≤ k) {o t r : Int} (A : n_bw g k o t r) : n_bw h k o t r := by
  obtain ⟨a1, a2, a3, -⟩ := n_ovS e k0
  unfold n_bw n_ov at *
  simp only [a1, a2, a3] at A
  exact A
theorem n_s_lead {h : m_H} {k : Int} (X : n_R h k) (t tr w : Int) (t1 : -2147483648 ≤ t) (t2 : t < 2147483648) (r1 : -2147483648 ≤ tr) (r2 : tr < 2147483648) (w1 : -2147483648 ≤ w) (w2 : w < 2147483648) : n_step h k (t10_lead 1 t tr w) (t11_lead 127 t tr w) := by
  have X' := X
  obtain ⟨I, gs, bud, x1, x2, x3, x4, x5, x6, x7⟩ := X'
  have t1h := n_t1 I.2
  have t6 := n_t106 I.2
  have tM := n_t127 I.2
  have y := x6
  obtain ⟨y1, y2, y3, y4, y5⟩ := y
  have l5 := x5.2.2.1
  have eC0 : t10_lead 1 t tr w h = t2_leadTo 106 t tr w h := by
    unfold t10_lead
    rw [if_pos t1h, n_p1_6 I.2, if_pos t6]
    cases t2_leadTo 106 t tr w h <;> rfl
  unfold n_step
  rw [eC0]
  by_cases c : m_g h 127 60 = -1
  · obtain ⟨z1, z2, z3⟩ := y4 c
    have s109 : m_t h 109 = 6 := n_t109 I.2
    refine ⟨-1, h, -1, h, ?_, ?_, rfl, n_R_more X⟩
    · unfold t2_leadTo t2_firstPut
      rw [if_pos t6, t2_firstPut_c2, if_pos t6, z1, if_pos s109, z2, if_neg (by omega), n_bs]
      rfl
    · unfold t11_lead
      rw [if_pos tM, m_w_of (by omega) (by omega), if_pos c]
  · have C := n_pc_of x5 x6 c
    generalize hk : m_g h 127 60 = kk at *
    generalize m_g h 19 kk = a at *
    obtain ⟨c1, c2⟩ := n_pcI C
    have c3 := C.1.2.2.1
    have k0 : 0 ≤ kk := C.2.2.2.2.1
    have k1 : kk < 9 := by have := C.1.2.1.2; omega
    obtain ⟨r, e1, F1⟩ := n_firstC I C t1 t2 r1 r2
    have rb : -1 ≤ r ∧ r < 40 := by rcases F1 with ⟨q, -⟩ | ⟨q, -⟩ <;> omega
    have eC : t2_leadTo 106 t tr w h = if r = -1 then some (r, h) else if w = 0 then some (r, h) else (if m_t h 106 = 2 then if m_t h (m_g h 106 2) = 6 then t6_one (m_g h 106 2) r h >>= fun ⟨r9, h8⟩ => if m_t h8 106 = 2 then some (m_p h8 106 6 r9) >>= fun h11 => if m_t h11 106 = 2 then t2_beginWith 106 r t h11 >>= fun ⟨r14, h13⟩ => if m_t h13 106 = 2 then some (m_p h13 106 7 (t - r14)) >>= fun h16 => (t2_leadTo_c50 106 w 0 h16) else none else none else none else none else none) := by
      unfold t2_leadTo
      rw [if_pos t6, e1, n_bs]
      dsimp only
      rw [m_w_of (x := r) (by omega) (by omega), m_w_of w1 w2]
    -- the reference over a heap g that agrees with h but for cell 106
    have refp : ∀ g : m_H, n_R g k → (∀ b, b ≠ 106 → m_g g b = m_g h b) → (t11_lead 127 t tr w g = if 0 ≤ w ∧ w ≤ 2 then t11_lead_c25 127 t tr w 0 g else some (-1, g)) := fun g Xg eg => by
      unfold t11_lead
      have e60 : m_g g 127 60 = kk := by rw [eg 127 (by omega)]; exact hk
      rw [if_pos (n_t127 Xg.1.2), e60, m_w_of (x := kk) (by omega) (by omega), if_neg c, m_w_of w1 w2, n_in (by omega) (by omega) (by omega) (by omega) (by omega) (by omega), n_bs]
      dsimp only
      by_cases d : 0 ≤ w ∧ w ≤ 2
      · rw [decide_eq_true d, if_pos rfl, if_pos d]
      · rw [decide_eq_false d, if_neg d]
        rfl
    have pcg : ∀ g : m_H, n_R g k → (∀ b, b ≠ 106 → m_g g b = m_g h b) → n_pc g kk (m_g g 19 kk) := fun g Xg eg => by
      have e60 : m_g g 127 60 = kk := by rw [eg 127 (by omega)]; exact hk
      have := n_pc_of Xg.2.2.2.2.2.2.2.1 Xg.2.2.2.2.2.2.2.2.1 (by rw [e60]; exact c)
      rw [e60] at this
      exact this
    have fin : ∀ g o x, n_R g k → n_R (n_h2 g 127 73 74 o x) (k + 1) := fun g o x Xg => by
      have J : n_I (n_h2 g 127 73 74 o x) := by
        rw [← n_h2_pp (by omega)]
        exact n_I_p (n_I_p Xg.1 (by rw [n_t127 Xg.1.2]; omega) (by rw [n_t127 Xg.1.2]; omega) rfl) (by rw [m_t_p, n_t127 Xg.1.2]; omega) (by rw [m_t_p, n_t127 Xg.1.2]; omega) rfl
      have KR : n_kr g (n_h2 g 127 73 74 o x) [] [73, 74] := ⟨rfl, n_no, fun b j _ z => n_h2_o (by simp at z; omega)⟩
      exact n_finS Xg (n_sp_of Xg.1 n_kp_rfl KR n_no n_no) J (n_bud_more (n_bud_same Xg.1 rfl (fun r hr => n_kr_comp KR (n_ref_row Xg.1 hr).1 0) Xg.2.2.1)) rfl rfl rfl (by decide)
    have me : ∀ b : Int, b ≠ 106 → m_g h b = m_g h b := fun _ _ => rfl
    by_cases cr : r = -1
    · refine ⟨-1, h, -1, h, by rw [eC, if_pos cr, cr], ?_, rfl, n_R_more X⟩
      rw [refp h X me]
      by_cases d : 0 ≤ w ∧ w ≤ 2
      · rw [if_pos d]
        rcases n_firstR I (pcg h X me) t1 t2 r1 r2 d.1 d.2 with ⟨q1, q2⟩ | ⟨s, b, q1, q2, -⟩
        · exact q2
        · have := n_fp_u F1 q1
          omega
      · rw [if_neg d]
    · by_cases cw : w = 0
      · refine ⟨r, h, r, h, by rw [eC, if_neg cr, if_pos cw], ?_, rfl, n_R_more X⟩
        rw [refp h X me, if_pos (by omega)]
        rcases n_firstR (w := w) I (pcg h X me) t1 t2 r1 r2 (by omega) (by omega) with ⟨q1, q2⟩ | ⟨s, b, q1, q2, q3, q4, q5⟩
        · exact absurd (n_fp_u F1 q1) cr
        · rw [q5, if_pos cw, n_fp_u F1 q1]
      · have rr : (0 ≤ r ∧ r < m_g h 151 kk) ∧ m_g h (153 + kk) r = 12 ∧ n_in0 h kk t r = true := by
          rcases F1 with ⟨q, -⟩ | ⟨q, q2, -⟩
          · exact absurd q cr
          · exact ⟨q, q2.1, q2.2.2⟩
        have B := n_scc_b C.1 rr.1.1 rr.1.2
        have pb := (n_putB B rr.2.1).1
        -- the component's way
        have e6 : m_p h 106 6 (m_g h (163 + kk) r) = n_h2 h 106 6 7 (m_g h (163 + kk) r) (m_g h 106 7) := n_h2_as (by omega)
        have X1 := n_R67 X (m_g h (163 + kk) r) (m_g h 106 7)
        have eg1 : ∀ b, b ≠ 106 → m_g (n_h2 h 106 6 7 (m_g h (163 + kk) r) (m_g h 106 7)) b = m_g h b := fun b hb => funext fun j => n_h2_o (Or.inl hb)
        have C1 := pcg _ X1 eg1
        have o1' : r < m_g (n_h2 h 106 6 7 (m_g h (163 + kk) r) (m_g h 106 7)) 151 kk := by rw [eg1 151 (by omega)]; exact rr.1.2
        obtain ⟨b0, eb, Wb⟩ := n_beginWith X1.1 C1 (o := r) rr.1.1 o1' t1 t2
        have Wh := n_bwS eg1 k0 Wb
        obtain ⟨w0, wb1, wb2⟩ := n_bw_in B Wh
        rw [rr.2.2] at w0
        have bn : b0 ≠ -1 := of_decide_eq_true w0.symm
        have ov : ∃ j, 0 ≤ j ∧ j < n_tm h kk r ∧ n_ov h kk r t j ∧ b0 = n_bg h kk r j := by
          rcases Wh with ⟨q, -⟩ | ⟨j, q1, q2, q3, q4, -⟩
          · exact absurd q bn
          · exact ⟨j, q1, q2, q3, q4⟩
        obtain ⟨j0, jj0, jj1, jj2, jj3⟩ := ov
        unfold n_ov n_ln at jj2
        rw [← jj3] at jj2
        have W := n_walkC (w := w) X C 40 0 (m_g h (163 + kk) r) (t - b0) (by omega) (by omega) pb.1 (by omega) pb.2.2 (by omega) (by omega)
        generalize hS : n_ldN h kk 40 (m_g h (163 + kk) r) (t - b0) = st at W
        have X2 := n_R67 X st.1 st.2
        have eg2 : ∀ b, b ≠ 106 → m_g (n_h2 h 106 6 7 st.1 st.2) b = m_g h b := fun b hb => funext fun j => n_h2_o (Or.inl hb)
        have C2 := pcg _ X2 eg2
        have eCC : t2_leadTo 106 t tr w h = t2_leadTo_c81 106 w (n_h2 h 106 6 7 st.1 st.2) := by
          rw [eC, if_neg cr, if_neg cw, if_pos t6, c1, if_pos c2, n_oneC I C.1 rr.1.1 rr.1.2, n_bs]
          dsimp only
          rw [if_pos t6, e6, n_bs, if_pos (n_t106 X1.1.2), eb, n_bs]
          dsimp only
          rw [if_pos (n_t106 X1.1.2), n_h2_p2 (by omega), n_bs]
          exact W
        -- the reference's way
        have eR := refp _ X2 eg2
        have refw : (w = 1 ∨ w = 2) → ∃ g2, t11_lead 127 t tr w (n_h2 h 106 6 7 st.1 st.2) = some ((if w = 1 then m_g h 287 st.1 else st.2), g2) ∧ n_R g2 (k + 1) := fun ww => by
          rw [eR, if_pos (by omega)]
          rcases n_firstR (w := w) X2.1 C2 t1 t2 r1 r2 (by omega) (by omega) with ⟨q1, q2⟩ | ⟨s, b, q1, q2, q3, q4, q5⟩
          · exact absurd (n_fp_u F1 (n_fpS eg2 k0 q1)) cr
          · have es := n_fp_u F1 (n_fpS eg2 k0 q1)
            subst es
            have ebb := n_bw_u B Wh (n_bwS eg2 k0 q3)
            subst ebb
            have W2 := n_walkR (w := w) X2.1 X2.2.1 C2 ww 40 (m_g h (163 + kk) r) (t - b0) pb.1 (by omega) (by rw [eg2 151 (by omega)]; omega) (by rw [eg2 (153 + kk) (by omega)]; exact pb.2.2) (by omega) (by rw [eg2 286 (by omega)]; omega)
            rw [n_ldN_S eg2 k0, hS, eg2 287 (by omega)] at W2
            refine ⟨_, ?_, fin _ st.1 st.2 X2⟩
            rw [q5, if_neg cw, eg2 (163 + kk) (by omega)]
            exact W2
        rw [eCC]
        unfold t2_leadTo_c81
        rw [m_w_of w1 w2]
        have l113 := n_l113 X2.1.2
        have stb : 0 ≤ st.1 ∧ st.1 < m_g h 151 kk := by
          have : ∀ (n : Nat) (o x : Int), 0 ≤ o → o < m_g h 151 kk → m_g h (153 + kk) o ≠ 12 → 0 ≤ x → x < m_g h 286 o → 0 ≤ (n_ldN h kk n o x).1 ∧ (n_ldN h kk n o x).1 < m_g h 151 kk := by
            intro n
            induction n with
            | zero => intro o x o0 o1 _ _ _; exact ⟨o0, o1⟩
            | succ n ih =>
              intro o x o0 o1 v x0 x1
              rw [n_ldN_s]
              by_cases d : m_g h (153 + kk) o ≤ 1
              · rw [if_pos d]; exact ⟨o0, o1⟩
              · rw [if_neg d]
                obtain ⟨s1, s2, s3, s4⟩ := n_stp gs C o0 o1 (by omega) v x0 x1
                exact ih _ _ s1.1 (by omega) s2 s3 s4
          have z := this 40 (m_g h (163 + kk) r) (t - b0) pb.1 (by omega) pb.2.2 (by omega) (by omega)
          rw [hS] at z
          exact z
        have e113 := (C.2.2.1.2.2.2.2.2.1 st.1 stb.1 stb.2).1
        by_cases d1 : w = 1
        · obtain ⟨g2, f1, f2⟩ := refw (Or.inl d1)
          refine ⟨m_g h 287 st.1, _, _, g2, ?_, f1, by rw [if_pos d1], f2⟩
          rw [if_pos d1, if_pos (n_t106 X2.1.2), n_p106_5 X2.1.2, (n_h2_1 (show (6 : Int) ≠ 7 by omega)).1, n_entry_y (n_t113 X2.1.2) (by omega) stb.1 (by omega), n_bs]
          dsimp only
          rw [eg2 113 (by omega), e113]
        · rw [if_neg d1]
          by_cases d2 : w = 2
          · obtain ⟨g2, f1, f2⟩ := refw (Or.inr d2)
            refine ⟨st.2, _, _, g2, ?_, f1, by rw [if_neg d1], f2⟩
            rw [if_pos d2, if_pos (n_t106 X2.1.2), (n_h2_1 (show (6 : Int) ≠ 7 by omega)).2]
          · refine ⟨-1, _, -1, _, by rw [if_neg d2], ?_, rfl, n_R_more X2⟩
            rw [eR, if_neg (by omega)]
