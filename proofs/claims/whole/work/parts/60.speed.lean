/-! CALLS: speed -/
theorem n_machAny {h : m_H} {t : Int} (I : n_I h) (S : n_Rsh h h) (G : n_gs h) (i1 : -2147483648 ≤ t) (i2 : t < 2147483648) : ∃ r, t7_machineOf 2 t h = some (r, h) ∧ ((r = m_g h 4 t ∧ 0 ≤ t ∧ t < m_g h 127 23) ∨ (r = 0 ∧ ¬ (0 ≤ t ∧ t < m_g h 127 23))) := by
  by_cases c : 0 ≤ t ∧ t < m_g h 127 23
  · exact ⟨_, n_machineOf_y I S G c, Or.inl ⟨rfl, c⟩⟩
  · exact ⟨_, n_machineOf_n I S G i1 i2 c, Or.inr ⟨rfl, c⟩⟩
theorem n_s_speed {h : m_H} {k : Int} (X : n_R h k) (s t a bq : Int) (i1 : -2147483648 ≤ s) (i2 : s < 2147483648) (j1 : -2147483648 ≤ t) (j2 : t < 2147483648) (a1' : -2147483648 ≤ a) (a2' : a < 2147483648) (b1' : -2147483648 ≤ bq) (b2' : bq < 2147483648) : n_step h k (t10_speed 1 s t a bq) (t11_speed 127 s t a bq) := by
  have X' := X
  obtain ⟨I, gs, bud, x1, x2, x3, x4, x5, x6, x7⟩ := X'
  have B := gs.1
  unfold n_shB at B
  have N := x3.1
  unfold n_shN at N
  have t2 := n_t2 I.2
  unfold n_step t10_speed
  rw [if_pos (n_t1 I.2), n_p1_0 I.2, if_pos t2]
  obtain ⟨r, er, cr⟩ := n_freeAny I x3 gs i1 i2
  obtain ⟨rm, em, cm⟩ := n_machAny I x3 gs j1 j2
  by_cases ca : 1 ≤ a ∧ a ≤ 8
  · by_cases cb : 1 ≤ bq ∧ bq ≤ 8
    · by_cases c : n_mayPlay h s t a bq
      · have c' := c
        obtain ⟨c1, ct, c3, c4, c5, c6⟩ := c'
        have hs : 0 ≤ s ∧ s < m_g h 127 14 := ⟨c1.1, c1.2.1⟩
        have bt := gs.2.2.1 t ct.1 ct.2
        unfold n_macB at bt
        have M := x3.2.2.1 t ct.1 ct.2
        unfold n_mach at M
        have em := n_machineOf_y I x3 gs ct
        have er := n_freeStrip_y I x3 gs hs c1.2.2.1 c1.2.2.2
        have b := gs.2.1 s hs.1 hs.2
        unfold n_strB at b
        have F := n_st_F x3 gs hs
        obtain ⟨⟨a1, a2, a3, a4⟩, a5, a6, a7, a8, a9, a10, a11, a12, a13, a14, a15, a16, a17⟩ := n_st x3 hs
        obtain ⟨cb2, ec, hcb⟩ := n_canPlay2 (p := a) (q := bq) I x3 gs c1 ct (by omega) (by omega) (by omega) (by omega)
        have : cb2 = true := hcb.mpr c
        subst this
        have b0 := n_mulp (a := m_g h 131 s - 1) (b := bq) (A := 300) (B := 1000) (by omega) (by omega) (by omega) (by omega)
        have b1 := n_td (q := a) b0.1 (by omega)
        have nn : 1 ≤ Int.tdiv ((m_g h 131 s - 1) * bq) a + 1 := by omega
        obtain ⟨h2, e1, A2⟩ := n_playedC (kd := 6) (q := m_g h 3 s) (s := s) (mc := m_g h 4 t) (p := a) (qq := bq) (n := Int.tdiv ((m_g h 131 s - 1) * bq) a + 1) I F (by omega) (by omega) M.1 (by omega) (by omega) (by omega) (by omega) (by omega) (by omega) (by omega) (by omega) (by rw [a16]) c4
        rw [a9, a10, a11, a16, M.2.2.2.1, M.2.2.2.2] at A2
        have wb := n_top_b (x := m_g h 136 s + m_g h 145 t) (by omega)
        have hb := n_top_b (x := m_g h 135 s + m_g h 144 t) (by omega)
        have ka2 : m_t h2 (m_n h) = 8 := A2.2.2.2.1.1
        have f0 : m_g h2 (m_n h) 0 = m_g h 2 1 := A2.2.2.2.2.1.1.trans (n_gp_n (by omega))
        have K1 := n_kp_p (h := h) (a := m_g h 3 s) (k := 7) (v := n_top (m_g h 136 s + m_g h 145 t)) (by omega)
        have KP : n_kp h h2 [m_g h 3 s, 2, 3] [] := n_kp_trans K1 A2.2.1 I.1 n_no
        have ref := fun b j (b1 : 127 ≤ b) (b2 : b < 312) => n_kp_ref I KP (fun b hb => by simp at hb; omega) n_no b1 b2 j
        have G0 := n_gs_g (g' := h2) gs (fun b j => ref b j)
        have r14 := ref 127 14 (by omega) (by omega)
        have r15 := ref 127 15 (by omega) (by omega)
        have r23 := ref 127 23 (by omega) (by omega)
        have r131 := ref 131 s (by omega) (by omega)
        have r132 := ref 132 s (by omega) (by omega)
        have r133 := ref 133 s (by omega) (by omega)
        have r134 := ref 134 s (by omega) (by omega)
        have r135 := ref 135 s (by omega) (by omega)
        have r136 := ref 136 s (by omega) (by omega)
        have r144 := ref 144 t (by omega) (by omega)
        have r145 := ref 145 t (by omega) (by omega)
        have r130 := ref 130 s (by omega) (by omega)
        obtain ⟨g1, eg, N1⟩ := n_playsR (g := h2) (s := s) (t := t) (kd := 6) (p := a) (q := bq) (l := 64) (n := Int.tdiv ((m_g h 131 s - 1) * bq) a + 1) A2.1 G0 (by rw [r14, r133, r132]; exact c1) (by rw [r23]; exact ct) (by omega) (by omega) (by omega) (by omega) (by omega) (by omega) (by omega) (by rw [r131]) c4 (by omega) (by rw [r15]; exact c6)
        rw [r134, r135, r144] at N1
        rw [r14, r136, r145] at eg
        have R := n_finP X hs wb A2 N1 (fun j q1 q2 => by
          rw [← n_cl64]
          exact n_pl_eq (g := h2) (fun i y1 y2 => by rw [r131] at y2; rw [a17 i y1 y2, r130, ref 128 _ (by omega) (by omega)]) r131.symm (by omega) (by omega) (by omega) q1) (fun j q1 q2 => ⟨n_cl_lo _, n_cl_hi _⟩) c5 c6 nn c4 (by omega) (by omega) hb
        refine ⟨m_g h 2 1, h2, m_g h 127 14, m_p g1 136 s (n_top (m_g h 136 s + m_g h 145 t)), ?_, ?_, by rw [N.1], R⟩
        · unfold t7_speededOf
          rw [if_pos t2, er, n_bs]
          show (if m_t h 2 = 7 then t7_machineOf 2 t h >>= _ else none) >>= _ = _
          rw [if_pos t2, em, n_bs]
          show (if m_w a < 1 then _ else if 8 < m_w a then _ else if m_w bq < 1 then _ else if 8 < m_w bq then _ else if m_t h 2 = 7 then t7_canPlay 2 (m_g h 3 s) (m_g h 4 t) a bq h >>= _ else none) >>= _ = _
          rw [m_w_of (x := a) (by omega) (by omega), m_w_of (x := bq) (by omega) (by omega), if_neg (by omega), if_neg (by omega), if_neg (by omega), if_neg (by omega), if_pos t2, ec, n_bs]
          show (if true = true then if m_t h 2 = 7 then t7_played 2 6 (m_g h 3 s) (m_g h 4 t) a bq h >>= _ else none else _) >>= _ = _
          rw [if_pos rfl, if_pos t2, e1, n_bs]
          show (if m_t h2 (m_n h) = 8 then some (m_g h2 (m_n h) 0, h2) else none) >>= _ = _
          rw [if_pos ka2, n_bs, f0]
        · unfold t11_speed
          rw [m_w_of (x := a) (by omega) (by omega), m_w_of (x := bq) (by omega) (by omega), n_in (by omega) (by omega) (by omega) (by omega) (by omega) (by omega), decide_eq_true ca, n_bs]
          show (if true = true then t11_in bq 1 8 h2 >>= _ else _) = _
          rw [if_pos rfl, n_in (by omega) (by omega) (by omega) (by omega) (by omega) (by omega), decide_eq_true cb, n_bs]
          show (if true = true then if m_t h2 127 = 11 then t11_plays 127 s t 6 a bq 64 h2 >>= _ else none else _) = _
          rw [if_pos rfl, if_pos (n_t127 A2.1.2), eg, n_bs]
      · refine ⟨-1, h, -1, h, ?_, ?_, rfl, n_R_more X⟩
        · have ec : t7_canPlay 2 r rm a bq h = some (false, h) := by
            rcases cr with ⟨cr, c1⟩ | cr
            · rcases cm with ⟨cm, ct⟩ | ⟨cm, -⟩
              · subst cr cm
                obtain ⟨cb, ec, hcb⟩ := n_canPlay2 (p := a) (q := bq) I x3 gs c1 ct (by omega) (by omega) (by omega) (by omega)
                cases cb
                · exact ec
                · exact absurd (hcb.mp rfl) c
              · exact n_canPlay_0 (Or.inr cm)
            · exact n_canPlay_0 (Or.inl cr)
          unfold t7_speededOf
          rw [if_pos t2, er, n_bs]
          show (if m_t h 2 = 7 then t7_machineOf 2 t h >>= _ else none) >>= _ = _
          rw [if_pos t2, em, n_bs]
          show (if m_w a < 1 then _ else if 8 < m_w a then _ else if m_w bq < 1 then _ else if 8 < m_w bq then _ else if m_t h 2 = 7 then t7_canPlay 2 r rm a bq h >>= _ else none) >>= _ = _
          rw [m_w_of (x := a) (by omega) (by omega), m_w_of (x := bq) (by omega) (by omega), if_neg (by omega), if_neg (by omega), if_neg (by omega), if_neg (by omega), if_pos t2, ec, n_bs]
          rfl
        · unfold t11_speed
          rw [m_w_of (x := a) (by omega) (by omega), m_w_of (x := bq) (by omega) (by omega), n_in (by omega) (by omega) (by omega) (by omega) (by omega) (by omega), decide_eq_true ca, n_bs]
          show (if true = true then t11_in bq 1 8 h >>= _ else _) = _
          rw [if_pos rfl, n_in (by omega) (by omega) (by omega) (by omega) (by omega) (by omega), decide_eq_true cb, n_bs]
          show (if true = true then if m_t h 127 = 11 then t11_plays 127 s t 6 a bq 64 h >>= _ else none else _) = _
          rw [if_pos rfl, if_pos (n_t127 I.2), n_playsR_n I gs i1 i2 j1 j2 (by omega) (by omega) (by omega) (by omega) c, n_bs]
    · refine ⟨-1, h, -1, h, ?_, ?_, rfl, n_R_more X⟩
      · unfold t7_speededOf
        rw [if_pos t2, er, n_bs]
        show (if m_t h 2 = 7 then t7_machineOf 2 t h >>= _ else none) >>= _ = _
        rw [if_pos t2, em, n_bs]
        show (if m_w a < 1 then _ else if 8 < m_w a then _ else if m_w bq < 1 then _ else if 8 < m_w bq then _ else _) >>= _ = _
        rw [m_w_of (x := a) (by omega) (by omega), m_w_of (x := bq) (by omega) (by omega), if_neg (by omega), if_neg (by omega)]
        by_cases q : bq < 1
        · rw [if_pos q]; rfl
        · rw [if_neg q, if_pos (by omega)]; rfl
      · unfold t11_speed
        rw [m_w_of (x := a) (by omega) (by omega), m_w_of (x := bq) (by omega) (by omega), n_in (by omega) (by omega) (by omega) (by omega) (by omega) (by omega), decide_eq_true ca, n_bs]
        show (if true = true then t11_in bq 1 8 h >>= _ else _) = _
        rw [if_pos rfl, n_in (by omega) (by omega) (by omega) (by omega) (by omega) (by omega), decide_eq_false cb, n_bs]
        rfl
  · refine ⟨-1, h, -1, h, ?_, ?_, rfl, n_R_more X⟩
    · unfold t7_speededOf
      rw [if_pos t2, er, n_bs]
      show (if m_t h 2 = 7 then t7_machineOf 2 t h >>= _ else none) >>= _ = _
      rw [if_pos t2, em, n_bs]
      show (if m_w a < 1 then _ else if 8 < m_w a then _ else _) >>= _ = _
      rw [m_w_of (x := a) (by omega) (by omega)]
      by_cases q : a < 1
      · rw [if_pos q]; rfl
      · rw [if_neg q, if_pos (by omega)]; rfl
    · unfold t11_speed
      rw [m_w_of (x := a) (by omega) (by omega), n_in (by omega) (by omega) (by omega) (by omega) (by omega) (by omega), decide_eq_false ca, n_bs]
      rfl
