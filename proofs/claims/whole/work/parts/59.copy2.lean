/-! CALLS: copy, speed: the steps -/
/-- what both sides ask before they play -/
def n_mayPlay (h : m_H) (s t p q : Int) : Prop := (0 ≤ s ∧ s < m_g h 127 14 ∧ m_g h 133 s = 0 ∧ m_g h 132 s ≠ 3) ∧ (0 ≤ t ∧ t < m_g h 127 23) ∧ m_g h 136 s < 1000 ∧ Int.tdiv ((m_g h 131 s - 1) * q) p + 1 ≤ 300 ∧ m_g h 127 14 + 1 ≤ 100 ∧ m_g h 127 15 + (Int.tdiv ((m_g h 131 s - 1) * q) p + 1) ≤ 20000
theorem n_canPlay2 {h : m_H} {s t p q : Int} (I : n_I h) (S : n_Rsh h h) (G : n_gs h) (hs : 0 ≤ s ∧ s < m_g h 127 14 ∧ m_g h 133 s = 0 ∧ m_g h 132 s ≠ 3) (ht : 0 ≤ t ∧ t < m_g h 127 23) (p1 : 1 ≤ p) (p2 : p ≤ 1100) (q1 : 1 ≤ q) (q2 : q ≤ 1000) : ∃ b, t7_canPlay 2 (m_g h 3 s) (m_g h 4 t) p q h = some (b, h) ∧ (b = true ↔ n_mayPlay h s t p q) := by
  have B := G.1
  unfold n_shB at B
  have N := S.1
  unfold n_shN at N
  have b := G.2.1 s hs.1 hs.2.1
  unfold n_strB at b
  obtain ⟨⟨a1, a2, a3, a4⟩, a5, a6, a7, a8, a9, a10, a11, a12, a13, a14, a15, a16, a17⟩ := n_st S ⟨hs.1, hs.2.1⟩
  have M := S.2.2.1 t ht.1 ht.2
  unfold n_mach at M
  have e := n_canPlay (h := h) (q := m_g h 3 s) (mc := m_g h 4 t) (p := p) (qq := q) I a1 a2 a3 M.1.2 (by omega) (by omega) (by omega) (by omega) (by omega) (by omega) (by omega) p1 p2 q1 q2 rfl
  refine ⟨_, e, ?_⟩
  rw [decide_eq_true_eq, a16, a11, N.1, N.2.1]
  unfold n_mayPlay
  exact ⟨fun x => ⟨hs, ht, x⟩, fun x => x.2.2⟩
theorem n_s_copy {h : m_H} {k : Int} (X : n_R h k) (s t : Int) (i1 : -2147483648 ≤ s) (i2 : s < 2147483648) (j1 : -2147483648 ≤ t) (j2 : t < 2147483648) : n_step h k (t10_copy 1 s t) (t11_copy 127 s t) := by
  have X' := X
  obtain ⟨I, gs, bud, x1, x2, x3, x4, x5, x6, x7⟩ := X'
  have B := gs.1
  unfold n_shB at B
  have N := x3.1
  unfold n_shN at N
  have t2 := n_t2 I.2
  unfold n_step t10_copy
  rw [if_pos (n_t1 I.2), n_p1_0 I.2, if_pos t2]
  obtain ⟨r, er, cr⟩ := n_freeAny I x3 gs i1 i2
  by_cases ct : 0 ≤ t ∧ t < m_g h 127 23
  · have bt := gs.2.2.1 t ct.1 ct.2
    unfold n_macB at bt
    have M := x3.2.2.1 t ct.1 ct.2
    unfold n_mach at M
    have em := n_machineOf_y I x3 gs ct
    have ecp := n_copyPace M.1.1
    rw [M.2.1] at ecp
    by_cases c : n_mayPlay h s t (1000 + m_g h 142 t) 1000
    · have c' := c
      obtain ⟨c1, -, c3, c4, c5, c6⟩ := c'
      have hs : 0 ≤ s ∧ s < m_g h 127 14 := ⟨c1.1, c1.2.1⟩
      have b := gs.2.1 s hs.1 hs.2
      unfold n_strB at b
      have F := n_st_F x3 gs hs
      obtain ⟨⟨a1, a2, a3, a4⟩, a5, a6, a7, a8, a9, a10, a11, a12, a13, a14, a15, a16, a17⟩ := n_st x3 hs
      rcases cr with ⟨cr, -⟩ | cr
      · subst cr
        obtain ⟨cb, ec, hcb⟩ := n_canPlay2 (p := 1000 + m_g h 142 t) (q := 1000) I x3 gs c1 ct (by omega) (by omega) (by omega) (by omega)
        have : cb = true := hcb.mpr c
        subst this
        have b0 := n_mulp (a := m_g h 131 s - 1) (b := 1000) (A := 300) (B := 1000) (by omega) (by omega) (by omega) (by omega)
        have b1 := n_td (q := 1000 + m_g h 142 t) b0.1 (by omega)
        have nn : 1 ≤ Int.tdiv ((m_g h 131 s - 1) * 1000) (1000 + m_g h 142 t) + 1 := by omega
        obtain ⟨h1, e1, A1⟩ := n_playedC (kd := 5) (q := m_g h 3 s) (s := s) (mc := m_g h 4 t) (p := 1000 + m_g h 142 t) (qq := 1000) (n := Int.tdiv ((m_g h 131 s - 1) * 1000) (1000 + m_g h 142 t) + 1) I F (by omega) (by omega) M.1 (by omega) (by omega) (by omega) (by omega) (by omega) (by omega) (by omega) (by omega) (by rw [a16]) c4
        rw [a9, a10, a11, a16, M.2.2.2.1, M.2.2.2.2] at A1
        have wb := n_top_b (x := m_g h 136 s + m_g h 145 t) (by omega)
        have hb := n_top_b (x := m_g h 135 s + m_g h 144 t) (by omega)
        have Iw : n_I (m_p h (m_g h 3 s) 7 (n_top (m_g h 136 s + m_g h 145 t))) := n_I_p I (by omega) (by omega) (n_key_big I.2 a2 _)
        have kr : m_t h1 (m_n h + 1) = 5 := A1.2.2.2.1.2.1
        have ka : m_t h1 (m_n h) = 8 := A1.2.2.2.1.1
        have f3 : m_g h1 (m_n h) 3 = m_n h + 1 := A1.2.2.2.2.1.2.2.2.1
        have R1 : m_g h1 (m_n h + 1) 1 = Int.tdiv ((m_g h 131 s - 1) * 1000) (1000 + m_g h 142 t) + 1 := A1.2.2.2.2.2.1.1
        have R2 : ∀ j, 0 ≤ j → j < Int.tdiv ((m_g h 131 s - 1) * 1000) (1000 + m_g h 142 t) + 1 → n_rg h1 (m_n h + 1) j = n_cl (n_play (n_rg h (m_g h (m_g h 3 s) 3)) (m_g h 131 s) j (1000 + m_g h 142 t) 1000) := A1.2.2.2.2.2.1.2
        have lm := I.1.1 (m_g h 4 t) (by omega)
        have km : m_t h1 (m_g h 4 t) = 0 := by rw [(A1.2.1.1 _ lm.2).1]; exact M.1.1
        have m1 : m_g h1 (m_g h 4 t) 1 = m_g h 143 t := by
          rw [n_new_old A1 lm.2 (by omega) (by omega) 1, n_gp_n (fun q => by have := M.1.1; rw [q.1] at this; omega)]
          exact M.2.2.1
        have sv1 : n_sv h1 (m_n h + 1) := fun j => by
          by_cases q : 0 ≤ j ∧ j < Int.tdiv ((m_g h 131 s - 1) * 1000) (1000 + m_g h 142 t) + 1
          · rw [R2 j q.1 q.2]
            exact ⟨n_cl_lo _, n_cl_hi _⟩
          · unfold n_rg; rw [if_neg (by rw [R1]; exact q)]; omega
        obtain ⟨h2, e2, B2⟩ := n_level (v := m_n h + 1) (t := m_g h 143 t) A1.1.1 kr sv1 (by omega) (by omega)
        rw [R1] at B2
        have A2 := n_new_rw Iw A1 B2
        have ka2 : m_t h2 (m_n h) = 8 := A2.2.2.2.1.1
        have f0 : m_g h2 (m_n h) 0 = m_g h 2 1 := A2.2.2.2.2.1.1.trans (n_gp_n (by omega))
        have K1 := n_kp_p (h := h) (a := m_g h 3 s) (k := 7) (v := n_top (m_g h 136 s + m_g h 145 t)) (by omega)
        have KP : n_kp h h2 [m_g h 3 s, 2, 3] [] := n_kp_trans K1 A2.2.1 I.1 n_no
        have ref := fun b j (b1 : 127 ≤ b) (b2 : b < 312) => n_kp_ref I KP (fun b hb => by simp at hb; omega) n_no b1 b2 j
        have G0 := n_gs_g (g' := h2) gs (fun b j => ref b j)
        have r14 := ref 127 14 (by omega) (by omega)
        have r15 := ref 127 15 (by omega) (by omega)
        have r23 := ref 127 23 (by omega) (by omega)
        have r131 := ref 131 s (by omega) (by omega)
        have r132 := ref 132 s (by omega) (by omega)
        have r133 := ref 133 s (by omega) (by omega)
        have r134 := ref 134 s (by omega) (by omega)
        have r135 := ref 135 s (by omega) (by omega)
        have r136 := ref 136 s (by omega) (by omega)
        have r142 := ref 142 t (by omega) (by omega)
        have r143 := ref 143 t (by omega) (by omega)
        have r144 := ref 144 t (by omega) (by omega)
        have r145 := ref 145 t (by omega) (by omega)
        have r130 := ref 130 s (by omega) (by omega)
        obtain ⟨g1, eg, N1⟩ := n_playsR (g := h2) (s := s) (t := t) (kd := 5) (p := 1000 + m_g h 142 t) (q := 1000) (l := m_g h 143 t) (n := Int.tdiv ((m_g h 131 s - 1) * 1000) (1000 + m_g h 142 t) + 1) A2.1 G0 (by rw [r14, r133, r132]; exact c1) (by rw [r23]; exact ct) (by omega) (by omega) (by omega) (by omega) (by omega) (by omega) (by omega) (by rw [r131]) c4 (by omega) (by rw [r15]; exact c6)
        rw [r134, r135, r144] at N1
        rw [r14, r136, r145] at eg
        have R := n_finP X hs wb A2 N1 (fun j q1 q2 => by
          show n_cl (Int.tdiv (n_rg h1 (m_n h + 1) j * m_g h 143 t) 64) = _
          rw [R2 j q1 q2]
          exact n_pl_eq (g := h2) (fun i y1 y2 => by rw [r131] at y2; rw [a17 i y1 y2, r130, ref 128 _ (by omega) (by omega)]) r131.symm (by omega) (by omega) (by omega) q1) (fun j q1 q2 => ⟨n_cl_lo _, n_cl_hi _⟩) c5 c6 nn c4 (by omega) (by omega) hb
        refine ⟨m_g h 2 1, h2, m_g h 127 14, m_p g1 136 s (n_top (m_g h 136 s + m_g h 145 t)), ?_, ?_, by rw [N.1], R⟩
        · unfold t7_copiedOf
          rw [if_pos t2, er, n_bs]
          show (if m_t h 2 = 7 then t7_machineOf 2 t h >>= _ else none) >>= _ = _
          rw [if_pos t2, em, n_bs]
          show (if m_g h 4 t = 0 then _ else if m_t h (m_g h 4 t) = 0 then t0_copyPace (m_g h 4 t) h >>= _ else none) >>= _ = _
          rw [if_neg (by omega), if_pos M.1.1, ecp, n_bs]
          show (if m_t h 2 = 7 then t7_canPlay 2 (m_g h 3 s) (m_g h 4 t) (1000 + m_g h 142 t) 1000 h >>= _ else none) >>= _ = _
          rw [if_pos t2, ec, n_bs]
          show (if true = true then if m_t h (m_g h 4 t) = 0 then t0_copyPace (m_g h 4 t) h >>= _ else none else _) >>= _ = _
          rw [if_pos rfl, if_pos M.1.1, ecp, n_bs]
          show (if m_t h 2 = 7 then t7_played 2 5 (m_g h 3 s) (m_g h 4 t) (1000 + m_g h 142 t) 1000 h >>= _ else none) >>= _ = _
          rw [if_pos t2, e1, n_bs]
          show (if m_t h1 (m_n h) = 8 then if m_t h1 (m_g h 4 t) = 0 then if m_t h1 (m_g h1 (m_n h) 3) = 5 then t5_level (m_g h1 (m_n h) 3) (m_g h1 (m_g h 4 t) 1) h1 >>= _ else none else none else none) >>= _ = _
          rw [if_pos ka, if_pos km, f3, if_pos kr, m1, e2, n_bs]
          show (if m_t h2 (m_n h) = 8 then some (m_g h2 (m_n h) 0, h2) else none) >>= _ = _
          rw [if_pos ka2, n_bs, f0]
        · have l19 := n_l142 A2.1.2
          have l20 := n_l143 A2.1.2
          unfold t11_copy
          rw [if_pos (n_t127 A2.1.2), n_isMachine A2.1 (by omega) (by omega) j1 j2, decide_eq_true (by rw [r23]; exact ct), n_bs]
          show (if true = true then if m_t h2 127 = 11 then if m_t h2 (m_g h2 127 19) = 20 ∧ 0 ≤ m_w t ∧ m_w t < m_l h2 (m_g h2 127 19) then if m_t h2 (m_g h2 127 20) = 20 ∧ 0 ≤ m_w t ∧ m_w t < m_l h2 (m_g h2 127 20) then t11_plays 127 s t 5 (1000 + m_g h2 (m_g h2 127 19) (m_w t)) 1000 (m_g h2 (m_g h2 127 20) (m_w t)) h2 >>= _ else none else none else none else _) = _
          rw [if_pos rfl, if_pos (n_t127 A2.1.2), n_p127_19 A2.1.2, n_p127_20 A2.1.2, m_w_of (x := t) (by omega) (by omega), if_pos ⟨n_t142 A2.1.2, by omega, by omega⟩, if_pos ⟨n_t143 A2.1.2, by omega, by omega⟩, r142, r143, eg, n_bs]
      · exact absurd cr (by
          intro e
          rw [e] at er
          have := n_freeStrip_y I x3 gs hs c1.2.2.1 c1.2.2.2
          rw [er] at this
          have := congrArg (fun o => o.map Prod.fst) this
          simp at this
          omega)
    · refine ⟨-1, h, -1, h, ?_, ?_, rfl, n_R_more X⟩
      · have ec : t7_canPlay 2 r (m_g h 4 t) (1000 + m_g h 142 t) 1000 h = some (false, h) := by
          rcases cr with ⟨cr, c1⟩ | cr
          · subst cr
            obtain ⟨cb, ec, hcb⟩ := n_canPlay2 (p := 1000 + m_g h 142 t) (q := 1000) I x3 gs c1 ct (by omega) (by omega) (by omega) (by omega)
            cases cb
            · exact ec
            · exact absurd (hcb.mp rfl) c
          · exact n_canPlay_0 (Or.inl cr)
        unfold t7_copiedOf
        rw [if_pos t2, er, n_bs]
        show (if m_t h 2 = 7 then t7_machineOf 2 t h >>= _ else none) >>= _ = _
        rw [if_pos t2, em, n_bs]
        show (if m_g h 4 t = 0 then _ else if m_t h (m_g h 4 t) = 0 then t0_copyPace (m_g h 4 t) h >>= _ else none) >>= _ = _
        rw [if_neg (by omega), if_pos M.1.1, ecp, n_bs]
        show (if m_t h 2 = 7 then t7_canPlay 2 r (m_g h 4 t) (1000 + m_g h 142 t) 1000 h >>= _ else none) >>= _ = _
        rw [if_pos t2, ec, n_bs]
        rfl
      · have l19 := n_l142 I.2
        have l20 := n_l143 I.2
        unfold t11_copy
        rw [if_pos (n_t127 I.2), n_isMachine I (by omega) (by omega) j1 j2, decide_eq_true ct, n_bs]
        show (if true = true then if m_t h 127 = 11 then if m_t h (m_g h 127 19) = 20 ∧ 0 ≤ m_w t ∧ m_w t < m_l h (m_g h 127 19) then if m_t h (m_g h 127 20) = 20 ∧ 0 ≤ m_w t ∧ m_w t < m_l h (m_g h 127 20) then t11_plays 127 s t 5 (1000 + m_g h (m_g h 127 19) (m_w t)) 1000 (m_g h (m_g h 127 20) (m_w t)) h >>= _ else none else none else none else _) = _
        rw [if_pos rfl, if_pos (n_t127 I.2), n_p127_19 I.2, n_p127_20 I.2, m_w_of (x := t) (by omega) (by omega), if_pos ⟨n_t142 I.2, by omega, by omega⟩, if_pos ⟨n_t143 I.2, by omega, by omega⟩, n_playsR_n I gs i1 i2 j1 j2 (by omega) (by omega) (by omega) (by omega) c, n_bs]
  · refine ⟨-1, h, -1, h, ?_, ?_, rfl, n_R_more X⟩
    · unfold t7_copiedOf
      rw [if_pos t2, er, n_bs]
      show (if m_t h 2 = 7 then t7_machineOf 2 t h >>= _ else none) >>= _ = _
      rw [if_pos t2, n_machineOf_n I x3 gs j1 j2 ct, n_bs]
      rfl
    · unfold t11_copy
      rw [if_pos (n_t127 I.2), n_isMachine I (by omega) (by omega) j1 j2, decide_eq_false ct, n_bs]
      rfl
