/-! CALLS: turns, turnOf: both -/
theorem n_isT_e {g g' : m_H} {k : Int} (k0 : 0 ≤ k) (k8 : k < 8) (e : ∀ b j, 151 ≤ b → b ≤ 231 → m_g g' b j = m_g g b j) : n_isT g' k = n_isT g k := by
  funext o
  unfold n_isT
  rw [e (153 + k) o (by omega) (by omega)]
theorem n_cn_e {g g' : m_H} {k : Int} (k0 : 0 ≤ k) (k8 : k < 8) (e : ∀ b j, 151 ≤ b → b ≤ 231 → m_g g' b j = m_g g b j) : ∀ o, n_cn g' k o = n_cn g k o
  | 0 => rfl
  | o + 1 => by rw [n_cn_s, n_cn_s, n_cn_e k0 k8 e o, n_isT_e k0 k8 e]
theorem n_so_e {g g' : m_H} {k : Int} (k0 : 0 ≤ k) (k8 : k < 8) (e : ∀ b j, 151 ≤ b → b ≤ 231 → m_g g' b j = m_g g b j) : ∀ o, n_so g' k o = n_so g k o
  | 0 => rfl
  | o + 1 => by
    funext i
    rw [n_so_s, n_so_s, n_so_e k0 k8 e o, n_isT_e k0 k8 e, n_cn_e k0 k8 e]
theorem n_nd_e {g g' : m_H} {k : Int} (k0 : 0 ≤ k) (k8 : k < 8) (e : ∀ b j, 151 ≤ b → b ≤ 231 → m_g g' b j = m_g g b j) (N : Nat) : n_nd g' k N = n_nd g k N := by
  funext i
  unfold n_nd n_ndO n_bt
  rw [n_so_e k0 k8 e, n_isT_e k0 k8 e, e (163 + k) _ (by omega) (by omega), e (173 + k) _ (by omega) (by omega), n_cn_e k0 k8 e, n_cn_e k0 k8 e]
theorem n_fitG_e {g g' : m_H} {k : Int} (k0 : 0 ≤ k) (k8 : k < 8) (e : ∀ b j, 151 ≤ b → b ≤ 231 → m_g g' b j = m_g g b j) (e23 : m_g g' 127 23 = m_g g 127 23) (S : Nat) (so : Nat → Int) : ∀ m i b mc u, n_fitG g' k S so m i b mc u = n_fitG g k S so m i b mc u
  | 0, i, b, mc, u => by unfold n_fitG; rw [e23]
  | m + 1, i, b, mc, u => by
    have ih := n_fitG_e k0 k8 e e23 S so m
    unfold n_fitG
    rw [e (153 + k) (so i) (by omega) (by omega), e (183 + k) (so i) (by omega) (by omega), e23, ih, ih, ih, ih]
theorem n_fitN_e {g g' : m_H} {k : Int} (k0 : 0 ≤ k) (k8 : k < 8) (e : ∀ b j, 151 ≤ b → b ≤ 231 → m_g g' b j = m_g g b j) (e23 : m_g g' 127 23 = m_g g 127 23) (N : Nat) : n_fitN g' k N = n_fitN g k N := by
  funext S
  unfold n_fitN
  rw [n_fitG_e k0 k8 e e23, n_so_e k0 k8 e, n_cn_e k0 k8 e]
theorem n_plan_e {g g' : m_H} {k : Int} (k0 : 0 ≤ k) (k8 : k < 8) (e : ∀ b j, 151 ≤ b → b ≤ 231 → m_g g' b j = m_g g b j) (e23 : m_g g' 127 23 = m_g g 127 23) {V : Nat → Int} {f : Nat → Nat} (P : n_plan g k V f) : n_plan g' k V f := by
  unfold n_plan n_vP at *
  rw [e 151 k (by omega) (by omega), n_cn_e k0 k8 e, n_nd_e k0 k8 e, n_fitN_e k0 k8 e e23]
  exact P
theorem n_wF_T {h x : m_H} {k : Int} (X : n_R h k) (F : n_wF h x) : n_sp h x [114, 115, 116, 117, 118] [] [] [] ∧ n_bud x k ∧ n_R x (k + 1) := by
  have e : ∀ b j, b ∉ [(114 : Int), 115, 116, 117, 118] → m_g x b j = m_g h b j := fun b j hb => F.2.2 b j (by
    simp only [List.mem_cons, List.not_mem_nil, or_false] at hb
    omega)
  obtain ⟨-, P, -, B⟩ := n_only X (A := [114, 115, 116, 117, 118]) F.2.1 e (by decide)
  exact ⟨P, B, n_finS X P F.1 (n_bud_more B) (by decide) rfl rfl rfl⟩
theorem n_vF_R {h x g' : m_H} {k : Int} (X : n_R h k) (F : n_wF h x) (G : n_vF x g') : n_R g' (k + 1) := by
  obtain ⟨P, B, -⟩ := n_wF_T X F
  have KR : n_kr x g' [303, 304, 305, 306] [79] := ⟨G.2.1, fun b hb => by simp only [List.mem_cons, List.not_mem_nil, or_false] at hb; omega, fun b j h1 h2 => G.2.2 b j (by simp only [List.mem_cons, List.not_mem_nil, or_false] at h1; omega) (by simpa using h2)⟩
  have I := X.1
  have K : n_kp h x [114, 115, 116, 117, 118] [] := (n_only X (A := [114, 115, 116, 117, 118]) F.2.1 (fun b j hb => F.2.2 b j (by
    simp only [List.mem_cons, List.not_mem_nil, or_false] at hb
    omega)) (by decide)).1
  have PP : n_sp h g' [114, 115, 116, 117, 118] [] [303, 304, 305, 306] [79] := n_sp_of I K KR P.2.2.2.1 n_no
  have B2 : n_bud g' (k + 1) := n_bud_same F.1 G.2.1 (fun r hr => n_kr_comp KR (n_ref_row F.1 hr).1 0) (n_bud_more B)
  exact n_finS X PP G.1 B2 (by decide) rfl (by decide) (by decide)
theorem n_s_turns2 {h : m_H} {k : Int} (X : n_R h k) (s o : Int) (i1 : -2147483648 ≤ s) (i2 : s < 2147483648) (o1 : -2147483648 ≤ o) (o2 : o < 2147483648) : n_step h k (t10_turns 1 s) (t11_turns 127 s) ∧ n_step h k (t10_turnOf 1 s o) (t11_turnOf 127 s o) := by
  have X' := X
  obtain ⟨I, gs, bud, x1, x2, x3, x4, x5, x6, x7⟩ := X'
  have s2 := x5.2.1
  have s3 := x5.2.2.1
  have B := gs.1
  unfold n_shB at B
  unfold n_step
  by_cases c : 0 ≤ s ∧ s < m_g h 127 43
  · have C := n_scc_of x5 c.1 c.2
    have k8 : s < 8 := by omega
    have C3 := C.2.2.1
    have a312 := C.1.1.2.1
    have M : 0 ≤ m_g h 127 23 ∧ m_g h 127 23 ≤ 4 := by omega
    have e26 : m_g h 2 6 = m_g h 127 23 := x3.1.2.2.2.2.1
    have sc := n_scoreOf_y I x5 c
    generalize m_g h 19 s = a at C a312 sc
    obtain ⟨x, r, f1, F, n1, n2⟩ := n_turnsC I C M
    have ref : ∀ b j, 127 ≤ b → b < 312 → m_g x b j = m_g h b j := fun b j h1 h2 => F.2.2 b j (by omega)
    have e : ∀ b j, 151 ≤ b → b ≤ 231 → m_g x b j = m_g h b j := fun b j h1 h2 => ref b j (by omega) (by omega)
    have e23 := ref 127 23 (by omega) (by omega)
    have e43 := ref 127 43 (by omega) (by omega)
    have e151 := ref 151 s (by omega) (by omega)
    have Cx : n_scc h x s a := n_scc_g C (fun b j h1 h2 => ref b j (by omega) h2)
    have PR := n_plansR F.1 Cx (by rw [e23]; exact M) (by rw [e43]; exact c.2) (by rw [e43]; exact s3)
    rw [n_cn_e c.1 k8 e, e151] at PR
    obtain ⟨A, D⟩ := PR
    have cT : t10_turns 1 s h = some (r, x) := by
      unfold t10_turns
      rw [if_pos (n_t1 I.2), sc, n_bs]
      dsimp only
      rw [if_neg (by omega), if_pos (n_t1 I.2), n_p1_0 I.2, n_p1_7 I.2, if_pos (n_t2 I.2), if_pos (n_t114 I.2), e26, f1, n_bs]
    have cO : ∀ y, t9_plannedTurn 114 a (m_g h 127 23) o h = some (y, x) → t10_turnOf 1 s o h = some (y, x) := fun y hy => by
      unfold t10_turnOf
      rw [if_pos (n_t1 I.2), sc, n_bs]
      dsimp only
      rw [if_neg (by omega), if_pos (n_t1 I.2), n_p1_0 I.2, n_p1_7 I.2, if_pos (n_t2 I.2), if_pos (n_t114 I.2), e26, hy, n_bs]
    have tX := n_t127 F.1.2
    by_cases c9 : 1 ≤ n_cn h s (m_g h 151 s).toNat ∧ n_cn h s (m_g h 151 s).toNat ≤ 9
    · obtain ⟨V, f, P, er, eo⟩ := n2 c9
      obtain ⟨eo1, eo2⟩ := eo o o1 o2
      obtain ⟨g', q1, q2, q3⟩ := D c9 V f (n_plan_e c.1 k8 e e23 P)
      have R1 := n_vF_R X F q2
      by_cases fin : V 0 < 1000000
      · have v0 := P.2.2.1
        have v1 := P.2.2.2 fin
        obtain ⟨S, tn⟩ := q3 fin
        rw [decide_eq_true fin] at q1
        have c9x : n_cn x s (m_g x 151 s).toNat ≤ 9 := by rw [n_cn_e c.1 k8 e, e151]; exact c9.2
        have p9 := n_pow9 c9x
        have X1 : n_Vs 1000 (n_vP x s (m_g x 151 s).toNat) (2 ^ n_cn x s (m_g x 151 s).toNat - 1) (n_V1 V) := n_Vs_cap (n_plan_e c.1 k8 e e23 P).1 p9.2 p9.1
        constructor
        · obtain ⟨g2, q4, S2, q5⟩ := n_leastR Cx (by rw [e23]; exact M) c9x X1 12 0 g' (by omega) (by have := n_rk_le 0 (n_cn x s (m_g x 151 s).toNat); omega) S
          have q4' : t11_least 127 s 0 g' = some (n_V1 V 0, g2) := q4
          refine ⟨r, x, n_V1 V 0, g2, cT, ?_, ?_, n_vF_R X F S2.1.1.1⟩
          · unfold t11_turns
            rw [if_pos tX, q1, n_bs]
            dsimp only
            rw [if_pos rfl, if_pos (n_t127 q2.1.2), q4', n_bs]
          · rw [er, if_pos fin]
            unfold n_V1
            rw [if_neg (by omega)]
        · have eSO := n_stepOfR (g := x) (gg := g') (k := s) (v := o) (N := (m_g x 151 s).toNat) (by omega) S.1.1 c9x o1 o2
          have head : t11_turnOf 127 s o x = (if m_w (if 0 ≤ o ∧ o < (m_g x 151 s).toNat ∧ n_isT x s o = true then (n_cn x s o.toNat : Int) else -1) = -1 then some (-1, g') else (if m_t g' 306 = 20 ∧ 0 ≤ m_w (if 0 ≤ o ∧ o < (m_g x 151 s).toNat ∧ n_isT x s o = true then (n_cn x s o.toNat : Int) else -1) ∧ m_w (if 0 ≤ o ∧ o < (m_g x 151 s).toNat ∧ n_isT x s o = true then (n_cn x s o.toNat : Int) else -1) < m_l g' 306 then some (m_g g' 306 (m_w (if 0 ≤ o ∧ o < (m_g x 151 s).toNat ∧ n_isT x s o = true then (n_cn x s o.toNat : Int) else -1)), g') else none)) := by
            unfold t11_turnOf
            rw [if_pos tX, q1, n_bs]
            dsimp only
            rw [if_pos rfl, if_pos (n_t127 q2.1.2), eSO, n_bs]
            dsimp only
            rw [if_pos (n_t127 q2.1.2), eSO, n_bs]
            dsimp only
            rw [n_p127_78 q2.1.2]
          by_cases st : n_isTN h s o
          · have st' := st
            obtain ⟨t1, t2, t3⟩ := st'
            have sx : 0 ≤ o ∧ o < (m_g x 151 s).toNat ∧ n_isT x s o = true := ⟨t1, by rw [e151]; omega, by rw [n_isT_e c.1 k8 e]; exact t3⟩
            have m1 := n_so_cn (g := x) (k := s) (N := (m_g x 151 s).toNat) t1 sx.2.1 sx.2.2
            obtain ⟨u, u1, u2, u3⟩ := tn (n_cn x s o.toNat) (by rw [← n_cn_e c.1 k8 e, ← e151]; exact m1.1) (by
              obtain ⟨w, w1, w2⟩ := n_plan_all P c9.2 fin (j := n_cn x s o.toNat) (by rw [← n_cn_e c.1 k8 e, ← e151]; exact m1.1)
              have : (n_dsq f (w + 1)).testBit (n_cn x s o.toNat) = true := by
                rw [show n_dsq f (w + 1) = n_dsq f w ||| f (n_dsq f w) from rfl, Nat.testBit_or, w2, Bool.or_true]
              have := n_dsq_keep f ((V 0).toNat - (w + 1)) (w + 1) this
              rw [show w + 1 + ((V 0).toNat - (w + 1)) = (V 0).toNat by omega] at this
              exact this)
            rw [n_cn_e c.1 k8 e] at u2 u3
            have l6 := n_l306 q2.1.2
            have m2 := m1.1
            rw [n_cn_e c.1 k8 e, n_cn_e c.1 k8 e, e151] at m2
            rw [if_pos sx, n_cn_e c.1 k8 e, m_w_of (x := (n_cn h s o.toNat : Int)) (by omega) (by omega), if_neg (by omega), if_pos ⟨n_t306 q2.1.2, by omega, by
              have := m1.1
              rw [n_cn_e c.1 k8 e, n_cn_e c.1 k8 e] at this
              rw [e151] at this
              omega⟩, u3] at head
            exact ⟨_, x, _, g', cO _ (eo2 fin st u (by omega) u2), head, rfl, R1⟩
          · have ns : ¬ (0 ≤ o ∧ o < (m_g x 151 s).toNat ∧ n_isT x s o = true) := fun z => st ⟨z.1, by have := z.2.1; rw [e151] at this; omega, by rw [← n_isT_e c.1 k8 e]; exact z.2.2⟩
            rw [if_neg ns, m_w_of (x := -1) (by omega) (by omega), if_pos rfl] at head
            exact ⟨-1, x, -1, g', cO _ (eo1 (Or.inr st)), head, rfl, R1⟩
      · rw [decide_eq_false fin] at q1
        rw [if_neg fin] at er
        constructor
        · refine ⟨r, x, -1, g', cT, ?_, by rw [er], R1⟩
          unfold t11_turns
          rw [if_pos tX, q1, n_bs]
          rfl
        · refine ⟨-1, x, -1, g', cO _ (eo1 (Or.inl fin)), ?_, rfl, R1⟩
          unfold t11_turnOf
          rw [if_pos tX, q1, n_bs]
          rfl
    · obtain ⟨g', q1, q2⟩ := A c9
      obtain ⟨r1, r2⟩ := n1 c9
      have R1 := n_vF_R X F q2
      constructor
      · refine ⟨r, x, -1, g', cT, ?_, by rw [r1], R1⟩
        unfold t11_turns
        rw [if_pos tX, q1, n_bs]
        rfl
      · refine ⟨-1, x, -1, g', cO _ (r2 o o1 o2), ?_, rfl, R1⟩
        unfold t11_turnOf
        rw [if_pos tX, q1, n_bs]
        rfl
  · have eS := n_isScore (s := s) I s2 s3
    rw [m_w_of i1 i2, decide_eq_false c] at eS
    have eP : t11_plans 127 s h = some (false, h) := by
      unfold t11_plans
      rw [if_pos (n_t127 I.2), eS, n_bs]
      rfl
    constructor
    · refine ⟨-1, h, -1, h, ?_, ?_, rfl, n_R_more X⟩
      · unfold t10_turns
        rw [if_pos (n_t1 I.2), n_scoreOf_n I x5 i1 i2 c, n_bs]
        rfl
      · unfold t11_turns
        rw [if_pos (n_t127 I.2), eP, n_bs]
        rfl
    · refine ⟨-1, h, -1, h, ?_, ?_, rfl, n_R_more X⟩
      · unfold t10_turnOf
        rw [if_pos (n_t1 I.2), n_scoreOf_n I x5 i1 i2 c, n_bs]
        rfl
      · unfold t11_turnOf
        rw [if_pos (n_t127 I.2), eP, n_bs]
        rfl
