/-! CALLS: hang, read -/
theorem n_s_hang {h : m_H} {k : Int} (X : n_R h k) (s v : Int) (i1 : -2147483648 ≤ s) (i2 : s < 2147483648) (v1 : -2147483648 ≤ v) (v2 : v < 2147483648) : n_stepb h k (t10_hang 1 s v) (t11_hang 127 s v) := by
  have X' := X
  obtain ⟨I, gs, bud, x1, x2, x3, x4, x5, x6, x7⟩ := X'
  have tM := n_t127 I.2
  have t1 := n_t1 I.2
  have t2 := n_t2 I.2
  have B := gs.1
  unfold n_shB at B
  have eT := n_isThere I gs i1 i2
  have eI := n_in (a := v) (b := -1) (c := 29) (h := h) (by omega) (by omega) (by omega) (by omega) (by omega) (by omega)
  unfold n_stepb t10_hang t11_hang
  by_cases c : 0 ≤ s ∧ s < m_g h 127 14 ∧ m_g h 133 s = 0
  · have hs : 0 ≤ s ∧ s < m_g h 127 14 := ⟨c.1, c.2.1⟩
    obtain ⟨⟨s1, s2, s3, s4⟩, s5⟩ := n_st x3 hs
    have eC := n_there_y I x3 gs hs c.2.2
    rw [decide_eq_true c] at eT
    by_cases cv : -1 ≤ v ∧ v ≤ 29
    · rw [decide_eq_true cv] at eI
      obtain ⟨r, e1, q⟩ := n_hangingOn I x3 gs v1 v2
      have rb : -1 ≤ r ∧ r < 100 := by unfold n_nl at q; omega
      -- the reference's search
      have rs : ∀ g : m_H, n_I g → (∀ b j, 127 ≤ b → b < 312 → m_g g b j = m_g h b j) → t11_hang_c26 127 s v 0 g = if r = -1 ∨ r = s then some (true, m_p g 137 s v) else some (false, g) := fun g J ref => by
        have u1 := n_t127 J.2
        have u9 := n_t137 J.2
        have l9 := n_l137 J.2
        have p9 := n_p127_9 J.2
        have r14 := ref 127 14 (by omega) (by omega)
        have c62 : t11_hang_c62 127 s v g = some (true, m_p g 137 s v) := by
          unfold t11_hang_c62
          simp (disch := omega) only [m_w_of, n_ltT, n_ltF, n_leT, n_leF, n_eqT, n_eqF, n_bs, n_bn, ↓reduceIte, true_and, and_true, and_self, false_and, and_false, or_true, true_or, or_false, false_or, not_true_eq_false, not_false_eq_true, Bool.false_eq_true, reduceCtorEq, eq_self, p9]
        by_cases cn : v = -1
        · have hr : r = -1 := by unfold n_nl at q; omega
          rw [if_pos (Or.inl hr), t11_hang_c26, ← c62]
          simp (disch := omega) only [m_w_of, n_ltT, n_ltF, n_leT, n_leF, n_eqT, n_eqF, n_bs, n_bn, ↓reduceIte, true_and, and_true, and_self, false_and, and_false, or_true, true_or, or_false, false_or, not_true_eq_false, not_false_eq_true, Bool.false_eq_true, reduceCtorEq, eq_self]
        rcases n_find (fun i => t11_hang_c26 127 s v i g) 0 (m_g h 127 14) (fun i => i ≠ s ∧ m_g h 137 i = v) (by omega) (fun i j1 j2 hp => by
          show t11_hang_c26 127 s v i g = t11_hang_c26 127 s v (i + 1) g
          have hp : ¬ (i ≠ s ∧ m_g h 137 i = v) := hp
          have b := gs.2.1 i j1 j2
          unfold n_strB at b
          have r137 := ref 137 i (by omega) (by omega)
          rw [t11_hang_c26]
          by_cases ci : i = s
          · simp (disch := omega) only [m_w_of, n_ltT, n_ltF, n_leT, n_leF, n_eqT, n_eqF, n_bs, n_bn, ↓reduceIte, true_and, and_true, and_self, false_and, and_false, or_true, true_or, or_false, false_or, not_true_eq_false, not_false_eq_true, Bool.false_eq_true, reduceCtorEq, eq_self]
          · have : ¬ m_g h 137 i = v := fun e => hp ⟨ci, e⟩
            simp (disch := omega) only [m_w_of, n_ltT, n_ltF, n_leT, n_leF, n_eqT, n_eqF, n_bs, n_bn, ↓reduceIte, true_and, and_true, and_self, false_and, and_false, or_true, true_or, or_false, false_or, not_true_eq_false, not_false_eq_true, Bool.false_eq_true, reduceCtorEq, eq_self, p9]) with ⟨a, b⟩ | ⟨i, a, b, ⟨ci, cv2⟩, d, e⟩
        · have hr : r = -1 ∨ r = s := by
            unfold n_nl at q
            rcases q with q | ⟨q1, q2, q3, q4, q5⟩
            · exact Or.inl q.1
            · right
              by_cases e : r = s
              · exact e
              · exact absurd ⟨e, q4⟩ (a r q1 q2)
          rw [if_pos hr, ← c62]
          refine b.trans ?_
          show t11_hang_c26 127 s v (m_g h 127 14) g = _
          rw [t11_hang_c26]
          simp (disch := omega) only [m_w_of, n_ltT, n_ltF, n_leT, n_leF, n_eqT, n_eqF, n_bs, n_bn, ↓reduceIte, true_and, and_true, and_self, false_and, and_false, or_true, true_or, or_false, false_or, not_true_eq_false, not_false_eq_true, Bool.false_eq_true, reduceCtorEq, eq_self]
        · have hr : ¬ (r = -1 ∨ r = s) := by
            unfold n_nl at q
            rcases q with ⟨q1, q2⟩ | ⟨q1, q2, q3, q4, q5⟩
            · rcases q2 with q2 | q2
              · exact absurd q2 cn
              · exact absurd cv2 (q2 i a b)
            · intro e
              rcases e with e | e
              · omega
              · subst e
                rcases Int.lt_trichotomy i r with f | f | f
                · exact absurd cv2 (q5 i a f)
                · exact ci f
                · have := gs.2.2.2.2.1 r i q1 f b (by omega)
                  omega
          rw [if_neg hr]
          refine e.trans ?_
          show t11_hang_c26 127 s v i g = _
          have b' := gs.2.1 i a b
          unfold n_strB at b'
          have r137 := ref 137 i (by omega) (by omega)
          rw [t11_hang_c26]
          simp (disch := omega) only [m_w_of, n_ltT, n_ltF, n_leT, n_leF, n_eqT, n_eqF, n_bs, n_bn, ↓reduceIte, true_and, and_true, and_self, false_and, and_false, or_true, true_or, or_false, false_or, not_true_eq_false, not_false_eq_true, Bool.false_eq_true, reduceCtorEq, eq_self, p9]
      by_cases hr : r = -1 ∨ r = s
      · have J1 : n_I (m_p h (m_g h 3 s) 8 v) := n_I_p I (by omega) (by omega) (n_key_big I.2 s2 _)
        have Ka := n_kp_p (h := h) (a := m_g h 3 s) (k := 8) (v := v) (by omega)
        have hA : ∀ b ∈ [m_g h 3 s], n_sf h b ∧ (b < 127 ∨ 312 ≤ b) := n_in1 ⟨n_st_sf I x3 hs, Or.inr s2⟩
        have ref := fun b j (b1 : 127 ≤ b) (b2 : b < 312) => n_kp_ref I Ka (fun b hb => (hA b hb).2) n_no b1 b2 j
        have S0 := n_Rsh_g (g' := m_p h (m_g h 3 s) 8 v) x3 (fun b j => ref b j)
        have gs1 := n_gs_g (g' := m_p h (m_g h 3 s) 8 v) gs (fun b j => ref b j)
        have hs1 : 0 ≤ s ∧ s < m_g (m_p h (m_g h 3 s) 8 v) 127 14 := by rw [ref 127 14 (by omega) (by omega)]; exact hs
        have RR := n_Rsh_set (c := 8) (b := 137) (v := v) I S0 hs1 (by omega)
        have bs := gs1.2.1 s hs1.1 hs1.2
        have c1 := ref 133 s (by omega) (by omega)
        have oth : v = -1 ∨ ∀ i, 0 ≤ i → i < m_g h 127 14 → i ≠ s → m_g h 137 i ≠ v := by
          unfold n_nl at q
          rcases q with ⟨q1, q2⟩ | ⟨q1, q2, q3, q4, q5⟩
          · rcases q2 with q2 | q2
            · exact Or.inl q2
            · exact Or.inr fun i a b _ => q2 i a b
          · right
            intro i a b ci e
            have hrs : r = s := by omega
            rcases Int.lt_trichotomy i r with f | f | f
            · exact absurd e (q5 i a f)
            · omega
            · have := gs.2.2.2.2.1 r i q1 f b (by omega)
              omega
        have gs2 : n_gs (m_p (m_p h (m_g h 3 s) 8 v) 137 s v) := by
          refine n_gs_set gs1 (by omega) hs1 ?_ (fun _ => ?_)
          · unfold n_strB at bs ⊢
            simp (disch := omega) only [m_g_p, m_w_of, n_ltT, n_ltF, n_leT, n_leF, n_eqT, n_eqF, n_bs, n_bn, ↓reduceIte, true_and, and_true, and_self, false_and, and_false, or_true, true_or, or_false, false_or, not_true_eq_false, not_false_eq_true, Bool.false_eq_true, reduceCtorEq, eq_self, implies_true] at bs ⊢
            omega
          · rcases oth with e | e
            · exact Or.inl e
            · right
              intro i a b ci
              rw [ref 137 i (by omega) (by omega)]
              rw [ref 127 14 (by omega) (by omega)] at b
              exact e i a b ci
        have KR : n_kr (m_p h (m_g h 3 s) 8 v) (m_p (m_p h (m_g h 3 s) 8 v) 137 s v) [137] [] := n_kr_p (by omega) (by omega)
        have eT1 := n_isThere J1 gs1 i1 i2
        rw [ref 127 14 (by omega) (by omega), ref 133 s (by omega) (by omega), decide_eq_true c] at eT1
        have eI1 := n_in (a := v) (b := -1) (c := 29) (h := m_p h (m_g h 3 s) 8 v) (by omega) (by omega) (by omega) (by omega) (by omega) (by omega)
        rw [decide_eq_true cv] at eI1
        have er := rs _ J1 (fun b j => ref b j)
        rw [if_pos hr] at er
        have tM1 := n_t127 J1.2
        have Bu : n_bud (m_p h (m_g h 3 s) 8 v) (k + 1) := n_bud_same I rfl (fun r hr => by rw [m_g_p, if_neg (fun q => by rw [q.1] at hr; omega)]) (n_bud_more bud)
        have P := n_sp_of I Ka KR hA n_no
        have E : ∀ b j, b ≠ m_g h 3 s → b ≠ 137 → m_g (m_p (m_p h (m_g h 3 s) 8 v) 137 s v) b j = m_g h b j := fun b j c1 c2 => by rw [m_g_p, if_neg (fun q => c2 q.1), m_g_p, if_neg (fun q => c1 q.1)]
        have F := n_fin X Ka KR hA (n_in1 (Or.inr s1)) n_no (n_in1 ⟨Or.inl (n_t137 J1.2), by omega⟩) n_no J1 Bu gs2 RR ((n_fr X P).2.1 List.not_mem_nil (by decide) (by decide)) (n_Rm_old (E _ _ (by omega) (by omega)) (E _ _ (by omega) (by omega)) (E _ _ (by omega) (by omega)) (fun t => E _ _ (by omega) (by omega)) (E _ _ (by omega) (by omega)) (E _ _ (by omega) (by omega)) (fun t => E _ _ (by omega) (by omega)) (fun t => E _ _ (by omega) (by omega)) (fun t => E _ _ (by omega) (by omega)) (fun t => E _ _ (by omega) (by omega)) (fun t => E _ _ (by omega) (by omega)) x7)
        refine ⟨true, m_p h (m_g h 3 s) 8 v, true, m_p (m_p h (m_g h 3 s) 8 v) 137 s v, ?_, ?_, rfl, F⟩
        · by_cases hr1 : r = -1
          · simp (disch := omega) only [m_w_of, n_ltT, n_ltF, n_leT, n_leF, n_eqT, n_eqF, n_bs, n_bn, ↓reduceIte, true_and, and_true, and_self, false_and, and_false, or_true, true_or, or_false, false_or, not_true_eq_false, not_false_eq_true, Bool.false_eq_true, reduceCtorEq, eq_self, n_p1_0 I.2, eC, e1]
          · simp (disch := omega) only [m_w_of, n_ltT, n_ltF, n_leT, n_leF, n_eqT, n_eqF, n_bs, n_bn, ↓reduceIte, true_and, and_true, and_self, false_and, and_false, or_true, true_or, or_false, false_or, not_true_eq_false, not_false_eq_true, Bool.false_eq_true, reduceCtorEq, eq_self, n_p1_0 I.2, eC, e1]
        · simp (disch := omega) only [m_w_of, n_ltT, n_ltF, n_leT, n_leF, n_eqT, n_eqF, n_bs, n_bn, ↓reduceIte, true_and, and_true, and_self, false_and, and_false, or_true, true_or, or_false, false_or, not_true_eq_false, not_false_eq_true, Bool.false_eq_true, reduceCtorEq, eq_self, eT1, eI1, er]
      · have er := rs h I (fun b j _ _ => rfl)
        rw [if_neg hr] at er
        refine ⟨false, h, false, h, ?_, ?_, rfl, n_R_more X⟩
        · simp (disch := omega) only [m_w_of, n_ltT, n_ltF, n_leT, n_leF, n_eqT, n_eqF, n_bs, n_bn, ↓reduceIte, true_and, and_true, and_self, false_and, and_false, or_true, true_or, or_false, false_or, not_true_eq_false, not_false_eq_true, Bool.false_eq_true, reduceCtorEq, eq_self, n_p1_0 I.2, eC, e1]
        · simp (disch := omega) only [m_w_of, n_ltT, n_ltF, n_leT, n_leF, n_eqT, n_eqF, n_bs, n_bn, ↓reduceIte, true_and, and_true, and_self, false_and, and_false, or_true, true_or, or_false, false_or, not_true_eq_false, not_false_eq_true, Bool.false_eq_true, reduceCtorEq, eq_self, eT, eI, er]
    · rw [decide_eq_false cv] at eI
      refine ⟨false, h, false, h, ?_, ?_, rfl, n_R_more X⟩
      · by_cases cv2 : v < -1
        · simp (disch := omega) only [m_w_of, n_ltT, n_ltF, n_leT, n_leF, n_eqT, n_eqF, n_bs, n_bn, ↓reduceIte, true_and, and_true, and_self, false_and, and_false, or_true, true_or, or_false, false_or, not_true_eq_false, not_false_eq_true, Bool.false_eq_true, reduceCtorEq, eq_self, n_p1_0 I.2, eC]
        · simp (disch := omega) only [m_w_of, n_ltT, n_ltF, n_leT, n_leF, n_eqT, n_eqF, n_bs, n_bn, ↓reduceIte, true_and, and_true, and_self, false_and, and_false, or_true, true_or, or_false, false_or, not_true_eq_false, not_false_eq_true, Bool.false_eq_true, reduceCtorEq, eq_self, n_p1_0 I.2, eC]
      · simp (disch := omega) only [m_w_of, n_ltT, n_ltF, n_leT, n_leF, n_eqT, n_eqF, n_bs, n_bn, ↓reduceIte, true_and, and_true, and_self, false_and, and_false, or_true, true_or, or_false, false_or, not_true_eq_false, not_false_eq_true, Bool.false_eq_true, reduceCtorEq, eq_self, eT, eI]
  · rw [decide_eq_false c] at eT
    have eC := n_there_n I x3 gs i1 i2 c
    refine ⟨false, h, false, h, ?_, ?_, rfl, n_R_more X⟩
    · simp (disch := omega) only [m_w_of, n_ltT, n_ltF, n_leT, n_leF, n_eqT, n_eqF, n_bs, n_bn, ↓reduceIte, true_and, and_true, and_self, false_and, and_false, or_true, true_or, or_false, false_or, not_true_eq_false, not_false_eq_true, Bool.false_eq_true, reduceCtorEq, eq_self, n_p1_0 I.2, eC]
    · simp (disch := omega) only [m_w_of, n_ltT, n_ltF, n_leT, n_leF, n_eqT, n_eqF, n_bs, n_bn, ↓reduceIte, true_and, and_true, and_self, false_and, and_false, or_true, true_or, or_false, false_or, not_true_eq_false, not_false_eq_true, Bool.false_eq_true, reduceCtorEq, eq_self, eT]
/-! what a reading lays -/
def n_rdc (h : m_H) (s m : Int) : m_H := m_p (m_p (m_p (m_p h 5 (m_g h 2 10) s) 6 (m_g h 2 10) m) 7 (m_g h 2 10) (m_g h 2 3)) 2 10 (m_g h 2 10 + 1)
def n_rdr (g : m_H) (s m : Int) : m_H := m_p (m_p (m_p (m_p g 146 (m_g g 127 27) s) 147 (m_g g 127 27) m) 148 (m_g g 127 27) (m_g g 127 18)) 127 27 (m_g g 127 27 + 1)
theorem n_rdc_kp {h : m_H} {s m : Int} (I : n_I h) : n_kp h (n_rdc h s m) [5, 6, 7, 2] [] := by
  have t5 := n_t5 I.2
  have t6 := n_t6 I.2
  have t7 := n_t7 I.2
  have t2 := n_t2 I.2
  refine n_kp_mono (n_kp_trans (n_kp_trans (n_kp_trans (n_kp_p ?_) (n_kp_p ?_) I.1 n_no) (n_kp_p ?_) I.1 n_no) (n_kp_p ?_) I.1 n_no) (fun b hb => Or.inl (by simpa using hb)) n_no
  · omega
  · rw [m_t_p]; omega
  · rw [m_t_p, m_t_p]; omega
  · rw [m_t_p, m_t_p, m_t_p]; omega
theorem n_rdr_kr (g : m_H) (s m : Int) : n_kr g (n_rdr g s m) [146, 147, 148] [27] := n_kr_mono (n_kr_trans (n_kr_trans (n_kr_trans (n_kr_p (by omega) (by omega)) (n_kr_p (by omega) (by omega))) (n_kr_p (by omega) (by omega))) n_kr_f) (by decide) (by decide) (by decide)
theorem n_rd_R {h g : m_H} {s m : Int} (I : n_I h) (S : n_Rsh h g) : n_Rsh (n_rdc h s m) (n_rdr g s m) := by
  have N := S.1
  unfold n_shN at N
  have E : ∀ b j, b ≠ 5 → b ≠ 6 → b ≠ 7 → b ≠ 2 → m_g (n_rdc h s m) b j = m_g h b j := fun b j c1 c2 c3 c4 => by
    unfold n_rdc
    rw [m_g_p, if_neg (fun q => c4 q.1), m_g_p, if_neg (fun q => c3 q.1), m_g_p, if_neg (fun q => c2 q.1), m_g_p, if_neg (fun q => c1 q.1)]
  have E2 : ∀ j, j ≠ 10 → m_g (n_rdc h s m) 2 j = m_g h 2 j := fun j c => by
    unfold n_rdc
    rw [m_g_p, if_neg (fun q => c q.2), m_g_p, if_neg (by omega), m_g_p, if_neg (by omega), m_g_p, if_neg (by omega)]
  have G : ∀ b j, b ≠ 146 → b ≠ 147 → b ≠ 148 → b ≠ 127 → m_g (n_rdr g s m) b j = m_g g b j := fun b j c1 c2 c3 c4 => by
    unfold n_rdr
    rw [m_g_p, if_neg (fun q => c4 q.1), m_g_p, if_neg (fun q => c3 q.1), m_g_p, if_neg (fun q => c2 q.1), m_g_p, if_neg (fun q => c1 q.1)]
  have G2 : ∀ j, j ≠ 27 → m_g (n_rdr g s m) 127 j = m_g g 127 j := fun j c => by
    unfold n_rdr
    rw [m_g_p, if_neg (fun q => c q.2), m_g_p, if_neg (by omega), m_g_p, if_neg (by omega), m_g_p, if_neg (by omega)]
  have kr : ∀ r, m_t h r = 5 → 312 ≤ r → ∀ j, n_rg (n_rdc h s m) r j = n_rg h r j := fun r hr h3 j => by
    have k20 := n_sfa I (a := 5) (by omega) (by rw [n_t5 I.2]; omega) (Or.inr (by rw [n_l5 I.2]; omega))
    have k6 := n_sfa I (a := 6) (by omega) (by rw [n_t6 I.2]; omega) (Or.inr (by rw [n_l6 I.2]; omega))
    have k7 := n_sfa I (a := 7) (by omega) (by rw [n_t7 I.2]; omega) (Or.inr (by rw [n_l7 I.2]; omega))
    have k2 := n_sf2 I
    unfold n_rg
    rw [E r _ (by omega) (by omega) (by omega) (by omega), E r _ (by omega) (by omega) (by omega) (by omega), E _ _ (k20.2.2 r hr) (k6.2.2 r hr) (k7.2.2 r hr) (k2.2.2 r hr)]
  obtain ⟨S1, S2, S3, S4⟩ := S
  refine ⟨?_, fun i i1 i2 => ?_, fun i i1 i2 => ?_, fun j j1 j2 => ?_⟩
  · unfold n_shN
    rw [E2 1 (by omega), E2 2 (by omega), E2 3 (by omega), E2 4 (by omega), E2 6 (by omega), G2 14 (by omega), G2 15 (by omega), G2 17 (by omega), G2 18 (by omega), G2 23 (by omega)]
    refine ⟨N.1, N.2.1, N.2.2.1, N.2.2.2.1, N.2.2.2.2.1, ?_⟩
    unfold n_rdc n_rdr
    rw [m_g_p, if_pos ⟨rfl, rfl⟩, m_g_p, if_pos ⟨rfl, rfl⟩, N.2.2.2.2.2]
  · rw [G2 14 (by omega)] at i2
    have X := S2 i i1 i2
    rw [E 3 _ (by omega) (by omega) (by omega) (by omega)]
    generalize m_g h 3 i = q at *
    unfold n_strip at X ⊢
    have q1 : q ≠ 5 ∧ q ≠ 6 ∧ q ≠ 7 ∧ q ≠ 2 := by omega
    have q2 : m_g h q 3 ≠ 5 ∧ m_g h q 3 ≠ 6 ∧ m_g h q 3 ≠ 7 ∧ m_g h q 3 ≠ 2 := by omega
    simp only [E q _ q1.1 q1.2.1 q1.2.2.1 q1.2.2.2, E _ _ q2.1 q2.2.1 q2.2.2.1 q2.2.2.2, kr _ X.1.2.2.1 X.1.2.2.2, G 128 _ (show (128 : Int) ≠ 146 by omega) (by omega) (by omega) (by omega), G 130 _ (show (130 : Int) ≠ 146 by omega) (by omega) (by omega) (by omega), G 131 _ (show (131 : Int) ≠ 146 by omega) (by omega) (by omega) (by omega), G 132 _ (show (132 : Int) ≠ 146 by omega) (by omega) (by omega) (by omega), G 133 _ (show (133 : Int) ≠ 146 by omega) (by omega) (by omega) (by omega), G 134 _ (show (134 : Int) ≠ 146 by omega) (by omega) (by omega) (by omega), G 135 _ (show (135 : Int) ≠ 146 by omega) (by omega) (by omega) (by omega), G 136 _ (show (136 : Int) ≠ 146 by omega) (by omega) (by omega) (by omega), G 137 _ (show (137 : Int) ≠ 146 by omega) (by omega) (by omega) (by omega), G 138 _ (show (138 : Int) ≠ 146 by omega) (by omega) (by omega) (by omega), G 139 _ (show (139 : Int) ≠ 146 by omega) (by omega) (by omega) (by omega), G 140 _ (show (140 : Int) ≠ 146 by omega) (by omega) (by omega) (by omega), G 141 _ (show (141 : Int) ≠ 146 by omega) (by omega) (by omega) (by omega)]
    exact X
  · rw [G2 23 (by omega)] at i2
    have X := S3 i i1 i2
    rw [E 4 _ (by omega) (by omega) (by omega) (by omega)]
    generalize m_g h 4 i = q at *
    unfold n_mach at X ⊢
    have q1 : q ≠ 5 ∧ q ≠ 6 ∧ q ≠ 7 ∧ q ≠ 2 := by omega
    simp only [E q _ q1.1 q1.2.1 q1.2.2.1 q1.2.2.2, G 142 _ (show (142 : Int) ≠ 146 by omega) (by omega) (by omega) (by omega), G 143 _ (show (143 : Int) ≠ 146 by omega) (by omega) (by omega) (by omega), G 144 _ (show (144 : Int) ≠ 146 by omega) (by omega) (by omega) (by omega), G 145 _ (show (145 : Int) ≠ 146 by omega) (by omega) (by omega) (by omega)]
    exact X
  · have en : m_g (n_rdr g s m) 127 27 = m_g g 127 27 + 1 := by unfold n_rdr; rw [m_g_p, if_pos ⟨rfl, rfl⟩]
    rw [en] at j2
    have N10 := N.2.2.2.2.2
    unfold n_rdc n_rdr
    rw [N10, N.2.2.1]
    by_cases c : j = m_g g 127 27
    · subst c
      simp (disch := omega) only [m_g_p, m_w_of, n_ltT, n_ltF, n_leT, n_leF, n_eqT, n_eqF, n_bs, n_bn, ↓reduceIte, true_and, and_true, and_self, false_and, and_false, or_true, true_or, or_false, false_or, not_true_eq_false, not_false_eq_true, Bool.false_eq_true, reduceCtorEq, eq_self]
    · have := S4 j j1 (by omega)
      simp (disch := omega) only [m_g_p, m_w_of, n_ltT, n_ltF, n_leT, n_leF, n_eqT, n_eqF, n_bs, n_bn, ↓reduceIte, true_and, and_true, and_self, false_and, and_false, or_true, true_or, or_false, false_or, not_true_eq_false, not_false_eq_true, Bool.false_eq_true, reduceCtorEq, eq_self]
theorem n_rd_gs {g : m_H} {s m : Int} (G : n_gs g) (hs : 0 ≤ s ∧ s < m_g g 127 14) (hm : 0 ≤ m ∧ m ≤ 999) (hn : m_g g 127 27 < 100) : n_gs (n_rdr g s m) := by
  have G1 : ∀ b j, b ≠ 146 → b ≠ 147 → b ≠ 148 → b ≠ 127 → m_g (n_rdr g s m) b j = m_g g b j := fun b j c1 c2 c3 c4 => by
    unfold n_rdr
    rw [m_g_p, if_neg (fun q => c4 q.1), m_g_p, if_neg (fun q => c3 q.1), m_g_p, if_neg (fun q => c2 q.1), m_g_p, if_neg (fun q => c1 q.1)]
  have G2 : ∀ j, j ≠ 27 → m_g (n_rdr g s m) 127 j = m_g g 127 j := fun j c => by
    unfold n_rdr
    rw [m_g_p, if_neg (fun q => c q.2), m_g_p, if_neg (by omega), m_g_p, if_neg (by omega), m_g_p, if_neg (by omega)]
  have en : m_g (n_rdr g s m) 127 27 = m_g g 127 27 + 1 := by unfold n_rdr; rw [m_g_p, if_pos ⟨rfl, rfl⟩]
  obtain ⟨g1, g2, g3, g4, g5, g6⟩ := G
  unfold n_shB at g1
  refine ⟨?_, fun i i1 i2 => ?_, fun i i1 i2 => ?_, fun j j1 j2 => ?_, fun i j i1 ij j2 => ?_, fun j j1 j2 => ?_⟩
  · unfold n_shB
    rw [en, G2 14 (by omega), G2 15 (by omega), G2 18 (by omega), G2 17 (by omega), G2 23 (by omega)]
    omega
  · rw [G2 14 (by omega)] at i2
    have := g2 i i1 i2
    unfold n_strB at this ⊢
    simp (disch := omega) only [G1, G2]
    exact this
  · rw [G2 23 (by omega)] at i2
    have := g3 i i1 i2
    unfold n_macB at this ⊢
    simp (disch := omega) only [G1, G2]
    exact this
  · rw [G2 15 (by omega)] at j2
    rw [G1 128 _ (by omega) (by omega) (by omega) (by omega)]
    exact g4 j j1 j2
  · rw [G2 14 (by omega)] at j2
    rw [G1 137 _ (by omega) (by omega) (by omega) (by omega), G1 137 _ (by omega) (by omega) (by omega) (by omega)]
    exact g5 i j i1 ij j2
  · rw [en] at j2
    rw [G2 14 (by omega)]
    unfold n_rdr
    by_cases c : j = m_g g 127 27
    · subst c
      simp (disch := omega) only [m_g_p, m_w_of, n_ltT, n_ltF, n_leT, n_leF, n_eqT, n_eqF, n_bs, n_bn, ↓reduceIte, true_and, and_true, and_self, false_and, and_false, or_true, true_or, or_false, false_or, not_true_eq_false, not_false_eq_true, Bool.false_eq_true, reduceCtorEq, eq_self]
    · have := g6 j j1 (by omega)
      simp (disch := omega) only [m_g_p, m_w_of, n_ltT, n_ltF, n_leT, n_leF, n_eqT, n_eqF, n_bs, n_bn, ↓reduceIte, true_and, and_true, and_self, false_and, and_false, or_true, true_or, or_false, false_or, not_true_eq_false, not_false_eq_true, Bool.false_eq_true, reduceCtorEq, eq_self]
theorem n_readC {h g : m_H} {s v : Int} (I : n_I h) (S : n_Rsh h g) (G : n_gs g) (c : 0 ≤ s ∧ s < m_g g 127 14) (cv : 0 ≤ v ∧ v ≤ 999) (cn : m_g g 127 27 < 100) : t7_readMark 2 s v h = some (true, n_rdc h s v) := by
  have t2 := n_t2 I.2
  have B := G.1.2.2.2.2.2.2.2.2.2.2
  have N := S.1.2.2.2.2.2
  have eC := n_known_y I S G c
  have s2 := (n_st S c).1.2.1
  have q5 := n_setEntry_y (h := h) (a := 5) (i := m_g h 2 10) (v := s) (n_t5 I.2) (by rw [n_l5 I.2]; omega) (by omega) (by rw [n_l5 I.2]; omega)
  have q6 := n_setEntry_y (h := m_p h 5 (m_g h 2 10) s) (a := 6) (i := m_g h 2 10) (v := v) (show m_t h 6 = 20 from n_t6 I.2) (by rw [m_l_p, n_l6 I.2]; omega) (by omega) (by rw [m_l_p, n_l6 I.2]; omega)
  have q7 := n_setEntry_y (h := m_p (m_p h 5 (m_g h 2 10) s) 6 (m_g h 2 10) v) (a := 7) (i := m_g h 2 10) (v := m_g h 2 3) (show m_t h 7 = 20 from n_t7 I.2) (by rw [m_l_p, m_l_p, n_l7 I.2]; omega) (by omega) (by rw [m_l_p, m_l_p, n_l7 I.2]; omega)
  have p7 := n_p2_7 I.2
  have p8 := n_p2_8 I.2
  have p9 := n_p2_9 I.2
  clear I S G
  unfold t7_readMark n_rdc
  simp (disch := omega) only [m_w_of, n_ltT, n_ltF, n_leT, n_leF, n_eqT, n_eqF, n_bs, n_bn, ↓reduceIte, true_and, and_true, and_self, false_and, and_false, or_true, true_or, or_false, false_or, not_true_eq_false, not_false_eq_true, Bool.false_eq_true, reduceCtorEq, eq_self, eC, p7, p8, p9, q5, q6, q7, m_g_p, m_t_p]
theorem n_readR {g : m_H} {s v : Int} (J : n_I g) (G : n_gs g) (i1 : -2147483648 ≤ s) (i2 : s < 2147483648) (c : 0 ≤ s ∧ s < m_g g 127 14) (cv : 0 ≤ v ∧ v ≤ 999) (cn : m_g g 127 27 < 100) : t11_read 127 s v g = some (true, n_rdr g s v) := by
  have B := G.1.2.2.2.2.2.2.2.2.2.2
  have eT1 := n_isStrip J G.1.1 G.1.2.1 i1 i2
  rw [decide_eq_true c] at eT1
  have eI1 := n_in (a := v) (b := 0) (c := 999) (h := g) (by omega) (by omega) (by omega) (by omega) (by omega) (by omega)
  rw [decide_eq_true cv] at eI1
  have u6 := n_t146 J.2
  have u7 := n_t147 J.2
  have u8 := n_t148 J.2
  have w6 := n_l146 J.2
  have w7 := n_l147 J.2
  have w8 := n_l148 J.2
  have y6 := n_p127_24 J.2
  have y7 := n_p127_25 J.2
  have y8 := n_p127_26 J.2
  have tM1 := n_t127 J.2
  clear J G
  unfold t11_read n_rdr
  simp (disch := omega) only [m_w_of, n_ltT, n_ltF, n_leT, n_leF, n_eqT, n_eqF, n_bs, n_bn, ↓reduceIte, true_and, and_true, and_self, false_and, and_false, or_true, true_or, or_false, false_or, not_true_eq_false, not_false_eq_true, Bool.false_eq_true, reduceCtorEq, eq_self, eT1, eI1, y6, y7, y8, m_g_p, m_t_p, m_l_p]
theorem n_readC_n {h g : m_H} {s v : Int} (I : n_I h) (S : n_Rsh h g) (G : n_gs g) (i1 : -2147483648 ≤ s) (i2 : s < 2147483648) (v1 : -2147483648 ≤ v) (v2 : v < 2147483648) (c : ¬ ((0 ≤ s ∧ s < m_g g 127 14) ∧ (0 ≤ v ∧ v ≤ 999) ∧ m_g g 127 27 < 100)) : t7_readMark 2 s v h = some (false, h) := by
  have t2 := n_t2 I.2
  have B := G.1.2.2.2.2.2.2.2.2.2.2
  have N := S.1.2.2.2.2.2
  unfold t7_readMark
  by_cases c1 : 0 ≤ s ∧ s < m_g g 127 14
  · have eC := n_known_y I S G c1
    have s2 := (n_st S c1).1.2.1
    clear I S G
    rw [if_pos t2, eC, n_bs]
    by_cases c2 : 0 ≤ v
    · by_cases c3 : v ≤ 999
      · simp (disch := omega) only [m_w_of, n_ltT, n_ltF, n_leT, n_leF, n_eqT, n_eqF, n_bs, n_bn, ↓reduceIte, true_and, and_true, and_self, false_and, and_false, or_true, true_or, or_false, false_or, not_true_eq_false, not_false_eq_true, Bool.false_eq_true, reduceCtorEq, eq_self]
      · simp (disch := omega) only [m_w_of, n_ltT, n_ltF, n_leT, n_leF, n_eqT, n_eqF, n_bs, n_bn, ↓reduceIte, true_and, and_true, and_self, false_and, and_false, or_true, true_or, or_false, false_or, not_true_eq_false, not_false_eq_true, Bool.false_eq_true, reduceCtorEq, eq_self]
    · simp (disch := omega) only [m_w_of, n_ltT, n_ltF, n_leT, n_leF, n_eqT, n_eqF, n_bs, n_bn, ↓reduceIte, true_and, and_true, and_self, false_and, and_false, or_true, true_or, or_false, false_or, not_true_eq_false, not_false_eq_true, Bool.false_eq_true, reduceCtorEq, eq_self]
  · have eC := n_known_n I S G i1 i2 c1
    rw [if_pos t2, eC, n_bs]
    simp only [↓reduceIte]
theorem n_readR_n {g : m_H} {s v : Int} (J : n_I g) (G : n_gs g) (i1 : -2147483648 ≤ s) (i2 : s < 2147483648) (v1 : -2147483648 ≤ v) (v2 : v < 2147483648) (c : ¬ ((0 ≤ s ∧ s < m_g g 127 14) ∧ (0 ≤ v ∧ v ≤ 999) ∧ m_g g 127 27 < 100)) : t11_read 127 s v g = some (false, g) := by
  have B := G.1.2.2.2.2.2.2.2.2.2.2
  have eT1 := n_isStrip J G.1.1 G.1.2.1 i1 i2
  have eI1 := n_in (a := v) (b := 0) (c := 999) (h := g) (by omega) (by omega) (by omega) (by omega) (by omega) (by omega)
  have tM1 := n_t127 J.2
  clear J G
  unfold t11_read
  rw [if_pos tM1, eT1, n_bs]
  by_cases c1 : 0 ≤ s ∧ s < m_g g 127 14
  · rw [decide_eq_true c1, m_w_of v1 v2]
    show (if true = true then t11_in v 0 999 g >>= _ else _) = _
    rw [if_pos rfl, eI1, n_bs]
    by_cases c2 : 0 ≤ v ∧ v ≤ 999
    · rw [decide_eq_true c2]
      have : m_g g 127 27 = 100 := by omega
      simp (disch := omega) only [m_w_of, n_ltT, n_ltF, n_leT, n_leF, n_eqT, n_eqF, n_bs, n_bn, ↓reduceIte, true_and, and_true, and_self, false_and, and_false, or_true, true_or, or_false, false_or, not_true_eq_false, not_false_eq_true, Bool.false_eq_true, reduceCtorEq, eq_self]
    · rw [decide_eq_false c2]
      simp (disch := omega) only [m_w_of, n_ltT, n_ltF, n_leT, n_leF, n_eqT, n_eqF, n_bs, n_bn, ↓reduceIte, true_and, and_true, and_self, false_and, and_false, or_true, true_or, or_false, false_or, not_true_eq_false, not_false_eq_true, Bool.false_eq_true, reduceCtorEq, eq_self]
  · rw [decide_eq_false c1]
    simp (disch := omega) only [m_w_of, n_ltT, n_ltF, n_leT, n_leF, n_eqT, n_eqF, n_bs, n_bn, ↓reduceIte, true_and, and_true, and_self, false_and, and_false, or_true, true_or, or_false, false_or, not_true_eq_false, not_false_eq_true, Bool.false_eq_true, reduceCtorEq, eq_self]
theorem n_s_read {h : m_H} {k : Int} (X : n_R h k) (s v : Int) (i1 : -2147483648 ≤ s) (i2 : s < 2147483648) (v1 : -2147483648 ≤ v) (v2 : v < 2147483648) : n_stepb h k (t10_read 1 s v) (t11_read 127 s v) := by
  have X' := X
  obtain ⟨I, gs, bud, x1, x2, x3, x4, x5, x6, x7⟩ := X'
  have t1 := n_t1 I.2
  have t2 := n_t2 I.2
  by_cases cc : (0 ≤ s ∧ s < m_g h 127 14) ∧ (0 ≤ v ∧ v ≤ 999) ∧ m_g h 127 27 < 100
  · obtain ⟨c, cv, cn⟩ := cc
    have Ka := n_rdc_kp (s := s) (m := v) I
    have J1 : n_I (n_rdc h s v) := n_I_p (n_I_pa (n_I_pa (n_I_pa I (Or.inl (n_t5 I.2))) (Or.inl (by rw [m_t_p]; exact n_t6 I.2))) (Or.inl (by rw [m_t_p, m_t_p]; exact n_t7 I.2))) (by simp only [m_t_p]; omega) (fun e => by simp only [m_t_p] at e; omega) rfl
    have hA : ∀ b ∈ [(5 : Int), 6, 7, 2], n_sf h b ∧ (b < 127 ∨ 312 ≤ b) := fun b hb => by
      simp at hb
      rcases hb with e | e | e | e <;> rw [e]
      · exact ⟨n_sfa I (by omega) (by rw [n_t5 I.2]; omega) (Or.inr (by rw [n_l5 I.2]; omega)), by omega⟩
      · exact ⟨n_sfa I (by omega) (by rw [n_t6 I.2]; omega) (Or.inr (by rw [n_l6 I.2]; omega)), by omega⟩
      · exact ⟨n_sfa I (by omega) (by rw [n_t7 I.2]; omega) (Or.inr (by rw [n_l7 I.2]; omega)), by omega⟩
      · exact ⟨n_sf2 I, by omega⟩
    have ref := fun b j (b1 : 127 ≤ b) (b2 : b < 312) => n_kp_ref I Ka (fun b hb => (hA b hb).2) n_no b1 b2 j
    have S0 := n_Rsh_g (g' := n_rdc h s v) x3 (fun b j => ref b j)
    have gs1 := n_gs_g (g' := n_rdc h s v) gs (fun b j => ref b j)
    have RR := n_rd_R (s := s) (m := v) I S0
    have gs2 := n_rd_gs (s := s) (m := v) gs1 (by rw [ref 127 14 (by omega) (by omega)]; exact c) cv (by rw [ref 127 27 (by omega) (by omega)]; exact cn)
    have KR := n_rdr_kr (n_rdc h s v) s v
    have P := n_sp_of I Ka KR hA n_no
    have Bu : n_bud (n_rdc h s v) (k + 1) := n_bud_same I rfl (fun r hr => Ka.2.2.1 r (n_wf_lt I.1 hr).1 (fun q => (hA r q).1.2.1 hr) List.not_mem_nil n_no 0) (n_bud_more bud)
    have EG : ∀ b j, b ≠ 5 ∧ b ≠ 6 ∧ b ≠ 7 ∧ (b ≠ 2 ∨ j ≠ 10) → b ≠ 146 ∧ b ≠ 147 ∧ b ≠ 148 ∧ (b ≠ 127 ∨ j ≠ 27) → m_g (n_rdr (n_rdc h s v) s v) b j = m_g h b j := fun b j c1 c2 => by
      unfold n_rdr
      rw [m_g_p, if_neg (by omega), m_g_p, if_neg (by omega), m_g_p, if_neg (by omega), m_g_p, if_neg (by omega)]
      unfold n_rdc
      rw [m_g_p, if_neg (by omega), m_g_p, if_neg (by omega), m_g_p, if_neg (by omega), m_g_p, if_neg (by omega)]
    have Rm := n_Rm_old (h := h) (h' := n_rdr (n_rdc h s v) s v) (k := k) (EG _ _ (by decide) (by decide)) (EG _ _ (by decide) (by decide)) (EG _ _ (by decide) (by decide)) (fun t => EG _ _ ⟨by decide, by decide, by decide, Or.inl (by decide)⟩ ⟨by decide, by decide, by decide, Or.inl (by decide)⟩) (EG _ _ (by decide) (by decide)) (EG _ _ (by decide) (by decide)) (fun t => EG _ _ ⟨by decide, by decide, by decide, Or.inl (by decide)⟩ ⟨by decide, by decide, by decide, Or.inl (by decide)⟩) (fun t => EG _ _ ⟨by decide, by decide, by decide, Or.inl (by decide)⟩ ⟨by decide, by decide, by decide, Or.inl (by decide)⟩) (fun t => EG _ _ ⟨by decide, by decide, by decide, Or.inl (by decide)⟩ ⟨by decide, by decide, by decide, Or.inl (by decide)⟩) (fun t => EG _ _ ⟨by decide, by decide, by decide, Or.inl (by decide)⟩ ⟨by decide, by decide, by decide, Or.inl (by decide)⟩) (fun t => EG _ _ ⟨by decide, by decide, by decide, Or.inl (by decide)⟩ ⟨by decide, by decide, by decide, Or.inl (by decide)⟩) x7
    refine ⟨true, n_rdc h s v, true, n_rdr (n_rdc h s v) s v, ?_, ?_, rfl, n_fin X Ka KR hA (fun b hb => Or.inl (by simp at hb; omega)) n_no (fun b hb => ?_) (fun q hq => by simp at hq; omega) J1 Bu gs2 RR ((n_fr X P).2.1 List.not_mem_nil (by decide) (by decide)) Rm⟩
    · unfold t10_read
      rw [if_pos t1, n_p1_0 I.2, if_pos t2, n_readC I x3 gs c cv cn, n_bs]
    · exact n_readR J1 gs1 i1 i2 (by rw [ref 127 14 (by omega) (by omega)]; exact c) cv (by rw [ref 127 27 (by omega) (by omega)]; exact cn)
    · simp at hb
      rcases hb with e | e | e <;> rw [e]
      · exact ⟨Or.inl (n_t146 J1.2), by omega⟩
      · exact ⟨Or.inl (n_t147 J1.2), by omega⟩
      · exact ⟨Or.inl (n_t148 J1.2), by omega⟩
  · refine ⟨false, h, false, h, ?_, n_readR_n I gs i1 i2 v1 v2 cc, rfl, n_R_more X⟩
    unfold t10_read
    rw [if_pos t1, n_p1_0 I.2, if_pos t2, n_readC_n I x3 gs i1 i2 v1 v2 cc, n_bs]
