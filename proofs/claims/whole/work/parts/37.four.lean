/-! ONE STRIP CHANGES: how it is, its wear, its nail -/
theorem n_Rsh_set {h g : m_H} {s c b v : Int} (I : n_I h) (S : n_Rsh h g) (hs : 0 ≤ s ∧ s < m_g g 127 14) (hc : (c = 4 ∧ b = 133) ∨ (c = 7 ∧ b = 136) ∨ (c = 8 ∧ b = 137)) : n_Rsh (m_p h (m_g h 3 s) c v) (m_p g b s v) := by
  obtain ⟨⟨a1, a2, a3, a4⟩, a5, a6⟩ := n_st S hs
  generalize ha : m_g h 3 s = a at *
  have E : ∀ x j, x ≠ a → m_g (m_p h a c v) x j = m_g h x j := fun x j hx => by rw [m_g_p, if_neg (fun q => hx q.1)]
  have G1 : ∀ x j, x ≠ b → m_g (m_p g b s v) x j = m_g g x j := fun x j hx => by rw [m_g_p, if_neg (fun q => hx q.1)]
  have kr : ∀ r, m_t h r = 5 → ∀ j, n_rg (m_p h a c v) r j = n_rg h r j := fun r hr j => by
    have k20 := (n_wf_row I.1 hr).2.1
    unfold n_rg
    rw [E r _ (fun e => by rw [e] at hr; omega), E r _ (fun e => by rw [e] at hr; omega), E _ _ (fun e => by rw [e] at k20; omega)]
  refine ⟨?_, fun i i1 i2 => ?_, fun i i1 i2 => ?_, fun j j1 j2 => ?_⟩
  · have N := S.1
    unfold n_shN at *
    simp only [E 2 _ (by omega), G1 127 _ (by omega)]
    exact N
  · rw [G1 127 _ (by omega)] at i2
    have X := n_st S ⟨i1, i2⟩
    rw [E 3 _ (by omega)]
    generalize hq : m_g h 3 i = q at *
    unfold n_strip at X
    obtain ⟨⟨s1, s2, s3, s4⟩, s5, s6, s7, s8, s9, s10, s11, s12, s13, s14, s15, s16, s17⟩ := X
    have F : ∀ j, j ≠ c → m_g (m_p h a c v) q j = m_g h q j := fun j hj => by rw [m_g_p, if_neg (fun p => hj p.2)]
    have hqa : i = s ↔ q = a := ⟨fun e => by rw [← hq, ← ha, e], fun e => by rw [e] at s5; omega⟩
    have Fc : m_g (m_p h a c v) q c = if i = s then v else m_g h q c := by
      rw [m_g_p]
      by_cases e : i = s
      · rw [if_pos e, if_pos ⟨hqa.mp e, rfl⟩]
      · rw [if_neg e, if_neg (fun p => e (hqa.mpr p.1))]
    have Gb : m_g (m_p g b s v) b i = if i = s then v else m_g g b i := by
      rw [m_g_p]
      by_cases e : i = s
      · rw [if_pos e, if_pos ⟨rfl, e⟩]
      · rw [if_neg e, if_neg (fun p => e p.2)]
    have r0 : m_g (m_p h a c v) (m_g h q 3) 1 = m_g h (m_g h q 3) 1 := E _ _ (fun e => by rw [e] at s3; omega)
    unfold n_strip
    rw [F 3 (by omega), r0, G1 131 _ (by omega)]
    simp only [kr _ s3, G1 128 _ (show (128 : Int) ≠ b by omega), G1 130 _ (show (130 : Int) ≠ b by omega)]
    refine ⟨⟨s1, s2, s3, s4⟩, by rw [F 0 (by omega)]; exact s5, by rw [F 1 (by omega), G1 132 _ (by omega)]; exact s6, by rw [F 2 (by omega), G1 138 _ (by omega)]; exact s7, ?_, by rw [F 5 (by omega), G1 134 _ (by omega)]; exact s9, by rw [F 6 (by omega), G1 135 _ (by omega)]; exact s10, ?_, ?_, by rw [F 9 (by omega), G1 139 _ (by omega)]; exact s13, by rw [F 10 (by omega), G1 140 _ (by omega)]; exact s14, by rw [F 11 (by omega), G1 141 _ (by omega)]; exact s15, s16, s17⟩
    · by_cases e : c = 4
      · obtain rfl : b = 133 := by omega
        subst e
        rw [Fc, Gb, s8]
      · rw [F 4 (by omega), G1 133 _ (by omega)]; exact s8
    · by_cases e : c = 7
      · obtain rfl : b = 136 := by omega
        subst e
        rw [Fc, Gb, s11]
      · rw [F 7 (by omega), G1 136 _ (by omega)]; exact s11
    · by_cases e : c = 8
      · obtain rfl : b = 137 := by omega
        subst e
        rw [Fc, Gb, s12]
      · rw [F 8 (by omega), G1 137 _ (by omega)]; exact s12
  · rw [G1 127 _ (by omega)] at i2
    have X := S.2.2.1 i i1 i2
    rw [E 4 _ (by omega)]
    generalize m_g h 4 i = q at *
    unfold n_mach at *
    have qa : q ≠ a := fun e => by rw [e] at X; omega
    rw [E q _ qa, E q _ qa, E q _ qa, E q _ qa, G1 142 _ (by omega), G1 143 _ (by omega), G1 144 _ (by omega), G1 145 _ (by omega)]
    exact X
  · rw [G1 127 _ (by omega)] at j2
    rw [E 5 _ (by omega), E 6 _ (by omega), E 7 _ (by omega), G1 146 _ (by omega), G1 147 _ (by omega), G1 148 _ (by omega)]
    exact S.2.2.2 j j1 j2
theorem n_Rsh_11 {h g : m_H} {v : Int} (I : n_I h) (S : n_Rsh h g) : n_Rsh (m_p h 2 11 v) g := by
  have t2 := n_t2 I.2
  have E : ∀ x j, x ≠ 2 → m_g (m_p h 2 11 v) x j = m_g h x j := fun x j hx => by rw [m_g_p, if_neg (fun q => hx q.1)]
  have E2 : ∀ j, j ≠ 11 → m_g (m_p h 2 11 v) 2 j = m_g h 2 j := fun j hx => by rw [m_g_p, if_neg (fun q => hx q.2)]
  have kr : ∀ r, m_t h r = 5 → ∀ j, n_rg (m_p h 2 11 v) r j = n_rg h r j := fun r hr j => by
    have k20 := (n_wf_row I.1 hr).2.1
    unfold n_rg
    rw [E r _ (fun e => by rw [e] at hr; omega), E r _ (fun e => by rw [e] at hr; omega), E _ _ (fun e => by rw [e] at k20; omega)]
  obtain ⟨S1, S2, S3, S4⟩ := S
  refine ⟨?_, fun i i1 i2 => ?_, fun i i1 i2 => ?_, fun j j1 j2 => ?_⟩
  · unfold n_shN at *
    rw [E2 1 (by omega), E2 2 (by omega), E2 3 (by omega), E2 4 (by omega), E2 6 (by omega), E2 10 (by omega)]
    exact S1
  · have X := S2 i i1 i2
    rw [E 3 _ (by omega)]
    generalize hq : m_g h 3 i = q at *
    unfold n_strip at *
    have q2 : q ≠ 2 := by omega
    have r2 : m_g h q 3 ≠ 2 := by omega
    simp only [E q _ q2, E _ _ r2, kr _ X.1.2.2.1]
    exact X
  · have X := S3 i i1 i2
    rw [E 4 _ (by omega)]
    generalize m_g h 4 i = q at *
    unfold n_mach at *
    have q2 : q ≠ 2 := by omega
    rw [E q _ q2, E q _ q2, E q _ q2, E q _ q2]
    exact X
  · rw [E 5 _ (by omega), E 6 _ (by omega), E 7 _ (by omega)]
    exact S4 j j1 j2
/-- the reference's strips, one of them with another value in one array -/
theorem n_gs_set {g : m_H} {b s v : Int} (G : n_gs g) (hb : b = 133 ∨ b = 136 ∨ b = 137) (hs : 0 ≤ s ∧ s < m_g g 127 14) (hB : n_strB (m_p g b s v) s) (hn : b = 137 → v = -1 ∨ ∀ i, 0 ≤ i → i < m_g g 127 14 → i ≠ s → m_g g 137 i ≠ v) : n_gs (m_p g b s v) := by
  have G1 : ∀ x j, x ≠ b → m_g (m_p g b s v) x j = m_g g x j := fun x j hx => by rw [m_g_p, if_neg (fun q => hx q.1)]
  have G2 : ∀ x j, j ≠ s → m_g (m_p g b s v) x j = m_g g x j := fun x j hx => by rw [m_g_p, if_neg (fun q => hx q.2)]
  obtain ⟨g1, g2, g3, g4, g5, g6⟩ := G
  refine ⟨?_, fun i i1 i2 => ?_, fun i i1 i2 => ?_, fun j j1 j2 => ?_, fun i j i1 ij j2 => ?_, fun j j1 j2 => ?_⟩
  · unfold n_shB at *
    simp only [G1 127 _ (show (127 : Int) ≠ b by omega)]
    exact g1
  · rw [G1 127 _ (by omega)] at i2
    by_cases e : i = s
    · rw [e]; exact hB
    · have := g2 i i1 i2
      unfold n_strB at *
      simp only [G2 _ i e, G1 127 _ (show (127 : Int) ≠ b by omega)]
      exact this
  · rw [G1 127 _ (by omega)] at i2
    have := g3 i i1 i2
    unfold n_macB at *
    rw [G1 142 _ (by omega), G1 143 _ (by omega), G1 144 _ (by omega), G1 145 _ (by omega)]
    exact this
  · rw [G1 127 _ (by omega)] at j2
    rw [G1 128 _ (by omega)]
    exact g4 j j1 j2
  · rw [G1 127 _ (by omega)] at j2
    have old := g5 i j i1 ij j2
    by_cases e : b = 137
    · subst e
      have hn := hn rfl
      by_cases ei : i = s
      · subst ei
        rw [G2 _ j (by omega), m_g_p, if_pos ⟨rfl, rfl⟩]
        intro q
        rcases hn with p | p
        · exact p
        · exact absurd q.symm (p j (by omega) j2 (by omega))
      · rw [G2 _ i ei]
        by_cases ej : j = s
        · subst ej
          rw [m_g_p, if_pos ⟨rfl, rfl⟩]
          intro q
          rcases hn with p | p
          · omega
          · exact absurd q (p i i1 (by omega) ei)
        · rw [G2 _ j ej]
          exact old
    · rw [G1 137 _ (by omega), G1 137 _ (by omega)]
      exact old
  · rw [G1 127 _ (by omega)] at j2
    rw [G1 146 _ (by omega), G1 147 _ (by omega), G1 148 _ (by omega), G1 127 _ (by omega)]
    exact g6 j j1 j2
/-- what becomes used or lost -/
def n_tk (h : m_H) (a st : Int) : m_H := m_p (m_p (m_p h a 4 st) a 8 (-1)) 2 11 (m_g h 2 11 + 1)
def n_us (g : m_H) (s st : Int) : m_H := m_p (m_p g 133 s st) 137 s (-1)
theorem n_takeAway {h : m_H} {a st : Int} (I : n_I h) (ha : m_t h a = 8) (h3 : 312 ≤ a) : t7_takeAway 2 a st h = some ((), n_tk h a st) := by
  have t2 := n_t2 I.2
  unfold t7_takeAway n_tk
  simp (disch := omega) only [m_w_of, n_ltT, n_ltF, n_leT, n_leF, n_eqT, n_eqF, n_bs, n_bn, ↓reduceIte, true_and, and_true, and_self, false_and, and_false, or_true, true_or, or_false, false_or, not_true_eq_false, not_false_eq_true, Bool.false_eq_true, reduceCtorEq, eq_self, m_g_p, m_t_p]
theorem n_uses {g : m_H} {s st : Int} (I : n_I g) (G : n_gs g) (hs : 0 ≤ s ∧ s < m_g g 127 14) : t11_uses 127 s st g = some ((), n_us g s st) := by
  have b := G.1.2.1
  have tM := n_t127 I.2
  have t5 := n_t133 I.2
  have l5 := n_l133 I.2
  have p5 := n_p127_5 I.2
  have t9 := n_t137 I.2
  have l9 := n_l137 I.2
  have p9 := n_p127_9 I.2
  unfold t11_uses n_us
  simp (disch := omega) only [m_w_of, n_ltT, n_ltF, n_leT, n_leF, n_eqT, n_eqF, n_bs, n_bn, ↓reduceIte, true_and, and_true, and_self, false_and, and_false, or_true, true_or, or_false, false_or, not_true_eq_false, not_false_eq_true, Bool.false_eq_true, reduceCtorEq, eq_self, m_g_p, m_t_p, m_l_p, p5, p9]
theorem n_use_R {h g : m_H} {s st : Int} (I : n_I h) (S : n_Rsh h g) (hs : 0 ≤ s ∧ s < m_g g 127 14) : n_Rsh (n_tk h (m_g h 3 s) st) (n_us g s st) := by
  obtain ⟨⟨a1, a2, a3, a4⟩, a5, a6⟩ := n_st S hs
  have S1 := n_Rsh_set (c := 4) (b := 133) (v := st) I S hs (by omega)
  have I1 : n_I (m_p h (m_g h 3 s) 4 st) := n_I_p I (by omega) (by omega) (by
    cases e : n_key (m_g h 3 s) 4
    · rfl
    · have := (n_key_t I.2 e).1; omega)
  have e3 : m_g (m_p h (m_g h 3 s) 4 st) 3 s = m_g h 3 s := by rw [m_g_p, if_neg (by omega)]
  have ec : m_g (m_p g 133 s st) 127 14 = m_g g 127 14 := by rw [m_g_p, if_neg (by omega)]
  have S2 := n_Rsh_set (c := 8) (b := 137) (v := -1) I1 S1 (by rw [ec]; exact hs) (by omega)
  rw [e3] at S2
  have I2 : n_I (m_p (m_p h (m_g h 3 s) 4 st) (m_g h 3 s) 8 (-1)) := n_I_p I1 (by rw [m_t_p]; omega) (by rw [m_t_p]; omega) (by
    cases e : n_key (m_g h 3 s) 8
    · rfl
    · have := (n_key_t I.2 e).1; omega)
  exact n_Rsh_11 I2 S2
theorem n_use_gs {g : m_H} {s st : Int} (G : n_gs g) (hs : 0 ≤ s ∧ s < m_g g 127 14) (h1 : 1 ≤ st) (h2 : st ≤ 2) : n_gs (n_us g s st) := by
  have b := G.2.1 s hs.1 hs.2
  have e : n_us g s st = m_p (m_p g 137 s (-1)) 133 s st := by
    unfold n_us
    refine n_ext rfl fun x j => ?_
    rw [m_g_p, m_g_p, m_g_p, m_g_p]
    by_cases c : x = 137 ∧ j = s
    · rw [if_pos c, if_neg (by omega), if_pos c]
    · rw [if_neg c, if_neg c]
  rw [e]
  unfold n_strB at b
  have G1 := n_gs_set (b := 137) (v := -1) G (by omega) hs (by unfold n_strB; simp (disch := omega) only [m_g_p, m_w_of, n_ltT, n_ltF, n_leT, n_leF, n_eqT, n_eqF, n_bs, n_bn, ↓reduceIte, true_and, and_true, and_self, false_and, and_false, or_true, true_or, or_false, false_or, not_true_eq_false, not_false_eq_true, Bool.false_eq_true, reduceCtorEq, eq_self, implies_true]) (fun _ => Or.inl rfl)
  refine n_gs_set G1 (by omega) (by rw [m_g_p, if_neg (by omega)]; exact hs) ?_ (fun q => by omega)
  unfold n_strB
  simp (disch := omega) only [m_g_p, m_w_of, n_ltT, n_ltF, n_leT, n_leF, n_eqT, n_eqF, n_bs, n_bn, ↓reduceIte, true_and, and_true, and_self, false_and, and_false, or_true, true_or, or_false, false_or, not_true_eq_false, not_false_eq_true, Bool.false_eq_true, reduceCtorEq, eq_self, implies_true]
theorem n_key_big {h : m_H} (F : n_fx h) {a : Int} (ha : 312 ≤ a) (k : Int) : n_key a k = false := by
  cases e : n_key a k
  · rfl
  · have := (n_key_t F e).1; omega
theorem n_tk_I {h : m_H} {a st : Int} (I : n_I h) (ha : m_t h a = 8) (h3 : 312 ≤ a) : n_I (n_tk h a st) := by
  have I1 : n_I (m_p h a 4 st) := n_I_p I (by omega) (by omega) (n_key_big I.2 h3 _)
  have I2 : n_I (m_p (m_p h a 4 st) a 8 (-1)) := n_I_p I1 (by rw [m_t_p]; omega) (by rw [m_t_p]; omega) (n_key_big I.2 h3 _)
  exact n_I_p I2 (by rw [n_t2 I2.2]; omega) (fun e => by rw [n_t2 I2.2] at e; omega) rfl
theorem n_us_kr (g : m_H) (s st : Int) : n_kr g (n_us g s st) [133, 137] [] := n_kr_trans (n_kr_p (by omega) (by omega)) (n_kr_p (by omega) (by omega))
/-- cells of the strips are safe -/
theorem n_st_sf {h g : m_H} {i : Int} (I : n_I h) (S : n_Rsh h g) (c : 0 ≤ i ∧ i < m_g g 127 14) : n_sf h (m_g h 3 i) := by
  obtain ⟨⟨a1, a2, a3, a4⟩, a5, a6⟩ := n_st S c
  exact ⟨(I.1.1 _ (by omega)).2, by omega, fun r hr e => by have := (n_wf_row I.1 hr).2.1; rw [e] at this; omega⟩
theorem n_tk_kp {h : m_H} {a st : Int} (I : n_I h) (ha : m_t h a = 8) : n_kp h (n_tk h a st) [a, 2] [] := by
  have K1 := n_kp_p (h := h) (a := a) (k := 4) (v := st) (by omega)
  have K2 := n_kp_p (h := m_p h a 4 st) (a := a) (k := 8) (v := -1) (by rw [m_t_p]; omega)
  have K3 := n_kp_p (h := m_p (m_p h a 4 st) a 8 (-1)) (a := 2) (k := 11) (v := m_g h 2 11 + 1) (by rw [m_t_p, m_t_p, n_t2 I.2]; omega)
  have I1 := I.1
  refine n_kp_mono (n_kp_trans (n_kp_trans K1 K2 I.1 n_no) K3 I.1 n_no) (fun b hb => Or.inl ?_) n_no
  simp at hb ⊢
  omega
/-- the measured is old, when something has changed -/
theorem n_Rm_new {h h' : m_H} {k : Int} (e1 : m_g h' 121 11 = m_g h 121 11) (e2 : m_g h' 121 12 = m_g h 121 12) (e3 : m_g h 2 11 < m_g h' 2 11) (e4 : m_g h' 2 11 ≤ m_g h 2 11 + 10) (X : n_Rm h h k) : n_Rm h' h' (k + 1) := by
  unfold n_Rm at *
  rw [e1, e2]
  exact ⟨X.1, X.2.1, X.2.2.1, by omega, by omega, fun _ q => by omega⟩
theorem n_Rm_old {h h' : m_H} {k : Int} (e1 : m_g h' 121 11 = m_g h 121 11) (e2 : m_g h' 121 12 = m_g h 121 12) (e3 : m_g h' 2 11 = m_g h 2 11) (e4 : ∀ t, m_g h' 124 t = m_g h 124 t) (f1 : m_g h' 127 14 = m_g h 127 14) (f2 : m_g h' 127 85 = m_g h 127 85) (f3 : ∀ j, m_g h' 308 j = m_g h 308 j) (f4 : ∀ j, m_g h' 128 j = m_g h 128 j) (f5 : ∀ j, m_g h' 130 j = m_g h 130 j) (f6 : ∀ j, m_g h' 131 j = m_g h 131 j) (f7 : ∀ j, m_g h' 133 j = m_g h 133 j) (X : n_Rm h h k) : n_Rm h' h' (k + 1) := by
  unfold n_Rm at *
  rw [e1, e2, e3, f2]
  refine ⟨X.1, X.2.1, X.2.2.1, X.2.2.2.1, by omega, fun q1 q2 t t1 t2 => ?_⟩
  rw [e4]
  exact n_isL_S f1 f2 f3 f4 f5 f6 f7 (X.2.2.2.2.2 q1 q2 t t1 t2)
