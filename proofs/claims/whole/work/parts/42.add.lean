/-! A NEW STRIP, the reference's side; both together -/
theorem n_itR {β : Type} (L : Int → m_H → β) (Inv : Int → m_H → Prop) (lo n : Int) (hle : lo ≤ n) (hs : ∀ i h, lo ≤ i → i < n → Inv i h → ∃ h', L i h = L (i + 1) h' ∧ Inv (i + 1) h') : ∀ h, Inv lo h → ∃ h', L lo h = L n h' ∧ Inv n h' := by
  obtain ⟨k, hk⟩ : ∃ k : Nat, n = lo + k := ⟨(n - lo).toNat, by omega⟩
  subst hk
  clear hle
  induction k with
  | zero => intro h hI; exact ⟨h, by simp, by simpa using hI⟩
  | succ k ih =>
    intro h hI
    obtain ⟨h1, e1, I1⟩ := ih (fun i h h1 h2 => hs i h h1 (by omega)) h hI
    obtain ⟨h2, e2, I2⟩ := hs (lo + k) h1 (by omega) (by omega) I1
    refine ⟨h2, ?_, ?_⟩
    · rw [e1, e2]; congr 1; omega
    · have : lo + ((k + 1 : Nat) : Int) = lo + k + 1 := by omega
      rw [this]; exact I2
/-- a strip has come to the reference; n of its samples are there -/
def n_newR (g g' : m_H) (kd one oth bg gen hs wr n : Int) (f : Int → Int) : Prop :=
  g'.2 = g.2 ∧
  (∀ b j, ¬ (b = 128 ∧ m_g g 127 15 ≤ j) → ¬ ((130 ≤ b ∧ b ≤ 141) ∧ j = m_g g 127 14) → ¬ (b = 127 ∧ (j = 14 ∨ j = 15)) → b ≠ 149 → m_g g' b j = m_g g b j) ∧
  (m_g g' 127 14 = m_g g 127 14 + 1 ∧ m_g g' 127 15 = m_g g 127 15 + n) ∧
  (m_g g' 130 (m_g g 127 14) = m_g g 127 15 ∧ m_g g' 131 (m_g g 127 14) = n ∧ m_g g' 132 (m_g g 127 14) = kd ∧ m_g g' 133 (m_g g 127 14) = 0 ∧ m_g g' 134 (m_g g 127 14) = gen ∧ m_g g' 135 (m_g g 127 14) = hs ∧ m_g g' 136 (m_g g 127 14) = wr ∧ m_g g' 137 (m_g g 127 14) = -1 ∧ m_g g' 138 (m_g g 127 14) = m_g g 127 18 ∧ m_g g' 139 (m_g g 127 14) = one ∧ m_g g' 140 (m_g g 127 14) = oth ∧ m_g g' 141 (m_g g 127 14) = bg) ∧
  ∀ j, 0 ≤ j → j < n → m_g g' 128 (m_g g 127 15 + j) = f j
theorem n_newR_kr {g g' : m_H} {kd one oth bg gen hs wr n : Int} {f : Int → Int} (N : n_newR g g' kd one oth bg gen hs wr n f) : n_kr g g' [128, 130, 131, 132, 133, 134, 135, 136, 137, 138, 139, 140, 141, 149] [14, 15] := by
  refine ⟨N.1, by decide, fun b j c1 c2 => N.2.1 b j (fun q => c1 (by simp [q.1])) (fun q => c1 ?_) (fun q => c2 ⟨q.1, by simpa using q.2⟩) (fun q => c1 (by simp [q]))⟩
  simp
  omega
theorem n_newR_I {g g' : m_H} {kd one oth bg gen hs wr n : Int} {f : Int → Int} (I : n_I g) (N : n_newR g g' kd one oth bg gen hs wr n f) : n_I g' := by
  refine n_kr_I I (n_newR_kr N) (fun b hb => Or.inl ?_) rfl
  simp at hb
  rcases hb with e | e | e | e | e | e | e | e | e | e | e | e | e | e <;> rw [e]
  · exact n_t128 I.2
  · exact n_t130 I.2
  · exact n_t131 I.2
  · exact n_t132 I.2
  · exact n_t133 I.2
  · exact n_t134 I.2
  · exact n_t135 I.2
  · exact n_t136 I.2
  · exact n_t137 I.2
  · exact n_t138 I.2
  · exact n_t139 I.2
  · exact n_t140 I.2
  · exact n_t141 I.2
  · exact n_t149 I.2
def n_cm (g : m_H) (kd one oth bg gen hs wr : Int) : m_H :=
  m_p (m_p (m_p (m_p (m_p (m_p (m_p (m_p (m_p (m_p (m_p (m_p (m_p g 130 (m_g g 127 14) (m_g g 127 15)) 132 (m_g g 127 14) kd) 133 (m_g g 127 14) 0) 134 (m_g g 127 14) gen) 135 (m_g g 127 14) hs) 136 (m_g g 127 14) wr) 137 (m_g g 127 14) (-1)) 138 (m_g g 127 14) (m_g g 127 18)) 139 (m_g g 127 14) one) 140 (m_g g 127 14) oth) 141 (m_g g 127 14) bg) 131 (m_g g 127 14) 0) 127 14 (m_g g 127 14 + 1)
theorem n_p2nd (h : m_H) (a k v : Int) : (m_p h a k v).2 = h.2 := rfl
theorem n_cm_2 (g : m_H) (kd one oth bg gen hs wr : Int) : (n_cm g kd one oth bg gen hs wr).2 = g.2 := by
  unfold n_cm
  rw [n_p2nd, n_p2nd, n_p2nd, n_p2nd, n_p2nd, n_p2nd, n_p2nd, n_p2nd, n_p2nd, n_p2nd, n_p2nd, n_p2nd, n_p2nd]
theorem n_gp_n {h : m_H} {a k v b j : Int} (c : ¬ (b = a ∧ j = k)) : m_g (m_p h a k v) b j = m_g h b j := by rw [m_g_p, if_neg c]
theorem n_gp_y {h : m_H} {a k v b j : Int} (c : b = a ∧ j = k) : m_g (m_p h a k v) b j = v := by rw [m_g_p, if_pos c]
theorem n_cm_old {g : m_H} {kd one oth bg gen hs wr b j : Int} (c2 : ¬ ((130 ≤ b ∧ b ≤ 141) ∧ j = m_g g 127 14)) (c3 : ¬ (b = 127 ∧ (j = 14 ∨ j = 15))) : m_g (n_cm g kd one oth bg gen hs wr) b j = m_g g b j := by
  have H : ∀ x, 130 ≤ x → x ≤ 141 → ¬ (b = x ∧ j = m_g g 127 14) := fun x x1 x2 q => c2 ⟨by omega, q.2⟩
  unfold n_cm
  rw [n_gp_n (fun q => c3 ⟨q.1, Or.inl q.2⟩), n_gp_n (H 131 (by decide) (by decide)), n_gp_n (H 141 (by decide) (by decide)), n_gp_n (H 140 (by decide) (by decide)), n_gp_n (H 139 (by decide) (by decide)), n_gp_n (H 138 (by decide) (by decide)), n_gp_n (H 137 (by decide) (by decide)), n_gp_n (H 136 (by decide) (by decide)), n_gp_n (H 135 (by decide) (by decide)), n_gp_n (H 134 (by decide) (by decide)), n_gp_n (H 133 (by decide) (by decide)), n_gp_n (H 132 (by decide) (by decide)), n_gp_n (H 130 (by decide) (by decide))]
theorem n_cm_n {g : m_H} {kd one oth bg gen hs wr : Int} : m_g (n_cm g kd one oth bg gen hs wr) 127 14 = m_g g 127 14 + 1 := by
  unfold n_cm
  rw [n_gp_y ⟨rfl, rfl⟩]
theorem n_cm_15 {g : m_H} {kd one oth bg gen hs wr : Int} : m_g (n_cm g kd one oth bg gen hs wr) 127 15 = m_g g 127 15 := by
  unfold n_cm
  rw [n_gp_n (by decide), n_gp_n (fun q => absurd q.1 (by decide)), n_gp_n (fun q => absurd q.1 (by decide)), n_gp_n (fun q => absurd q.1 (by decide)), n_gp_n (fun q => absurd q.1 (by decide)), n_gp_n (fun q => absurd q.1 (by decide)), n_gp_n (fun q => absurd q.1 (by decide)), n_gp_n (fun q => absurd q.1 (by decide)), n_gp_n (fun q => absurd q.1 (by decide)), n_gp_n (fun q => absurd q.1 (by decide)), n_gp_n (fun q => absurd q.1 (by decide)), n_gp_n (fun q => absurd q.1 (by decide)), n_gp_n (fun q => absurd q.1 (by decide))]
theorem n_cm_new {g : m_H} {kd one oth bg gen hs wr : Int} : (m_g (n_cm g kd one oth bg gen hs wr) 130 (m_g g 127 14) = m_g g 127 15 ∧ m_g (n_cm g kd one oth bg gen hs wr) 131 (m_g g 127 14) = 0 ∧ m_g (n_cm g kd one oth bg gen hs wr) 132 (m_g g 127 14) = kd ∧ m_g (n_cm g kd one oth bg gen hs wr) 133 (m_g g 127 14) = 0 ∧ m_g (n_cm g kd one oth bg gen hs wr) 134 (m_g g 127 14) = gen ∧ m_g (n_cm g kd one oth bg gen hs wr) 135 (m_g g 127 14) = hs ∧ m_g (n_cm g kd one oth bg gen hs wr) 136 (m_g g 127 14) = wr ∧ m_g (n_cm g kd one oth bg gen hs wr) 137 (m_g g 127 14) = -1 ∧ m_g (n_cm g kd one oth bg gen hs wr) 138 (m_g g 127 14) = m_g g 127 18 ∧ m_g (n_cm g kd one oth bg gen hs wr) 139 (m_g g 127 14) = one ∧ m_g (n_cm g kd one oth bg gen hs wr) 140 (m_g g 127 14) = oth ∧ m_g (n_cm g kd one oth bg gen hs wr) 141 (m_g g 127 14) = bg) := by
  have N : ∀ (a b : Int), a ≠ b → ∀ (h : m_H) (k v j : Int), m_g (m_p h b k v) a j = m_g h a j := fun a b hab h k v j => n_gp_n (fun q => hab q.1)
  have Y : ∀ (h : m_H) (a k v : Int), m_g (m_p h a k v) a k = v := fun h a k v => n_gp_y ⟨rfl, rfl⟩
  unfold n_cm
  refine ⟨?_, ?_, ?_, ?_, ?_, ?_, ?_, ?_, ?_, ?_, ?_, ?_⟩
  · rw [N 130 127 (by decide), N 130 131 (by decide), N 130 141 (by decide), N 130 140 (by decide), N 130 139 (by decide), N 130 138 (by decide), N 130 137 (by decide), N 130 136 (by decide), N 130 135 (by decide), N 130 134 (by decide), N 130 133 (by decide), N 130 132 (by decide), Y]
  · rw [N 131 127 (by decide), Y]
  · rw [N 132 127 (by decide), N 132 131 (by decide), N 132 141 (by decide), N 132 140 (by decide), N 132 139 (by decide), N 132 138 (by decide), N 132 137 (by decide), N 132 136 (by decide), N 132 135 (by decide), N 132 134 (by decide), N 132 133 (by decide), Y]
  · rw [N 133 127 (by decide), N 133 131 (by decide), N 133 141 (by decide), N 133 140 (by decide), N 133 139 (by decide), N 133 138 (by decide), N 133 137 (by decide), N 133 136 (by decide), N 133 135 (by decide), N 133 134 (by decide), Y]
  · rw [N 134 127 (by decide), N 134 131 (by decide), N 134 141 (by decide), N 134 140 (by decide), N 134 139 (by decide), N 134 138 (by decide), N 134 137 (by decide), N 134 136 (by decide), N 134 135 (by decide), Y]
  · rw [N 135 127 (by decide), N 135 131 (by decide), N 135 141 (by decide), N 135 140 (by decide), N 135 139 (by decide), N 135 138 (by decide), N 135 137 (by decide), N 135 136 (by decide), Y]
  · rw [N 136 127 (by decide), N 136 131 (by decide), N 136 141 (by decide), N 136 140 (by decide), N 136 139 (by decide), N 136 138 (by decide), N 136 137 (by decide), Y]
  · rw [N 137 127 (by decide), N 137 131 (by decide), N 137 141 (by decide), N 137 140 (by decide), N 137 139 (by decide), N 137 138 (by decide), Y]
  · rw [N 138 127 (by decide), N 138 131 (by decide), N 138 141 (by decide), N 138 140 (by decide), N 138 139 (by decide), Y]
  · rw [N 139 127 (by decide), N 139 131 (by decide), N 139 141 (by decide), N 139 140 (by decide), Y]
  · rw [N 140 127 (by decide), N 140 131 (by decide), N 140 141 (by decide), Y]
  · rw [N 141 127 (by decide), N 141 131 (by decide), Y]
theorem n_cm_R {g : m_H} {kd one oth bg gen hs wr : Int} {f : Int → Int} : n_newR g (n_cm g kd one oth bg gen hs wr) kd one oth bg gen hs wr 0 f :=
  ⟨n_cm_2 g kd one oth bg gen hs wr, fun _ _ _ c2 c3 _ => n_cm_old c2 c3, ⟨n_cm_n, by rw [n_cm_15]; omega⟩, n_cm_new, fun j j1 j2 => by omega⟩
theorem n_comes {g : m_H} {kd one oth bg : Int} (I : n_I g) (c1 : 0 ≤ m_g g 127 14) (c2 : m_g g 127 14 < 100) (o1 : -1 ≤ one) (o2 : one < m_g g 127 14) (f : Int → Int) : ∃ g', t11_comes 127 kd one oth bg g = some (m_g g 127 14, g') ∧ n_newR g g' kd one oth bg (if one = -1 then 0 else m_g g 134 one) (if one = -1 then 0 else m_g g 135 one) (if one = -1 then 0 else m_g g 136 one) 0 f := by
  refine ⟨n_cm g kd one oth bg (if one = -1 then 0 else m_g g 134 one) (if one = -1 then 0 else m_g g 135 one) (if one = -1 then 0 else m_g g 136 one), ?_, n_cm_R⟩
  have tM := n_t127 I.2
  have t2 := n_t130 I.2
  have t3 := n_t131 I.2
  have t4 := n_t132 I.2
  have t5 := n_t133 I.2
  have t6 := n_t134 I.2
  have t7 := n_t135 I.2
  have t8 := n_t136 I.2
  have t9 := n_t137 I.2
  have t10 := n_t138 I.2
  have t11 := n_t139 I.2
  have t12 := n_t140 I.2
  have t13 := n_t141 I.2
  have l2 := n_l130 I.2
  have l3 := n_l131 I.2
  have l4 := n_l132 I.2
  have l5 := n_l133 I.2
  have l6 := n_l134 I.2
  have l7 := n_l135 I.2
  have l8 := n_l136 I.2
  have l9 := n_l137 I.2
  have l10 := n_l138 I.2
  have l11 := n_l139 I.2
  have l12 := n_l140 I.2
  have l13 := n_l141 I.2
  have p2 := n_p127_2 I.2
  have p3 := n_p127_3 I.2
  have p4 := n_p127_4 I.2
  have p5 := n_p127_5 I.2
  have p6 := n_p127_6 I.2
  have p7 := n_p127_7 I.2
  have p8 := n_p127_8 I.2
  have p9 := n_p127_9 I.2
  have p10 := n_p127_10 I.2
  have p11 := n_p127_11 I.2
  have p12 := n_p127_12 I.2
  have p13 := n_p127_13 I.2
  clear I
  have W : m_w (m_g g 127 14) = m_g g 127 14 := m_w_of (by omega) (by omega)
  have W1 : m_w one = one := m_w_of (by omega) (by omega)
  have G1 : (0 ≤ m_g g 127 14) = True := eq_true c1
  have G2 : (m_g g 127 14 < 100) = True := eq_true c2
  unfold t11_comes n_cm
  by_cases c : one = -1
  · subst c
    simp only [W, G1, G2, tM, t2, t3, t4, t5, t6, t7, t8, t9, t10, t11, t12, t13, l2, l3, l4, l5, l6, l7, l8, l9, l10, l11, l12, l13, p2, p3, p4, p5, p6, p7, p8, p9, p10, p11, p12, p13, n_bs, m_g_p, m_t_p, m_l_p, Int.reduceEq, Int.reduceLT, Int.reduceLE, ↓reduceIte, true_and, and_true, and_self, false_and, and_false, eq_self, show m_w (-1) = -1 from rfl, t11_comes_c54, t11_comes_c76, t11_comes_c98]
  · have G3 : (0 ≤ one) = True := eq_true (by omega)
    have G4 : (one < 100) = True := eq_true (by omega)
    have G5 : (one = -1) = False := eq_false c
    simp only [W, W1, G1, G2, G3, G4, G5, tM, t2, t3, t4, t5, t6, t7, t8, t9, t10, t11, t12, t13, l2, l3, l4, l5, l6, l7, l8, l9, l10, l11, l12, l13, p2, p3, p4, p5, p6, p7, p8, p9, p10, p11, p12, p13, n_bs, m_g_p, m_t_p, m_l_p, Int.reduceEq, Int.reduceLT, Int.reduceLE, ↓reduceIte, true_and, and_true, and_self, false_and, and_false, eq_self, t11_comes_c54, t11_comes_c76, t11_comes_c98]
theorem n_adds {g g' : m_H} {kd one oth bg gen hs wr n v : Int} {f : Int → Int} (I : n_I g) (N : n_newR g g' kd one oth bg gen hs wr n f) (c1 : 0 ≤ m_g g 127 14) (c2 : m_g g 127 14 < 100) (n0 : 0 ≤ n) (n1 : n ≤ 300) (a1 : 0 ≤ m_g g 127 15) (a2 : m_g g 127 15 + n < 20000) (hv : v = f n) : ∃ g'', t11_adds 127 (m_g g 127 14) v g' = some ((), g'') ∧ n_newR g g'' kd one oth bg gen hs wr (n + 1) f := by
  have I1 := n_newR_I I N
  have tM := n_t127 I1.2
  have t0 := n_t128 I1.2
  have t3 := n_t131 I1.2
  have l0 := n_l128 I1.2
  have l3 := n_l131 I1.2
  have p0 := n_p127_0 I1.2
  have p3 := n_p127_3 I1.2
  obtain ⟨e, N1, N2, N3, N4⟩ := N
  refine ⟨m_p (m_p (m_p g' 128 (m_g g' 127 15) v) 127 15 (m_g g' 127 15 + 1)) 131 (m_g g 127 14) (m_g g' 131 (m_g g 127 14) + 1), ?_, e, fun b j q1 q2 q3 q4 => ?_, ?_, ?_, fun j j1 j2 => ?_⟩
  · unfold t11_adds
    simp (disch := omega) only [m_w_of, n_ltT, n_ltF, n_leT, n_leF, n_eqT, n_eqF, n_bs, n_bn, ↓reduceIte, true_and, and_true, and_self, false_and, and_false, or_true, true_or, or_false, false_or, not_true_eq_false, not_false_eq_true, Bool.false_eq_true, reduceCtorEq, eq_self, m_g_p, m_t_p, m_l_p, m_n_p, m_s_p, n_g_fl, n_t_fl, n_l_fl, n_n_fl, n_s_fl, p0, p3]
  · rw [m_g_p, if_neg (by omega), m_g_p, if_neg (by omega), m_g_p, if_neg (by omega)]
    exact N1 b j q1 q2 q3 q4
  · simp (disch := omega) only [m_g_p, m_w_of, n_ltT, n_ltF, n_leT, n_leF, n_eqT, n_eqF, n_bs, n_bn, ↓reduceIte, true_and, and_true, and_self, false_and, and_false, or_true, true_or, or_false, false_or, not_true_eq_false, not_false_eq_true, Bool.false_eq_true, reduceCtorEq, eq_self]
  · simp (disch := omega) only [m_g_p, m_w_of, n_ltT, n_ltF, n_leT, n_leF, n_eqT, n_eqF, n_bs, n_bn, ↓reduceIte, true_and, and_true, and_self, false_and, and_false, or_true, true_or, or_false, false_or, not_true_eq_false, not_false_eq_true, Bool.false_eq_true, reduceCtorEq, eq_self]
  · by_cases c : j = n
    · subst c
      simp (disch := omega) only [m_g_p, m_w_of, n_ltT, n_ltF, n_leT, n_leF, n_eqT, n_eqF, n_bs, n_bn, ↓reduceIte, true_and, and_true, and_self, false_and, and_false, or_true, true_or, or_false, false_or, not_true_eq_false, not_false_eq_true, Bool.false_eq_true, reduceCtorEq, eq_self]
    · rw [m_g_p, if_neg (by omega), m_g_p, if_neg (by omega), m_g_p, if_neg (by omega)]
      exact N4 j j1 (by omega)
/-- place j of strip s, where more is being made -/
theorem n_at2 {g : m_H} {s j : Int} (I : n_I g) (s1 : 0 ≤ s) (s2 : s < 100) (j1 : 0 ≤ m_g g 130 s + j) (j2 : m_g g 130 s + j < 20000) : t11_at 127 s j g = some (m_g g 128 (m_g g 130 s + j), g) := by
  have t := n_t127 I.2
  have t2 := n_t130 I.2
  have l2 := n_l130 I.2
  have p2 := n_p127_2 I.2
  have t0 := n_t128 I.2
  have l0 := n_l128 I.2
  have p0 := n_p127_0 I.2
  unfold t11_at
  simp (disch := omega) only [m_w_of, n_ltT, n_ltF, n_leT, n_leF, n_eqT, n_eqF, n_bs, n_bn, ↓reduceIte, true_and, and_true, and_self, false_and, and_false, or_true, true_or, or_false, false_or, not_true_eq_false, not_false_eq_true, Bool.false_eq_true, reduceCtorEq, eq_self, p2, p0]
theorem n_add_gs {g g' : m_H} {kd one oth bg gen hs wr n : Int} {f : Int → Int} (G : n_gs g) (N : n_newR g g' kd one oth bg gen hs wr n f) (c : m_g g 127 14 < 100) (a : m_g g 127 15 + n ≤ 20000) (n1 : 1 ≤ n) (n2 : n ≤ 300) (k1 : 0 ≤ kd ∧ kd ≤ 6) (g1 : 0 ≤ gen ∧ gen ≤ m_g g 127 14) (h1 : 0 ≤ hs ∧ hs ≤ 1000) (w1 : 0 ≤ wr ∧ wr ≤ 1000) (o1 : -1 ≤ one ∧ one < 100) (o2 : -1 ≤ oth ∧ oth < 100) (b1 : 0 ≤ bg ∧ bg ≤ 400) (hf : ∀ j, 0 ≤ j → j < n → -32768 ≤ f j ∧ f j ≤ 32767) : n_gs g' := by
  obtain ⟨e, N1, N2, N3, N4⟩ := N
  obtain ⟨G1, G2, G3, G4, G5, G6⟩ := G
  unfold n_shB at G1
  have F : ∀ j, j ≠ 14 → j ≠ 15 → m_g g' 127 j = m_g g 127 j := fun j q1 q2 => N1 127 j (by omega) (by omega) (by omega) (by omega)
  have A : ∀ b i, 130 ≤ b → b ≤ 148 → i ≠ m_g g 127 14 → m_g g' b i = m_g g b i := fun b i q1 q2 q3 => N1 b i (by omega) (by omega) (by omega) (by omega)
  have A2 : ∀ b i, 142 ≤ b → b ≤ 148 → m_g g' b i = m_g g b i := fun b i q1 q2 => N1 b i (by omega) (by omega) (by omega) (by omega)
  have SS : ∀ i, i < m_g g 127 15 → m_g g' 128 i = m_g g 128 i := fun i q => N1 128 i (by omega) (by omega) (by omega) (by omega)
  refine ⟨?_, fun i i1 i2 => ?_, fun i i1 i2 => ?_, fun j j1 j2 => ?_, fun i j i1 ij j2 => ?_, fun j j1 j2 => ?_⟩
  · unfold n_shB
    rw [F 18 (by omega) (by omega), F 17 (by omega) (by omega), F 23 (by omega) (by omega), F 27 (by omega) (by omega)]
    omega
  · by_cases ci : i = m_g g 127 14
    · subst ci
      have := F 18 (by omega) (by omega)
      unfold n_strB
      omega
    · have B := G2 i i1 (by omega)
      unfold n_strB at B ⊢
      rw [A 130 i (by omega) (by omega) ci, A 131 i (by omega) (by omega) ci, A 132 i (by omega) (by omega) ci, A 133 i (by omega) (by omega) ci, A 134 i (by omega) (by omega) ci, A 135 i (by omega) (by omega) ci, A 136 i (by omega) (by omega) ci, A 137 i (by omega) (by omega) ci, A 138 i (by omega) (by omega) ci, A 139 i (by omega) (by omega) ci, A 140 i (by omega) (by omega) ci, A 141 i (by omega) (by omega) ci]
      omega
  · rw [F 23 (by omega) (by omega)] at i2
    have B := G3 i i1 i2
    unfold n_macB at B ⊢
    rw [A2 142 i (by omega) (by omega), A2 143 i (by omega) (by omega), A2 144 i (by omega) (by omega), A2 145 i (by omega) (by omega)]
    exact B
  · by_cases cj : j < m_g g 127 15
    · rw [SS j cj]
      exact G4 j j1 cj
    · have := N4 (j - m_g g 127 15) (by omega) (by omega)
      have := hf (j - m_g g 127 15) (by omega) (by omega)
      rw [show j = m_g g 127 15 + (j - m_g g 127 15) by omega]
      omega
  · by_cases cj : j = m_g g 127 14
    · subst cj
      rw [N3.2.2.2.2.2.2.2.1]
      exact fun q => q
    · rw [A 137 i (by omega) (by omega) (by omega), A 137 j (by omega) (by omega) cj]
      exact G5 i j i1 ij (by omega)
  · rw [F 27 (by omega) (by omega)] at j2
    have B := G6 j j1 j2
    rw [A2 146 j (by omega) (by omega), A2 147 j (by omega) (by omega), A2 148 j (by omega) (by omega)]
    omega
theorem n_add_R {h h' g g' : m_H} {kd one oth bg gen hs wr n : Int} {f f' : Int → Int} (I : n_I h) (S : n_Rsh h g) (G : n_gs g) (A : n_new h h' kd one oth bg gen hs wr n f) (N : n_newR g g' kd one oth bg gen hs wr n f') (hf : ∀ j, 0 ≤ j → j < n → f j = f' j) : n_Rsh h' g' := by
  obtain ⟨I', K, B1, ⟨ka, kr, kn⟩, FA, ⟨R1, R2⟩, C2, C3⟩ := A
  obtain ⟨e, N1, N2, N3, N4⟩ := N
  obtain ⟨S1, S2, S3, S4⟩ := S
  unfold n_shN at S1
  have hn := I.2.2.2.2
  have G1 := G.1
  unfold n_shB at G1
  have F : ∀ j, j ≠ 14 → j ≠ 15 → m_g g' 127 j = m_g g 127 j := fun j q1 q2 => N1 127 j (by omega) (by omega) (by omega) (by omega)
  have A2 : ∀ b i, 130 ≤ b → b ≤ 148 → (i ≠ m_g g 127 14 ∨ 142 ≤ b) → m_g g' b i = m_g g b i := fun b i q1 q2 q3 => N1 b i (by omega) (by omega) (by omega) (by omega)
  have SS : ∀ i, i < m_g g 127 15 → m_g g' 128 i = m_g g 128 i := fun i q => N1 128 i (by omega) (by omega) (by omega) (by omega)
  have H : ∀ b, b < m_n h → b ≠ 2 → b ≠ 3 → ∀ j, m_g h' b j = m_g h b j := fun b q1 q2 q3 j => K.2.2.1 b q1 (by simp; omega) List.not_mem_nil n_no j
  refine ⟨?_, fun i i1 i2 => ?_, fun i i1 i2 => ?_, fun j j1 j2 => ?_⟩
  · unfold n_shN
    rw [C2, C2, C2, C2, C2, C2, F 18 (by omega) (by omega), F 17 (by omega) (by omega), F 23 (by omega) (by omega), F 27 (by omega) (by omega)]
    simp (disch := omega) only [m_w_of, n_ltT, n_ltF, n_leT, n_leF, n_eqT, n_eqF, n_bs, n_bn, ↓reduceIte, true_and, and_true, and_self, false_and, and_false, or_true, true_or, or_false, false_or, not_true_eq_false, not_false_eq_true, Bool.false_eq_true, reduceCtorEq, eq_self]
  · by_cases ci : i = m_g g 127 14
    · have ec : m_g h' 3 i = m_n h := by rw [C3, if_pos (by omega)]
      rw [ec, ci]
      have e3 := FA.2.2.2.1
      refine ⟨⟨ka, by omega, by rw [e3]; exact kr, by omega⟩, by omega, by omega, by omega, by omega, by omega, by omega, by omega, by omega, by omega, by omega, by omega, by rw [e3]; omega, fun j j1 j2 => ?_⟩
      rw [e3, R2 j j1 (by omega), N3.1, N4 j j1 (by omega)]
      exact hf j j1 (by omega)
    · have X := S2 i i1 (by omega)
      have B := G.2.1 i i1 (by omega)
      unfold n_strB at B
      have ec : m_g h' 3 i = m_g h 3 i := by rw [C3, if_neg (by omega)]
      rw [ec]
      generalize m_g h 3 i = q at *
      unfold n_strip at X ⊢
      obtain ⟨⟨s1, s2, s3, s4⟩, s5, s6, s7, s8, s9, s10, s11, s12, s13, s14, s15, s16, s17⟩ := X
      have lq := I.1.1 q (by omega)
      have lr := n_wf_lt I.1 s3
      have ka20 := (n_wf_row I.1 s3).2.1
      have Hq := H q lq.2 (by omega) (by omega)
      have Hr := H (m_g h q 3) lr.1 (by omega) (by omega)
      have t2 := n_t2 I.2
      have t3 := n_t3 I.2
      have Ha := H (m_g h (m_g h q 3) 0) lr.2.1 (fun e => by rw [e] at ka20; omega) (fun e => by rw [e] at ka20; omega)
      have hrg : ∀ j, n_rg h' (m_g h q 3) j = n_rg h (m_g h q 3) j := fun j => by unfold n_rg; rw [Hr, Hr, Ha]
      rw [Hq 0, Hq 1, Hq 2, Hq 3, Hq 4, Hq 5, Hq 6, Hq 7, Hq 8, Hq 9, Hq 10, Hq 11, Hr, (K.1 q lq.2).1, (K.1 _ lr.1).1]
      rw [A2 130 i (by omega) (by omega) (Or.inl ci), A2 131 i (by omega) (by omega) (Or.inl ci), A2 132 i (by omega) (by omega) (Or.inl ci), A2 133 i (by omega) (by omega) (Or.inl ci), A2 134 i (by omega) (by omega) (Or.inl ci), A2 135 i (by omega) (by omega) (Or.inl ci), A2 136 i (by omega) (by omega) (Or.inl ci), A2 137 i (by omega) (by omega) (Or.inl ci), A2 138 i (by omega) (by omega) (Or.inl ci), A2 139 i (by omega) (by omega) (Or.inl ci), A2 140 i (by omega) (by omega) (Or.inl ci), A2 141 i (by omega) (by omega) (Or.inl ci)]
      refine ⟨⟨s1, s2, s3, s4⟩, s5, s6, s7, s8, s9, s10, s11, s12, s13, s14, s15, s16, fun j j1 j2 => ?_⟩
      rw [hrg, SS _ (by omega)]
      exact s17 j j1 j2
  · rw [F 23 (by omega) (by omega)] at i2
    have X := S3 i i1 i2
    rw [H 4 (by omega) (by omega) (by omega)]
    generalize m_g h 4 i = q at *
    unfold n_mach at X ⊢
    have lq := I.1.1 q (by omega)
    have Hq := H q lq.2 (by omega) (by omega)
    rw [Hq, Hq, Hq, Hq, (K.1 q lq.2).1, A2 142 i (by omega) (by omega) (Or.inr (by omega)), A2 143 i (by omega) (by omega) (Or.inr (by omega)), A2 144 i (by omega) (by omega) (Or.inr (by omega)), A2 145 i (by omega) (by omega) (Or.inr (by omega))]
    exact X
  · rw [F 27 (by omega) (by omega)] at j2
    rw [H 5 (by omega) (by omega) (by omega), H 6 (by omega) (by omega) (by omega), H 7 (by omega) (by omega) (by omega), A2 146 j (by omega) (by omega) (Or.inr (by omega)), A2 147 j (by omega) (by omega) (Or.inr (by omega)), A2 148 j (by omega) (by omega) (Or.inr (by omega))]
    exact S4 j j1 j2
