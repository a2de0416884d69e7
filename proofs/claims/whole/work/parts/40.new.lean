/-! A NEW STRIP, the component's side -/
/-- the heap when a strip has been made with an empty row -/
def n_ni (h : m_H) (kd : Int) : m_H := m_p (m_p (m_p (m_p (m_p (m_p (m_p (m_p (m_p (m_a (m_a (m_a h 8 12) 5 2) 20 0) (m_n h + 1) 0 (m_n h + 2)) (m_n h) 3 (m_n h + 1)) (m_n h) 4 0) (m_n h) 8 (-1)) (m_n h) 9 (-1)) (m_n h) 10 (-1)) (m_n h) 0 (m_g h 2 1)) (m_n h) 1 kd) (m_n h) 2 (m_g h 2 3)
theorem n_t8_init {h : m_H} {kd : Int} : t8_init (m_n h) (m_g h 2 1) kd (m_g h 2 3) (m_a h 8 12) = some ((), n_ni h kd) := by
  unfold t8_init t5_init n_ni
  simp (disch := omega) only [m_w_of, n_ltT, n_ltF, n_leT, n_leF, n_eqT, n_eqF, n_bs, n_bn, ↓reduceIte, true_and, and_true, and_self, false_and, and_false, or_true, true_or, or_false, false_or, not_true_eq_false, not_false_eq_true, Bool.false_eq_true, reduceCtorEq, eq_self, m_t_p, m_t_a, m_n_a, m_n_p, show m_n h + 1 + 1 = m_n h + 2 by omega]
theorem n_ni_t (h : m_H) (kd b : Int) : m_t (n_ni h kd) b = if b = m_n h + 2 then 20 else if b = m_n h + 1 then 5 else if b = m_n h then 8 else m_t h b := by
  unfold n_ni
  simp only [m_t_p, m_t_a, m_n_a, show m_n h + 1 + 1 = m_n h + 2 by omega]
  rfl
theorem n_ni_l (h : m_H) (kd b : Int) : m_l (n_ni h kd) b = if b = m_n h + 2 then 0 else if b = m_n h + 1 then 2 else if b = m_n h then 12 else m_l h b := by
  unfold n_ni
  simp only [m_l_p, m_l_a, m_n_a, show m_n h + 1 + 1 = m_n h + 2 by omega]
  rfl
theorem n_ni_n (h : m_H) (kd : Int) : m_n (n_ni h kd) = m_n h + 3 := by
  unfold n_ni
  simp only [m_n_p, m_n_a]
  omega
theorem n_ni_s (h : m_H) (kd : Int) : m_s (n_ni h kd) = m_s h + 14 := by
  unfold n_ni
  simp only [m_s_p, m_s_a]
  omega
theorem n_ni_old (h : m_H) (kd : Int) {b : Int} (hb : b < m_n h) (j : Int) : m_g (n_ni h kd) b j = m_g h b j := by
  unfold n_ni
  simp (disch := omega) only [m_g_p, m_g_a, m_n_a, m_w_of, n_ltT, n_ltF, n_leT, n_leF, n_eqT, n_eqF, n_bs, n_bn, ↓reduceIte, true_and, and_true, and_self, false_and, and_false, or_true, true_or, or_false, false_or, not_true_eq_false, not_false_eq_true, Bool.false_eq_true, reduceCtorEq, eq_self]
theorem n_ni_a (h : m_H) (kd j : Int) : m_g (n_ni h kd) (m_n h) j = if j = 0 then m_g h 2 1 else if j = 1 then kd else if j = 2 then m_g h 2 3 else if j = 3 then m_n h + 1 else if j = 8 ∨ j = 9 ∨ j = 10 then -1 else 0 := by
  unfold n_ni
  simp (disch := omega) only [m_g_p, m_g_a, m_n_a, m_w_of, n_ltT, n_ltF, n_leT, n_leF, n_eqT, n_eqF, n_bs, n_bn, ↓reduceIte, true_and, and_true, and_self, false_and, and_false, or_true, true_or, or_false, false_or, not_true_eq_false, not_false_eq_true, Bool.false_eq_true, reduceCtorEq, eq_self]
theorem n_ni_r (h : m_H) (kd : Int) : m_g (n_ni h kd) (m_n h + 1) 0 = m_n h + 2 ∧ m_g (n_ni h kd) (m_n h + 1) 1 = 0 := by
  unfold n_ni
  constructor <;> simp (disch := omega) only [m_g_p, m_g_a, m_n_a, m_w_of, n_ltT, n_ltF, n_leT, n_leF, n_eqT, n_eqF, n_bs, n_bn, ↓reduceIte, true_and, and_true, and_self, false_and, and_false, or_true, true_or, or_false, false_or, not_true_eq_false, not_false_eq_true, Bool.false_eq_true, reduceCtorEq, eq_self]
theorem n_ni_I {h : m_H} (I : n_I h) (kd : Int) : n_I (n_ni h kd) := by
  obtain ⟨W, F⟩ := I
  have I : n_I h := ⟨W, F⟩
  have hn := F.2.2.2
  obtain ⟨w1, w2, w3, w4, w5⟩ := W
  have W : n_wf h := ⟨w1, w2, w3, w4, w5⟩
  have T := n_ni_t h kd
  have L := n_ni_l h kd
  have O := fun {b : Int} (hb : b < m_n h) j => n_ni_old h kd hb j
  obtain ⟨r0, r1⟩ := n_ni_r h kd
  have fresh : ∀ b, m_n h ≤ b → m_t h b = -1 := fun b hb => by
    by_cases c : m_t h b = -1
    · exact c
    · have := w1 b c; omega
  have k5 : ∀ r, m_t (n_ni h kd) r = 5 → r = m_n h + 1 ∨ (r < m_n h ∧ m_t h r = 5) := fun r hr => by
    rw [T] at hr
    by_cases c1 : r = m_n h + 1
    · exact Or.inl c1
    · right
      by_cases c2 : r = m_n h + 2
      · rw [if_pos c2] at hr; omega
      · rw [if_neg c2, if_neg c1] at hr
        by_cases c3 : r = m_n h
        · rw [if_pos c3] at hr; omega
        · rw [if_neg c3] at hr
          exact ⟨(w1 r (by omega)).2, hr⟩
  have k6 : ∀ s, m_t (n_ni h kd) s = 6 → s < m_n h ∧ m_t h s = 6 := fun s hs => by
    rw [T] at hs
    by_cases c1 : s = m_n h + 1
    · rw [if_neg (by omega), if_pos c1] at hs; omega
    · by_cases c2 : s = m_n h + 2
      · rw [if_pos c2] at hs; omega
      · by_cases c3 : s = m_n h
        · rw [if_neg c2, if_neg c1, if_pos c3] at hs; omega
        · rw [if_neg c2, if_neg c1, if_neg c3] at hs
          exact ⟨(w1 s (by omega)).2, hs⟩
  have old : ∀ b, b < m_n h → m_t (n_ni h kd) b = m_t h b ∧ m_l (n_ni h kd) b = m_l h b := fun b hb => by
    rw [T, L, if_neg (by omega), if_neg (by omega), if_neg (by omega), if_neg (by omega), if_neg (by omega), if_neg (by omega)]
    exact ⟨rfl, rfl⟩
  refine ⟨⟨fun a ha => ?_, by rw [n_ni_n]; omega, fun r hr => ?_, fun r q hr hq hne => ?_, fun s hs => ?_⟩, n_fx_of F (by rw [n_ni_n]; omega) (fun a h1 h2 => old a (by omega)) (fun a k hk => O (by have := (n_key_t F hk).1; omega) k)⟩
  · rw [n_ni_n]
    by_cases c : a < m_n h
    · have := w1 a (by rw [← (old a c).1]; exact ha); omega
    · rw [T] at ha
      have := fresh a (by omega)
      by_cases c1 : a = m_n h + 2
      · omega
      · by_cases c2 : a = m_n h + 1
        · omega
        · by_cases c3 : a = m_n h
          · omega
          · rw [if_neg c1, if_neg c2, if_neg c3] at ha
            exact absurd this ha
  · rcases k5 r hr with e | ⟨e1, e2⟩
    · subst e
      unfold n_row n_cap
      rw [r0, r1]
      have t2 : m_t (n_ni h kd) (m_n h + 2) = 20 := by rw [T, if_pos rfl]
      have l2 : m_l (n_ni h kd) (m_n h + 2) = 0 := by rw [L, if_pos rfl]
      rw [t2, l2]
      exact ⟨⟨hr, rfl, by omega, by omega, by omega⟩, by omega, fun _ => rfl⟩
    · have q := w3 r e2
      have l := n_wf_lt W e2
      unfold n_row n_cap at q ⊢
      rw [O e1, O e1, (old r e1).1, (old _ l.2.1).1, (old _ l.2.1).2]
      exact q
  · rcases k5 r hr with e | ⟨e1, e2⟩
    · rcases k5 q hq with f | ⟨f1, f2⟩
      · omega
      · rw [e, r0, O f1]
        have := n_wf_lt W f2
        omega
    · rcases k5 q hq with f | ⟨f1, f2⟩
      · rw [f, r0, O e1]
        have := n_wf_lt W e2
        omega
      · rw [O e1, O f1]
        exact w4 r q e2 f2 hne
  · obtain ⟨e1, e2⟩ := k6 s hs
    obtain ⟨s1, s2, s3, s4, s5⟩ := w5 s e2
    have l0 := w1 (m_g h s 0) (by omega)
    have l3 := w1 (m_g h s 3) (by omega)
    rw [O e1, O e1, (old _ l0.2).1, (old _ l3.2).1, (old _ l3.2).2, (old _ l0.2).2]
    refine ⟨s1, s2, s3, s4, fun r hr => ?_⟩
    rcases k5 r hr with f | ⟨f1, f2⟩
    · rw [f, r0]; omega
    · rw [O f1]; exact s5 r f2
/-- a strip has been made: kind, what of, where, age, its row -/
def n_new (h h' : m_H) (kd one oth bg gen hs wr n : Int) (f : Int → Int) : Prop :=
  n_I h' ∧ n_kp h h' [2, 3] [] ∧ (m_n h' = m_n h + 4 ∧ m_s h' ≤ m_s h + 314) ∧ (m_t h' (m_n h) = 8 ∧ m_t h' (m_n h + 1) = 5 ∧ m_n h ≤ m_g h' (m_n h + 1) 0) ∧
  (m_g h' (m_n h) 0 = m_g h 2 1 ∧ m_g h' (m_n h) 1 = kd ∧ m_g h' (m_n h) 2 = m_g h 2 3 ∧ m_g h' (m_n h) 3 = m_n h + 1 ∧ m_g h' (m_n h) 4 = 0 ∧ m_g h' (m_n h) 5 = gen ∧ m_g h' (m_n h) 6 = hs ∧ m_g h' (m_n h) 7 = wr ∧ m_g h' (m_n h) 8 = -1 ∧ m_g h' (m_n h) 9 = one ∧ m_g h' (m_n h) 10 = oth ∧ m_g h' (m_n h) 11 = bg) ∧
  (m_g h' (m_n h + 1) 1 = n ∧ ∀ j, 0 ≤ j → j < n → n_rg h' (m_n h + 1) j = f j) ∧
  (∀ j, m_g h' 2 j = if j = 1 then m_g h 2 1 + 1 else if j = 2 then m_g h 2 2 + n else if j = 11 then m_g h 2 11 + 1 else m_g h 2 j) ∧
  ∀ j, m_g h' 3 j = if j = m_g h 2 1 then m_n h else m_g h 3 j
theorem n_begin {h : m_H} {kd n : Int} (I : n_I h) (c1 : 0 ≤ m_g h 2 1) (c2 : m_g h 2 1 < 100) (n1 : 1 ≤ n) (n2 : n ≤ 300) : ∃ h', t7_begin 2 kd n h = some (m_n h, h') ∧ n_new h h' kd (-1) (-1) 0 0 0 0 n (n_rg h' (m_n h + 1)) := by
  have J := n_ni_I I kd
  have T := n_ni_t h kd
  have hn := I.2.2.2.2
  have A := n_ni_a h kd
  have O := fun {b : Int} (hb : b < m_n h) j => n_ni_old h kd hb j
  have tr : m_t (n_ni h kd) (m_n h + 1) = 5 := by rw [T, if_neg (by omega), if_pos rfl]
  have ta : m_t (n_ni h kd) (m_n h) = 8 := by rw [T, if_neg (by omega), if_neg (by omega), if_pos rfl]
  have a3 : m_g (n_ni h kd) (m_n h) 3 = m_n h + 1 := by rw [A]; rfl
  have l := n_wf_lt J.1 tr
  have R := n_wf_row J.1 tr
  have c0 : n_cap (n_ni h kd) (m_n h + 1) = 0 := by unfold n_cap; rw [(n_ni_r h kd).1, n_ni_l, if_pos rfl]
  obtain ⟨s1, s2, s3, s4, s5⟩ := n_rsz_ch J.1 tr (n := n) (by omega) (by omega)
  have e1 := n_resize R l.1 l.2.1 (by omega) (x := n) (by omega) (by omega)
  rw [show max n 0 = n by omega] at e1
  have W1 := n_wf_ch J.1 tr s3 s1 s4
  have I1 : n_I (n_rsz (n_ni h kd) (m_n h + 1) n) := ⟨W1, n_fx_of J.2 s3.2.2.2.2.2.1 (fun a h1 h2 => s3.1 a (by rw [n_ni_n]; omega)) (fun a k hk => (n_sf_ch J.1 tr s3 (n_key_sf J hk)).2.1 k)⟩
  have en : m_n (n_rsz (n_ni h kd) (m_n h + 1) n) = m_n h + 4 := by unfold n_rsz; rw [c0, if_pos (by omega)]; simp only [m_g_p, m_t_p, m_l_p, m_n_p, m_s_p, n_g_fl, n_t_fl, n_l_fl, n_n_fl, n_s_fl, m_n_cp, m_n_a, n_ni_n]; omega
  have es : m_s (n_rsz (n_ni h kd) (m_n h + 1) n) = m_s h + 14 + n := by unfold n_rsz; rw [c0, if_pos (by omega)]; simp only [m_g_p, m_t_p, m_l_p, m_n_p, m_s_p, n_g_fl, n_t_fl, n_l_fl, n_n_fl, n_s_fl, m_s_cp, m_s_a, n_ni_s]; omega
  have cell := fun b (hb : b < m_n h + 3) (hb2 : b ≠ m_n h + 1) (hb3 : b ≠ m_n h + 2) j => s3.2.1 b (by rw [n_ni_n]; omega) hb2 (by rw [(n_ni_r h kd).1]; exact hb3) j
  have kind := fun b (hb : b < m_n h + 3) => s3.1 b (by rw [n_ni_n]; omega)
  generalize n_rsz (n_ni h kd) (m_n h + 1) n = h1 at *
  have t2 := n_t2 I1.2
  have t3 := n_t3 I1.2
  have l3 := n_l3 I1.2
  have p2 := n_p2_0 I1.2
  have b2 : ∀ j, m_g h1 2 j = m_g h 2 j := fun j => by rw [cell 2 (by omega) (by omega) (by omega), O (by omega)]
  have b3 : ∀ j, m_g h1 3 j = m_g h 3 j := fun j => by rw [cell 3 (by omega) (by omega) (by omega), O (by omega)]
  have ba : ∀ j, m_g h1 (m_n h) j = m_g (n_ni h kd) (m_n h) j := fun j => cell _ (by omega) (by omega) (by omega) j
  have ta1 : m_t h1 (m_n h) = 8 := by rw [(kind _ (by omega)).1]; exact ta
  refine ⟨m_p (m_p (m_p (m_p h1 3 (m_g h 2 1) (m_n h)) 2 1 (m_g h 2 1 + 1)) 2 2 (m_g h 2 2 + n)) 2 11 (m_g h 2 11 + 1), ?_, ?_⟩
  · unfold t7_begin
    have u2 := n_t2 I.2
    have v1 : m_t (m_a h 8 12) 2 = 7 := by rw [m_t_a, if_neg (by omega)]; exact u2
    have v2 : 0 ≤ m_t (m_a h 8 12) (m_n h) := by rw [m_t_a, if_pos rfl]; omega
    have v3 : ∀ j, m_g (m_a h 8 12) 2 j = m_g h 2 j := fun j => by rw [m_g_a, if_neg (by omega)]
    rw [n_bs, if_pos v1, if_pos v2, v3, v3, n_t8_init, n_bs]
    show (some (m_n h) >>= fun x6 => if m_t (n_ni h kd) x6 = 8 then if m_t (n_ni h kd) (m_g (n_ni h kd) x6 3) = 5 then t5_resize (m_g (n_ni h kd) x6 3) n (n_ni h kd) >>= _ else none else none) = _
    rw [n_bs, if_pos ta, a3, if_pos tr, e1, n_bs]
    unfold t7_begin_c57
    simp (disch := omega) only [m_w_of, n_ltT, n_ltF, n_leT, n_leF, n_eqT, n_eqF, n_bs, n_bn, ↓reduceIte, true_and, and_true, and_self, false_and, and_false, or_true, true_or, or_false, false_or, not_true_eq_false, not_false_eq_true, Bool.false_eq_true, reduceCtorEq, eq_self, p2, b2, m_g_p, m_t_p]
  · have I2 : n_I (m_p (m_p (m_p (m_p h1 3 (m_g h 2 1) (m_n h)) 2 1 (m_g h 2 1 + 1)) 2 2 (m_g h 2 2 + n)) 2 11 (m_g h 2 11 + 1)) := by
      have J1 : n_I (m_p h1 3 (m_g h 2 1) (m_n h)) := n_I_p I1 (by omega) (fun e => by omega) (by
        have : n_key 3 (m_g h 2 1) = false := by
          unfold n_key
          rw [Bool.or_eq_false_iff]
          constructor
          · rw [List.any_eq_false]
            intro q hq
            have A : (n_ptr.all (fun q => decide (q.1 ≠ 3))) = true := by decide +kernel
            rw [List.all_eq_true] at A
            have := decide_eq_true_eq.mp (A q hq)
            simp [this]
          · decide +kernel
        exact this)
      exact n_I_p (n_I_p (n_I_p J1 (by simp only [m_t_p]; omega) (fun e => by simp only [m_t_p] at e; omega) rfl) (by simp only [m_t_p]; omega) (fun e => by simp only [m_t_p] at e; omega) rfl) (by simp only [m_t_p]; omega) (fun e => by simp only [m_t_p] at e; omega) rfl
    have E : ∀ b j, b ≠ 2 → b ≠ 3 → m_g (m_p (m_p (m_p (m_p h1 3 (m_g h 2 1) (m_n h)) 2 1 (m_g h 2 1 + 1)) 2 2 (m_g h 2 2 + n)) 2 11 (m_g h 2 11 + 1)) b j = m_g h1 b j := fun b j q1 q2 => by
      rw [m_g_p, if_neg (fun q => q1 q.1), m_g_p, if_neg (fun q => q1 q.1), m_g_p, if_neg (fun q => q1 q.1), m_g_p, if_neg (fun q => q2 q.1)]
    refine ⟨I2, ⟨fun b hb => ?_, by simp only [m_n_p]; omega, fun b hb q1 _ _ j => ?_, fun r hr => Or.inl ?_⟩, ⟨by simp only [m_n_p]; exact en, by simp only [m_s_p]; omega⟩, ⟨ta1, ?_, ?_⟩, ?_, ⟨?_, fun j _ _ => rfl⟩, fun j => ?_, fun j => ?_⟩
    · have := kind b (by omega)
      have q := n_ni_l h kd b
      have q2 := T b
      rw [if_neg (by omega), if_neg (by omega), if_neg (by omega)] at q q2
      simp only [m_t_p, m_l_p]
      rw [this.1, this.2, q, q2]
      exact ⟨rfl, rfl⟩
    · simp at q1
      rw [E b j (by omega) (by omega), cell b (by omega) (by omega) (by omega), O hb]
    · have lr := n_wf_lt I.1 hr
      have u2 := n_t2 I.2
      have u3 := n_t3 I.2
      rw [E r 0 (fun e => by rw [e] at hr; omega) (fun e => by rw [e] at hr; omega), cell r (by omega) (by omega) (by omega), O lr.1]
    · show m_t h1 (m_n h + 1) = 5
      rw [(kind _ (by omega)).1]; exact tr
    · rw [E _ _ (by omega) (by omega)]
      have q := s3.2.2.2.1
      rw [(n_ni_r h kd).1, n_ni_n] at q
      omega
    · simp only [E _ _ (show m_n h ≠ 2 by omega) (show m_n h ≠ 3 by omega), ba, A]
      simp (disch := omega) only [m_w_of, n_ltT, n_ltF, n_leT, n_leF, n_eqT, n_eqF, n_bs, n_bn, ↓reduceIte, true_and, and_true, and_self, false_and, and_false, or_true, true_or, or_false, false_or, not_true_eq_false, not_false_eq_true, Bool.false_eq_true, reduceCtorEq, eq_self]
    · rw [E _ _ (by omega) (by omega)]; exact s2
    · by_cases j11 : j = 11
      · simp (disch := omega) only [m_w_of, n_ltT, n_ltF, n_leT, n_leF, n_eqT, n_eqF, n_bs, n_bn, ↓reduceIte, true_and, and_true, and_self, false_and, and_false, or_true, true_or, or_false, false_or, not_true_eq_false, not_false_eq_true, Bool.false_eq_true, reduceCtorEq, eq_self, m_g_p]
      by_cases j2 : j = 2
      · simp (disch := omega) only [m_w_of, n_ltT, n_ltF, n_leT, n_leF, n_eqT, n_eqF, n_bs, n_bn, ↓reduceIte, true_and, and_true, and_self, false_and, and_false, or_true, true_or, or_false, false_or, not_true_eq_false, not_false_eq_true, Bool.false_eq_true, reduceCtorEq, eq_self, m_g_p]
      by_cases j1 : j = 1
      · simp (disch := omega) only [m_w_of, n_ltT, n_ltF, n_leT, n_leF, n_eqT, n_eqF, n_bs, n_bn, ↓reduceIte, true_and, and_true, and_self, false_and, and_false, or_true, true_or, or_false, false_or, not_true_eq_false, not_false_eq_true, Bool.false_eq_true, reduceCtorEq, eq_self, m_g_p]
      · simp (disch := omega) only [m_w_of, n_ltT, n_ltF, n_leT, n_leF, n_eqT, n_eqF, n_bs, n_bn, ↓reduceIte, true_and, and_true, and_self, false_and, and_false, or_true, true_or, or_false, false_or, not_true_eq_false, not_false_eq_true, Bool.false_eq_true, reduceCtorEq, eq_self, m_g_p, b2]
    · by_cases c : j = m_g h 2 1
      · simp (disch := omega) only [m_w_of, n_ltT, n_ltF, n_leT, n_leF, n_eqT, n_eqF, n_bs, n_bn, ↓reduceIte, true_and, and_true, and_self, false_and, and_false, or_true, true_or, or_false, false_or, not_true_eq_false, not_false_eq_true, Bool.false_eq_true, reduceCtorEq, eq_self, m_g_p]
      · simp (disch := omega) only [m_w_of, n_ltT, n_ltF, n_leT, n_leF, n_eqT, n_eqF, n_bs, n_bn, ↓reduceIte, true_and, and_true, and_self, false_and, and_false, or_true, true_or, or_false, false_or, not_true_eq_false, not_false_eq_true, Bool.false_eq_true, reduceCtorEq, eq_self, m_g_p, b3]
