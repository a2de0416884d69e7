/-! CALLS: cut, turn, loop -/
/-- what holds of an old cell when a strip has come -/
theorem n_new_old {h h1 : m_H} {kd one oth bg gen hs wr n : Int} {f : Int → Int} (A : n_new h h1 kd one oth bg gen hs wr n f) {b : Int} (hb : b < m_n h) (h2 : b ≠ 2) (h3 : b ≠ 3) (j : Int) : m_g h1 b j = m_g h b j := A.2.1.2.2.1 b hb (by simp; omega) List.not_mem_nil n_no j
theorem n_new_row {h h1 : m_H} {kd one oth bg gen hs wr n : Int} {f : Int → Int} (I : n_I h) (A : n_new h h1 kd one oth bg gen hs wr n f) {r : Int} (hr : m_t h r = 5) : m_t h1 r = 5 ∧ m_g h1 r 0 = m_g h r 0 ∧ m_g h1 r 1 = m_g h r 1 ∧ ∀ j, n_rg h1 r j = n_rg h r j := by
  have l := n_wf_lt I.1 hr
  have k20 := (n_wf_row I.1 hr).2.1
  have t2 := n_t2 I.2
  have t3 := n_t3 I.2
  have e := fun j => n_new_old A l.1 (fun q => by rw [q] at hr; omega) (fun q => by rw [q] at hr; omega) j
  have ea := fun j => n_new_old A l.2.1 (fun q => by rw [q] at k20; omega) (fun q => by rw [q] at k20; omega) j
  exact ⟨by rw [(A.2.1.1 r l.1).1]; exact hr, e 0, e 1, fun j => by unfold n_rg; rw [e, e, ea]⟩
/-- strip s, seen as samples -/
theorem n_st_sv {h g : m_H} {s : Int} (S : n_Rsh h g) (G : n_gs g) (c : 0 ≤ s ∧ s < m_g g 127 14) : n_sv h (m_g h (m_g h 3 s) 3) := fun j => by
  obtain ⟨⟨a1, a2, a3, a4⟩, a5, a6, a7, a8, a9, a10, a11, a12, a13, a14, a15, a16, a17⟩ := n_st S c
  have b := G.2.1 s c.1 c.2
  unfold n_strB at b
  by_cases q : 0 ≤ j ∧ j < m_g g 131 s
  · rw [a17 j q.1 q.2]
    exact G.2.2.2.1 _ (by omega) (by omega)
  · unfold n_rg; rw [if_neg (by omega)]; omega
/-- what the making of a strip out of the strip at q needs -/
def n_stF (h : m_H) (q s : Int) : Prop := (m_t h q = 8 ∧ 312 ≤ q ∧ m_t h (m_g h q 3) = 5 ∧ 312 ≤ m_g h q 3) ∧ m_g h q 0 = s ∧ (0 ≤ m_g h q 5 ∧ m_g h q 5 ≤ 1000) ∧ (0 ≤ m_g h q 6 ∧ m_g h q 6 ≤ 1000) ∧ (0 ≤ m_g h q 7 ∧ m_g h q 7 ≤ 1000) ∧ n_sv h (m_g h q 3)
theorem n_st_F {h g : m_H} {s : Int} (S : n_Rsh h g) (G : n_gs g) (c : 0 ≤ s ∧ s < m_g g 127 14) : n_stF h (m_g h 3 s) s := by
  obtain ⟨a1, a5, a6, a7, a8, a9, a10, a11, a12⟩ := n_st S c
  have b := G.2.1 s c.1 c.2
  unfold n_strB at b
  have B := G.1.2.1
  exact ⟨a1, a5, by omega, by omega, by omega, n_st_sv S G c⟩
theorem n_stF_new {h h1 : m_H} {kd one oth bg gen hs wr n q s : Int} {f : Int → Int} (I : n_I h) (F : n_stF h q s) (A : n_new h h1 kd one oth bg gen hs wr n f) : n_stF h1 q s ∧ (∀ j, m_g h1 q j = m_g h q j) ∧ (∀ j, n_rg h1 (m_g h q 3) j = n_rg h (m_g h q 3) j) ∧ m_g h1 (m_g h q 3) 1 = m_g h (m_g h q 3) 1 ∧ q < m_n h ∧ m_g h q 3 < m_n h := by
  obtain ⟨⟨a1, a2, a3, a4⟩, a5, a6, a7, a8, a9⟩ := F
  have lq := I.1.1 q (by omega)
  have O := fun j => n_new_old A lq.2 (by omega) (by omega) j
  obtain ⟨r1, r2, r3, r4⟩ := n_new_row I A a3
  have kq : m_t h1 q = 8 := by rw [(A.2.1.1 _ lq.2).1]; exact a1
  refine ⟨⟨⟨kq, a2, by rw [O]; exact r1, by rw [O]; exact a4⟩, by rw [O]; exact a5, by rw [O]; exact a6, by rw [O]; exact a7, by rw [O]; exact a8, fun j => by rw [O, r4]; exact a9 j⟩, O, r4, r3, lq.2, (n_wf_lt I.1 a3).1⟩
theorem n_beginOf {h : m_H} {kd n q s : Int} (I : n_I h) (F : n_stF h q s) (c1 : 0 ≤ m_g h 2 1) (c2 : m_g h 2 1 < 100) (n1 : 1 ≤ n) (n2 : n ≤ 300) : ∃ h' f0, t7_beginOf 2 kd n q h = some (m_n h, h') ∧ n_new h h' kd s (-1) 0 (m_g h q 5) (m_g h q 6) (m_g h q 7) n f0 := by
  obtain ⟨h1, e1, A1⟩ := n_begin (kd := kd) I c1 c2 n1 n2
  obtain ⟨F1, O, Or, Ol, lq, lr⟩ := n_stF_new I F A1
  obtain ⟨⟨a1, a2, a3, a4⟩, a5, a6, a7, a8, a9⟩ := F
  have A2 := n_new_f (v := s) (j := 9) I A1 (by omega)
  have A3 := n_new_f (v := m_g h q 5) (j := 5) I A2 (by omega)
  have A4 := n_new_f (v := m_g h q 6) (j := 6) I A3 (by omega)
  have A5 := n_new_f (v := m_g h q 7) (j := 7) I A4 (by omega)
  simp only [Int.reduceEq, ↓reduceIte] at A2 A3 A4 A5
  have ka : m_t h1 (m_n h) = 8 := A1.2.2.2.1.1
  have FA := A1.2.2.2.2.1
  have kq : m_t h1 q = 8 := F1.1.1
  refine ⟨m_p (m_p (m_p (m_p h1 (m_n h) 9 s) (m_n h) 5 (m_g h q 5)) (m_n h) 6 (m_g h q 6)) (m_n h) 7 (m_g h q 7), _, ?_, A5⟩
  have M : ∀ x : Int, 0 ≤ x → x ≤ 1000 → m_max 0 x = x := fun x x1 x2 => by rw [n_max (by omega) (by omega) (by omega) (by omega)]; omega
  have o0 := (O 0).trans a5
  have o5 := O 5
  have o6 := O 6
  have o7 := O 7
  have m5 := M _ a6.1 a6.2
  have m6 := M _ a7.1 a7.2
  have m7 := M _ a8.1 a8.2
  unfold t7_beginOf
  rw [if_pos (n_t2 I.2), e1, n_bs]
  show (if m_t h1 q = 8 then if m_t h1 (m_n h) = 8 then some (m_p h1 (m_n h) 9 (m_g h1 q 0)) >>= _ else none else none) = _
  rw [if_pos kq, if_pos ka, o0, n_bs]
  have f5 := FA.2.2.2.2.2.1
  have f6 := FA.2.2.2.2.2.2.1
  have f7 := FA.2.2.2.2.2.2.2.1
  clear A1 A2 A3 A4 A5 I FA F1 a9 Or Ol
  unfold t8_ageAs
  simp (disch := omega) only [m_w_of, n_ltT, n_ltF, n_leT, n_leF, n_eqT, n_eqF, n_bs, n_bn, ↓reduceIte, true_and, and_true, and_self, false_and, and_false, or_true, true_or, or_false, false_or, not_true_eq_false, not_false_eq_true, Bool.false_eq_true, reduceCtorEq, eq_self, n_gp_n, n_gp_y, m_t_p, f5, f6, f7, o5, o6, o7, m5, m6, m7]
/-- the reference's strip s, while another one is being made -/
theorem n_at3 {g g' : m_H} {kd one oth bg gen hs wr n s x : Int} {f : Int → Int} (I : n_I g) (G : n_gs g) (N : n_newR g g' kd one oth bg gen hs wr n f) (c : 0 ≤ s ∧ s < m_g g 127 14) (x1 : 0 ≤ x) (x2 : x < m_g g 131 s) : t11_at 127 s x g' = some (m_g g 128 (m_g g 130 s + x), g') := by
  have J := n_newR_I I N
  have b := G.2.1 s c.1 c.2
  unfold n_strB at b
  have B := G.1
  unfold n_shB at B
  have e1 : m_g g' 130 s = m_g g 130 s := N.2.1 130 s (by omega) (by omega) (by omega) (by omega)
  have e2 : m_g g' 128 (m_g g 130 s + x) = m_g g 128 (m_g g 130 s + x) := N.2.1 128 _ (by omega) (by omega) (by omega) (by omega)
  rw [n_at2 J c.1 (by omega) (by omega) (by omega), e1, e2]
theorem n_addPart {h : m_H} {from0 n q s : Int} (I : n_I h) (F : n_stF h q s) (c1 : 0 ≤ m_g h 2 1) (c2 : m_g h 2 1 < 100) (n1 : 1 ≤ n) (n2 : n ≤ 300) (f1 : 0 ≤ from0) (f2 : from0 ≤ 400) : ∃ h', t7_addPart 2 q from0 n h = some (m_g h 2 1, h') ∧ n_new h h' 1 s (-1) from0 (m_g h q 5) (m_g h q 6) (m_g h q 7) n (fun j => n_rg h (m_g h q 3) (from0 + j)) := by
  obtain ⟨h1, f0, e1, A1⟩ := n_beginOf (kd := 1) (n := n) I F c1 c2 n1 n2
  obtain ⟨F1, O, Or, Ol, lq, lr⟩ := n_stF_new I F A1
  obtain ⟨⟨a1, a2, a3, a4⟩, a5, a6, a7, a8, a9⟩ := F
  have kr := A1.2.2.2.1.2.1
  have ka := A1.2.2.2.1.1
  have r1 : m_t h1 (m_g h q 3) = 5 := by have := F1.1.2.2.1; rw [O] at this; exact this
  obtain ⟨h2, e2, B2⟩ := n_fillPartC (v := m_n h + 1) (w := m_g h q 3) (b := from0) (n := n) A1.1.1 kr r1 (by omega) (by omega) (by omega) (by omega) (by omega) (fun j => by rw [Or]; exact a9 j)
  have A2 := n_new_rw I A1 B2
  have A3 := n_new_f (v := from0) (j := 11) I A2 (by omega)
  simp only [Int.reduceEq, ↓reduceIte] at A3
  have ka2 := A2.2.2.2.1.1
  refine ⟨m_p h2 (m_n h) 11 from0, ?_, ?_⟩
  · unfold t7_addPart
    rw [if_pos (n_t2 I.2), e1, n_bs]
    show (if m_t h1 (m_n h) = 8 then if m_t h1 q = 8 then if m_t h1 (m_g h1 (m_n h) 3) = 5 then t5_fillPart (m_g h1 (m_n h) 3) (m_g h1 q 3) from0 n h1 >>= _ else none else none else none) = _
    rw [if_pos ka, if_pos F1.1.1, A1.2.2.2.2.1.2.2.2.1, if_pos kr, O 3, e2, n_bs]
    show (if m_t h2 (m_n h) = 8 then some (m_p h2 (m_n h) 11 from0) >>= fun h10 => if m_t h10 (m_n h) = 8 then some (m_g h10 (m_n h) 0, h10) else none else none) = _
    rw [if_pos ka2, n_bs, if_pos (by rw [m_t_p]; exact ka2), n_gp_n (by omega), A2.2.2.2.2.1.1]
  · have : (fun j => n_rg h1 (m_g h q 3) (from0 + j)) = (fun j => n_rg h (m_g h q 3) (from0 + j)) := funext fun j => Or _
    rw [this] at A3
    exact A3
theorem n_freeStrip_y {h g : m_H} {i : Int} (I : n_I h) (S : n_Rsh h g) (G : n_gs g) (c : 0 ≤ i ∧ i < m_g g 127 14) (c2 : m_g g 133 i = 0) (c3 : m_g g 132 i ≠ 3) : t7_freeStrip 2 i h = some (m_g h 3 i, h) := by
  obtain ⟨⟨s1, s2, s3, s4⟩, s5, s6, s7⟩ := n_st S c
  have b := G.2.1 i c.1 c.2
  unfold n_strB at b
  unfold t7_freeStrip
  rw [if_pos (n_t2 I.2), n_there_y I S G c c2, n_bs]
  clear S G I
  simp (disch := omega) only [m_w_of, n_ltT, n_ltF, n_leT, n_leF, n_eqT, n_eqF, n_bs, n_bn, ↓reduceIte, true_and, and_true, and_self, false_and, and_false, or_true, true_or, or_false, false_or, not_true_eq_false, not_false_eq_true, Bool.false_eq_true, reduceCtorEq, eq_self]
theorem n_freeStrip_n {h g : m_H} {i : Int} (I : n_I h) (S : n_Rsh h g) (G : n_gs g) (i1 : -2147483648 ≤ i) (i2 : i < 2147483648) (c : ¬ (0 ≤ i ∧ i < m_g g 127 14 ∧ m_g g 133 i = 0 ∧ m_g g 132 i ≠ 3)) : t7_freeStrip 2 i h = some (0, h) := by
  unfold t7_freeStrip
  by_cases q : 0 ≤ i ∧ i < m_g g 127 14 ∧ m_g g 133 i = 0
  · obtain ⟨⟨s1, s2, s3, s4⟩, s5, s6, s7⟩ := n_st S ⟨q.1, q.2.1⟩
    have c3 : m_g g 132 i = 3 := by
      by_cases e : m_g g 132 i = 3
      · exact e
      · exact absurd ⟨q.1, q.2.1, q.2.2, e⟩ c
    rw [if_pos (n_t2 I.2), n_there_y I S G ⟨q.1, q.2.1⟩ q.2.2, n_bs]
    clear S G I
    simp (disch := omega) only [m_w_of, n_ltT, n_ltF, n_leT, n_leF, n_eqT, n_eqF, n_bs, n_bn, ↓reduceIte, true_and, and_true, and_self, false_and, and_false, or_true, true_or, or_false, false_or, not_true_eq_false, not_false_eq_true, Bool.false_eq_true, reduceCtorEq, eq_self]
  · rw [if_pos (n_t2 I.2), n_there_n I S G i1 i2 q, n_bs]
    rfl
/-- arrays of the reference that strips lie in -/
theorem n_ar_st {h : m_H} (I : n_I h) {b : Int} (hb : b = 129 ∨ b = 128 ∨ b = 149 ∨ (130 ≤ b ∧ b ≤ 141)) : n_ar h b := by
  have e := I.2.1 b (by omega) (by omega)
  have AA : ((List.range 22).all (fun i => decide (n_kT.getD (i + 127) 0 = 20))) = true := by decide +kernel
  rw [List.all_eq_true] at AA
  have := AA (b.toNat - 128) (List.mem_range.mpr (by omega))
  rw [decide_eq_true_eq, show b.toNat - 128 + 127 = b.toNat - 1 by omega] at this
  exact Or.inl (by rw [e.1]; exact this)
/-- a call that makes strips or changes some, and no more -/
theorem n_fin2 {h ha hb : m_H} {A Tc Tf : List Int} {k : Int} (X : n_R h k) (KP : n_kp h ha A []) (KR : n_kr ha hb Tc Tf) (hA : ∀ b ∈ A, b = 2 ∨ b = 3 ∨ ∃ i, 0 ≤ i ∧ i < m_g h 127 14 ∧ b = m_g h 3 i) (hTc : ∀ b ∈ Tc, b = 128 ∨ b = 149 ∨ (130 ≤ b ∧ b ≤ 141)) (hTf : ∀ k ∈ Tf, k = 14 ∨ k = 15) (Ia : n_I ha) (Ba : n_bud ha (k + 1)) (G : n_gs hb) (S : n_Rsh ha hb) (e1 : m_g h 2 11 < m_g ha 2 11) (e2 : m_g ha 2 11 ≤ m_g h 2 11 + 10) : n_R hb (k + 1) := by
  have X' := X
  obtain ⟨I, gs, bud, x1, x2, x3, x4, x5, x6, x7⟩ := X'
  have hA1 : ∀ b ∈ A, (n_sf h b ∧ (b < 127 ∨ 312 ≤ b)) ∧ (b = 2 ∨ b = 3 ∨ m_t h b = 8) := fun b q => by
    rcases hA b q with e | e | ⟨i, i1, i2, e⟩
    · rw [e]; exact ⟨⟨n_sf2 I, by omega⟩, by omega⟩
    · rw [e]; exact ⟨⟨n_sfa I (by omega) (by rw [n_t3 I.2]; omega) (Or.inl (by rw [n_t3 I.2]; omega)), by omega⟩, by omega⟩
    · have s := n_st x3 ⟨i1, i2⟩
      rw [e]; exact ⟨⟨n_st_sf I x3 ⟨i1, i2⟩, Or.inr s.1.2.1⟩, Or.inr (Or.inr s.1.1)⟩
  have P := n_sp_of I KP KR (fun b q => (hA1 b q).1) n_no
  have e121 : ∀ j, m_g ha 121 j = m_g h 121 j := fun j => KP.2.2.1 121 (by have := I.2.2.2.2; omega) (fun q => by
    have := (hA1 121 q).2
    rw [n_t121 I.2] at this; omega) List.not_mem_nil n_no j
  have cm := fun b j (hb : b < 127 ∨ 312 ≤ b) => n_kr_comp KR hb j
  refine n_fin X KP KR (fun b q => (hA1 b q).1) (fun b q => ?_) n_no (fun b q => ?_) (fun q hq => by have := hTf q hq; omega) Ia Ba G S ((n_fr X P).2.1 List.not_mem_nil (fun q => by have := hTc _ q; omega) (fun q => by have := hTf _ q; omega)) (n_Rm_new ((cm _ _ (by omega)).trans (e121 11)) ((cm _ _ (by omega)).trans (e121 12)) (by rw [cm _ _ (by omega)]; exact e1) (by rw [cm _ _ (by omega)]; exact e2) x7)
  · rcases (hA1 b q).2 with e | e | e
    · rw [e]; left; decide
    · rw [e]; left; decide
    · exact Or.inr e
  · have := hTc b q
    exact ⟨n_ar_st Ia (by omega), by omega⟩
/-! cut -/
theorem n_cutR {g : m_H} {s p : Int} (I : n_I g) (G : n_gs g) (c : 0 ≤ s ∧ s < m_g g 127 14) (c0 : m_g g 133 s = 0) (p1 : 1 ≤ p) (p2 : p ≤ m_g g 131 s - 1) (p3 : 1 ≤ m_g g 131 s - p - m_g g 127 17) (r1 : m_g g 127 14 + 2 ≤ 100) (r2 : m_g g 127 15 + (m_g g 131 s - m_g g 127 17) ≤ 20000) : ∃ g1 g2, t11_cut 127 s p g = some (m_g g 127 14, n_us g2 s 1) ∧ n_newR g g1 1 s (-1) 0 (m_g g 134 s) (m_g g 135 s) (m_g g 136 s) p (fun j => m_g g 128 (m_g g 130 s + (0 + j))) ∧ n_newR g1 g2 1 s (-1) (p + m_g g 127 17) (m_g g1 134 s) (m_g g1 135 s) (m_g g1 136 s) (m_g g 131 s - p - m_g g 127 17) (fun j => m_g g 128 (m_g g 130 s + (p + m_g g 127 17 + j))) ∧ n_gs g1 ∧ n_gs g2 := by
  have B := G.1
  unfold n_shB at B
  have b := G.2.1 s c.1 c.2
  unfold n_strB at b
  obtain ⟨ga, ea, NA⟩ := n_comes (kd := 1) (one := s) (oth := -1) (bg := 0) I B.1 (by omega) (by omega) (by omega) (fun j => m_g g 128 (m_g g 130 s + (0 + j)))
  rw [if_neg (by omega), if_neg (by omega), if_neg (by omega)] at NA
  obtain ⟨g1, eb, N1⟩ := n_itR (fun i g' => t11_cut_c76 127 s p (m_g g 127 14) i g') (fun i g' => n_newR g g' 1 s (-1) 0 (m_g g 134 s) (m_g g 135 s) (m_g g 136 s) i (fun j => m_g g 128 (m_g g 130 s + (0 + j)))) 0 p (by omega) (fun i g' i1 i2 N => by
    have J := n_newR_I I N
    have e3 := n_at3 (x := i) I G N c i1 (by omega)
    obtain ⟨g2, e2, N2⟩ := n_adds (v := m_g g 128 (m_g g 130 s + i)) I N B.1 (by omega) i1 (by omega) B.2.2.1 (by omega) (by show _ = m_g g 128 (m_g g 130 s + (0 + i)); congr 1; omega)
    refine ⟨g2, ?_, N2⟩
    show t11_cut_c76 127 s p (m_g g 127 14) i g' = t11_cut_c76 127 s p (m_g g 127 14) (i + 1) g2
    rw [t11_cut_c76, m_w_of (by omega) (by omega), m_w_of (by omega) (by omega), if_pos i2, if_pos (n_t127 J.2), e3, n_bs]
    show (if m_t g' 127 = 11 then t11_adds 127 (m_g g 127 14) (m_g g 128 (m_g g 130 s + i)) g' >>= _ else none) = _
    rw [if_pos (n_t127 J.2), e2, n_bs]) ga NA
  have I1 := n_newR_I I N1
  have G1 := n_add_gs G N1 (by omega) (by omega) (by omega) (by omega) (by omega) (by omega) (by omega) (by omega) (by omega) (by omega) (by omega) (fun j j1 j2 => G.2.2.2.1 _ (by omega) (by omega))
  have B1 := G1.1
  unfold n_shB at B1
  have k14 : m_g g1 127 14 = m_g g 127 14 + 1 := N1.2.2.1.1
  have k15 : m_g g1 127 15 = m_g g 127 15 + p := N1.2.2.1.2
  have k17 : m_g g1 127 17 = m_g g 127 17 := N1.2.1 127 17 (by omega) (by omega) (by omega) (by omega)
  have k131 : m_g g1 131 s = m_g g 131 s := N1.2.1 131 s (by omega) (by omega) (by omega) (by omega)
  have k130 : m_g g1 130 s = m_g g 130 s := N1.2.1 130 s (by omega) (by omega) (by omega) (by omega)
  have k128 : ∀ x, 0 ≤ x → x < m_g g 131 s → m_g g1 128 (m_g g 130 s + x) = m_g g 128 (m_g g 130 s + x) := fun x x1 x2 => N1.2.1 128 _ (by omega) (by omega) (by omega) (by omega)
  obtain ⟨gc, ec, NC⟩ := n_comes (kd := 1) (one := s) (oth := -1) (bg := p + m_g g 127 17) I1 B1.1 (by omega) (by omega) (by omega) (fun j => m_g g 128 (m_g g 130 s + (p + m_g g 127 17 + j)))
  rw [if_neg (by omega), if_neg (by omega), if_neg (by omega)] at NC
  obtain ⟨g2, ed, N2⟩ := n_itR (fun i g' => t11_cut_c123 127 s (m_g g 127 14) (m_g g1 127 14) (p + m_g g 127 17 + i) g') (fun i g' => n_newR g1 g' 1 s (-1) (p + m_g g 127 17) (m_g g1 134 s) (m_g g1 135 s) (m_g g1 136 s) i (fun j => m_g g 128 (m_g g 130 s + (p + m_g g 127 17 + j)))) 0 (m_g g 131 s - p - m_g g 127 17) (by omega) (fun i g' i1 i2 N => by
    have J := n_newR_I I1 N
    have e3 := n_at3 (s := s) (x := p + m_g g 127 17 + i) I1 G1 N ⟨c.1, by omega⟩ (by omega) (by omega)
    rw [k130, k128 _ (by omega) (by omega)] at e3
    obtain ⟨g3, e2, N3⟩ := n_adds (v := m_g g 128 (m_g g 130 s + (p + m_g g 127 17 + i))) I1 N B1.1 (by omega) i1 (by omega) B1.2.2.1 (by omega) rfl
    refine ⟨g3, ?_, N3⟩
    have q131 : m_g g' 131 s = m_g g 131 s := by rw [N.2.1 131 s (by omega) (by omega) (by omega) (by omega), k131]
    have l3 := n_l131 J.2
    show t11_cut_c123 127 s (m_g g 127 14) (m_g g1 127 14) (p + m_g g 127 17 + i) g' = t11_cut_c123 127 s (m_g g 127 14) (m_g g1 127 14) (p + m_g g 127 17 + (i + 1)) g3
    rw [t11_cut_c123, if_pos (n_t127 J.2), n_p127_3 J.2, m_w_of (x := s) (by omega) (by omega), if_pos ⟨n_t131 J.2, by omega, by omega⟩, q131, m_w_of (by omega) (by omega), m_w_of (by omega) (by omega), if_pos (by omega), e3, n_bs]
    show (if m_t g' 127 = 11 then t11_adds 127 (m_g g1 127 14) (m_g g 128 (m_g g 130 s + (p + m_g g 127 17 + i))) g' >>= _ else none) = _
    rw [if_pos (n_t127 J.2), e2, n_bs, show p + m_g g 127 17 + (i + 1) = p + m_g g 127 17 + i + 1 by omega]) gc NC
  have I2 := n_newR_I I1 N2
  have G2 := n_add_gs G1 N2 (by omega) (by omega) (by omega) (by omega) (by omega) (by have := G1.2.1 s c.1 (by omega); unfold n_strB at this; omega) (by have := G1.2.1 s c.1 (by omega); unfold n_strB at this; omega) (by have := G1.2.1 s c.1 (by omega); unfold n_strB at this; omega) (by omega) (by omega) (by omega) (fun j j1 j2 => G.2.2.2.1 _ (by omega) (by omega))
  refine ⟨g1, g2, ?_, N1, N2, G1, G2⟩
  have eT := n_isThere I G (i := s) (by omega) (by omega)
  rw [decide_eq_true ⟨c.1, c.2, c0⟩] at eT
  have ei := n_in (a := p) (b := 1) (c := m_g g 131 s - 1) (h := g) (by omega) (by omega) (by omega) (by omega) (by omega) (by omega)
  rw [decide_eq_true ⟨p1, p2⟩] at ei
  have er := n_isRoom (a := 2) (b := m_g g 131 s - m_g g 127 17) I G (by omega) (by omega) (by omega) (by omega)
  rw [decide_eq_true ⟨r1, r2⟩] at er
  have l3 := n_l131 I.2
  have ga17 : m_g g1 127 17 = m_g g 127 17 := k17
  have gc17 : m_g gc 127 17 = m_g g 127 17 := by rw [NC.2.1 127 17 (by omega) (by omega) (by omega) (by omega), k17]
  have Jc := n_newR_I I1 NC
  unfold t11_cut
  rw [if_pos (n_t127 I.2), eT, n_bs]
  show (if true = true then if m_t g 127 = 11 then if m_t g (m_g g 127 3) = 20 ∧ 0 ≤ m_w s ∧ m_w s < m_l g (m_g g 127 3) then t11_in (m_w p) 1 (m_w (m_g g (m_g g 127 3) (m_w s) - 1)) g >>= _ else none else none else _) = _
  rw [if_pos rfl, if_pos (n_t127 I.2), n_p127_3 I.2, m_w_of (x := s) (by omega) (by omega), if_pos ⟨n_t131 I.2, by omega, by omega⟩, m_w_of (by omega) (by omega), m_w_of (by omega) (by omega), ei, n_bs]
  show (if true = true then if m_t g 127 = 11 then if m_t g (m_g g 127 3) = 20 ∧ 0 ≤ s ∧ s < m_l g (m_g g 127 3) then if m_w (m_g g (m_g g 127 3) s - p - m_g g 127 17) < 1 then _ else t11_isRoom 127 2 (m_g g (m_g g 127 3) s - m_g g 127 17) g >>= _ else none else none else _) = _
  rw [if_pos rfl, if_pos (n_t127 I.2), n_p127_3 I.2, if_pos ⟨n_t131 I.2, by omega, by omega⟩, m_w_of (by omega) (by omega), if_neg (by omega), er, n_bs]
  show (if true = true then if m_t g 127 = 11 then t11_comes 127 1 s (-1) 0 g >>= _ else none else _) = _
  rw [if_pos rfl, if_pos (n_t127 I.2), ea, n_bs]
  refine eb.trans ?_
  show t11_cut_c76 127 s p (m_g g 127 14) p g1 = _
  rw [t11_cut_c76, m_w_of (by omega) (by omega), if_neg (by omega), if_pos (n_t127 I1.2), k17, ec, n_bs]
  show (if m_t gc 127 = 11 then some (p + m_g gc 127 17) >>= _ else none) = _
  rw [if_pos (n_t127 Jc.2), gc17, n_bs]
  have ed' : t11_cut_c123 127 s (m_g g 127 14) (m_g g1 127 14) (p + m_g g 127 17) gc = t11_cut_c123 127 s (m_g g 127 14) (m_g g1 127 14) (p + m_g g 127 17 + (m_g g 131 s - p - m_g g 127 17)) g2 := by
    have := ed
    simp only [Int.add_zero] at this
    exact this
  refine ed'.trans ?_
  have q131 : m_g g2 131 s = m_g g 131 s := by rw [N2.2.1 131 s (by omega) (by omega) (by omega) (by omega), k131]
  have l4 := n_l131 I2.2
  have k14' : m_g g2 127 14 = m_g g1 127 14 + 1 := N2.2.2.1.1
  rw [t11_cut_c123, if_pos (n_t127 I2.2), n_p127_3 I2.2, m_w_of (x := s) (by omega) (by omega), if_pos ⟨n_t131 I2.2, by omega, by omega⟩, q131, m_w_of (by omega) (by omega), m_w_of (by omega) (by omega), if_neg (by omega), n_uses (st := 1) I2 G2 (by omega), n_bs]
