/-! CALLS: fails -/
/-- what an order is made of is the same -/
def n_lk (g g' : m_H) : Prop := (∀ b j, (128 ≤ b ∧ b ≤ 148) ∨ (151 ≤ b ∧ b ≤ 231) → m_g g' b j = m_g g b j) ∧ m_g g' 127 14 = m_g g 127 14 ∧ m_g g' 127 23 = m_g g 127 23 ∧ m_g g' 127 27 = m_g g 127 27
theorem n_lk_of {g g' : m_H} (e : ∀ b j, 127 ≤ b → b < 312 → m_g g' b j = m_g g b j) : n_lk g g' := ⟨fun b j hb => e b j (by omega) (by omega), e 127 14 (by omega) (by omega), e 127 23 (by omega) (by omega), e 127 27 (by omega) (by omega)⟩
theorem n_lk_sOf {g g' : m_H} (K : n_lk g g') {k : Int} (k0 : 0 ≤ k) (k1 : k < 8) (o d : Int) : n_sOf g' k o d = n_sOf g k o d := n_sOf_S (fun b j hb => K.1 b j (by omega)) K.2.1 K.2.2.2 k0 k1 o d
theorem n_lk_L0 {g g' : m_H} (K : n_lk g g') {k : Int} (k0 : 0 ≤ k) (k1 : k < 8) (d : Int) (L : Int → Int) (o : Int) : n_rL g' k d L o = n_rL g k d L o := by
  unfold n_rL
  rw [n_lk_sOf K k0 k1, K.1 (153 + k) o (by omega), K.1 (163 + k) o (by omega), K.1 (173 + k) o (by omega), K.1 (183 + k) o (by omega), K.1 (193 + k) o (by omega), K.1 131 _ (by omega), K.1 142 _ (by omega)]
theorem n_lk_smp {g g' : m_H} (K : n_lk g g') (s j : Int) : n_smp g' s j = n_smp g s j := by
  unfold n_smp
  rw [K.1 130 s (by omega), K.1 128 _ (by omega)]
theorem n_lk_S0 {g g' : m_H} (K : n_lk g g') {k : Int} (k0 : 0 ≤ k) (k1 : k < 8) (d : Int) (L : Int → Int) (S : Int → Int → Int) (o : Int) : n_rS g' k d L S o = n_rS g k d L S o := by
  funext i
  unfold n_rS
  rw [n_lk_sOf K k0 k1, n_lk_smp K, K.1 (153 + k) o (by omega), K.1 (163 + k) o (by omega), K.1 (173 + k) o (by omega), K.1 (183 + k) o (by omega), K.1 (193 + k) o (by omega), K.1 (203 + k) o (by omega), K.1 142 _ (by omega), K.1 143 _ (by omega)]
theorem n_lk_pL {g g' : m_H} (K : n_lk g g') {k : Int} (k0 : 0 ≤ k) (k1 : k < 8) (d : Int) : ∀ n : Nat, n_pL g' k d n = n_pL g k d n
  | 0 => rfl
  | n + 1 => by
    funext j
    rw [n_pL_s, n_pL_s, n_lk_pL K k0 k1 d n, n_lk_L0 K k0 k1]
theorem n_lk_pS {g g' : m_H} (K : n_lk g g') {k : Int} (k0 : 0 ≤ k) (k1 : k < 8) (d : Int) : ∀ n : Nat, n_pS g' k d n = n_pS g k d n
  | 0 => rfl
  | n + 1 => by
    funext j
    rw [n_pS_s, n_pS_s, n_lk_pS K k0 k1 d n, n_lk_pL K k0 k1, n_lk_S0 K k0 k1]
theorem n_lk_L {g g' : m_H} (K : n_lk g g') {k : Int} (k0 : 0 ≤ k) (k1 : k < 8) (d : Int) : n_L g' k d = n_L g k d := by
  funext o
  unfold n_L
  rw [n_lk_pL K k0 k1]
theorem n_lk_S {g g' : m_H} (K : n_lk g g') {k : Int} (k0 : 0 ≤ k) (k1 : k < 8) (d : Int) : n_S g' k d = n_S g k d := by
  funext o
  unfold n_S
  rw [n_lk_pS K k0 k1]
theorem n_lk_rK {g g' : m_H} (K : n_lk g g') {k : Int} (k0 : 0 ≤ k) (k1 : k < 8) (d : Int) (L : Int → Int) (o : Int) : n_rK g' k d L o = n_rK g k d L o := by
  unfold n_rK
  rw [n_lk_sOf K k0 k1, n_lk_L0 K k0 k1, K.1 (153 + k) o (by omega), K.1 (163 + k) o (by omega), K.1 (173 + k) o (by omega), K.1 (183 + k) o (by omega), K.1 (193 + k) o (by omega), K.1 (213 + k) o (by omega), K.1 (223 + k) o (by omega), K.2.2.1]
theorem n_lk_st {g g' : m_H} (K : n_lk g g') {k : Int} (k0 : 0 ≤ k) (k1 : k < 8) {d n : Int} : n_stD g' k d n ↔ n_stD g k d n := by
  unfold n_stD
  simp only [n_lk_L K k0 k1, n_lk_rK K k0 k1]
theorem n_lk_ff {g g' : m_H} (K : n_lk g g') {k : Int} (k0 : 0 ≤ k) (k1 : k < 8) {d r : Int} (A : n_ff g' k d r) : n_ff g k d r := by
  unfold n_ff at *
  simp only [n_lk_st K k0 k1, n_lk_L K k0 k1, n_lk_rK K k0 k1, K.1 151 k (by omega)] at A
  exact A
theorem n_isPastC {h : m_H} (I : n_I h) (S : n_Rsh h h) {d : Int} (d1 : -2147483648 ≤ d) (d2 : d < 2147483648) (G : n_gs h) : t10_isPast 1 d h = some (decide (0 ≤ d ∧ d ≤ m_g h 127 18), h) := by
  have e : m_g h 2 3 = m_g h 127 18 := S.1.2.2.1
  have B := G.1
  unfold n_shB at B
  unfold t10_isPast
  rw [m_w_of d1 d2, n_p1_0 I.2, e, m_w_of (x := m_g h 127 18) (by omega) (by omega)]
  by_cases c : d < 0
  · rw [if_pos c, decide_eq_false (by omega)]
  · rw [if_neg c, if_pos (n_t1 I.2), if_pos (n_t2 I.2)]
    by_cases c2 : m_g h 127 18 < d
    · rw [if_pos c2, decide_eq_false (by omega)]
    · rw [if_neg c2, decide_eq_true (by omega)]
theorem n_canMake {h : m_H} (I : n_I h) (G : n_gs h) (s2 : 0 ≤ m_g h 127 43) (s3 : m_g h 127 43 ≤ 8) {s d : Int} (i1 : -2147483648 ≤ s) (i2 : s < 2147483648) (d1 : -2147483648 ≤ d) (d2 : d < 2147483648) : t11_canMake 127 s d h = some (decide ((0 ≤ s ∧ s < m_g h 127 43) ∧ 0 ≤ d ∧ d ≤ m_g h 127 18), h) := by
  have eS := n_isScore (s := s) I s2 s3
  rw [m_w_of i1 i2] at eS
  have B := G.1
  unfold n_shB at B
  unfold t11_canMake
  rw [if_pos (n_t127 I.2), eS, n_bs]
  by_cases c : 0 ≤ s ∧ s < m_g h 127 43
  · rw [decide_eq_true c]
    dsimp only
    rw [if_pos rfl, if_pos (n_t127 I.2), m_w_of d1 d2, m_w_of (x := m_g h 127 18) (by omega) (by omega), n_in (by omega) (by omega) (by omega) (by omega) (by omega) (by omega), n_bs]
    by_cases c2 : 0 ≤ d ∧ d ≤ m_g h 127 18
    · rw [decide_eq_true c2, decide_eq_true ⟨c, c2⟩]
      rfl
    · rw [decide_eq_false c2, decide_eq_false (fun q => c2 q.2)]
      rfl
  · rw [decide_eq_false c, decide_eq_false (fun q => c q.1)]
    rfl
/-- both sides play the score -/
theorem n_plays {h : m_H} {k s d : Int} (X : n_R h k) (c : 0 ≤ s ∧ s < m_g h 127 43) (d1 : -2147483648 ≤ d) (d2 : d < 2147483648) : ∃ z hh g', t3_firstFailing 20 (m_g h 19 s) d h = some (z, hh) ∧ t11_makes_ 127 s d hh = some (z, g') ∧ n_cF h hh k ∧ n_rF hh g' ∧ n_ff h s d z ∧ (z = -1 → n_cP h hh s d (m_g h 151 s) (m_g h 151 s) ∧ n_rR hh g' s d (m_g hh 151 s) (m_g hh 151 s) ∧ n_rY hh g' s d (m_g hh 151 s) 0) ∧ n_R hh (k + 1) ∧ n_R g' (k + 1) ∧ ∀ b j, 127 ≤ b → b < 312 → m_g hh b j = m_g h b j := by
  have X' := X
  obtain ⟨I, gs, bud, x1, x2, x3, x4, x5, x6, x7⟩ := X'
  have C := n_scc_of x5 c.1 c.2
  have s3 := x5.2.2.1
  obtain ⟨z, hh, e1, F, f, P⟩ := n_failC X C d1 d2
  have SP := n_cF_P X F
  have ref : ∀ b j, 127 ≤ b → b < 312 → m_g hh b j = m_g h b j := fun b j h1 h2 => SP.2.2.1 b h1 h2 (by simp) j (by simp)
  have B1 : n_bud hh (k + 1) := n_bud_more F.2.2
  have R1 : n_R hh (k + 1) := n_finS X SP F.1 B1 (by decide) n_prows_R rfl rfl
  have x5' := R1.2.2.2.2.2.2.2.1
  have e43 : m_g hh 127 43 = m_g h 127 43 := ref 127 43 (by omega) (by omega)
  have C' := n_scc_of x5' c.1 (by rw [e43]; exact c.2)
  obtain ⟨z2, g', e2, F2, f2, P2⟩ := n_makesR R1.1 R1.2.1 C' d1 d2
  have KR := n_rF_kr F2
  have ez : z2 = z := n_ff_u (n_lk_ff (n_lk_of ref) c.1 (by omega) f2) f
  subst ez
  have PP : n_sp h g' [24] n_prows n_rTc [58, 59] := n_sp_of I F.2.1 KR SP.2.2.2.1 SP.2.2.2.2.1
  have B2 : n_bud g' (k + 1) := n_bud_same F.1 F2.2.1 (fun r hr => n_kr_comp KR (n_ref_row F.1 hr).1 0) B1
  exact ⟨z2, hh, g', e1, e2, F, F2, f, fun q => ⟨P q, P2 q⟩, R1, n_finS X PP F2.1 B2 (by decide) n_prows_R n_rTc_T (by decide), ref⟩
theorem n_s_fails {h : m_H} {k : Int} (X : n_R h k) (s d : Int) (i1 : -2147483648 ≤ s) (i2 : s < 2147483648) (d1 : -2147483648 ≤ d) (d2 : d < 2147483648) : n_step h k (t10_fails 1 s d) (t11_fails_ 127 s d) := by
  have X' := X
  obtain ⟨I, gs, bud, x1, x2, x3, x4, x5, x6, x7⟩ := X'
  have s2 := x5.2.1
  have s3 := x5.2.2.1
  have eC := n_canMake I gs s2 s3 i1 i2 d1 d2
  unfold n_step t10_fails t11_fails_
  by_cases c : 0 ≤ s ∧ s < m_g h 127 43
  · have C := n_scc_of x5 c.1 c.2
    have a0 := C.1.1.2.1
    by_cases c2 : 0 ≤ d ∧ d ≤ m_g h 127 18
    · obtain ⟨z, hh, g', e1, e2, -, -, -, -, R1, R2, ref⟩ := n_plays X c d1 d2
      have J := R1.1
      have eC2 := n_canMake (h := hh) R1.1 R1.2.1 (by rw [ref 127 43 (by omega) (by omega)]; exact s2) (by rw [ref 127 43 (by omega) (by omega)]; exact s3) i1 i2 d1 d2
      rw [ref 127 43 (by omega) (by omega), ref 127 18 (by omega) (by omega), decide_eq_true ⟨c, c2⟩] at eC2
      refine ⟨z, hh, z, g', ?_, ?_, rfl, R2⟩
      · rw [if_pos (n_t1 I.2), n_scoreOf_y I x5 c, n_bs]
        dsimp only
        rw [if_neg (by omega), if_pos (n_t1 I.2), n_isPastC I x3 d1 d2 gs, n_bs, decide_eq_true c2]
        dsimp only
        rw [if_pos rfl, if_pos (n_t1 I.2), n_p1_5 I.2, if_pos (n_t20 I.2), e1, n_bs]
      · rw [if_pos (n_t127 J.2), eC2, n_bs]
        dsimp only
        rw [if_pos rfl, if_pos (n_t127 J.2), e2, n_bs]
    · rw [decide_eq_false (fun q => c2 q.2)] at eC
      refine ⟨-1, h, -1, h, ?_, ?_, rfl, n_R_more X⟩
      · rw [if_pos (n_t1 I.2), n_scoreOf_y I x5 c, n_bs]
        dsimp only
        rw [if_neg (by omega), if_pos (n_t1 I.2), n_isPastC I x3 d1 d2 gs, n_bs, decide_eq_false c2]
        rfl
      · rw [if_pos (n_t127 I.2), eC, n_bs]
        rfl
  · rw [decide_eq_false (fun q => c q.1)] at eC
    refine ⟨-1, h, -1, h, ?_, ?_, rfl, n_R_more X⟩
    · rw [if_pos (n_t1 I.2), n_scoreOf_n I x5 i1 i2 c, n_bs]
      rfl
    · rw [if_pos (n_t127 I.2), eC, n_bs]
      rfl
