/-! CALLS: open -/
def n_op (p : Int → Bool) : Nat → Int → Bool
  | 0, _ => false
  | m + 1, o => if p o = true then true else n_op p m (o + 1)
/-- a mark leads elsewhere than when the score was made -/
def n_opP (g : m_H) (k d o : Int) : Bool := decide (m_g g (153 + k) o = 1 ∧ n_sOf g k o d ≠ m_g g (294 + k) o)
theorem n_opC {g hh : m_H} {k a d : Int} (I : n_I hh) (C : n_scc hh hh k a) (B : n_shB g) (md : m_g hh 292 k = 1) (e : ∀ b j, 151 ≤ b → b < 312 → m_g hh b j = m_g g b j) (D : ∀ o, 0 ≤ o → o < m_g g 151 k → m_g hh 24 o = n_sOf g k o d) : ∀ (m : Nat) (o : Int), 0 ≤ o → m_g g 151 k = o + m → t3_leadsOtherwise_c2 20 a o hh = some (n_op (n_opP g k d) m o, hh) := by
  have C3 := C.2.2.1
  have k0 := C.2.1.1
  have k8 := C.2.1.2
  have t6 := n_scc_t C
  have eN : m_g hh a 1 = m_g g 151 k := C.1.2.1.trans (e 151 k (by omega) (by omega))
  have eN2 := e 151 k (by omega) (by omega)
  have W := I.1.2.2.2.2 a t6
  have head : ∀ o, 0 ≤ o → o ≤ m_g g 151 k → t3_leadsOtherwise_c2 20 a o hh = if o < m_g g 151 k then (if n_opP g k d o = true then some (true, hh) else t3_leadsOtherwise_c2 20 a (o + 1) hh) else some (false, hh) := fun o o0 o1 => by
    rw [t3_leadsOtherwise_c2, if_pos t6, eN, m_w_of (x := o) (by omega) (by omega), m_w_of (x := m_g g 151 k) (by omega) (by omega)]
    by_cases c : o < m_g g 151 k
    · have b := n_scc_b C o0 (by omega)
      have bv := b.1
      have bv2 := b.2.1
      have lm := (C.1.2.2.2.2.2 md o o0 (by omega))
      have so := n_sOf_b (g := g) (k := k) (o := o) (d := d) (by unfold n_shB at B; omega)
      have l24 := n_l24 I.2
      unfold n_shB at B
      rw [if_pos c, if_pos c, n_verbC I C o0 (by omega), n_bs]
      dsimp only
      rw [e (153 + k) o (by omega) (by omega)] at bv bv2 ⊢
      rw [m_w_of (x := m_g g (153 + k) o) (by omega) (by omega)]
      unfold n_opP
      by_cases c2 : m_g g (153 + k) o = 1
      · rw [if_pos c2, if_pos (n_t20 I.2), n_p20_3 I.2, n_entry_y (n_t24 I.2) (by omega) o0 (by omega), n_bs]
        dsimp only
        rw [if_pos t6, n_entry_y W.2.1 (by omega) o0 (by omega), n_bs]
        dsimp only
        rw [D o o0 c, lm.1, e (294 + k) o (by omega) (by omega)]
        rw [e (294 + k) o (by omega) (by omega)] at lm
        rw [m_w_of (x := n_sOf g k o d) (by omega) (by omega), m_w_of (x := m_g g (294 + k) o) (by omega) (by omega)]
        by_cases c3 : n_sOf g k o d = m_g g (294 + k) o
        · rw [if_pos c3, if_neg (by rw [decide_eq_true_eq]; exact fun q => q.2 c3)]
        · rw [if_neg c3, if_pos (decide_eq_true ⟨c2, c3⟩)]
      · rw [if_neg c2, if_neg (by rw [decide_eq_true_eq]; exact fun q => c2 q.1)]
    · rw [if_neg c, if_neg c]
  intro m
  induction m with
  | zero =>
    intro o o0 em
    rw [head o o0 (by omega), if_neg (by omega)]
    rfl
  | succ m ih =>
    intro o o0 em
    rw [head o o0 (by omega), if_pos (by omega), ih (o + 1) (by omega) (by omega), n_op]
    split <;> rfl
theorem n_294_all : ((List.range 8).all fun k => decide (n_kT.getD (293 + k) 0 = 20) && decide (n_kL.getD (293 + k) 0 = 40)) = true := by decide +kernel
theorem n_294 {h : m_H} (F : n_fx h) {k : Int} (k0 : 0 ≤ k) (k1 : k < 8) : m_t h (294 + k) = 20 ∧ m_l h (294 + k) = 40 := by
  have A := n_294_all
  rw [List.all_eq_true] at A
  have q := A k.toNat (List.mem_range.mpr (by omega))
  rw [Bool.and_eq_true, decide_eq_true_eq, decide_eq_true_eq] at q
  have e := F.1 (294 + k) (by omega) (by omega)
  rw [show (294 + k).toNat - 1 = 293 + k.toNat by omega] at e
  rw [e.1, e.2]
  exact q
theorem n_c71 {h : m_H} (F : n_fx h) {k : Int} (k0 : 0 ≤ k) (k1 : k < 8) : m_t h (m_g h 127 71) = 29 ∧ 0 ≤ k ∧ k < m_l h (m_g h 127 71) := by rw [n_p127_71 F, n_t293 F, n_l293 F]; exact ⟨rfl, k0, k1⟩
theorem n_a71 {h : m_H} (F : n_fx h) {k : Int} (k0 : 0 ≤ k) (k1 : k < 8) : m_g h (m_g h 127 71) k = 294 + k := by rw [n_p127_71 F, n_f293 F k0 k1]; omega
theorem n_d71 {h : m_H} (F : n_fx h) {k o : Int} (k0 : 0 ≤ k) (k1 : k < 8) (o0 : 0 ≤ o) (o1 : o < 40) : m_t h (294 + k) = 20 ∧ 0 ≤ o ∧ o < m_l h (294 + k) := by
  have e := n_294 F k0 k1
  rw [e.1, e.2]
  exact ⟨rfl, o0, o1⟩
theorem n_c34 {h : m_H} (F : n_fx h) {k : Int} (k0 : 0 ≤ k) (k1 : k < 9) : m_t h (m_g h 127 34) = 20 ∧ 0 ≤ k ∧ k < m_l h (m_g h 127 34) := by rw [n_p127_34 F, n_t151 F, n_l151 F]; exact ⟨rfl, k0, k1⟩
theorem n_c70 {h : m_H} (F : n_fx h) {k : Int} (k0 : 0 ≤ k) (k1 : k < 8) : m_t h (m_g h 127 70) = 23 ∧ 0 ≤ k ∧ k < m_l h (m_g h 127 70) := by rw [n_p127_70 F, n_t292 F, n_l292 F]; exact ⟨rfl, k0, k1⟩
theorem n_opR {g gg : m_H} {k d : Int} (I : n_I gg) (k0 : 0 ≤ k) (k8 : k < 8) (cN : 0 ≤ m_g g 151 k ∧ m_g g 151 k ≤ 40) (b : ∀ o, 0 ≤ o → o < m_g g 151 k → n_ordB g k o) (B : n_shB g) (lm : ∀ o, 0 ≤ o → o < m_g g 151 k → -1 ≤ m_g g (294 + k) o ∧ m_g g (294 + k) o < 100) (e : ∀ b j, (151 ≤ b ∧ b < 238) ∨ (285 ≤ b ∧ b < 312) → m_g gg b j = m_g g b j) (D : ∀ o, 0 ≤ o → o < m_g g 151 k → m_g gg 279 o = n_sOf g k o d) : ∀ (m : Nat) (o : Int), 0 ≤ o → m_g g 151 k = o + m → t11_open_c36 127 k o gg = some (if n_op (n_opP g k d) m o = true then 1 else 0, gg) := by
  have F := I.2
  have head : ∀ o, 0 ≤ o → o ≤ m_g g 151 k → t11_open_c36 127 k o gg = if o < m_g g 151 k then (if n_opP g k d o = true then some (1, gg) else t11_open_c36 127 k (o + 1) gg) else some (0, gg) := fun o o0 o1 => by
    rw [t11_open_c36, if_pos (n_t127 F), m_w_of (x := k) (by omega) (by omega), if_pos (n_c34 F k0 (by omega)), n_p127_34 F, e 151 k (by omega), m_w_of (x := o) (by omega) (by omega), m_w_of (x := m_g g 151 k) (by omega) (by omega)]
    by_cases c : o < m_g g 151 k
    · have b := b o o0 (by omega)
      have bv := b.1
      have bv2 := b.2.1
      have lm := lm o o0 c
      have so := n_sOf_b (g := g) (k := k) (o := o) (d := d) (by unfold n_shB at B; omega)
      unfold n_shB at B
      rw [if_pos c, if_pos c, if_pos (n_c35 F k0 (by omega)), n_a35 F k0 (by omega), if_pos (n_d35 F k0 (by omega) o0 (by omega)), e (153 + k) o (by omega), m_w_of (x := m_g g (153 + k) o) (by omega) (by omega)]
      unfold n_opP
      by_cases c2 : m_g g (153 + k) o = 1
      · rw [if_pos c2, if_pos (n_c52 F o0 (by omega)), if_pos (n_c71 F k0 k8), n_a71 F k0 k8, if_pos (n_d71 F k0 k8 o0 (by omega)), n_p127_52 F, D o o0 c, e (294 + k) o (by omega), m_w_of (x := n_sOf g k o d) (by omega) (by omega), m_w_of (x := m_g g (294 + k) o) (by omega) (by omega)]
        by_cases c3 : n_sOf g k o d = m_g g (294 + k) o
        · rw [if_pos c3, if_neg (by rw [decide_eq_true_eq]; exact fun q => q.2 c3)]
        · rw [if_neg c3, if_pos (decide_eq_true ⟨c2, c3⟩)]
      · rw [if_neg c2, if_neg (by rw [decide_eq_true_eq]; exact fun q => c2 q.1)]
    · rw [if_neg c, if_neg c]
  intro m
  induction m with
  | zero =>
    intro o o0 em
    rw [head o o0 (by omega), if_neg (by omega)]
    rfl
  | succ m ih =>
    intro o o0 em
    rw [head o o0 (by omega), if_pos (by omega), ih (o + 1) (by omega) (by omega), n_op]
    split <;> rfl
theorem n_s_open {h : m_H} {k : Int} (X : n_R h k) (s : Int) (i1 : -2147483648 ≤ s) (i2 : s < 2147483648) : n_step h k (t10_open 1 s) (t11_open 127 s) := by
  have X' := X
  obtain ⟨I, gs, bud, x1, x2, x3, x4, x5, x6, x7⟩ := X'
  have s2 := x5.2.1
  have s3 := x5.2.2.1
  have B := gs.1
  have B' := B
  unfold n_shB at B'
  unfold n_step
  by_cases c : 0 ≤ s ∧ s < m_g h 127 43
  · have C := n_scc_of x5 c.1 c.2
    have a0 := C.1.1.2.1
    have md := x5.2.2.2.1 s c.1 c.2
    have e2 : m_g h (m_g h 19 s) 2 = m_g h 292 s := C.1.2.2.2.1
    by_cases c2 : m_g h 292 s = 0
    · have eS := n_isScore (s := s) I s2 s3
      rw [m_w_of i1 i2, decide_eq_true c] at eS
      refine ⟨-1, h, -1, h, ?_, ?_, rfl, n_R_more X⟩
      · unfold t10_open
        rw [if_pos (n_t1 I.2), n_scoreOf_y I x5 c, n_bs]
        dsimp only
        rw [if_neg (by omega), if_pos (n_scc_t C), e2, c2, m_w_of (by omega) (by omega), if_pos rfl]
      · unfold t11_open
        rw [if_pos (n_t127 I.2), eS, n_bs]
        dsimp only
        rw [if_pos rfl, if_pos (n_t127 I.2), m_w_of i1 i2, if_pos (n_c70 I.2 c.1 (by omega)), n_p127_70 I.2, c2, m_w_of (x := 0) (by omega) (by omega), if_pos rfl]
    · have e3 : m_g h 2 3 = m_g h 127 18 := x3.1.2.2.1
      obtain ⟨z, hh, g', f1, f2, F1, F2, f, PP, R1, R2, ref⟩ := n_plays (d := m_g h 127 18) X c (by omega) (by omega)
      have J := R1.1
      have x5' := R1.2.2.2.2.2.2.2.1
      have eS := n_isScore (s := s) J (by rw [ref 127 43 (by omega) (by omega)]; exact s2) (by rw [ref 127 43 (by omega) (by omega)]; exact s3)
      rw [m_w_of i1 i2, ref 127 43 (by omega) (by omega), decide_eq_true c] at eS
      have C2 := n_cF_C X F1 C
      have e292 := ref 292 s (by omega) (by omega)
      have e151 := ref 151 s (by omega) (by omega)
      have e18 := ref 127 18 (by omega) (by omega)
      have C2' : n_scc hh hh s (m_g h 19 s) := by
        have P := n_cF_P X F1
        have q := n_scc_of x5' c.1 (by rw [ref 127 43 (by omega) (by omega)]; exact c.2)
        have : m_g hh 19 s = m_g h 19 s := P.2.1 19 (by have := I.1.2.1; omega) (by omega) (by simp) (by decide) (fun r hr => by
          have T := n_prows_t I.2 hr
          have := n_sfa I (a := 19) (by omega) (by rw [n_t19 I.2]; omega) (Or.inr (by rw [n_l19 I.2]; omega))
          exact fun z => this.2.2 r T z.symm) s
        rw [← this]
        exact q
      have hz : -2147483648 ≤ z ∧ z < 2147483648 := by
        have := C.2.2.1
        unfold n_ff at f
        omega
      have compH : ∀ r, (z = -1 → t3_leadsOtherwise 20 (m_g h 19 s) hh = some (r, hh)) → (z ≠ -1 → r = true) → t10_open 1 s h = some (if r = true then 1 else 0, hh) := fun r hr hr2 => by
        unfold t10_open
        rw [if_pos (n_t1 I.2), n_scoreOf_y I x5 c, n_bs]
        dsimp only
        rw [if_neg (by omega), if_pos (n_scc_t C), e2, m_w_of (x := m_g h 292 s) (by omega) (by omega), if_neg c2, if_pos (n_t1 I.2), n_p1_0 I.2, n_p1_5 I.2, if_pos (n_t2 I.2), if_pos (n_t20 I.2), e3, f1, n_bs]
        dsimp only
        rw [m_w_of (x := z) (by omega) (by omega)]
        by_cases q : z = -1
        · rw [if_pos q, t10_open_c43, m_w_of (x := 0) (by omega) (by omega), if_pos rfl, if_pos (n_t1 J.2), n_p1_5 J.2, if_pos (n_t20 J.2), hr q, n_bs]
          cases r <;> rfl
        · rw [if_neg q, t10_open_c43, m_w_of (x := 1) (by omega) (by omega), if_neg (by omega), hr2 q]
          rfl
      have refH : ∀ r, (z = -1 → t11_open_c36 127 s 0 g' = some (r, g')) → (z ≠ -1 → r = 1) → t11_open 127 s hh = some (r, g') := fun r hr hr2 => by
        unfold t11_open
        rw [if_pos (n_t127 J.2), eS, n_bs]
        dsimp only
        rw [if_pos rfl, if_pos (n_t127 J.2), m_w_of i1 i2, if_pos (n_c70 J.2 c.1 (by omega)), n_p127_70 J.2, e292, m_w_of (x := m_g h 292 s) (by omega) (by omega), if_neg c2, e18, f2, n_bs]
        dsimp only
        rw [m_w_of (x := z) (by omega) (by omega)]
        by_cases q : z = -1
        · rw [if_pos q, hr q]
        · rw [if_neg q, hr2 q]
      by_cases q : z = -1
      · obtain ⟨P1, P2, P3⟩ := PP q
        have k8 : s < 8 := by omega
        have K := n_lk_of ref
        have a1 := n_opC (g := h) (d := m_g h 127 18) J C2' B (by omega) (fun b j b1 b2 => ref b j (by omega) b2) (fun o o0 o1 => P1.2 o o0 o1) (m_g h 151 s).toNat 0 (by omega) (by have := C.2.2.1; omega)
        have a2 := n_opR (g := h) (gg := g') (d := m_g h 127 18) R2.1 c.1 k8 C.2.2.1 C.2.2.2 B (fun o o0 o1 => (C.1.2.2.2.2.2 (by omega) o o0 o1).2) (fun b j hb => (F2.2.2 b j (by omega) (by omega)).trans (ref b j (by omega) (by omega))) (fun o o0 o1 => (P2.2 o o0 (by rw [e151]; exact o1)).trans (n_lk_sOf K c.1 k8 o _)) (m_g h 151 s).toNat 0 (by omega) (by have := C.2.2.1; omega)
        exact ⟨_, hh, _, g', compH _ (fun _ => a1) (fun w => absurd q w), refH _ (fun _ => a2) (fun w => absurd q w), rfl, R2⟩
      · exact ⟨_, hh, _, g', compH true (fun w => absurd w q) (fun _ => rfl), refH 1 (fun w => absurd w q) (fun _ => rfl), rfl, R2⟩
  · have eS := n_isScore (s := s) I s2 s3
    rw [m_w_of i1 i2, decide_eq_false c] at eS
    refine ⟨-1, h, -1, h, ?_, ?_, rfl, n_R_more X⟩
    · unfold t10_open
      rw [if_pos (n_t1 I.2), n_scoreOf_n I x5 i1 i2 c, n_bs]
      rfl
    · unfold t11_open
      rw [if_pos (n_t127 I.2), eS, n_bs]
      rfl
