/-! CALLS: why: the reference, the step -/
theorem n_off_b {g : m_H} {k : Int} : ∀ n : Nat, (∀ o, 0 ≤ o → o < (n : Int) → n_ordB g k o) → 0 ≤ n_off g k n ∧ n_off g k n ≤ 9 * n
  | 0, _ => by unfold n_off; omega
  | n + 1, b => by
    have := n_off_b (g := g) (k := k) n (fun o o0 o1 => b o o0 (by omega))
    have q := b n (by omega) (by omega)
    rw [n_off]
    by_cases v : m_g g (153 + k) n = 12
    · have := (n_putB q v).2.2.2.1
      rw [if_pos v]; omega
    · rw [if_neg v]; omega
theorem n_off_mono {g : m_H} {k : Int} {N : Nat} (b : ∀ o, 0 ≤ o → o < (N : Int) → n_ordB g k o) : ∀ (q n : Nat), n + q ≤ N → n_off g k n ≤ n_off g k (n + q)
  | 0, n, _ => Int.le_refl _
  | q + 1, n, h => by
    have := n_off_mono b q n (by omega)
    have c := b ((n + q : Nat) : Int) (by omega) (by omega)
    rw [show n + (q + 1) = (n + q) + 1 by omega, n_off]
    by_cases v : m_g g (153 + k) ((n + q : Nat) : Int) = 12
    · have := (n_putB c v).2.2.2.1
      rw [if_pos v]; omega
    · rw [if_neg v]; omega
theorem n_off_s {g : m_H} {k o : Int} (o0 : 0 ≤ o) : n_off g k (o + 1).toNat = n_off g k o.toNat + n_tm g k o := by
  rw [show (o + 1).toNat = o.toNat + 1 by omega, n_off, show ((o.toNat : Nat) : Int) = o by omega]
  rfl
/-- a laying -/
theorem n_layL {h : m_H} {k a o j : Int} (C : n_pc h k a) (o0 : 0 ≤ o) (o1 : o < m_g h 151 k) (j0 : 0 ≤ j) (j1 : j < n_tm h k o) : (0 ≤ n_off h k o.toNat + j ∧ n_off h k o.toNat + j < m_g h 127 62 ∧ m_g h 127 62 ≤ 360) ∧ m_g h 288 (n_off h k o.toNat + j) = o ∧ m_g h 289 (n_off h k o.toNat + j) = m_g h (193 + k) o ∧ m_g h 290 (n_off h k o.toNat + j) = n_bg h k o j ∧ m_g h 291 (n_off h k o.toNat + j) = n_ln h k o := by
  have b := C.1.2.2.2
  have c3 := C.1.2.2.1
  have tb := n_tm_b (b o o0 o1)
  have v := tb.2.2 (by omega)
  obtain ⟨-, -, -, -, -, -, p7, p8, -⟩ := C.2.2.1
  have et : n_tm h k o = m_g h (213 + k) o := by unfold n_tm; rw [if_pos v]
  have q := p8 o j o0 o1 v j0 (by omega)
  have ob := n_off_b (g := h) (k := k) o.toNat (fun x x0 x1 => b x x0 (by omega))
  have oN := n_off_b (g := h) (k := k) (m_g h 151 k).toNat (fun x x0 x1 => b x x0 (by omega))
  have os := n_off_s (g := h) (k := k) o0
  have om := n_off_mono (g := h) (k := k) (N := (m_g h 151 k).toNat) (fun x x0 x1 => b x x0 (by omega)) ((m_g h 151 k).toNat - (o + 1).toNat) (o + 1).toNat (by omega)
  rw [show (o + 1).toNat + ((m_g h 151 k).toNat - (o + 1).toNat) = (m_g h 151 k).toNat by omega] at om
  exact ⟨⟨by omega, by omega, by omega⟩, q⟩
def n_whS (g gg : m_H) (f : Int → Bool) : Prop := n_I gg ∧ gg.2 = g.2 ∧ (∀ b j, b ≠ 302 → m_g gg b j = m_g g b j) ∧ ∀ j, 0 ≤ j → j < 40 → m_g gg 302 j = if f j = true then 1 else 0
theorem n_whS_set {g gg : m_H} {f f2 : Int → Bool} {x : Int} (S : n_whS g gg f) (e : ∀ j, 0 ≤ j → j < 40 → f2 j = (f j || decide (j = x))) : n_whS g (m_p gg 302 x 1) f2 := by
  obtain ⟨s1, s2, s3, s4⟩ := S
  refine ⟨n_I_pa s1 (Or.inr (Or.inr (Or.inr (n_t302 s1.2)))), s2, fun b j hb => (n_gp_n (by omega)).trans (s3 b j hb), fun j j0 j1 => ?_⟩
  rw [e j j0 j1]
  by_cases c : j = x
  · rw [c, n_gp_y ⟨rfl, rfl⟩, decide_eq_true rfl, Bool.or_true, if_pos rfl]
  · rw [n_gp_n (by omega), s4 j j0 j1, decide_eq_false c, Bool.or_false]
theorem n_whS_e {g gg : m_H} {f f2 : Int → Bool} (S : n_whS g gg f) (e : ∀ j, 0 ≤ j → j < 40 → f2 j = f j) : n_whS g gg f2 :=
  ⟨S.1, S.2.1, S.2.2.1, fun j j0 j1 => by rw [e j j0 j1]; exact S.2.2.2 j j0 j1⟩
theorem n_isOver {g gg : m_H} {l t A O : Int} (I : n_I gg) (e1 : m_g gg 290 l = A) (e2 : m_g gg 291 l = O) (l0 : 0 ≤ l) (l1 : l < 400) (a0 : 0 ≤ A) (a1 : A ≤ 100000) (q0 : 0 ≤ O) (q1 : O ≤ 100000) (t1 : -2147483648 ≤ t) (t2 : t < 2147483648) : t11_isOver 127 l t gg = some (decide (A ≤ t ∧ t < A + O), gg) := by
  have x := n_l290 I.2
  have y := n_l291 I.2
  unfold t11_isOver
  rw [if_pos (n_t127 I.2), n_p127_68 I.2, n_p127_69 I.2, m_w_of (x := l) (by omega) (by omega), if_pos ⟨n_t290 I.2, by omega, by omega⟩, if_pos ⟨n_t291 I.2, by omega, by omega⟩, e1, e2, m_w_of t1 t2, m_w_of (x := A) (by omega) (by omega), m_w_of (x := A + O - 1) (by omega) (by omega), n_in (by omega) (by omega) (by omega) (by omega) (by omega) (by omega), n_bs, show decide (A ≤ t ∧ t ≤ A + O - 1) = decide (A ≤ t ∧ t < A + O) from decide_eq_decide.mpr (by omega)]
theorem n_whyLay {h : m_H} {k a t q : Int} (C : n_pc h k a) (t1 : -2147483648 ≤ t) (t2 : t < 2147483648) : ∀ (r : Nat) (o : Int) (gg : m_H), 0 ≤ o → o + r = m_g h 151 k → n_whS h gg (fun j => decide (j < o) && n_in0 h k t j) → ∃ g2, t11_why_c33 127 t q (n_off h k o.toNat) gg = t11_why_c33 127 t q (m_g h 127 62) g2 ∧ n_whS h g2 (fun j => decide (j < m_g h 151 k) && n_in0 h k t j) := by
  have c3 := C.1.2.2.1
  intro r
  induction r with
  | zero =>
    intro o gg o0 orr S
    have e : o = m_g h 151 k := by omega
    refine ⟨gg, ?_, by rw [← e]; exact S⟩
    obtain ⟨-, -, -, -, -, -, p7, p8, -⟩ := C.2.2.1
    rw [e, p7]
  | succ r ih =>
    intro o gg o0 orr S
    have o1 : o < m_g h 151 k := by omega
    have b := n_scc_b C.1 o0 o1
    have tb := n_tm_b b
    have inner : ∀ (s : Nat) (j : Int) (gg : m_H), 0 ≤ j → j + s = n_tm h k o → n_whS h gg (fun x => (decide (x < o) && n_in0 h k t x) || (decide (x = o) && n_ovN h k o t j.toNat)) → ∃ g2, t11_why_c33 127 t q (n_off h k o.toNat + j) gg = t11_why_c33 127 t q (n_off h k o.toNat + n_tm h k o) g2 ∧ n_whS h g2 (fun x => (decide (x < o) && n_in0 h k t x) || (decide (x = o) && n_in0 h k t x)) := by
      intro s
      induction s with
      | zero =>
        intro j gg j0 js S
        have e : j = n_tm h k o := by omega
        refine ⟨gg, by rw [e], n_whS_e S (fun x x0 x1 => ?_)⟩
        by_cases c : x = o
        · rw [decide_eq_true c, c, e]; rfl
        · rw [decide_eq_false c]; rfl
      | succ s ih =>
        intro j gg j0 js S
        have v := tb.2.2 (by omega)
        have L := n_layL C o0 o1 j0 (by omega)
        have bb := n_bg_b b v j0 (by omega)
        have lb := n_ln_b C o0 o1 v
        obtain ⟨⟨l0, l1, l2⟩, L1, L2, L3, L4⟩ := L
        have S' := S
        obtain ⟨J, e2, e3, e4⟩ := S'
        have ov := n_isOver (g := h) (gg := gg) (t := t) J ((e3 290 _ (by omega)).trans L3) ((e3 291 _ (by omega)).trans L4) l0 (by omega) bb.1 (by omega) (by omega) (by omega) t1 t2
        have eN : n_ovN h k o t (j + 1).toNat = (n_ovN h k o t j.toNat || decide (n_bg h k o j ≤ t ∧ t < n_bg h k o j + n_ln h k o)) := by
          rw [show (j + 1).toNat = j.toNat + 1 by omega]
          show (n_ovN h k o t j.toNat || decide (n_bg h k o (j.toNat : Nat) ≤ t ∧ t < n_bg h k o (j.toNat : Nat) + n_ln h k o)) = _
          rw [show ((j.toNat : Nat) : Int) = j by omega]
        have step : ∃ g1, t11_why_c33 127 t q (n_off h k o.toNat + j) gg = t11_why_c33 127 t q (n_off h k o.toNat + j + 1) g1 ∧ n_whS h g1 (fun x => (decide (x < o) && n_in0 h k t x) || (decide (x = o) && n_ovN h k o t (j + 1).toNat)) := by
          rw [t11_why_c33, if_pos (n_t127 J.2), e3 127 62 (by omega), m_w_of (x := n_off h k o.toNat + j) (by omega) (by omega), m_w_of (x := m_g h 127 62) (by omega) (by omega), if_pos l1, ov, n_bs]
          show ∃ g1, (if decide (n_bg h k o j ≤ t ∧ t < n_bg h k o j + n_ln h k o) = true then if m_t gg 127 = 11 then if m_t gg (m_g gg 127 66) = 20 ∧ 0 ≤ n_off h k o.toNat + j ∧ n_off h k o.toNat + j < m_l gg (m_g gg 127 66) then if m_t gg (m_g gg 127 72) = 23 ∧ 0 ≤ m_w (m_g gg (m_g gg 127 66) (n_off h k o.toNat + j)) ∧ m_w (m_g gg (m_g gg 127 66) (n_off h k o.toNat + j)) < m_l gg (m_g gg 127 72) then some (m_p gg (m_g gg 127 72) (m_w (m_g gg (m_g gg 127 66) (n_off h k o.toNat + j))) 1) >>= fun h9 => t11_why_c33 127 t q (n_off h k o.toNat + j + 1) h9 else none else none else none else t11_why_c33 127 t q (n_off h k o.toNat + j + 1) gg) = _ ∧ _
          have x288 := n_l288 J.2
          have x302 := n_l302 J.2
          by_cases c : n_bg h k o j ≤ t ∧ t < n_bg h k o j + n_ln h k o
          · rw [decide_eq_true c, if_pos rfl, if_pos (n_t127 J.2), n_p127_66 J.2, if_pos ⟨n_t288 J.2, by omega, by omega⟩, n_p127_72 J.2, e3 288 _ (by omega), L1, m_w_of (x := o) (by omega) (by omega), if_pos ⟨n_t302 J.2, by omega, by omega⟩, n_bs]
            refine ⟨_, rfl, n_whS_set S (fun x x0 x1 => ?_)⟩
            rw [eN, decide_eq_true c, Bool.or_true, Bool.and_true]
            by_cases d : x = o
            · rw [decide_eq_true d]; simp
            · rw [decide_eq_false d]; simp
          · rw [decide_eq_false c]
            refine ⟨gg, rfl, n_whS_e S (fun x x0 x1 => ?_)⟩
            rw [eN, decide_eq_false c, Bool.or_false]
        obtain ⟨g1, f1, f2⟩ := step
        obtain ⟨g2, f3, f4⟩ := ih (j + 1) g1 (by omega) (by omega) f2
        refine ⟨g2, ?_, f4⟩
        rw [f1, ← f3]
        congr 1
        omega
    obtain ⟨g1, f1, f2⟩ := inner (n_tm h k o).toNat 0 gg (by omega) (by omega) (n_whS_e S (fun x x0 x1 => by
      show _ = _
      rw [show ((0 : Int).toNat) = 0 from rfl]
      unfold n_ovN
      simp))
    obtain ⟨g2, f3, f4⟩ := ih (o + 1) g1 (by omega) (by omega) (n_whS_e f2 (fun x x0 x1 => by
      by_cases d : x = o
      · rw [decide_eq_true d, decide_eq_true (show x < o + 1 by omega), decide_eq_false (show ¬ x < o by omega)]; simp
      · by_cases d2 : x < o
        · rw [decide_eq_false d, decide_eq_true d2, decide_eq_true (show x < o + 1 by omega)]; simp
        · rw [decide_eq_false d, decide_eq_false d2, decide_eq_false (show ¬ x < o + 1 by omega)]; simp))
    refine ⟨g2, ?_, f4⟩
    rw [n_off_s o0] at f3
    rw [← f3, ← f1, Int.add_zero]
theorem n_whyMarks {h : m_H} {k a t q : Int} (C : n_pc h k a) : ∀ (r m : Nat) (gg : m_H), (r : Int) + m = m_g h 151 k → n_whS h gg (fun j => decide (j < m_g h 151 k) && n_wM h k t (m_g h 151 k) m j) → ∃ g2, t11_why_x80 80 127 q (r - 1) gg = t11_why_c171 127 q 0 0 g2 ∧ n_whS h g2 (fun j => decide (j < m_g h 151 k) && n_wM h k t (m_g h 151 k) (m_g h 151 k).toNat j) := by
  have c3 := C.1.2.2.1
  have k0 := C.2.2.2.2.1
  have k1 := C.1.2.1.2
  intro r
  induction r with
  | zero =>
    intro m gg rm S
    refine ⟨gg, ?_, ?_⟩
    · rw [t11_why_x80, if_pos rfl, m_w_of (by omega) (by omega), if_pos (by omega)]
    · rw [show (m_g h 151 k).toNat = m by omega]; exact S
  | succ r ih =>
    intro m gg rm S
    have o1 : (r : Int) < m_g h 151 k := by omega
    have b := n_scc_b C.1 (o := r) (by omega) o1
    have bl := n_below b
    have em : m_g h 151 k - (m + 1) = r := by omega
    have S' := S
    obtain ⟨J, e2, e3, e4⟩ := S'
    have l302 := n_l302 J.2
    have w1 := m_w_of (x := m_g h (163 + k) r) (by omega) (by omega)
    have w2 := m_w_of (x := m_g h (173 + k) r) (by omega) (by omega)
    have wr := m_w_of (x := (r : Int)) (by omega) (by omega)
    have e60 : m_g gg 127 60 = k := (e3 127 60 (by omega)).trans C.2.2.2.1
    have wk := m_w_of (x := k) (by omega) (by omega)
    have e4r : m_g gg 302 r = if n_wM h k t (m_g h 151 k) m r = true then 1 else 0 := by
      rw [e4 r (by omega) (by omega)]
      show (if (decide ((r : Int) < m_g h 151 k) && n_wM h k t (m_g h 151 k) m r) = true then _ else _) = _
      rw [decide_eq_true o1, Bool.true_and]
    have step : ∃ g1, t11_why_x80 80 127 q r gg = t11_why_x80 80 127 q (r - 1) g1 ∧ n_whS h g1 (fun j => decide (j < m_g h 151 k) && n_wM h k t (m_g h 151 k) (m + 1) j) := by
      rw [t11_why_x80, if_pos rfl, wr, if_neg (by omega), if_pos (n_t127 J.2), n_p127_72 J.2, if_pos ⟨n_t302 J.2, by omega, by omega⟩, e4r]
      by_cases c : n_wM h k t (m_g h 151 k) m r = true
      · rw [if_pos c, m_w_of (x := 1) (by omega) (by omega), if_neg (by omega), e60, wk, if_pos (n_c36 J.2 k0 (by omega)), n_a36 J.2 k0 (by omega), if_pos (n_d36 J.2 k0 (by omega) (by omega) (by omega)), e3 (163 + k) r (by omega), w1]
        have e128 : ∀ (gx : m_H) (f : Int → Bool), n_whS h gx f → ∃ g1, t11_why_x80 128 127 q r gx = t11_why_x80 80 127 q (r - 1) g1 ∧ n_whS h g1 (fun j => f j || decide (j = m_g h (173 + k) r)) := fun gx f Sx => by
          have Sx' := Sx
          obtain ⟨Jx, x2, x3, x4⟩ := Sx'
          have lx := n_l302 Jx.2
          have x60 : m_g gx 127 60 = k := (x3 127 60 (by omega)).trans C.2.2.2.1
          rw [t11_why_x80, if_neg (by omega), if_pos rfl, if_pos (n_t127 Jx.2), x60, wk, wr, if_pos (n_c37 Jx.2 k0 (by omega)), n_a37 Jx.2 k0 (by omega), if_pos (n_d37 Jx.2 k0 (by omega) (by omega) (by omega)), x3 (173 + k) r (by omega), w2]
          by_cases d : m_g h (173 + k) r = -1
          · rw [if_pos d]
            exact ⟨gx, rfl, n_whS_e Sx (fun j j0 j1 => by rw [decide_eq_false (show ¬ j = m_g h (173 + k) r by omega), Bool.or_false])⟩
          · rw [if_neg d, n_p127_72 Jx.2, if_pos ⟨n_t302 Jx.2, by omega, by omega⟩, n_bs]
            exact ⟨_, rfl, n_whS_set Sx (fun j j0 j1 => rfl)⟩
        have fin : ∀ gx, n_whS h gx (fun j => (decide (j < m_g h 151 k) && n_wM h k t (m_g h 151 k) m j) || decide (j = m_g h (163 + k) r)) → ∃ g1, t11_why_x80 128 127 q r gx = t11_why_x80 80 127 q (r - 1) g1 ∧ n_whS h g1 (fun j => decide (j < m_g h 151 k) && n_wM h k t (m_g h 151 k) (m + 1) j) := fun gx Sx => by
          obtain ⟨g1, f1, f2⟩ := e128 gx _ Sx
          refine ⟨g1, f1, n_whS_e f2 (fun j j0 j1 => ?_)⟩
          rw [n_wM_s, em, c, Bool.true_and]
          by_cases d : j < m_g h 151 k
          · rw [decide_eq_true d, Bool.true_and, Bool.true_and, Bool.or_assoc]
          · rw [decide_eq_false d, Bool.false_and, Bool.false_and, decide_eq_false (show ¬ j = m_g h (163 + k) r by omega), decide_eq_false (show ¬ j = m_g h (173 + k) r by omega)]
            rfl
        by_cases d : m_g h (163 + k) r = -1
        · rw [if_pos d]
          exact fin gg (n_whS_e S (fun j j0 j1 => by rw [decide_eq_false (show ¬ j = m_g h (163 + k) r by omega), Bool.or_false]))
        · rw [if_neg d, if_pos ⟨n_t302 J.2, by omega, by omega⟩, n_bs]
          exact fin _ (n_whS_set S (fun j j0 j1 => rfl))
      · rw [if_neg c, m_w_of (x := 0) (by omega) (by omega), if_pos rfl]
        have cf : n_wM h k t (m_g h 151 k) m r = false := by cases hh : n_wM h k t (m_g h 151 k) m r; rfl; exact absurd hh c
        exact ⟨gg, rfl, n_whS_e S (fun j j0 j1 => by rw [n_wM_s, em, cf, Bool.false_and, Bool.or_false])⟩
    obtain ⟨g1, f1, f2⟩ := step
    obtain ⟨g2, f3, f4⟩ := ih (m + 1) g1 (by omega) f2
    refine ⟨g2, ?_, f4⟩
    rw [show ((r + 1 : Nat) : Int) - 1 = r by omega, f1]
    exact f3
theorem n_s_why {h : m_H} {k : Int} (X : n_R h k) (t q : Int) (t1 : -2147483648 ≤ t) (t2 : t < 2147483648) (q1 : -2147483648 ≤ q) (q2 : q < 2147483648) : n_step h k (t10_why 1 t q) (t11_why 127 t q) := by
  have X' := X
  obtain ⟨I, gs, bud, x1, x2, x3, x4, x5, x6, x7⟩ := X'
  have t1h := n_t1 I.2
  have t6 := n_t106 I.2
  have tM := n_t127 I.2
  have y := x6
  obtain ⟨y1, y2, y3, y4, y5⟩ := y
  have l5 := x5.2.2.1
  unfold n_step t10_why t11_why t2_reason t2_reasons
  rw [if_pos t1h, n_p1_6 I.2, if_pos t6, if_pos t6, if_pos t6]
  by_cases c : m_g h 127 60 = -1
  · obtain ⟨z1, z2, z3⟩ := y4 c
    have s109 : m_t h 109 = 6 := n_t109 I.2
    refine ⟨-1, h, -1, h, ?_, ?_, rfl, n_R_more X⟩
    · rw [z1, if_pos s109, z2, n_bs, t2_reasons_x13, if_pos rfl, m_w_of (by omega) (by omega), if_pos (by omega), n_bs]
      show (t2_reason_c12 106 0 q 0 h >>= _) = _
      rw [t2_reason_c12, if_pos t6, z1, if_pos s109, z2, if_neg (by omega), n_bs]
    · rw [if_pos tM, m_w_of (by omega) (by omega), if_pos c]
  · have C := n_pc_of x5 x6 c
    generalize hk : m_g h 127 60 = kk at *
    generalize m_g h 19 kk = a at *
    obtain ⟨c1, c2⟩ := n_pcI C
    have c3 := C.1.2.2.1
    have eN := C.1.1.2.1
    obtain ⟨f', ef, qf⟩ := n_reasonsC I C t1 t2 (m_g h 151 kk).toNat 0 0 (by omega) (fun j j0 j1 => by rw [n_tb_0, Bool.or_false]; rfl) (fun j j0 j1 => by omega)
    rw [show (((m_g h 151 kk).toNat : Nat) : Int) = m_g h 151 kk by omega] at ef
    -- the reference
    have t302 := n_t302 I.2
    have l302 := n_l302 I.2
    have I0 : n_I (n_fl h 302 0 40 (fun _ => 0)) := n_I_fl I (Or.inr (Or.inr (Or.inr t302)))
    have key := n_fill (fun i g => t11_why_c12 127 t q i g) (h := h) (a := 302) (lo := 0) (n := 40) (fun _ => 0) (by omega) (fun i i1 i2 => by
      show t11_why_c12 127 t q i _ = t11_why_c12 127 t q (i + 1) _
      have J : n_I (n_fl h 302 0 i (fun _ => 0)) := n_I_fl I (Or.inr (Or.inr (Or.inr t302)))
      generalize n_fl h 302 0 i (fun _ => 0) = hi at *
      have := n_l302 J.2
      rw [t11_why_c12, m_w_of (by omega) (by omega), if_pos i2, if_pos (n_t127 J.2), n_p127_72 J.2, if_pos ⟨n_t302 J.2, by omega, by omega⟩, n_bs])
    have S0 : n_whS h (n_fl h 302 0 40 (fun _ => 0)) (fun j => decide (j < 0) && n_in0 h kk t j) := ⟨I0, rfl, fun b j hb => by rw [n_g_fl, if_neg (fun z => hb z.1)], fun j j0 j1 => by rw [n_g_fl, if_pos ⟨rfl, j0, j1⟩]; show (0 : Int) = if (decide (j < 0) && n_in0 h kk t j) = true then 1 else 0; rw [decide_eq_false (show ¬ j < 0 by omega)]; rfl⟩
    obtain ⟨g1, f1, S1⟩ := n_whyLay (q := q) C t1 t2 (m_g h 151 kk).toNat 0 _ (by omega) (by omega) S0
    have S1' := S1
    obtain ⟨J1, -, e3, -⟩ := S1'
    have e33 : t11_why_c33 127 t q (m_g h 127 62) g1 = t11_why_x80 80 127 q (m_g h 151 kk - 1) g1 := by
      have l151 := n_l151 J1.2
      have o62 := n_off_b (g := h) (k := kk) (m_g h 151 kk).toNat (fun x z0 z1 => C.1.2.2.2 x z0 (by omega))
      have p7 := C.2.2.1.2.2.2.2.2.2.1
      rw [t11_why_c33, if_pos (n_t127 J1.2), e3 127 62 (by omega), if_neg (by omega), n_p127_34 J1.2, e3 127 60 (by omega), hk, m_w_of (x := kk) (by omega) (by omega), if_pos ⟨n_t151 J1.2, by omega, by omega⟩, e3 151 kk (by omega), n_bs]
    obtain ⟨g2, f2, S2⟩ := n_whyMarks (q := q) C (m_g h 151 kk).toNat 0 g1 (by omega) S1
    rw [show (((m_g h 151 kk).toNat : Nat) : Int) = m_g h 151 kk by omega] at f2
    obtain ⟨J2, h2, e3', e4'⟩ := S2
    have e12 : t11_why_c12 127 t q 0 h = t11_why_c171 127 q 0 0 g2 := by
      rw [show t11_why_c12 127 t q 0 h = t11_why_c12 127 t q 40 (n_fl h 302 0 40 (fun _ => 0)) from key, t11_why_c12, if_neg (by rw [m_w_of (by omega) (by omega)]; omega)]
      rw [← f2, ← e33]
      exact f1
    have bit : ∀ j, 0 ≤ j → j < m_g h 151 kk → m_g g2 302 j = if n_tb f' j = true then 1 else 0 := fun j j0 j1 => by
      rw [e4' j j0 (by omega), qf j j0 j1]
      show (if (decide (j < m_g h 151 kk) && n_wM h kk t (m_g h 151 kk) (m_g h 151 kk).toNat j) = true then _ else _) = _
      rw [decide_eq_true j1, Bool.true_and]
    have e60 : m_g g2 127 60 = kk := (e3' 127 60 (by omega)).trans hk
    have l151 := n_l151 J2.2
    have l302' := n_l302 J2.2
    have stC : ∀ u i, 0 ≤ i → i ≤ m_g h 151 kk → t2_reason_c12 106 f' u i h = if i < m_g h 151 kk then (if m_w u < 0 then some (-1, h) else if n_tb f' i = false then t2_reason_c12 106 f' u (i + 1) h else if m_w u = 0 then some (i, h) else t2_reason_c12 106 f' (u + -1) (i + 1) h) else some (-1, h) := fun u i i0 i1 => by
      rw [t2_reason_c12, if_pos t6, c1, if_pos c2, eN, m_w_of (x := i) (by omega) (by omega), m_w_of (x := m_g h 151 kk) (by omega) (by omega)]
      by_cases d : i < m_g h 151 kk
      · have test := n_tb_test (x := f') (i := i) i0 (by omega)
        rw [if_pos d, if_pos d]
        by_cases d2 : m_w u < 0
        · rw [if_pos d2, if_pos d2]
        · rw [if_neg d2, if_neg d2]
          by_cases d3 : n_tb f' i = false
          · rw [if_pos d3, if_pos (test.mpr d3)]
          · rw [if_neg d3, if_neg (fun z => d3 (test.mp z))]
      · rw [if_neg d, if_neg d]
    have stR : ∀ n i, 0 ≤ i → i ≤ m_g h 151 kk → t11_why_c171 127 q n i g2 = if i < m_g h 151 kk then (if n_tb f' i = false then t11_why_c171 127 q n (i + 1) g2 else if m_w n = m_w q then some (i, g2) else t11_why_c171 127 q (n + 1) (i + 1) g2) else some (-1, g2) := fun n i i0 i1 => by
      rw [t11_why_c171, if_pos (n_t127 J2.2), n_p127_34 J2.2, e60, m_w_of (x := kk) (by omega) (by omega), if_pos ⟨n_t151 J2.2, by omega, by omega⟩, e3' 151 kk (by omega), m_w_of (x := i) (by omega) (by omega), m_w_of (x := m_g h 151 kk) (by omega) (by omega)]
      by_cases d : i < m_g h 151 kk
      · rw [if_pos d, if_pos d, n_p127_72 J2.2, if_pos ⟨n_t302 J2.2, by omega, by omega⟩, bit i i0 d]
        by_cases d3 : n_tb f' i = false
        · rw [if_pos d3, if_pos (show m_w (if n_tb f' i = true then (1 : Int) else 0) = 0 by rw [d3]; decide)]
        · have d4 : n_tb f' i = true := by cases hh : n_tb f' i; exact absurd hh d3; rfl
          rw [if_neg d3, if_neg (show ¬ m_w (if n_tb f' i = true then (1 : Int) else 0) = 0 by rw [d4]; decide)]
      · rw [if_neg d, if_neg d]
    have main : ∃ T, t2_reason_c12 106 f' q 0 h = some (T, h) ∧ t11_why_c171 127 q 0 0 g2 = some (T, g2) := by
      by_cases qs : q < 0
      · refine ⟨-1, ?_, ?_⟩
        · rw [stC q 0 (by omega) (by omega), m_w_of q1 q2, if_pos qs]
          split <;> rfl
        · have : ∀ (r : Nat) (n i : Int), 0 ≤ i → i + r = m_g h 151 kk → 0 ≤ n → n ≤ i → t11_why_c171 127 q n i g2 = some (-1, g2) := by
            intro r
            induction r with
            | zero => intro n i i0 ir n0 n1; rw [stR n i i0 (by omega), if_neg (by omega)]
            | succ r ih =>
              intro n i i0 ir n0 n1
              rw [stR n i i0 (by omega), if_pos (by omega), ih n (i + 1) (by omega) (by omega) n0 (by omega), ih (n + 1) (i + 1) (by omega) (by omega) (by omega) (by omega), if_neg (show ¬ m_w n = m_w q by rw [m_w_of (x := n) (by omega) (by omega), m_w_of q1 q2]; omega)]
              split <;> rfl
          exact this (m_g h 151 kk).toNat 0 0 (by omega) (by omega) (by omega) (by omega)
      · have : ∀ (r : Nat) (n i : Int), 0 ≤ i → i + r = m_g h 151 kk → 0 ≤ n → n ≤ i → n ≤ q → ∃ T, t2_reason_c12 106 f' (q - n) i h = some (T, h) ∧ t11_why_c171 127 q n i g2 = some (T, g2) := by
          intro r
          induction r with
          | zero => intro n i i0 ir n0 n1 n2; exact ⟨-1, by rw [stC _ i i0 (by omega), if_neg (by omega)], by rw [stR n i i0 (by omega), if_neg (by omega)]⟩
          | succ r ih =>
            intro n i i0 ir n0 n1 n2
            rw [stR n i i0 (by omega), stC _ i i0 (by omega), if_pos (show i < m_g h 151 kk by omega), if_pos (show i < m_g h 151 kk by omega), m_w_of (x := q - n) (by omega) (by omega), if_neg (show ¬ q - n < 0 by omega), m_w_of (x := n) (by omega) (by omega), m_w_of q1 q2]
            by_cases d : n_tb f' i = false
            · rw [if_pos d, if_pos d]
              exact ih n (i + 1) (by omega) (by omega) n0 (by omega) n2
            · rw [if_neg d, if_neg d]
              by_cases d2 : n = q
              · rw [if_pos (by omega), if_pos d2]
                exact ⟨i, rfl, rfl⟩
              · rw [if_neg (by omega), if_neg d2, show q - n + -1 = q - (n + 1) by omega]
                exact ih (n + 1) (i + 1) (by omega) (by omega) (by omega) (by omega) (by omega)
        have z := this (m_g h 151 kk).toNat 0 0 (by omega) (by omega) (by omega) (by omega) (by omega)
        rw [Int.sub_zero] at z
        exact z
    obtain ⟨T, r1, r2⟩ := main
    have KR : n_kr h g2 [302] [] := ⟨h2, by decide, fun b j z1 z2 => e3' b j (by simpa using z1)⟩
    have P : n_sp h g2 [] [] [302] [] := n_sp_of I n_kp_rfl KR n_no n_no
    have B2 : n_bud g2 (k + 1) := n_bud_more (n_bud_same I h2 (fun r hr => n_kr_comp KR (n_ref_row I hr).1 0) bud)
    refine ⟨T, h, T, g2, ?_, ?_, rfl, n_finS X P J2 B2 rfl rfl (by decide) rfl⟩
    · rw [c1, if_pos c2, eN, n_bs, ef, n_bs]
      show (t2_reason_c12 106 f' q 0 h >>= _) = _
      rw [r1, n_bs]
    · rw [if_pos tM, hk, m_w_of (x := kk) (by omega) (by omega), if_neg c, e12]
      exact r2
