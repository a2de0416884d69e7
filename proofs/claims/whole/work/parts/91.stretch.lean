/-! CALLS: remade, stretch, unfound: the steps -/
theorem n_great {P : Int → Prop} {lo : Int} : ∀ (k : Nat) (hi : Int), hi - lo < k → (∃ z, lo ≤ z ∧ z ≤ hi ∧ P z) → ∃ z, lo ≤ z ∧ z ≤ hi ∧ P z ∧ ∀ y, z < y → y ≤ hi → ¬ P y := by
  intro k
  induction k with
  | zero => intro hi hk ⟨z, a, b, c⟩; omega
  | succ k ih =>
    intro hi hk ⟨z, a, b, c⟩
    by_cases q : P hi
    · exact ⟨hi, by omega, by omega, q, fun y y1 y2 => by omega⟩
    · have hz : z ≠ hi := fun e => q (by rw [← e]; exact c)
      obtain ⟨y, y1, y2, y3, y4⟩ := ih (hi - 1) (by omega) ⟨z, a, by omega, c⟩
      refine ⟨y, y1, by omega, y3, fun x x1 x2 => ?_⟩
      by_cases e : x = hi
      · rw [e]; exact q
      · exact y4 x x1 (by omega)
/-- both covers, one behind the other -/
theorem n_bothM {h : m_H} {w m k : Int} (X : n_R h k) (k1 : k ≤ 1000) (w1 : 1 ≤ w) (w2 : w ≤ 100) (m0 : 0 ≤ m) (m1 : m ≤ 65535) : ∃ (h2 g2 : m_H) (n : Int) (F L : Int → Int), t1_coveredBy 121 w m h = some (decide (F 0 < 1000000), h2) ∧ t11_covers 127 w m h2 = some (decide (F 0 < 1000000), g2) ∧ n_I h2 ∧ n_I g2 ∧ n_R g2 (k + 1) ∧ (0 ≤ n ∧ n ≤ 1000) ∧ (∀ t, 0 ≤ t → t < n → m_g h2 124 t = L t ∧ m_g g2 310 t = L t ∧ 0 ≤ L t ∧ L t ≤ n - t) ∧ F n = 0 ∧ (∀ j, 0 ≤ j → j ≤ n → m_g h2 125 j = F j ∧ n_cr (F j) (m_g g2 311 j)) ∧ ∀ t, 0 ≤ t → t < n → F t < 1000000 → ∃ z, w ≤ z ∧ z ≤ L t ∧ F (t + z) + 1 = F t := by
  obtain ⟨h2, e1, C, q5⟩ := n_covC X k1 w1 w2 m0 m1
  obtain ⟨R2, iL⟩ := n_finM X C m0 m1 (n_kr_mono n_kr_rfl n_no n_no (by decide))
  have X' := X
  obtain ⟨I, gs, bud, x1, x2, x3, x4, x5, x6, x7⟩ := X'
  have R2' := R2
  obtain ⟨I2, gs2, bud2, y1, y2, y3, y4, y5, y6, y7⟩ := R2'
  have T3 := x2.2
  have P := n_mE2_P I C (n_kr_mono n_kr_rfl n_no n_no (by decide))
  have e85 : m_g h2 127 85 = m_g h 127 85 := n_sp_f P (by decide)
  have QL : ∀ t, 0 ≤ t → t < m_g h 127 85 → n_isL h m t (m_g h2 124 t) := C.2.2.2.2.2.2
  have Lb : ∀ t, 0 ≤ t → t < m_g h 127 85 → 0 ≤ m_g h2 124 t ∧ m_g h2 124 t ≤ m_g h 127 85 - t := fun t t0 t1 => n_isQ_b (Q := n_lay h) (QL t t0 t1) (by omega)
  obtain ⟨g2, e2, J2, K2, q1, q2, q3⟩ := n_covR (g := h2) (w := w) (m := m) (L := m_g h2 124) I2 gs2 y2 w1 w2 m0 m1 (fun t t0 t1 => iL t _ (QL t t0 (by omega)))
  rw [e85] at e2 q1 q2 q3
  have cr := fun j (j0 : 0 ≤ j) (j1 : j ≤ m_g h 127 85) => n_tabN_cr (L := m_g h2 124) (w := w) (N := m_g h 127 85) (by omega) w1 (fun t t0 t1 => (Lb t t0 t1).2) (m_g h 127 85).toNat j (by omega) (by omega) j1
  have cb : decide (n_tabN (m_g h2 124) w (m_g h 127 85) 1001 (m_g h 127 85).toNat 0 ≤ 1000) = decide (n_tabN (m_g h2 124) w (m_g h 127 85) 1000000 (m_g h 127 85).toNat 0 < 1000000) := by
    have := (cr 0 (by omega) (by omega)).1
    unfold n_cr at this
    exact decide_eq_decide.mpr (by omega)
  rw [cb] at e2
  have KR : n_kr h2 g2 [149, 309, 310, 311] [86] := K2
  obtain ⟨R3, -⟩ := n_finM X C m0 m1 KR
  refine ⟨h2, g2, m_g h 127 85, n_tabN (m_g h2 124) w (m_g h 127 85) 1000000 (m_g h 127 85).toNat, m_g h2 124, e1, e2, I2, J2, R3, by omega, fun t t0 t1 => ⟨rfl, q1 t t0 t1, Lb t t0 t1⟩, ?_, fun j j0 j1 => ⟨q5 j j0 j1, by rw [q3 j j0 j1]; exact (cr j j0 j1).1⟩, fun t t0 t1 ft => ?_⟩
  · have := n_tabN_st (L := m_g h2 124) (w := w) (N := m_g h 127 85) (nv := 1000000) (k := 0) (m_g h 127 85).toNat (m_g h 127 85) (by omega)
    rw [Nat.zero_add] at this
    exact this
  · have at1 := n_tabN_at (L := m_g h2 124) (w := w) (N := m_g h 127 85) (nv := 1000000) (n := (m_g h 127 85).toNat) w1 (by omega) (fun t t0 t1 => (Lb t t0 t1).2) t t0 t1
    rcases n_fmN_ex (F := n_tabN (m_g h2 124) w (m_g h 127 85) 1000000 (m_g h 127 85).toNat) (t := t) (m_g h2 124 t - w + 1).toNat w 1000000 with e | ⟨i, i1, i2, e⟩
    · rw [at1, e] at ft; omega
    · exact ⟨i, i1, by omega, by rw [at1, e]⟩
theorem n_s_remade {h : m_H} {k : Int} (X : n_R h k) (k1 : k ≤ 1000) (w m : Int) (a1 : -2147483648 ≤ w) (a2 : w < 2147483648) (b1 : -2147483648 ≤ m) (b2 : m < 2147483648) : n_step h k (t10_remade 1 w m) (t11_remade 127 w m) := by
  have I := X.1
  unfold n_step t10_remade t11_remade
  rw [if_pos (n_t1 I.2), n_p1_9 I.2, if_pos (n_t121 I.2)]
  by_cases c : (1 ≤ w ∧ w ≤ 100) ∧ 0 ≤ m ∧ m ≤ 65535
  · obtain ⟨h2, g2, n, F, L, e1, e2, I2, J2, R, nb, q1, q2, q3, q4⟩ := n_bothM X k1 c.1.1 c.1.2 c.2.1 c.2.2
    have f0 := q3 0 (by omega) nb.1
    rw [e1, n_bs]
    by_cases d : F 0 < 1000000
    · rw [decide_eq_true d] at e2 ⊢
      have l1 := n_l311 J2.2
      refine ⟨F 0, h2, m_g g2 311 0, g2, ?_, ?_, by have := f0.2; unfold n_cr at this; rcases this.2 with q | q; rw [q.2]; omega, R⟩
      · show (if true = true then if m_t h2 1 = 10 then if m_t h2 (m_g h2 1 9) = 1 then t1_stretches (m_g h2 1 9) h2 >>= _ else none else none else _) = _
        rw [if_pos rfl, if_pos (n_t1 I2.2), n_p1_9 I2.2, if_pos (n_t121 I2.2)]
        unfold t1_stretches
        rw [if_pos (n_t121 I2.2), n_fewF I2 (by omega) (by omega), n_bs, f0.1]
        rfl
      · rw [if_pos (n_t127 I2.2), e2, n_bs]
        show (if true = true then if m_t g2 127 = 11 then if m_t g2 (m_g g2 127 84) = 20 ∧ (0 : Int) ≤ 0 ∧ 0 < m_l g2 (m_g g2 127 84) then some (m_g g2 (m_g g2 127 84) 0, g2) else none else none else _) = _
        rw [if_pos rfl, if_pos (n_t127 J2.2), n_p127_84 J2.2, if_pos ⟨n_t311 J2.2, by omega, by omega⟩]
    · rw [decide_eq_false d] at e2 ⊢
      refine ⟨-1, h2, -1, g2, rfl, ?_, rfl, R⟩
      rw [if_pos (n_t127 I2.2), e2, n_bs]
      rfl
  · refine ⟨-1, h, -1, h, ?_, ?_, rfl, n_R_more X⟩
    · unfold t1_coveredBy
      rw [n_isAsked a1 a2 b1 b2, decide_eq_false c]
      rfl
    · unfold t11_covers
      rw [if_pos (n_t127 I.2), n_canAsk a1 a2 b1 b2, decide_eq_false c]
      rfl
/-- the greatest first stretch of the fewest, both -/
theorem n_lofC {h2 : m_H} {F L : Int → Int} {t w n z : Int} (I2 : n_I h2) (nb : 0 ≤ n ∧ n ≤ 1000) (t0 : 0 ≤ t) (t1 : t < n) (w1 : 1 ≤ w) (w2 : w ≤ 100) (qL : m_g h2 124 t = L t ∧ 0 ≤ L t ∧ L t ≤ n - t) (qF : ∀ j, 0 ≤ j → j ≤ n → m_g h2 125 j = F j ∧ 0 ≤ F j ∧ F j ≤ 1000000) (z1 : w ≤ z) (z2 : z ≤ L t) (z3 : F (t + z) + 1 = F t) (z4 : ∀ y, z < y → y ≤ L t → ¬ F (t + y) + 1 = F t) : t1_longestOfFewest 121 t w h2 = some (z, h2) := by
  have k1 := n_t121 I2.2
  have ft := qF t t0 (by omega)
  have step : ∀ y, w ≤ y → y ≤ L t → t1_longestOfFewest_c6 121 t w y h2 = if F (t + y) + 1 = F t then some (y, h2) else t1_longestOfFewest_c6 121 t w (y + -1) h2 := fun y y1 y2 => by
    have fy := qF (t + y) (by omega) (by omega)
    rw [t1_longestOfFewest_c6, m_w_of (x := y) (by omega) (by omega), m_w_of (x := w) (by omega) (by omega), if_neg (by omega), if_pos k1, n_fewF I2 (by omega) (by omega), n_bs]
    show (if m_t h2 121 = 1 then t1_fewestFrom 121 t h2 >>= _ else none) = _
    rw [if_pos k1, n_fewF I2 t0 (by omega), n_bs, fy.1, ft.1]
    show (if m_w (F (t + y) + 1) = m_w (F t) then _ else _) = _
    rw [m_w_of (x := F (t + y) + 1) (by omega) (by omega), m_w_of (x := F t) (by omega) (by omega)]
  have back : t1_longestOfFewest_c6 121 t w (L t) h2 = t1_longestOfFewest_c6 121 t w z h2 := n_back (fun y => t1_longestOfFewest_c6 121 t w y h2) z (L t) z2 (fun y y1 y2 => by
    show t1_longestOfFewest_c6 121 t w y h2 = t1_longestOfFewest_c6 121 t w (y - 1) h2
    rw [step y (by omega) y2, if_neg (z4 y y1 y2)]
    rfl)
  unfold t1_longestOfFewest
  rw [if_pos k1, n_longF I2 t0 (by omega), n_bs, qL.1]
  show t1_longestOfFewest_c6 121 t w (L t) h2 = _
  rw [back, step z z1 z2, if_pos z3]
theorem n_lofR {g2 : m_H} {F L : Int → Int} {t n z k i : Int} (J2 : n_I g2) (nb : 0 ≤ n ∧ n ≤ 1000) (t0 : 0 ≤ t) (t1 : t < n) (qL : m_g g2 310 t = L t ∧ 0 ≤ L t ∧ L t ≤ n - t) (qF : ∀ j, 0 ≤ j → j ≤ n → n_cr (F j) (m_g g2 311 j)) (ft : F t < 1000000) (z1 : 0 ≤ z) (z2 : z ≤ L t) (z3 : F (t + z) + 1 = F t) (z4 : ∀ y, z < y → y ≤ L t → ¬ F (t + y) + 1 = F t) : t11_stretch_x35 50 127 k t i (L t) g2 = t11_stretch_x35 35 127 k (t + z) (i + 1) 0 g2 := by
  have l1 := n_l311 J2.2
  have ct := qF t t0 (by omega)
  unfold n_cr at ct
  have step : ∀ y, 0 ≤ y → y ≤ L t → t11_stretch_x35 50 127 k t i y g2 = if F (t + y) + 1 = F t then t11_stretch_x35 35 127 k (t + y) (i + 1) 0 g2 else t11_stretch_x35 50 127 k t i (y + -1) g2 := fun y y1 y2 => by
    have fy := qF (t + y) (by omega) (by omega)
    unfold n_cr at fy
    rw [t11_stretch_x35, if_neg (by omega), if_pos rfl, if_pos (n_t127 J2.2), n_p127_84 J2.2, m_w_of (x := t + y) (by omega) (by omega), if_pos ⟨n_t311 J2.2, by omega, by omega⟩, m_w_of (x := t) (by omega) (by omega), if_pos ⟨n_t311 J2.2, by omega, by omega⟩, m_w_of (x := m_g g2 311 (t + y) + 1) (by omega) (by omega), m_w_of (x := m_g g2 311 t) (by omega) (by omega)]
    by_cases c : F (t + y) + 1 = F t
    · rw [if_pos c, if_pos (by omega), n_bs]
    · rw [if_neg c, if_neg (by omega)]
  have back : t11_stretch_x35 50 127 k t i (L t) g2 = t11_stretch_x35 50 127 k t i z g2 := n_back (fun y => t11_stretch_x35 50 127 k t i y g2) z (L t) z2 (fun y y1 y2 => by
    show t11_stretch_x35 50 127 k t i y g2 = t11_stretch_x35 50 127 k t i (y - 1) g2
    rw [step y (by omega) y2, if_neg (z4 y y1 y2)]
    rfl)
  rw [back, step z z1 z2, if_pos z3]
theorem n_s_stretch {h : m_H} {k : Int} (X : n_R h k) (k1 : k ≤ 1000) (w m q : Int) (a1 : -2147483648 ≤ w) (a2 : w < 2147483648) (b1 : -2147483648 ≤ m) (b2 : m < 2147483648) (c1 : -2147483648 ≤ q) (c2 : q < 2147483648) : n_step h k (t10_stretch 1 w m q) (t11_stretch 127 w m q) := by
  have I := X.1
  unfold n_step t10_stretch t11_stretch
  rw [if_pos (n_t1 I.2), n_p1_9 I.2, if_pos (n_t121 I.2)]
  by_cases c : (1 ≤ w ∧ w ≤ 100) ∧ 0 ≤ m ∧ m ≤ 65535
  · obtain ⟨h2, g2, n, F, L, e1, e2, I2, J2, R, nb, q1, q2, q3, q4⟩ := n_bothM X k1 c.1.1 c.1.2 c.2.1 c.2.2
    have f0 := q3 0 (by omega) nb.1
    have k1h := n_t121 I2.2
    rw [e1, n_bs]
    by_cases d : F 0 < 1000000
    · rw [decide_eq_true d] at e2 ⊢
      have l1 := n_l311 J2.2
      have l0 := n_l310 J2.2
      have cr0 := f0.2
      unfold n_cr at cr0
      have es : t1_stretches 121 h2 = some (F 0, h2) := by
        unfold t1_stretches
        rw [if_pos k1h, n_fewF I2 (by omega) (by omega), n_bs, f0.1]
      have main : 0 ≤ q → q < F 0 → ∀ (r : Nat) (i t : Int), i + r = q → 0 ≤ i → 0 ≤ t → t ≤ n → F t + i = F 0 → ∃ T, t1_stretchBegin_c19 121 w q t i h2 = some (T, h2) ∧ t11_stretch_x35 35 127 q t i 0 g2 = some (T, g2) := fun s0 s1 r => by
        induction r with
        | zero =>
          intro i t ir i0 t0 tn fe
          refine ⟨t, ?_, ?_⟩
          · rw [t1_stretchBegin_c19, m_w_of (x := i) (by omega) (by omega), m_w_of (x := q) (by omega) (by omega), if_neg (by omega)]
          · rw [t11_stretch_x35, if_pos rfl, m_w_of (x := i) (by omega) (by omega), m_w_of (x := q) (by omega) (by omega), if_neg (by omega)]
        | succ r ih =>
          intro i t ir i0 t0 tn fe
          have tn2 : t < n := by
            by_cases e : t = n
            · rw [e, q2] at fe; omega
            · omega
          obtain ⟨z, z1, z2, z3, z4⟩ := n_great (P := fun z => F (t + z) + 1 = F t) (lo := w) (L t - w + 1).toNat (L t) (by
            obtain ⟨z, z1, z2, z3⟩ := q4 t t0 tn2 (by omega)
            omega) (q4 t t0 tn2 (by omega))
          have qt := q1 t t0 tn2
          have lc := n_lofC (F := F) (L := L) (t := t) (w := w) (n := n) (z := z) I2 nb t0 tn2 c.1.1 c.1.2 ⟨qt.1, qt.2.2⟩ (fun j j0 j1 => ⟨(q3 j j0 j1).1, by have := (q3 j j0 j1).2; unfold n_cr at this; omega⟩) z1 z2 z3 z4
          have lr := n_lofR (F := F) (L := L) (t := t) (n := n) (z := z) (k := q) (i := i) J2 nb t0 tn2 ⟨qt.2.1, qt.2.2⟩ (fun j j0 j1 => (q3 j j0 j1).2) (by omega) (by omega) z2 z3 z4
          obtain ⟨T, r1, r2⟩ := ih (i + 1) (t + z) (by omega) (by omega) (by omega) (by omega) (by omega)
          refine ⟨T, ?_, ?_⟩
          · rw [t1_stretchBegin_c19, m_w_of (x := i) (by omega) (by omega), m_w_of (x := q) (by omega) (by omega), if_pos (by omega), if_pos k1h, lc, n_bs]
            show (some (t + z) >>= fun x5 => t1_stretchBegin_c19 121 w q x5 (i + 1) h2) = _
            rw [n_bs]
            exact r1
          · rw [t11_stretch_x35, if_pos rfl, m_w_of (x := i) (by omega) (by omega), m_w_of (x := q) (by omega) (by omega), if_pos (by omega), if_pos (n_t127 J2.2), n_p127_83 J2.2, m_w_of (x := t) (by omega) (by omega), if_pos ⟨n_t310 J2.2, by omega, by omega⟩, qt.2.1, n_bs, lr]
            exact r2
      have cont : ∀ T, t1_stretchBegin 121 w q h2 = some (T, h2) → (if true = true then if m_t h2 1 = 10 then if m_t h2 (m_g h2 1 9) = 1 then t1_stretchBegin (m_g h2 1 9) w q h2 >>= fun ⟨r9, h8⟩ => some (r9, h8) else none else none else some (-1, h2)) = some (T, h2) := fun T e => by
        rw [if_pos rfl, if_pos (n_t1 I2.2), n_p1_9 I2.2, if_pos k1h, e, n_bs]
      have contR : ∀ (b : Bool), b = decide (0 ≤ q ∧ q < F 0) → t11_in (m_w q) 0 (m_w (m_g g2 311 0 - 1)) g2 = some (b, g2) := fun b hb => by
        rw [m_w_of c1 c2, m_w_of (by omega) (by omega), n_in (by omega) (by omega) (by omega) (by omega) (by omega) (by omega), hb]
        rw [show decide (0 ≤ q ∧ q ≤ m_g g2 311 0 - 1) = decide (0 ≤ q ∧ q < F 0) from decide_eq_decide.mpr (by omega)]
      by_cases sq : 0 ≤ q ∧ q < F 0
      · obtain ⟨T, r1, r2⟩ := main sq.1 sq.2 q.toNat 0 0 (by omega) (by omega) (by omega) nb.1 (by omega)
        refine ⟨T, h2, T, g2, cont T ?_, ?_, rfl, R⟩
        · unfold t1_stretchBegin
          rw [m_w_of c1 c2, if_neg (by omega), if_pos k1h, es, n_bs]
          show (if q < m_w (F 0) then _ else _) = _
          rw [m_w_of (by omega) (by omega), if_pos sq.2]
          exact r1
        · rw [if_pos (n_t127 I2.2), e2, n_bs]
          show (if true = true then if m_t g2 127 = 11 then if m_t g2 (m_g g2 127 84) = 20 ∧ (0 : Int) ≤ 0 ∧ 0 < m_l g2 (m_g g2 127 84) then t11_in (m_w q) 0 (m_w (m_g g2 (m_g g2 127 84) 0 - 1)) g2 >>= _ else none else none else _) = _
          rw [if_pos rfl, if_pos (n_t127 J2.2), n_p127_84 J2.2, if_pos ⟨n_t311 J2.2, by omega, by omega⟩, contR true (decide_eq_true sq).symm, n_bs]
          exact r2
      · refine ⟨-1, h2, -1, g2, cont (-1) ?_, ?_, rfl, R⟩
        · unfold t1_stretchBegin
          rw [m_w_of c1 c2]
          by_cases e : q < 0
          · rw [if_pos e]
          · rw [if_neg e, if_pos k1h, es, n_bs]
            show (if q < m_w (F 0) then _ else _) = _
            rw [m_w_of (by omega) (by omega), if_neg (by omega)]
        · rw [if_pos (n_t127 I2.2), e2, n_bs]
          show (if true = true then if m_t g2 127 = 11 then if m_t g2 (m_g g2 127 84) = 20 ∧ (0 : Int) ≤ 0 ∧ 0 < m_l g2 (m_g g2 127 84) then t11_in (m_w q) 0 (m_w (m_g g2 (m_g g2 127 84) 0 - 1)) g2 >>= _ else none else none else _) = _
          rw [if_pos rfl, if_pos (n_t127 J2.2), n_p127_84 J2.2, if_pos ⟨n_t311 J2.2, by omega, by omega⟩, contR false (decide_eq_false sq).symm, n_bs]
          rfl
    · rw [decide_eq_false d] at e2 ⊢
      refine ⟨-1, h2, -1, g2, rfl, ?_, rfl, R⟩
      rw [if_pos (n_t127 I2.2), e2, n_bs]
      rfl
  · refine ⟨-1, h, -1, h, ?_, ?_, rfl, n_R_more X⟩
    · unfold t1_coveredBy
      rw [n_isAsked a1 a2 b1 b2, decide_eq_false c]
      rfl
    · unfold t11_covers
      rw [if_pos (n_t127 I.2), n_canAsk a1 a2 b1 b2, decide_eq_false c]
      rfl
theorem n_s_unfound {h : m_H} {k : Int} (X : n_R h k) (k1 : k ≤ 1000) (w m : Int) (a1 : -2147483648 ≤ w) (a2 : w < 2147483648) (b1 : -2147483648 ≤ m) (b2 : m < 2147483648) : n_step h k (t10_unfound 1 w m) (t11_unfound 127 w m) := by
  have X' := X
  obtain ⟨I, gs, bud, x1, x2, x3, x4, x5, x6, x7⟩ := X'
  unfold n_step t10_unfound t11_unfound
  rw [if_pos (n_t1 I.2), n_p1_9 I.2, if_pos (n_t121 I.2)]
  unfold t1_firstUnfound
  rw [n_isAsked a1 a2 b1 b2, n_bs]
  by_cases c : (1 ≤ w ∧ w ≤ 100) ∧ 0 ≤ m ∧ m ≤ 65535
  · obtain ⟨⟨w1, w2⟩, m0, m1⟩ := c
    obtain ⟨h2, em, C0⟩ := n_measure (m := m) I x3 gs x2 x7 bud k1 m0 m1
    have C := n_mE_2 C0
    obtain ⟨R2, iL⟩ := n_finM X C m0 m1 (n_kr_mono n_kr_rfl n_no n_no (by decide))
    obtain ⟨I2, gs2, bud2, y1, y2, y3, y4, y5, y6, y7⟩ := R2
    have T3 := x2.2
    have P := n_mE2_P I C (n_kr_mono n_kr_rfl n_no n_no (by decide))
    have e85 : m_g h2 127 85 = m_g h 127 85 := n_sp_f P (by decide)
    have QL : ∀ t, 0 ≤ t → t < m_g h 127 85 → n_isL h m t (m_g h2 124 t) := C.2.2.2.2.2.2
    obtain ⟨g2, el, J2, K2, q1, q2⟩ := n_longest (g := h2) (m := m) I2 gs2 y2 m0 m1
    obtain ⟨R3, -⟩ := n_finM X C m0 m1 (n_kr_mono K2 (fun b hb => by simp at hb ⊢; omega) (fun b hb => hb) (by decide))
    have eL : ∀ t, 0 ≤ t → t < m_g h 127 85 → m_g g2 310 t = m_g h2 124 t := fun t t0 t1 => n_isL_eq (q1 t t0 (by omega)) (iL t _ (QL t t0 t1))
    have e85g : m_g g2 127 85 = m_g h 127 85 := (K2.2.2 127 85 (by decide) (by simp)).trans e85
    have r119 := n_sp_row I P (n_t119 I.2) (by decide)
    have eN : m_g h2 119 1 = m_g h 127 85 := r119.2.2.1.trans x2.1
    have Lb : ∀ t, 0 ≤ t → t < m_g h 127 85 → 0 ≤ m_g h2 124 t ∧ m_g h2 124 t ≤ m_g h 127 85 - t := fun t t0 t1 => n_isQ_b (Q := n_lay h) (QL t t0 t1) (by omega)
    have sh : ∀ t, 0 ≤ t → t + 1 < m_g h 127 85 → m_g h2 124 t - 1 ≤ m_g h2 124 (t + 1) := fun t t0 t1 => n_isL_shift (QL t t0 (by omega)) (QL (t + 1) (by omega) t1) (by omega)
    have l0 := n_l310 J2.2
    have k1h := n_t121 I2.2
    generalize m_g h 127 85 = n at *
    have main : ∀ (r : Nat) (t f v : Int), t + r = n → 0 ≤ t → 0 ≤ f → f ≤ v → v ≤ n → (t < n → t < v → v - t ≤ m_g h2 124 t) → (f = v ∨ t + w ≤ v) → ∃ T, t1_firstUnfound_x20 20 121 w f t h2 = some (T, h2) ∧ t11_unfound_x20 20 127 w v t g2 = some (T, g2) := by
      intro r
      induction r with
      | zero =>
        intro t f v tr t0 f0 fv vn j1 j2
        refine ⟨-1, ?_, ?_⟩
        · rw [t1_firstUnfound_x20, if_pos rfl, if_pos k1h, n_p121_1 I2.2, if_pos (n_t119 I2.2), n_size (n_t119 I2.2), n_bs, eN]
          show (if m_w t < m_w n then _ else some (-1, h2)) = _
          rw [m_w_of (x := t) (by omega) (by omega), m_w_of (x := n) (by omega) (by omega), if_neg (by omega)]
        · rw [t11_unfound_x20, if_pos rfl, if_pos (n_t127 J2.2), e85g, m_w_of (x := t) (by omega) (by omega), m_w_of (x := n) (by omega) (by omega), if_neg (by omega)]
      | succ r ih =>
        intro t f v tr t0 f0 fv vn j1 j2
        have lt := Lb t t0 (by omega)
        have et := eL t t0 (by omega)
        have j1' := j1 (by omega)
        have eC : t1_firstUnfound_x20 20 121 w f t h2 = t1_firstUnfound_x20 47 121 w (if m_g h2 124 t < w then f else t + w) t h2 := by
          rw [t1_firstUnfound_x20, if_pos rfl, if_pos k1h, n_p121_1 I2.2, if_pos (n_t119 I2.2), n_size (n_t119 I2.2), n_bs, eN]
          show (if m_w t < m_w n then if m_t h2 121 = 1 then t1_longestFrom 121 t h2 >>= _ else none else some (-1, h2)) = _
          rw [m_w_of (x := t) (by omega) (by omega), m_w_of (x := n) (by omega) (by omega), if_pos (by omega), if_pos k1h, n_longF I2 t0 (by omega), n_bs]
          show (if m_w (m_g h2 124 t) < m_w w then _ else some (t + w) >>= _) = _
          rw [m_w_of (x := m_g h2 124 t) (by omega) (by omega), m_w_of (x := w) (by omega) (by omega)]
          by_cases d : m_g h2 124 t < w
          · rw [if_pos d, if_pos d]
          · rw [if_neg d, if_neg d, n_bs]
        have eR : t11_unfound_x20 20 127 w v t g2 = t11_unfound_x20 65 127 w (if m_g h2 124 t < w then v else max v (t + m_g h2 124 t)) t g2 := by
          rw [t11_unfound_x20, if_pos rfl, if_pos (n_t127 J2.2), e85g, m_w_of (x := t) (by omega) (by omega), m_w_of (x := n) (by omega) (by omega), if_pos (by omega), n_p127_83 J2.2, if_pos ⟨n_t310 J2.2, by omega, by omega⟩, et, m_w_of (x := m_g h2 124 t) (by omega) (by omega), m_w_of (x := w) (by omega) (by omega), m_w_of (x := v) (by omega) (by omega), m_w_of (x := t + m_g h2 124 t) (by omega) (by omega)]
          by_cases d : m_g h2 124 t < w
          · rw [if_pos d, if_pos d]
          · rw [if_neg d, if_neg d]
            by_cases d2 : v < t + m_g h2 124 t
            · rw [if_pos d2, n_bs, Int.max_eq_right (by omega)]
            · rw [if_neg d2, Int.max_eq_left (by omega)]
        have goC : ∀ f', 0 ≤ f' → f' ≤ 100000 → t1_firstUnfound_x20 47 121 w f' t h2 = if t < f' then t1_firstUnfound_x20 20 121 w f' (t + 1) h2 else some (t, h2) := fun f' p1 p2 => by
          rw [t1_firstUnfound_x20, if_neg (by omega), if_pos rfl, m_w_of (x := t) (by omega) (by omega), m_w_of (x := f') (by omega) (by omega)]
        have goR : ∀ f', 0 ≤ f' → f' ≤ 100000 → t11_unfound_x20 65 127 w f' t g2 = if t < f' then t11_unfound_x20 20 127 w f' (t + 1) g2 else some (t, g2) := fun f' p1 p2 => by
          rw [t11_unfound_x20, if_neg (by omega), if_pos rfl, m_w_of (x := t) (by omega) (by omega), m_w_of (x := f') (by omega) (by omega)]
        rw [eC, eR]
        by_cases d : m_g h2 124 t < w
        · rw [if_pos d, if_pos d, goC f f0 (by omega), goR v (by omega) (by omega)]
          by_cases e : t < v
          · have fe : f = v := by omega
            rw [if_pos (by omega), if_pos e]
            exact ih (t + 1) f v (by omega) (by omega) f0 fv vn (fun z1 z2 => by have := sh t t0 z1; omega) (Or.inl fe)
          · rw [if_neg (by omega), if_neg e]
            exact ⟨t, rfl, rfl⟩
        · rw [if_neg d, if_neg d]
          have ev : max v (t + m_g h2 124 t) = t + m_g h2 124 t := by omega
          rw [ev, goC (t + w) (by omega) (by omega), goR (t + m_g h2 124 t) (by omega) (by omega), if_pos (by omega), if_pos (by omega)]
          exact ih (t + 1) (t + w) (t + m_g h2 124 t) (by omega) (by omega) (by omega) (by omega) (by omega) (fun z1 z2 => by have := sh t t0 z1; omega) (by omega)
    obtain ⟨T, r1, r2⟩ := main n.toNat 0 0 0 (by omega) (by omega) (by omega) (by omega) (by omega) (fun _ q => by omega) (Or.inl rfl)
    refine ⟨T, h2, T, g2, ?_, ?_, rfl, R3⟩
    · rw [decide_eq_true ⟨⟨w1, w2⟩, m0, m1⟩]
      show ((if true = true then if m_t h 121 = 1 then t1_measure 121 m h >>= _ else none else _) >>= _) = _
      rw [if_pos rfl, if_pos (n_t121 I.2), em, n_bs]
      show (t1_firstUnfound_x20 20 121 w 0 0 h2 >>= _) = _
      rw [r1]
      rfl
    · rw [n_canAsk (by omega) (by omega) (by omega) (by omega), decide_eq_true ⟨⟨w1, w2⟩, m0, m1⟩, n_bs]
      show (if true = true then if m_t h2 127 = 11 then t11_longest 127 m h2 >>= _ else none else _) = _
      rw [if_pos rfl, if_pos (n_t127 I2.2), el, n_bs]
      exact r2
  · refine ⟨-1, h, -1, h, ?_, ?_, rfl, n_R_more X⟩
    · rw [decide_eq_false c]
      rfl
    · rw [n_canAsk a1 a2 b1 b2, decide_eq_false c]
      rfl
