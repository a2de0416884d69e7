/-! CALLS: lead: the walks and the step -/
def n_ldN (g : m_H) (k : Int) : Nat → Int → Int → Int × Int
  | 0, o, x => (o, x)
  | n + 1, o, x => if m_g g (153 + k) o ≤ 1 then (o, x) else n_ldN g k n (n_ls g k o x).1 (n_ls g k o x).2
theorem n_ldN_s (g : m_H) (k : Int) (n : Nat) (o x : Int) : n_ldN g k (n + 1) o x = if m_g g (153 + k) o ≤ 1 then (o, x) else n_ldN g k n (n_ls g k o x).1 (n_ls g k o x).2 := rfl
theorem n_walkC {h : m_H} {k a kk w : Int} (X : n_R h kk) (C : n_pc h k a) : ∀ (n : Nat) (i o x : Int), 0 ≤ i → i + n = 40 → 0 ≤ o → o < m_g h 151 k → m_g h (153 + k) o ≠ 12 → 0 ≤ x → x < m_g h 286 o → t2_leadTo_c50 106 w i (n_h2 h 106 6 7 o x) = t2_leadTo_c81 106 w (n_h2 h 106 6 7 (n_ldN h k n o x).1 (n_ldN h k n o x).2) := by
  intro n
  induction n with
  | zero =>
    intro i o x i0 iN o0 o1 v x0 x1
    rw [t2_leadTo_c50, m_w_of (by omega) (by omega), if_neg (by omega)]
    rfl
  | succ n ih =>
    intro i o x i0 iN o0 o1 v x0 x1
    obtain ⟨J, D, ⟨q2, q6, q7⟩, S, q112, t1⟩ := n_fac67 X C o x
    rw [t2_leadTo_c50, m_w_of (by omega) (by omega), if_pos (by omega), if_pos t1, q2, if_pos (n_scc_t D), q6, n_isSrcC J D o0 o1, n_bs, n_ldN_s]
    dsimp only
    by_cases c : m_g h (153 + k) o ≤ 1
    · rw [decide_eq_true c, if_pos rfl, if_pos c]
    · rw [decide_eq_false c, if_neg c, if_neg (by decide), if_pos t1, n_stepC X C o0 o1 (by omega) v x0 x1, n_bs]
      obtain ⟨s1, s2, s3, s4⟩ := n_stp X.2.1 C o0 o1 (by omega) v x0 x1
      exact ih (i + 1) _ _ (by omega) (by omega) s1.1 (by omega) s2 s3 s4
theorem n_walkR {g : m_H} {k a w : Int} (I : n_I g) (G : n_gs g) (C : n_pc g k a) (w1 : w = 1 ∨ w = 2) : ∀ (n : Nat) (o x : Int), 0 ≤ o → o < n → o < m_g g 151 k → m_g g (153 + k) o ≠ 12 → 0 ≤ x → x < m_g g 286 o → t11_lead_c104 127 w (n_h2 g 127 73 74 o x) = some ((if w = 1 then m_g g 287 (n_ldN g k n o x).1 else (n_ldN g k n o x).2), n_h2 g 127 73 74 (n_ldN g k n o x).1 (n_ldN g k n o x).2) := by
  have c3 := C.1.2.2.1
  have k0 : 0 ≤ k := C.2.2.2.2.1
  have k1 : k < 9 := by have := C.1.2.1.2; omega
  intro n
  induction n with
  | zero => intro o x o0 o1; omega
  | succ n ih =>
    intro o x o0 oN o1 v x0 x1
    have B := n_scc_b C.1 o0 o1
    have b1 := B.1
    have b2 := B.2.1
    have J : n_I (n_h2 g 127 73 74 o x) := by
      rw [← n_h2_pp (by omega)]
      exact n_I_p (n_I_p I (by rw [n_t127 I.2]; omega) (by rw [n_t127 I.2]; omega) rfl) (by rw [m_t_p, n_t127 I.2]; omega) (by rw [m_t_p, n_t127 I.2]; omega) rfl
    have e : ∀ b j, b ≠ 127 → m_g (n_h2 g 127 73 74 o x) b j = m_g g b j := fun b j hb => n_h2_o (Or.inl hb)
    have q60 : m_g (n_h2 g 127 73 74 o x) 127 60 = k := (n_h2_o (Or.inr ⟨by omega, by omega⟩)).trans C.2.2.2.1
    have q73 : m_g (n_h2 g 127 73 74 o x) 127 73 = o := (n_h2_1 (by omega)).1
    have q74 : m_g (n_h2 g 127 73 74 o x) 127 74 = x := (n_h2_1 (by omega)).2
    have F := J.2
    have l287 := n_l287 F
    rw [t11_lead_c104, if_pos (n_t127 F), q60, m_w_of (x := k) (by omega) (by omega), if_pos (n_c35 F k0 k1), n_a35 F k0 k1, q73, m_w_of (x := o) (by omega) (by omega), if_pos (n_d35 F k0 k1 o0 (by omega)), e (153 + k) o (by omega), m_w_of (x := m_g g (153 + k) o) (by omega) (by omega), n_ldN_s]
    by_cases c : m_g g (153 + k) o ≤ 1
    · rw [if_neg (by omega), if_pos c, m_w_of (x := w) (by omega) (by omega), n_p127_65 F, if_pos (show m_t (n_h2 g 127 73 74 o x) 287 = 20 ∧ 0 ≤ o ∧ o < m_l (n_h2 g 127 73 74 o x) 287 from ⟨n_t287 F, o0, by omega⟩), e 287 o (by omega), q74]
      by_cases d : w = 1
      · rw [if_pos d, if_pos d]
      · rw [if_neg d, if_neg d]
    · obtain ⟨s1, s2, s3, s4⟩ := n_stp G C o0 o1 (by omega) v x0 x1
      rw [if_pos (by omega), if_neg c, n_stepR I G C o0 o1 (by omega) v x0 x1, n_bs]
      exact ih _ _ s1.1 (by omega) (by omega) s2 s3 s4
/-- the first put on a track that has the time -/
def n_fp (g : m_H) (k t tr r : Int) : Prop := (r = -1 ∧ ∀ o, 0 ≤ o → o < m_g g 151 k → ¬ (m_g g (153 + k) o = 12 ∧ m_g g (193 + k) o = tr ∧ n_in0 g k t o = true)) ∨ ((0 ≤ r ∧ r < m_g g 151 k) ∧ (m_g g (153 + k) r = 12 ∧ m_g g (193 + k) r = tr ∧ n_in0 g k t r = true) ∧ ∀ o, 0 ≤ o → o < r → ¬ (m_g g (153 + k) o = 12 ∧ m_g g (193 + k) o = tr ∧ n_in0 g k t o = true))
theorem n_fp_u {g : m_H} {k t tr r s : Int} (A : n_fp g k t tr r) (B : n_fp g k t tr s) : r = s := by
  rcases A with ⟨a1, a2⟩ | ⟨a1, a2, a3⟩
  · rcases B with ⟨b1, b2⟩ | ⟨b1, b2, b3⟩
    · omega
    · exact absurd b2 (a2 s b1.1 b1.2)
  · rcases B with ⟨b1, b2⟩ | ⟨b1, b2, b3⟩
    · exact absurd a2 (b2 r a1.1 a1.2)
    · rcases Int.lt_trichotomy r s with c | c | c
      · exact absurd a2 (b3 r a1.1 c)
      · exact c
      · exact absurd b2 (a3 s b1.1 c)
theorem n_bw_u {g : m_H} {k o t r s : Int} (b : n_ordB g k o) (A : n_bw g k o t r) (B : n_bw g k o t s) : r = s := by
  rcases A with ⟨a1, a2⟩ | ⟨i, i0, i1, a3, a4, a5⟩
  · rcases B with ⟨b1, b2⟩ | ⟨j, j0, j1, b3, b4, b5⟩
    · omega
    · exact absurd b3 (a2 j j0 j1)
  · rcases B with ⟨b1, b2⟩ | ⟨j, j0, j1, b3, b4, b5⟩
    · exact absurd a3 (b2 i i0 i1)
    · rcases Int.lt_trichotomy i j with c | c | c
      · exact absurd a3 (b5 i i0 c)
      · rw [a4, b4, c]
      · exact absurd b3 (a5 j j0 c)
theorem n_firstC {h : m_H} {k a t tr : Int} (I : n_I h) (C : n_pc h k a) (t1 : -2147483648 ≤ t) (t2 : t < 2147483648) (r1 : -2147483648 ≤ tr) (r2 : tr < 2147483648) : ∃ r, t2_firstPut 106 t tr h = some (r, h) ∧ n_fp h k t tr r := by
  obtain ⟨c1, c2⟩ := n_pcI C
  have t6 := n_t106 I.2
  have c3 := C.1.2.2.1
  have eN := C.1.1.2.1
  have st : ∀ i, 0 ≤ i → i < m_g h 151 k → (m_g h (153 + k) i = 12 ∧ m_g h (193 + k) i = tr ∧ n_in0 h k t i = true → t2_firstPut_c2 106 t tr i h = some (i, h)) ∧ (¬ (m_g h (153 + k) i = 12 ∧ m_g h (193 + k) i = tr ∧ n_in0 h k t i = true) → t2_firstPut_c2 106 t tr i h = t2_firstPut_c2 106 t tr (i + 1) h) := fun i i0 i1 => by
    have B := n_scc_b C.1 i0 i1
    have tb := n_tm_b B
    have od := n_scc_o C.1 i0 i1
    obtain ⟨x, ex, bx⟩ := n_beginWith I C i0 i1 t1 t2
    obtain ⟨w0, w1, w2⟩ := n_bw_in B bx
    have e : t2_firstPut_c2 106 t tr i h = if m_w (m_g h (m_g h a 0) (8 * i + 4)) = tr then (if x = -1 then t2_firstPut_c2 106 t tr (i + 1) h else some (i, h)) else t2_firstPut_c2 106 t tr (i + 1) h := by
      rw [t2_firstPut_c2, if_pos t6, c1, if_pos c2, eN, m_w_of (x := i) (by omega) (by omega), m_w_of (x := m_g h 151 k) (by omega) (by omega), if_pos i1]
      unfold t2_track
      rw [if_pos t6, c1, if_pos c2, n_cell I C.1 i0 i1 (by omega) (by omega), n_bs]
      dsimp only
      rw [n_bs]
      dsimp only
      rw [m_w_of r1 r2, if_pos t6, ex, n_bs]
      dsimp only
      rw [m_w_of (x := x) (by omega) (by omega)]
    rw [e]
    constructor
    · intro ⟨z1, z2, z3⟩
      have pt := (n_putB B z1).2.2.1
      rw [w0] at z3
      rw [od.2.2.2.2.1 (by omega), m_w_of (by omega) (by omega), if_pos z2, if_neg (of_decide_eq_true z3)]
    · intro z
      by_cases d : m_w (m_g h (m_g h a 0) (8 * i + 4)) = tr
      · rw [if_pos d]
        by_cases d2 : x = -1
        · rw [if_pos d2]
        · exfalso
          have it : n_in0 h k t i = true := by rw [w0]; exact decide_eq_true d2
          have v : m_g h (153 + k) i = 12 := by
            rcases bx with ⟨q, -⟩ | ⟨j, j0, j1, -⟩
            · exact absurd q d2
            · exact tb.2.2 (by omega)
          have pt := (n_putB B v).2.2.1
          rw [od.2.2.2.2.1 (by omega), m_w_of (by omega) (by omega)] at d
          exact z ⟨v, d, it⟩
      · rw [if_neg d]
  unfold t2_firstPut
  rcases n_find (fun i => t2_firstPut_c2 106 t tr i h) 0 (m_g h 151 k) (fun i => m_g h (153 + k) i = 12 ∧ m_g h (193 + k) i = tr ∧ n_in0 h k t i = true) c3.1 (fun i i0 i1 hp => (st i i0 i1).2 hp) with ⟨x, y⟩ | ⟨i, x, y, z, u, w⟩
  · refine ⟨-1, y.trans ?_, Or.inl ⟨rfl, x⟩⟩
    show t2_firstPut_c2 106 t tr (m_g h 151 k) h = _
    rw [t2_firstPut_c2, if_pos t6, c1, if_pos c2, eN, if_neg (by omega)]
  · exact ⟨i, w.trans ((st i x y).1 z), Or.inr ⟨⟨x, y⟩, z, u⟩⟩
theorem n_firstR {g : m_H} {k a t tr w : Int} (I : n_I g) (C : n_pc g k a) (t1 : -2147483648 ≤ t) (t2 : t < 2147483648) (r1 : -2147483648 ≤ tr) (r2 : tr < 2147483648) (w0 : 0 ≤ w) (w1 : w ≤ 2) : (n_fp g k t tr (-1) ∧ t11_lead_c25 127 t tr w 0 g = some (-1, g)) ∨ ∃ r b, n_fp g k t tr r ∧ (0 ≤ r ∧ r < m_g g 151 k) ∧ n_bw g k r t b ∧ b ≠ -1 ∧ t11_lead_c25 127 t tr w 0 g = if w = 0 then some (r, g) else t11_lead_c104 127 w (n_h2 g 127 73 74 (m_g g (163 + k) r) (t - b)) := by
  have tM := n_t127 I.2
  have c3 := C.1.2.2.1
  have k0 : 0 ≤ k := C.2.2.2.2.1
  have k1 : k < 9 := by have := C.1.2.1.2; omega
  have N1 : m_g g 127 62 = n_off g k (m_g g 151 k).toNat := C.2.2.1.2.2.2.2.2.2.1
  have nb := n_off_b (g := g) (k := k) (m_g g 151 k).toNat (fun x x0 x1 => C.1.2.2.2 x x0 (by omega))
  have l8 := n_l288 I.2
  have l9 := n_l289 I.2
  have l0 := n_l290 I.2
  have k8 := n_t288 I.2
  have k9 := n_t289 I.2
  have kz := n_t290 I.2
  have lay : ∀ l, 0 ≤ l → l < m_g g 127 62 → ∃ o j, (0 ≤ o ∧ o < m_g g 151 k) ∧ (0 ≤ j ∧ j < n_tm g k o) ∧ l = n_off g k o.toNat + j ∧ m_g g 288 l = o ∧ m_g g 289 l = m_g g (193 + k) o ∧ m_g g 290 l = n_bg g k o j ∧ m_g g 291 l = n_ln g k o ∧ (0 ≤ n_bg g k o j ∧ n_bg g k o j ≤ 10500) ∧ (1 ≤ n_ln g k o ∧ n_ln g k o ≤ 1500) ∧ (0 ≤ m_g g (193 + k) o ∧ m_g g (193 + k) o ≤ 15) ∧ m_g g (153 + k) o = 12 := fun l z0 z1 => by
    obtain ⟨o, j, x, y, z⟩ := n_layEx C (m_g g 151 k).toNat (by omega) l z0 (by omega)
    have xb : o < m_g g 151 k := by omega
    have L := n_layL C x.1 xb y.1 y.2
    have b := n_scc_b C.1 x.1 xb
    have tb := n_tm_b b
    have v := tb.2.2 (by omega)
    have bb := n_bg_b b v y.1 (by omega)
    have lb := n_ln_b C x.1 xb v
    have pb := (n_putB b v).2.2.1
    rw [← z] at L
    exact ⟨o, j, ⟨x.1, xb⟩, y, z, L.2.1, L.2.2.1, L.2.2.2.1, L.2.2.2.2, bb, ⟨lb.1, lb.2.1⟩, pb, v⟩
  have st : ∀ l, 0 ≤ l → l < m_g g 127 62 → t11_lead_c25 127 t tr w l g = if m_g g 289 l = tr ∧ (m_g g 290 l ≤ t ∧ t < m_g g 290 l + m_g g 291 l) then (if w = 0 then some (m_g g 288 l, g) else t11_lead_c104 127 w (n_h2 g 127 73 74 (m_g g (163 + k) (m_g g 288 l)) (t - m_g g 290 l))) else t11_lead_c25 127 t tr w (l + 1) g := fun l x0 x1 => by
    obtain ⟨o, j, u1, u2, u3, u4, u5, u6, u7, u8, u9, u10, u11⟩ := lay l x0 x1
    have ov := n_isOver (g := g) (gg := g) (l := l) (t := t) I u6 u7 x0 (by omega) u8.1 (by omega) (by omega) (by omega) t1 t2
    have wl := m_w_of (x := l) (by omega) (by omega)
    have c9 : m_t g 289 = 20 ∧ 0 ≤ l ∧ l < m_l g 289 := ⟨k9, x0, by omega⟩
    have c8 : m_t g 288 = 20 ∧ 0 ≤ l ∧ l < m_l g 288 := ⟨k8, x0, by omega⟩
    rw [t11_lead_c25, if_pos tM, wl, m_w_of (x := m_g g 127 62) (by omega) (by omega), if_pos x1, n_p127_67 I.2, if_pos c9, u5, m_w_of (x := m_g g (193 + k) o) (by omega) (by omega), m_w_of r1 r2]
    by_cases d : m_g g (193 + k) o = tr
    · rw [if_pos d, ov, n_bs, u6, u7]
      dsimp only
      by_cases e : n_bg g k o j ≤ t ∧ t < n_bg g k o j + n_ln g k o
      · have cc : m_g g (193 + k) o = tr ∧ n_bg g k o j ≤ t ∧ t < n_bg g k o j + n_ln g k o := ⟨d, e⟩
        rw [decide_eq_true e, if_pos rfl, if_pos cc, m_w_of (x := w) (by omega) (by omega), u4]
        by_cases f : w = 0
        · rw [if_pos f, if_pos f, if_pos tM, n_p127_66 I.2, if_pos c8, u4]
        · have e60 : m_g g 127 60 = k := C.2.2.2.1
          have J1 : n_I (m_p g 127 73 (m_g g (163 + k) o)) := n_I_p I (by rw [tM]; omega) (by rw [tM]; omega) rfl
          have l0' := n_l290 J1.2
          rw [if_neg f, if_neg f, if_pos tM, e60, m_w_of (x := k) (by omega) (by omega), if_pos (n_c36 I.2 k0 k1), n_a36 I.2 k0 k1, n_p127_66 I.2, if_pos c8, u4, m_w_of (x := o) (by omega) (by omega), if_pos (n_d36 I.2 k0 k1 u1.1 (by omega)), n_bs, if_pos (n_t127 J1.2), n_p127_68 J1.2, if_pos ⟨n_t290 J1.2, x0, by omega⟩, n_gp_n (by omega), u6, n_bs, n_h2_pp (by omega)]
      · have cc : ¬ (m_g g (193 + k) o = tr ∧ n_bg g k o j ≤ t ∧ t < n_bg g k o j + n_ln g k o) := fun q => e q.2
        rw [decide_eq_false e, if_neg cc]
        rfl
    · have cc : ¬ (m_g g (193 + k) o = tr ∧ m_g g 290 l ≤ t ∧ t < m_g g 290 l + m_g g 291 l) := fun q => d q.1
      rw [if_neg d, if_neg cc]
  rcases n_find (fun l => t11_lead_c25 127 t tr w l g) 0 (m_g g 127 62) (fun l => m_g g 289 l = tr ∧ (m_g g 290 l ≤ t ∧ t < m_g g 290 l + m_g g 291 l)) (by omega) (fun l x0 x1 hp => by
    show t11_lead_c25 127 t tr w l g = t11_lead_c25 127 t tr w (l + 1) g
    rw [st l x0 x1]
    exact if_neg hp) with ⟨x, y⟩ | ⟨l, x, y, z, u, v⟩
  · left
    refine ⟨Or.inl ⟨rfl, fun o o0 o1 ⟨q1, q2, q3⟩ => ?_⟩, y.trans ?_⟩
    · obtain ⟨j, j0, j1, jv⟩ := (n_ovN_t (g := g) (k := k) (o := o) (t := t) (n_tm g k o).toNat).mp q3
      have L := n_layL C o0 o1 j0 (by omega)
      refine x _ L.1.1 L.1.2.1 ⟨by rw [L.2.2.1]; exact q2, ?_⟩
      rw [L.2.2.2.1, L.2.2.2.2]
      exact jv
    · show t11_lead_c25 127 t tr w (m_g g 127 62) g = _
      rw [t11_lead_c25, if_pos tM, if_neg (by omega)]
  · right
    obtain ⟨o, j, u1, u2, u3, u4, u5, u6, u7, u8, u9, u10, u11⟩ := lay l x y
    have zv : n_ov g k o t j := by
      have := z.2
      rw [u6, u7] at this
      exact this
    have frst : ∀ o' j', 0 ≤ o' → o' < m_g g 151 k → 0 ≤ j' → j' < n_tm g k o' → (o' < o ∨ (o' = o ∧ j' < j)) → m_g g (193 + k) o' = tr → ¬ n_ov g k o' t j' := fun o' j' o0 o1 j0 j1 lt tr' ov => by
      have L := n_layL C o0 o1 j0 j1
      have := (n_layLt C o0 o1 u1.1 u1.2 j0 j1 u2.1 u2.2).mpr lt
      refine u _ L.1.1 (by omega) ⟨by rw [L.2.2.1]; exact tr', ?_⟩
      rw [L.2.2.2.1, L.2.2.2.2]
      exact ov
    have tr0 : m_g g (193 + k) o = tr := by rw [← u5]; exact z.1
    refine ⟨o, n_bg g k o j, Or.inr ⟨u1, ⟨u11, tr0, (n_ovN_t (n_tm g k o).toNat).mpr ⟨j, u2.1, by omega, zv⟩⟩, fun o' o0 o1 ⟨q1, q2, q3⟩ => ?_⟩, u1, Or.inr ⟨j, u2.1, u2.2, zv, rfl, fun i i0 i1 => frst o i u1.1 u1.2 i0 (by omega) (Or.inr ⟨rfl, i1⟩) tr0⟩, by omega, ?_⟩
    · obtain ⟨j', j0, j1, jv⟩ := (n_ovN_t (g := g) (k := k) (o := o') (t := t) (n_tm g k o').toNat).mp q3
      exact frst o' j' o0 (by omega) j0 (by omega) (Or.inl o1) q2 jv
    · refine v.trans ?_
      show t11_lead_c25 127 t tr w l g = _
      rw [st l x y, u4, u6]
      have zz := z
      rw [u6] at zz
      exact if_pos zz
