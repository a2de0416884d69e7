/-! CALLS: make ..: the reference's operations on rows, second half -/
theorem n_rjoin {g : m_H} {o a b k : Int} (I : n_I g) (o0 : 0 ≤ o) (o1 : o < 40) (a0 : 0 ≤ a) (a1 : a < o) (b0 : 0 ≤ b) (b1 : b < o) (l1 : 1 ≤ m_g g 278 a) (l2 : m_g g 278 a ≤ 1500) (m1 : 1 ≤ m_g g 278 b) (m2 : m_g g 278 b ≤ 1500) (k0 : 0 ≤ k) (k1 : k ≤ 40) (ha : n_sB (m_g g (238 + a)) (m_g g 278 a)) (hb : n_sB (m_g g (238 + b)) (m_g g 278 b)) : (¬ (k ≤ m_g g 278 a ∧ k ≤ m_g g 278 b ∧ m_g g 278 a + m_g g 278 b - k ≤ 1500) → t11_splices 127 o a b k g = some (false, g)) ∧ (k ≤ m_g g 278 a ∧ k ≤ m_g g 278 b ∧ m_g g 278 a + m_g g 278 b - k ≤ 1500 → ∃ g', t11_splices 127 o a b k g = some (true, g') ∧ n_rop g g' o (m_g g 278 a + m_g g 278 b - k) (n_jn (m_g g (238 + a)) (m_g g (238 + b)) (m_g g 278 a - k) k)) := by
  have F := I.2
  have tM := n_t127 F
  have wa := m_w_of (x := a) (by omega) (by omega)
  have wb := m_w_of (x := b) (by omega) (by omega)
  have wo := m_w_of (x := o) (by omega) (by omega)
  have wk := m_w_of (x := k) (by omega) (by omega)
  have wA := m_w_of (x := m_g g 278 a) (by omega) (by omega)
  have wB := m_w_of (x := m_g g 278 b) (by omega) (by omega)
  have ca := n_c51 F a0 (show a < 40 by omega)
  have cb := n_c51 F b0 (show b < 40 by omega)
  rw [n_p127_51 F] at ca cb
  have e0 : t11_splices 127 o a b k g = if m_g g 278 a < k then some (false, g) else if m_g g 278 b < k then some (false, g) else if 1500 < m_g g 278 a + m_g g 278 b - k then some (false, g) else t11_splices_c52 127 o a b k 0 0 g := by
    unfold t11_splices
    rw [if_pos tM, wa, wb, n_p127_51 F, if_pos ca, wA, wk, if_pos cb, wB, m_w_of (x := m_g g 278 a + m_g g 278 b - k) (by omega) (by omega)]
  rw [e0]
  constructor
  · intro c
    by_cases d1 : m_g g 278 a < k
    · rw [if_pos d1]
    · rw [if_neg d1]
      by_cases d2 : m_g g 278 b < k
      · rw [if_pos d2]
      · rw [if_neg d2, if_pos (by omega)]
  · intro c
    rw [if_neg (by omega), if_neg (by omega), if_neg (by omega)]
    generalize hc : m_g g 278 a - k = c' at *
    have jb := fun j (j0 : 0 ≤ j) (j1 : j < c' + m_g g 278 b) => n_jn_b (r1 := m_g g (238 + a)) (r2 := m_g g (238 + b)) (c := c') (k := k) (l2 := m_g g 278 b) (j := j) k0 (fun i i0 i1 => ha i i0 (by omega)) hb j0 j1
    have fac : ∀ i, n_I (n_fl g (238 + o) 0 i (n_jn (m_g g (238 + a)) (m_g g (238 + b)) c' k)) ∧ ∀ x j, x ≠ 238 + o → m_g (n_fl g (238 + o) 0 i (n_jn (m_g g (238 + a)) (m_g g (238 + b)) c' k)) x j = m_g g x j := fun i => n_rfl I o0 o1
    have key1 := n_fillF (fun i h => t11_splices_c52 127 o a b k i i h) (h := g) (a := 238 + o) (lo := 0) (m := 0) (n := c') (n_jn (m_g g (238 + a)) (m_g g (238 + b)) c' k) (by omega) (by omega) (fun i i1 i2 => by
      obtain ⟨J, e⟩ := fac i
      have ef : n_jn (m_g g (238 + a)) (m_g g (238 + b)) c' k i = m_g g (238 + a) i := by unfold n_jn; rw [if_pos i2]
      show t11_splices_c52 127 o a b k i i _ = t11_splices_c52 127 o a b k (i + 1) (i + 1) _
      rw [t11_splices_c52, ef]
      generalize n_fl g (238 + o) 0 i (n_jn (m_g g (238 + a)) (m_g g (238 + b)) c' k) = gi at *
      have Fi := J.2
      rw [if_pos (n_t127 Fi), wa, if_pos (n_c51 Fi a0 (by omega)), n_p127_51 Fi, e 278 a (by omega), hc, m_w_of (x := i) (by omega) (by omega), m_w_of (x := c') (by omega) (by omega), if_pos i2, wo, if_pos (n_c50 Fi o0 o1), if_pos (n_c50 Fi a0 (by omega)), n_a50 Fi a0 (by omega), n_a50 Fi o0 o1, if_pos (n_d50 Fi a0 (by omega) (by omega) (by omega)), if_pos (n_d50 Fi o0 o1 (by omega) (by omega)), e (238 + a) i (by omega), n_bs])
    have key2 := n_fillF (fun i h => t11_splices_c96 127 o a b k i (i - c') h) (h := g) (a := 238 + o) (lo := 0) (m := c') (n := c' + k) (n_jn (m_g g (238 + a)) (m_g g (238 + b)) c' k) (by omega) (by omega) (fun i i1 i2 => by
      obtain ⟨J, e⟩ := fac i
      have s1 := ha i (by omega) (by omega)
      have s2 := hb (i - c') (by omega) (by omega)
      have ef : n_jn (m_g g (238 + a)) (m_g g (238 + b)) c' k i = n_cl (Int.tdiv (m_g g (238 + a) i * (k - (i - c')) + m_g g (238 + b) (i - c') * (i - c' + 1)) (k + 1)) := by unfold n_jn n_jm; rw [if_neg (by omega), if_pos i2]
      show t11_splices_c96 127 o a b k i (i - c') _ = t11_splices_c96 127 o a b k (i + 1) (i + 1 - c') _
      rw [t11_splices_c96, ef]
      generalize n_fl g (238 + o) 0 i (n_jn (m_g g (238 + a)) (m_g g (238 + b)) c' k) = gi at *
      have Fi := J.2
      rw [m_w_of (x := i - c') (by omega) (by omega), wk, if_pos (by omega), if_pos (n_t127 Fi), wo, wa, wb, if_pos (n_c50 Fi o0 o1), if_pos (n_c50 Fi a0 (by omega)), if_pos (n_c51 Fi a0 (by omega)), n_p127_51 Fi, e 278 a (by omega), hc, show c' + (i - c') = i by omega, m_w_of (x := i) (by omega) (by omega), n_a50 Fi a0 (by omega), if_pos (n_d50 Fi a0 (by omega) (by omega) (by omega)), if_pos (n_c50 Fi b0 (by omega)), n_a50 Fi b0 (by omega), if_pos (n_d50 Fi b0 (by omega) (by omega) (by omega)), e (238 + a) i (by omega), e (238 + b) (i - c') (by omega), n_splicedR4 s1.1 s1.2 s2.1 s2.2 (by omega) (by omega) k1, n_bs]
      dsimp only
      rw [n_a50 Fi o0 o1, if_pos (n_d50 Fi o0 o1 (by omega) (by omega)), n_bs, show i - c' + 1 = i + 1 - c' by omega])
    have key3 := n_fillF (fun i h => t11_splices_c160 127 o b i (i - c') h) (h := g) (a := 238 + o) (lo := 0) (m := c' + k) (n := m_g g 278 a + m_g g 278 b - k) (n_jn (m_g g (238 + a)) (m_g g (238 + b)) c' k) (by omega) (by omega) (fun i i1 i2 => by
      obtain ⟨J, e⟩ := fac i
      have ef : n_jn (m_g g (238 + a)) (m_g g (238 + b)) c' k i = m_g g (238 + b) (i - c') := by unfold n_jn; rw [if_neg (by omega), if_neg (by omega)]
      show t11_splices_c160 127 o b i (i - c') _ = t11_splices_c160 127 o b (i + 1) (i + 1 - c') _
      rw [t11_splices_c160, ef]
      generalize n_fl g (238 + o) 0 i (n_jn (m_g g (238 + a)) (m_g g (238 + b)) c' k) = gi at *
      have Fi := J.2
      rw [if_pos (n_t127 Fi), wb, if_pos (n_c51 Fi b0 (by omega)), n_p127_51 Fi, e 278 b (by omega), m_w_of (x := i - c') (by omega) (by omega), wB, if_pos (by omega), wo, if_pos (n_c50 Fi o0 o1), if_pos (n_c50 Fi b0 (by omega)), n_a50 Fi b0 (by omega), n_a50 Fi o0 o1, if_pos (n_d50 Fi b0 (by omega) (by omega) (by omega)), m_w_of (x := i) (by omega) (by omega), if_pos (n_d50 Fi o0 o1 (by omega) (by omega)), e (238 + b) _ (by omega), n_bs, show i - c' + 1 = i + 1 - c' by omega])
    have z : n_fl g (238 + o) 0 0 (n_jn (m_g g (238 + a)) (m_g g (238 + b)) c' k) = g := n_fl_0 _ _ _ _ _ (by omega)
    rw [z] at key1
    refine ⟨_, key1.trans ?_, n_rop_fl I o0 o1⟩
    obtain ⟨J1, f1⟩ := fac c'
    show t11_splices_c52 127 o a b k c' c' _ = _
    rw [t11_splices_c52, if_pos (n_t127 J1.2), wa, if_pos (n_c51 J1.2 a0 (by omega)), n_p127_51 J1.2, f1 278 a (by omega), hc, if_neg (by omega)]
    have z2 : (0 : Int) = c' - c' := by omega
    refine Eq.trans (congrArg (fun x => t11_splices_c96 127 o a b k c' x (n_fl g (238 + o) 0 c' (n_jn (m_g g (238 + a)) (m_g g (238 + b)) c' k))) z2) (key2.trans ?_)
    show t11_splices_c96 127 o a b k (c' + k) (c' + k - c') _ = _
    rw [t11_splices_c96, m_w_of (x := c' + k - c') (by omega) (by omega), wk, if_neg (by omega)]
    have z3 : k = c' + k - c' := by omega
    refine Eq.trans (congrArg (fun x => t11_splices_c160 127 o b (c' + k) x (n_fl g (238 + o) 0 (c' + k) (n_jn (m_g g (238 + a)) (m_g g (238 + b)) c' k))) z3) (key3.trans ?_)
    obtain ⟨J3, f3⟩ := fac (m_g g 278 a + m_g g 278 b - k)
    show t11_splices_c160 127 o b (m_g g 278 a + m_g g 278 b - k) (m_g g 278 a + m_g g 278 b - k - c') _ = _
    have c278 := n_c51 J3.2 o0 o1
    rw [n_p127_51 J3.2] at c278
    rw [t11_splices_c160, if_pos (n_t127 J3.2), wb, if_pos (n_c51 J3.2 b0 (by omega)), n_p127_51 J3.2, f3 278 b (by omega), m_w_of (x := m_g g 278 a + m_g g 278 b - k - c') (by omega) (by omega), wB, if_neg (by omega), wo, if_pos c278, n_bs, m_w_of (x := m_g g 278 a + m_g g 278 b - k) (by omega) (by omega), if_pos (by omega)]
/-- in place: the row of order o, of n samples, is f then -/
def n_rip (g g' : m_H) (o n : Int) (f : Int → Int) : Prop := n_I g' ∧ g'.2 = g.2 ∧ (∀ j, 0 ≤ j → j < n → m_g g' (238 + o) j = f j) ∧ ∀ b j, b ≠ 238 + o → m_g g' b j = m_g g b j
theorem n_recho {g : m_H} {o a b n : Int} (I : n_I g) (o0 : 0 ≤ o) (o1 : o < 40) (en : m_g g 278 o = n) (n1 : 1 ≤ n) (n2 : n ≤ 1500) (a1 : 1 ≤ a) (a2 : a ≤ 500) (b0 : 0 ≤ b) (b1 : b ≤ 255) (hr : n_sB (m_g g (238 + o)) n) : ∃ g', t11_echoes 127 o a b g = some ((), g') ∧ n_rip g g' o n (n_ecT (m_g g (238 + o)) a b n.toNat) := by
  have F := I.2
  have wo := m_w_of (x := o) (by omega) (by omega)
  have wn := m_w_of (x := n) (by omega) (by omega)
  have wb := m_w_of (x := b) (by omega) (by omega)
  have t := (n_rt F o0 o1).1
  have hE := n_ecE_b (a := a) (b := b) hr a1
  have fac : ∀ i, n_I (n_fl g (238 + o) a i (n_ecE (m_g g (238 + o)) a b)) ∧ (∀ x j, x ≠ 238 + o → m_g (n_fl g (238 + o) a i (n_ecE (m_g g (238 + o)) a b)) x j = m_g g x j) := fun i => ⟨n_I_fl I (Or.inl t), fun x j hx => by rw [n_g_fl, if_neg (fun z => hx z.1)]⟩
  unfold t11_echoes
  by_cases c : n ≤ a
  · refine ⟨g, ?_, I, rfl, fun j j0 j1 => ?_, fun _ _ _ => rfl⟩
    · rw [t11_echoes_c3, if_pos (n_t127 F), wo, if_pos (n_c51 F o0 o1), n_p127_51 F, en, m_w_of (x := a) (by omega) (by omega), wn, if_neg (by omega)]
    · rw [n_ecE_at j0 (by omega), n_ecE_eq j0 a1, if_pos (by omega)]
  · have key := n_fill (fun i h => t11_echoes_c3 127 o a b i h) (h := g) (a := 238 + o) (lo := a) (n := n) (n_ecE (m_g g (238 + o)) a b) (by omega) (fun i i1 i2 => by
      obtain ⟨J, e⟩ := fac i
      have e1 : m_g (n_fl g (238 + o) a i (n_ecE (m_g g (238 + o)) a b)) (238 + o) i = m_g g (238 + o) i := by rw [n_g_fl, if_neg (by omega)]
      have e2 : m_g (n_fl g (238 + o) a i (n_ecE (m_g g (238 + o)) a b)) (238 + o) (i - a) = n_ecE (m_g g (238 + o)) a b (i - a) := by
        rw [n_g_fl]
        by_cases d : a ≤ i - a
        · rw [if_pos ⟨rfl, d, by omega⟩]
        · rw [if_neg (by omega), n_ecE_eq (by omega) a1, if_pos (by omega)]
      have s := hr i (by omega) (by omega)
      have s2 := hE (i - a) (by omega) (by omega)
      have b2 := n_mulb (a := n_ecE (m_g g (238 + o)) a b (i - a)) (b := b) (A := 32768) (B := 255) (by omega) (by omega) b0 b1
      have b3 := n_tdb (q := 256) (B := 32768 * 255) (by omega) b2.1 b2.2
      show t11_echoes_c3 127 o a b i _ = t11_echoes_c3 127 o a b (i + 1) _
      rw [t11_echoes_c3, n_ecE_eq (j := i) (by omega) a1, if_neg (show ¬ i < a by omega)]
      generalize n_fl g (238 + o) a i (n_ecE (m_g g (238 + o)) a b) = gi at *
      have Fi := J.2
      rw [if_pos (n_t127 Fi), wo, if_pos (n_c51 Fi o0 o1), n_p127_51 Fi, e 278 o (by omega), en, m_w_of (x := i) (by omega) (by omega), wn, if_pos i2, if_pos (n_c50 Fi o0 o1), n_a50 Fi o0 o1, if_pos (n_d50 Fi o0 o1 (by omega) (by omega)), m_w_of (x := i - a) (by omega) (by omega), if_pos (n_d50 Fi o0 o1 (by omega) (by omega)), e1, e2, m_w_of (x := m_g g (238 + o) i) (by omega) (by omega), m_w_of (x := n_ecE (m_g g (238 + o)) a b (i - a)) (by omega) (by omega), wb, m_v_of (x := n_ecE (m_g g (238 + o)) a b (i - a) * b) (by omega) (by omega), n_bounded (by omega) (by omega), n_bs]
      dsimp only
      rw [if_pos (n_d50 Fi o0 o1 (by omega) (by omega)), n_bs])
    obtain ⟨J, e⟩ := fac n
    refine ⟨_, key.trans ?_, J, rfl, fun j j0 j1 => ?_, e⟩
    · show t11_echoes_c3 127 o a b n _ = _
      rw [t11_echoes_c3, if_pos (n_t127 J.2), wo, if_pos (n_c51 J.2 o0 o1), n_p127_51 J.2, e 278 o (by omega), en, if_neg (by omega)]
    · rw [n_ecE_at j0 (by omega), n_g_fl]
      by_cases d : a ≤ j
      · rw [if_pos ⟨rfl, d, j1⟩]
      · rw [if_neg (by omega), n_ecE_eq j0 a1, if_pos (by omega)]
theorem n_rfade {g : m_H} {o x y n : Int} (I : n_I g) (o0 : 0 ≤ o) (o1 : o < 40) (en : m_g g 278 o = n) (n1 : 1 ≤ n) (n2 : n ≤ 1500) (x0 : 0 ≤ x) (x1 : x ≤ 1500) (y0 : 0 ≤ y) (y1 : y ≤ 1500) (hr : n_sB (m_g g (238 + o)) n) : (¬ (x ≤ n ∧ y ≤ n) → t11_fades 127 o x y g = some (false, g)) ∧ (x ≤ n ∧ y ≤ n → ∃ g', t11_fades 127 o x y g = some (true, g') ∧ n_rip g g' o n (n_fdO (n_fdI (m_g g (238 + o)) x) n y)) := by
  have F := I.2
  have wo := m_w_of (x := o) (by omega) (by omega)
  have wn := m_w_of (x := n) (by omega) (by omega)
  have wx := m_w_of (x := x) (by omega) (by omega)
  have wy := m_w_of (x := y) (by omega) (by omega)
  have t := (n_rt F o0 o1).1
  have e0 : t11_fades 127 o x y g = if n < x then some (false, g) else if n < y then some (false, g) else t11_fades_c25 127 o x y n 0 g := by
    unfold t11_fades
    rw [if_pos (n_t127 F), wo, if_pos (n_c51 F o0 o1), n_p127_51 F, en, n_bs, wn, wx, wy]
  rw [e0]
  constructor
  · intro c
    by_cases d : n < x
    · rw [if_pos d]
    · rw [if_neg d, if_pos (by omega)]
  · intro c
    rw [if_neg (by omega), if_neg (by omega)]
    have key := n_fill (fun i h => t11_fades_c25 127 o x y n i h) (h := g) (a := 238 + o) (lo := 0) (n := x) (fun j => Int.tdiv (m_g g (238 + o) j * j) x) x0 (fun i i1 i2 => by
      obtain ⟨J, e⟩ := n_rfl (g := g) (o := o) (i := i) (f := fun j => Int.tdiv (m_g g (238 + o) j * j) x) I o0 o1
      have e1 : m_g (n_fl g (238 + o) 0 i (fun j => Int.tdiv (m_g g (238 + o) j * j) x)) (238 + o) i = m_g g (238 + o) i := by rw [n_g_fl, if_neg (by omega)]
      have s := hr i i1 (by omega)
      have bm := n_mulb (a := m_g g (238 + o) i) (b := i) (A := 32768) (B := 1500) (by omega) (by omega) i1 (by omega)
      show t11_fades_c25 127 o x y n i _ = t11_fades_c25 127 o x y n (i + 1) _
      rw [t11_fades_c25]
      generalize n_fl g (238 + o) 0 i (fun j => Int.tdiv (m_g g (238 + o) j * j) x) = gi at *
      have Fi := J.2
      rw [m_w_of (x := i) (by omega) (by omega), wx, if_pos i2, if_pos (n_t127 Fi), wo, if_pos (n_c50 Fi o0 o1), n_a50 Fi o0 o1, if_pos (n_d50 Fi o0 o1 i1 (by omega)), m_v_of (x := x) (by omega) (by omega), if_neg (by omega), e1, m_w_of (x := m_g g (238 + o) i) (by omega) (by omega), m_v_of (x := m_g g (238 + o) i * i) (by omega) (by omega), n_bs])
    obtain ⟨J1, f1⟩ := n_rfl (g := g) (o := o) (i := x) (f := fun j => Int.tdiv (m_g g (238 + o) j * j) x) I o0 o1
    have g1 : ∀ j, 0 ≤ j → j < n → m_g (n_fl g (238 + o) 0 x (fun j => Int.tdiv (m_g g (238 + o) j * j) x)) (238 + o) j = n_fdI (m_g g (238 + o)) x j := fun j j0 j1 => by
      rw [n_g_fl]
      unfold n_fdI
      by_cases d : j < x
      · rw [if_pos ⟨rfl, j0, d⟩, if_pos d]
      · rw [if_neg (by omega), if_neg d]
    have e2 : (n_fl g (238 + o) 0 x (fun j => Int.tdiv (m_g g (238 + o) j * j) x)).2 = g.2 := rfl
    have fb := n_fdI_b (a := x) hr
    have step : t11_fades_c25 127 o x y n 0 g = t11_fades_c70 127 o y n (n - y) (n_fl g (238 + o) 0 x (fun j => Int.tdiv (m_g g (238 + o) j * j) x)) := by
      refine key.trans ?_
      show t11_fades_c25 127 o x y n x _ = _
      rw [t11_fades_c25, if_neg (by omega), n_bs]
    rw [step]
    generalize n_fl g (238 + o) 0 x (fun j => Int.tdiv (m_g g (238 + o) j * j) x) = gx at *
    have fac : ∀ i, n_I (n_fl gx (238 + o) (n - y) i (n_fdO (n_fdI (m_g g (238 + o)) x) n y)) ∧ (∀ b j, b ≠ 238 + o → m_g (n_fl gx (238 + o) (n - y) i (n_fdO (n_fdI (m_g g (238 + o)) x) n y)) b j = m_g gx b j) := fun i => ⟨n_I_fl J1 (Or.inl (n_rt J1.2 o0 o1).1), fun b j hb => by rw [n_g_fl, if_neg (fun z => hb z.1)]⟩
    have key2 := n_fill (fun i h => t11_fades_c70 127 o y n i h) (h := gx) (a := 238 + o) (lo := n - y) (n := n) (n_fdO (n_fdI (m_g g (238 + o)) x) n y) (by omega) (fun i i1 i2 => by
      obtain ⟨J, e⟩ := fac i
      have e1 : m_g (n_fl gx (238 + o) (n - y) i (n_fdO (n_fdI (m_g g (238 + o)) x) n y)) (238 + o) i = n_fdI (m_g g (238 + o)) x i := by rw [n_g_fl, if_neg (by omega), g1 i (by omega) i2]
      have s := fb i (by omega) i2
      have ef : n_fdO (n_fdI (m_g g (238 + o)) x) n y i = Int.tdiv (n_fdI (m_g g (238 + o)) x i * (n - 1 - i)) y := by unfold n_fdO; rw [if_pos i1]
      have bm := n_mulb (a := n_fdI (m_g g (238 + o)) x i) (b := n - 1 - i) (A := 32768) (B := 1500) (by omega) (by omega) (by omega) (by omega)
      show t11_fades_c70 127 o y n i _ = t11_fades_c70 127 o y n (i + 1) _
      rw [t11_fades_c70, ef]
      generalize n_fl gx (238 + o) (n - y) i (n_fdO (n_fdI (m_g g (238 + o)) x) n y) = gi at *
      have Fi := J.2
      rw [m_w_of (x := i) (by omega) (by omega), wn, if_pos i2, if_pos (n_t127 Fi), wo, if_pos (n_c50 Fi o0 o1), n_a50 Fi o0 o1, if_pos (n_d50 Fi o0 o1 (by omega) (by omega)), wy, m_v_of (x := y) (by omega) (by omega), if_neg (by omega), e1, m_w_of (x := n_fdI (m_g g (238 + o)) x i) (by omega) (by omega), m_w_of (x := n - 1 - i) (by omega) (by omega), m_v_of (x := n_fdI (m_g g (238 + o)) x i * (n - 1 - i)) (by omega) (by omega), n_bs])
    obtain ⟨J, e⟩ := fac n
    refine ⟨_, key2.trans ?_, J, e2, fun j j0 j1 => ?_, fun b j hb => (e b j hb).trans (f1 b j hb)⟩
    · show t11_fades_c70 127 o y n n _ = _
      rw [t11_fades_c70, if_neg (by omega)]
    · rw [n_g_fl]
      by_cases d : n - y ≤ j
      · rw [if_pos ⟨rfl, d, j1⟩]
      · rw [if_neg (by omega), g1 j j0 j1]
        unfold n_fdO
        rw [if_neg d]
theorem n_rgain {g : m_H} {k o a : Int} (I : n_I g) (k0 : 0 ≤ k) (k1 : k < 8) (o0 : 0 ≤ o) (o1 : o < 40) (a0 : 0 ≤ a) (a1 : a < o) (l1 : 1 ≤ m_g g 278 a) (l2 : m_g g 278 a ≤ 1500) (ha : n_sB (m_g g (238 + a)) (m_g g 278 a)) (x0 : 0 ≤ m_g g (183 + k) o) (x1 : m_g g (183 + k) o ≤ 128) : ∃ g', t11_does_c410 127 k o a 0 g = some (true, g') ∧ n_rop g g' o (m_g g 278 a) (fun j => n_cl (Int.tdiv (m_g g (238 + a) j * m_g g (183 + k) o) 64)) := by
  have wa := m_w_of (x := a) (by omega) (by omega)
  have wo := m_w_of (x := o) (by omega) (by omega)
  have wk := m_w_of (x := k) (by omega) (by omega)
  have key := n_fill (fun i h => t11_does_c410 127 k o a i h) (h := g) (a := 238 + o) (lo := 0) (n := m_g g 278 a) (fun j => n_cl (Int.tdiv (m_g g (238 + a) j * m_g g (183 + k) o) 64)) (by omega) (fun i i1 i2 => by
    obtain ⟨J, e⟩ := n_rfl (g := g) (o := o) (i := i) (f := fun j => n_cl (Int.tdiv (m_g g (238 + a) j * m_g g (183 + k) o) 64)) I o0 o1
    have s := ha i i1 i2
    have bm := n_mulb (a := m_g g (238 + a) i) (b := m_g g (183 + k) o) (A := 32768) (B := 128) (by omega) (by omega) x0 x1
    have bt := n_tdb (q := 64) (B := 32768 * 128) (by omega) bm.1 bm.2
    show t11_does_c410 127 k o a i _ = t11_does_c410 127 k o a (i + 1) _
    rw [t11_does_c410]
    generalize n_fl g (238 + o) 0 i (fun j => n_cl (Int.tdiv (m_g g (238 + a) j * m_g g (183 + k) o) 64)) = gi at *
    have Fi := J.2
    rw [if_pos (n_t127 Fi), wa, wo, wk, if_pos (n_c51 Fi a0 (by omega)), n_p127_51 Fi, e 278 a (by omega), m_w_of (x := i) (by omega) (by omega), m_w_of (x := m_g g 278 a) (by omega) (by omega), if_pos i2, if_pos (n_c50 Fi o0 o1), if_pos (n_c50 Fi a0 (by omega)), n_a50 Fi a0 (by omega), if_pos (n_d50 Fi a0 (by omega) (by omega) (by omega)), if_pos (n_c38 Fi k0 (by omega)), n_a38 Fi k0 (by omega), if_pos (n_d38 Fi k0 (by omega) o0 o1), e (238 + a) i (by omega), e (183 + k) o (by omega), m_w_of (x := m_g g (238 + a) i) (by omega) (by omega), m_w_of (x := m_g g (183 + k) o) (by omega) (by omega), m_v_of (x := m_g g (238 + a) i * m_g g (183 + k) o) (by omega) (by omega), n_bounded (by omega) (by omega), n_bs]
    dsimp only
    rw [n_a50 Fi o0 o1, if_pos (n_d50 Fi o0 o1 i1 (by omega)), n_bs])
  obtain ⟨J, e⟩ := n_rfl (g := g) (o := o) (i := m_g g 278 a) (f := fun j => n_cl (Int.tdiv (m_g g (238 + a) j * m_g g (183 + k) o) 64)) I o0 o1
  refine ⟨_, key.trans ?_, n_rop_fl I o0 o1⟩
  show t11_does_c410 127 k o a (m_g g 278 a) _ = _
  have c278 := n_c51 J.2 o0 o1
  rw [n_p127_51 J.2] at c278
  rw [t11_does_c410, if_pos (n_t127 J.2), wa, wo, if_pos (n_c51 J.2 a0 (by omega)), n_p127_51 J.2, e 278 a (by omega), if_neg (by omega), if_pos c278, n_bs]
theorem n_rfilt {g : m_H} {o a x y z : Int} (I : n_I g) (o0 : 0 ≤ o) (o1 : o < 40) (a0 : 0 ≤ a) (a1 : a < o) (l1 : 1 ≤ m_g g 278 a) (l2 : m_g g 278 a ≤ 1500) (ha : n_sB (m_g g (238 + a)) (m_g g 278 a)) (x0 : 0 ≤ x) (x1 : x ≤ 128) (y0 : 0 ≤ y) (y1 : y ≤ 128) (z0 : 0 ≤ z) (z1 : z ≤ 128) : ∃ g', t11_filters 127 o a x y z g = some ((), g') ∧ n_rop g g' o (m_g g 278 a) (fun j => n_cl (n_ft (m_g g (238 + a)) (m_g g 278 a) x y z j)) := by
  have wa := m_w_of (x := a) (by omega) (by omega)
  have wo := m_w_of (x := o) (by omega) (by omega)
  have wx := m_w_of (x := x) (by omega) (by omega)
  have wy := m_w_of (x := y) (by omega) (by omega)
  have wz := m_w_of (x := z) (by omega) (by omega)
  have wn := m_w_of (x := m_g g 278 a) (by omega) (by omega)
  have key := n_fill (fun i h => t11_filters_c11 127 o a x y z (m_g g 278 a) i h) (h := g) (a := 238 + o) (lo := 0) (n := m_g g 278 a) (fun j => n_cl (n_ft (m_g g (238 + a)) (m_g g 278 a) x y z j)) (by omega) (fun i i1 i2 => by
    obtain ⟨J, e⟩ := n_rfl (g := g) (o := o) (i := i) (f := fun j => n_cl (n_ft (m_g g (238 + a)) (m_g g 278 a) x y z j)) I o0 o1
    have zb : ∀ j, -32768 ≤ n_z (m_g g (238 + a)) (m_g g 278 a) j ∧ n_z (m_g g (238 + a)) (m_g g 278 a) j ≤ 32767 := fun j => by
      unfold n_z
      by_cases c : 0 ≤ j ∧ j < m_g g 278 a
      · rw [if_pos c]; exact ha j c.1 c.2
      · rw [if_neg c]; omega
    have s := ha i i1 i2
    have bm := n_ft_b (zb (i - 1)).1 (zb (i - 1)).2 s.1 s.2 (zb (i + 1)).1 (zb (i + 1)).2 x0 x1 y0 y1 z0 z1
    have bt := n_tdb (q := 64) (B := 13000000) (by omega) bm.1 bm.2
    have ef : n_ft (m_g g (238 + a)) (m_g g 278 a) x y z i = Int.tdiv (n_z (m_g g (238 + a)) (m_g g 278 a) (i - 1) * x + m_g g (238 + a) i * y + n_z (m_g g (238 + a)) (m_g g 278 a) (i + 1) * z) 64 := rfl
    have pz : 0 < i → n_z (m_g g (238 + a)) (m_g g 278 a) (i - 1) = m_g g (238 + a) (i - 1) := fun c => n_z_in (by omega) (by omega)
    have pz0 : ¬ 0 < i → n_z (m_g g (238 + a)) (m_g g 278 a) (i - 1) = 0 := fun c => by unfold n_z; rw [if_neg (by omega)]
    have nz : i + 1 < m_g g 278 a → n_z (m_g g (238 + a)) (m_g g 278 a) (i + 1) = m_g g (238 + a) (i + 1) := fun c => n_z_in (by omega) (by omega)
    have nz0 : ¬ i + 1 < m_g g 278 a → n_z (m_g g (238 + a)) (m_g g 278 a) (i + 1) = 0 := fun c => by unfold n_z; rw [if_neg (by omega)]
    show t11_filters_c11 127 o a x y z (m_g g 278 a) i _ = t11_filters_c11 127 o a x y z (m_g g 278 a) (i + 1) (m_p _ (238 + o) i (n_cl (n_ft (m_g g (238 + a)) (m_g g 278 a) x y z i)))
    rw [t11_filters_c11, ef]
    generalize n_fl g (238 + o) 0 i (fun j => n_cl (n_ft (m_g g (238 + a)) (m_g g 278 a) x y z j)) = gi at *
    have Fi := J.2
    have wi := m_w_of (x := i) (by omega) (by omega)
    have wi1 := m_w_of (x := i + 1) (by omega) (by omega)
    have wim := m_w_of (x := i - 1) (by omega) (by omega)
    have di := n_d50 Fi a0 (show a < 40 by omega) i1 (show i < 1500 by omega)
    have ws := m_w_of (x := m_g g (238 + a) i) (by omega) (by omega)
    have fin : ∀ q, q = n_z (m_g g (238 + a)) (m_g g 278 a) (i - 1) * x + m_g g (238 + a) i * y + n_z (m_g g (238 + a)) (m_g g 278 a) (i + 1) * z → (some q >>= fun x9 => if m_t gi (m_g gi 127 50) = 29 ∧ 0 ≤ o ∧ o < m_l gi (m_g gi 127 50) then t11_bounded (Int.tdiv (m_v x9) 64) gi >>= fun ⟨r12, h11⟩ => if m_t h11 (m_g gi (m_g gi 127 50) o) = 20 ∧ 0 ≤ i ∧ i < m_l h11 (m_g gi (m_g gi 127 50) o) then some (m_p h11 (m_g gi (m_g gi 127 50) o) i r12) >>= fun h14 => (t11_filters_c11 127 o a x y z (m_g g 278 a) (i + 1) h14) else none else none) = t11_filters_c11 127 o a x y z (m_g g 278 a) (i + 1) (m_p gi (238 + o) i (n_cl (Int.tdiv (n_z (m_g g (238 + a)) (m_g g 278 a) (i - 1) * x + m_g g (238 + a) i * y + n_z (m_g g (238 + a)) (m_g g 278 a) (i + 1) * z) 64))) := fun q hq => by
      rw [n_bs, if_pos (n_c50 Fi o0 o1), n_a50 Fi o0 o1, hq, m_v_of (by omega) (by omega), n_bounded (by omega) (by omega), n_bs]
      dsimp only
      rw [if_pos (n_d50 Fi o0 o1 i1 (by omega)), n_bs]
    rw [wi, wn, if_pos i2]
    by_cases c1 : 0 < i
    · rw [if_pos c1, if_pos (n_t127 Fi), wa, wo, if_pos (n_c50 Fi a0 (by omega)), n_a50 Fi a0 (by omega), wim, if_pos (n_d50 Fi a0 (by omega) (by omega) (by omega)), if_pos di, wi1]
      have sm := ha (i - 1) (by omega) (by omega)
      have wsm := m_w_of (x := m_g g (238 + a) (i - 1)) (by omega) (by omega)
      by_cases c2 : i + 1 < m_g g 278 a
      · have sp := ha (i + 1) (by omega) c2
        rw [if_pos c2, if_pos (n_d50 Fi a0 (by omega) (by omega) (by omega)), e (238 + a) (i - 1) (by omega), e (238 + a) i (by omega), e (238 + a) (i + 1) (by omega), wsm, ws, m_w_of (x := m_g g (238 + a) (i + 1)) (by omega) (by omega), wx, wy, wz]
        exact fin _ (by rw [pz c1, nz c2])
      · rw [if_neg c2, e (238 + a) (i - 1) (by omega), e (238 + a) i (by omega), wsm, ws, wx, wy]
        exact fin _ (by rw [pz c1, nz0 c2, Int.zero_mul])
    · rw [if_neg c1, if_pos (n_t127 Fi), wa, wo, if_pos (n_c50 Fi a0 (by omega)), n_a50 Fi a0 (by omega), if_pos di, wi1]
      by_cases c2 : i + 1 < m_g g 278 a
      · have sp := ha (i + 1) (by omega) c2
        rw [if_pos c2, if_pos (n_d50 Fi a0 (by omega) (by omega) (by omega)), e (238 + a) i (by omega), e (238 + a) (i + 1) (by omega), ws, m_w_of (x := m_g g (238 + a) (i + 1)) (by omega) (by omega), wy, wz]
        exact fin _ (by rw [pz0 c1, nz c2, Int.zero_mul])
      · rw [if_neg c2, e (238 + a) i (by omega), ws, wy]
        exact fin _ (by rw [pz0 c1, nz0 c2, Int.zero_mul, Int.zero_mul]))
  obtain ⟨J, e⟩ := n_rfl (g := g) (o := o) (i := m_g g 278 a) (f := fun j => n_cl (n_ft (m_g g (238 + a)) (m_g g 278 a) x y z j)) I o0 o1
  refine ⟨_, ?_, n_rop_fl I o0 o1⟩
  unfold t11_filters
  rw [if_pos (n_t127 I.2), wa, if_pos (n_c51 I.2 a0 (by omega)), n_p127_51 I.2, n_bs]
  refine key.trans ?_
  show t11_filters_c11 127 o a x y z (m_g g 278 a) (m_g g 278 a) _ = _
  rw [t11_filters_c11, if_neg (by omega), if_pos (n_t127 J.2), wo, if_pos (n_c51 J.2 o0 o1), n_p127_51 J.2, n_bs]
