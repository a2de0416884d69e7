/-! CALLS: make ..: the reference's operations on rows (written by gen9j.py) -/
theorem n_splicedR4 {g : m_H} {x y i k : Int} (x1 : -32768 ≤ x) (x2 : x ≤ 32767) (y1 : -32768 ≤ y) (y2 : y ≤ 32767) (i1 : 0 ≤ i) (i2 : i < k) (k2 : k ≤ 40) : t11_spliced x y i k g = some (n_cl (Int.tdiv (x * (k - i) + y * (i + 1)) (k + 1)), g) := by
  have a := n_mulb (a := x) (b := k - i) (A := 32768) (B := 40) (by omega) (by omega) (by omega) (by omega)
  have b := n_mulb (a := y) (b := i + 1) (A := 32768) (B := 40) (by omega) (by omega) (by omega) (by omega)
  have b2 := n_tdb (x := x * (k - i) + y * (i + 1)) (q := k + 1) (B := 3000000) (by omega) (by omega) (by omega)
  unfold t11_spliced
  rw [m_w_of (x := k + 1) (by omega) (by omega), m_v_of (x := k + 1) (by omega) (by omega), if_neg (by omega), m_w_of (x := x) (by omega) (by omega), m_w_of (x := y) (by omega) (by omega), m_w_of (x := k - i) (by omega) (by omega), m_w_of (x := i + 1) (by omega) (by omega), m_v_of (by omega) (by omega), n_bounded (by omega) (by omega), n_bs]
/-- the arrays of rows: 238 + o -/
theorem n_rt_all : ((List.range 40).all fun i => decide (n_kT.getD (237 + i) 0 = 20) && decide (n_kL.getD (237 + i) 0 = 1500)) = true := by decide +kernel
theorem n_rt {h : m_H} (F : n_fx h) {o : Int} (o0 : 0 ≤ o) (o1 : o < 40) : m_t h (238 + o) = 20 ∧ m_l h (238 + o) = 1500 := by
  have A := n_rt_all
  rw [List.all_eq_true] at A
  have q := A o.toNat (List.mem_range.mpr (by omega))
  rw [Bool.and_eq_true, decide_eq_true_eq, decide_eq_true_eq] at q
  have e := F.1 (238 + o) (by omega) (by omega)
  rw [show (238 + o).toNat - 1 = 237 + o.toNat by omega] at e
  rw [e.1, e.2]
  exact q
theorem n_c50 {h : m_H} (F : n_fx h) {o : Int} (o0 : 0 ≤ o) (o1 : o < 40) : m_t h (m_g h 127 50) = 29 ∧ 0 ≤ o ∧ o < m_l h (m_g h 127 50) := by rw [n_p127_50 F, n_t237 F, n_l237 F]; exact ⟨rfl, o0, o1⟩
theorem n_a50 {h : m_H} (F : n_fx h) {o : Int} (o0 : 0 ≤ o) (o1 : o < 40) : m_g h (m_g h 127 50) o = 238 + o := by rw [n_p127_50 F, n_f237 F o0 o1]; omega
theorem n_d50 {h : m_H} (F : n_fx h) {o i : Int} (o0 : 0 ≤ o) (o1 : o < 40) (i0 : 0 ≤ i) (i1 : i < 1500) : m_t h (238 + o) = 20 ∧ 0 ≤ i ∧ i < m_l h (238 + o) := by
  have e := n_rt F o0 o1
  rw [e.1, e.2]
  exact ⟨rfl, i0, i1⟩
theorem n_c51 {h : m_H} (F : n_fx h) {o : Int} (o0 : 0 ≤ o) (o1 : o < 40) : m_t h (m_g h 127 51) = 20 ∧ 0 ≤ o ∧ o < m_l h (m_g h 127 51) := by rw [n_p127_51 F, n_t278 F, n_l278 F]; exact ⟨rfl, o0, o1⟩
theorem n_c52 {h : m_H} (F : n_fx h) {o : Int} (o0 : 0 ≤ o) (o1 : o < 40) : m_t h (m_g h 127 52) = 20 ∧ 0 ≤ o ∧ o < m_l h (m_g h 127 52) := by rw [n_p127_52 F, n_t279 F, n_l279 F]; exact ⟨rfl, o0, o1⟩
theorem n_c28 {h : m_H} (F : n_fx h) {o : Int} (o0 : 0 ≤ o) (o1 : o < 1500) : m_t h (m_g h 127 28) = 20 ∧ 0 ≤ o ∧ o < m_l h (m_g h 127 28) := by rw [n_p127_28 F, n_t149 F, n_l149 F]; exact ⟨rfl, o0, o1⟩
/-- the row of order o has been made: n samples f -/
def n_rop (g g' : m_H) (o n : Int) (f : Int → Int) : Prop := n_I g' ∧ g'.2 = g.2 ∧ m_g g' 278 o = n ∧ (∀ j, 0 ≤ j → j < n → m_g g' (238 + o) j = f j) ∧ ∀ b j, b ≠ 149 → b ≠ 238 + o → ¬ (b = 278 ∧ j = o) → m_g g' b j = m_g g b j
theorem n_rop_fl {g : m_H} {o n : Int} {f : Int → Int} (I : n_I g) (o0 : 0 ≤ o) (o1 : o < 40) : n_rop g (m_p (n_fl g (238 + o) 0 n f) 278 o n) o n f := by
  have t := (n_rt I.2 o0 o1).1
  have J : n_I (n_fl g (238 + o) 0 n f) := n_I_fl I (Or.inl t)
  exact ⟨n_I_pa J (Or.inl (n_t278 J.2)), rfl, n_gp_y ⟨rfl, rfl⟩, fun j j0 j1 => by rw [n_gp_n (by omega), n_g_fl, if_pos ⟨rfl, j0, j1⟩], fun b j h1 h2 h3 => by rw [n_gp_n h3, n_g_fl, if_neg (fun z => h2 z.1)]⟩
theorem n_rfl {g : m_H} {o i : Int} {f : Int → Int} (I : n_I g) (o0 : 0 ≤ o) (o1 : o < 40) : n_I (n_fl g (238 + o) 0 i f) ∧ ∀ b j, b ≠ 238 + o → m_g (n_fl g (238 + o) 0 i f) b j = m_g g b j := ⟨n_I_fl I (Or.inl (n_rt I.2 o0 o1).1), fun b j hb => by rw [n_g_fl, if_neg (fun z => hb z.1)]⟩
theorem n_rcut {g : m_H} {o a x y : Int} (I : n_I g) (o0 : 0 ≤ o) (o1 : o < 40) (a0 : 0 ≤ a) (a1 : a < o) (l1 : 1 ≤ m_g g 278 a) (l2 : m_g g 278 a ≤ 1500) (x0 : 0 ≤ x) (x1 : x ≤ 1500) (y0 : 0 ≤ y) (y1 : y ≤ 1500) : (¬ (x < y ∧ y ≤ m_g g 278 a) → t11_cuts 127 o a x y g = some (false, g)) ∧ (x < y ∧ y ≤ m_g g 278 a → ∃ g', t11_cuts 127 o a x y g = some (true, g') ∧ n_rop g g' o (y - x) (fun j => m_g g (238 + a) (x + j))) := by
  have F := I.2
  have tM := n_t127 F
  have wa := m_w_of (x := a) (by omega) (by omega)
  have wo := m_w_of (x := o) (by omega) (by omega)
  unfold t11_cuts
  rw [m_w_of (x := x) (by omega) (by omega), m_w_of (x := y) (by omega) (by omega), wa]
  constructor
  · intro c
    by_cases d : x < y
    · rw [if_pos d, if_pos tM, if_pos (n_c51 F a0 (by omega)), n_p127_51 F, m_w_of (x := m_g g 278 a) (by omega) (by omega), if_pos (by omega)]
    · rw [if_neg d]
  · intro c
    have key := n_iter (fun i => t11_cuts_c22 127 o a x y i (n_fl g (238 + o) 0 (i - x) (fun j => m_g g (238 + a) (x + j)))) x y (by omega) (fun i i1 i2 => by
      obtain ⟨J, e⟩ := n_rfl (g := g) (o := o) (i := i - x) (f := fun j => m_g g (238 + a) (x + j)) I o0 o1
      have ew : m_p (n_fl g (238 + o) 0 (i - x) (fun j => m_g g (238 + a) (x + j))) (238 + o) (i - x) (m_g g (238 + a) i) = n_fl g (238 + o) 0 (i + 1 - x) (fun j => m_g g (238 + a) (x + j)) := by
        rw [n_p_fl (by omega) (by show m_g g (238 + a) i = m_g g (238 + a) (x + (i - x)); congr 1; omega)]
        congr 1; omega
      show t11_cuts_c22 127 o a x y i _ = t11_cuts_c22 127 o a x y (i + 1) _
      rw [t11_cuts_c22, ← ew]
      generalize n_fl g (238 + o) 0 (i - x) (fun j => m_g g (238 + a) (x + j)) = gi at *
      have Fi := J.2
      rw [m_w_of (x := i) (by omega) (by omega), m_w_of (x := y) (by omega) (by omega), if_pos i2, if_pos (n_t127 Fi), wo, wa, if_pos (n_c50 Fi o0 o1), if_pos (n_c50 Fi a0 (by omega)), n_a50 Fi a0 (by omega), n_a50 Fi o0 o1, if_pos (n_d50 Fi a0 (by omega) (by omega) (by omega)), m_w_of (x := i - x) (by omega) (by omega), if_pos (n_d50 Fi o0 o1 (by omega) (by omega)), e (238 + a) i (by omega), n_bs])
    have z0 : n_fl g (238 + o) 0 (x - x) (fun j => m_g g (238 + a) (x + j)) = g := n_fl_0 _ _ _ _ _ (by omega)
    rw [z0] at key
    obtain ⟨J, e⟩ := n_rfl (g := g) (o := o) (i := y - x) (f := fun j => m_g g (238 + a) (x + j)) I o0 o1
    refine ⟨_, ?_, n_rop_fl I o0 o1⟩
    rw [if_pos c.1, if_pos tM, if_pos (n_c51 F a0 (by omega)), n_p127_51 F, m_w_of (x := m_g g 278 a) (by omega) (by omega), if_neg (by omega)]
    refine key.trans ?_
    show t11_cuts_c22 127 o a x y y _ = _
    rw [t11_cuts_c22, if_neg (by omega), if_pos (n_t127 J.2), wo, if_pos (n_c51 J.2 o0 o1), n_p127_51 J.2, n_bs]
theorem n_rturn {g : m_H} {o a : Int} (I : n_I g) (o0 : 0 ≤ o) (o1 : o < 40) (a0 : 0 ≤ a) (a1 : a < o) (l1 : 1 ≤ m_g g 278 a) (l2 : m_g g 278 a ≤ 1500) : ∃ g', t11_does_c123 127 o a 0 g = some (true, g') ∧ n_rop g g' o (m_g g 278 a) (fun j => m_g g (238 + a) (m_g g 278 a - 1 - j)) := by
  have wa := m_w_of (x := a) (by omega) (by omega)
  have wo := m_w_of (x := o) (by omega) (by omega)
  have key := n_fill (fun i h => t11_does_c123 127 o a i h) (h := g) (a := 238 + o) (lo := 0) (n := m_g g 278 a) (fun j => m_g g (238 + a) (m_g g 278 a - 1 - j)) (by omega) (fun i i1 i2 => by
    obtain ⟨J, e⟩ := n_rfl (g := g) (o := o) (i := i) (f := fun j => m_g g (238 + a) (m_g g 278 a - 1 - j)) I o0 o1
    show t11_does_c123 127 o a i _ = t11_does_c123 127 o a (i + 1) _
    rw [t11_does_c123]
    generalize n_fl g (238 + o) 0 i (fun j => m_g g (238 + a) (m_g g 278 a - 1 - j)) = gi at *
    have Fi := J.2
    rw [if_pos (n_t127 Fi), wa, wo, if_pos (n_c51 Fi a0 (by omega)), n_p127_51 Fi, e 278 a (by omega), m_w_of (x := i) (by omega) (by omega), m_w_of (x := m_g g 278 a) (by omega) (by omega), if_pos i2, if_pos (n_c50 Fi o0 o1), if_pos (n_c50 Fi a0 (by omega)), n_a50 Fi a0 (by omega), n_a50 Fi o0 o1, m_w_of (x := m_g g 278 a - 1 - i) (by omega) (by omega), if_pos (n_d50 Fi a0 (by omega) (by omega) (by omega)), if_pos (n_d50 Fi o0 o1 (by omega) (by omega)), e (238 + a) _ (by omega), n_bs])
  obtain ⟨J, e⟩ := n_rfl (g := g) (o := o) (i := m_g g 278 a) (f := fun j => m_g g (238 + a) (m_g g 278 a - 1 - j)) I o0 o1
  refine ⟨_, key.trans ?_, n_rop_fl I o0 o1⟩
  show t11_does_c123 127 o a (m_g g 278 a) _ = _
  have c278 : m_t (n_fl g (238 + o) 0 (m_g g 278 a) fun j => m_g g (238 + a) (m_g g 278 a - 1 - j)) 278 = 20 ∧ 0 ≤ o ∧ o < m_l (n_fl g (238 + o) 0 (m_g g 278 a) fun j => m_g g (238 + a) (m_g g 278 a - 1 - j)) 278 := by
    have := n_c51 J.2 o0 o1
    rw [n_p127_51 J.2] at this
    exact this
  rw [t11_does_c123, if_pos (n_t127 J.2), wa, wo, if_pos (n_c51 J.2 a0 (by omega)), n_p127_51 J.2, e 278 a (by omega), if_neg (by omega), if_pos c278, n_bs]
theorem n_rplay {g : m_H} {o a p q l n : Int} (I : n_I g) (o0 : 0 ≤ o) (o1 : o < 40) (a0 : 0 ≤ a) (a1 : a < o) (l1 : 1 ≤ m_g g 278 a) (l2 : m_g g 278 a ≤ 1500) (p1 : 1 ≤ p) (p2 : p ≤ 1100) (q1 : 1 ≤ q) (q2 : q ≤ 1000) (lo0 : 0 ≤ l) (lo1 : l ≤ 128) (hb : n_sB (m_g g (238 + a)) (m_g g 278 a)) (en : n = Int.tdiv ((m_g g 278 a - 1) * q) p + 1) : (¬ n ≤ 1500 → t11_playsRow 127 o a p q l g = some (false, g)) ∧ (n ≤ 1500 → ∃ g', t11_playsRow 127 o a p q l g = some (true, g') ∧ n_rop g g' o n (fun i => n_cl (Int.tdiv (n_cl (n_play (m_g g (238 + a)) (m_g g 278 a) i p q) * l) 64))) := by
  have F := I.2
  have tM := n_t127 F
  have wa := m_w_of (x := a) (by omega) (by omega)
  have wo := m_w_of (x := o) (by omega) (by omega)
  have m := n_mulp (a := m_g g 278 a - 1) (b := q) (A := 1500) (B := 1000) (by omega) (by omega) (by omega) q2
  have t := n_td (x := (m_g g 278 a - 1) * q) (q := p) m.1 p1
  have nb : 1 ≤ n ∧ n ≤ 2000000 := by omega
  have ex : Int.tdiv (m_v (m_w (m_g g 278 a - 1) * m_w q)) (m_v (m_w p)) + 1 = n := by
    rw [m_w_of (x := m_g g 278 a - 1) (by omega) (by omega), m_w_of (x := q) (by omega) (by omega), m_w_of (x := p) (by omega) (by omega), m_v_of (x := p) (by omega) (by omega), m_v_of (x := (m_g g 278 a - 1) * q) (by omega) (by omega), en]
  unfold t11_playsRow
  rw [if_pos tM, wa, if_pos (n_c51 F a0 (by omega)), n_p127_51 F, n_bs, if_neg (show ¬ m_v (m_w p) = 0 by rw [m_w_of (by omega) (by omega), m_v_of (by omega) (by omega)]; omega), ex, n_bs, n_lcmp_lt (by omega) (by omega) (by omega) (by omega)]
  constructor
  · intro c
    rw [if_pos (show (0 : Int) < if (1500 : Int) < n then 1 else if n = 1500 then 0 else -1 by rw [if_pos (by omega)]; omega)]
  · intro c
    rw [if_neg (show ¬ (0 : Int) < if (1500 : Int) < n then 1 else if n = 1500 then 0 else -1 by rw [if_neg (by omega)]; split <;> omega)]
    -- the row ahead comes to played
    have t149 := n_t149 F
    have key := n_fill (fun i h => t11_playsRow_c38 127 o a p q l (m_g g 278 a) n i h) (h := g) (a := 149) (lo := 0) (n := m_g g 278 a) (m_g g (238 + a)) (by omega) (fun i i1 i2 => by
      have J : n_I (n_fl g 149 0 i (m_g g (238 + a))) := n_I_fl I (Or.inl t149)
      have e : m_g (n_fl g 149 0 i (m_g g (238 + a))) (238 + a) i = m_g g (238 + a) i := by rw [n_g_fl, if_neg (by omega)]
      show t11_playsRow_c38 127 o a p q l (m_g g 278 a) n i _ = t11_playsRow_c38 127 o a p q l (m_g g 278 a) n (i + 1) _
      rw [t11_playsRow_c38]
      generalize n_fl g 149 0 i (m_g g (238 + a)) = gi at *
      have Fi := J.2
      rw [m_w_of (x := i) (by omega) (by omega), m_w_of (x := m_g g 278 a) (by omega) (by omega), if_pos i2, if_pos (n_t127 Fi), wa, if_pos (n_c50 Fi a0 (by omega)), n_a50 Fi a0 (by omega), if_pos (n_d50 Fi a0 (by omega) (by omega) (by omega)), if_pos (n_c28 Fi (by omega) (by omega)), n_p127_28 Fi, e, n_bs])
    have J1 : n_I (n_fl g 149 0 (m_g g 278 a) (m_g g (238 + a))) := n_I_fl I (Or.inl t149)
    have r149 : ∀ j, 0 ≤ j → j < m_g g 278 a → m_g (n_fl g 149 0 (m_g g 278 a) (m_g g (238 + a))) 149 j = m_g g (238 + a) j := fun j j0 j1 => by rw [n_g_fl, if_pos ⟨rfl, j0, j1⟩]
    have oth1 : ∀ b j, b ≠ 149 → m_g (n_fl g 149 0 (m_g g 278 a) (m_g g (238 + a))) b j = m_g g b j := fun b j hb => by rw [n_g_fl, if_neg (fun z => hb z.1)]
    have e2 : (n_fl g 149 0 (m_g g 278 a) (m_g g (238 + a))).2 = g.2 := rfl
    generalize n_fl g 149 0 (m_g g 278 a) (m_g g (238 + a)) = g1 at *
    have key2 := n_fill (fun i h => t11_playsRow_c70 127 o p q l (m_g g 278 a) n i h) (h := g1) (a := 238 + o) (lo := 0) (n := n) (fun i => n_cl (Int.tdiv (n_cl (n_play (m_g g (238 + a)) (m_g g 278 a) i p q) * l) 64)) (by omega) (fun i i1 i2 => by
      obtain ⟨J, e⟩ := n_rfl (g := g1) (o := o) (i := i) (f := fun i => n_cl (Int.tdiv (n_cl (n_play (m_g g (238 + a)) (m_g g 278 a) i p q) * l) 64)) J1 o0 o1
      have cb := n_cl_lo (n_play (m_g g (238 + a)) (m_g g 278 a) i p q)
      have cb2 := n_cl_hi (n_play (m_g g (238 + a)) (m_g g 278 a) i p q)
      show t11_playsRow_c70 127 o p q l (m_g g 278 a) n i _ = t11_playsRow_c70 127 o p q l (m_g g 278 a) n (i + 1) _
      rw [t11_playsRow_c70]
      generalize n_fl g1 (238 + o) 0 i (fun i => n_cl (Int.tdiv (n_cl (n_play (m_g g (238 + a)) (m_g g 278 a) i p q) * l) 64)) = gi at *
      have Fi := J.2
      have sa := n_sampleAt (g := gi) (n := m_g g 278 a) (i := i) (p := p) (q := q) J l1 l2 i1 (by omega) (by omega) p1 p2 q1 q2 (fun j j1 j2 => by rw [e 149 j (by omega), r149 j j1 j2]; exact hb j j1 j2)
      rw [n_play_eq (r' := m_g g (238 + a)) (fun j j0 j1 => by rw [e 149 j (by omega), r149 j j0 j1]) i1 p1 q1 l1] at sa
      have bm := n_mulb (a := n_cl (n_play (m_g g (238 + a)) (m_g g 278 a) i p q)) (b := l) (A := 32768) (B := 128) (by omega) (by omega) lo0 lo1
      have bt := n_tdb (q := 64) (B := 32768 * 128) (by omega) bm.1 bm.2
      rw [m_w_of (x := i) (by omega) (by omega), n_lcmp_lt (by omega) (by omega) (by omega) (by omega), if_pos (show (if n < i then (1 : Int) else if i = n then 0 else -1) < 0 by rw [if_neg (by omega), if_neg (by omega)]; omega), if_pos (n_t127 Fi), wo, if_pos (n_c50 Fi o0 o1), n_a50 Fi o0 o1, sa, n_bs]
      dsimp only
      rw [m_w_of (x := n_cl (n_play (m_g g (238 + a)) (m_g g 278 a) i p q)) (by omega) (by omega), m_w_of (x := l) (by omega) (by omega), m_v_of (x := n_cl (n_play (m_g g (238 + a)) (m_g g 278 a) i p q) * l) (by omega) (by omega), n_bounded (by omega) (by omega), n_bs]
      dsimp only
      rw [if_pos (n_d50 Fi o0 o1 i1 (by omega)), n_bs])
    obtain ⟨J2, e3⟩ := n_rfl (g := g1) (o := o) (i := n) (f := fun i => n_cl (Int.tdiv (n_cl (n_play (m_g g (238 + a)) (m_g g 278 a) i p q) * l) 64)) J1 o0 o1
    have R := n_rop_fl (g := g1) (o := o) (n := n) (f := fun i => n_cl (Int.tdiv (n_cl (n_play (m_g g (238 + a)) (m_g g 278 a) i p q) * l) 64)) J1 o0 o1
    refine ⟨_, key.trans ?_, ⟨R.1, R.2.1.trans e2, R.2.2.1, R.2.2.2.1, fun b j h1 h2 h3 => (R.2.2.2.2 b j h1 h2 h3).trans (oth1 b j h1)⟩⟩
    show t11_playsRow_c38 127 o a p q l (m_g g 278 a) n (m_g g 278 a) g1 = _
    rw [t11_playsRow_c38, if_neg (by omega)]
    refine key2.trans ?_
    show t11_playsRow_c70 127 o p q l (m_g g 278 a) n n _ = _
    rw [t11_playsRow_c70, m_w_of (x := n) (by omega) (by omega), n_lcmp_lt (by omega) (by omega) (by omega) (by omega), if_neg (show ¬ (if n < n then (1 : Int) else if n = n then 0 else -1) < 0 by rw [if_neg (by omega), if_pos rfl]; omega), if_pos (n_t127 J2.2), wo, if_pos (n_c51 J2.2 o0 o1), n_p127_51 J2.2, n_bs]
theorem n_rloop {g : m_H} {o a n : Int} (I : n_I g) (o0 : 0 ≤ o) (o1 : o < 40) (a0 : 0 ≤ a) (a1 : a < o) (l1 : 1 ≤ m_g g 278 a) (l2 : m_g g 278 a ≤ 1500) (n0 : 0 ≤ n) (n1 : n ≤ 1500) : (¬ 1 ≤ n → t11_loops 127 o a n g = some (false, g)) ∧ (1 ≤ n → ∃ g', t11_loops 127 o a n g = some (true, g') ∧ n_rop g g' o n (fun j => m_g g (238 + a) (Int.tmod j (m_g g 278 a)))) := by
  have wa := m_w_of (x := a) (by omega) (by omega)
  have wo := m_w_of (x := o) (by omega) (by omega)
  have wn := m_w_of (x := n) (by omega) (by omega)
  unfold t11_loops
  rw [wn]
  constructor
  · intro c
    rw [if_pos (by omega)]
  · intro c
    have key := n_fill (fun i h => t11_loops_c16 127 o a n i h) (h := g) (a := 238 + o) (lo := 0) (n := n) (fun j => m_g g (238 + a) (Int.tmod j (m_g g 278 a))) n0 (fun i i1 i2 => by
      obtain ⟨J, e⟩ := n_rfl (g := g) (o := o) (i := i) (f := fun j => m_g g (238 + a) (Int.tmod j (m_g g 278 a))) I o0 o1
      have t := n_td (x := i) (q := m_g g 278 a) i1 l1
      show t11_loops_c16 127 o a n i _ = t11_loops_c16 127 o a n (i + 1) _
      rw [t11_loops_c16]
      generalize n_fl g (238 + o) 0 i (fun j => m_g g (238 + a) (Int.tmod j (m_g g 278 a))) = gi at *
      have Fi := J.2
      rw [m_w_of (x := i) (by omega) (by omega), wn, if_pos i2, if_pos (n_t127 Fi), wo, wa, if_pos (n_c50 Fi o0 o1), if_pos (n_c50 Fi a0 (by omega)), if_pos (n_c51 Fi a0 (by omega)), n_p127_51 Fi, e 278 a (by omega), m_w_of (x := m_g g 278 a) (by omega) (by omega), if_neg (by omega), m_w_of (x := Int.tmod i (m_g g 278 a)) (by omega) (by omega), n_a50 Fi a0 (by omega), n_a50 Fi o0 o1, if_pos (n_d50 Fi a0 (by omega) (by omega) (by omega)), if_pos (n_d50 Fi o0 o1 (by omega) (by omega)), e (238 + a) _ (by omega), n_bs])
    obtain ⟨J, e⟩ := n_rfl (g := g) (o := o) (i := n) (f := fun j => m_g g (238 + a) (Int.tmod j (m_g g 278 a))) I o0 o1
    refine ⟨_, ?_, n_rop_fl I o0 o1⟩
    rw [if_neg (by omega), if_neg (by omega)]
    refine key.trans ?_
    show t11_loops_c16 127 o a n n _ = _
    rw [t11_loops_c16, if_neg (by omega), if_pos (n_t127 J.2), wo, if_pos (n_c51 J.2 o0 o1), n_p127_51 J.2, n_bs]
/-- a copy of a row -/
theorem n_rlist {g : m_H} {o a : Int} (I : n_I g) (o0 : 0 ≤ o) (o1 : o < 40) (a0 : 0 ≤ a) (a1 : a < o) (l1 : 1 ≤ m_g g 278 a) (l2 : m_g g 278 a ≤ 1500) : ∃ g', t11_lists 127 o a g = some ((), g') ∧ n_rop g g' o (m_g g 278 a) (m_g g (238 + a)) := by
  have F := I.2
  have t149 := n_t149 F
  have wa := m_w_of (x := a) (by omega) (by omega)
  have wo := m_w_of (x := o) (by omega) (by omega)
  have key := n_fill (fun i h => t11_lists_c2 127 o a i h) (h := g) (a := 149) (lo := 0) (n := m_g g 278 a) (m_g g (238 + a)) (by omega) (fun i i1 i2 => by
    have J : n_I (n_fl g 149 0 i (m_g g (238 + a))) := n_I_fl I (Or.inl t149)
    have e : ∀ b j, b ≠ 149 → m_g (n_fl g 149 0 i (m_g g (238 + a))) b j = m_g g b j := fun b j hb => by rw [n_g_fl, if_neg (fun z => hb z.1)]
    show t11_lists_c2 127 o a i _ = t11_lists_c2 127 o a (i + 1) _
    rw [t11_lists_c2]
    generalize n_fl g 149 0 i (m_g g (238 + a)) = gi at *
    have Fi := J.2
    rw [if_pos (n_t127 Fi), wa, if_pos (n_c51 Fi a0 (by omega)), n_p127_51 Fi, e 278 a (by omega), m_w_of (x := i) (by omega) (by omega), m_w_of (x := m_g g 278 a) (by omega) (by omega), if_pos i2, if_pos (n_c50 Fi a0 (by omega)), n_a50 Fi a0 (by omega), if_pos (n_d50 Fi a0 (by omega) (by omega) (by omega)), if_pos (n_c28 Fi (by omega) (by omega)), n_p127_28 Fi, e (238 + a) i (by omega), n_bs])
  have J1 : n_I (n_fl g 149 0 (m_g g 278 a) (m_g g (238 + a))) := n_I_fl I (Or.inl t149)
  have r149 : ∀ j, 0 ≤ j → j < m_g g 278 a → m_g (n_fl g 149 0 (m_g g 278 a) (m_g g (238 + a))) 149 j = m_g g (238 + a) j := fun j j0 j1 => by rw [n_g_fl, if_pos ⟨rfl, j0, j1⟩]
  have oth1 : ∀ b j, b ≠ 149 → m_g (n_fl g 149 0 (m_g g 278 a) (m_g g (238 + a))) b j = m_g g b j := fun b j hb => by rw [n_g_fl, if_neg (fun z => hb z.1)]
  have e2 : (n_fl g 149 0 (m_g g 278 a) (m_g g (238 + a))).2 = g.2 := rfl
  generalize n_fl g 149 0 (m_g g 278 a) (m_g g (238 + a)) = g1 at *
  have F1 := J1.2
  have J2 : n_I (m_p g1 278 o (m_g g 278 a)) := n_I_pa J1 (Or.inl (n_t278 F1))
  have key2 := n_fill (fun i h => t11_lists_c46 127 o i h) (h := m_p g1 278 o (m_g g 278 a)) (a := 238 + o) (lo := 0) (n := m_g g 278 a) (m_g g (238 + a)) (by omega) (fun i i1 i2 => by
    obtain ⟨J, e⟩ := n_rfl (g := m_p g1 278 o (m_g g 278 a)) (o := o) (i := i) (f := m_g g (238 + a)) J2 o0 o1
    have x1 : m_g (n_fl (m_p g1 278 o (m_g g 278 a)) (238 + o) 0 i (m_g g (238 + a))) 278 o = m_g g 278 a := by rw [e 278 o (by omega), n_gp_y ⟨rfl, rfl⟩]
    have x2 : m_g (n_fl (m_p g1 278 o (m_g g 278 a)) (238 + o) 0 i (m_g g (238 + a))) 149 i = m_g g (238 + a) i := by rw [e 149 i (by omega), n_gp_n (by omega), r149 i i1 i2]
    show t11_lists_c46 127 o i _ = t11_lists_c46 127 o (i + 1) _
    rw [t11_lists_c46]
    generalize n_fl (m_p g1 278 o (m_g g 278 a)) (238 + o) 0 i (m_g g (238 + a)) = gi at *
    have Fi := J.2
    rw [if_pos (n_t127 Fi), wo, if_pos (n_c51 Fi o0 o1), n_p127_51 Fi, x1, m_w_of (x := i) (by omega) (by omega), m_w_of (x := m_g g 278 a) (by omega) (by omega), if_pos i2, if_pos (n_c50 Fi o0 o1), if_pos (n_c28 Fi (by omega) (by omega)), n_a50 Fi o0 o1, if_pos (n_d50 Fi o0 o1 (by omega) (by omega)), n_p127_28 Fi, x2, n_bs])
  obtain ⟨J, e⟩ := n_rfl (g := m_p g1 278 o (m_g g 278 a)) (o := o) (i := m_g g 278 a) (f := m_g g (238 + a)) J2 o0 o1
  refine ⟨_, ?_, J, e2, by rw [e 278 o (by omega), n_gp_y ⟨rfl, rfl⟩], fun j j0 j1 => by rw [n_g_fl, if_pos ⟨rfl, j0, j1⟩], fun b j h1 h2 h3 => by rw [e b j h2, n_gp_n h3, oth1 b j h1]⟩
  unfold t11_lists
  refine key.trans ?_
  show t11_lists_c2 127 o a (m_g g 278 a) g1 = _
  have c278 : m_t g1 278 = 20 ∧ 0 ≤ o ∧ o < m_l g1 278 := by
    have := n_c51 F1 o0 o1
    rw [n_p127_51 F1] at this
    exact this
  rw [t11_lists_c2, if_pos (n_t127 F1), wa, wo, if_pos (n_c51 F1 a0 (by omega)), n_p127_51 F1, oth1 278 a (by omega), if_neg (by omega), if_pos c278, n_bs]
  refine key2.trans ?_
  show t11_lists_c46 127 o (m_g g 278 a) _ = _
  rw [t11_lists_c46, if_pos (n_t127 J.2), wo, if_pos (n_c51 J.2 o0 o1), n_p127_51 J.2, e 278 o (by omega), n_gp_y ⟨rfl, rfl⟩, if_neg (by omega)]
