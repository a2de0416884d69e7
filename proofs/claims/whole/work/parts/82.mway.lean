/-! CALLS: remade, stretch, unfound: the component measures one way -/
theorem n_wl_599 {g : m_H} {s : Int} (G : n_gs g) (c : 0 ≤ s ∧ s < m_g g 127 14) (w : Int) : n_wl g s w ≤ 599 := by
  have b := G.2.1 s c.1 c.2
  unfold n_strB at b
  have t := n_td (x := m_g g 131 s - 1) (q := 2) (by omega) (by omega)
  unfold n_wl
  split
  · omega
  · split <;> omega
/-- one time: the runs of all places -/
theorem n_mrow {hh g : m_H} {m s w t v L : Int} (I : n_I hh) (c : n_wl g s w ≤ 599) (c1 : 1 ≤ n_wl g s w) (t1 : t < m_g g 127 85) (t0 : 0 ≤ t) (N : m_g g 127 85 ≤ 1000) (m0 : 0 ≤ m) (m1 : m ≤ 65535) (L0 : 0 ≤ L) (L1 : L ≤ 1000) (hx : -32768 ≤ m_g g 308 t ∧ m_g g 308 t ≤ 32767) (v20 : m_t hh v = 20) (vl : n_wl g s w ≤ m_l hh v) (v6 : v ≠ 126) (hV : ∀ j, 0 ≤ j → j < n_wl g s w → m_g hh v j = n_wv g s w j ∧ -32768 ≤ n_wv g s w j ∧ n_wv g s w j ≤ 32767) (hR : ∀ j, 0 ≤ j → j < 600 → m_g hh 126 j = n_run g m s w (t + 1) j) : t1_measureWay_x50 77 121 m v (n_wl g s w) t (m_g g 308 t) L 0 hh = t1_measureWay_x50 77 121 m v (n_wl g s w) t (m_g g 308 t) (n_mxN L (fun p => n_run g m s w t p) (n_wl g s w).toNat) (n_wl g s w) (n_fl hh 126 0 (n_wl g s w) (fun p => n_run g m s w t p)) := by
  have t6 := n_t126 I.2
  have l6 := n_l126 I.2
  have k1 := n_t121 I.2
  have p10 := n_p121_10 I.2
  have rb := fun t p => n_run_b g m s w t p
  have mb := fun k => n_mxN_b (L := L) (f := fun p => n_run g m s w t p) (M := 1000) L0 L1 (fun p => by have := rb t p; show n_run g m s w t p ≤ 1000; omega) k
  refine n_fill (fun i h => t1_measureWay_x50 77 121 m v (n_wl g s w) t (m_g g 308 t) (n_mxN L (fun p => n_run g m s w t p) i.toNat) i h) (h := hh) (a := 126) (lo := 0) (n := n_wl g s w) (fun p => n_run g m s w t p) (by omega) (fun i i1 i2 => ?_)
  obtain ⟨e1, b1, b2⟩ := hV i i1 i2
  have gv : m_g (n_fl hh 126 0 i (fun p => n_run g m s w t p)) v i = n_wv g s w i := by rw [n_g_fl, if_neg (by omega)]; exact e1
  have g6 : m_g (n_fl hh 126 0 i (fun p => n_run g m s w t p)) 126 (i + 1) = n_run g m s w (t + 1) (i + 1) := by rw [n_g_fl, if_neg (by omega)]; exact hR _ (by omega) (by omega)
  have g1 : m_g (n_fl hh 126 0 i (fun p => n_run g m s w t p)) 121 10 = 126 := by rw [n_g_fl, if_neg (by omega)]; exact p10
  have hb := mb i.toNat
  have df := n_df_b hx.1 hx.2 b1 b2
  have ei : (i + 1).toNat = i.toNat + 1 := by omega
  have ef : n_fit g m s w t i = decide (n_df (m_g g 308 t) (n_wv g s w i) ≤ m) := by
    rcases n_fit_df (m := m) t1 i2 with q | q
    · exact q
    · omega
  have er := n_run_s (m := m) (s := s) (w := w) (p := i) t1
  have rb1 := rb (t + 1) (i + 1)
  show t1_measureWay_x50 77 121 m v (n_wl g s w) t (m_g g 308 t) (n_mxN L (fun p => n_run g m s w t p) i.toNat) i (n_fl hh 126 0 i (fun p => n_run g m s w t p)) = t1_measureWay_x50 77 121 m v (n_wl g s w) t (m_g g 308 t) (n_mxN L (fun p => n_run g m s w t p) (i + 1).toNat) (i + 1) (m_p (n_fl hh 126 0 i (fun p => n_run g m s w t p)) 126 i (n_run g m s w t i))
  have eN : n_mxN L (fun p => n_run g m s w t p) (i + 1).toNat = max (n_mxN L (fun p => n_run g m s w t p) i.toNat) (n_run g m s w t i) := by
    rw [ei]
    show max _ (n_run g m s w t (i.toNat : Int)) = _
    rw [show (i.toNat : Int) = i by omega]
  rw [eN]
  generalize n_mxN L (fun p => n_run g m s w t p) i.toNat = M at *
  generalize hk : n_fl hh 126 0 i (fun p => n_run g m s w t p) = hi at *
  have q20 : m_t hi v = 20 ∧ m_l hi v = m_l hh v ∧ m_t hi 121 = 1 ∧ m_t hi 126 = 20 ∧ m_l hi 126 = 600 := by rw [← hk]; exact ⟨v20, rfl, k1, t6, l6⟩
  obtain ⟨q1, q2, q3, q4, q5⟩ := q20
  rw [t1_measureWay_x50, if_neg (by omega), if_pos rfl, m_w_of (x := i) (by omega) (by omega), m_w_of (x := n_wl g s w) (by omega) (by omega), if_pos i2, if_pos (show m_t hi v = 20 ∧ 0 ≤ i ∧ i < m_l hi v from ⟨q1, i1, by omega⟩), gv, n_abs_df hx.1 hx.2 b1 b2, n_bs, m_w_of (x := m) (by omega) (by omega), m_w_of (x := n_df (m_g g 308 t) (n_wv g s w i)) (by omega) (by omega)]
  have c6 : m_t hi 126 = 20 ∧ 0 ≤ i ∧ i < m_l hi 126 := ⟨q4, by omega, by omega⟩
  by_cases d : m < n_df (m_g g 308 t) (n_wv g s w i)
  · have e0 : n_run g m s w t i = 0 := by rw [er, ef, decide_eq_false (by omega)]; rfl
    rw [if_pos d, if_pos q3, g1, if_pos c6, n_bs, m_w_of (x := M) (by omega) (by omega), if_neg (by omega), e0, Int.max_eq_left (by omega)]
  · have e0 : n_run g m s w t i = n_run g m s w (t + 1) (i + 1) + 1 := by rw [er, ef, decide_eq_true (by omega)]; rfl
    have c7 : m_t hi 126 = 20 ∧ 0 ≤ i + 1 ∧ i + 1 < m_l hi 126 := ⟨q4, by omega, by omega⟩
    rw [if_neg d, if_pos q3, g1, m_w_of (x := i + 1) (by omega) (by omega), if_pos c7, g6, n_bs, if_pos c6, n_bs, m_w_of (x := M) (by omega) (by omega), m_w_of (x := n_run g m s w (t + 1) (i + 1) + 1) (by omega) (by omega), e0]
    by_cases d2 : M < n_run g m s w (t + 1) (i + 1) + 1
    · rw [if_pos d2, Int.max_eq_right (by omega)]
    · rw [if_neg d2, Int.max_eq_left (by omega)]
/-- all times, from the last one on -/
theorem n_mtimes {g : m_H} {m s w v : Int} (c : n_wl g s w ≤ 599) (c1 : 1 ≤ n_wl g s w) (N : m_g g 127 85 ≤ 1000) (m0 : 0 ≤ m) (m1 : m ≤ 65535) (hx : ∀ t, 0 ≤ t → t < m_g g 127 85 → -32768 ≤ m_g g 308 t ∧ m_g g 308 t ≤ 32767) (hb : ∀ j, 0 ≤ j → j < n_wl g s w → -32768 ≤ n_wv g s w j ∧ n_wv g s w j ≤ 32767) (v4 : v ≠ 124) (v6 : v ≠ 126) : ∀ (k : Nat) (hh : m_H), n_I hh → k ≤ m_g g 127 85 → m_t hh v = 20 → n_wl g s w ≤ m_l hh v → (∀ j, 0 ≤ j → j < n_wl g s w → m_g hh v j = n_wv g s w j) → (∀ t, 0 ≤ t → t < m_g g 127 85 → n_rg hh 119 t = m_g g 308 t) → (∀ t : Int, 0 ≤ t → t < k → 0 ≤ m_g hh 124 t ∧ m_g hh 124 t ≤ 1000) → (∀ j, 0 ≤ j → j < 600 → m_g hh 126 j = n_run g m s w k j) → ∃ h', t1_measureWay_x50 50 121 m v (n_wl g s w) (k - 1) 0 0 0 hh = some ((), h') ∧ n_I h' ∧ h'.2 = hh.2 ∧ (∀ b j, b ≠ 124 → b ≠ 126 → m_g h' b j = m_g hh b j) ∧ ∀ t, m_g h' 124 t = if 0 ≤ t ∧ t < k then n_mxN (m_g hh 124 t) (fun p => n_run g m s w t p) (n_wl g s w).toNat else m_g hh 124 t := by
  intro k
  induction k with
  | zero =>
    intro hh I kN v20 vl hV hT hL hR
    refine ⟨hh, ?_, I, rfl, fun b j _ _ => rfl, fun t => by rw [if_neg (by omega)]⟩
    rw [t1_measureWay_x50, if_pos rfl, m_w_of (by omega) (by omega), if_pos (by omega)]
  | succ k ih =>
    intro hh I kN v20 vl hV hT hL hR
    have k1 := n_t121 I.2
    have t4 := n_t124 I.2
    have l4 := n_l124 I.2
    have t6 := n_t126 I.2
    have l6 := n_l126 I.2
    have t9 := n_t119 I.2
    have R9 := n_wf_row I.1 t9
    have s4 := n_sfa I (a := 124) (by omega) (by omega) (Or.inr (by omega))
    have s6 := n_sfa I (a := 126) (by omega) (by omega) (Or.inr (by omega))
    have x1 := hx k (by omega) (by omega)
    have L1 := hL k (by omega) (by omega)
    have eT : ((k + 1 : Nat) : Int) - 1 = k := by omega
    have mr := n_mrow (hh := hh) (g := g) (m := m) (s := s) (w := w) (t := k) (v := v) (L := m_g hh 124 k) I c c1 (by omega) (by omega) N m0 m1 L1.1 L1.2 x1 v20 vl v6 (fun j j1 j2 => ⟨hV j j1 j2, hb j j1 j2⟩) (fun j j1 j2 => hR j j1 j2)
    have rb := fun t p => n_run_b g m s w t p
    have mb := n_mxN_b (L := m_g hh 124 k) (f := fun p => n_run g m s w k p) (M := 1000) L1.1 L1.2 (fun p => by have := rb k p; show n_run g m s w k p ≤ 1000; omega) (n_wl g s w).toNat
    have I6 : n_I (n_fl hh 126 0 (n_wl g s w) (fun p => n_run g m s w k p)) := n_I_fl I (Or.inl t6)
    have I4 : n_I (m_p (n_fl hh 126 0 (n_wl g s w) (fun p => n_run g m s w k p)) 124 k (n_mxN (m_g hh 124 k) (fun p => n_run g m s w k p) (n_wl g s w).toNat)) := n_I_pa I6 (Or.inl (n_t124 I6.2))
    have ge : ∀ b j, b ≠ 124 → b ≠ 126 → m_g (m_p (n_fl hh 126 0 (n_wl g s w) (fun p => n_run g m s w k p)) 124 k (n_mxN (m_g hh 124 k) (fun p => n_run g m s w k p) (n_wl g s w).toNat)) b j = m_g hh b j := fun b j h1 h2 => by
      rw [n_gp_n (by omega), n_g_fl, if_neg (by omega)]
    have g4 : ∀ t, m_g (m_p (n_fl hh 126 0 (n_wl g s w) (fun p => n_run g m s w k p)) 124 k (n_mxN (m_g hh 124 k) (fun p => n_run g m s w k p) (n_wl g s w).toNat)) 124 t = if t = k then n_mxN (m_g hh 124 k) (fun p => n_run g m s w k p) (n_wl g s w).toNat else m_g hh 124 t := fun t => by
      by_cases q : t = k
      · rw [if_pos q, n_gp_y ⟨rfl, q⟩]
      · rw [if_neg q, n_gp_n (by omega), n_g_fl, if_neg (by omega)]
    have g6 : ∀ j, 0 ≤ j → j < 600 → m_g (m_p (n_fl hh 126 0 (n_wl g s w) (fun p => n_run g m s w k p)) 124 k (n_mxN (m_g hh 124 k) (fun p => n_run g m s w k p) (n_wl g s w).toNat)) 126 j = n_run g m s w k j := fun j j1 j2 => by
      rw [n_gp_n (by omega), n_g_fl]
      by_cases q : j < n_wl g s w
      · rw [if_pos ⟨rfl, j1, q⟩]
      · rw [if_neg (by omega), hR j j1 j2, n_run_out (by omega), n_run_out (by omega)]
    have e50 : t1_measureWay_x50 50 121 m v (n_wl g s w) k 0 0 0 hh = t1_measureWay_x50 50 121 m v (n_wl g s w) (k - 1) 0 0 0 (m_p (n_fl hh 126 0 (n_wl g s w) (fun p => n_run g m s w k p)) 124 k (n_mxN (m_g hh 124 k) (fun p => n_run g m s w k p) (n_wl g s w).toNat)) := by
      have el : t1_longestFrom 121 k hh = some (m_g hh 124 k, hh) := by
        unfold t1_longestFrom t10_entry
        rw [if_pos k1, n_p121_8 I.2, m_w_of (x := (k : Int)) (by omega) (by omega), if_neg (by omega), if_pos (by omega), m_w_of (x := m_l hh 124) (by omega) (by omega), if_pos (by omega), if_pos ⟨t4, by omega, by omega⟩, n_bs]
      rw [t1_measureWay_x50, if_pos rfl, m_w_of (x := (k : Int)) (by omega) (by omega), if_neg (by omega), if_pos k1, n_p121_1 I.2, if_pos t9, n_get R9 (by omega) (by omega), n_bs, hT k (by omega) (by omega)]
      show (if m_t hh 121 = 1 then t1_longestFrom 121 k hh >>= _ else none) = _
      rw [if_pos k1, el, n_bs]
      refine mr.trans ?_
      generalize n_mxN (m_g hh 124 k) (fun p => n_run g m s w k p) (n_wl g s w).toNat = M at *
      generalize n_fl hh 126 0 (n_wl g s w) (fun p => n_run g m s w k p) = hf at *
      have f4 := n_t124 I6.2
      have fl := n_l124 I6.2
      have es : t10_setEntry 124 k M hf = some ((), m_p hf 124 k M) := by
        unfold t10_setEntry
        rw [m_w_of (x := (k : Int)) (by omega) (by omega), if_neg (by omega), if_pos (by omega), m_w_of (x := m_l hf 124) (by omega) (by omega), if_pos (by omega), if_pos ⟨f4, by omega, by omega⟩, n_bs]
      rw [t1_measureWay_x50, if_neg (by omega), if_pos rfl, m_w_of (x := n_wl g s w) (by omega) (by omega), if_neg (by omega), if_pos (n_t121 I6.2), n_p121_8 I6.2, es, n_bs]
      rfl
    have e2 : (m_p (n_fl hh 126 0 (n_wl g s w) (fun p => n_run g m s w k p)) 124 k (n_mxN (m_g hh 124 k) (fun p => n_run g m s w k p) (n_wl g s w).toNat)).2 = hh.2 := rfl
    generalize m_p (n_fl hh 126 0 (n_wl g s w) (fun p => n_run g m s w k p)) 124 k (n_mxN (m_g hh 124 k) (fun p => n_run g m s w k p) (n_wl g s w).toNat) = h2 at *
    have rg : ∀ j, n_rg h2 119 j = n_rg hh 119 j := fun j => by
      unfold n_rg
      rw [ge 119 1 (by omega) (by omega), ge 119 0 (by omega) (by omega), ge _ j (s4.2.2 119 t9) (s6.2.2 119 t9)]
    obtain ⟨h', a1, a2, a3, a4, a5⟩ := ih h2 I4 (by omega) (by rw [n_e2t e2]; exact v20) (by rw [n_e2l e2]; exact vl) (fun j j1 j2 => by rw [ge v j v4 v6]; exact hV j j1 j2) (fun t t1 t2 => by rw [rg]; exact hT t t1 t2) (fun t t1 t2 => by rw [g4, if_neg (by omega)]; exact hL t t1 (by omega)) g6
    refine ⟨h', ?_, a2, a3.trans e2, fun b j h1 h2 => (a4 b j h1 h2).trans (ge b j h1 h2), fun t => ?_⟩
    · rw [eT, e50]
      exact a1
    · rw [a5 t, g4 t]
      by_cases q : t = k
      · subst q
        rw [if_neg (by omega), if_pos rfl, if_pos (by omega)]
      · rw [if_neg q]
        by_cases q2 : 0 ≤ t ∧ t < k
        · rw [if_pos q2, if_pos (by omega)]
        · rw [if_neg q2, if_neg (by omega)]
