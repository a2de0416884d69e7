/-! CALLS: near, rivals, remade, stretch, unfound: the four ways of a row -/
theorem n_tdl {m d q : Int} (m0 : 0 ≤ m) (m1 : m < q) (d0 : 0 ≤ d) : 0 ≤ Int.tdiv (m * d) q ∧ Int.tdiv (m * d) q ≤ d := by
  have x0 : 0 ≤ m * d := Int.mul_nonneg m0 d0
  obtain ⟨t1, t2, t3, t4, t5, t6⟩ := n_td x0 (show 1 ≤ q by omega)
  refine ⟨t1, ?_⟩
  by_cases c : Int.tdiv (m * d) q ≤ d
  · exact c
  · have e1 : (d + 1) * q ≤ Int.tdiv (m * d) q * q := Int.mul_le_mul_of_nonneg_right (by omega) (by omega)
    have e2 : m * d ≤ q * d := Int.mul_le_mul_of_nonneg_right (by omega) d0
    have e3 : (d + 1) * q = d * q + q := by rw [Int.add_mul, Int.one_mul]
    have e4 : q * d = d * q := Int.mul_comm _ _
    omega
theorem n_play_in {r : Int → Int} {n i p q : Int} (hr : ∀ j, 0 ≤ j → j < n → -32768 ≤ r j ∧ r j ≤ 32767) (i1 : 0 ≤ i) (p1 : 1 ≤ p) (q1 : 1 ≤ q) (n1 : 1 ≤ n) : -32768 ≤ n_play r n i p q ∧ n_play r n i p q ≤ 32767 := by
  have e0 : 0 ≤ i * p := Int.mul_nonneg i1 (by omega)
  obtain ⟨g1, g2, g3, g4, g5, g6⟩ := n_td e0 q1
  unfold n_play
  by_cases c : n - 1 ≤ Int.tdiv (i * p) q
  · rw [if_pos c]; exact hr _ (by omega) (by omega)
  · rw [if_neg c]
    have v0 := hr (Int.tdiv (i * p) q) (by omega) (by omega)
    have v1 := hr (Int.tdiv (i * p) q + 1) (by omega) (by omega)
    generalize r (Int.tdiv (i * p) q) = a at *
    generalize r (Int.tdiv (i * p) q + 1) = b at *
    by_cases d : 0 ≤ b - a
    · have := n_tdl g5 g6 d
      omega
    · have := n_tdl (d := a - b) g5 g6 (by omega)
      have e : Int.tmod (i * p) q * (b - a) = -(Int.tmod (i * p) q * (a - b)) := by rw [← Int.mul_neg]; congr 1; omega
      rw [e, Int.neg_tdiv]
      omega
theorem n_wl_1 {g : m_H} {s : Int} (G : n_gs g) (c : 0 ≤ s ∧ s < m_g g 127 14) (w : Int) : 1 ≤ n_wl g s w ∧ n_wl g s w ≤ 600 := by
  have b := G.2.1 s c.1 c.2
  unfold n_strB at b
  have t := n_td (x := m_g g 131 s - 1) (q := 2) (by omega) (by omega)
  unfold n_wl
  split
  · omega
  · split <;> omega
theorem n_smp_b {g : m_H} {s j : Int} (G : n_gs g) (c : 0 ≤ s ∧ s < m_g g 127 14) (j1 : 0 ≤ j) (j2 : j < m_g g 131 s) : -32768 ≤ n_smp g s j ∧ n_smp g s j ≤ 32767 := by
  have b := G.2.1 s c.1 c.2
  unfold n_strB at b
  exact G.2.2.2.1 _ (by omega) (by omega)
theorem n_wv_b {g : m_H} {s w i : Int} (G : n_gs g) (c : 0 ≤ s ∧ s < m_g g 127 14) (i1 : 0 ≤ i) (i2 : i < n_wl g s w) : -32768 ≤ n_wv g s w i ∧ n_wv g s w i ≤ 32767 := by
  have b := G.2.1 s c.1 c.2
  unfold n_strB at b
  unfold n_wl at i2
  unfold n_wv
  have P := fun (p q : Int) (p1 : 1 ≤ p) (q1 : 1 ≤ q) => n_play_in (r := n_smp g s) (n := m_g g 131 s) (i := i) (p := p) (q := q) (fun j j1 j2 => n_smp_b G c j1 j2) i1 p1 q1 (by omega)
  by_cases c1 : w = 1
  · rw [if_pos c1]
    rw [if_neg (by omega), if_neg (by omega)] at i2
    exact n_smp_b G c (by omega) (by omega)
  · rw [if_neg c1]
    by_cases c2 : w = 2
    · rw [if_pos c2]; exact P 1 2 (by omega) (by omega)
    · rw [if_neg c2]
      by_cases c3 : w = 3
      · rw [if_pos c3]; exact P 2 1 (by omega) (by omega)
      · rw [if_neg c3]
        rw [if_neg c2, if_neg c3] at i2
        exact n_smp_b G c i1 i2
/-- the component's row of a way -/
theorem n_fillWay {h g : m_H} {s v w : Int} (I : n_I h) (G : n_gs g) (c : 0 ≤ s ∧ s < m_g g 127 14) (hv : m_t h v = 5) (hn : v ≠ 122) (el : m_g h v 1 = m_g g 131 s) (er : ∀ j, 0 ≤ j → j < m_g g 131 s → n_rg h v j = n_smp g s j) (w0 : 0 ≤ w) (w1 : w ≤ 3) : ∃ h', t1_fillWay 121 v w h = some ((), h') ∧ n_rwc h h' 122 (n_wl g s w) (n_wv g s w) := by
  have b := G.2.1 s c.1 c.2
  unfold n_strB at b
  have t1 := n_t121 I.2
  have t5 := n_t122 I.2
  have p2 := n_p121_2 I.2
  have sv : n_sv h v := fun j => by
    by_cases q : 0 ≤ j ∧ j < m_g g 131 s
    · rw [er j q.1 q.2]; exact n_smp_b G c q.1 q.2
    · unfold n_rg; rw [if_neg (by omega)]; omega
  have conv : ∀ {h' : m_H} {n : Int} {f : Int → Int}, n_rwc h h' 122 n f → n = n_wl g s w → (∀ j, 0 ≤ j → j < n → f j = n_wv g s w j) → n_rwc h h' 122 (n_wl g s w) (n_wv g s w) := fun {h' n f} A e1 e2 => by
    subst e1
    exact ⟨⟨A.1.1, A.1.2.1, A.1.2.2.1, fun j j1 j2 => (A.1.2.2.2.1 j j1 j2).trans (e2 j j1 j2), A.1.2.2.2.2⟩, A.2⟩
  have P := fun (p q j : Int) (p1 : 1 ≤ p) (q1 : 1 ≤ q) (j1 : 0 ≤ j) => n_play_in (r := n_smp g s) (n := m_g g 131 s) (i := j) (p := p) (q := q) (fun j j1 j2 => n_smp_b G c j1 j2) j1 p1 q1 (by omega)
  have Q := fun (p q j : Int) (p1 : 1 ≤ p) (q1 : 1 ≤ q) (j1 : 0 ≤ j) => n_play_eq (r := n_rg h v) (r' := n_smp g s) (n := m_g g 131 s) (i := j) (p := p) (q := q) er j1 p1 q1 (by omega)
  unfold t1_fillWay
  rw [m_w_of (x := w) (by omega) (by omega)]
  by_cases c1 : w = 1
  · obtain ⟨h', e, A⟩ := n_fillTurned (v := 122) (w := v) I.1 t5 hv hn (by omega) sv
    refine ⟨h', ?_, conv A (by unfold n_wl; rw [if_neg (by omega), if_neg (by omega)]; exact el) (fun j j1 j2 => by
      unfold n_wv
      rw [if_pos c1]
      show n_rg h v (m_g h v 1 - 1 - j) = _
      rw [el, er _ (by omega) (by omega)])⟩
    rw [if_pos c1, if_pos t1, p2, if_pos t5, e, n_bs]
  · rw [if_neg c1]
    by_cases c2 : w = 2
    · obtain ⟨h', e, A⟩ := n_fillPlayed (v := 122) (w := v) (p := 1) (q := 2) (n := 2 * m_g g 131 s - 1) I.1 t5 hv hn sv (by omega) (by omega) (by omega) (by omega) (by omega) (by omega) (by rw [el, Int.tdiv_one]; omega) (by omega)
      refine ⟨h', ?_, conv A (by unfold n_wl; rw [if_pos c2]) (fun j j1 j2 => by
        unfold n_wv
        rw [if_neg c1, if_pos c2]
        show n_cl (n_play (n_rg h v) (m_g h v 1) j 1 2) = _
        rw [el, Q 1 2 j (by omega) (by omega) j1]
        exact n_cl_of (P 1 2 j (by omega) (by omega) j1).1 (P 1 2 j (by omega) (by omega) j1).2)⟩
      rw [if_pos c2, if_pos t1, p2, if_pos t5, e, n_bs]
    · rw [if_neg c2]
      by_cases c3 : w = 3
      · have t := n_td (x := m_g g 131 s - 1) (q := 2) (by omega) (by omega)
        obtain ⟨h', e, A⟩ := n_fillPlayed (v := 122) (w := v) (p := 2) (q := 1) (n := Int.tdiv (m_g g 131 s - 1) 2 + 1) I.1 t5 hv hn sv (by omega) (by omega) (by omega) (by omega) (by omega) (by omega) (by rw [el, Int.mul_one]) (by omega)
        refine ⟨h', ?_, conv A (by unfold n_wl; rw [if_neg c2, if_pos c3]) (fun j j1 j2 => by
          unfold n_wv
          rw [if_neg c1, if_neg c2, if_pos c3]
          show n_cl (n_play (n_rg h v) (m_g h v 1) j 2 1) = _
          rw [el, Q 2 1 j (by omega) (by omega) j1]
          exact n_cl_of (P 2 1 j (by omega) (by omega) j1).1 (P 2 1 j (by omega) (by omega) j1).2)⟩
        rw [if_pos c3, if_pos t1, p2, if_pos t5, e, n_bs]
      · obtain ⟨h', e, A⟩ := n_fillPartC (v := 122) (w := v) (b := 0) (n := m_g g 131 s) I.1 t5 hv hn (by omega) (by omega) (by omega) (by omega) sv
        refine ⟨h', ?_, conv A (by unfold n_wl; rw [if_neg c2, if_neg c3]) (fun j j1 j2 => by
          unfold n_wv
          rw [if_neg c1, if_neg c2, if_neg c3]
          show n_rg h v (0 + j) = _
          rw [show 0 + j = j by omega, er j j1 j2])⟩
        rw [if_neg c3, if_pos t1, if_pos hv, n_size hv, n_bs, el]
        show (if m_t h (m_g h 121 2) = 5 then t5_fillPart (m_g h 121 2) v 0 (m_g g 131 s) h >>= _ else none) = _
        rw [p2, if_pos t5, e, n_bs]
