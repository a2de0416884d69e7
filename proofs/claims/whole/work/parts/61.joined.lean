/-! CALLS: splice: the rows -/
theorem n_fillF {β : Type} (G : Int → m_H → β) {h : m_H} {a lo m n : Int} (f : Int → Int) (hl : lo ≤ m) (hle : m ≤ n) (hs : ∀ i, m ≤ i → i < n → G i (n_fl h a lo i f) = G (i + 1) (m_p (n_fl h a lo i f) a i (f i))) : G m (n_fl h a lo m f) = G n (n_fl h a lo n f) :=
  n_iter (fun i => G i (n_fl h a lo i f)) m n hle (fun i h1 h2 => by
    show G i (n_fl h a lo i f) = G (i + 1) (n_fl h a lo (i + 1) f)
    rw [hs i h1 h2, n_p_fl (by omega) rfl])
def n_jm (r1 r2 : Int → Int) (c k j : Int) : Int := n_cl (Int.tdiv (r1 j * (k - (j - c)) + r2 (j - c) * (j - c + 1)) (k + 1))
def n_jn (r1 r2 : Int → Int) (c k j : Int) : Int := if j < c then r1 j else if j < c + k then n_jm r1 r2 c k j else r2 (j - c)
theorem n_jm_b {x y k i : Int} (x1 : -32768 ≤ x) (x2 : x ≤ 32767) (y1 : -32768 ≤ y) (y2 : y ≤ 32767) (i1 : 0 ≤ i) (i2 : i < k) (k2 : k ≤ 20) : -2000000 ≤ x * (k - i) + y * (i + 1) ∧ x * (k - i) + y * (i + 1) ≤ 2000000 := by
  have a := n_mulb (a := x) (b := k - i) (A := 32768) (B := 20) (by omega) (by omega) (by omega) (by omega)
  have b := n_mulb (a := y) (b := i + 1) (A := 32768) (B := 20) (by omega) (by omega) (by omega) (by omega)
  omega
theorem n_jn_eq {r1 r2 s1 s2 : Int → Int} {c k l2 j : Int} (k0 : 0 ≤ k) (e1 : ∀ i, 0 ≤ i → i < c + k → r1 i = s1 i) (e2 : ∀ i, 0 ≤ i → i < l2 → r2 i = s2 i) (hk : k ≤ l2) (j1 : 0 ≤ j) (j2 : j < c + l2) : n_jn r1 r2 c k j = n_jn s1 s2 c k j := by
  unfold n_jn n_jm
  by_cases a : j < c
  · rw [if_pos a, if_pos a, e1 j j1 (by omega)]
  · rw [if_neg a, if_neg a]
    by_cases b : j < c + k
    · rw [if_pos b, if_pos b, e1 j j1 b, e2 (j - c) (by omega) (by omega)]
    · rw [if_neg b, if_neg b, e2 (j - c) (by omega) (by omega)]
theorem n_jn_b {r1 r2 : Int → Int} {c k l2 j : Int} (k0 : 0 ≤ k) (e1 : ∀ i, 0 ≤ i → i < c + k → -32768 ≤ r1 i ∧ r1 i ≤ 32767) (e2 : ∀ i, 0 ≤ i → i < l2 → -32768 ≤ r2 i ∧ r2 i ≤ 32767) (j1 : 0 ≤ j) (j2 : j < c + l2) : -32768 ≤ n_jn r1 r2 c k j ∧ n_jn r1 r2 c k j ≤ 32767 := by
  unfold n_jn
  by_cases a : j < c
  · rw [if_pos a]; exact e1 j j1 (by omega)
  · rw [if_neg a]
    by_cases b : j < c + k
    · rw [if_pos b]; exact ⟨n_cl_lo _, n_cl_hi _⟩
    · rw [if_neg b]; exact e2 (j - c) (by omega) (by omega)
theorem n_fillJoined {h : m_H} {v w u k : Int} (W : n_wf h) (hv : m_t h v = 5) (hw : m_t h w = 5) (hu : m_t h u = 5) (hn : w ≠ v) (hn2 : u ≠ v) (sw : n_sv h w) (su : n_sv h u) (l1 : m_g h w 1 ≤ 1500) (l2 : m_g h u 1 ≤ 1500) (k0 : 0 ≤ k) (k1 : k ≤ 20) (k2 : k ≤ m_g h w 1) (k3 : k ≤ m_g h u 1) : ∃ h', t5_fillJoined v w u k h = some ((), h') ∧ n_rwc h h' v (m_g h w 1 + m_g h u 1 - k) (n_jn (n_rg h w) (n_rg h u) (m_g h w 1 - k) k) := by
  obtain ⟨h1, e1, W1, R1, en, C1, hc, hcc⟩ := n_after (x := m_g h w 1 + m_g h u 1 - k) W hv (by omega) (by omega)
  obtain ⟨o1, o2, o3, o4, o5⟩ := n_oth W hv C1 hw hn
  obtain ⟨p1, p2, p3, p4, p5⟩ := n_oth W hv C1 hu hn2
  generalize hc' : m_g h w 1 - k = c at *
  have hF := n_lf W1 R1.1 0
  have fac : ∀ i, n_row (n_fl h1 (m_g h1 v 0) 0 i (n_jn (n_rg h w) (n_rg h u) c k)) v ∧ m_g (n_fl h1 (m_g h1 v 0) 0 i (n_jn (n_rg h w) (n_rg h u) c k)) v 0 = m_g h1 v 0 ∧ m_g (n_fl h1 (m_g h1 v 0) 0 i (n_jn (n_rg h w) (n_rg h u) c k)) v 1 = m_g h w 1 + m_g h u 1 - k ∧ (n_row (n_fl h1 (m_g h1 v 0) 0 i (n_jn (n_rg h w) (n_rg h u) c k)) w ∧ ∀ j, n_rg (n_fl h1 (m_g h1 v 0) 0 i (n_jn (n_rg h w) (n_rg h u) c k)) w j = n_rg h w j) ∧ n_row (n_fl h1 (m_g h1 v 0) 0 i (n_jn (n_rg h w) (n_rg h u) c k)) u ∧ m_g (n_fl h1 (m_g h1 v 0) 0 i (n_jn (n_rg h w) (n_rg h u) c k)) u 1 = m_g h u 1 ∧ ∀ j, n_rg (n_fl h1 (m_g h1 v 0) 0 i (n_jn (n_rg h w) (n_rg h u) c k)) u j = n_rg h u j := fun i => by
    obtain ⟨c1, c2, c3, c4, c5⟩ := hF i (n_jn (n_rg h w) (n_rg h u) c k)
    obtain ⟨c6, c7, c8⟩ := c5 w o1.1 hn
    obtain ⟨d6, d7, d8⟩ := c5 u p1.1 hn2
    exact ⟨c1, c2, c3.trans en, ⟨c6, fun j => (c8 j).trans (o5 j)⟩, d6, d7.trans p3, fun j => (d8 j).trans (p5 j)⟩
  have key1 := n_fillF (fun i h => t5_fillJoined_c21 v w u k c i h) (h := h1) (a := m_g h1 v 0) (lo := 0) (m := 0) (n := c) (n_jn (n_rg h w) (n_rg h u) c k) (by omega) (by omega) (fun i i1 i2 => by
    obtain ⟨c1, c2, c3, ⟨c4, c5⟩, c6, c7, c8⟩ := fac i
    have s := sw i
    show t5_fillJoined_c21 v w u k c i _ = t5_fillJoined_c21 v w u k c (i + 1) _
    rw [t5_fillJoined_c21]
    have ef : n_jn (n_rg h w) (n_rg h u) c k i = n_rg h w i := by unfold n_jn; rw [if_pos i2]
    rw [ef]
    generalize n_fl h1 (m_g h1 v 0) 0 i (n_jn (n_rg h w) (n_rg h u) c k) = hi at *
    rw [m_w_of (x := i) (by omega) (by omega), m_w_of (x := c) (by omega) (by omega), if_pos i2, if_pos c4.1, n_get c4 (by omega) (by omega), n_bs, c5]
    show (if m_t hi v = 5 then t5_set v i (n_rg h w i) hi >>= _ else none) = _
    rw [if_pos c1.1, n_set c1 i1 (by omega) (by omega) (by omega), n_bs, c2, n_cl_of s.1 s.2])
  have key2 := n_fillF (fun i h => t5_fillJoined_c49 v w u k c (i - c) h) (h := h1) (a := m_g h1 v 0) (lo := 0) (m := c) (n := c + k) (n_jn (n_rg h w) (n_rg h u) c k) (by omega) (by omega) (fun i i1 i2 => by
    obtain ⟨c1, c2, c3, ⟨c4, c5⟩, c6, c7, c8⟩ := fac i
    have s := sw i
    have s2 := su (i - c)
    have b := n_jm_b (x := n_rg h w i) (y := n_rg h u (i - c)) (k := k) (i := i - c) s.1 s.2 s2.1 s2.2 (by omega) (by omega) k1
    have b2 := n_tdb (q := k + 1) (B := 2000000) (by omega) b.1 b.2
    have ef : n_jn (n_rg h w) (n_rg h u) c k i = n_cl (Int.tdiv (n_rg h w i * (k - (i - c)) + n_rg h u (i - c) * (i - c + 1)) (k + 1)) := by unfold n_jn n_jm; rw [if_neg (by omega), if_pos i2]
    show t5_fillJoined_c49 v w u k c (i - c) _ = t5_fillJoined_c49 v w u k c (i + 1 - c) _
    rw [t5_fillJoined_c49, ef]
    generalize n_fl h1 (m_g h1 v 0) 0 i (n_jn (n_rg h w) (n_rg h u) c k) = hi at *
    rw [m_w_of (x := i - c) (by omega) (by omega), m_w_of (x := k) (by omega) (by omega), if_pos (by omega), if_pos c4.1, show c + (i - c) = i by omega, n_get c4 (by omega) (by omega), n_bs, c5]
    show (if m_t hi u = 5 then t5_get u (i - c) hi >>= _ else none) = _
    rw [if_pos c6.1, n_get c6 (by omega) (by omega), n_bs, c8]
    show (some (n_rg h w i * (k - (i - c)) + n_rg h u (i - c) * (i - c + 1)) >>= fun x8 => if m_w (k + 1) = 0 then none else if m_t hi v = 5 then t5_set v i (Int.tdiv (m_w x8) (m_w (k + 1))) hi >>= _ else none) = _
    rw [n_bs, m_w_of (x := k + 1) (by omega) (by omega), if_neg (by omega), if_pos c1.1, m_w_of (by omega) (by omega), n_set c1 (by omega) (by omega) (by omega) (by omega), n_bs, c2, show i - c + 1 = i + 1 - c by omega])
  have key3 := n_fillF (fun i h => t5_fillJoined_c107 v u c (i - c) h) (h := h1) (a := m_g h1 v 0) (lo := 0) (m := c + k) (n := m_g h w 1 + m_g h u 1 - k) (n_jn (n_rg h w) (n_rg h u) c k) (by omega) (by omega) (fun i i1 i2 => by
    obtain ⟨c1, c2, c3, ⟨c4, c5⟩, c6, c7, c8⟩ := fac i
    have s2 := su (i - c)
    have ef : n_jn (n_rg h w) (n_rg h u) c k i = n_rg h u (i - c) := by unfold n_jn; rw [if_neg (by omega), if_neg (by omega)]
    show t5_fillJoined_c107 v u c (i - c) _ = t5_fillJoined_c107 v u c (i + 1 - c) _
    rw [t5_fillJoined_c107, ef]
    generalize n_fl h1 (m_g h1 v 0) 0 i (n_jn (n_rg h w) (n_rg h u) c k) = hi at *
    rw [if_pos c6.1, c7, m_w_of (x := i - c) (by omega) (by omega), m_w_of (x := m_g h u 1) (by omega) (by omega), if_pos (by omega), n_get c6 (by omega) (by omega), n_bs, c8]
    show (if m_t hi v = 5 then t5_set v (c + (i - c)) (n_rg h u (i - c)) hi >>= _ else none) = _
    rw [if_pos c1.1, show c + (i - c) = i by omega, n_set c1 (by omega) (by omega) (by omega) (by omega), n_bs, c2, n_cl_of s2.1 s2.2, show i - c + 1 = i + 1 - c by omega])
  refine ⟨n_fl h1 (m_g h1 v 0) 0 (m_g h w 1 + m_g h u 1 - k) (n_jn (n_rg h w) (n_rg h u) c k), ?_, n_done C1 R1 hc hcc (n_wf_lt W hv).1 en _ (fun j j1 j2 => by rw [if_pos ⟨j1, j2⟩])⟩
  unfold t5_fillJoined
  rw [if_pos hw, n_bs, hc']
  unfold t5_joinedSize
  rw [if_pos hw, if_pos hu, n_bs]
  show (if m_t h v = 5 then t5_resize v (m_g h w 1 + m_g h u 1 - k) h >>= _ else none) = _
  rw [if_pos hv, e1, n_bs]
  have z : n_fl h1 (m_g h1 v 0) 0 0 (n_jn (n_rg h w) (n_rg h u) c k) = h1 := n_fl_0 _ _ _ _ _ (by omega)
  rw [z] at key1
  refine key1.trans ?_
  show t5_fillJoined_c21 v w u k c c _ = _
  rw [t5_fillJoined_c21, if_neg (by omega)]
  have z2 : (0 : Int) = c - c := by omega
  refine Eq.trans (congrArg (fun x => t5_fillJoined_c49 v w u k c x (n_fl h1 (m_g h1 v 0) 0 c (n_jn (n_rg h w) (n_rg h u) c k))) z2) (key2.trans ?_)
  · show t5_fillJoined_c49 v w u k c (c + k - c) _ = _
    rw [t5_fillJoined_c49, if_neg (by rw [show c + k - c = k by omega]; omega)]
    refine Eq.trans ?_ (key3.trans ?_)
    · show t5_fillJoined_c107 v u c k _ = t5_fillJoined_c107 v u c (c + k - c) _
      rw [show c + k - c = k by omega]
    · show t5_fillJoined_c107 v u c (m_g h w 1 + m_g h u 1 - k - c) _ = _
      obtain ⟨c1, c2, c3, ⟨c4, c5⟩, c6, c7, c8⟩ := fac (m_g h w 1 + m_g h u 1 - k)
      rw [t5_fillJoined_c107, if_pos c6.1, c7, if_neg (by rw [m_w_of (by omega) (by omega), m_w_of (by omega) (by omega)]; omega)]
