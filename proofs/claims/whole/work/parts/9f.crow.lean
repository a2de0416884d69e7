/-! CALLS: make ..: the component's operations on rows (written by gen9f.py) -/
theorem n_jm_b4 {x y k i : Int} (x1 : -32768 ≤ x) (x2 : x ≤ 32767) (y1 : -32768 ≤ y) (y2 : y ≤ 32767) (i1 : 0 ≤ i) (i2 : i < k) (k2 : k ≤ 40) : -3000000 ≤ x * (k - i) + y * (i + 1) ∧ x * (k - i) + y * (i + 1) ≤ 3000000 := by
  have a := n_mulb (a := x) (b := k - i) (A := 32768) (B := 40) (by omega) (by omega) (by omega) (by omega)
  have b := n_mulb (a := y) (b := i + 1) (A := 32768) (B := 40) (by omega) (by omega) (by omega) (by omega)
  omega
theorem n_fillJoined4 {h : m_H} {v w u k : Int} (W : n_wf h) (hv : m_t h v = 5) (hw : m_t h w = 5) (hu : m_t h u = 5) (hn : w ≠ v) (hn2 : u ≠ v) (sw : n_sv h w) (su : n_sv h u) (l1 : m_g h w 1 ≤ 1500) (l2 : m_g h u 1 ≤ 1500) (k0 : 0 ≤ k) (k1 : k ≤ 40) (k2 : k ≤ m_g h w 1) (k3 : k ≤ m_g h u 1) : ∃ h', t5_fillJoined v w u k h = some ((), h') ∧ n_rwc h h' v (m_g h w 1 + m_g h u 1 - k) (n_jn (n_rg h w) (n_rg h u) (m_g h w 1 - k) k) := by
  obtain ⟨h1, e1, W1, R1, en, C1, hc, hcc⟩ := n_after (x := m_g h w 1 + m_g h u 1 - k) W hv (by omega) (by omega)
  obtain ⟨o1, o2, o3, o4, o5⟩ := n_oth W hv C1 hw hn
  obtain ⟨p1, p2, p3, p4, p5⟩ := n_oth W hv C1 hu hn2
  generalize hc' : m_g h w 1 - k = c at *
  have hF := n_lf W1 R1.1 0
  have fac : ∀ i, n_row (n_fl h1 (m_g h1 v 0) 0 i (n_jn (n_rg h w) (n_rg h u) c k)) v ∧ m_g (n_fl h1 (m_g h1 v 0) 0 i (n_jn (n_rg h w) (n_rg h u) c k)) v 0 = m_g h1 v 0 ∧ m_g (n_fl h1 (m_g h1 v 0) 0 i (n_jn (n_rg h w) (n_rg h u) c k)) v 1 = m_g h w 1 + m_g h u 1 - k ∧ (n_row (n_fl h1 (m_g h1 v 0) 0 i (n_jn (n_rg h w) (n_rg h u) c k)) w ∧ ∀ j, n_rg (n_fl h1 (m_g h1 v 0) 0 i (n_jn (n_rg h w) (n_rg h u) c k)) w j = n_rg h w j) ∧ n_row (n_fl h1 (m_g h1 v 0) 0 i (n_jn (n_rg h w) (n_rg h u) c k)) u ∧ m_g (n_fl h1 (m_g h1 v 0) 0 i (n_jn (n_rg h w) (n_rg h u) c k)) u 1 = m_g h u 1 ∧ ∀ j, n_rg (n_fl h1 (m_g h1 v 0) 0 i (n_jn (n_rg h w) (n_rg h u) c k)) u j = n_rg h u j := fun i => by
    obtain ⟨c1, c2, c3, c4, c5⟩ := hF i (n_jn (n_rg h w) (n_rg h u) c k)
    obtain ⟨c6, c7, c8⟩ := c5 w o1.1 hn
    obtain ⟨d6, d7, d8⟩ := c5 u p1.1 hn2
    exact ⟨c1, c2, c3.trans en, ⟨c6, fun j => (c8 j).trans (o5 j)⟩, d6, d7.trans p3, fun j => (d8 j).trans (p5 j)⟩
  have key1 := n_fillF (fun i h => t5_fillJoined_c21 v w u k c i h) (h := h1) (a := m_g h1 v 0) (lo := 0) (m := 0) (n := c) (n_jn (n_rg h w) (n_rg h u) c k) (by omega) (by omega) (fun i i1 i2 => by
    obtain ⟨c1, c2, c3, ⟨c4, c5⟩, c6, c7, c8⟩ := fac i
    have s := sw i
    show t5_fillJoined_c21 v w u k c i _ = t5_fillJoined_c21 v w u k c (i + 1) _
    rw [t5_fillJoined_c21]
    have ef : n_jn (n_rg h w) (n_rg h u) c k i = n_rg h w i := by unfold n_jn; rw [if_pos i2]
    rw [ef]
    generalize n_fl h1 (m_g h1 v 0) 0 i (n_jn (n_rg h w) (n_rg h u) c k) = hi at *
    rw [m_w_of (x := i) (by omega) (by omega), m_w_of (x := c) (by omega) (by omega), if_pos i2, if_pos c4.1, n_get c4 (by omega) (by omega), n_bs, c5]
    show (if m_t hi v = 5 then t5_set v i (n_rg h w i) hi >>= _ else none) = _
    rw [if_pos c1.1, n_set c1 i1 (by omega) (by omega) (by omega), n_bs, c2, n_cl_of s.1 s.2])
  have key2 := n_fillF (fun i h => t5_fillJoined_c49 v w u k c (i - c) h) (h := h1) (a := m_g h1 v 0) (lo := 0) (m := c) (n := c + k) (n_jn (n_rg h w) (n_rg h u) c k) (by omega) (by omega) (fun i i1 i2 => by
    obtain ⟨c1, c2, c3, ⟨c4, c5⟩, c6, c7, c8⟩ := fac i
    have s := sw i
    have s2 := su (i - c)
    have b := n_jm_b4 (x := n_rg h w i) (y := n_rg h u (i - c)) (k := k) (i := i - c) s.1 s.2 s2.1 s2.2 (by omega) (by omega) k1
    have b2 := n_tdb (q := k + 1) (B := 3000000) (by omega) b.1 b.2
    have ef : n_jn (n_rg h w) (n_rg h u) c k i = n_cl (Int.tdiv (n_rg h w i * (k - (i - c)) + n_rg h u (i - c) * (i - c + 1)) (k + 1)) := by unfold n_jn n_jm; rw [if_neg (by omega), if_pos i2]
    show t5_fillJoined_c49 v w u k c (i - c) _ = t5_fillJoined_c49 v w u k c (i + 1 - c) _
    rw [t5_fillJoined_c49, ef]
    generalize n_fl h1 (m_g h1 v 0) 0 i (n_jn (n_rg h w) (n_rg h u) c k) = hi at *
    rw [m_w_of (x := i - c) (by omega) (by omega), m_w_of (x := k) (by omega) (by omega), if_pos (by omega), if_pos c4.1, show c + (i - c) = i by omega, n_get c4 (by omega) (by omega), n_bs, c5]
    show (if m_t hi u = 5 then t5_get u (i - c) hi >>= _ else none) = _
    rw [if_pos c6.1, n_get c6 (by omega) (by omega), n_bs, c8]
    show (some (n_rg h w i * (k - (i - c)) + n_rg h u (i - c) * (i - c + 1)) >>= fun x8 => if m_w (k + 1) = 0 then none else if m_t hi v = 5 then t5_set v i (Int.tdiv (m_w x8) (m_w (k + 1))) hi >>= _ else none) = _
    rw [n_bs, m_w_of (x := k + 1) (by omega) (by omega), if_neg (by omega), if_pos c1.1, m_w_of (by omega) (by omega), n_set c1 (by omega) (by omega) (by omega) (by omega), n_bs, c2, show i - c + 1 = i + 1 - c by omega])
  have key3 := n_fillF (fun i h => t5_fillJoined_c107 v u c (i - c) h) (h := h1) (a := m_g h1 v 0) (lo := 0) (m := c + k) (n := m_g h w 1 + m_g h u 1 - k) (n_jn (n_rg h w) (n_rg h u) c k) (by omega) (by omega) (fun i i1 i2 => by
    obtain ⟨c1, c2, c3, ⟨c4, c5⟩, c6, c7, c8⟩ := fac i
    have s2 := su (i - c)
    have ef : n_jn (n_rg h w) (n_rg h u) c k i = n_rg h u (i - c) := by unfold n_jn; rw [if_neg (by omega), if_neg (by omega)]
    show t5_fillJoined_c107 v u c (i - c) _ = t5_fillJoined_c107 v u c (i + 1 - c) _
    rw [t5_fillJoined_c107, ef]
    generalize n_fl h1 (m_g h1 v 0) 0 i (n_jn (n_rg h w) (n_rg h u) c k) = hi at *
    rw [if_pos c6.1, c7, m_w_of (x := i - c) (by omega) (by omega), m_w_of (x := m_g h u 1) (by omega) (by omega), if_pos (by omega), n_get c6 (by omega) (by omega), n_bs, c8]
    show (if m_t hi v = 5 then t5_set v (c + (i - c)) (n_rg h u (i - c)) hi >>= _ else none) = _
    rw [if_pos c1.1, show c + (i - c) = i by omega, n_set c1 (by omega) (by omega) (by omega) (by omega), n_bs, c2, n_cl_of s2.1 s2.2, show i - c + 1 = i + 1 - c by omega])
  refine ⟨n_fl h1 (m_g h1 v 0) 0 (m_g h w 1 + m_g h u 1 - k) (n_jn (n_rg h w) (n_rg h u) c k), ?_, n_done C1 R1 hc hcc (n_wf_lt W hv).1 en _ (fun j j1 j2 => by rw [if_pos ⟨j1, j2⟩])⟩
  unfold t5_fillJoined
  rw [if_pos hw, n_bs, hc']
  unfold t5_joinedSize
  rw [if_pos hw, if_pos hu, n_bs]
  show (if m_t h v = 5 then t5_resize v (m_g h w 1 + m_g h u 1 - k) h >>= _ else none) = _
  rw [if_pos hv, e1, n_bs]
  have z : n_fl h1 (m_g h1 v 0) 0 0 (n_jn (n_rg h w) (n_rg h u) c k) = h1 := n_fl_0 _ _ _ _ _ (by omega)
  rw [z] at key1
  refine key1.trans ?_
  show t5_fillJoined_c21 v w u k c c _ = _
  rw [t5_fillJoined_c21, if_neg (by omega)]
  have z2 : (0 : Int) = c - c := by omega
  refine Eq.trans (congrArg (fun x => t5_fillJoined_c49 v w u k c x (n_fl h1 (m_g h1 v 0) 0 c (n_jn (n_rg h w) (n_rg h u) c k))) z2) (key2.trans ?_)
  · show t5_fillJoined_c49 v w u k c (c + k - c) _ = _
    rw [t5_fillJoined_c49, if_neg (by rw [show c + k - c = k by omega]; omega)]
    refine Eq.trans ?_ (key3.trans ?_)
    · show t5_fillJoined_c107 v u c k _ = t5_fillJoined_c107 v u c (c + k - c) _
      rw [show c + k - c = k by omega]
    · show t5_fillJoined_c107 v u c (m_g h w 1 + m_g h u 1 - k - c) _ = _
      obtain ⟨c1, c2, c3, ⟨c4, c5⟩, c6, c7, c8⟩ := fac (m_g h w 1 + m_g h u 1 - k)
      rw [t5_fillJoined_c107, if_pos c6.1, c7, if_neg (by rw [m_w_of (by omega) (by omega), m_w_of (by omega) (by omega)]; omega)]
theorem n_fillRound {h : m_H} {v w n : Int} (W : n_wf h) (hv : m_t h v = 5) (hw : m_t h w = 5) (hn : w ≠ v) (h0 : 0 ≤ n) (h3 : n ≤ 3000) (l1 : 1 ≤ m_g h w 1) (hs : n_sv h w) : ∃ h', t5_fillRound v w n h = some ((), h') ∧ n_rwc h h' v n (fun j => n_rg h w (Int.tmod j (m_g h w 1))) := by
  have Lw := n_len W hw
  obtain ⟨h1, e1, W1, R1, en, C1, hc, hcc⟩ := n_after W hv h0 h3
  obtain ⟨q1, q2, q3, q4, q5⟩ := n_oth W hv C1 hw hn
  have key := n_fill (fun i h => t5_fillRound_c7 v w n i h) (h := h1) (a := m_g h1 v 0) (lo := 0) (n := n) (fun j => n_rg h w (Int.tmod j (m_g h w 1))) h0 (fun i i1 i2 => by
    obtain ⟨p1, p2, p3, p4, p5⟩ := n_lf W1 R1.1 0 i (fun j => n_rg h w (Int.tmod j (m_g h w 1)))
    obtain ⟨p6, p7, p8⟩ := p5 w q1.1 hn
    have hsv := hs (Int.tmod i (m_g h w 1))
    have t := n_td (x := i) (q := m_g h w 1) i1 l1
    show t5_fillRound_c7 v w n i _ = t5_fillRound_c7 v w n (i + 1) _
    rw [t5_fillRound_c7]
    generalize n_fl h1 (m_g h1 v 0) 0 i (fun j => n_rg h w (Int.tmod j (m_g h w 1))) = hi at *
    have e := (p8 (Int.tmod i (m_g h w 1))).trans (q5 _)
    have ew : m_g hi w 1 = m_g h w 1 := p7.trans q3
    rw [m_w_of (x := i) (by omega) (by omega), m_w_of (x := n) (by omega) (by omega), if_pos i2, if_pos p6.1, ew, m_w_of (x := m_g h w 1) (by omega) (by omega), if_pos (by omega), if_neg (by omega), n_get p6 (by omega) (by omega), n_bs, e]
    show (if m_t hi v = 5 then _ else _) = _
    rw [if_pos p1.1, n_set p1 i1 (by omega) (by omega) (by omega), n_bs, p2, n_cl_of hsv.1 hsv.2])
  refine ⟨n_fl h1 (m_g h1 v 0) 0 n (fun j => n_rg h w (Int.tmod j (m_g h w 1))), ?_, n_done C1 R1 hc hcc (n_wf_lt W hv).1 en _ (fun j j1 j2 => ?_)⟩
  · unfold t5_fillRound
    rw [if_pos hv, e1, n_bs]
    refine key.trans ?_
    show t5_fillRound_c7 v w n n _ = _
    rw [t5_fillRound_c7, if_neg (by omega)]
  · rw [if_pos ⟨j1, j2⟩]
/-- the end of an echo -/
def n_ecE (r : Int → Int) (a b j : Int) : Int := n_ecT r a b (j.toNat + 1) j
theorem n_ecT_st (r : Int → Int) (a b : Int) : ∀ (q n : Nat) (j : Int), j < n → n_ecT r a b (n + q) j = n_ecT r a b n j
  | 0, n, j, _ => rfl
  | q + 1, n, j, h => by rw [show n + (q + 1) = (n + q) + 1 by omega, n_ecT_s, if_neg (by omega), n_ecT_st r a b q n j h]
theorem n_ecT_hi (r : Int → Int) (a b : Int) : ∀ (n : Nat) (j : Int), n ≤ j → n_ecT r a b n j = r j
  | 0, j, _ => rfl
  | n + 1, j, h => by rw [n_ecT_s, if_neg (by omega), n_ecT_hi r a b n j (by omega)]
theorem n_ecE_at {r : Int → Int} {a b j : Int} {n : Nat} (j0 : 0 ≤ j) (j1 : j < n) : n_ecT r a b n j = n_ecE r a b j := by
  have := n_ecT_st r a b (n - (j.toNat + 1)) (j.toNat + 1) j (by omega)
  rw [show j.toNat + 1 + (n - (j.toNat + 1)) = n by omega] at this
  exact this
theorem n_ecE_eq {r : Int → Int} {a b j : Int} (j0 : 0 ≤ j) (a1 : 1 ≤ a) : n_ecE r a b j = if j < a then r j else n_cl (r j + Int.tdiv (n_ecE r a b (j - a) * b) 256) := by
  have e : n_ecE r a b j = if ((j.toNat : Nat) : Int) < a then r (j.toNat : Nat) else n_cl (r (j.toNat : Nat) + Int.tdiv (n_ecT r a b j.toNat ((j.toNat : Nat) - a) * b) 256) := by
    unfold n_ecE
    rw [n_ecT_s, if_pos (by omega)]
  rw [e, show ((j.toNat : Nat) : Int) = j by omega]
  by_cases c : j < a
  · rw [if_pos c, if_pos c]
  · rw [if_neg c, if_neg c, n_ecE_at (by omega) (by omega)]
theorem n_ecE_b {r : Int → Int} {a b N : Int} (hr : n_sB r N) (a1 : 1 ≤ a) : n_sB (n_ecE r a b) N := fun j j0 j1 => n_ecT_b hr a1 (j.toNat + 1) (by omega) j j0 j1
theorem n_echo {h : m_H} {v a b : Int} (W : n_wf h) (hv : m_t h v = 5) (sv : n_sv h v) (a1 : 1 ≤ a) (a2 : a ≤ 500) (b0 : 0 ≤ b) (b1 : b ≤ 255) : ∃ h', t5_echo v a b h = some ((), h') ∧ n_rwc h h' v (m_g h v 1) (n_ecT (n_rg h v) a b (m_g h v 1).toNat) := by
  have L := n_len W hv
  have hr : n_sB (n_rg h v) (m_g h v 1) := fun i _ _ => sv i
  have hE := n_ecE_b (a := a) (b := b) hr a1
  have em : m_max a 1 = a := by rw [n_max (by omega) (by omega) (by omega) (by omega)]; omega
  by_cases c : m_g h v 1 ≤ a
  · refine ⟨n_fl h (m_g h v 0) a a (n_ecE (n_rg h v) a b), ?_, n_same W hv a a rfl _ (fun j j1 j2 => ?_)⟩
    · unfold t5_echo
      rw [em, n_bs, t5_echo_c6, if_pos hv, m_w_of (x := a) (by omega) (by omega), m_w_of (x := m_g h v 1) (by omega) (by omega), if_neg (by omega), n_fl_0 _ _ _ _ _ (by omega)]
    · rw [if_neg (by omega), n_ecE_at j1 (by omega), n_ecE_eq j1 a1, if_pos (by omega)]
      unfold n_rg
      rw [if_pos ⟨j1, j2⟩]
  · have key := n_fill (fun i h => t5_echo_c6 v a b i h) (h := h) (a := m_g h v 0) (lo := a) (n := m_g h v 1) (n_ecE (n_rg h v) a b) (by omega) (fun i i1 i2 => by
      obtain ⟨c1, c2, c3, c4, c5⟩ := n_lf W hv a i (n_ecE (n_rg h v) a b)
      have e1 := c4 i
      rw [if_neg (by omega)] at e1
      have e2 : n_rg (n_fl h (m_g h v 0) a i (n_ecE (n_rg h v) a b)) v (i - a) = n_ecE (n_rg h v) a b (i - a) := by
        rw [c4 (i - a)]
        by_cases d : a ≤ i - a
        · rw [if_pos (by omega)]
        · rw [if_neg (by omega), n_ecE_eq (by omega) a1, if_pos (by omega)]
      have s := sv i
      have s2 := hE (i - a) (by omega) (by omega)
      have b2 := n_mulb (a := n_ecE (n_rg h v) a b (i - a)) (b := b) (A := 32768) (B := 255) (by omega) (by omega) b0 b1
      have b3 := n_tdb (q := 256) (B := 32768 * 255) (by omega) b2.1 b2.2
      show t5_echo_c6 v a b i _ = t5_echo_c6 v a b (i + 1) _
      rw [t5_echo_c6, n_ecE_eq (j := i) (by omega) a1, if_neg (show ¬ i < a by omega)]
      generalize n_fl h (m_g h v 0) a i (n_ecE (n_rg h v) a b) = hi at *
      rw [if_pos c1.1, c3, m_w_of (x := i) (by omega) (by omega), m_w_of (x := m_g h v 1) (by omega) (by omega), if_pos i2, n_get c1 (by omega) (by omega), n_bs, e1]
      show (if m_t hi v = 5 then t5_get v (i - a) hi >>= _ else none) = _
      rw [if_pos c1.1, n_get c1 (by omega) (by omega), n_bs, e2]
      show (if m_t hi v = 5 then t5_set v i (n_rg h v i + Int.tdiv (m_w (n_ecE (n_rg h v) a b (i - a) * b)) 256) hi >>= _ else none) = _
      rw [if_pos c1.1, m_w_of (x := n_ecE (n_rg h v) a b (i - a) * b) (by omega) (by omega), n_set c1 (by omega) (by omega) (by omega) (by omega), n_bs, c2])
    refine ⟨n_fl h (m_g h v 0) a (m_g h v 1) (n_ecE (n_rg h v) a b), ?_, n_same W hv a (m_g h v 1) rfl _ (fun j j1 j2 => ?_)⟩
    · unfold t5_echo
      rw [em, n_bs]
      refine key.trans ?_
      obtain ⟨c1, c2, c3, c4, c5⟩ := n_lf W hv a (m_g h v 1) (n_ecE (n_rg h v) a b)
      show t5_echo_c6 v a b (m_g h v 1) _ = _
      rw [t5_echo_c6, if_pos c1.1, c3, if_neg (by omega)]
    · rw [n_ecE_at j1 (by omega)]
      by_cases d : a ≤ j
      · rw [if_pos ⟨d, j2⟩]
      · rw [if_neg (by omega), n_ecE_eq j1 a1, if_pos (by omega)]
        unfold n_rg
        rw [if_pos ⟨j1, j2⟩]
theorem n_ft_b {p q r x y z : Int} (p1 : -32768 ≤ p) (p2 : p ≤ 32767) (q1 : -32768 ≤ q) (q2 : q ≤ 32767) (r1 : -32768 ≤ r) (r2 : r ≤ 32767) (x0 : 0 ≤ x) (x1 : x ≤ 128) (y0 : 0 ≤ y) (y1 : y ≤ 128) (z0 : 0 ≤ z) (z1 : z ≤ 128) : -13000000 ≤ p * x + q * y + r * z ∧ p * x + q * y + r * z ≤ 13000000 := by
  have a := n_mulb (a := p) (b := x) (A := 32768) (B := 128) (by omega) (by omega) x0 x1
  have b := n_mulb (a := q) (b := y) (A := 32768) (B := 128) (by omega) (by omega) y0 y1
  have c := n_mulb (a := r) (b := z) (A := 32768) (B := 128) (by omega) (by omega) z0 z1
  omega
theorem n_filt {h : m_H} {v w x y z : Int} (W : n_wf h) (hv : m_t h v = 5) (hw : m_t h w = 5) (hn : w ≠ v) (h3 : m_g h w 1 ≤ 3000) (hs : n_sv h w) (x0 : 0 ≤ x) (x1 : x ≤ 128) (y0 : 0 ≤ y) (y1 : y ≤ 128) (z0 : 0 ≤ z) (z1 : z ≤ 128) : ∃ h', t5_fillFiltered v w x y z h = some ((), h') ∧ n_rwc h h' v (m_g h w 1) (fun j => n_cl (Int.tdiv (n_rg h w (j - 1) * x + n_rg h w j * y + n_rg h w (j + 1) * z) 64)) := by
  have Lw := n_len W hw
  obtain ⟨h1, e1, W1, R1, en, C1, hc, hcc⟩ := n_after W hv Lw.1 h3
  obtain ⟨q1, q2, q3, q4, q5⟩ := n_oth W hv C1 hw hn
  have key := n_fill (fun i h => t5_fillFiltered_c11 v w x y z i h) (h := h1) (a := m_g h1 v 0) (lo := 0) (n := m_g h w 1) (fun j => n_cl (Int.tdiv (n_rg h w (j - 1) * x + n_rg h w j * y + n_rg h w (j + 1) * z) 64)) (by omega) (fun i i1 i2 => by
    obtain ⟨p1, p2, p3, p4, p5⟩ := n_lf W1 R1.1 0 i (fun j => n_cl (Int.tdiv (n_rg h w (j - 1) * x + n_rg h w j * y + n_rg h w (j + 1) * z) 64))
    obtain ⟨p6, p7, p8⟩ := p5 w q1.1 hn
    have b := n_ft_b (hs (i - 1)).1 (hs (i - 1)).2 (hs i).1 (hs i).2 (hs (i + 1)).1 (hs (i + 1)).2 x0 x1 y0 y1 z0 z1
    have b2 := n_tdb (q := 64) (B := 13000000) (by omega) b.1 b.2
    show t5_fillFiltered_c11 v w x y z i _ = t5_fillFiltered_c11 v w x y z (i + 1) _
    rw [t5_fillFiltered_c11]
    generalize n_fl h1 (m_g h1 v 0) 0 i (fun j => n_cl (Int.tdiv (n_rg h w (j - 1) * x + n_rg h w j * y + n_rg h w (j + 1) * z) 64)) = hi at *
    have e := fun j => (p8 j).trans (q5 j)
    rw [if_pos p1.1, p3, en, m_w_of (x := i) (by omega) (by omega), m_w_of (x := m_g h w 1) (by omega) (by omega), if_pos i2, if_pos p6.1, n_get p6 (by omega) (by omega), n_bs, e]
    show (if m_t hi w = 5 then t5_get w i hi >>= _ else none) = _
    rw [if_pos p6.1, n_get p6 (by omega) (by omega), n_bs, e]
    show (if m_t hi w = 5 then t5_get w (i + 1) hi >>= _ else none) = _
    rw [if_pos p6.1, n_get p6 (by omega) (by omega), n_bs, e]
    show (some (n_rg h w (i - 1) * x + n_rg h w i * y + n_rg h w (i + 1) * z) >>= fun x12 => if m_t hi v = 5 then t5_set v i (Int.tdiv (m_w x12) 64) hi >>= _ else none) = _
    rw [n_bs, if_pos p1.1, m_w_of (by omega) (by omega), n_set p1 i1 (by omega) (by omega) (by omega), n_bs, p2])
  refine ⟨n_fl h1 (m_g h1 v 0) 0 (m_g h w 1) (fun j => n_cl (Int.tdiv (n_rg h w (j - 1) * x + n_rg h w j * y + n_rg h w (j + 1) * z) 64)), ?_, n_done C1 R1 hc hcc (n_wf_lt W hv).1 en _ (fun j j1 j2 => ?_)⟩
  · unfold t5_fillFiltered
    rw [if_pos hw, if_pos hv, e1, n_bs]
    refine key.trans ?_
    obtain ⟨p1, p2, p3, p4, p5⟩ := n_lf W1 R1.1 0 (m_g h w 1) (fun j => n_cl (Int.tdiv (n_rg h w (j - 1) * x + n_rg h w j * y + n_rg h w (j + 1) * z) 64))
    show t5_fillFiltered_c11 v w x y z (m_g h w 1) _ = _
    rw [t5_fillFiltered_c11, if_pos p1.1, p3, en, if_neg (by omega)]
  · rw [if_pos ⟨j1, j2⟩]
theorem n_fadeIn {h : m_H} {v n : Int} (W : n_wf h) (hv : m_t h v = 5) (sv : n_sv h v) (n0 : 0 ≤ n) (n1 : n ≤ m_g h v 1) (l3 : m_g h v 1 ≤ 1500) : ∃ h', t5_fadeIn v n h = some ((), h') ∧ n_rwc h h' v (m_g h v 1) (n_fdI (n_rg h v) n) := by
  have L := n_len W hv
  have key := n_fill (fun i h => t5_fadeIn_c2 v n i h) (h := h) (a := m_g h v 0) (lo := 0) (n := n) (fun j => Int.tdiv (n_rg h v j * j) n) n0 (fun i i1 i2 => by
    obtain ⟨c1, c2, c3, c4, c5⟩ := n_lf W hv 0 i (fun j => Int.tdiv (n_rg h v j * j) n)
    have e := c4 i
    rw [if_neg (by omega)] at e
    have s := sv i
    have b := n_mulb (a := n_rg h v i) (b := i) (A := 32768) (B := 1500) (by omega) (by omega) i1 (by omega)
    have b2 := n_fd_b (x := n_rg h v i) (i := i) (a := n) s.1 s.2 i1 i2
    show t5_fadeIn_c2 v n i _ = t5_fadeIn_c2 v n (i + 1) _
    rw [t5_fadeIn_c2]
    generalize n_fl h (m_g h v 0) 0 i (fun j => Int.tdiv (n_rg h v j * j) n) = hi at *
    rw [m_w_of (x := i) (by omega) (by omega), m_w_of (x := n) (by omega) (by omega), if_pos i2, if_pos c1.1, n_get c1 (by omega) (by omega), n_bs, e]
    show (if n = 0 then none else if m_t hi v = 5 then t5_set v i (Int.tdiv (m_w (n_rg h v i * i)) n) hi >>= _ else none) = _
    rw [if_neg (by omega), if_pos c1.1, m_w_of (x := n_rg h v i * i) (by omega) (by omega), n_set c1 i1 (by omega) (by omega) (by omega), n_bs, c2, n_cl_of b2.1 b2.2])
  refine ⟨n_fl h (m_g h v 0) 0 n (fun j => Int.tdiv (n_rg h v j * j) n), ?_, n_same W hv 0 n rfl _ (fun j j1 j2 => ?_)⟩
  · unfold t5_fadeIn
    refine key.trans ?_
    show t5_fadeIn_c2 v n n _ = _
    rw [t5_fadeIn_c2, if_neg (by omega)]
  · unfold n_fdI n_rg
    by_cases c : j < n
    · rw [if_pos ⟨j1, c⟩, if_pos c]
    · rw [if_neg (by omega), if_neg c, if_pos ⟨j1, j2⟩]
theorem n_p_fld {h : m_H} {a lo hi x : Int} {f : Int → Int} (hl : lo ≤ hi) (hx : x = f (lo - 1)) : m_p (n_fl h a lo hi f) a (lo - 1) x = n_fl h a (lo - 1) hi f := by
  refine n_ext rfl fun b j => ?_
  rw [m_g_p, n_g_fl, n_g_fl, hx]
  by_cases c : b = a ∧ j = lo - 1
  · rw [if_pos c, if_pos ⟨c.1, by omega, by omega⟩, c.2]
  · rw [if_neg c]
    by_cases d : b = a ∧ lo ≤ j ∧ j < hi
    · rw [if_pos d, if_pos ⟨d.1, by omega, d.2.2⟩]
    · rw [if_neg d, if_neg (by omega)]
theorem n_fadeOut {h : m_H} {v n : Int} (W : n_wf h) (hv : m_t h v = 5) (sv : n_sv h v) (n0 : 0 ≤ n) (n1 : n ≤ m_g h v 1) (l3 : m_g h v 1 ≤ 1500) : ∃ h', t5_fadeOut v n h = some ((), h') ∧ n_rwc h h' v (m_g h v 1) (n_fdO (n_rg h v) (m_g h v 1) n) := by
  have L := n_len W hv
  have key := n_iter (fun i => t5_fadeOut_c2 v n i (n_fl h (m_g h v 0) (m_g h v 1 - i) (m_g h v 1) (n_fdO (n_rg h v) (m_g h v 1) n))) 0 n n0 (fun i i1 i2 => by
    obtain ⟨c1, c2, c3, c4, c5⟩ := n_lf W hv (m_g h v 1 - i) (m_g h v 1) (n_fdO (n_rg h v) (m_g h v 1) n)
    have e := c4 (m_g h v 1 - 1 - i)
    rw [if_neg (by omega)] at e
    have s := sv (m_g h v 1 - 1 - i)
    have b := n_mulb (a := n_rg h v (m_g h v 1 - 1 - i)) (b := i) (A := 32768) (B := 1500) (by omega) (by omega) i1 (by omega)
    have b2 := n_fd_b (x := n_rg h v (m_g h v 1 - 1 - i)) (i := i) (a := n) s.1 s.2 i1 i2
    have ef : n_fdO (n_rg h v) (m_g h v 1) n (m_g h v 1 - 1 - i) = Int.tdiv (n_rg h v (m_g h v 1 - 1 - i) * i) n := by
      unfold n_fdO
      rw [if_pos (by omega), show m_g h v 1 - 1 - (m_g h v 1 - 1 - i) = i by omega]
    have ew : m_p (n_fl h (m_g h v 0) (m_g h v 1 - i) (m_g h v 1) (n_fdO (n_rg h v) (m_g h v 1) n)) (m_g h v 0) (m_g h v 1 - 1 - i) (Int.tdiv (n_rg h v (m_g h v 1 - 1 - i) * i) n) = n_fl h (m_g h v 0) (m_g h v 1 - (i + 1)) (m_g h v 1) (n_fdO (n_rg h v) (m_g h v 1) n) := by
      rw [show m_g h v 1 - (i + 1) = (m_g h v 1 - i) - 1 by omega, ← n_p_fld (x := Int.tdiv (n_rg h v (m_g h v 1 - 1 - i) * i) n) (by omega) (by rw [show m_g h v 1 - i - 1 = m_g h v 1 - 1 - i by omega]; exact ef.symm)]
      rw [show m_g h v 1 - i - 1 = m_g h v 1 - 1 - i by omega]
    show t5_fadeOut_c2 v n i _ = t5_fadeOut_c2 v n (i + 1) _
    rw [t5_fadeOut_c2, ← ew]
    generalize n_fl h (m_g h v 0) (m_g h v 1 - i) (m_g h v 1) (n_fdO (n_rg h v) (m_g h v 1) n) = hi at *
    rw [m_w_of (x := i) (by omega) (by omega), m_w_of (x := n) (by omega) (by omega), if_pos i2, if_pos c1.1, c3, n_bs, n_get c1 (by omega) (by omega), n_bs, e]
    show (if n = 0 then none else if m_t hi v = 5 then t5_set v (m_g h v 1 - 1 - i) (Int.tdiv (m_w (n_rg h v (m_g h v 1 - 1 - i) * i)) n) hi >>= _ else none) = _
    rw [if_neg (by omega), if_pos c1.1, m_w_of (x := n_rg h v (m_g h v 1 - 1 - i) * i) (by omega) (by omega), n_set c1 (by omega) (by omega) (by omega) (by omega), n_bs, c2, n_cl_of b2.1 b2.2])
  refine ⟨n_fl h (m_g h v 0) (m_g h v 1 - n) (m_g h v 1) (n_fdO (n_rg h v) (m_g h v 1) n), ?_, n_same W hv (m_g h v 1 - n) (m_g h v 1) rfl _ (fun j j1 j2 => ?_)⟩
  · unfold t5_fadeOut
    have e0 : n_fl h (m_g h v 0) (m_g h v 1 - 0) (m_g h v 1) (n_fdO (n_rg h v) (m_g h v 1) n) = h := n_fl_0 _ _ _ _ _ (by omega)
    rw [e0] at key
    refine key.trans ?_
    show t5_fadeOut_c2 v n n _ = _
    rw [t5_fadeOut_c2, if_neg (by omega)]
  · unfold n_fdO n_rg
    by_cases c : m_g h v 1 - n ≤ j
    · rw [if_pos ⟨c, j2⟩, if_pos c]
    · rw [if_neg (by omega), if_neg c, if_pos ⟨j1, j2⟩]
