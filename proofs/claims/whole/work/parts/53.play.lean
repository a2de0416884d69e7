/-! PLAYING: a row AT p BY q, a level -/
theorem n_mulb {a b A B : Int} (h1 : -A ≤ a) (h2 : a ≤ A) (h3 : 0 ≤ b) (h4 : b ≤ B) : -(A * B) ≤ a * b ∧ a * b ≤ A * B := by
  have hA : 0 ≤ A := by omega
  constructor
  · have e1 : -A * b ≤ a * b := Int.mul_le_mul_of_nonneg_right h1 h3
    have e2 : A * b ≤ A * B := Int.mul_le_mul_of_nonneg_left h4 hA
    have e3 : -A * b = -(A * b) := Int.neg_mul A b
    omega
  · have e1 : a * b ≤ A * b := Int.mul_le_mul_of_nonneg_right h2 h3
    have e2 : A * b ≤ A * B := Int.mul_le_mul_of_nonneg_left h4 hA
    omega
theorem n_mulp {a b A B : Int} (h1 : 0 ≤ a) (h2 : a ≤ A) (h3 : 0 ≤ b) (h4 : b ≤ B) : 0 ≤ a * b ∧ a * b ≤ A * B := ⟨Int.mul_nonneg h1 h3, (n_mulb (A := A) (by omega) h2 h3 h4).2⟩
theorem n_td {x q : Int} (h0 : 0 ≤ x) (hq : 1 ≤ q) : 0 ≤ Int.tdiv x q ∧ Int.tdiv x q * q ≤ x ∧ x < (Int.tdiv x q + 1) * q ∧ Int.tdiv x q ≤ x ∧ 0 ≤ Int.tmod x q ∧ Int.tmod x q < q := by
  rw [Int.tdiv_eq_ediv_of_nonneg h0, Int.tmod_eq_emod_of_nonneg h0]
  have e := Int.mul_ediv_add_emod x q
  have e1 : q * (x / q) = x / q * q := Int.mul_comm _ _
  have e2 : (x / q + 1) * q = x / q * q + q := by rw [Int.add_mul, Int.one_mul]
  have r1 := Int.emod_nonneg x (show q ≠ 0 by omega)
  have r2 := Int.emod_lt_of_pos x (show 0 < q by omega)
  have d0 := Int.ediv_nonneg h0 (show 0 ≤ q by omega)
  have d1 : x / q * 1 ≤ x / q * q := Int.mul_le_mul_of_nonneg_left hq d0
  omega
/-- quotients toward 0 stay in bounds -/
theorem n_tdb {x q B : Int} (hq : 1 ≤ q) (h1 : -B ≤ x) (h2 : x ≤ B) : -B ≤ Int.tdiv x q ∧ Int.tdiv x q ≤ B := by
  by_cases c : 0 ≤ x
  · have := n_td c hq
    omega
  · have e : Int.tdiv x q = -Int.tdiv (-x) q := by rw [Int.neg_tdiv]; omega
    have := n_td (x := -x) (by omega) hq
    omega
theorem n_playedSize {h : m_H} {w p q : Int} (hw : m_t h w = 5) (l1 : 1 ≤ m_g h w 1) (l2 : m_g h w 1 ≤ 1500) (p1 : 1 ≤ p) (p2 : p ≤ 1100) (q1 : 1 ≤ q) (q2 : q ≤ 1000) : t5_playedSize w p q h = some (Int.tdiv ((m_g h w 1 - 1) * q) p + 1, h) := by
  have b := n_mulp (a := m_g h w 1 - 1) (b := q) (A := 1500) (B := 1000) (by omega) (by omega) (by omega) q2
  unfold t5_playedSize
  rw [m_w_of (x := p) (by omega) (by omega), if_neg (by omega), if_pos hw, m_w_of (x := m_g h w 1) (by omega) (by omega), if_neg (by omega), if_neg (by omega), m_w_of (by omega) (by omega)]
theorem n_between {h : m_H} {w x q : Int} (R : n_row h w) (sv : n_sv h w) (l2 : m_g h w 1 ≤ 1500) (x1 : 0 ≤ x) (x2 : x ≤ 10000000) (q1 : 1 ≤ q) (q2 : q ≤ 1000) : t5_between w x q h = some ((if Int.tdiv x q + 1 < m_g h w 1 then n_rg h w (Int.tdiv x q) + Int.tdiv (Int.tmod x q * (n_rg h w (Int.tdiv x q + 1) - n_rg h w (Int.tdiv x q))) q else n_rg h w (Int.tdiv x q)), h) := by
  obtain ⟨d1, d2, d3, d4, d5, d6⟩ := n_td x1 q1
  have r0 := R.2.2.1
  have v0 := sv (Int.tdiv x q)
  have v1 := sv (Int.tdiv x q + 1)
  have b := n_mulb (a := n_rg h w (Int.tdiv x q + 1) - n_rg h w (Int.tdiv x q)) (b := Int.tmod x q) (A := 65535) (B := 1000) (by omega) (by omega) (by omega) (by omega)
  rw [Int.mul_comm (n_rg h w (Int.tdiv x q + 1) - n_rg h w (Int.tdiv x q)) (Int.tmod x q)] at b
  unfold t5_between
  rw [m_w_of (x := q) (by omega) (by omega), if_neg (by omega), if_neg (by omega), m_w_of (x := x) (by omega) (by omega), n_bs, if_pos R.1, n_get R (by omega) (by omega), n_bs]
  show (if m_t h w = 5 then if m_w (Int.tdiv x q + 1) < m_w (m_g h w 1) then if q = 0 then none else t5_get w (Int.tdiv x q + 1) h >>= _ else some (n_rg h w (Int.tdiv x q), h) else none) = _
  rw [if_pos R.1, m_w_of (by omega) (by omega), m_w_of (by omega) (by omega)]
  by_cases c : Int.tdiv x q + 1 < m_g h w 1
  · rw [if_pos c, if_pos c, if_neg (by omega), n_get R (by omega) (by omega), n_bs]
    show (if q = 0 then none else some (n_rg h w (Int.tdiv x q) + Int.tdiv (m_w (Int.tmod x q * (n_rg h w (Int.tdiv x q + 1) - n_rg h w (Int.tdiv x q)))) q, h)) = _
    rw [if_neg (by omega), m_w_of (by omega) (by omega)]
  · rw [if_neg c, if_neg c]
theorem n_play_at {r : Int → Int} {n i p q : Int} (i1 : 0 ≤ i) (p1 : 1 ≤ p) (q1 : 1 ≤ q) (n1 : 1 ≤ n) (hi : i < Int.tdiv ((n - 1) * q) p + 1) : (if Int.tdiv (i * p) q + 1 < n then r (Int.tdiv (i * p) q) + Int.tdiv (Int.tmod (i * p) q * (r (Int.tdiv (i * p) q + 1) - r (Int.tdiv (i * p) q))) q else r (Int.tdiv (i * p) q)) = n_play r n i p q ∧ 0 ≤ i * p ∧ i * p ≤ (n - 1) * q ∧ Int.tdiv (i * p) q ≤ n - 1 := by
  have h0 : 0 ≤ (n - 1) * q := Int.mul_nonneg (by omega) (by omega)
  obtain ⟨d1, d2, d3, d4, d5, d6⟩ := n_td h0 p1
  have e0 : 0 ≤ i * p := Int.mul_nonneg i1 (by omega)
  have e1 : i * p ≤ Int.tdiv ((n - 1) * q) p * p := Int.mul_le_mul_of_nonneg_right (by omega) (by omega)
  obtain ⟨g1, g2, g3, g4, g5, g6⟩ := n_td e0 q1
  have e2 : Int.tdiv (i * p) q ≤ n - 1 := by
    by_cases c : Int.tdiv (i * p) q ≤ n - 1
    · exact c
    · have : (n - 1 + 1) * q ≤ Int.tdiv (i * p) q * q := Int.mul_le_mul_of_nonneg_right (by omega) (by omega)
      have e3 : (n - 1 + 1) * q = (n - 1) * q + q := by rw [Int.add_mul, Int.one_mul]
      omega
  refine ⟨?_, e0, by omega, e2⟩
  unfold n_play
  by_cases c : Int.tdiv (i * p) q + 1 < n
  · rw [if_pos c, if_neg (by omega)]
  · rw [if_neg c, if_pos (by omega)]
    congr 1; omega
theorem n_play_b {r : Int → Int} {n i p q : Int} (hr : ∀ j, -32768 ≤ r j ∧ r j ≤ 32767) (i1 : 0 ≤ i) (p1 : 1 ≤ p) (q1 : 1 ≤ q) (q2 : q ≤ 1000) : -70000000 ≤ n_play r n i p q ∧ n_play r n i p q ≤ 70000000 := by
  have e0 : 0 ≤ i * p := Int.mul_nonneg i1 (by omega)
  obtain ⟨g1, g2, g3, g4, g5, g6⟩ := n_td e0 q1
  have v0 := hr (Int.tdiv (i * p) q)
  have v1 := hr (Int.tdiv (i * p) q + 1)
  have v2 := hr (n - 1)
  have b := n_mulb (a := r (Int.tdiv (i * p) q + 1) - r (Int.tdiv (i * p) q)) (b := Int.tmod (i * p) q) (A := 65535) (B := 1000) (by omega) (by omega) (by omega) (by omega)
  rw [Int.mul_comm (r (Int.tdiv (i * p) q + 1) - r (Int.tdiv (i * p) q)) (Int.tmod (i * p) q)] at b
  have t := n_tdb (x := Int.tmod (i * p) q * (r (Int.tdiv (i * p) q + 1) - r (Int.tdiv (i * p) q))) (q := q) (B := 65535000) q1 (by omega) (by omega)
  unfold n_play
  split
  · omega
  · omega
theorem n_fillPlayed {h : m_H} {v w p q n : Int} (W : n_wf h) (hv : m_t h v = 5) (hw : m_t h w = 5) (hn : w ≠ v) (sv : n_sv h w) (l1 : 1 ≤ m_g h w 1) (l2 : m_g h w 1 ≤ 1500) (p1 : 1 ≤ p) (p2 : p ≤ 1100) (q1 : 1 ≤ q) (q2 : q ≤ 1000) (en0 : n = Int.tdiv ((m_g h w 1 - 1) * q) p + 1) (n2 : n ≤ 3000) : ∃ h', t5_fillPlayed v w p q h = some ((), h') ∧ n_rwc h h' v n (fun j => n_cl (n_play (n_rg h w) (m_g h w 1) j p q)) := by
  have b0 := n_mulp (a := m_g h w 1 - 1) (b := q) (A := 1500) (B := 1000) (by omega) (by omega) (by omega) q2
  have b1 := n_td (x := (m_g h w 1 - 1) * q) b0.1 p1
  have n0 : 1 ≤ n := by omega
  obtain ⟨h1, e1, W1, R1, en, C1, hc, hcc⟩ := n_after (x := n) W hv (by omega) n2
  obtain ⟨o1, o2, o3, o4, o5⟩ := n_oth W hv C1 hw hn
  have key := n_fill (fun i h => t5_fillPlayed_c17 v w p q n i h) (h := h1) (a := m_g h1 v 0) (lo := 0) (n := n) (fun j => n_cl (n_play (n_rg h w) (m_g h w 1) j p q)) (by omega) (fun i i1 i2 => by
    obtain ⟨c1, c2, c3, c4, c5⟩ := n_lf W1 R1.1 0 i (fun j => n_cl (n_play (n_rg h w) (m_g h w 1) j p q))
    obtain ⟨c6, c7, c8⟩ := c5 w o1.1 hn
    obtain ⟨f1, f2, f3, f4⟩ := n_play_at (r := n_rg h w) (n := m_g h w 1) i1 p1 q1 l1 (by omega : i < Int.tdiv ((m_g h w 1 - 1) * q) p + 1)
    have pb := n_play_b (r := n_rg h w) (n := m_g h w 1) sv i1 p1 q1 q2
    show t5_fillPlayed_c17 v w p q n i _ = t5_fillPlayed_c17 v w p q n (i + 1) _
    rw [t5_fillPlayed_c17]
    generalize n_fl h1 (m_g h1 v 0) 0 i (fun j => n_cl (n_play (n_rg h w) (m_g h w 1) j p q)) = hi at *
    have er : n_rg hi w = n_rg h w := funext fun j => (c8 j).trans (o5 j)
    have el : m_g hi w 1 = m_g h w 1 := c7.trans o3
    have bt := n_between (x := i * p) (q := q) c6 (by rw [n_sv, er]; exact sv) (by omega) f2 (by omega) q1 q2
    rw [er, el, f1] at bt
    rw [m_w_of (by omega) (by omega), m_w_of (by omega) (by omega), if_pos i2, if_pos c6.1, bt, n_bs]
    show (if m_t hi v = 5 then t5_set v i (n_play (n_rg h w) (m_g h w 1) i p q) hi >>= _ else none) = _
    rw [if_pos c1.1, n_set c1 i1 (by omega) (by omega) (by omega), n_bs, c2])
  refine ⟨n_fl h1 (m_g h1 v 0) 0 n (fun j => n_cl (n_play (n_rg h w) (m_g h w 1) j p q)), ?_, n_done C1 R1 hc hcc (n_wf_lt W hv).1 en _ (fun j j1 j2 => by rw [if_pos ⟨j1, j2⟩])⟩
  unfold t5_fillPlayed
  rw [if_pos hw, n_playedSize hw l1 l2 p1 p2 q1 q2, n_bs, ← en0]
  show (if m_t h v = 5 then t5_resize v n h >>= _ else none) = _
  rw [if_pos hv, e1, n_bs]
  refine key.trans ?_
  show t5_fillPlayed_c17 v w p q n n _ = _
  rw [t5_fillPlayed_c17, if_neg (by omega)]
theorem n_level {h : m_H} {v t : Int} (W : n_wf h) (hv : m_t h v = 5) (sv : n_sv h v) (t1 : 0 ≤ t) (t2 : t ≤ 128) : ∃ h', t5_level v t h = some ((), h') ∧ n_rwc h h' v (m_g h v 1) (fun j => n_cl (Int.tdiv (n_rg h v j * t) 64)) := by
  have L := n_len W hv
  have key := n_fill (fun i h => t5_level_c2 v t i h) (h := h) (a := m_g h v 0) (lo := 0) (n := m_g h v 1) (fun j => n_cl (Int.tdiv (n_rg h v j * t) 64)) (by omega) (fun i i1 i2 => by
    obtain ⟨c1, c2, c3, c4, c5⟩ := n_lf W hv 0 i (fun j => n_cl (Int.tdiv (n_rg h v j * t) 64))
    have e := c4 i
    rw [if_neg (by omega)] at e
    have s := sv i
    have b := n_mulb (a := n_rg h v i) (b := t) (A := 32768) (B := 128) (by omega) (by omega) t1 t2
    have b2 := n_tdb (q := 64) (B := 32768 * 128) (by omega) b.1 b.2
    show t5_level_c2 v t i _ = t5_level_c2 v t (i + 1) _
    rw [t5_level_c2]
    generalize n_fl h (m_g h v 0) 0 i (fun j => n_cl (Int.tdiv (n_rg h v j * t) 64)) = hi at *
    rw [if_pos c1.1, c3, m_w_of (by omega) (by omega), m_w_of (by omega) (by omega), if_pos i2, n_get c1 (by omega) (by omega), n_bs, e]
    show (if m_t hi v = 5 then t5_set v i (Int.tdiv (m_w (n_rg h v i * t)) 64) hi >>= _ else none) = _
    rw [if_pos c1.1, m_w_of (by omega) (by omega), n_set c1 i1 (by omega) (by omega) (by omega), n_bs, c2])
  refine ⟨n_fl h (m_g h v 0) 0 (m_g h v 1) (fun j => n_cl (Int.tdiv (n_rg h v j * t) 64)), ?_, n_same W hv 0 (m_g h v 1) rfl _ (fun j j1 j2 => by rw [if_pos ⟨j1, j2⟩])⟩
  unfold t5_level
  refine key.trans ?_
  obtain ⟨c1, c2, c3, c4, c5⟩ := n_lf W hv 0 (m_g h v 1) (fun j => n_cl (Int.tdiv (n_rg h v j * t) 64))
  show t5_level_c2 v t (m_g h v 1) _ = _
  rw [t5_level_c2, if_pos c1.1, c3, if_neg (by omega)]
