/-! CALLS: copy, speed: the component -/
theorem n_new_old7 {h h1 : m_H} {kd one oth bg gen hs wr n q w : Int} {f : Int → Int} (I : n_I h) (A : n_new h h1 kd one oth bg gen hs wr n f) (hq : m_t h q = 8) (h3 : 312 ≤ q) : n_new (m_p h q 7 w) (m_p h1 q 7 w) kd one oth bg gen hs wr n f := by
  obtain ⟨I1, K, B1, ⟨ka, kr, kn⟩, FA, ⟨R1, R2⟩, C2, C3⟩ := A
  have lq := I.1.1 q (by omega)
  have kq : m_t h1 q = 8 := by rw [(K.1 q lq.2).1]; exact hq
  have I2 : n_I (m_p h1 q 7 w) := n_I_p I1 (by omega) (by omega) (n_key_big I1.2 h3 _)
  have E : ∀ (x : m_H) (b j : Int), b ≠ q → m_g (m_p x q 7 w) b j = m_g x b j := fun x b j c => n_gp_n (fun p => c p.1)
  have hn := I.2.2.2.2
  have R := n_wf_row I1.1 kr
  have nea : m_g h1 (m_n h + 1) 0 ≠ q := fun e => by have := R.2.1; rw [e] at this; omega
  have e2 : ∀ j, m_g (m_p h q 7 w) 2 j = m_g h 2 j := fun j => E h 2 j (by omega)
  have e3 : ∀ j, m_g (m_p h q 7 w) 3 j = m_g h 3 j := fun j => E h 3 j (by omega)
  refine ⟨I2, ⟨K.1, K.2.1, fun b hb q1 q2 q3 i => ?_, fun r hr => ?_⟩, B1, ⟨ka, kr, ?_⟩, ?_, ⟨?_, fun i i1 i2 => ?_⟩, fun j => ?_, fun j => ?_⟩
  · by_cases c : b = q ∧ i = 7
    · rw [n_gp_y c, n_gp_y c]
    · rw [n_gp_n c, n_gp_n c]
      exact K.2.2.1 b hb q1 q2 n_no i
  · have hr' : m_t h r = 5 := hr
    have : r ≠ q := fun e => by rw [e] at hr'; omega
    rw [E _ _ _ this, E _ _ _ this]
    exact K.2.2.2 r hr'
  · show m_n h ≤ m_g (m_p h1 q 7 w) (m_n h + 1) 0
    rw [E _ _ _ (by omega)]; exact kn
  · show m_g (m_p h1 q 7 w) (m_n h) 0 = m_g (m_p h q 7 w) 2 1 ∧ m_g (m_p h1 q 7 w) (m_n h) 1 = kd ∧ m_g (m_p h1 q 7 w) (m_n h) 2 = m_g (m_p h q 7 w) 2 3 ∧ m_g (m_p h1 q 7 w) (m_n h) 3 = m_n h + 1 ∧ m_g (m_p h1 q 7 w) (m_n h) 4 = 0 ∧ m_g (m_p h1 q 7 w) (m_n h) 5 = gen ∧ m_g (m_p h1 q 7 w) (m_n h) 6 = hs ∧ m_g (m_p h1 q 7 w) (m_n h) 7 = wr ∧ m_g (m_p h1 q 7 w) (m_n h) 8 = -1 ∧ m_g (m_p h1 q 7 w) (m_n h) 9 = one ∧ m_g (m_p h1 q 7 w) (m_n h) 10 = oth ∧ m_g (m_p h1 q 7 w) (m_n h) 11 = bg
    simp only [e2, E h1 (m_n h) _ (show m_n h ≠ q by omega)]
    exact FA
  · show m_g (m_p h1 q 7 w) (m_n h + 1) 1 = n
    rw [E _ _ _ (by omega)]; exact R1
  · have := R2 i i1 i2
    show n_rg (m_p h1 q 7 w) (m_n h + 1) i = f i
    unfold n_rg at this ⊢
    rw [E h1 (m_n h + 1) _ (by omega), E h1 (m_n h + 1) _ (by omega), E h1 _ _ nea]
    exact this
  · rw [E h1 2 j (by omega), e2, e2, e2, e2]; exact C2 j
  · show m_g (m_p h1 q 7 w) 3 j = if j = m_g (m_p h q 7 w) 2 1 then m_n h else m_g (m_p h q 7 w) 3 j
    rw [E h1 3 j (by omega), e2, e3]; exact C3 j
theorem n_mtop {x : Int} (h1 : -1000000 ≤ x) (h2 : x ≤ 1000000) : m_min 1000 x = n_top x := by
  unfold m_min n_top
  rw [m_w_of (x := x) (by omega) (by omega), m_w_of (x := 1000) (by omega) (by omega)]
  by_cases c : x < 1000
  · rw [if_pos c, if_neg (by omega)]
  · rw [if_neg c]
    by_cases c2 : 1000 < x
    · rw [if_pos c2]
    · rw [if_neg c2]; omega
theorem n_playedC {h : m_H} {q s mc kd p qq n : Int} (I : n_I h) (F : n_stF h q s) (c1 : 0 ≤ m_g h 2 1) (c2 : m_g h 2 1 < 100) (hm : m_t h mc = 0 ∧ 312 ≤ mc) (m2 : 0 ≤ m_g h mc 2 ∧ m_g h mc 2 ≤ 100) (m3 : 0 ≤ m_g h mc 3 ∧ m_g h mc 3 ≤ 200) (l1 : 1 ≤ m_g h (m_g h q 3) 1) (l2 : m_g h (m_g h q 3) 1 ≤ 300) (p1 : 1 ≤ p) (p2 : p ≤ 1100) (q1 : 1 ≤ qq) (q2 : qq ≤ 1000) (en : n = Int.tdiv ((m_g h (m_g h q 3) 1 - 1) * qq) p + 1) (n2 : n ≤ 300) : ∃ h', t7_played 2 kd q mc p qq h = some (m_n h, h') ∧ n_new (m_p h q 7 (n_top (m_g h q 7 + m_g h mc 3))) h' kd s (-1) 0 (m_g h q 5 + 1) (n_top (m_g h q 6 + m_g h mc 2)) 0 n (fun j => n_cl (n_play (n_rg h (m_g h q 3)) (m_g h (m_g h q 3) 1) j p qq)) := by
  have b0 := n_mulp (a := m_g h (m_g h q 3) 1 - 1) (b := qq) (A := 300) (B := 1000) (by omega) (by omega) (by omega) q2
  have b1 := n_td b0.1 p1
  obtain ⟨h1, e1, A1⟩ := n_begin (kd := kd) (n := n) I c1 c2 (by omega) n2
  have lm := I.1.1 mc (by omega)
  have A2 := n_new_f (v := s) (j := 9) I A1 (by decide)
  have A3 := n_new_f (v := m_g h q 5 + 1) (j := 5) I A2 (by decide)
  have A4 := n_new_f (v := n_top (m_g h q 6 + m_g h mc 2)) (j := 6) I A3 (by decide)
  simp only [Int.reduceEq, ↓reduceIte] at A2 A3 A4
  obtain ⟨h2, x2⟩ : ∃ x, x = m_p h1 (m_n h) 9 s := ⟨_, rfl⟩
  rw [← x2] at A2 A3 A4
  obtain ⟨h3, x3⟩ : ∃ x, x = m_p h2 (m_n h) 5 (m_g h q 5 + 1) := ⟨_, rfl⟩
  rw [← x3] at A3 A4
  obtain ⟨h4, x4⟩ : ∃ x, x = m_p h3 (m_n h) 6 (n_top (m_g h q 6 + m_g h mc 2)) := ⟨_, rfl⟩
  rw [← x4] at A4
  obtain ⟨F1, O1, -, -, lq, lr⟩ := n_stF_new I F A1
  obtain ⟨F2, O2, -, -, -, -⟩ := n_stF_new I F A2
  obtain ⟨F3, O3, -, -, -, -⟩ := n_stF_new I F A3
  obtain ⟨F4, O4, Or4, Ol4, -, -⟩ := n_stF_new I F A4
  have kr := A4.2.2.2.1.2.1
  have r4 : m_t h4 (m_g h q 3) = 5 := by have := F4.1.2.2.1; rw [O4] at this; exact this
  have f3 := A4.2.2.2.2.1.2.2.2.1
  obtain ⟨h5, e5, B5⟩ := n_fillPlayed (v := m_n h + 1) (w := m_g h q 3) (p := p) (q := qq) (n := n) A4.1.1 kr r4 (by omega) (fun j => by rw [Or4]; exact F.2.2.2.2.2 j) (by omega) (by omega) p1 p2 q1 q2 (by rw [Ol4]; exact en) (by omega)
  rw [Ol4, show n_rg h4 (m_g h q 3) = n_rg h (m_g h q 3) from funext Or4] at B5
  have A5 := n_new_rw I A4 B5
  obtain ⟨F5, O5, -, -, -, -⟩ := n_stF_new I F A5
  obtain ⟨⟨a1, a2, a3, a4⟩, a5, a6, a7, a8, a9⟩ := F
  refine ⟨m_p h5 q 7 (n_top (m_g h q 7 + m_g h mc 3)), ?_, n_new_old7 I A5 a1 a2⟩
  have k1 := A1.2.2.2.1.1
  have k2 := A2.2.2.2.1.1
  have k3 := A3.2.2.2.1.1
  have k4 := A4.2.2.2.1.1
  have mk3 : m_t h3 mc = 0 := by rw [(A3.2.1.1 mc lm.2).1]; exact hm.1
  have mk5 : m_t h5 mc = 0 := by rw [(A5.2.1.1 mc lm.2).1]; exact hm.1
  have mv3 := n_new_old A3 lm.2 (by omega) (by omega) 2
  have mv5 := n_new_old A5 lm.2 (by omega) (by omega) 3
  have t2 := n_t2 I.2
  have q21 := F2.1.1
  have q31 := F3.1.1
  have q41 := F4.1.1
  have q51 := F5.1.1
  have t1 := n_mtop (x := m_g h q 6 + m_g h mc 2) (by omega) (by omega)
  have t3 := n_mtop (x := m_g h q 7 + m_g h mc 3) (by omega) (by omega)
  unfold t7_played
  rw [if_pos a1, if_pos a3, n_playedSize a3 l1 (by omega) p1 p2 q1 q2, n_bs, ← en]
  show (if m_t h 2 = 7 then t7_begin 2 kd n h >>= _ else none) = _
  rw [if_pos t2, e1, n_bs]
  show (if m_t h1 q = 8 then if m_t h1 (m_n h) = 8 then some (m_p h1 (m_n h) 9 (m_g h1 q 0)) >>= _ else none else none) = _
  rw [if_pos F1.1.1, if_pos k1, O1, a5, ← x2, n_bs]
  show (if m_t h2 q = 8 then if m_t h2 (m_n h) = 8 then some (m_p h2 (m_n h) 5 (m_g h2 q 5 + 1)) >>= _ else none else none) = _
  rw [if_pos q21, if_pos k2, O2, ← x3, n_bs]
  show (if m_t h3 q = 8 then if m_t h3 mc = 0 then if m_t h3 (m_n h) = 8 then some (m_p h3 (m_n h) 6 (m_min 1000 (m_g h3 q 6 + m_g h3 mc 2))) >>= _ else none else none else none) = _
  rw [if_pos q31, if_pos mk3, if_pos k3, O3, mv3, t1, ← x4, n_bs]
  show (if m_t h4 (m_n h) = 8 then if m_t h4 q = 8 then if m_t h4 (m_g h4 (m_n h) 3) = 5 then t5_fillPlayed (m_g h4 (m_n h) 3) (m_g h4 q 3) p qq h4 >>= _ else none else none else none) = _
  rw [if_pos k4, if_pos q41, f3, if_pos kr, O4, e5, n_bs]
  show (if m_t h5 q = 8 then if m_t h5 mc = 0 then some (m_p h5 q 7 (m_min 1000 (m_g h5 q 7 + m_g h5 mc 3))) >>= _ else none else none) = _
  rw [if_pos q51, if_pos mk5, O5, mv5, t3, n_bs]
theorem n_canPlay {h : m_H} {q mc p qq n : Int} (I : n_I h) (a1 : m_t h q = 8) (a2 : 312 ≤ q) (a3 : m_t h (m_g h q 3) = 5) (hm : 312 ≤ mc) (l1 : 1 ≤ m_g h (m_g h q 3) 1) (l2 : m_g h (m_g h q 3) 1 ≤ 300) (w1 : 0 ≤ m_g h q 7 ∧ m_g h q 7 ≤ 1000) (c1 : 0 ≤ m_g h 2 1) (c2 : m_g h 2 1 ≤ 100) (c3 : 0 ≤ m_g h 2 2) (c4 : m_g h 2 2 ≤ 20000) (p1 : 1 ≤ p) (p2 : p ≤ 1100) (q1 : 1 ≤ qq) (q2 : qq ≤ 1000) (en : n = Int.tdiv ((m_g h (m_g h q 3) 1 - 1) * qq) p + 1) : t7_canPlay 2 q mc p qq h = some (decide (m_g h q 7 < 1000 ∧ n ≤ 300 ∧ m_g h 2 1 + 1 ≤ 100 ∧ m_g h 2 2 + n ≤ 20000), h) := by
  have b0 := n_mulp (a := m_g h (m_g h q 3) 1 - 1) (b := qq) (A := 300) (B := 1000) (by omega) (by omega) (by omega) q2
  have b1 := n_td b0.1 p1
  unfold t7_canPlay
  rw [if_neg (by omega), if_neg (by omega), if_pos a1, m_w_of (x := m_g h q 7) (by omega) (by omega)]
  by_cases c : m_g h q 7 < 1000
  · rw [if_pos c, if_pos a3, n_playedSize a3 l1 (by omega) p1 p2 q1 q2, n_bs, ← en]
    show (if m_w n < 1 then _ else if 300 < m_w n then some (false, h) else if m_t h 2 = 7 then t7_hasRoom 2 1 n h >>= _ else none) = _
    rw [m_w_of (x := n) (by omega) (by omega), if_neg (by omega)]
    by_cases c5 : 300 < n
    · rw [if_pos c5, decide_eq_false (by omega)]
    · have er := n_hasRoom (a := 1) (b := n) I (by omega) (by omega) (by omega) (by omega) (by omega) (by omega) (by omega) (by omega)
      rw [if_neg c5, if_pos (n_t2 I.2), er, n_bs]
      by_cases c6 : m_g h 2 1 + 1 ≤ 100 ∧ m_g h 2 2 + n ≤ 20000
      · rw [decide_eq_true c6, decide_eq_true ⟨c, by omega, c6⟩]
        rfl
      · rw [decide_eq_false c6, decide_eq_false (fun q => c6 q.2.2)]
        rfl
  · rw [if_neg c, decide_eq_false (fun q => c q.1)]
theorem n_canPlay_0 {h : m_H} {q mc p qq : Int} (c : q = 0 ∨ mc = 0) : t7_canPlay 2 q mc p qq h = some (false, h) := by
  unfold t7_canPlay
  by_cases c1 : q = 0
  · rw [if_pos c1]
  · rw [if_neg c1, if_pos (by omega)]
