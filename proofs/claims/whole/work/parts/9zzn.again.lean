/-! CALLS: fault, score: both parse: again -/
theorem n_isSgnR {h k x g : m_H} {c' i : Nat} {o nm : Int} {c d : Int → Int} (B : n_qB h k c') (P : n_qP h k c' x g i o nm c d) {s : Int} (hs : s = 61 ∨ s = 59 ∨ s = 47 ∨ s = 123 ∨ s = 125) : t11_isSign 127 s g = some (decide (n_kq h i = s), g) := by
  obtain ⟨X, e1, e2, e3, p0, p1⟩ := n_qP_g B P
  obtain ⟨v1, v2, v3⟩ := P.2.2.1
  have X' := X
  obtain ⟨I, n0, n1, bb⟩ := X'
  have N := n_qB_n B
  have l := n_l150 I.2
  have K : n_kq h i = s ↔ _ := n_K2 B.1 p0 hs
  unfold t11_isSign
  rw [if_pos (n_qP_tR P), v1, m_w_of (x := n_pq h i) (by omega) (by omega), e2, m_w_of (x := m_g h 127 30) (by omega) (by omega)]
  by_cases c : n_pq h i < m_g h 127 30
  · have b := bb (n_pq h i) p0 (by omega)
    rw [e1] at b
    rw [if_pos c, n_p127_29 I.2, if_pos ⟨n_t150 I.2, p0, by omega⟩, e1, m_w_of (x := m_g h 150 (n_pq h i)) (by omega) (by omega), m_w_of (x := s) (by omega) (by omega)]
    by_cases d : m_g h 150 (n_pq h i) = s
    · rw [if_pos d, decide_eq_true (show n_kq h i = s from K.mpr ⟨c, d⟩)]
    · rw [if_neg d, decide_eq_false (fun q => d (K.mp q).2)]
  · rw [if_neg c, decide_eq_false (fun q => c (K.mp q).1)]
theorem n_wordP {h k x g : m_H} {c' i : Nat} {o nm : Int} {c d : Int → Int} (B : n_qB h k c') (P : n_qP h k c' x g i o nm c d) {kw : Int} (k0 : 0 ≤ kw) (k1 : kw < 24) : (n_kq h i = kw → t11_word 127 (n_cst kw) g = some ((), n_atR g (n_pq h (i + 1))) ∧ i < c') ∧ (n_kq h i ≠ kw → t11_word 127 (n_cst kw) g = some ((), m_p g 127 33 (n_pq h i))) := by
  obtain ⟨X, e1, e2, e3, p0, p1⟩ := n_qP_g B P
  have kt := (n_kwT (j := 0) k0 k1 (by omega) (by omega)).1
  have W := n_wordR X P.2.2.1.2.2 (p := n_pq h i) (c := n_cst kw) p0 (by rw [e2]; exact p1) (by omega) (by omega)
  rw [e3, e1, e2] at W
  have hcn : i ≤ c' := P.1.2.2.1
  have N := n_qB_n B
  have K := n_K1 B.1 p0 p1 k0 k1
  rw [W]
  constructor
  · intro q
    have hi : i < c' := by
      by_cases z : i = c'
      · have := (n_kq_27 B hcn).mpr z; omega
      · omega
    have lt := n_kT_lt (b := m_g h 11) (n := m_g h 10 1) (p := n_pq h i) (by unfold n_kq at q; omega)
    have sk := n_al_sk B.1 p0
    have eb := n_eK_b (b := m_g h 11) lt.1
    have en : n_sk (m_g h 150) (m_g h 127 30) (n_we (m_g h 150) (m_g h 127 30) (n_pq h i)) = n_pq h (i + 1) := by
      rw [sk.2.1, n_we_y lt.1 lt.2, (n_al_sk B.1 (p := n_eK (m_g h 11) (m_g h 10 1) (n_pq h i)) (by omega)).1, n_pq_s]
    rw [if_pos (K.mp q), en]
    exact ⟨rfl, hi⟩
  · intro q
    rw [if_neg (fun w => q (K.mpr w))]
theorem n_isWP {h k x g : m_H} {c' i : Nat} {o nm : Int} {c d : Int → Int} (B : n_qB h k c') (P : n_qP h k c' x g i o nm c d) {kw : Int} (k0 : 0 ≤ kw) (k1 : kw < 24) : t11_isWord 127 (n_cst kw) g = some (decide (n_kq h i = kw), g) := by
  obtain ⟨X, e1, e2, e3, p0, p1⟩ := n_qP_g B P
  have kt := (n_kwT (j := 0) k0 k1 (by omega) (by omega)).1
  have W := n_isWordR X (p := n_pq h i) (c := n_cst kw) p0 (by rw [e2]; exact p1) (by omega) (by omega)
  rw [e3, n_isK B P kw k0 k1] at W
  exact W
theorem n_numP {h k x g : m_H} {c' i : Nat} {o nm : Int} {c d : Int → Int} (B : n_qB h k c') (P : n_qP h k c' x g i o nm c d) {lo hi : Int} (lo0 : 0 ≤ lo) (lh : lo ≤ hi) (h1' : hi ≤ 1500) : (n_kq h i = 25 ∧ lo ≤ n_vq h i ∧ n_vq h i ≤ hi → t11_number 127 lo hi g = some (n_vq h i, n_atR g (n_pq h (i + 1))) ∧ i < c') ∧ (¬ (n_kq h i = 25 ∧ lo ≤ n_vq h i ∧ n_vq h i ≤ hi) → t11_number 127 lo hi g = some (0, m_p g 127 33 (n_pq h i))) ∧ t4_isNumber 10 lo hi x = some (decide (n_kq h i = 25 ∧ lo ≤ n_vq h i ∧ n_vq h i ≤ hi), x) ∧ ∃ v, t4_value 10 x = some (v, x) ∧ (n_kq h i = 25 → v = n_vq h i) := by
  obtain ⟨X, e1, e2, e3, p0, p1⟩ := n_qP_g B P
  have T := P.1
  have hcn : i ≤ c' := T.2.2.1
  have N := n_qB_n B
  obtain ⟨tk, ts, tv⟩ := n_qT_k B T
  have kb := n_kq_b (h := h) (i := i)
  have cn := (n_qB_p B hcn).1
  have I := T.1.1
  have W := n_numR X P.2.2.1.2.2 (p := n_pq h i) (lo := lo) (hi := hi) p0 (by rw [e2]; exact p1) lo0 h1' lh
  rw [e3, e1, e2] at W
  obtain ⟨K, K2⟩ := n_K3 B.1 (lo := lo) (hi := hi) p0 h1'
  have nu := n_isNumC I T.2.2.2 (lo := lo) (hi := hi) (by omega) (by omega) lo0 (by omega) (by omega) h1' (by rw [tk]; omega) (by rw [tk]; omega) (fun q => by
    rw [tk] at q
    rw [tv (Or.inr q)]
    exact (K2 q).1)
  refine ⟨fun q => ?_, fun q => ?_, ?_, ⟨m_g x 14 i, n_valueC I T.2.2.2 (by omega) (by omega), fun q => tv (Or.inr q)⟩⟩
  · obtain ⟨y1, y2, y3⟩ := K2 q.1
    have ev : n_vlR (m_g h 150) (m_g h 127 30 - n_pq h i).toNat (n_pq h i) 0 = n_vq h i := y3 (by have := q.2.2; unfold n_vq at this; omega)
    have hi' : i < c' := by
      by_cases z : i = c'
      · have := (n_kq_27 B hcn).mpr z; omega
      · omega
    have dg := n_kT25.mp q.1
    have eb := n_eK_b (b := m_g h 11) dg.1
    have en : n_sk (m_g h 150) (m_g h 127 30) (n_ne (m_g h 150) (m_g h 127 30) (n_pq h i)) = n_pq h (i + 1) := by
      rw [y2, (n_al_sk B.1 (p := n_eK (m_g h 11) (m_g h 10 1) (n_pq h i)) (by omega)).1, n_pq_s]
    rw [W, if_pos (K.mp q), en, ev]
    exact ⟨rfl, hi'⟩
  · rw [W, if_neg (fun w => q (K.mpr w))]
  · rw [nu, tk]
    by_cases c : n_kq h i = 25
    · rw [tv (Or.inr c)]
    · rw [decide_eq_false (fun z => c z.1), decide_eq_false (fun z => c z.1)]
theorem n_c50F {k y : m_H} {f t l : Int} (F : n_qF k y f) : t11_again_c50 127 t l y = some ((), y) := by
  rw [t11_again_c50, if_pos (n_qF_t F), if_neg (n_qF_33 F), n_qF_sign F, n_bs]
theorem n_agLoop {h k : m_H} {c' : Nat} (B : n_qB h k c') {t l : Int} (t0 : 1 ≤ t) (t1 : t ≤ 9) (l0 : 0 ≤ l) (l1 : l ≤ 999) : ∀ (m i : Nat) (o j : Int) (x g : m_H), c' ≤ i + m → n_qS h k c' x g i o → 0 ≤ j → j ≤ o → n_qJ h k c' (t4_readAgain_c89 10 t l j x) (t11_puts 127 t l g >>= fun z => t11_again_c50 127 t l z.2) (fun x' g' => ∃ i' o', i < i' ∧ n_qS h k c' x' g' i' o') := by
  intro m
  induction m with
  | zero =>
    intro i o j x g hm S j0 jo
    have S' := S
    obtain ⟨nm, c, d, P⟩ := S'
    obtain ⟨s1, s2, s3, s4, s5⟩ := P.2.2.2.1
    rw [t4_readAgain_c89, m_w_of (x := j) (by omega) (by omega), if_neg (by omega), if_pos (n_qP_tC P)]
    refine n_qJ_seq (n_putJ B S t0 t1 l0 l1) (fun _ => rfl) (fun y f F => ?_) (fun x1 g1 q => ?_)
    · try dsimp only
      rw [n_c50F F]
      exact n_qk_end F
    · obtain ⟨i', lt, o1, nm1, c1, d1, P1⟩ := q
      have := P1.1.2.2.1
      omega
  | succ m ih =>
    intro i o j x g hm S j0 jo
    have S' := S
    obtain ⟨nm, c, d, P⟩ := S'
    obtain ⟨s1, s2, s3, s4, s5⟩ := P.2.2.2.1
    rw [t4_readAgain_c89, m_w_of (x := j) (by omega) (by omega), if_neg (by omega), if_pos (n_qP_tC P)]
    refine n_qJ_seq (n_putJ B S t0 t1 l0 l1) (fun _ => rfl) (fun y f F => ?_) (fun x1 g1 q => ?_)
    · try dsimp only
      rw [n_c50F F]
      exact n_qk_end F
    · obtain ⟨i', lt, o1, S1⟩ := q
      have S1' := S1
      obtain ⟨nm1, c1, d1, P1⟩ := S1'
      obtain ⟨tk, i0, i1, t7, tv⟩ := n_qP_T B P1
      have kb := n_kq_b (h := h) (i := i')
      have pc := n_passC P1.1.1.1 t7 (k := 125) i0 i1 (by omega) (by omega) (by rw [tk]; omega) (by rw [tk]; omega)
      rw [tk] at pc
      try dsimp only
      rw [if_pos (show true = true from rfl), if_pos (n_qP_tC P1), pc, t11_again_c50, if_pos (n_qP_tR P1), P1.2.2.1.2.2, m_w_of (x := -1) (by omega) (by omega), if_pos (show (-1 : Int) = -1 from rfl), n_isSgnR B P1 (by omega), n_bs]
      try dsimp only
      by_cases q : n_kq h i' = 125
      · rw [if_pos q, n_bs, decide_eq_true q, if_pos (show true = true from rfl), if_pos (n_qP_tR P1)]
        try dsimp only
        rw [if_pos (show true = true from rfl)]
        have J : n_qJ h k c' (t4_pass 10 125 x1 >>= fun z => some z) (t11_sign 127 125 g1 >>= fun z => some ((), z.2)) (fun x' g' => ∃ i' o', i < i' ∧ n_qS h k c' x' g' i' o') := n_qJ_sign B P1 (by omega) (fun _ => rfl) (fun y F => n_qk_end F) (fun x2 g2 P2 => ⟨true, x2, g2, (), rfl, rfl, fun _ => ⟨_, _, by omega, _, _, _, P2⟩, fun z => by cases z⟩)
        rw [pc, if_pos q, n_bs] at J
        exact J
      · rw [if_neg q, n_bs, decide_eq_false q, if_neg (show ¬ false = true by decide), if_pos (n_qP_tR P1)]
        try dsimp only
        rw [if_neg (show ¬ false = true by decide)]
        try rw [if_pos (n_qP_tR P1)]
        obtain ⟨b, x2, g2, u, e1, e2, q1, q2⟩ := ih i' (o + 1) (j + 1) x1 g1 (by omega) S1 (by omega) (by omega)
        exact ⟨b, x2, g2, u, e1, e2, fun z => by
          obtain ⟨i2, o2, w1, w2⟩ := q1 z
          exact ⟨i2, o2, by omega, w2⟩, q2⟩
theorem n_agJ {h k x g : m_H} {c' i : Nat} {o : Int} (B : n_qB h k c') (S : n_qS h k c' x g i o) (k13 : n_kq h i = 13) : n_qJ h k c' (t4_readAgain 10 x) (t11_again 127 g) (fun x' g' => ∃ i' o', i < i' ∧ n_qS h k c' x' g' i' o') := by
  obtain ⟨nm, c, d, P⟩ := S
  obtain ⟨wd, hi⟩ := (n_wordP B P (kw := 13) (by omega) (by omega)).1 k13
  have wd' : t11_word 127 (-26) g = some ((), n_atR g (n_pq h (i + 1))) := wd
  have P1 := n_qP_next B P hi
  have o0 := P.2.2.2.1.2.2.2.1
  obtain ⟨n1, n2, n3, v, n4, n5⟩ := n_numP B P1 (lo := 1) (hi := 9) (by omega) (by omega) (by omega)
  unfold t4_readAgain t11_again
  rw [if_pos (n_qP_tC P), P.1.2.2.2, n_bs, if_pos (n_qP_tC P1), n4, n_bs, if_pos (n_qP_tR P), wd', n_bs]
  try dsimp only
  rw [if_pos (n_qP_tC P1), n3, n_bs, if_pos (n_qP_tR P1)]
  try dsimp only
  by_cases q : n_kq h (i + 1) = 25 ∧ 1 ≤ n_vq h (i + 1) ∧ n_vq h (i + 1) ≤ 9
  · obtain ⟨nu, hi1⟩ := n1 q
    have P2 := n_qP_next B P1 hi1
    rw [n5 q.1, decide_eq_true q, if_pos (show true = true from rfl), if_pos (n_qP_tC P1), P1.1.2.2.2, n_bs, if_pos (n_qP_tC P2), nu, n_bs]
    try dsimp only
    rw [if_pos (n_qP_tR P2)]
    refine n_qJ_word B P2 (kw := 19) (by omega) (by omega) rfl (fun _ => rfl) (fun y F => ?_) (fun x3 g3 P3 => ?_)
    · try dsimp only
      rw [if_pos (n_qF_t F), n_qF_num F, n_bs]
      try dsimp only
      rw [if_pos (n_qF_t F), n_qF_sign F, n_bs]
      try dsimp only
      rw [if_pos (n_qF_t F), if_neg (n_qF_33 F)]
      exact n_qk_end F
    · obtain ⟨m1, m2, m3, w, m4, m5⟩ := n_numP B P3 (lo := 0) (hi := 999) (by omega) (by omega) (by omega)
      try dsimp only
      rw [if_pos (show true = true from rfl), if_pos (n_qP_tC P3), m4, n_bs, if_pos (n_qP_tR P3)]
      try dsimp only
      rw [if_pos (n_qP_tC P3), m3, n_bs]
      try dsimp only
      by_cases q2 : n_kq h (i + 1 + 1 + 1) = 25 ∧ 0 ≤ n_vq h (i + 1 + 1 + 1) ∧ n_vq h (i + 1 + 1 + 1) ≤ 999
      · obtain ⟨nu2, hi2⟩ := m1 q2
        have P4 := n_qP_next B P3 hi2
        rw [m5 q2.1, decide_eq_true q2, if_pos (show true = true from rfl), if_pos (n_qP_tC P3), P3.1.2.2.2, n_bs, if_pos (n_qP_tC P4), nu2, n_bs]
        try dsimp only
        rw [if_pos (n_qP_tR P4)]
        refine n_qJ_sign B P4 (s := 123) (by omega) (fun _ => rfl) (fun y F => ?_) (fun x5 g5 P5 => ?_)
        · try dsimp only
          rw [if_pos (n_qF_t F), if_neg (n_qF_33 F)]
          exact n_qk_end F
        · try dsimp only
          rw [if_pos (show true = true from rfl), if_pos (n_qP_tR P5), P5.2.2.1.2.2, m_w_of (x := -1) (by omega) (by omega), if_pos (show (-1 : Int) = -1 from rfl)]
          obtain ⟨b, x6, g6, u, e1, e2, q1, q2'⟩ := n_agLoop B q.2.1 q.2.2 q2.2.1 q2.2.2 c' (i + 1 + 1 + 1 + 1 + 1) o 0 x5 g5 (by omega) ⟨_, _, _, P5⟩ (by omega) o0
          exact ⟨b, x6, g6, u, e1, e2, fun z => by
            obtain ⟨i2, o2, w1, w2⟩ := q1 z
            exact ⟨i2, o2, by omega, w2⟩, q2'⟩
      · obtain ⟨fl, F⟩ := n_qP_F B P3
        rw [decide_eq_false q2, if_neg (show ¬ false = true by decide), m2 q2, n_bs]
        try dsimp only
        rw [if_pos (n_qF_t F), n_qF_sign F, n_bs]
        try dsimp only
        rw [if_pos (n_qF_t F), if_neg (n_qF_33 F)]
        exact n_qJ_bad P3.1 (n_qk_end F)
  · obtain ⟨fl, F⟩ := n_qP_F B P1
    rw [decide_eq_false q, if_neg (show ¬ false = true by decide), n2 q, n_bs]
    try dsimp only
    rw [if_pos (n_qF_t F), n_qF_word F, n_bs]
    try dsimp only
    rw [if_pos (n_qF_t F), n_qF_num F, n_bs]
    try dsimp only
    rw [if_pos (n_qF_t F), n_qF_sign F, n_bs]
    try dsimp only
    rw [if_pos (n_qF_t F), if_neg (n_qF_33 F)]
    exact n_qJ_bad P1.1 (n_qk_end F)
