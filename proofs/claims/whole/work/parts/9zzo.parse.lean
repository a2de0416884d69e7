/-! CALLS: fault, score: both parse: the whole text -/
theorem n_mainLoop {h k : m_H} {c' : Nat} (B : n_qB h k c') : ∀ (m i : Nat) (o j : Int) (x g : m_H), c' ≤ i + m → n_qS h k c' x g i o → 0 ≤ j → j ≤ i → ∃ a x' g', t4_firstFault_c19 10 j x = some (a, x') ∧ t11_reads_c27 127 g = some ((), g') ∧ ((a = -1 ∧ ∃ o', n_qS h k c' x' g' c' o') ∨ ∃ i', n_qT h x' c' i' ∧ a = n_pq h i' ∧ n_qF k g' a) := by
  have done : ∀ (o j : Int) (x g : m_H), n_qS h k c' x g c' o → 0 ≤ j → j ≤ c' → ∃ a x' g', t4_firstFault_c19 10 j x = some (a, x') ∧ t11_reads_c27 127 g = some ((), g') ∧ ((a = -1 ∧ ∃ o', n_qS h k c' x' g' c' o') ∨ ∃ i', n_qT h x' c' i' ∧ a = n_pq h i' ∧ n_qF k g' a) := fun o j x g S j0 j1 => by
    have S' := S
    obtain ⟨nm, c, d, P⟩ := S'
    obtain ⟨tk, i0, i1, t7, tv⟩ := n_qP_T B P
    have k27 := (n_kq_27 B (Nat.le_refl c')).mpr rfl
    have ln := n_qB_l B
    have N := n_qB_n B
    obtain ⟨X, e1, e2, e3, p0, p1⟩ := n_qP_g B P
    refine ⟨-1, x, g, ?_, ?_, Or.inl ⟨rfl, o, S⟩⟩
    · rw [t4_firstFault_c19, m_w_of (x := j) (by omega) (by omega)]
      by_cases z : j < 1200
      · rw [if_pos z, if_pos (n_qP_tC P), n_kindC P.1.1.1 t7 i0 i1, n_bs, tk]
        try dsimp only
        rw [m_w_of (by omega) (by omega), if_pos k27]
      · rw [if_neg z]
    · rw [t11_reads_c27, if_pos (n_qP_tR P), P.2.2.1.2.2, m_w_of (x := -1) (by omega) (by omega), if_pos rfl, P.2.2.1.1, e2, ln, if_neg (Int.lt_irrefl _)]
  intro m
  induction m with
  | zero =>
    intro i o j x g hm S j0 j1
    have hi : i ≤ c' := by obtain ⟨nm, c, d, P⟩ := S; exact P.1.2.2.1
    have e : i = c' := by omega
    subst e
    exact done o j x g S j0 j1
  | succ m ih =>
    intro i o j x g hm S j0 j1
    have hi : i ≤ c' := by obtain ⟨nm, c, d, P⟩ := S; exact P.1.2.2.1
    by_cases z : i = c'
    · subst z
      exact done o j x g S j0 j1
    · have S' := S
      obtain ⟨nm, c, d, P⟩ := S'
      obtain ⟨tk, i0, i1, t7, tv⟩ := n_qP_T B P
      have kb := n_kq_b (h := h) (i := i)
      have k27 : n_kq h i ≠ 27 := fun q => z ((n_kq_27 B hi).mp q)
      have ps := n_qB_p B hi
      have cn := n_qB_p B (Nat.le_refl c')
      have N := n_qB_n B
      obtain ⟨X, e1, e2, e3, p0, p1⟩ := n_qP_g B P
      have kC := n_kindC P.1.1.1 t7 i0 i1
      have w24 : t11_isWord 127 (-24) g = some (decide (n_kq h i = 12), g) := n_isWP B P (kw := 12) (by omega) (by omega)
      have w26 : t11_isWord 127 (-26) g = some (decide (n_kq h i = 13), g) := n_isWP B P (kw := 13) (by omega) (by omega)
      -- what follows the statement
      have go : ∀ (C : Option (Bool × m_H)) (R : Option (Unit × m_H)), n_qJ h k c' C R (fun x' g' => ∃ i' o', i < i' ∧ n_qS h k c' x' g' i' o') → ∃ a x' g', (C >>= fun ⟨r32, h31⟩ => some (m_b2i r32) >>= fun x33 => (if (m_w x33) = 0 then (if m_t h31 10 = 4 then t10_entry (m_g h31 10 2) (m_g h31 10 7) (m_g h31 10 1) h31 >>= fun ⟨r37, h36⟩ => some (r37, h36) else none) else (t4_firstFault_c19 10 (j + 1) h31))) = some (a, x') ∧ (R >>= fun ⟨_, h18⟩ => t11_reads_c27 127 h18) = some ((), g') ∧ ((a = -1 ∧ ∃ o', n_qS h k c' x' g' c' o') ∨ ∃ i', n_qT h x' c' i' ∧ a = n_pq h i' ∧ n_qF k g' a) := fun C R J => by
        obtain ⟨b, x1, g1, u, f1, f2, q1, q2⟩ := J
        rw [f1, f2, n_bs, n_bs]
        try dsimp only
        rw [n_bs]
        cases b with
        | true =>
          obtain ⟨i', o', lt, S1⟩ := q1 rfl
          have b1 : m_w (m_b2i true) = 1 := by decide
          rw [b1, if_neg (by decide)]
          exact ih i' o' (j + 1) x1 g1 (by omega) S1 (by omega) (by omega)
        | false =>
          obtain ⟨i', T, F⟩ := q2 rfl
          have b0 : m_w (m_b2i false) = 0 := by decide
          have I := T.1.1
          have l := n_l12 I.2
          have t4 : m_t x1 10 = 4 := n_t10 I.2
          have p' := n_qB_p B T.2.2.1
          obtain ⟨tk', ts', tv'⟩ := n_qT_k B T
          rw [b0, if_pos rfl, if_pos t4, n_p10_2 I.2, T.2.2.2, n_entry_y (n_t12 I.2) (by omega) (by omega) (by omega), n_bs, ts', t11_reads_c27, if_pos (n_qF_t F), if_neg (n_qF_33 F)]
          exact ⟨_, _, _, rfl, rfl, Or.inr ⟨i', T, rfl, F⟩⟩
      rw [t4_firstFault_c19, m_w_of (x := j) (by omega) (by omega), if_pos (show j < 1200 by omega), if_pos (n_qP_tC P), kC, n_bs, tk, t11_reads_c27, if_pos (n_qP_tR P), P.2.2.1.2.2, m_w_of (x := -1) (by omega) (by omega), if_pos rfl, P.2.2.1.1, e2, m_w_of (x := n_pq h i) (by omega) (by omega), m_w_of (x := m_g h 127 30) (by omega) (by omega), if_pos (ps.2.2 (by omega)), w24, n_bs]
      try dsimp only
      rw [m_w_of (x := n_kq h i) (by omega) (by omega), if_neg k27, if_pos (n_qP_tC P), kC, n_bs, tk]
      try dsimp only
      rw [m_w_of (x := n_kq h i) (by omega) (by omega)]
      by_cases c13 : n_kq h i = 13
      · rw [if_pos c13, if_pos (n_qP_tC P), decide_eq_false (show ¬ n_kq h i = 12 by omega), if_neg (by decide), if_pos (n_qP_tR P), w26, n_bs, decide_eq_true c13]
        try dsimp only
        rw [if_pos rfl, if_pos (n_qP_tR P)]
        exact go _ _ (n_agJ B S c13)
      · rw [if_neg c13, if_pos (n_qP_tC P), kC, n_bs, tk]
        try dsimp only
        rw [m_w_of (x := n_kq h i) (by omega) (by omega)]
        by_cases c12 : n_kq h i = 12
        · rw [if_pos c12, if_pos (n_qP_tC P), decide_eq_true c12, if_pos rfl, if_pos (n_qP_tR P)]
          refine go _ _ ?_
          obtain ⟨b, x1, g1, u, f1, f2, q1, q2⟩ := n_putJ B S (t := 1) (l := 0) (by omega) (by omega) (by omega) (by omega)
          exact ⟨b, x1, g1, u, f1, f2, fun w => by
            obtain ⟨i', lt, o1, S1⟩ := q1 w
            exact ⟨i', o + 1, lt, S1⟩, q2⟩
        · rw [if_neg c12, if_pos (n_qP_tC P), decide_eq_false c12, if_neg (by decide), if_pos (n_qP_tR P), w26, n_bs, decide_eq_false c13]
          try dsimp only
          rw [if_neg (by decide), if_pos (n_qP_tR P)]
          refine go _ _ ?_
          obtain ⟨b, x1, g1, u, f1, f2, q1, q2⟩ := n_makJ B S
          exact ⟨b, x1, g1, u, f1, f2, fun w => by
            obtain ⟨i', lt, o1, S1⟩ := q1 w
            exact ⟨i', o + 1, lt, S1⟩, q2⟩
/-- both read the text -/
theorem n_parseJ {h k : m_H} (I : n_I h) (Rr : n_Rread h h) (Ik : n_I k) (ek : ∀ b j, 127 ≤ b → b < 312 → m_g k b j = m_g h b j) : ∃ c' a x g, n_qB h k c' ∧ t4_firstFault 10 h = some (a, x) ∧ t11_reads 127 k = some ((), g) ∧ n_qC h x ∧ n_qR k g ∧ -1 ≤ a ∧ a ≤ 1200 ∧ m_g g 127 33 = a ∧ (a = -1 → ∃ o, n_qS h k c' x g c' o) := by
  obtain ⟨A, X⟩ := n_alk_of Rr
  obtain ⟨x1, c', e1, S1, p1, p2, p3⟩ := n_readToksC X (x := h) ⟨I, rfl, fun b j _ _ => rfl⟩
  have B : n_qB h k c' := ⟨A, X, Ik, ek, p1, p2⟩
  have N := n_qB_n B
  have C1 : n_qC h x1 := ⟨S1.1, S1.2.1, fun b j h1 h2 h3 => S1.2.2 b j (by omega) (by omega)⟩
  have C2 : n_qC h (m_p x1 10 7 0) := n_qC_p C1 (by omega)
  have C3 : n_qC h (m_p (m_p x1 10 7 0) 15 1 0) := n_qC_p C2 (by omega)
  have T : n_qT h (m_p (m_p x1 10 7 0) 15 1 0) c' 0 := ⟨C3, n_rec_p (n_rec_p p3 (by omega)) (by omega), Nat.zero_le _, by rw [n_gp_n (by omega), n_gp_y ⟨rfl, rfl⟩]; rfl⟩
  have R0 : n_qR k k := ⟨Ik, rfl, fun b j _ _ _ _ => rfl⟩
  have R1 : n_qR k (m_p k 127 33 (-1)) := n_qR_p R0 (by omega)
  have R2 : n_qR k (m_p (m_p k 127 33 (-1)) 151 8 0) := n_qR_p R1 (by omega)
  have R3 : n_qR k (m_p (m_p (m_p k 127 33 (-1)) 151 8 0) 127 47 0) := n_qR_p R2 (by omega)
  have f33 : m_g (m_p (m_p (m_p k 127 33 (-1)) 151 8 0) 127 47 0) 127 33 = -1 := by rw [n_gp_n (by omega), n_gp_n (by omega), n_gp_y ⟨rfl, rfl⟩]
  have f151 : m_g (m_p (m_p (m_p k 127 33 (-1)) 151 8 0) 127 47 0) 151 8 = 0 := by rw [n_gp_n (by omega), n_gp_y ⟨rfl, rfl⟩]
  have f47 : m_g (m_p (m_p (m_p k 127 33 (-1)) 151 8 0) 127 47 0) 127 47 = 0 := n_gp_y ⟨rfl, rfl⟩
  have l5 := n_l151 R1.1.2
  have R4 := n_qR_p R3 (a := 127) (j := 31) (v := 0) (by omega)
  obtain ⟨X3, e150, e30⟩ := n_qR_tx B R3
  have rd : t11_reads 127 k = t11_reads_c27 127 (n_atR (m_p (m_p (m_p k 127 33 (-1)) 151 8 0) 127 47 0) (n_pq h 0)) := by
    unfold t11_reads
    rw [if_pos (n_t127 Ik.2), n_bs, if_pos (n_t127 R1.1.2), n_p127_34 R1.1.2, if_pos ⟨n_t151 R1.1.2, by omega, by omega⟩, n_bs, if_pos (n_t127 R2.1.2), n_bs, if_pos (n_t127 R3.1.2), n_bs, if_pos (n_t127 R4.1.2)]
    rw [n_h2_as (h := m_p (m_p (m_p k 127 33 (-1)) 151 8 0) 127 47 0) (a := 127) (i1 := 31) (i2 := 32) (o := 0) (by omega), n_skipsR X3 (m_g h 127 30).toNat 0 _ (by omega) (by rw [e30]; omega), n_bs]
    try dsimp only
    have en : n_past n_bl (m_g h 150) (m_g h 127 30).toNat 0 = n_pq h 0 := by
      have q := (n_al_sk A (p := 0) (by omega)).1
      unfold n_sk at q
      rw [show m_g h 127 30 - 0 = m_g h 127 30 by omega] at q
      rw [q]
      rfl
    unfold n_atR
    rw [e150, e30, en]
  generalize m_p (m_p (m_p k 127 33 (-1)) 151 8 0) 127 47 0 = g3 at *
  obtain ⟨v1, v2, v3⟩ := n_atR_f (g := g3) (p := n_pq h 0)
  have S : n_qS h k c' (m_p (m_p x1 10 7 0) 15 1 0) (n_atR g3 (n_pq h 0)) 0 0 := by
    refine n_qS_of (nm := m_g (m_p (m_p x1 10 7 0) 15 1 0) 10 10) T (n_qR_at B R3 _) ⟨v1, by rw [v2, e150, e30], by rw [v3 127 33 (by omega)]; exact f33⟩ ⟨n_gp_y ⟨rfl, rfl⟩, by rw [v3 151 8 (by omega)]; exact f151, rfl, by omega, by omega⟩ ?_ (fun q q0 q1 => by omega)
    have w : m_g (n_atR g3 (n_pq h 0)) 127 47 = 0 := by rw [v3 127 47 (by omega)]; exact f47
    exact ⟨by omega, fun w w0 w1 => by omega, fun q q0 q1 => by omega, fun q q' q0 q1 => by omega⟩
  obtain ⟨a, x', g', f1, f2, r⟩ := n_mainLoop B c' 0 0 0 _ _ (by omega) S (by omega) (by omega)
  have ff : t4_firstFault 10 h = some (a, x') := by
    unfold t4_firstFault
    rw [if_pos (n_t10 I.2), e1, n_bs]
    try dsimp only
    rw [if_pos (n_t10 C1.1.2), n_bs, if_pos (n_t10 C2.1.2), n_p10_8 C2.1.2, if_pos (n_t15 C2.1.2), n_bs]
    exact f1
  refine ⟨c', a, x', g', B, ff, rd.trans f2, ?_⟩
  rcases r with ⟨r1, o', r2⟩ | ⟨i', r1, r2, r3⟩
  · obtain ⟨nm, c, d, P⟩ := r2
    exact ⟨P.1.1, P.2.1, by omega, by omega, by rw [r1]; exact P.2.2.1.2.2, fun _ => ⟨o', nm, c, d, P⟩⟩
  · exact ⟨r1.1, r3.1, by have := r3.2.2.1; omega, r3.2.2.2, r3.2.1, fun q => by have := r3.2.2.1; omega⟩
