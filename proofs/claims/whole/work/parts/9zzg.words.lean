/-! CALLS: fault, score: known words on both sides -/
theorem n_cdP_b (b : Int → Int) : ∀ (k : Nat) (p : Int) (v : Nat), (∀ j : Int, 0 ≤ j → j < k → n_lt (b (p + j)) = true) → n_cdP b k p v < (v + 1) * 32 ^ k
  | 0, p, v, _ => by show v < (v + 1) * 1; omega
  | k + 1, p, v, h => by
    have d := of_decide_eq_true (h 0 (by omega) (by omega))
    rw [show p + 0 = p by omega] at d
    have ih := n_cdP_b b k (p + 1) (v * 32 + (b p - 96).toNat) (fun j j0 j1 => by rw [show p + 1 + j = p + (j + 1) by omega]; exact h (j + 1) (by omega) (by omega))
    show n_cdP b k (p + 1) (v * 32 + (b p - 96).toNat) < (v + 1) * (32 ^ k * 32)
    have le : (v * 32 + (b p - 96).toNat + 1) * 32 ^ k ≤ ((v + 1) * 32) * 32 ^ k := Nat.mul_le_mul_right _ (by omega)
    have e : (v + 1) * (32 ^ k * 32) = ((v + 1) * 32) * 32 ^ k := by rw [Nat.mul_comm (32 ^ k) 32, ← Nat.mul_assoc]
    omega
theorem n_nmV {h : m_H} (A : n_alk h) {p : Int} (p0 : 0 ≤ p) (p1 : p ≤ m_g h 127 30) (k : n_kT9 (m_g h 11) (m_g h 10 1) p = 24) : 0 ≤ n_vT9 (m_g h 11) (m_g h 10 1) p ∧ n_vT9 (m_g h 11) (m_g h 10 1) p ≤ 1073741824 := by
  have K := (n_K4 A p0 p1).mp k
  obtain ⟨x1, x2, x3, x4, x5⟩ := n_nmT A p0 p1 k
  have a := A.1
  have eb := n_eK_b (b := m_g h 11) (n := m_g h 10 1) (p := p) (by omega)
  have B := n_cdP_b (m_g h 11) (n_eK (m_g h 11) (m_g h 10 1) p - p).toNat p 0 (fun j j0 j1 => x4 _ (by omega) (by omega))
  have pw : 32 ^ (n_eK (m_g h 11) (m_g h 10 1) p - p).toNat ≤ 32 ^ 6 := Nat.pow_le_pow_right (by omega) (by omega)
  have e6 : 32 ^ 6 = 1073741824 := by decide
  rw [x5]
  omega
/-- the component looks for a name -/
theorem n_namedC {x : m_H} (I : n_I x) {i o : Int} (e7 : m_g x 10 7 = i) (i0 : 0 ≤ i) (i1 : i ≤ 1200) (eo : m_g x 15 1 = o) (o0 : 0 ≤ o) (o1 : o ≤ 40) (kb : 0 ≤ m_g x 13 i ∧ m_g x 13 i < 128) (vb : m_g x 13 i = 24 → 0 ≤ m_g x 14 i ∧ m_g x 14 i ≤ 1073741824) (nb : ∀ q, 0 ≤ q → q < o → -1 ≤ m_g x 18 q ∧ m_g x 18 q ≤ 1073741824) : ∃ r, t4_namedOrder 10 x = some (r, x) ∧ (m_g x 13 i ≠ 24 → r = -1) ∧ (m_g x 13 i = 24 → (r = -1 ∧ ∀ q, 0 ≤ q → q < o → m_g x 18 q ≠ m_g x 14 i) ∨ ((0 ≤ r ∧ r < o) ∧ m_g x 18 r = m_g x 14 i)) := by
  have l := n_l18 I.2
  have key : ∀ (m : Nat) (q : Int), 0 ≤ q → o = q + m → ∃ r, t4_namedOrder_c2 10 q x = some (r, x) ∧ (m_g x 13 i ≠ 24 → r = -1) ∧ (m_g x 13 i = 24 → (r = -1 ∧ ∀ z, q ≤ z → z < o → m_g x 18 z ≠ m_g x 14 i) ∨ ((0 ≤ r ∧ r < o) ∧ m_g x 18 r = m_g x 14 i)) := by
    intro m
    induction m with
    | zero =>
      intro q q0 em
      refine ⟨-1, ?_, fun _ => rfl, fun _ => Or.inl ⟨rfl, fun z z0 z1 => by omega⟩⟩
      rw [t4_namedOrder_c2, if_pos (n_t10 I.2), n_p10_8 I.2, if_pos (n_t15 I.2), eo, m_w_of (x := q) (by omega) (by omega), m_w_of (x := o) (by omega) (by omega), if_neg (by omega)]
    | succ m ih =>
      intro q q0 em
      have e : t4_namedOrder_c2 10 q x = if m_g x 13 i = 24 then (if m_g x 18 q = m_g x 14 i then some (q, x) else t4_namedOrder_c2 10 (q + 1) x) else some (-1, x) := by
        rw [t4_namedOrder_c2, if_pos (n_t10 I.2), n_p10_8 I.2, if_pos (n_t15 I.2), eo, m_w_of (x := q) (by omega) (by omega), m_w_of (x := o) (by omega) (by omega), if_pos (by omega), n_kindC I e7 i0 i1, n_bs]
        dsimp only
        rw [m_w_of (x := m_g x 13 i) (by omega) (by omega)]
        by_cases c : m_g x 13 i = 24
        · have v := vb c
          have n := nb q q0 (by omega)
          rw [if_pos c, if_pos c, if_pos (n_t10 I.2), n_p10_9 I.2, n_entry_y (n_t18 I.2) (by omega) q0 (by omega), n_bs]
          dsimp only
          rw [if_pos (n_t10 I.2), n_valueC I e7 i0 i1, n_bs]
          dsimp only
          rw [m_w_of (x := m_g x 18 q) (by omega) (by omega), m_w_of (x := m_g x 14 i) (by omega) (by omega)]
        · rw [if_neg c, if_neg c]
      rw [e]
      by_cases c : m_g x 13 i = 24
      · rw [if_pos c]
        by_cases d : m_g x 18 q = m_g x 14 i
        · rw [if_pos d]
          exact ⟨q, rfl, fun z => absurd c z, fun _ => Or.inr ⟨⟨q0, by omega⟩, d⟩⟩
        · rw [if_neg d]
          obtain ⟨r, f1, f2, f3⟩ := ih (q + 1) (by omega) (by omega)
          refine ⟨r, f1, f2, fun z => ?_⟩
          rcases f3 z with ⟨w1, w2⟩ | w
          · refine Or.inl ⟨w1, fun y y0 y1 => ?_⟩
            by_cases u : y = q
            · rw [u]; exact d
            · exact w2 y (by omega) y1
          · exact Or.inr w
      · rw [if_neg c]
        exact ⟨-1, rfl, fun _ => rfl, fun z => absurd z c⟩
  exact key o.toNat 0 (by omega) (by omega)
/-- the reference looks for a word -/
theorem n_knownR {g : m_H} (X : n_tx g) {p W : Int} (p0 : 0 ≤ p) (p1 : p ≤ m_g g 127 30) (eW : m_g g 127 47 = W) (W0 : 0 ≤ W) (W1 : W ≤ 40) (wb : ∀ w, 0 ≤ w → w < W → (0 ≤ m_g g 232 w ∧ m_g g 232 w ≤ m_g g 127 30) ∧ m_g g 233 w = n_we (m_g g 150) (m_g g 127 30) (m_g g 232 w) - m_g g 232 w ∧ 1 ≤ m_g g 233 w) : ∃ r, t11_wordKnown 127 (n_atR g p) = some (r, n_atR g p) ∧ ((r = -1 ∧ ∀ w, 0 ≤ w → w < W → ¬ n_sameW (m_g g 150) (m_g g 127 30) (m_g g 232 w) p) ∨ ∃ w, (0 ≤ w ∧ w < W) ∧ n_sameW (m_g g 150) (m_g g 127 30) (m_g g 232 w) p ∧ r = m_g g 234 w) := by
  have X' := X
  obtain ⟨I, n0, n1, bb⟩ := X'
  have J := n_atR_I I p
  obtain ⟨v1, v2, v3⟩ := n_atR_f (g := g) (p := p)
  have l := n_l150 J.2
  have l2 := n_l232 J.2
  have l3 := n_l233 J.2
  have l4 := n_l234 J.2
  have pe := n_we_b (b := m_g g 150) p1
  have e232 : ∀ j, m_g (n_atR g p) 232 j = m_g g 232 j := fun j => v3 232 j (by omega)
  have e233 : ∀ j, m_g (n_atR g p) 233 j = m_g g 233 j := fun j => v3 233 j (by omega)
  have e234 : ∀ j, m_g (n_atR g p) 234 j = m_g g 234 j := fun j => v3 234 j (by omega)
  have e150 : ∀ j, m_g (n_atR g p) 150 j = m_g g 150 j := fun j => v3 150 j (by omega)
  have e47 : m_g (n_atR g p) 127 47 = W := by rw [v3 127 47 (by omega)]; exact eW
  have c44 := n_p127_44 J.2
  have c45 := n_p127_45 J.2
  have c46 := n_p127_46 J.2
  have c29 := n_p127_29 J.2
  have t127 := n_t127 J.2
  have t232 := n_t232 J.2
  have t233 := n_t233 J.2
  have t234 := n_t234 J.2
  have t150 := n_t150 J.2
  clear X I J eW v3
  -- a word that differs
  have no : ∀ k j, 0 ≤ k → k < W → 0 ≤ j → j ≤ 1200 → t11_wordKnown_x2 36 127 k 0 j (n_atR g p) = t11_wordKnown_x2 2 127 (k + 1) 0 0 (n_atR g p) := fun k j k0 k1 j0 j1 => by
    have w := wb k k0 k1
    have wa := n_we_b (b := m_g g 150) w.1.2
    have e89 : t11_wordKnown_x2 89 127 k 0 0 (n_atR g p) = t11_wordKnown_x2 2 127 (k + 1) 0 0 (n_atR g p) := by
      rw [t11_wordKnown_x2, if_neg (by omega), if_neg (by omega), if_pos rfl, m_w_of (x := 0) (by omega) (by omega), if_pos rfl]
    rw [t11_wordKnown_x2, if_neg (by omega), if_pos rfl, if_pos t127, c45, m_w_of (x := k) (by omega) (by omega), if_pos ⟨t233, k0, by omega⟩, e233, m_w_of (x := j) (by omega) (by omega), m_w_of (x := m_g g 233 k) (by omega) (by omega), m_w_of (x := 0) (by omega) (by omega), if_pos rfl, e89]
    split <;> rfl
  have yes : ∀ k, 0 ≤ k → k < W → n_we (m_g g 150) (m_g g 127 30) (m_g g 232 k) - m_g g 232 k = n_we (m_g g 150) (m_g g 127 30) p - p → ∀ (m : Nat) (j : Int), 0 ≤ j → m_g g 233 k = j + m → ((∀ t, j ≤ t → t < m_g g 233 k → m_g g 150 (m_g g 232 k + t) = m_g g 150 (p + t)) ∧ t11_wordKnown_x2 36 127 k 1 j (n_atR g p) = some (m_g g 234 k, n_atR g p)) ∨ (¬ (∀ t, j ≤ t → t < m_g g 233 k → m_g g 150 (m_g g 232 k + t) = m_g g 150 (p + t)) ∧ t11_wordKnown_x2 36 127 k 1 j (n_atR g p) = t11_wordKnown_x2 2 127 (k + 1) 0 0 (n_atR g p)) := by
    intro k k0 k1 len m
    have w := wb k k0 k1
    have wa := n_we_b (b := m_g g 150) w.1.2
    induction m with
    | zero =>
      intro j j0 em
      left
      refine ⟨fun t t0 t1 => by omega, ?_⟩
      rw [t11_wordKnown_x2, if_neg (by omega), if_pos rfl, if_pos t127, c45, m_w_of (x := k) (by omega) (by omega), if_pos ⟨t233, k0, by omega⟩, e233, m_w_of (x := j) (by omega) (by omega), m_w_of (x := m_g g 233 k) (by omega) (by omega), if_neg (by omega), t11_wordKnown_x2, if_neg (by omega), if_neg (by omega), if_pos rfl, m_w_of (x := 1) (by omega) (by omega), if_neg (by omega), if_pos t127, c46, m_w_of (x := k) (by omega) (by omega), if_pos ⟨t234, k0, by omega⟩, e234]
    | succ m ih =>
      intro j j0 em
      have ba := bb (m_g g 232 k + j) (by omega) (by omega)
      have bp := bb (p + j) (by omega) (by omega)
      have st : t11_wordKnown_x2 36 127 k 1 j (n_atR g p) = if m_g g 150 (m_g g 232 k + j) = m_g g 150 (p + j) then t11_wordKnown_x2 36 127 k 1 (j + 1) (n_atR g p) else t11_wordKnown_x2 36 127 k 0 (j + 1) (n_atR g p) := by
        rw [t11_wordKnown_x2, if_neg (by omega), if_pos rfl, if_pos t127, c45, m_w_of (x := k) (by omega) (by omega), if_pos ⟨t233, k0, by omega⟩, e233, m_w_of (x := j) (by omega) (by omega), m_w_of (x := m_g g 233 k) (by omega) (by omega), if_pos (by omega), m_w_of (x := 1) (by omega) (by omega), if_neg (by omega), c44, if_pos ⟨t232, k0, by omega⟩, c29, e232, v1, m_w_of (x := m_g g 232 k + j) (by omega) (by omega), if_pos ⟨t150, by omega, by omega⟩, m_w_of (x := p + j) (by omega) (by omega), if_pos ⟨t150, by omega, by omega⟩, e150, e150, m_w_of (x := m_g g 150 (m_g g 232 k + j)) (by omega) (by omega), m_w_of (x := m_g g 150 (p + j)) (by omega) (by omega)]
      rw [st]
      by_cases c : m_g g 150 (m_g g 232 k + j) = m_g g 150 (p + j)
      · rw [if_pos c]
        rcases ih (j + 1) (by omega) (by omega) with ⟨q1, q2⟩ | ⟨q1, q2⟩
        · left
          refine ⟨fun t t0 t1 => ?_, q2⟩
          by_cases z : t = j
          · rw [z]; exact c
          · exact q1 t (by omega) t1
        · right
          exact ⟨fun z => q1 (fun t t0 t1 => z t (by omega) t1), q2⟩
      · rw [if_neg c]
        right
        exact ⟨fun z => c (z j (by omega) (by omega)), no k (j + 1) k0 k1 (by omega) (by omega)⟩
  have head : ∀ (m : Nat) (k : Int), 0 ≤ k → W = k + m → ∃ r, t11_wordKnown_x2 2 127 k 0 0 (n_atR g p) = some (r, n_atR g p) ∧ ((r = -1 ∧ ∀ w, k ≤ w → w < W → ¬ n_sameW (m_g g 150) (m_g g 127 30) (m_g g 232 w) p) ∨ ∃ w, (0 ≤ w ∧ w < W) ∧ n_sameW (m_g g 150) (m_g g 127 30) (m_g g 232 w) p ∧ r = m_g g 234 w) := by
    intro m
    induction m with
    | zero =>
      intro k k0 em
      refine ⟨-1, ?_, Or.inl ⟨rfl, fun w w0 w1 => by omega⟩⟩
      rw [t11_wordKnown_x2, if_pos rfl, if_pos t127, e47, m_w_of (x := k) (by omega) (by omega), m_w_of (x := W) (by omega) (by omega), if_neg (by omega)]
    | succ m ih =>
      intro k k0 em
      have k1 : k < W := by omega
      have w := wb k k0 k1
      have wa := n_we_b (b := m_g g 150) w.1.2
      obtain ⟨r, f1, f2⟩ := ih (k + 1) (by omega) (by omega)
      -- the rest
      have rest : ¬ n_sameW (m_g g 150) (m_g g 127 30) (m_g g 232 k) p → t11_wordKnown_x2 2 127 k 0 0 (n_atR g p) = t11_wordKnown_x2 2 127 (k + 1) 0 0 (n_atR g p) → ∃ r, t11_wordKnown_x2 2 127 k 0 0 (n_atR g p) = some (r, n_atR g p) ∧ ((r = -1 ∧ ∀ w, k ≤ w → w < W → ¬ n_sameW (m_g g 150) (m_g g 127 30) (m_g g 232 w) p) ∨ ∃ w, (0 ≤ w ∧ w < W) ∧ n_sameW (m_g g 150) (m_g g 127 30) (m_g g 232 w) p ∧ r = m_g g 234 w) := fun ns e => by
        refine ⟨r, e.trans f1, ?_⟩
        rcases f2 with ⟨q1, q2⟩ | q
        · refine Or.inl ⟨q1, fun y y0 y1 => ?_⟩
          by_cases z : y = k
          · rw [z]; exact ns
          · exact q2 y (by omega) y1
        · exact Or.inr q
      have st : t11_wordKnown_x2 2 127 k 0 0 (n_atR g p) = if m_g g 233 k = n_we (m_g g 150) (m_g g 127 30) p - p then t11_wordKnown_x2 36 127 k 1 0 (n_atR g p) else t11_wordKnown_x2 36 127 k 0 0 (n_atR g p) := by
        rw [t11_wordKnown_x2, if_pos rfl, if_pos t127, e47, m_w_of (x := k) (by omega) (by omega), m_w_of (x := W) (by omega) (by omega), if_pos (by omega), c45, if_pos ⟨t233, k0, by omega⟩, e233, v1, v2, m_w_of (x := m_g g 233 k) (by omega) (by omega), m_w_of (x := n_we (m_g g 150) (m_g g 127 30) p - p) (by omega) (by omega)]
      by_cases c : m_g g 233 k = n_we (m_g g 150) (m_g g 127 30) p - p
      · rw [if_pos c] at st
        rcases yes k k0 k1 (by omega) (m_g g 233 k).toNat 0 (by omega) (by omega) with ⟨q1, q2⟩ | ⟨q1, q2⟩
        · exact ⟨m_g g 234 k, st.trans q2, Or.inr ⟨k, ⟨k0, k1⟩, ⟨by omega, fun j j0 j1 => q1 j j0 (by omega)⟩, rfl⟩⟩
        · exact rest (fun s => q1 (fun t t0 t1 => s.2 t t0 (by omega))) (st.trans q2)
      · rw [if_neg c] at st
        exact rest (fun s => c (by have := s.1; omega)) (st.trans (no k 0 k0 k1 (by omega) (by omega)))
  unfold t11_wordKnown
  exact head W.toNat 0 (by omega) (by omega)
