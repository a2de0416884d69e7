/-! CALLS: near, rivals: sums of what is missed -/
/-- the sum of f from i on (k of them), -1 where one is above m -/
def n_sumN (f : Int → Int) (m : Int) : Nat → Int → Int → Int
  | 0, a, _ => a
  | k + 1, a, i => if m < f i then -1 else n_sumN f m k (a + f i) (i + 1)
theorem n_sumN_b {f : Int → Int} {m n : Int} (hf : ∀ j, 0 ≤ j → j < n → 0 ≤ f j ∧ f j ≤ 65535) : ∀ (k : Nat) (a i : Int), 0 ≤ i → i + k ≤ n → 0 ≤ a → a ≤ 65535 * i → -1 ≤ n_sumN f m k a i ∧ n_sumN f m k a i ≤ 65535 * (i + k)
  | 0, a, i, h1, h2, h3, h4 => by unfold n_sumN; omega
  | k + 1, a, i, h1, h2, h3, h4 => by
    unfold n_sumN
    have b := hf i h1 (by omega)
    by_cases c : m < f i
    · rw [if_pos c]; omega
    · rw [if_neg c]
      have := n_sumN_b (m := m) hf k (a + f i) (i + 1) (by omega) (by omega) (by omega) (by omega)
      omega
def n_df (x y : Int) : Int := if x < y then y - x else x - y
theorem n_df_b {x y : Int} (x1 : -32768 ≤ x) (x2 : x ≤ 32767) (y1 : -32768 ≤ y) (y2 : y ≤ 32767) : 0 ≤ n_df x y ∧ n_df x y ≤ 65535 := by unfold n_df; split <;> omega
theorem n_abs_df {x y : Int} (x1 : -32768 ≤ x) (x2 : x ≤ 32767) (y1 : -32768 ≤ y) (y2 : y ≤ 32767) : m_abs (x - y) = n_df x y := by
  unfold m_abs n_df
  rw [m_w_of (by omega) (by omega)]
  by_cases c : x < y
  · rw [if_pos c, if_pos (by omega)]; omega
  · rw [if_neg c, if_neg (by omega)]
theorem n_missAt {h : m_H} {p t n m : Int} {T V : Int → Int} (I : n_I h) (n0 : 0 ≤ n) (n1 : n ≤ 1000) (p0 : 0 ≤ p) (p1 : p ≤ 10000) (t0 : 0 ≤ t) (t1 : t ≤ 10000) (m0 : 0 ≤ m) (m1 : m ≤ 65535) (hT : ∀ j, 0 ≤ j → j < n → n_rg h 119 (t + j) = T (t + j) ∧ -32768 ≤ T (t + j) ∧ T (t + j) ≤ 32767) (hV : ∀ j, 0 ≤ j → j < n → n_rg h 122 (p + j) = V (p + j) ∧ -32768 ≤ V (p + j) ∧ V (p + j) ≤ 32767) : t1_missAt 121 p t n m h = some (n_sumN (fun j => n_df (T (t + j)) (V (p + j))) m n.toNat 0 0, h) := by
  have k1 := n_t121 I.2
  have q1 := n_p121_1 I.2
  have q2 := n_p121_2 I.2
  have R1 := n_wf_row I.1 (n_t119 I.2)
  have R2 := n_wf_row I.1 (n_t122 I.2)
  have key : ∀ (k : Nat) (a i : Int), 0 ≤ i → i + k = n → t1_missAt_c6 121 p t n m a i h = some (n_sumN (fun j => n_df (T (t + j)) (V (p + j))) m k a i, h) := by
    intro k
    induction k with
    | zero =>
      intro a i i1 i2
      rw [t1_missAt_c6, m_w_of (by omega) (by omega), m_w_of (by omega) (by omega), if_neg (by omega)]
      rfl
    | succ k ih =>
      intro a i i1 i2
      obtain ⟨a1, a2, a3⟩ := hT i i1 (by omega)
      obtain ⟨b1, b2, b3⟩ := hV i i1 (by omega)
      have df := n_df_b a2 a3 b2 b3
      rw [t1_missAt_c6, m_w_of (x := i) (by omega) (by omega), m_w_of (x := n) (by omega) (by omega), if_pos (by omega), if_pos k1, q1, if_pos R1.1, n_get R1 (by omega) (by omega), n_bs, a1]
      show (if m_t h 121 = 1 then if m_t h (m_g h 121 2) = 5 then t5_get (m_g h 121 2) (p + i) h >>= _ else none else none) = _
      rw [if_pos k1, q2, if_pos R2.1, n_get R2 (by omega) (by omega), n_bs, b1]
      show (some (m_abs (T (t + i) - V (p + i))) >>= fun x10 => if m_w m < m_w x10 then some (-1, h) else some (a + x10) >>= fun x12 => t1_missAt_c6 121 p t n m x12 (i + 1) h) = _
      rw [n_abs_df a2 a3 b2 b3, n_bs, m_w_of (x := m) (by omega) (by omega), m_w_of (by omega) (by omega), n_bs]
      show _ = some (if m < n_df (T (t + i)) (V (p + i)) then -1 else n_sumN (fun j => n_df (T (t + j)) (V (p + j))) m k (a + n_df (T (t + i)) (V (p + i))) (i + 1), h)
      by_cases c : m < n_df (T (t + i)) (V (p + i))
      · rw [if_pos c, if_pos c]
      · rw [if_neg c, if_neg c, ih _ _ (by omega) (by omega)]
  unfold t1_missAt
  exact key n.toNat 0 0 (by omega) (by omega)
theorem n_sumAt {g : m_H} {p t n m : Int} {T V : Int → Int} (I : n_I g) (n0 : 0 ≤ n) (n1 : n ≤ 1000) (p0 : 0 ≤ p) (p1 : p + n ≤ 600) (t0 : 0 ≤ t) (t1 : t + n ≤ 1000) (m0 : 0 ≤ m) (m1 : m ≤ 65535) (hT : ∀ j, 0 ≤ j → j < n → m_g g 308 (t + j) = T (t + j) ∧ -32768 ≤ T (t + j) ∧ T (t + j) ≤ 32767) (hV : ∀ j, 0 ≤ j → j < n → m_g g 309 (p + j) = V (p + j) ∧ -32768 ≤ V (p + j) ∧ V (p + j) ≤ 32767) : t11_sumAt 127 t p n m g = some (n_sumN (fun j => n_df (T (t + j)) (V (p + j))) m n.toNat 0 0, g) := by
  have k1 := n_t127 I.2
  have q1 := n_p127_81 I.2
  have q2 := n_p127_82 I.2
  have s1 := n_t308 I.2
  have s2 := n_t309 I.2
  have l1 := n_l308 I.2
  have l2 := n_l309 I.2
  have key : ∀ (k : Nat) (a i : Int), 0 ≤ i → i + k = n → t11_sumAt_c6 127 t p n m a i g = some (n_sumN (fun j => n_df (T (t + j)) (V (p + j))) m k a i, g) := by
    intro k
    induction k with
    | zero =>
      intro a i i1 i2
      rw [t11_sumAt_c6, m_w_of (by omega) (by omega), m_w_of (by omega) (by omega), if_neg (by omega)]
      rfl
    | succ k ih =>
      intro a i i1 i2
      obtain ⟨a1, a2, a3⟩ := hT i i1 (by omega)
      obtain ⟨b1, b2, b3⟩ := hV i i1 (by omega)
      have df := n_df_b a2 a3 b2 b3
      have ed : t11_differs (T (t + i)) (V (p + i)) g = some (n_df (T (t + i)) (V (p + i)), g) := by
        unfold t11_differs n_df
        rw [m_w_of (by omega) (by omega), m_w_of (by omega) (by omega)]
        by_cases c : T (t + i) < V (p + i)
        · rw [if_pos c, if_pos c]
        · rw [if_neg c, if_neg c]
      rw [t11_sumAt_c6, m_w_of (x := i) (by omega) (by omega), m_w_of (x := n) (by omega) (by omega), if_pos (by omega), if_pos k1, q1, q2, m_w_of (x := t + i) (by omega) (by omega), m_w_of (x := p + i) (by omega) (by omega), if_pos ⟨s1, by omega, by omega⟩, if_pos ⟨s2, by omega, by omega⟩, a1, b1, ed, n_bs]
      show (if m_w m < m_w (n_df (T (t + i)) (V (p + i))) then some (-1, g) else some (a + n_df (T (t + i)) (V (p + i))) >>= fun x8 => t11_sumAt_c6 127 t p n m x8 (i + 1) g) = _
      rw [m_w_of (x := m) (by omega) (by omega), m_w_of (by omega) (by omega), n_bs]
      show _ = some (if m < n_df (T (t + i)) (V (p + i)) then -1 else n_sumN (fun j => n_df (T (t + j)) (V (p + j))) m k (a + n_df (T (t + i)) (V (p + i))) (i + 1), g)
      by_cases c : m < n_df (T (t + i)) (V (p + i))
      · rw [if_pos c, if_pos c]
      · rw [if_neg c, if_neg c, ih _ _ (by omega) (by omega)]
  unfold t11_sumAt
  exact key n.toNat 0 0 (by omega) (by omega)
