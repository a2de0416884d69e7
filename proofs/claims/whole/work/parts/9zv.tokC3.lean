/-! CALLS: fault, score: the component's words -/
theorem n_sl2 : m_sl (-2) = 144 := by decide +kernel
theorem n_kwC {h x : m_H} (X : n_txC h) (S : n_tkC h x) {p e i : Int} (e6 : m_g x 10 6 = e) (e0 : 0 ≤ e) (e1 : e ≤ m_g h 10 1) (p0 : 0 ≤ p) (p1 : p ≤ 1200) (i0 : 0 ≤ i) (i1 : i < 24) : t4_isKeyword 10 i p x = some (n_kwN (m_g h 11) p e i 6 0, x) := by
  have X' := X
  obtain ⟨x0, x1, x2⟩ := X'
  have key : ∀ (m : Nat) (j : Int), 0 ≤ j → 6 = j + m → t4_isKeyword_x2 2 10 i p j x = some (n_kwN (m_g h 11) p e i m j, x) := by
    intro m
    induction m with
    | zero =>
      intro j j0 em
      rw [t4_isKeyword_x2, if_pos rfl, if_neg (by rw [m_w_of (by omega) (by omega)]; omega), n_kwN]
    | succ m ih =>
      intro j j0 em
      have sc := n_sc_b (c := -2) (i := 6 * i + j) (by omega) (by omega) (by omega) (by omega)
      rw [t4_isKeyword_x2, if_pos rfl, m_w_of (x := j) (by omega) (by omega), if_pos (by omega), n_bs]
      rw [m_w_of (x := 6 * i + j) (by omega) (by omega), if_neg (by omega), if_pos (by omega), n_sl2, m_w_of (x := 144) (by omega) (by omega), if_pos (by omega), if_pos ⟨by omega, by omega, by omega⟩, n_bs, if_pos (n_t10 S.1.2), m_w_of (x := p + j) (by omega) (by omega), e6]
      rw [m_w_of (x := m_sc (-2) (6 * i + j)) (by omega) (by omega), n_kwN]
      by_cases c : p + j < e
      · have b := x2 (p + j) (by omega) (by omega)
        rw [m_w_of (x := e) (by omega) (by omega), if_pos c, n_byteC X S (by omega) (by omega), n_bs]
        dsimp only
        rw [m_w_of (x := m_g h 11 (p + j)) (by omega) (by omega)]
        by_cases d : m_sc (-2) (6 * i + j) = m_g h 11 (p + j)
        · rw [if_pos d, if_pos (by rw [if_pos c]; exact d)]
          exact ih (j + 1) (by omega) (by omega)
        · rw [if_neg d, if_neg (by rw [if_pos c]; exact d)]
      · rw [m_w_of (x := e) (by omega) (by omega), if_neg c]
        by_cases d : m_sc (-2) (6 * i + j) = 32
        · rw [if_pos d, if_pos (by rw [if_neg c]; exact d)]
          exact ih (j + 1) (by omega) (by omega)
        · rw [if_neg d, if_neg (by rw [if_neg c]; exact d)]
  unfold t4_isKeyword
  exact key 6 0 (by omega) (by omega)
/-- the first keyword from i on, of m, that stands from p to e -/
def n_kwF (b : Int → Int) (p e : Int) : Nat → Int → Int
  | 0, _ => -1
  | m + 1, i => if n_kwN b p e i 6 0 = true then i else n_kwF b p e m (i + 1)
def n_kdW (b : Int → Int) (p e : Int) : Int := if 6 < e - p then 26 else if n_kwF b p e 24 0 = -1 then 24 else n_kwF b p e 24 0
theorem n_kwF_b (b : Int → Int) (p e : Int) : ∀ (m : Nat) (i : Int), 0 ≤ i → n_kwF b p e m i = -1 ∨ (i ≤ n_kwF b p e m i ∧ n_kwF b p e m i < i + m)
  | 0, i, _ => Or.inl rfl
  | m + 1, i, i0 => by
    have := n_kwF_b b p e m (i + 1) (by omega)
    unfold n_kwF
    by_cases c : n_kwN b p e i 6 0 = true
    · rw [if_pos c]; omega
    · rw [if_neg c]; omega
theorem n_readWordC {h x : m_H} (X : n_txC h) (S : n_tkC h x) {c p : Int} (ec : m_g x 10 5 = c) (c0 : 0 ≤ c) (c1 : c < 1201) (p0 : 0 ≤ p) (p1 : p < m_g h 10 1) (e6 : m_g x 10 6 = p + 1) : ∃ x' v, t4_readWord 10 p x = some ((), x') ∧ n_came h x x' c p (n_kdW (m_g h 11) p (n_past n_lt (m_g h 11) (m_g h 10 1 - (p + 1)).toNat (p + 1))) v (n_past n_lt (m_g h 11) (m_g h 10 1 - (p + 1)).toNat (p + 1)) ∧ (n_past n_lt (m_g h 11) (m_g h 10 1 - (p + 1)).toNat (p + 1) - p ≤ 6 → v = n_cdN (m_g h 11) (m_g h 10 1 - (p + 1)).toNat (p + 1) (m_g h 11 p - 97 + 1)) := by
  have X' := X
  obtain ⟨x0, x1, x2⟩ := X'
  have pb := n_past_b n_lt (m_g h 11) (m_g h 10 1 - (p + 1)).toNat (p + 1)
  have xx : m_p x 10 6 (p + 1) = x := by
    refine n_ext rfl fun b j => ?_
    rw [m_g_p]
    by_cases z : b = 10 ∧ j = 6
    · rw [if_pos z, z.1, z.2, e6]
    · rw [if_neg z]
  have k := n_wordCodeC X S (p := p) (m_g h 10 1 - (p + 1)).toNat (p + 1) (m_g h 11 p - 97 + 1) (by omega) (by omega)
  rw [xx] at k
  generalize hcd : n_cdN (m_g h 11) (m_g h 10 1 - (p + 1)).toNat (p + 1) (m_g h 11 p - 97 + 1) = cd at *
  generalize n_past n_lt (m_g h 11) (m_g h 10 1 - (p + 1)).toNat (p + 1) = e at *
  obtain ⟨S6, a1, a2, a3⟩ := n_tkC_6 S e
  have head : t4_readWord 10 p x = t4_readWord_c67 10 p cd (m_p x 10 6 e) := by
    unfold t4_readWord
    rw [if_pos (n_t10 S.1.2), n_byteC X S p0 p1, n_bs]
    dsimp only
    rw [n_bs, k]
  unfold n_kdW
  by_cases c6 : 6 < e - p
  · obtain ⟨x', f1, r⟩ := n_cameC (p := p) (kd := 26) (v := -1) (e := e) S ec c0 c1
    refine ⟨x', -1, ?_, by rw [if_pos c6]; exact r, fun z => by omega⟩
    rw [head, t4_readWord_c67, if_pos (n_t10 S6.1.2), a1, m_w_of (x := e - p) (by omega) (by omega), if_pos c6, f1, n_bs]
  · have e123 : ∀ v3, -1 ≤ v3 → v3 < 24 → ∃ x', t4_readWord_c123 10 p cd v3 (m_p x 10 6 e) = some ((), x') ∧ n_came h x x' c p (if v3 = -1 then 24 else v3) cd e := fun v3 w0 w1 => by
      obtain ⟨x', f1, r⟩ := n_cameC (p := p) (kd := if v3 = -1 then 24 else v3) (v := cd) (e := e) S ec c0 c1
      refine ⟨x', ?_, r⟩
      unfold t4_readWord_c123
      rw [m_w_of (x := v3) (by omega) (by omega)]
      by_cases z : v3 = -1
      · rw [if_pos z] at f1
        rw [if_pos z, if_pos (n_t10 S6.1.2), f1, n_bs]
      · rw [if_neg z] at f1
        rw [if_neg z, if_pos (n_t10 S6.1.2), f1, n_bs]
    have stop : ∀ v3 i, 0 ≤ v3 → v3 < 24 → 0 ≤ i → i ≤ 24 → t4_readWord_c92 10 p cd v3 i (m_p x 10 6 e) = t4_readWord_c123 10 p cd v3 (m_p x 10 6 e) := fun v3 i w0 w1 i0 i1 => by
      rw [t4_readWord_c92, m_w_of (x := i) (by omega) (by omega), m_w_of (x := v3) (by omega) (by omega), if_neg (show ¬ v3 = -1 by omega)]
      split <;> rfl
    have loop : ∀ (m : Nat) (i : Int), 0 ≤ i → 24 = i + m → t4_readWord_c92 10 p cd (-1) i (m_p x 10 6 e) = t4_readWord_c123 10 p cd (n_kwF (m_g h 11) p e m i) (m_p x 10 6 e) := by
      intro m
      induction m with
      | zero =>
        intro i i0 em
        rw [t4_readWord_c92, m_w_of (x := i) (by omega) (by omega), if_neg (by omega), n_kwF]
      | succ m ih =>
        intro i i0 em
        rw [t4_readWord_c92, m_w_of (x := i) (by omega) (by omega), if_pos (by omega), m_w_of (x := -1) (by omega) (by omega), if_pos rfl, if_pos (n_t10 S6.1.2), n_kwC X S6 a1 (by omega) (by omega) p0 (by omega) i0 (by omega), n_bs, n_kwF]
        dsimp only
        by_cases q : n_kwN (m_g h 11) p e i 6 0 = true
        · rw [if_pos q, if_pos q]
          exact stop i (i + 1) i0 (by omega) (by omega) (by omega)
        · rw [if_neg q, if_neg q]
          exact ih (i + 1) (by omega) (by omega)
    have fb := n_kwF_b (m_g h 11) p e 24 0 (by omega)
    obtain ⟨x', f1, r⟩ := e123 (n_kwF (m_g h 11) p e 24 0) (by omega) (by omega)
    refine ⟨x', cd, ?_, by rw [if_neg c6]; exact r, fun _ => rfl⟩
    rw [head, t4_readWord_c67, if_pos (n_t10 S6.1.2), a1, m_w_of (x := e - p) (by omega) (by omega), if_neg c6, loop 24 0 (by omega) (by omega)]
    exact f1
