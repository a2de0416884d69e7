/-! CALLS: fault, score: the component's numbers and words -/
theorem n_p_again {h : m_H} {a k v w : Int} : m_p (m_p h a k v) a k w = m_p h a k w := by
  refine n_ext rfl fun b j => ?_
  rw [m_g_p, m_g_p, m_g_p]
  by_cases c : b = a ∧ j = k
  · rw [if_pos c, if_pos c]
  · rw [if_neg c, if_neg c, if_neg c]
theorem n_tkC_6 {h x : m_H} (S : n_tkC h x) (e : Int) : n_tkC h (m_p x 10 6 e) ∧ m_g (m_p x 10 6 e) 10 6 = e ∧ m_g (m_p x 10 6 e) 10 5 = m_g x 10 5 ∧ ∀ b j, b ≠ 10 → m_g (m_p x 10 6 e) b j = m_g x b j := by
  obtain ⟨I, s2, s3⟩ := S
  exact ⟨⟨n_I_p I (by rw [n_t10 I.2]; omega) (by rw [n_t10 I.2]; omega) rfl, s2, fun b j h1 h2 => by rw [n_gp_n (by omega)]; exact s3 b j h1 h2⟩, n_gp_y ⟨rfl, rfl⟩, n_gp_n (by omega), fun b j hb => n_gp_n (by omega)⟩
/-- token c has come: begin p, kind kd, value v; the reading goes on at e -/
def n_came (h x x' : m_H) (c p kd v e : Int) : Prop := n_tkC h x' ∧ m_g x' 10 5 = c + 1 ∧ m_g x' 10 6 = e ∧ (m_g x' 12 c = p ∧ m_g x' 13 c = kd ∧ m_g x' 14 c = v) ∧ ∀ i, i ≠ c → m_g x' 12 i = m_g x 12 i ∧ m_g x' 13 i = m_g x 13 i ∧ m_g x' 14 i = m_g x 14 i
theorem n_cameC {h x : m_H} (S : n_tkC h x) {c p kd v e : Int} (ec : m_g x 10 5 = c) (c0 : 0 ≤ c) (c1 : c < 1201) : ∃ x', t4_addToken 10 p kd v (m_p x 10 6 e) = some ((), x') ∧ n_came h x x' c p kd v e := by
  obtain ⟨S6, a1, a2, a3⟩ := n_tkC_6 S e
  obtain ⟨x', e1, S', b1, b2, b3, b4⟩ := n_addC (p := p) (kd := kd) (v := v) S6 (a2.trans ec) c0 c1
  exact ⟨x', e1, S', b1, b2.trans a1, b3, fun i hi => by
    obtain ⟨q1, q2, q3⟩ := b4 i hi
    exact ⟨q1.trans (a3 _ _ (by omega)), q2.trans (a3 _ _ (by omega)), q3.trans (a3 _ _ (by omega))⟩⟩
theorem n_readNumC {h x : m_H} (X : n_txC h) (S : n_tkC h x) {c p : Int} (ec : m_g x 10 5 = c) (c0 : 0 ≤ c) (c1 : c < 1201) (p0 : 0 ≤ p) (p1 : p < m_g h 10 1) (e6 : m_g x 10 6 = p + 1) (dg : n_dg (m_g h 11 p) = true) : ∃ x', t4_readNumber 10 p x = some ((), x') ∧ n_came h x x' c p 25 (n_vlC (m_g h 11) (m_g h 10 1 - (p + 1)).toNat (p + 1) (m_g h 11 p - 48)) (n_past n_dg (m_g h 11) (m_g h 10 1 - (p + 1)).toNat (p + 1)) := by
  have X' := X
  obtain ⟨x0, x1, x2⟩ := X'
  have d := of_decide_eq_true dg
  have key : ∀ (m : Nat) (e v : Int), 0 ≤ e → m_g h 10 1 = e + m → 0 ≤ v → v ≤ 1000000 → t4_readNumber_c9 10 p v (m_p x 10 6 e) = t4_readNumber_c69 10 p (n_vlC (m_g h 11) m e v) (m_p x 10 6 (n_past n_dg (m_g h 11) m e)) := by
    intro m
    induction m with
    | zero =>
      intro e v e0 em v0 v1
      obtain ⟨S6, a1, a2, a3⟩ := n_tkC_6 S e
      rw [t4_readNumber_c9, if_pos (n_t10 S6.1.2), a1, S6.2.2 10 1 (by omega) (by omega), if_neg (by rw [em]; simp), n_past, n_vlC]
    | succ m ih =>
      intro e v e0 em v0 v1
      obtain ⟨S6, a1, a2, a3⟩ := n_tkC_6 S e
      have b := x2 e e0 (by omega)
      rw [t4_readNumber_c9, if_pos (n_t10 S6.1.2), a1, S6.2.2 10 1 (by omega) (by omega), m_w_of (x := e) (by omega) (by omega), m_w_of (x := m_g h 10 1) (by omega) (by omega), if_pos (by omega), n_byteC X S6 e0 (by omega), n_bs]
      dsimp only
      rw [n_isDigitC _ _ (by omega) (by omega), n_bs, n_past, n_vlC]
      dsimp only
      by_cases q : n_dg (m_g h 11 e) = true
      · have dd := of_decide_eq_true q
        rw [if_pos q, if_pos q, if_pos q, if_pos (n_t10 S6.1.2), a1, n_byteC X S6 e0 (by omega), n_bs]
        dsimp only
        rw [n_min (by omega) (by omega) (by omega) (by omega), n_bs, if_pos (n_t10 S6.1.2), a1, n_bs, n_p_again]
        exact ih (e + 1) _ (by omega) (by omega) (by omega) (by omega)
      · rw [if_neg q, if_neg q, if_neg q]
  have xx : m_p x 10 6 (p + 1) = x := by
    refine n_ext rfl fun b j => ?_
    rw [m_g_p]
    by_cases z : b = 10 ∧ j = 6
    · rw [if_pos z, z.1, z.2, e6]
    · rw [if_neg z]
  have k := key (m_g h 10 1 - (p + 1)).toNat (p + 1) (m_g h 11 p - 48) (by omega) (by omega) (by omega) (by omega)
  rw [xx] at k
  obtain ⟨x', e1, r⟩ := n_cameC (p := p) (kd := 25) (v := n_vlC (m_g h 11) (m_g h 10 1 - (p + 1)).toNat (p + 1) (m_g h 11 p - 48)) (e := n_past n_dg (m_g h 11) (m_g h 10 1 - (p + 1)).toNat (p + 1)) S ec c0 c1
  have S6 := (n_tkC_6 S (n_past n_dg (m_g h 11) (m_g h 10 1 - (p + 1)).toNat (p + 1))).1
  refine ⟨x', ?_, r⟩
  unfold t4_readNumber
  rw [if_pos (n_t10 S.1.2), n_byteC X S p0 p1, n_bs]
  dsimp only
  rw [n_bs, k]
  unfold t4_readNumber_c69
  rw [if_pos (n_t10 S6.1.2), e1, n_bs]
/-- a word's code -/
def n_cdN (b : Int → Int) : Nat → Int → Int → Int
  | 0, _, v => v
  | m + 1, p, v => if n_lt (b p) = true then n_cdN b m (p + 1) (m_or (m_shl v 5) (b p - 97 + 1)) else v
theorem n_wordCodeC {h x : m_H} (X : n_txC h) (S : n_tkC h x) {p : Int} : ∀ (m : Nat) (e v : Int), 0 ≤ e → m_g h 10 1 = e + m → t4_readWord_c11 10 p v (m_p x 10 6 e) = t4_readWord_c67 10 p (n_cdN (m_g h 11) m e v) (m_p x 10 6 (n_past n_lt (m_g h 11) m e)) := by
  have X' := X
  obtain ⟨x0, x1, x2⟩ := X'
  intro m
  induction m with
  | zero =>
    intro e v e0 em
    obtain ⟨S6, a1, a2, a3⟩ := n_tkC_6 S e
    rw [t4_readWord_c11, if_pos (n_t10 S6.1.2), a1, S6.2.2 10 1 (by omega) (by omega), if_neg (by rw [em]; simp), n_past, n_cdN]
  | succ m ih =>
    intro e v e0 em
    obtain ⟨S6, a1, a2, a3⟩ := n_tkC_6 S e
    have b := x2 e e0 (by omega)
    rw [t4_readWord_c11, if_pos (n_t10 S6.1.2), a1, S6.2.2 10 1 (by omega) (by omega), m_w_of (x := e) (by omega) (by omega), m_w_of (x := m_g h 10 1) (by omega) (by omega), if_pos (by omega), n_byteC X S6 e0 (by omega), n_bs]
    dsimp only
    rw [n_isLetterC _ _ (by omega) (by omega), n_bs, n_past, n_cdN]
    dsimp only
    by_cases q : n_lt (m_g h 11 e) = true
    · rw [if_pos q, if_pos q, if_pos q, if_pos (n_t10 S6.1.2), a1, n_byteC X S6 e0 (by omega), n_bs]
      dsimp only
      rw [n_bs, if_pos (n_t10 S6.1.2), a1, n_bs, n_p_again]
      exact ih (e + 1) _ (by omega) (by omega)
    · rw [if_neg q, if_neg q, if_neg q]
/-- keyword i stands from p to e -/
def n_kwN (b : Int → Int) (p e i : Int) : Nat → Int → Bool
  | 0, _ => true
  | m + 1, j => if (if p + j < e then m_sc (-2) (6 * i + j) = b (p + j) else m_sc (-2) (6 * i + j) = 32) then n_kwN b p e i m (j + 1) else false
