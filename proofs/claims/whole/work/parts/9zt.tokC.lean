/-! CALLS: fault, score: the component reads tokens -/
def n_tkC (h x : m_H) : Prop := n_I x ∧ x.2 = h.2 ∧ ∀ b j, ¬ (b = 12 ∨ b = 13 ∨ b = 14) → ¬ (b = 10 ∧ (j = 5 ∨ j = 6)) → m_g x b j = m_g h b j
/-- the component's text -/
def n_txC (h : m_H) : Prop := 0 ≤ m_g h 10 1 ∧ m_g h 10 1 ≤ 1200 ∧ ∀ j, 0 ≤ j → j < m_g h 10 1 → 0 ≤ m_g h 11 j ∧ m_g h 11 j ≤ 255
theorem n_byteC {h x : m_H} (X : n_txC h) (S : n_tkC h x) {p : Int} (p0 : 0 ≤ p) (p1 : p < m_g h 10 1) : t4_byteAt 10 p x = some (m_g h 11 p, x) := by
  obtain ⟨x0, x1, x2⟩ := X
  obtain ⟨I, s2, e⟩ := S
  have l := n_l11 I.2
  unfold t4_byteAt
  rw [m_w_of (x := p) (by omega) (by omega), if_neg (by omega), if_pos (n_t10 I.2), e 10 1 (by omega) (by omega), m_w_of (x := m_g h 10 1) (by omega) (by omega), if_pos p1, n_p10_0 I.2, if_pos (by rw [n_t11 I.2]; omega), l, m_w_of (x := 1200) (by omega) (by omega), if_pos (by omega), if_pos ⟨n_t11 I.2, p0, by omega⟩, e 11 p (by omega) (by omega)]
theorem n_isLetterC (x : Int) (h : m_H) (x1 : -128 ≤ x) (x2 : x < 256) : t4_isLetter x h = some (n_lt x, h) := by
  unfold t4_isLetter n_lt
  rw [m_w_of (x := x) (by omega) (by omega)]
  by_cases c : x < 97
  · rw [if_pos c, decide_eq_false (by omega)]
  · rw [if_neg c]
    by_cases d : 122 < x
    · rw [if_pos d, decide_eq_false (by omega)]
    · rw [if_neg d, decide_eq_true (by omega)]
theorem n_isDigitC (x : Int) (h : m_H) (x1 : -128 ≤ x) (x2 : x < 256) : t4_isDigit x h = some (n_dg x, h) := by
  unfold t4_isDigit n_dg
  rw [m_w_of (x := x) (by omega) (by omega)]
  by_cases c : x < 48
  · rw [if_pos c, decide_eq_false (by omega)]
  · rw [if_neg c]
    by_cases d : 57 < x
    · rw [if_pos d, decide_eq_false (by omega)]
    · rw [if_neg d, decide_eq_true (by omega)]
def n_sgn (x : Int) : Bool := decide (x = 61 ∨ x = 59 ∨ x = 47 ∨ x = 123 ∨ x = 125)
theorem n_isSignC (x : Int) (h : m_H) (x1 : -128 ≤ x) (x2 : x < 256) : t4_isSign x h = some (n_sgn x, h) := by
  unfold t4_isSign n_sgn
  rw [m_w_of (x := x) (by omega) (by omega)]
  by_cases a : x = 61
  · rw [if_pos a, decide_eq_true (by omega)]
  rw [if_neg a]
  by_cases b : x = 59
  · rw [if_pos b, decide_eq_true (by omega)]
  rw [if_neg b]
  by_cases c : x = 47
  · rw [if_pos c, decide_eq_true (by omega)]
  rw [if_neg c]
  by_cases d : x = 123
  · rw [if_pos d, decide_eq_true (by omega)]
  rw [if_neg d]
  by_cases e : x = 125
  · rw [if_pos e, decide_eq_true (by omega)]
  rw [if_neg e, decide_eq_false (by omega)]
/-- token c is written -/
theorem n_addC {h x : m_H} (S : n_tkC h x) {c p kd v : Int} (ec : m_g x 10 5 = c) (c0 : 0 ≤ c) (c1 : c < 1201) : ∃ x', t4_addToken 10 p kd v x = some ((), x') ∧ n_tkC h x' ∧ m_g x' 10 5 = c + 1 ∧ m_g x' 10 6 = m_g x 10 6 ∧ (m_g x' 12 c = p ∧ m_g x' 13 c = kd ∧ m_g x' 14 c = v) ∧ ∀ i, i ≠ c → m_g x' 12 i = m_g x 12 i ∧ m_g x' 13 i = m_g x 13 i ∧ m_g x' 14 i = m_g x 14 i := by
  obtain ⟨I, s2, e⟩ := S
  have J1 : n_I (m_p x 12 c p) := n_I_pa I (Or.inl (n_t12 I.2))
  have J2 : n_I (m_p (m_p x 12 c p) 13 c kd) := n_I_pa J1 (Or.inl (n_t13 J1.2))
  have J3 : n_I (m_p (m_p (m_p x 12 c p) 13 c kd) 14 c v) := n_I_pa J2 (Or.inl (n_t14 J2.2))
  have J4 : n_I (m_p (m_p (m_p (m_p x 12 c p) 13 c kd) 14 c v) 10 5 (c + 1)) := n_I_p J3 (by rw [n_t10 J3.2]; omega) (by rw [n_t10 J3.2]; omega) rfl
  have l1 := n_l12 I.2
  have l2 := n_l13 J1.2
  have l3 := n_l14 J2.2
  have f1 : m_g (m_p x 12 c p) 10 5 = c := by rw [n_gp_n (by omega)]; exact ec
  have f2 : m_g (m_p (m_p x 12 c p) 13 c kd) 10 5 = c := by rw [n_gp_n (by omega)]; exact f1
  have f3 : m_g (m_p (m_p (m_p x 12 c p) 13 c kd) 14 c v) 10 5 = c := by rw [n_gp_n (by omega)]; exact f2
  refine ⟨_, ?_, ⟨J4, s2, fun b j h1 h2 => by rw [n_gp_n (by omega), n_gp_n (by omega), n_gp_n (by omega), n_gp_n (by omega)]; exact e b j h1 h2⟩, n_gp_y ⟨rfl, rfl⟩, by rw [n_gp_n (by omega), n_gp_n (by omega), n_gp_n (by omega), n_gp_n (by omega)], ⟨by rw [n_gp_n (by omega), n_gp_n (by omega), n_gp_n (by omega), n_gp_y ⟨rfl, rfl⟩], by rw [n_gp_n (by omega), n_gp_n (by omega), n_gp_y ⟨rfl, rfl⟩], by rw [n_gp_n (by omega), n_gp_y ⟨rfl, rfl⟩]⟩, fun i hi => ⟨by rw [n_gp_n (by omega), n_gp_n (by omega), n_gp_n (by omega), n_gp_n (by omega)], by rw [n_gp_n (by omega), n_gp_n (by omega), n_gp_n (by omega), n_gp_n (by omega)], by rw [n_gp_n (by omega), n_gp_n (by omega), n_gp_n (by omega), n_gp_n (by omega)]⟩⟩
  unfold t4_addToken
  rw [if_pos (n_t10 I.2), n_p10_2 I.2, ec, n_setEntry_y (n_t12 I.2) (by omega) c0 (by omega), n_bs]
  dsimp only
  rw [if_pos (n_t10 J1.2), n_p10_3 J1.2, f1, n_setEntry_y (n_t13 J1.2) (by omega) c0 (by omega), n_bs]
  dsimp only
  rw [if_pos (n_t10 J2.2), n_p10_4 J2.2, f2, n_setEntry_y (n_t14 J2.2) (by omega) c0 (by omega), n_bs]
  dsimp only
  rw [if_pos (n_t10 J3.2), f3, n_bs]
/-- the number at p as the component reads it, from the value v on -/
def n_vlC (b : Int → Int) : Nat → Int → Int → Int
  | 0, _, v => v
  | m + 1, p, v => if n_dg (b p) = true then n_vlC b m (p + 1) (min 1000000 (v * 10 + b p - 48)) else v
/-- both read the same number, if it is small -/
theorem n_vl_CR (b : Int → Int) : ∀ (m : Nat) (p v w : Int), (v = w ∨ (99999 < v ∧ 99999 < w)) → 0 ≤ v → v ≤ 1000000 → 0 ≤ w → w ≤ 1000000 → (n_vlC b m p v = n_vlR b m p w ∨ (99999 < n_vlC b m p v ∧ 99999 < n_vlR b m p w))
  | 0, p, v, w, h, _, _, _, _ => h
  | m + 1, p, v, w, h, v0, v1, w0, w1 => by
    unfold n_vlC n_vlR
    by_cases c : n_dg (b p) = true
    · have d := of_decide_eq_true c
      rw [if_pos c, if_pos c]
      refine n_vl_CR b m (p + 1) _ _ ?_ (by omega) (by omega) ?_ ?_
      · by_cases q : 99999 < w
        · rw [if_pos q]
          by_cases z : v = w
          · right; omega
          · right; omega
        · rw [if_neg q]
          left; omega
      · split <;> omega
      · split <;> omega
    · rw [if_neg c, if_neg c]
      exact h
