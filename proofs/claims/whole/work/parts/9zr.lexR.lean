/-! CALLS: fault, score: the reference reads the text -/
def n_bl (x : Int) : Bool := decide (x = 32 ∨ x = 10)
def n_lt (x : Int) : Bool := decide (97 ≤ x ∧ x ≤ 122)
def n_dg (x : Int) : Bool := decide (48 ≤ x ∧ x ≤ 57)
/-- the first place from p on, of m places, that is none of these -/
def n_past (c : Int → Bool) (b : Int → Int) : Nat → Int → Int
  | 0, p => p
  | m + 1, p => if c (b p) = true then n_past c b m (p + 1) else p
theorem n_past_b (c : Int → Bool) (b : Int → Int) : ∀ (m : Nat) (p : Int), p ≤ n_past c b m p ∧ n_past c b m p ≤ p + m
  | 0, p => by unfold n_past; omega
  | m + 1, p => by
    have := n_past_b c b m (p + 1)
    unfold n_past
    split <;> omega
/-- behind the blanks from p on; the end of the word there; the end of the number there (texts of n bytes) -/
def n_sk (b : Int → Int) (n p : Int) : Int := n_past n_bl b (n - p).toNat p
def n_we (b : Int → Int) (n p : Int) : Int := n_past n_lt b (n - p).toNat p
def n_ne (b : Int → Int) (n p : Int) : Int := n_past n_dg b (n - p).toNat p
theorem n_past_s {c : Int → Bool} {b : Int → Int} {n p : Int} (h : p < n) : n_past c b (n - p).toNat p = if c (b p) = true then n_past c b (n - (p + 1)).toNat (p + 1) else p := by
  rw [show (n - p).toNat = (n - (p + 1)).toNat + 1 by omega, n_past]
theorem n_past_e {c : Int → Bool} {b : Int → Int} {n p : Int} (h : n ≤ p) : n_past c b (n - p).toNat p = p := by
  rw [show (n - p).toNat = 0 by omega, n_past]
/-- the text that the reference reads -/
def n_tx (g : m_H) : Prop := n_I g ∧ 0 ≤ m_g g 127 30 ∧ m_g g 127 30 ≤ 1200 ∧ ∀ j, 0 ≤ j → j < m_g g 127 30 → -128 ≤ m_g g 150 j ∧ m_g g 150 j < 128
theorem n_h2_I {g : m_H} (I : n_I g) (p e : Int) : n_I (n_h2 g 127 31 32 p e) := by
  rw [← n_h2_pp (h := g) (a := 127) (i1 := 31) (i2 := 32) (o := p) (x := e) (by omega)]
  have J : n_I (m_p g 127 31 p) := n_I_p I (by rw [n_t127 I.2]; omega) (by rw [n_t127 I.2]; omega) rfl
  exact n_I_p J (by rw [n_t127 J.2]; omega) (by rw [n_t127 J.2]; omega) rfl
theorem n_isLetterR (x : Int) (h : m_H) (x1 : -128 ≤ x) (x2 : x < 256) : t11_isLetter x h = some (n_lt x, h) := by
  unfold t11_isLetter n_lt
  rw [m_w_of (x := x) (by omega) (by omega)]
  by_cases c : x < 97
  · rw [if_pos c, decide_eq_false (by omega)]
  · rw [if_neg c]
    by_cases d : 122 < x
    · rw [if_pos d, decide_eq_false (by omega)]
    · rw [if_neg d, decide_eq_true (by omega)]
theorem n_isDigitR (x : Int) (h : m_H) (x1 : -128 ≤ x) (x2 : x < 256) : t11_isDigit x h = some (n_dg x, h) := by
  unfold t11_isDigit n_dg
  rw [m_w_of (x := x) (by omega) (by omega)]
  by_cases c : x < 48
  · rw [if_pos c, decide_eq_false (by omega)]
  · rw [if_neg c]
    by_cases d : 57 < x
    · rw [if_pos d, decide_eq_false (by omega)]
    · rw [if_neg d, decide_eq_true (by omega)]
theorem n_skips60 {g : m_H} (X : n_tx g) {p : Int} (p0 : 0 ≤ p) : ∀ (m : Nat) (e : Int), p ≤ e → m_g g 127 30 = e + m → t11_skips_c60 127 (n_h2 g 127 31 32 p e) = some ((), n_h2 g 127 31 32 p (n_past n_lt (m_g g 150) m e)) := by
  obtain ⟨I, n0, n1, bb⟩ := X
  intro m
  induction m with
  | zero =>
    intro e pe em
    have J := n_h2_I I p e
    obtain ⟨v1, v2⟩ := n_h2_1 (h := g) (a := 127) (i1 := 31) (i2 := 32) (o := p) (x := e) (by omega)
    rw [t11_skips_c60, if_pos (n_t127 J.2), v2, n_h2_o (Or.inr ⟨by omega, by omega⟩), if_neg (by rw [em]; simp), n_past]
  | succ m ih =>
    intro e pe em
    have J := n_h2_I I p e
    obtain ⟨v1, v2⟩ := n_h2_1 (h := g) (a := 127) (i1 := 31) (i2 := 32) (o := p) (x := e) (by omega)
    have l := n_l150 J.2
    have w : ∀ j, m_g (n_h2 g 127 31 32 p e) 150 j = m_g g 150 j := fun j => n_h2_o (Or.inl (by omega))
    have b := bb e (by omega) (by omega)
    rw [t11_skips_c60, if_pos (n_t127 J.2), v2, n_h2_o (Or.inr ⟨by omega, by omega⟩), m_w_of (x := e) (by omega) (by omega), m_w_of (x := m_g g 127 30) (by omega) (by omega), if_pos (by omega), n_p127_29 J.2, if_pos ⟨n_t150 J.2, by omega, by omega⟩, w, n_isLetterR _ _ b.1 (by omega), n_bs, n_past]
    dsimp only
    by_cases c : n_lt (m_g g 150 e) = true
    · rw [if_pos c, if_pos c, if_pos (n_t127 J.2), n_bs, v2, n_h2_p2 (by omega)]
      exact ih (e + 1) (by omega) (by omega)
    · rw [if_neg c, if_neg c]
theorem n_skipsR {g : m_H} (X : n_tx g) : ∀ (m : Nat) (q e : Int), 0 ≤ q → m_g g 127 30 = q + m → t11_skips 127 (n_h2 g 127 31 32 q e) = some ((), n_h2 g 127 31 32 (n_past n_bl (m_g g 150) m q) (n_we (m_g g 150) (m_g g 127 30) (n_past n_bl (m_g g 150) m q))) := by
  have X' := X
  obtain ⟨I, n0, n1, bb⟩ := X'
  have c52 : ∀ (q e : Int), 0 ≤ q → q ≤ m_g g 127 30 → t11_skips_c52 127 (n_h2 g 127 31 32 q e) = some ((), n_h2 g 127 31 32 q (n_we (m_g g 150) (m_g g 127 30) q)) := fun q e q0 q1 => by
    have J := n_h2_I I q e
    obtain ⟨v1, v2⟩ := n_h2_1 (h := g) (a := 127) (i1 := 31) (i2 := 32) (o := q) (x := e) (by omega)
    unfold t11_skips_c52
    rw [if_pos (n_t127 J.2), v1, n_h2_p2 (by omega), n_bs]
    exact n_skips60 X q0 (m_g g 127 30 - q).toNat q (Int.le_refl _) (by omega)
  intro m
  induction m with
  | zero =>
    intro q e q0 em
    have J := n_h2_I I q e
    obtain ⟨v1, v2⟩ := n_h2_1 (h := g) (a := 127) (i1 := 31) (i2 := 32) (o := q) (x := e) (by omega)
    unfold t11_skips
    rw [t11_skips_x0, if_pos rfl, if_pos (n_t127 J.2), v1, n_h2_o (Or.inr ⟨by omega, by omega⟩), if_neg (by rw [em]; simp), n_past]
    exact c52 q e q0 (by omega)
  | succ m ih =>
    intro q e q0 em
    have J := n_h2_I I q e
    obtain ⟨v1, v2⟩ := n_h2_1 (h := g) (a := 127) (i1 := 31) (i2 := 32) (o := q) (x := e) (by omega)
    have l := n_l150 J.2
    have w : ∀ j, m_g (n_h2 g 127 31 32 q e) 150 j = m_g g 150 j := fun j => n_h2_o (Or.inl (by omega))
    have b := bb q (by omega) (by omega)
    have e39 : t11_skips_x0 39 127 (n_h2 g 127 31 32 q e) = t11_skips_x0 0 127 (n_h2 g 127 31 32 (q + 1) e) := by
      rw [t11_skips_x0, if_neg (by omega), if_pos rfl, if_pos (n_t127 J.2), n_bs, v1, n_h2_p1]
    have nx := ih (q + 1) e (by omega) (by omega)
    unfold t11_skips at nx ⊢
    rw [t11_skips_x0, if_pos rfl, if_pos (n_t127 J.2), v1, n_h2_o (Or.inr ⟨by omega, by omega⟩), m_w_of (x := q) (by omega) (by omega), m_w_of (x := m_g g 127 30) (by omega) (by omega), if_pos (by omega), n_p127_29 J.2, if_pos ⟨n_t150 J.2, by omega, by omega⟩, w, m_w_of (x := m_g g 150 q) (by omega) (by omega), n_past]
    unfold n_bl
    by_cases c : m_g g 150 q = 32
    · rw [if_pos c, e39, decide_eq_true (by omega), if_pos rfl]
      exact nx
    · rw [if_neg c]
      by_cases d : m_g g 150 q = 10
      · rw [if_pos d, e39, decide_eq_true (by omega), if_pos rfl]
        exact nx
      · rw [if_neg d, decide_eq_false (by omega), if_neg (by decide)]
        exact c52 q e q0 (by omega)
/-- the reference stands at the token that begins at p -/
def n_atR (g : m_H) (p : Int) : m_H := n_h2 g 127 31 32 p (n_we (m_g g 150) (m_g g 127 30) p)
theorem n_goesR {g : m_H} (X : n_tx g) {p e : Int} (e0 : 0 ≤ e) (e1 : e ≤ m_g g 127 30) : t11_goesOn 127 (n_h2 g 127 31 32 p e) = some ((), n_atR g (n_sk (m_g g 150) (m_g g 127 30) e)) := by
  have J := n_h2_I X.1 p e
  obtain ⟨v1, v2⟩ := n_h2_1 (h := g) (a := 127) (i1 := 31) (i2 := 32) (o := p) (x := e) (by omega)
  have J2 := n_h2_I X.1 e e
  unfold t11_goesOn
  rw [if_pos (n_t127 J.2), v2, n_h2_p1, n_bs, if_pos (n_t127 J2.2), n_skipsR X (m_g g 127 30 - e).toNat e e e0 (by omega), n_bs]
  rfl
