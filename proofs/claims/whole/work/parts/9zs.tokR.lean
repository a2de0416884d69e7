/-! CALLS: fault, score: the reference takes a token -/
theorem n_atR_f {g : m_H} {p : Int} : m_g (n_atR g p) 127 31 = p ∧ m_g (n_atR g p) 127 32 = n_we (m_g g 150) (m_g g 127 30) p ∧ ∀ b j, ¬ (b = 127 ∧ (j = 31 ∨ j = 32)) → m_g (n_atR g p) b j = m_g g b j := by
  obtain ⟨v1, v2⟩ := n_h2_1 (h := g) (a := 127) (i1 := 31) (i2 := 32) (o := p) (x := n_we (m_g g 150) (m_g g 127 30) p) (by omega)
  exact ⟨v1, v2, fun b j h => n_h2_o (by omega)⟩
theorem n_atR_I {g : m_H} (I : n_I g) (p : Int) : n_I (n_atR g p) := n_h2_I I _ _
theorem n_we_b {b : Int → Int} {n p : Int} (h : p ≤ n) : p ≤ n_we b n p ∧ n_we b n p ≤ n := by
  have := n_past_b n_lt b (n - p).toNat p
  unfold n_we
  omega
theorem n_sk_b {b : Int → Int} {n p : Int} (h : p ≤ n) : p ≤ n_sk b n p ∧ n_sk b n p ≤ n := by
  have := n_past_b n_bl b (n - p).toNat p
  unfold n_sk
  omega
theorem n_failsR {g : m_H} (X : n_tx g) (f : m_g g 127 33 = -1) (p : Int) : t11_fails 127 (n_atR g p) = some ((), m_p (n_atR g p) 127 33 p) := by
  have J := n_atR_I X.1 p
  obtain ⟨v1, v2, v3⟩ := n_atR_f (g := g) (p := p)
  unfold t11_fails
  rw [if_pos (n_t127 J.2), v3 127 33 (by omega), f, m_w_of (by omega) (by omega), if_pos rfl, v1, n_bs]
theorem n_signR {g : m_H} (X : n_tx g) (f : m_g g 127 33 = -1) {p s : Int} (p0 : 0 ≤ p) (p1 : p ≤ m_g g 127 30) (s0 : 0 ≤ s) (s1 : s < 128) : t11_sign 127 s (n_atR g p) = if p < m_g g 127 30 ∧ m_g g 150 p = s then some ((), n_atR g (n_sk (m_g g 150) (m_g g 127 30) (p + 1))) else some ((), m_p (n_atR g p) 127 33 p) := by
  have X' := X
  obtain ⟨I, n0, n1, bb⟩ := X'
  have J := n_atR_I I p
  obtain ⟨v1, v2, v3⟩ := n_atR_f (g := g) (p := p)
  have l := n_l150 J.2
  unfold t11_sign
  rw [if_pos (n_t127 J.2), v3 127 33 (by omega), f, m_w_of (x := -1) (by omega) (by omega), if_pos rfl, v1, v3 127 30 (by omega), m_w_of (x := p) (by omega) (by omega), m_w_of (x := m_g g 127 30) (by omega) (by omega)]
  by_cases c : p = m_g g 127 30
  · rw [if_pos c, n_failsR X f, n_bs, if_neg (by omega)]
  · have b := bb p p0 (by omega)
    rw [if_neg c, n_p127_29 J.2, if_pos ⟨n_t150 J.2, by omega, by omega⟩, v3 150 p (by omega), m_w_of (x := m_g g 150 p) (by omega) (by omega), m_w_of (x := s) (by omega) (by omega)]
    by_cases d : m_g g 150 p = s
    · have e : m_p (n_atR g p) 127 32 (p + 1) = n_h2 g 127 31 32 p (p + 1) := n_h2_p2 (by omega)
      have J2 := n_h2_I I p (p + 1)
      rw [if_pos d, if_pos ⟨by omega, d⟩, e, n_bs, if_pos (n_t127 J2.2), n_goesR X (by omega) (by omega), n_bs]
    · rw [if_neg d, if_neg (fun z => d z.2), n_failsR X f, n_bs]
/-- the word at p is the text c -/
def n_eqN (b : Int → Int) (p c : Int) : Nat → Int → Bool
  | 0, _ => true
  | m + 1, i => if b (p + i) = m_sc c i then n_eqN b p c m (i + 1) else false
def n_isW (b : Int → Int) (n p c : Int) : Bool := if n_we b n p - p = m_sl c then n_eqN b p c (m_sl c).toNat 0 else false
theorem n_scAll : ((List.range 25).all fun a => decide (m_sl (-((a : Int) + 2)) ≤ 150) && (List.range 150).all fun i => decide (-128 ≤ m_sc (-((a : Int) + 2)) (i : Int) ∧ m_sc (-((a : Int) + 2)) (i : Int) < 128)) = true := by decide +kernel
theorem n_sc_b {c i : Int} (c0 : -26 ≤ c) (c1 : c ≤ -2) (i0 : 0 ≤ i) (i1 : i < 150) : 0 ≤ m_sl c ∧ m_sl c ≤ 150 ∧ -128 ≤ m_sc c i ∧ m_sc c i < 128 := by
  have A := n_scAll
  rw [List.all_eq_true] at A
  have q := A (-c - 2).toNat (List.mem_range.mpr (by omega))
  rw [Bool.and_eq_true, List.all_eq_true, decide_eq_true_eq, show -((((-c - 2).toNat : Nat) : Int) + 2) = c by omega] at q
  have w := of_decide_eq_true (q.2 i.toNat (List.mem_range.mpr (by omega)))
  rw [show ((i.toNat : Nat) : Int) = i by omega] at w
  refine ⟨?_, q.1, w⟩
  unfold m_sl
  omega
theorem n_isWordR {g : m_H} (X : n_tx g) {p c : Int} (p0 : 0 ≤ p) (p1 : p ≤ m_g g 127 30) (c0 : -26 ≤ c) (c1 : c ≤ -2) : t11_isWord 127 c (n_atR g p) = some (n_isW (m_g g 150) (m_g g 127 30) p c, n_atR g p) := by
  obtain ⟨I, n0, n1, bb⟩ := X
  have J := n_atR_I I p
  obtain ⟨v1, v2, v3⟩ := n_atR_f (g := g) (p := p)
  have l := n_l150 J.2
  have w := n_we_b (b := m_g g 150) p1
  have sl := n_sc_b (i := 0) c0 c1 (by omega) (by omega)
  unfold t11_isWord n_isW
  rw [if_pos (n_t127 J.2), if_pos ⟨c0, c1⟩, v1, v2, m_w_of (x := n_we (m_g g 150) (m_g g 127 30) p - p) (by omega) (by omega), m_w_of (x := m_sl c) (by omega) (by omega)]
  by_cases e : n_we (m_g g 150) (m_g g 127 30) p - p = m_sl c
  · rw [if_pos e, if_pos e]
    have key : ∀ (m : Nat) (i : Int), 0 ≤ i → m_sl c = i + m → t11_isWord_c20 127 c i (n_atR g p) = some (n_eqN (m_g g 150) p c m i, n_atR g p) := by
      intro m
      induction m with
      | zero =>
        intro i i0 em
        rw [t11_isWord_c20, if_pos ⟨c0, c1⟩, if_neg (by rw [em]; simp), n_eqN]
      | succ m ih =>
        intro i i0 em
        have b := bb (p + i) (by omega) (by omega)
        have s := n_sc_b (i := i) c0 c1 i0 (by omega)
        rw [t11_isWord_c20, if_pos ⟨c0, c1⟩, m_w_of (x := i) (by omega) (by omega), m_w_of (x := m_sl c) (by omega) (by omega), if_pos (by omega), if_pos (n_t127 J.2), n_p127_29 J.2, v1, m_w_of (x := p + i) (by omega) (by omega), if_pos ⟨n_t150 J.2, by omega, by omega⟩, if_pos ⟨⟨c0, c1⟩, i0, by omega⟩, v3 150 _ (by omega), m_w_of (x := m_g g 150 (p + i)) (by omega) (by omega), m_w_of (x := m_sc c i) (by omega) (by omega), n_eqN]
        by_cases d : m_g g 150 (p + i) = m_sc c i
        · rw [if_pos d, if_pos d]
          exact ih (i + 1) (by omega) (by omega)
        · rw [if_neg d, if_neg d]
    exact key (m_sl c).toNat 0 (by omega) (by omega)
  · rw [if_neg e, if_neg e]
theorem n_wordR {g : m_H} (X : n_tx g) (f : m_g g 127 33 = -1) {p c : Int} (p0 : 0 ≤ p) (p1 : p ≤ m_g g 127 30) (c0 : -26 ≤ c) (c1 : c ≤ -2) : t11_word 127 c (n_atR g p) = if n_isW (m_g g 150) (m_g g 127 30) p c = true then some ((), n_atR g (n_sk (m_g g 150) (m_g g 127 30) (n_we (m_g g 150) (m_g g 127 30) p))) else some ((), m_p (n_atR g p) 127 33 p) := by
  have J := n_atR_I X.1 p
  obtain ⟨v1, v2, v3⟩ := n_atR_f (g := g) (p := p)
  have w := n_we_b (b := m_g g 150) p1
  unfold t11_word
  rw [if_pos (n_t127 J.2), v3 127 33 (by omega), f, m_w_of (x := -1) (by omega) (by omega), if_pos rfl, n_isWordR X p0 p1 c0 c1, n_bs]
  dsimp only
  by_cases d : n_isW (m_g g 150) (m_g g 127 30) p c = true
  · rw [if_pos d, if_pos d, if_pos (n_t127 J.2)]
    have e : t11_goesOn 127 (n_atR g p) = some ((), n_atR g (n_sk (m_g g 150) (m_g g 127 30) (n_we (m_g g 150) (m_g g 127 30) p))) := n_goesR X (by omega) (by omega)
    rw [e, n_bs]
  · rw [if_neg d, if_neg d, if_pos (n_t127 J.2), n_failsR X f, n_bs]
/-- the number at p as the reference reads it -/
def n_vlR (b : Int → Int) : Nat → Int → Int → Int
  | 0, _, v => v
  | m + 1, p, v => if n_dg (b p) = true then n_vlR b m (p + 1) (if 99999 < v then 999999 else 10 * v + b p - 48) else v
theorem n_numR {g : m_H} (X : n_tx g) (f : m_g g 127 33 = -1) {p lo hi : Int} (p0 : 0 ≤ p) (p1 : p ≤ m_g g 127 30) (lo0 : 0 ≤ lo) (hi1 : hi ≤ 1500) (lh : lo ≤ hi) : t11_number 127 lo hi (n_atR g p) = if n_ne (m_g g 150) (m_g g 127 30) p ≠ p ∧ lo ≤ n_vlR (m_g g 150) (m_g g 127 30 - p).toNat p 0 ∧ n_vlR (m_g g 150) (m_g g 127 30 - p).toNat p 0 ≤ hi then some (n_vlR (m_g g 150) (m_g g 127 30 - p).toNat p 0, n_atR g (n_sk (m_g g 150) (m_g g 127 30) (n_ne (m_g g 150) (m_g g 127 30) p))) else some (0, m_p (n_atR g p) 127 33 p) := by
  have X' := X
  obtain ⟨I, n0, n1, bb⟩ := X'
  have J := n_atR_I I p
  obtain ⟨v1, v2, v3⟩ := n_atR_f (g := g) (p := p)
  have l := n_l150 J.2
  have c75 : ∀ (e v : Int), p ≤ e → e ≤ m_g g 127 30 → 0 ≤ v → v ≤ 1000000 → t11_number_c75 127 lo hi e v (n_atR g p) = if e ≠ p ∧ lo ≤ v ∧ v ≤ hi then some (v, n_atR g (n_sk (m_g g 150) (m_g g 127 30) e)) else some (0, m_p (n_atR g p) 127 33 p) := fun e v e0 e1 w0 w1 => by
    unfold t11_number_c75
    rw [if_pos (n_t127 J.2), v1, m_w_of (x := e) (by omega) (by omega), m_w_of (x := p) (by omega) (by omega)]
    by_cases c : e = p
    · rw [if_pos c, n_failsR X f, n_bs, if_neg (fun z => z.1 c)]
    · rw [if_neg c, m_w_of (x := v) (by omega) (by omega), m_w_of (x := lo) (by omega) (by omega), m_w_of (x := hi) (by omega) (by omega), n_in (by omega) (by omega) (by omega) (by omega) (by omega) (by omega), n_bs]
      dsimp only
      by_cases d : lo ≤ v ∧ v ≤ hi
      · have h2 : m_p (n_atR g p) 127 32 e = n_h2 g 127 31 32 p e := n_h2_p2 (by omega)
        have J2 := n_h2_I I p e
        rw [decide_eq_true d, if_pos rfl, if_pos (show e ≠ p ∧ lo ≤ v ∧ v ≤ hi from ⟨c, d⟩), if_pos (n_t127 J.2), h2, n_bs, if_pos (n_t127 J2.2), n_goesR X (by omega) e1, n_bs]
      · rw [decide_eq_false d, if_neg (by decide), if_neg (show ¬ (e ≠ p ∧ lo ≤ v ∧ v ≤ hi) from fun z => d z.2), if_pos (n_t127 J.2), n_failsR X f, n_bs]
  have key : ∀ (m : Nat) (e v : Int), p ≤ e → m_g g 127 30 = e + m → 0 ≤ v → v ≤ 1000000 → t11_number_c18 127 lo hi e v (n_atR g p) = if n_past n_dg (m_g g 150) m e ≠ p ∧ lo ≤ n_vlR (m_g g 150) m e v ∧ n_vlR (m_g g 150) m e v ≤ hi then some (n_vlR (m_g g 150) m e v, n_atR g (n_sk (m_g g 150) (m_g g 127 30) (n_past n_dg (m_g g 150) m e))) else some (0, m_p (n_atR g p) 127 33 p) := by
    intro m
    induction m with
    | zero =>
      intro e v e0 em w0 w1
      rw [t11_number_c18, if_pos (n_t127 J.2), v3 127 30 (by omega), if_neg (by rw [em]; simp), c75 e v e0 (by omega) w0 w1, n_past, n_vlR]
    | succ m ih =>
      intro e v e0 em w0 w1
      have b := bb e (by omega) (by omega)
      rw [t11_number_c18, if_pos (n_t127 J.2), v3 127 30 (by omega), m_w_of (x := e) (by omega) (by omega), m_w_of (x := m_g g 127 30) (by omega) (by omega), if_pos (by omega), n_p127_29 J.2, if_pos ⟨n_t150 J.2, by omega, by omega⟩, v3 150 e (by omega), n_isDigitR _ _ b.1 (by omega), n_bs, n_past, n_vlR]
      dsimp only
      by_cases c : n_dg (m_g g 150 e) = true
      · have dg := of_decide_eq_true c
        rw [if_pos c, if_pos c, if_pos c, m_w_of (x := v) (by omega) (by omega)]
        by_cases d : 99999 < v
        · rw [if_pos d, if_pos d]
          exact ih (e + 1) 999999 (by omega) (by omega) (by omega) (by omega)
        · rw [if_neg d, if_neg d, if_pos (n_t127 J.2), n_p127_29 J.2, if_pos ⟨n_t150 J.2, by omega, by omega⟩, v3 150 e (by omega), n_bs]
          exact ih (e + 1) (10 * v + m_g g 150 e - 48) (by omega) (by omega) (by omega) (by omega)
      · rw [if_neg c, if_neg c, if_neg c]
        exact c75 e v e0 (by omega) w0 w1
  unfold t11_number
  rw [if_pos (n_t127 J.2), v3 127 33 (by omega), f, m_w_of (x := -1) (by omega) (by omega), if_pos rfl, v1, n_bs]
  exact key (m_g g 127 30 - p).toNat p 0 (Int.le_refl _) (by omega) (by omega) (by omega)
