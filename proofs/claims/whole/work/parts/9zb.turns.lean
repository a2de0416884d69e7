/-! CALLS: turns: the least turns, apart from how they are found -/
def n_val (n : Nat) (nd : Nat → Nat) (fit : Nat → Bool) (D S : Nat) : Prop := S ≠ 0 ∧ (∀ i, S.testBit i = true → i < n ∧ D.testBit i = false ∧ n_sub (nd i) D) ∧ fit S = true
def n_mn (c : Int) (P : Nat → Nat → Prop) (V : Nat → Int) (D : Nat) (r : Int) : Prop := r ≤ c ∧ (∀ S, P D S → r ≤ V (D ||| S) + 1) ∧ (r = c ∨ ∃ S, P D S ∧ r = V (D ||| S) + 1)
def n_Vs (c : Int) (P : Nat → Nat → Prop) (F : Nat) (V : Nat → Int) : Prop := V F = 0 ∧ ∀ D, D < F → n_mn c P V D (V D)
theorem n_val_lt {n : Nat} {nd : Nat → Nat} {fit : Nat → Bool} {D S : Nat} (v : n_val n nd fit D S) : S < 2 ^ n := by
  obtain ⟨-, h, -⟩ := v
  apply Nat.lt_pow_two_of_testBit
  intro i hi
  cases hx : S.testBit i
  · rfl
  · have := (h i hx).1
    omega
theorem n_val_up {n : Nat} {nd : Nat → Nat} {fit : Nat → Bool} {D S : Nat} (v : n_val n nd fit D S) (hD : D < 2 ^ n) : D < D ||| S ∧ D ||| S < 2 ^ n := by
  have l := n_val_lt v
  obtain ⟨h0, h, -⟩ := v
  refine ⟨?_, Nat.or_lt_two_pow hD l⟩
  have a : D ≤ D ||| S := Nat.left_le_or
  by_cases c : D = D ||| S
  · exfalso
    apply h0
    apply Nat.eq_of_testBit_eq
    intro i
    rw [Nat.zero_testBit]
    cases hx : S.testBit i
    · rfl
    · have := (h i hx).2.1
      rw [c, Nat.testBit_or, hx, Bool.or_true] at this
      exact this
  · omega
theorem n_Vs_fin {n : Nat} {nd : Nat → Nat} {fit : Nat → Bool} {c : Int} {V : Nat → Int} (X : n_Vs c (n_val n nd fit) (2 ^ n - 1) V) (hn : 2 ^ n ≤ 512) : ∀ (m D : Nat), 2 ^ n - 1 - D ≤ m → D < 2 ^ n → V D = c ∨ (0 ≤ V D ∧ V D ≤ 512 - (D : Int) ∧ (D < 2 ^ n - 1 → 1 ≤ V D))
  | 0, D, h, hD => by
    have : D = 2 ^ n - 1 := by omega
    right
    rw [this, X.1]
    omega
  | m + 1, D, h, hD => by
    by_cases e : D = 2 ^ n - 1
    · right
      rw [e, X.1]
      omega
    · obtain ⟨a1, a2, a3⟩ := X.2 D (by omega)
      rcases a3 with a3 | ⟨S, s1, s2⟩
      · exact Or.inl a3
      · have u := n_val_up s1 hD
        rcases n_Vs_fin X hn m (D ||| S) (by omega) u.2 with q | q
        · omega
        · right
          omega
theorem n_Vs_cap {n : Nat} {nd : Nat → Nat} {fit : Nat → Bool} {V : Nat → Int} (X : n_Vs 1000000 (n_val n nd fit) (2 ^ n - 1) V) (hn : 2 ^ n ≤ 512) (h1 : 1 ≤ 2 ^ n) : n_Vs 1000 (n_val n nd fit) (2 ^ n - 1) (fun D => if V D = 1000000 then 1000 else V D) := by
  refine ⟨?_, fun D hD => ?_⟩
  · dsimp only
    rw [X.1, if_neg (by omega)]
  · obtain ⟨a1, a2, a3⟩ := X.2 D hD
    have f := n_Vs_fin X hn (2 ^ n) D (by omega) (by omega)
    unfold n_mn
    dsimp only
    by_cases c : V D = 1000000
    · rw [if_pos c]
      refine ⟨by omega, fun S hS => ?_, Or.inl rfl⟩
      have u := n_val_up hS (by omega)
      have f2 := n_Vs_fin X hn (2 ^ n) (D ||| S) (by omega) u.2
      have := a2 S hS
      rw [if_pos (by omega)]
      omega
    · rw [if_neg c]
      refine ⟨by omega, fun S hS => ?_, ?_⟩
      · have := a2 S hS
        by_cases d : V (D ||| S) = 1000000
        · rw [if_pos d]
          omega
        · rw [if_neg d]
          omega
      · right
        rcases a3 with a3 | ⟨S, s1, s2⟩
        · exact absurd a3 c
        · exact ⟨S, s1, by rw [if_neg (by omega)]; exact s2⟩
/-! the steps of a score -/
def n_isT (g : m_H) (k : Int) (o : Int) : Bool := decide (2 ≤ m_g g (153 + k) o ∧ m_g g (153 + k) o ≠ 12)
/-- steps among the first o orders -/
def n_cn (g : m_H) (k : Int) : Nat → Nat
  | 0 => 0
  | o + 1 => n_cn g k o + if n_isT g k o = true then 1 else 0
/-- the order of a step, among the first o orders -/
def n_so (g : m_H) (k : Int) : Nat → Nat → Int
  | 0 => fun _ => 0
  | o + 1 => fun i => if n_isT g k o = true ∧ i = n_cn g k o then (o : Int) else n_so g k o i
def n_bt (g : m_H) (k : Int) (x : Int) : Nat := if 0 ≤ x ∧ n_isT g k x = true then 2 ^ n_cn g k x.toNat else 0
def n_ndO (g : m_H) (k : Int) (o : Int) : Nat := n_bt g k (m_g g (163 + k) o) ||| n_bt g k (m_g g (173 + k) o)
theorem n_cn_s (g : m_H) (k : Int) (o : Nat) : n_cn g k (o + 1) = n_cn g k o + if n_isT g k o = true then 1 else 0 := rfl
theorem n_so_s (g : m_H) (k : Int) (o i : Nat) : n_so g k (o + 1) i = if n_isT g k o = true ∧ i = n_cn g k o then (o : Int) else n_so g k o i := rfl
theorem n_cn_le (g : m_H) (k : Int) : ∀ (q o : Nat), n_cn g k o ≤ n_cn g k (o + q)
  | 0, o => Nat.le_refl _
  | q + 1, o => by
    have := n_cn_le g k q o
    rw [show o + (q + 1) = o + q + 1 by omega, n_cn_s]
    omega
theorem n_cn_mono (g : m_H) (k : Int) {o p : Nat} (h : o ≤ p) : n_cn g k o ≤ n_cn g k p := by
  have := n_cn_le g k (p - o) o
  rw [show o + (p - o) = p by omega] at this
  exact this
theorem n_so_b (g : m_H) (k : Int) : ∀ (o i : Nat), i < n_cn g k o → 0 ≤ n_so g k o i ∧ n_so g k o i < o ∧ n_isT g k (n_so g k o i) = true ∧ n_cn g k (n_so g k o i).toNat = i
  | 0, i, h => by unfold n_cn at h; omega
  | o + 1, i, h => by
    rw [n_cn_s] at h
    rw [n_so_s]
    by_cases c : n_isT g k o = true ∧ i = n_cn g k o
    · rw [if_pos c]
      exact ⟨by omega, by omega, c.1, by rw [show ((o : Nat) : Int).toNat = o by omega]; exact c.2.symm⟩
    · rw [if_neg c]
      have := n_so_b g k o i (by
        by_cases d : n_isT g k o = true
        · rw [if_pos d] at h
          have : i ≠ n_cn g k o := fun w => c ⟨d, w⟩
          omega
        · rw [if_neg d] at h
          omega)
      exact ⟨this.1, by omega, this.2.2⟩
/-- whether a heap of steps fits the room -/
def n_fitG (g : m_H) (k : Int) (S : Nat) (so : Nat → Int) : Nat → Nat → Int → Int → Nat → Bool
  | 0, _, b, mc, _ => decide (b ≤ 1 ∧ mc ≤ m_g g 127 23)
  | m + 1, i, b, mc, u =>
    if S.testBit i = false then n_fitG g k S so m (i + 1) b mc u
    else if m_g g (153 + k) (so i) = 2 ∨ m_g g (153 + k) (so i) = 3 ∨ m_g g (153 + k) (so i) = 5 ∨ m_g g (153 + k) (so i) = 6 then n_fitG g k S so m (i + 1) (b + 1) mc u
    else if m_g g (153 + k) (so i) = 8 then (if m_g g (183 + k) (so i) < m_g g 127 23 ∧ u.testBit (m_g g (183 + k) (so i)).toNat = false then n_fitG g k S so m (i + 1) b (mc + 1) (u ||| 2 ^ (m_g g (183 + k) (so i)).toNat) else false)
    else n_fitG g k S so m (i + 1) b (mc + 1) u
