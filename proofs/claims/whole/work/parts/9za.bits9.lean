/-! CALLS: turns: masks -/
theorem n_andN {X Y : Nat} {b : Int} (hX : X < 2147483648) (hb : b % 4294967296 = (Y : Int)) : m_and (X : Int) b = ((X &&& Y : Nat) : Int) := by
  unfold m_and
  show (BitVec.ofInt 32 (X : Int) &&& BitVec.ofInt 32 b).toInt = _
  have e1 : (BitVec.ofInt 32 (X : Int)).toNat = X := by
    rw [BitVec.toNat_ofInt]
    show ((X : Int) % 4294967296).toNat = X
    omega
  have e2 : (BitVec.ofInt 32 b).toNat = Y := by
    rw [BitVec.toNat_ofInt]
    show (b % 4294967296).toNat = Y
    omega
  have e3 : (BitVec.ofInt 32 (X : Int) &&& BitVec.ofInt 32 b).toNat = X &&& Y := by rw [BitVec.toNat_and, e1, e2]
  have e4 : X &&& Y ≤ X := Nat.and_le_left
  rw [BitVec.toInt_eq_toNat_of_lt (by rw [e3]; show _ < 4294967296; omega), e3]
theorem n_orN {X Y : Nat} (hX : X < 512) (hY : Y < 512) : m_or (X : Int) (Y : Int) = ((X ||| Y : Nat) : Int) := by
  unfold m_or
  show (BitVec.ofInt 32 (X : Int) ||| BitVec.ofInt 32 (Y : Int)).toInt = _
  have e1 : (BitVec.ofInt 32 (X : Int)).toNat = X := by
    rw [BitVec.toNat_ofInt]
    show ((X : Int) % 4294967296).toNat = X
    omega
  have e2 : (BitVec.ofInt 32 (Y : Int)).toNat = Y := by
    rw [BitVec.toNat_ofInt]
    show ((Y : Int) % 4294967296).toNat = Y
    omega
  have e3 : (BitVec.ofInt 32 (X : Int) ||| BitVec.ofInt 32 (Y : Int)).toNat = X ||| Y := by rw [BitVec.toNat_or, e1, e2]
  have e4 : X ||| Y < 2 ^ 9 := Nat.or_lt_two_pow (n := 9) hX hY
  rw [BitVec.toInt_eq_toNat_of_lt (by rw [e3]; show _ < 4294967296; omega), e3]
theorem n_xor_all : ((List.range 512).all fun v => decide (m_xor (v : Int) (-1) = -1 - (v : Int))) = true := by decide +kernel
theorem n_xorN {V : Nat} (h : V < 512) : m_xor (V : Int) (-1) = -1 - (V : Int) := by
  have A := n_xor_all
  rw [List.all_eq_true] at A
  exact of_decide_eq_true (A V (List.mem_range.mpr h))
theorem n_shl_all : ((List.range 10).all fun v => decide (m_shl 1 (v : Int) = ((2 ^ v : Nat) : Int))) = true := by decide +kernel
theorem n_shlN {i : Nat} (h : i < 10) : m_shl 1 (i : Int) = ((2 ^ i : Nat) : Int) := by
  have A := n_shl_all
  rw [List.all_eq_true] at A
  exact of_decide_eq_true (A i (List.mem_range.mpr h))
theorem n_shr_all : ((List.range 512).all fun x => (List.range 9).all fun i => decide (m_and (m_shr (x : Int) (i : Int)) 1 = if x.testBit i = true then 1 else 0)) = true := by decide +kernel
theorem n_shrN {X i : Nat} (hX : X < 512) (h : i < 9) : m_and (m_shr (X : Int) (i : Int)) 1 = if X.testBit i = true then 1 else 0 := by
  have A := n_shr_all
  rw [List.all_eq_true] at A
  have B := A X (List.mem_range.mpr hX)
  rw [List.all_eq_true] at B
  exact of_decide_eq_true (B i (List.mem_range.mpr h))
/-- all bits of A lie in B -/
def n_sub (A B : Nat) : Prop := ∀ j, A.testBit j = true → B.testBit j = true
theorem n_subN {X V : Nat} (hX : X < 512) (hV : V < 512) : m_and (X : Int) (m_xor (V : Int) (-1)) = 0 ↔ n_sub X V := by
  rw [n_xorN hV, n_andN (X := X) (Y := 2 ^ 32 - (V + 1)) (by omega) (by show (-1 - (V : Int)) % 4294967296 = ((4294967296 - (V + 1) : Nat) : Int); omega)]
  constructor
  · intro h j hj
    have h' : X &&& (2 ^ 32 - (V + 1)) = 0 := by omega
    have t : (X &&& (2 ^ 32 - (V + 1))).testBit j = false := by rw [h']; exact Nat.zero_testBit j
    rw [Nat.testBit_and, Nat.testBit_two_pow_sub_succ (show V < 2 ^ 32 by omega), hj, Bool.true_and] at t
    have j9 : j < 9 := by
      by_cases c : j < 9
      · exact c
      · have : X < 2 ^ j := Nat.lt_of_lt_of_le (show X < 2 ^ 9 from hX) (Nat.pow_le_pow_right (by omega) (by omega))
        rw [Nat.testBit_lt_two_pow this] at hj
        cases hj
    rw [decide_eq_true (show j < 32 by omega), Bool.true_and] at t
    cases hv : V.testBit j
    · rw [hv] at t; cases t
    · rfl
  · intro h
    have : X &&& (2 ^ 32 - (V + 1)) = 0 := by
      apply Nat.eq_of_testBit_eq
      intro j
      rw [Nat.testBit_and, Nat.testBit_two_pow_sub_succ (show V < 2 ^ 32 by omega), Nat.zero_testBit]
      cases hx : X.testBit j
      · rfl
      · rw [h j hx, Bool.not_true, Bool.and_false, Bool.and_false]
    rw [this]
    rfl
theorem n_sub_le : ∀ (B A : Nat), n_sub A B → A ≤ B := fun B A h => by
  have : A &&& B = A := by
    apply Nat.eq_of_testBit_eq
    intro j
    rw [Nat.testBit_and]
    cases hx : A.testBit j
    · rfl
    · rw [h j hx]; rfl
  rw [← this]
  exact Nat.and_le_right
theorem n_sub_half {A B : Nat} (h : n_sub A B) : n_sub (A / 2) (B / 2) ∧ A % 2 ≤ B % 2 := by
  refine ⟨fun j hj => ?_, ?_⟩
  · rw [← Nat.testBit_succ] at hj ⊢
    exact h (j + 1) hj
  · have := h 0
    rw [Nat.testBit_zero, Nat.testBit_zero, decide_eq_true_eq, decide_eq_true_eq] at this
    omega
/-- the next smaller heap -/
theorem n_next : ∀ (R S T : Nat), n_sub S R → n_sub T R → T < S → T ≤ (S - 1) &&& R := by
  intro R
  induction R using Nat.strongRecOn with
  | _ R ih =>
    intro S T hS hT lt
    have s := n_sub_half hS
    have t := n_sub_half hT
    have lS := n_sub_le _ _ hS
    by_cases c : R = 0
    · omega
    · have e2 : ((S - 1) &&& R) / 2 = ((S - 1) / 2) &&& (R / 2) := Nat.and_div_two
      have e1 : ((S - 1) &&& R) % 2 = ((S - 1) % 2) &&& (R % 2) := by
        have h1 := Nat.testBit_and (S - 1) R 0
        rw [Nat.testBit_zero, Nat.testBit_zero, Nat.testBit_zero] at h1
        rcases Nat.mod_two_eq_zero_or_one (S - 1) with a | a <;> rcases Nat.mod_two_eq_zero_or_one R with b | b <;> rcases Nat.mod_two_eq_zero_or_one ((S - 1) &&& R) with d | d <;> rw [a, b, d] at h1 <;> rw [a, b, d] <;> first | rfl | (simp at h1)
      by_cases odd : S % 2 = 1
      · have r1 : R % 2 = 1 := by omega
        have p1 : (S - 1) / 2 = S / 2 := by omega
        have p2 : (S / 2) &&& (R / 2) = S / 2 := by
          apply Nat.eq_of_testBit_eq
          intro j
          rw [Nat.testBit_and]
          cases hx : (S / 2).testBit j
          · rfl
          · rw [s.1 j hx]; rfl
        rw [p1, p2] at e2
        omega
      · have r0 : (S - 1) / 2 = S / 2 - 1 := by omega
        have r1 : (S - 1) % 2 = 1 := by omega
        have q := ih (R / 2) (by omega) (S / 2) (T / 2) s.1 t.1 (by omega)
        rw [r0] at e2
        rw [r1] at e1
        have e1' : ((S - 1) &&& R) % 2 = R % 2 := by
          rw [e1]
          rcases Nat.mod_two_eq_zero_or_one R with b | b <;> rw [b] <;> rfl
        omega
