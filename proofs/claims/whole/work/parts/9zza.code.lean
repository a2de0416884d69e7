/-! CALLS: fault, score: names -/
theorem n_shl5 {X : Nat} (hX : X < 33554432) : m_shl (X : Int) 5 = ((X * 32 : Nat) : Int) := by
  unfold m_shl
  show (BitVec.ofInt 32 (X : Int) <<< (5 : Nat)).toInt = _
  have e1 : (BitVec.ofInt 32 (X : Int)).toNat = X := by
    rw [BitVec.toNat_ofInt]
    show ((X : Int) % 4294967296).toNat = X
    omega
  have e2 : (BitVec.ofInt 32 (X : Int) <<< (5 : Nat)).toNat = X * 32 := by
    rw [BitVec.toNat_shiftLeft, e1, Nat.shiftLeft_eq]
    show X * 32 % 4294967296 = X * 32
    omega
  rw [BitVec.toInt_eq_toNat_of_lt (by rw [e2]; show _ < 4294967296; omega), e2]
theorem n_or5 {X d : Nat} (hX : X < 33554432) (hd : d < 32) : m_or ((X * 32 : Nat) : Int) (d : Int) = ((X * 32 + d : Nat) : Int) := by
  unfold m_or
  show (BitVec.ofInt 32 ((X * 32 : Nat) : Int) ||| BitVec.ofInt 32 (d : Int)).toInt = _
  have e1 : (BitVec.ofInt 32 ((X * 32 : Nat) : Int)).toNat = X * 32 := by
    rw [BitVec.toNat_ofInt]
    show (((X * 32 : Nat) : Int) % 4294967296).toNat = X * 32
    omega
  have e2 : (BitVec.ofInt 32 (d : Int)).toNat = d := by
    rw [BitVec.toNat_ofInt]
    show ((d : Int) % 4294967296).toNat = d
    omega
  have e4 : X * 32 ||| d = X * 32 + d := by
    have := Nat.two_pow_add_eq_or_of_lt (i := 5) (b := d) hd X
    rw [show 2 ^ 5 * X = X * 32 by omega] at this
    exact this.symm
  have e3 : (BitVec.ofInt 32 ((X * 32 : Nat) : Int) ||| BitVec.ofInt 32 (d : Int)).toNat = X * 32 + d := by rw [BitVec.toNat_or, e1, e2, e4]
  rw [BitVec.toInt_eq_toNat_of_lt (by rw [e3]; show _ < 4294967296; omega), e3]
