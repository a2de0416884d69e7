/-! BITS as numbers -/
theorem n_tN (X : Int32) : X.toInt = if X.toBitVec.toNat < 2147483648 then (X.toBitVec.toNat : Int) else (X.toBitVec.toNat : Int) - 4294967296 := by
  have := BitVec.toInt_eq_toNat_cond X.toBitVec
  have e : X.toInt = X.toBitVec.toInt := rfl
  rw [e, this]
  have := X.toBitVec.isLt
  split <;> split <;> omega
theorem n_ushr (a : Int) (k : Nat) (b : Int) (hs : (((Int32.ofInt b).toUInt32 &&& Int32.toUInt32 31).toBitVec % 32).toNat = k) (hk : 1 ≤ k) : m_ushr a b = (m_w a % 4294967296) / (2 ^ k : Nat) := by
  have h := pk_ushr (Int32.ofInt a) (Int32.ofInt b) k hs
  have e1 := n_tN ((Int32.ofInt a).toUInt32 >>> ((Int32.ofInt b).toUInt32 &&& Int32.toUInt32 31)).toInt32
  have e2 := n_tN (Int32.ofInt a)
  rw [m_w_i] at e2
  unfold m_ushr
  rw [e1, h]
  have hb := (Int32.ofInt a).toBitVec.isLt
  generalize (Int32.ofInt a).toBitVec.toNat = n at *
  have e3 : m_w a % 4294967296 = (n : Int) := by split at e2 <;> omega
  rw [e3]
  have p2 : 2 ≤ 2 ^ k := by
    calc 2 = 2 ^ 1 := rfl
      _ ≤ 2 ^ k := Nat.pow_le_pow_right (by omega) hk
  have q : n / 2 ^ k < 2147483648 := by
    rw [Nat.div_lt_iff_lt_mul (by omega)]
    omega
  rw [if_pos q]
  norm_cast
theorem n_shr (a : Int) (k : Nat) (b : Int) (hs : ((Int32.ofInt b &&& 31).toBitVec.smod 32).toNat = k) : m_shr a b = m_w a / (2 ^ k : Nat) := by
  unfold m_shr
  rw [pk_shr _ _ k hs, m_w_i, Int.shiftRight_eq_div_pow]
theorem n_i2s (a : Int) : m_i2s a = (a + 32768) % 65536 - 32768 := by
  unfold m_i2s
  rw [Int16.toInt_toInt32, Int32.toInt_toInt16, m_w_i, m_w, Int.bmod_def]
  split <;> omega
theorem n_i2b (a : Int) : m_i2b a = (a + 128) % 256 - 128 := by
  unfold m_i2b
  rw [Int8.toInt_toInt32, Int32.toInt_toInt8, m_w_i, m_w, Int.bmod_def]
  split <;> omega
theorem n_hi_eq (a : Int) : n_cl (m_shr a 16) = m_i2s (m_ushr a 16) := by
  rw [n_shr a 16 16 (by decide +kernel), n_ushr a 16 16 (by decide +kernel) (by omega), n_i2s]
  have := m_w_lo a
  have := m_w_hi a
  have e : ((2 ^ 16 : Nat) : Int) = 65536 := rfl
  rw [e, n_cl_of (by omega) (by omega)]
  omega
theorem n_lo_eq (a : Int) : n_cl (m_i2s a) = m_i2s a := by
  rw [n_i2s]
  exact n_cl_of (by omega) (by omega)
