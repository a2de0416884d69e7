/-! CALLS: why: bits of a long -/
def n_tb (x i : Int) : Bool := (Int64.ofInt x).toBitVec.getLsbD i.toNat
theorem n_tb_0 (i : Int) : n_tb 0 i = false := by
  show (0#64).getLsbD i.toNat = false
  exact BitVec.getLsbD_zero
theorem n_tb_or (x y i : Int) : n_tb (m_lor x y) i = (n_tb x i || n_tb y i) := by
  unfold n_tb m_lor
  rw [Int64.ofInt_toInt, Int64.toBitVec_or, BitVec.getLsbD_or]
theorem n_sh64_all : ((List.range 64).all fun k => (((Int32.ofInt (k : Int)).toInt64 &&& 63).toBitVec.smod 64).toNat == k) = true := by decide +kernel
theorem n_sh64 {i : Int} (i0 : 0 ≤ i) (i1 : i < 64) : (((Int32.ofInt i).toInt64 &&& 63).toBitVec.smod 64).toNat = i.toNat := by
  have A := n_sh64_all
  rw [List.all_eq_true] at A
  have := A i.toNat (List.mem_range.mpr (by omega))
  rw [show ((i.toNat : Nat) : Int) = i by omega] at this
  exact eq_of_beq this
theorem n_tb_bit {i j : Int} (i0 : 0 ≤ i) (i1 : i < 64) (j0 : 0 ≤ j) (j1 : j < 64) : n_tb (m_lshl 1 j) i = decide (i = j) := by
  have hs := n_sh64 j0 j1
  unfold n_tb m_lshl
  rw [Int64.ofInt_toInt]
  have e : (Int64.ofInt 1 <<< ((Int32.ofInt j).toInt64 &&& 63)).toBitVec = (1#64) <<< (((Int32.ofInt j).toInt64 &&& 63).toBitVec.smod 64).toNat := rfl
  rw [e, hs, BitVec.getLsbD_shiftLeft, BitVec.getLsbD_one]
  by_cases c : i = j
  · subst c
    rw [decide_eq_true rfl]
    simp
    omega
  · rw [decide_eq_false c]
    by_cases d : i.toNat < j.toNat
    · simp [d]
    · have : ¬ (i.toNat - j.toNat = 0) := by omega
      simp [d, this]
theorem n_and1 (y : BitVec 64) : (y &&& 1#64 = 0#64) ↔ y.getLsbD 0 = false := by
  constructor
  · intro h
    have := congrArg (fun z : BitVec 64 => z.getLsbD 0) h
    simpa [BitVec.getLsbD_and] using this
  · intro h
    refine BitVec.eq_of_getLsbD_eq fun i hi => ?_
    rw [BitVec.getLsbD_and, BitVec.getLsbD_one, BitVec.getLsbD_zero]
    by_cases c : i = 0
    · subst c
      rw [h, Bool.false_and]
    · simp [c]
theorem n_tb_test {x i : Int} (i0 : 0 ≤ i) (i1 : i < 64) : (m_w (m_lcmp (m_land (m_lshr x i) 1) 0) = 0) ↔ n_tb x i = false := by
  have hs := n_sh64 i0 i1
  have e : (Int64.ofInt x >>> ((Int32.ofInt i).toInt64 &&& 63)).toBitVec = (Int64.ofInt x).toBitVec.sshiftRight (((Int32.ofInt i).toInt64 &&& 63).toBitVec.smod 64).toNat := rfl
  have key : m_land (m_lshr x i) 1 = 0 ↔ n_tb x i = false := by
    unfold m_land m_lshr n_tb
    rw [Int64.ofInt_toInt]
    have e2 : (Int64.ofInt x >>> ((Int32.ofInt i).toInt64 &&& 63) &&& Int64.ofInt 1).toInt = 0 ↔ (Int64.ofInt x >>> ((Int32.ofInt i).toInt64 &&& 63)).toBitVec &&& 1#64 = 0#64 := by
      constructor
      · intro q
        have : (Int64.ofInt x >>> ((Int32.ofInt i).toInt64 &&& 63) &&& Int64.ofInt 1) = 0 := Int64.toInt_inj.mp q
        exact congrArg Int64.toBitVec this
      · intro q
        have : (Int64.ofInt x >>> ((Int32.ofInt i).toInt64 &&& 63) &&& Int64.ofInt 1) = 0 := Int64.toBitVec_inj.mp q
        rw [this]; rfl
    rw [e2, n_and1, e, hs, BitVec.getLsbD_sshiftRight]
    have h64 : i.toNat + 0 < 64 := by omega
    simp [h64]
    intro q
    omega
  have b1 := Int64.le_toInt (Int64.ofInt (m_lshr x i) &&& Int64.ofInt 1)
  have b2 := Int64.toInt_lt (Int64.ofInt (m_lshr x i) &&& Int64.ofInt 1)
  have eb : m_land (m_lshr x i) 1 = (Int64.ofInt (m_lshr x i) &&& Int64.ofInt 1).toInt := rfl
  rw [← eb] at b1 b2
  rw [← key, n_lcmp_lt (by omega) (by omega) (by omega) (by omega)]
  split
  · constructor <;> intro q <;> omega
  · split <;> constructor <;> intro q <;> omega
