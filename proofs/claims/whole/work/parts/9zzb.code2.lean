/-! CALLS: fault, score: a name's code -/
/-- the code of the first k letters from p on, behind the code v -/
def n_cdP (b : Int → Int) : Nat → Int → Nat → Nat
  | 0, _, v => v
  | k + 1, p, v => n_cdP b k (p + 1) (v * 32 + (b p - 96).toNat)
theorem n_cd_P (b : Int → Int) : ∀ (m : Nat) (p : Int) (v : Nat), (v + 1) * 32 ^ (n_past n_lt b m p - p).toNat ≤ 1073741824 → n_cdN b m p (v : Int) = (n_cdP b (n_past n_lt b m p - p).toNat p v : Int)
  | 0, p, v, h => by
    unfold n_cdN n_past
    rw [show (p - p).toNat = 0 by omega]
    rfl
  | m + 1, p, v, h => by
    unfold n_cdN
    unfold n_past at h ⊢
    by_cases c : n_lt (b p) = true
    · have d := of_decide_eq_true c
      have pb := n_past_b n_lt b m (p + 1)
      rw [if_pos c] at h
      rw [if_pos c, if_pos c]
      have e : (n_past n_lt b m (p + 1) - p).toNat = (n_past n_lt b m (p + 1) - (p + 1)).toNat + 1 := by omega
      rw [e, Nat.pow_succ] at h
      have one : 1 ≤ 32 ^ (n_past n_lt b m (p + 1) - (p + 1)).toNat := Nat.one_le_pow _ _ (by omega)
      have ih := n_cd_P b m (p + 1) (v * 32 + (b p - 96).toNat)
      rw [e, n_cdP]
      generalize 32 ^ (n_past n_lt b m (p + 1) - (p + 1)).toNat = K at *
      have v25 : (v + 1) * 32 ≤ 1073741824 := Nat.le_trans (by rw [← Nat.mul_assoc]; exact Nat.mul_le_mul_right 32 (Nat.le_mul_of_pos_right _ (by omega))) h
      have hh : (v * 32 + (b p - 96).toNat + 1) * K ≤ 1073741824 := Nat.le_trans (Nat.mul_le_mul_right K (show v * 32 + (b p - 96).toNat + 1 ≤ (v + 1) * 32 by omega)) (by rw [Nat.mul_assoc, Nat.mul_comm 32 K]; exact h)
      have o := n_or5 (X := v) (d := (b p - 96).toNat) (by omega) (by omega)
      rw [n_shl5 (by omega), show b p - 97 + 1 = (((b p - 96).toNat : Nat) : Int) by omega, o]
      exact ih hh
    · rw [if_neg c] at h
      rw [if_neg c, if_neg c, show (p - p).toNat = 0 by omega]
      rfl
