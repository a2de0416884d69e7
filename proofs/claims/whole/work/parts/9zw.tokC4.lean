/-! CALLS: fault, score: the component's tokens -/
def n_eK (b : Int → Int) (n p : Int) : Int := if n_lt (b p) = true then n_past n_lt b (n - (p + 1)).toNat (p + 1) else if n_dg (b p) = true then n_past n_dg b (n - (p + 1)).toNat (p + 1) else p + 1
/-- where token i begins -/
def n_ps (b : Int → Int) (n : Int) : Nat → Int
  | 0 => n_sk b n 0
  | i + 1 => n_sk b n (n_eK b n (n_ps b n i))
def n_kT9 (b : Int → Int) (n p : Int) : Int := if n ≤ p then 27 else if n_lt (b p) = true then n_kdW b p (n_eK b n p) else if n_dg (b p) = true then 25 else if n_sgn (b p) = true then b p else 26
def n_vT9 (b : Int → Int) (n p : Int) : Int := if n_lt (b p) = true then n_cdN b (n - (p + 1)).toNat (p + 1) (b p - 97 + 1) else n_vlC b (n - (p + 1)).toNat (p + 1) (b p - 48)
/-- token i stands in the arrays -/
def n_rec (b : Int → Int) (n : Int) (x : m_H) (i : Nat) : Prop := m_g x 12 i = n_ps b n i ∧ m_g x 13 i = n_kT9 b n (n_ps b n i) ∧ (n_ps b n i < n → (n_lt (b (n_ps b n i)) = true ∧ n_eK b n (n_ps b n i) - n_ps b n i ≤ 6) ∨ (n_lt (b (n_ps b n i)) = false ∧ n_dg (b (n_ps b n i)) = true) → m_g x 14 i = n_vT9 b n (n_ps b n i))
