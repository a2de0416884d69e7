/-! THE PURE FACT -/
theorem n_pure (xn : Int) (xs : Int → Int) (h1 : 0 ≤ xn) (h2 : xn ≤ 3072) (hx : ∀ j, -2147483648 ≤ xs j ∧ xs j < 2147483648) : ∃ h', tL_law xn xs (-1) m_h0 = some (true, h') ∧ m_n h' ≤ 600001 ∧ m_s h' ≤ 7302250 := n_pure0 (fun _ _ X => n_s_fault X) (fun _ _ X => n_s_score X) xn xs h1 h2 hx
