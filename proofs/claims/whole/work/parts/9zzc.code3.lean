/-! CALLS: fault, score: names are alike where their codes are -/
theorem n_cdP_last (b : Int → Int) : ∀ (k : Nat) (p : Int) (v : Nat), n_cdP b (k + 1) p v = n_cdP b k p v * 32 + (b (p + k) - 96).toNat
  | 0, p, v => by
    show v * 32 + (b p - 96).toNat = v * 32 + (b (p + (0 : Nat)) - 96).toNat
    rw [show p + ((0 : Nat) : Int) = p by omega]
  | k + 1, p, v => by
    show n_cdP b (k + 1) (p + 1) (v * 32 + (b p - 96).toNat) = n_cdP b k (p + 1) (v * 32 + (b p - 96).toNat) * 32 + _
    rw [n_cdP_last b k (p + 1), show p + 1 + (k : Int) = p + ((k + 1 : Nat) : Int) by omega]
theorem n_code_inj (b : Int → Int) {p q : Int} : ∀ (k l : Nat), (∀ j : Int, 0 ≤ j → j < k → n_lt (b (p + j)) = true) → (∀ j : Int, 0 ≤ j → j < l → n_lt (b (q + j)) = true) → n_cdP b k p 0 = n_cdP b l q 0 → k = l ∧ ∀ j : Int, 0 ≤ j → j < k → b (p + j) = b (q + j)
  | 0, 0, _, _, _ => ⟨rfl, fun j j0 j1 => by omega⟩
  | 0, l + 1, _, w, h => by
    have d := of_decide_eq_true (w l (by omega) (by omega))
    rw [n_cdP_last] at h
    have : n_cdP b 0 p 0 = 0 := rfl
    omega
  | k + 1, 0, w, _, h => by
    have d := of_decide_eq_true (w k (by omega) (by omega))
    rw [n_cdP_last] at h
    have : n_cdP b 0 q 0 = 0 := rfl
    omega
  | k + 1, l + 1, w1, w2, h => by
    have d1 := of_decide_eq_true (w1 k (by omega) (by omega))
    have d2 := of_decide_eq_true (w2 l (by omega) (by omega))
    rw [n_cdP_last, n_cdP_last] at h
    obtain ⟨e, f⟩ := n_code_inj b k l (fun j j0 j1 => w1 j j0 (by omega)) (fun j j0 j1 => w2 j j0 (by omega)) (by omega)
    refine ⟨by omega, fun j j0 j1 => ?_⟩
    by_cases c : j = k
    · rw [← e] at h d2
      rw [c]
      omega
    · exact f j j0 (by omega)
theorem n_code_eq (b : Int → Int) {p q : Int} : ∀ (k : Nat) (v : Nat), (∀ j : Int, 0 ≤ j → j < k → b (p + j) = b (q + j)) → n_cdP b k p v = n_cdP b k q v
  | 0, v, _ => rfl
  | k + 1, v, h => by
    rw [n_cdP_last, n_cdP_last, n_code_eq b k v (fun j j0 j1 => h j j0 (by omega)), h k (by omega) (by omega)]
