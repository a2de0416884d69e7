/-! CALLS: remade, stretch: the fewest stretches from each time, pure -/
/-- the least of a and F (t + size) + 1, k sizes from size on -/
def n_fmN (F : Int → Int) (t : Int) : Nat → Int → Int → Int
  | 0, _, a => a
  | k + 1, z, a => n_fmN F t k (z + 1) (min a (F (t + z) + 1))
/-- the last k times and the end: the fewest from there, nv for none -/
def n_tabN (L : Int → Int) (w N nv : Int) : Nat → Int → Int
  | 0 => fun _ => 0
  | k + 1 => fun j => if j = N - (k + 1) then n_fmN (n_tabN L w N nv k) j (L j - w + 1).toNat w nv else n_tabN L w N nv k j
theorem n_tabN_s (L : Int → Int) (w N nv : Int) (k : Nat) (j : Int) : n_tabN L w N nv (k + 1) j = if j = N - (k + 1) then n_fmN (n_tabN L w N nv k) j (L j - w + 1).toNat w nv else n_tabN L w N nv k j := rfl
theorem n_fmN_congr {F G : Int → Int} {t b : Int} : ∀ (k : Nat) (z a : Int), (∀ i, z ≤ i → i < z + k → F (t + i) = G (t + i)) → n_fmN F t k z a = n_fmN G t k z a
  | 0, _, _, _ => rfl
  | k + 1, z, a, e => by
    unfold n_fmN
    rw [e z (by omega) (by omega), n_fmN_congr (b := b) k (z + 1) _ (fun i h1 h2 => e i (by omega) (by omega))]
/-- both sides' numbers of one time -/
def n_cr (x y : Int) : Prop := 0 ≤ x ∧ ((x ≤ 1000 ∧ y = x) ∨ (x = 1000000 ∧ y = 1001))
theorem n_fmN_cr {F G : Int → Int} {t M : Int} (hM : M ≤ 1000) : ∀ (k : Nat) (z x y : Int), (∀ i, z ≤ i → i < z + k → n_cr (F (t + i)) (G (t + i)) ∧ (F (t + i) ≤ M - 1 ∨ F (t + i) = 1000000)) → n_cr x y → (x ≤ M ∨ x = 1000000) → n_cr (n_fmN F t k z x) (n_fmN G t k z y) ∧ (n_fmN F t k z x ≤ M ∨ n_fmN F t k z x = 1000000)
  | 0, _, _, _, _, c, m => ⟨c, m⟩
  | k + 1, z, x, y, e, c, m => by
    have h := e z (by omega) (by omega)
    unfold n_fmN
    refine n_fmN_cr hM k (z + 1) _ _ (fun i h1 h2 => e i (by omega) (by omega)) ?_ ?_
    · unfold n_cr at *; omega
    · unfold n_cr at *; omega
theorem n_tabN_cr {L : Int → Int} {w N : Int} (hN : N ≤ 1000) (w1 : 1 ≤ w) (hL : ∀ t, 0 ≤ t → t < N → L t ≤ N - t) : ∀ (k : Nat) (j : Int), k ≤ N → N - k ≤ j → j ≤ N → n_cr (n_tabN L w N 1000000 k j) (n_tabN L w N 1001 k j) ∧ (n_tabN L w N 1000000 k j ≤ N - j ∨ n_tabN L w N 1000000 k j = 1000000)
  | 0, j, k0, j1, j2 => by unfold n_tabN n_cr; omega
  | k + 1, j, k0, j1, j2 => by
    rw [n_tabN_s, n_tabN_s]
    by_cases c : j = N - (k + 1)
    · rw [if_pos c, if_pos c]
      refine n_fmN_cr (by omega) _ w _ _ (fun i h1 h2 => ?_) (by unfold n_cr; omega) (Or.inr rfl)
      have l := hL j (by omega) (by omega)
      have := n_tabN_cr hN w1 hL k (j + i) (by omega) (by omega) (by omega)
      refine ⟨this.1, ?_⟩
      rcases this.2 with q | q
      · left; omega
      · exact Or.inr q
    · rw [if_neg c, if_neg c]
      exact n_tabN_cr hN w1 hL k j (by omega) (by omega) j2
/-- where it can be done at all, the size of some first stretch gives it -/
theorem n_fmN_ex {F : Int → Int} {t : Int} : ∀ (k : Nat) (z a : Int), n_fmN F t k z a = a ∨ ∃ i, z ≤ i ∧ i < z + k ∧ n_fmN F t k z a = F (t + i) + 1
  | 0, _, _ => Or.inl rfl
  | k + 1, z, a => by
    unfold n_fmN
    rcases n_fmN_ex (F := F) (t := t) k (z + 1) (min a (F (t + z) + 1)) with e | ⟨i, h1, h2, h3⟩
    · rw [e]
      by_cases c : a ≤ F (t + z) + 1
      · left; omega
      · right; exact ⟨z, by omega, by omega, by omega⟩
    · right; exact ⟨i, by omega, by omega, h3⟩
/-- a time's number stays once it stands -/
theorem n_tabN_st {L : Int → Int} {w N nv : Int} {k : Nat} : ∀ (q : Nat) (j : Int), N - k ≤ j → n_tabN L w N nv (k + q) j = n_tabN L w N nv k j
  | 0, j, _ => rfl
  | q + 1, j, h => by
    rw [show k + (q + 1) = (k + q) + 1 by omega, n_tabN_s, if_neg (by omega)]
    exact n_tabN_st q j h
theorem n_tabN_at {L : Int → Int} {w N nv : Int} {n : Nat} (w1 : 1 ≤ w) (hn : n = N) (hL : ∀ t, 0 ≤ t → t < N → L t ≤ N - t) (t : Int) (t0 : 0 ≤ t) (t1 : t < N) : n_tabN L w N nv n t = n_fmN (n_tabN L w N nv n) t (L t - w + 1).toNat w nv := by
  obtain ⟨k, hk⟩ : ∃ k : Nat, (k : Int) + 1 = N - t := ⟨(N - t - 1).toNat, by omega⟩
  obtain ⟨q, hq⟩ : ∃ q : Nat, n = (k + 1) + q := ⟨n - (k + 1), by omega⟩
  have l := hL t t0 t1
  rw [hq, n_tabN_st q t (by omega), n_tabN_s, if_pos (by omega)]
  refine n_fmN_congr (b := 0) _ _ _ (fun i h1 h2 => ?_)
  rw [show k + 1 + q = k + (1 + q) by omega, n_tabN_st (k := k) (1 + q) (t + i) (by omega)]
