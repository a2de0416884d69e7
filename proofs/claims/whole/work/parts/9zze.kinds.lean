/-! CALLS: fault, score: kinds of tokens against the reference's words, signs and numbers -/
theorem n_past_all {c : Int → Bool} {b : Int → Int} : ∀ (m : Nat) (p j : Int), p ≤ j → j < n_past c b m p → c (b j) = true
  | 0, p, j, h1, h2 => by unfold n_past at h2; omega
  | m + 1, p, j, h1, h2 => by
    unfold n_past at h2
    by_cases d : c (b p) = true
    · rw [if_pos d] at h2
      by_cases e : j = p
      · rw [e]; exact d
      · exact n_past_all m (p + 1) j (by omega) h2
    · rw [if_neg d] at h2
      omega
theorem n_kwF_is (b : Int → Int) (p e : Int) : ∀ (m : Nat) (i : Int), 0 ≤ i → (n_kwF b p e m i = -1 ∧ ∀ k, i ≤ k → k < i + m → n_kwN b p e k 6 0 = false) ∨ ((i ≤ n_kwF b p e m i ∧ n_kwF b p e m i < i + m) ∧ n_kwN b p e (n_kwF b p e m i) 6 0 = true)
  | 0, i, _ => Or.inl ⟨rfl, fun k k0 k1 => by omega⟩
  | m + 1, i, i0 => by
    have ih := n_kwF_is b p e m (i + 1) (by omega)
    unfold n_kwF
    by_cases c : n_kwN b p e i 6 0 = true
    · rw [if_pos c]
      exact Or.inr ⟨by omega, c⟩
    · rw [if_neg c]
      rcases ih with ⟨q1, q2⟩ | ⟨q1, q2⟩
      · refine Or.inl ⟨q1, fun k k0 k1 => ?_⟩
        by_cases z : k = i
        · rw [z]; exact Bool.eq_false_iff.mpr c
        · exact q2 k (by omega) (by omega)
      · exact Or.inr ⟨by omega, q2⟩
theorem n_kwDiff : ((List.range 24).all fun i => (List.range 24).all fun j => decide (i = j) || ((List.range 6).any fun q => decide (m_sc (-2) (6 * (i : Int) + (q : Int)) ≠ m_sc (-2) (6 * (j : Int) + (q : Int))))) = true := by decide +kernel
theorem n_kw_one {b : Int → Int} {p e i j : Int} (i0 : 0 ≤ i) (i1 : i < 24) (j0 : 0 ≤ j) (j1 : j < 24) (h1 : n_kwN b p e i 6 0 = true) (h2 : n_kwN b p e j 6 0 = true) : i = j := by
  have A := n_kwDiff
  rw [List.all_eq_true] at A
  have A1 := A i.toNat (List.mem_range.mpr (by omega))
  rw [List.all_eq_true] at A1
  have A2 := A1 j.toNat (List.mem_range.mpr (by omega))
  rw [Bool.or_eq_true, decide_eq_true_eq, List.any_eq_true] at A2
  rw [n_kwN_all] at h1 h2
  rcases A2 with q | ⟨q, hq, hd⟩
  · omega
  · have hq6 := List.mem_range.mp hq
    have d := of_decide_eq_true hd
    have e1 := h1 (q : Int) (by omega) (by omega)
    have e2 := h2 (q : Int) (by omega) (by omega)
    rw [show ((i.toNat : Nat) : Int) = i by omega, show ((j.toNat : Nat) : Int) = j by omega] at d
    by_cases z : p + (q : Int) < e
    · rw [if_pos z] at e1 e2
      exact absurd (e1.trans e2.symm) d
    · rw [if_neg z] at e1 e2
      exact absurd (e1.trans e2.symm) d
theorem n_we_y {b : Int → Int} {n p : Int} (h : p < n) (c : n_lt (b p) = true) : n_we b n p = n_eK b n p := by
  unfold n_we n_eK
  rw [n_past_s h, if_pos c, if_pos c]
theorem n_we_n {b : Int → Int} {n p : Int} (h : n ≤ p ∨ n_lt (b p) = false) : n_we b n p = p := by
  unfold n_we
  by_cases d : p < n
  · rw [n_past_s d, if_neg (by rcases h with q | q; omega; rw [q]; exact Bool.false_ne_true)]
  · exact n_past_e (by omega)
theorem n_ne_y {b : Int → Int} {n p : Int} (h : p < n) (c : n_dg (b p) = true) : n_ne b n p = n_eK b n p ∧ p + 1 ≤ n_eK b n p := by
  have l : n_lt (b p) = false := by
    have := of_decide_eq_true c
    exact decide_eq_false (by omega)
  have := n_past_b n_dg b (n - (p + 1)).toNat (p + 1)
  unfold n_ne n_eK
  rw [n_past_s h, if_pos c, l, if_neg (by decide), if_pos c]
  exact ⟨rfl, this.1⟩
theorem n_ne_n {b : Int → Int} {n p : Int} (h : n ≤ p ∨ n_dg (b p) = false) : n_ne b n p = p := by
  unfold n_ne
  by_cases d : p < n
  · rw [n_past_s d, if_neg (by rcases h with q | q; omega; rw [q]; exact Bool.false_ne_true)]
  · exact n_past_e (by omega)
theorem n_eK_b {b : Int → Int} {n p : Int} (h : p < n) : p < n_eK b n p ∧ n_eK b n p ≤ n := by
  have h1 := n_past_b n_lt b (n - (p + 1)).toNat (p + 1)
  have h2 := n_past_b n_dg b (n - (p + 1)).toNat (p + 1)
  unfold n_eK
  split
  · omega
  · split <;> omega
theorem n_kdW_b (b : Int → Int) (p e : Int) : 0 ≤ n_kdW b p e ∧ n_kdW b p e ≤ 26 ∧ n_kdW b p e ≠ 25 := by
  have f := n_kwF_b b p e 24 0 (by omega)
  unfold n_kdW
  split
  · omega
  · split
    · omega
    · next q => rcases f with w | w <;> omega
theorem n_kT9_b {b : Int → Int} {n p : Int} : 0 ≤ n_kT9 b n p ∧ n_kT9 b n p < 128 := by
  have f := n_kdW_b b p (n_eK b n p)
  unfold n_kT9
  split
  · omega
  · split
    · omega
    · split
      · omega
      · split
        · next q => have := of_decide_eq_true q; omega
        · omega
/-- the word at p is a keyword for both -/
theorem n_K1 {h : m_H} (A : n_alk h) {p k : Int} (p0 : 0 ≤ p) (p1 : p ≤ m_g h 127 30) (k0 : 0 ≤ k) (k1 : k < 24) : n_kT9 (m_g h 11) (m_g h 10 1) p = k ↔ n_isW (m_g h 150) (m_g h 127 30) p (n_cst k) = true := by
  have T := (n_kwT (j := 0) k0 k1 (by omega) (by omega)).1
  have ew := (n_al_sk A p0).2.1
  by_cases c : p < m_g h 127 30 ∧ n_lt (m_g h 11 p) = true
  · have hn : p < m_g h 10 1 := by rw [A.1]; exact c.1
    have e1 := n_we_y hn c.2
    have eb := n_eK_b (b := m_g h 11) hn
    have al : ∀ j, p ≤ j → j < n_we (m_g h 11) (m_g h 10 1) p → n_lt (m_g h 11 j) = true := fun j j0 j1 => n_past_all _ p j j0 j1
    unfold n_kT9
    rw [if_neg (by omega), if_pos c.2]
    unfold n_kdW
    by_cases c6 : 6 < n_eK (m_g h 11) (m_g h 10 1) p - p
    · rw [if_pos c6]
      unfold n_isW
      rw [if_neg (by rw [ew, e1]; omega)]
      exact ⟨fun q => by omega, fun q => by cases q⟩
    · rw [if_neg c6, ← n_kw_is A p0 p1 k0 k1 (by rw [e1]; omega) al, e1]
      have F := n_kwF_is (m_g h 11) p (n_eK (m_g h 11) (m_g h 10 1) p) 24 0 (by omega)
      rcases F with ⟨f1, f2⟩ | ⟨f1, f2⟩
      · rw [if_pos f1, f2 k k0 (by omega)]
        exact ⟨fun q => by omega, fun q => by cases q⟩
      · rw [if_neg (by omega)]
        constructor
        · intro q
          rw [← q]; exact f2
        · intro q
          exact n_kw_one (by omega) (by omega) k0 k1 f2 q
  · have e2 : n_we (m_g h 11) (m_g h 10 1) p = p := by
      refine n_we_n ?_
      by_cases z : p < m_g h 127 30
      · right
        exact Bool.eq_false_iff.mpr (fun q => c ⟨z, q⟩)
      · left; rw [A.1]; omega
    have r : n_isW (m_g h 150) (m_g h 127 30) p (n_cst k) = false := by
      unfold n_isW
      rw [if_neg (by rw [ew, e2]; omega)]
    rw [r]
    refine ⟨fun q => ?_, fun q => by cases q⟩
    exfalso
    unfold n_kT9 at q
    by_cases z : m_g h 10 1 ≤ p
    · rw [if_pos z] at q; omega
    · rw [if_neg z, if_neg (fun w => c ⟨by have := A.1; omega, w⟩)] at q
      split at q
      · omega
      · split at q
        · next w => have := of_decide_eq_true w; omega
        · omega
/-- the sign at p is the same for both -/
theorem n_K2 {h : m_H} (A : n_alk h) {p s : Int} (p0 : 0 ≤ p) (hs : s = 61 ∨ s = 59 ∨ s = 47 ∨ s = 123 ∨ s = 125) : n_kT9 (m_g h 11) (m_g h 10 1) p = s ↔ (p < m_g h 127 30 ∧ m_g h 150 p = s) := by
  have kb := n_kdW_b (m_g h 11) p (n_eK (m_g h 11) (m_g h 10 1) p)
  unfold n_kT9
  by_cases z : m_g h 10 1 ≤ p
  · rw [if_pos z]
    exact ⟨fun q => by omega, fun q => by have := A.1; omega⟩
  · have z2 : p < m_g h 127 30 := by have := A.1; omega
    have a := (n_al_c A p0 z2).2.2.2 s (by omega) (by omega)
    rw [if_neg z]
    constructor
    · intro q
      refine ⟨z2, a.mpr ?_⟩
      split at q
      · omega
      · split at q
        · omega
        · split at q
          · exact q
          · omega
    · rintro ⟨_, q⟩
      have q2 := a.mp q
      rw [if_neg (fun w => by have := of_decide_eq_true w; omega), if_neg (fun w => by have := of_decide_eq_true w; omega), if_pos (show n_sgn (m_g h 11 p) = true from decide_eq_true (by omega))]
      exact q2
theorem n_vlR_b (b : Int → Int) : ∀ (m : Nat) (p v : Int), 0 ≤ v → 0 ≤ n_vlR b m p v
  | 0, _, v, h => h
  | m + 1, p, v, h => by
    unfold n_vlR
    by_cases c : n_dg (b p) = true
    · have d := of_decide_eq_true c
      rw [if_pos c]
      exact n_vlR_b b m (p + 1) _ (by split <;> omega)
    · rw [if_neg c]; exact h
theorem n_vlC_b (b : Int → Int) : ∀ (m : Nat) (p v : Int), 0 ≤ v → v ≤ 1000000 → 0 ≤ n_vlC b m p v ∧ n_vlC b m p v ≤ 1000000
  | 0, _, v, h, h2 => ⟨h, h2⟩
  | m + 1, p, v, h, h2 => by
    unfold n_vlC
    by_cases c : n_dg (b p) = true
    · have d := of_decide_eq_true c
      rw [if_pos c]
      exact n_vlC_b b m (p + 1) _ (by omega) (by omega)
    · rw [if_neg c]; exact ⟨h, h2⟩
theorem n_kT25 {b : Int → Int} {n p : Int} : n_kT9 b n p = 25 ↔ (p < n ∧ n_dg (b p) = true) := by
  have kb := n_kdW_b b p (n_eK b n p)
  unfold n_kT9
  by_cases z : n ≤ p
  · rw [if_pos z]
    exact ⟨fun q => by omega, fun q => by omega⟩
  · rw [if_neg z]
    constructor
    · intro q
      refine ⟨by omega, ?_⟩
      split at q
      · omega
      · split at q
        · next w => exact w
        · split at q
          · next w => have := of_decide_eq_true w; omega
          · omega
    · rintro ⟨_, q⟩
      rw [if_neg (fun w => by have := of_decide_eq_true w; have := of_decide_eq_true q; omega), if_pos q]
/-- the number at p is the same for both, where it is small -/
theorem n_K3 {h : m_H} (A : n_alk h) {p lo hi : Int} (p0 : 0 ≤ p) (h1 : hi ≤ 1500) : ((n_kT9 (m_g h 11) (m_g h 10 1) p = 25 ∧ lo ≤ n_vT9 (m_g h 11) (m_g h 10 1) p ∧ n_vT9 (m_g h 11) (m_g h 10 1) p ≤ hi) ↔ (n_ne (m_g h 150) (m_g h 127 30) p ≠ p ∧ lo ≤ n_vlR (m_g h 150) (m_g h 127 30 - p).toNat p 0 ∧ n_vlR (m_g h 150) (m_g h 127 30 - p).toNat p 0 ≤ hi)) ∧ (n_kT9 (m_g h 11) (m_g h 10 1) p = 25 → (0 ≤ n_vT9 (m_g h 11) (m_g h 10 1) p ∧ n_vT9 (m_g h 11) (m_g h 10 1) p ≤ 1000000) ∧ n_ne (m_g h 150) (m_g h 127 30) p = n_eK (m_g h 11) (m_g h 10 1) p ∧ (n_vT9 (m_g h 11) (m_g h 10 1) p ≤ 1500 → n_vlR (m_g h 150) (m_g h 127 30 - p).toNat p 0 = n_vT9 (m_g h 11) (m_g h 10 1) p)) := by
  have en := (n_al_sk A p0).2.2
  have k := n_kT25 (b := m_g h 11) (n := m_g h 10 1) (p := p)
  by_cases c : p < m_g h 10 1 ∧ n_dg (m_g h 11 p) = true
  · have d := of_decide_eq_true c.2
    have nl : n_lt (m_g h 11 p) = false := decide_eq_false (by omega)
    obtain ⟨y1, y2⟩ := n_ne_y c.1 c.2
    have vr : n_vlR (m_g h 150) (m_g h 127 30 - p).toNat p 0 = n_vlR (m_g h 11) (m_g h 10 1 - (p + 1)).toNat (p + 1) (m_g h 11 p - 48) := by
      have a := A.1
      rw [n_al_vl A _ p 0 p0 (by omega), ← A.1, show (m_g h 10 1 - p).toNat = (m_g h 10 1 - (p + 1)).toNat + 1 by omega, n_vlR, if_pos c.2, if_neg (by omega), show 10 * 0 + m_g h 11 p - 48 = m_g h 11 p - 48 by omega]
    have vc : n_vT9 (m_g h 11) (m_g h 10 1) p = n_vlC (m_g h 11) (m_g h 10 1 - (p + 1)).toNat (p + 1) (m_g h 11 p - 48) := by
      unfold n_vT9
      rw [nl, if_neg (by decide)]
    have b1 := n_vlC_b (m_g h 11) (m_g h 10 1 - (p + 1)).toNat (p + 1) (m_g h 11 p - 48) (by omega) (by omega)
    have cr := n_vl_CR (m_g h 11) (m_g h 10 1 - (p + 1)).toNat (p + 1) (m_g h 11 p - 48) (m_g h 11 p - 48) (Or.inl rfl) (by omega) (by omega) (by omega) (by omega)
    have kk := k.mpr c
    rw [vr, vc, en, y1]
    generalize n_vlC (m_g h 11) (m_g h 10 1 - (p + 1)).toNat (p + 1) (m_g h 11 p - 48) = V at *
    generalize n_vlR (m_g h 11) (m_g h 10 1 - (p + 1)).toNat (p + 1) (m_g h 11 p - 48) = W at *
    refine ⟨⟨fun q => ⟨by omega, by omega, by omega⟩, fun q => ⟨kk, by omega, by omega⟩⟩, fun _ => ⟨b1, rfl, fun q => by omega⟩⟩
  · have nk : n_kT9 (m_g h 11) (m_g h 10 1) p ≠ 25 := fun q => c (k.mp q)
    have e2 : n_ne (m_g h 11) (m_g h 10 1) p = p := by
      refine n_ne_n ?_
      by_cases z : p < m_g h 10 1
      · right
        exact Bool.eq_false_iff.mpr (fun q => c ⟨z, q⟩)
      · left; omega
    rw [en, e2]
    exact ⟨⟨fun q => absurd q.1 nk, fun q => absurd rfl q.1⟩, fun q => absurd q nk⟩
