/-! CALLS: fault, score: keywords -/
theorem n_kwN_all (b : Int → Int) (p e i : Int) : ∀ (m : Nat) (j : Int), n_kwN b p e i m j = true ↔ ∀ q, j ≤ q → q < j + m → (if p + q < e then m_sc (-2) (6 * i + q) = b (p + q) else m_sc (-2) (6 * i + q) = 32)
  | 0, j => ⟨fun _ q q0 q1 => by omega, fun _ => rfl⟩
  | m + 1, j => by
    unfold n_kwN
    have ih := n_kwN_all b p e i m (j + 1)
    by_cases c : (if p + j < e then m_sc (-2) (6 * i + j) = b (p + j) else m_sc (-2) (6 * i + j) = 32)
    · rw [if_pos c, ih]
      constructor
      · intro h q q0 q1
        by_cases z : q = j
        · rw [z]; exact c
        · exact h q (by omega) (by omega)
      · exact fun h q q0 q1 => h q (by omega) (by omega)
    · rw [if_neg c]
      exact ⟨fun h => (by cases h), fun h => absurd (h j (Int.le_refl _) (by omega)) c⟩
theorem n_eqN_all (b : Int → Int) (p c : Int) : ∀ (m : Nat) (i : Int), n_eqN b p c m i = true ↔ ∀ q, i ≤ q → q < i + m → b (p + q) = m_sc c q
  | 0, j => ⟨fun _ q q0 q1 => by omega, fun _ => rfl⟩
  | m + 1, i => by
    unfold n_eqN
    have ih := n_eqN_all b p c m (i + 1)
    by_cases d : b (p + i) = m_sc c i
    · rw [if_pos d, ih]
      constructor
      · intro h q q0 q1
        by_cases z : q = i
        · rw [z]; exact d
        · exact h q (by omega) (by omega)
      · exact fun h q q0 q1 => h q (by omega) (by omega)
    · rw [if_neg d]
      exact ⟨fun h => (by cases h), fun h => absurd (h i (Int.le_refl _) (by omega)) d⟩
/-- the reference's constant of keyword i -/
def n_cst (i : Int) : Int := if i < 12 then -3 - i else if i = 12 then -24 else if i = 13 then -26 else if i = 23 then -25 else -1 - i
theorem n_kwTab : ((List.range 24).all fun i => decide (-26 ≤ n_cst (i : Int) ∧ n_cst (i : Int) ≤ -2 ∧ 1 ≤ m_sl (n_cst (i : Int)) ∧ m_sl (n_cst (i : Int)) ≤ 6) && (List.range 6).all fun j => if (j : Int) < m_sl (n_cst (i : Int)) then decide (m_sc (-2) (6 * (i : Int) + (j : Int)) = m_sc (n_cst (i : Int)) (j : Int) ∧ 97 ≤ m_sc (n_cst (i : Int)) (j : Int) ∧ m_sc (n_cst (i : Int)) (j : Int) ≤ 122) else decide (m_sc (-2) (6 * (i : Int) + (j : Int)) = 32)) = true := by decide +kernel
theorem n_kwT {i j : Int} (i0 : 0 ≤ i) (i1 : i < 24) (j0 : 0 ≤ j) (j1 : j < 6) : (-26 ≤ n_cst i ∧ n_cst i ≤ -2 ∧ 1 ≤ m_sl (n_cst i) ∧ m_sl (n_cst i) ≤ 6) ∧ (j < m_sl (n_cst i) → m_sc (-2) (6 * i + j) = m_sc (n_cst i) j ∧ 97 ≤ m_sc (n_cst i) j ∧ m_sc (n_cst i) j ≤ 122) ∧ (m_sl (n_cst i) ≤ j → m_sc (-2) (6 * i + j) = 32) := by
  have A := n_kwTab
  rw [List.all_eq_true] at A
  have q := A i.toNat (List.mem_range.mpr (by omega))
  rw [Bool.and_eq_true, List.all_eq_true, decide_eq_true_eq, show ((i.toNat : Nat) : Int) = i by omega] at q
  have w := q.2 j.toNat (List.mem_range.mpr (by omega))
  rw [show ((j.toNat : Nat) : Int) = j by omega] at w
  refine ⟨q.1, fun h => ?_, fun h => ?_⟩
  · rw [if_pos h] at w
    exact of_decide_eq_true w
  · rw [if_neg (by omega)] at w
    exact of_decide_eq_true w
/-- both know the same keyword -/
theorem n_kw_is {h : m_H} (A : n_alk h) {p i : Int} (p0 : 0 ≤ p) (p1 : p ≤ m_g h 127 30) (i0 : 0 ≤ i) (i1 : i < 24) (w6 : n_we (m_g h 11) (m_g h 10 1) p - p ≤ 6) (wl : ∀ j, p ≤ j → j < n_we (m_g h 11) (m_g h 10 1) p → n_lt (m_g h 11 j) = true) : n_kwN (m_g h 11) p (n_we (m_g h 11) (m_g h 10 1) p) i 6 0 = n_isW (m_g h 150) (m_g h 127 30) p (n_cst i) := by
  have ew := (n_al_sk A p0).2.1
  have wb := n_we_b (b := m_g h 150) p1
  rw [ew] at wb
  unfold n_isW
  rw [ew]
  generalize n_we (m_g h 11) (m_g h 10 1) p = e at *
  have K := fun j => n_kwT (i := i) (j := j) i0 i1
  have L := (K 0 (by omega) (by omega)).1
  have key : n_kwN (m_g h 11) p e i 6 0 = true ↔ (e - p = m_sl (n_cst i) ∧ ∀ q, 0 ≤ q → q < m_sl (n_cst i) → m_g h 150 (p + q) = m_sc (n_cst i) q) := by
    rw [n_kwN_all]
    constructor
    · intro H
      have le : e - p = m_sl (n_cst i) := by
        rcases Int.lt_trichotomy (e - p) (m_sl (n_cst i)) with z | z | z
        · have a := H (e - p) (by omega) (by omega)
          rw [if_neg (by omega)] at a
          have b := (K (e - p) (by omega) (by omega)).2.1 z
          omega
        · exact z
        · have a := H (m_sl (n_cst i)) (by omega) (by omega)
          rw [if_pos (by omega), (K (m_sl (n_cst i)) (by omega) (by omega)).2.2 (Int.le_refl _)] at a
          have d := of_decide_eq_true (wl (p + m_sl (n_cst i)) (by omega) (by omega))
          omega
      refine ⟨le, fun q q0 q1 => ?_⟩
      have a := H q q0 (by omega)
      have k := (K q q0 (by omega)).2.1 q1
      rw [if_pos (by omega), k.1] at a
      exact ((n_al_c A (by omega) (by omega)).2.2.2 _ (by omega) (by omega)).mpr a.symm
    · rintro ⟨le, H⟩ q q0 q1
      by_cases z : p + q < e
      · have k := (K q q0 (by omega)).2.1 (by omega)
        rw [if_pos z, k.1]
        exact (((n_al_c A (by omega) (by omega)).2.2.2 _ (by omega) (by omega)).mp (H q q0 (by omega))).symm
      · rw [if_neg z]
        exact (K q q0 (by omega)).2.2 (by omega)
  have key2 : (if e - p = m_sl (n_cst i) then n_eqN (m_g h 150) p (n_cst i) (m_sl (n_cst i)).toNat 0 else false) = true ↔ (e - p = m_sl (n_cst i) ∧ ∀ q, 0 ≤ q → q < m_sl (n_cst i) → m_g h 150 (p + q) = m_sc (n_cst i) q) := by
    by_cases z : e - p = m_sl (n_cst i)
    · rw [if_pos z, n_eqN_all]
      exact ⟨fun H => ⟨z, fun q q0 q1 => H q q0 (by omega)⟩, fun H q q0 q1 => H.2 q q0 (by omega)⟩
    · rw [if_neg z]
      exact ⟨fun H => (by cases H), fun H => absurd H.1 z⟩
  exact Bool.eq_iff_iff.mpr (key.trans key2.symm)
