/-! CALLS: fault, score: both texts are alike -/
theorem n_past_al {c : Int → Bool} {b b' : Int → Int} : ∀ (m : Nat) (p : Int), (∀ j, p ≤ j → j < p + m → c (b j) = c (b' j)) → n_past c b m p = n_past c b' m p
  | 0, p, _ => rfl
  | m + 1, p, h => by
    unfold n_past
    rw [h p (Int.le_refl _) (by omega), n_past_al m (p + 1) (fun j j1 j2 => h j (by omega) (by omega))]
/-- the reference's bytes against the component's -/
def n_alk (h : m_H) : Prop := m_g h 10 1 = m_g h 127 30 ∧ ∀ j, 0 ≤ j → j < m_g h 127 30 → (0 ≤ m_g h 11 j ∧ m_g h 11 j ≤ 255) ∧ m_g h 150 j = if m_g h 11 j < 128 then m_g h 11 j else m_g h 11 j - 256
theorem n_alk_of {h : m_H} (X : n_Rread h h) : n_alk h ∧ n_txC h := by
  obtain ⟨x1, x2, x3, x4⟩ := X
  exact ⟨⟨x1, fun j j0 j1 => by have := x4 j j0 j1; exact ⟨⟨this.1, this.2.1⟩, this.2.2⟩⟩, by omega, by omega, fun j j0 j1 => by have := x4 j j0 (by omega); exact ⟨this.1, this.2.1⟩⟩
theorem n_tx_of {h : m_H} (I : n_I h) (X : n_Rread h h) : n_tx h := by
  obtain ⟨x1, x2, x3, x4⟩ := X
  refine ⟨I, x2, x3, fun j j0 j1 => ?_⟩
  obtain ⟨a, b, c⟩ := x4 j j0 j1
  rw [c]
  split <;> omega
theorem n_al_c {h : m_H} (A : n_alk h) {j : Int} (j0 : 0 ≤ j) (j1 : j < m_g h 127 30) : n_lt (m_g h 150 j) = n_lt (m_g h 11 j) ∧ n_dg (m_g h 150 j) = n_dg (m_g h 11 j) ∧ n_bl (m_g h 150 j) = n_bl (m_g h 11 j) ∧ (∀ s, 0 ≤ s → s < 128 → (m_g h 150 j = s ↔ m_g h 11 j = s)) := by
  obtain ⟨a, b⟩ := A.2 j j0 j1
  unfold n_lt n_dg n_bl
  refine ⟨decide_eq_decide.mpr ?_, decide_eq_decide.mpr ?_, decide_eq_decide.mpr ?_, fun s s0 s1 => ?_⟩ <;> rw [b] <;> split <;> omega
theorem n_al_sk {h : m_H} (A : n_alk h) {p : Int} (p0 : 0 ≤ p) : n_sk (m_g h 150) (m_g h 127 30) p = n_sk (m_g h 11) (m_g h 10 1) p ∧ n_we (m_g h 150) (m_g h 127 30) p = n_we (m_g h 11) (m_g h 10 1) p ∧ n_ne (m_g h 150) (m_g h 127 30) p = n_ne (m_g h 11) (m_g h 10 1) p := by
  unfold n_sk n_we n_ne
  rw [A.1]
  by_cases c : p ≤ m_g h 127 30
  · exact ⟨n_past_al _ _ (fun j j1 j2 => (n_al_c A (by omega) (by omega)).2.2.1), n_past_al _ _ (fun j j1 j2 => (n_al_c A (by omega) (by omega)).1), n_past_al _ _ (fun j j1 j2 => (n_al_c A (by omega) (by omega)).2.1)⟩
  · rw [n_past_e (by omega), n_past_e (by omega), n_past_e (by omega), n_past_e (by omega), n_past_e (by omega), n_past_e (by omega)]
    exact ⟨rfl, rfl, rfl⟩
/-- a small number is the same for both -/
theorem n_al_vl {h : m_H} (A : n_alk h) : ∀ (m : Nat) (p v : Int), 0 ≤ p → p + m ≤ m_g h 127 30 → n_vlR (m_g h 150) m p v = n_vlR (m_g h 11) m p v
  | 0, p, v, _, _ => rfl
  | m + 1, p, v, p0, p1 => by
    have a := n_al_c A p0 (by omega)
    unfold n_vlR
    rw [a.2.1]
    by_cases c : n_dg (m_g h 11 p) = true
    · have d := of_decide_eq_true c
      have e : m_g h 150 p = m_g h 11 p := (a.2.2.2 _ (by omega) (by omega)).mpr rfl
      rw [if_pos c, if_pos c, e]
      exact n_al_vl A m (p + 1) _ (by omega) (by omega)
    · rw [if_neg c, if_neg c]
/-- the component's tokens, read from the begin -/
theorem n_readToksC {h x : m_H} (X : n_txC h) (S : n_tkC h x) : ∃ x' c', t4_readTokens 10 x = some ((), x') ∧ n_tkC h x' ∧ n_ps (m_g h 11) (m_g h 10 1) c' = m_g h 10 1 ∧ (∀ i : Nat, i < c' → n_ps (m_g h 11) (m_g h 10 1) i < m_g h 10 1) ∧ ∀ i : Nat, i ≤ c' → n_rec (m_g h 11) (m_g h 10 1) x' i := by
  have X' := X
  obtain ⟨x0, x1, x2⟩ := X'
  obtain ⟨I, s2, s3⟩ := S
  have J : n_I (m_p x 10 5 0) := n_I_p I (by rw [n_t10 I.2]; omega) (by rw [n_t10 I.2]; omega) rfl
  have S5 : n_tkC h (m_p x 10 5 0) := ⟨J, s2, fun b j h1 h2 => by rw [n_gp_n (by omega)]; exact s3 b j h1 h2⟩
  obtain ⟨S6, a1, a2, a3⟩ := n_tkC_6 S5 0
  obtain ⟨x', c', e, r⟩ := n_toksC X (m_g h 10 1).toNat 0 0 _ (by omega) (by omega) x0 S6 a1 (by rw [a2, n_gp_y ⟨rfl, rfl⟩]; rfl) (by omega) rfl (fun i hi => by omega)
  refine ⟨x', c', ?_, r⟩
  unfold t4_readTokens
  rw [if_pos (n_t10 I.2), n_bs, if_pos (n_t10 J.2), n_bs]
  exact e
