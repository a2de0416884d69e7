/-! CALLS: make: the component lays the rows -/
theorem n_silenceC {x : m_H} {v E : Int} (W : n_wf x) (hv : m_t x v = 5) (h0 : 0 ≤ E) (h3 : E ≤ 3000) : ∃ x', t5_silence v E x = some ((), x') ∧ n_rw x x' v E (fun _ => 0) := by
  obtain ⟨h1, e1, W1, R1, en, C1, hc, -⟩ := n_after W hv h0 h3
  have R1' := R1
  obtain ⟨q1, q2, q3, q4, q5⟩ := R1'
  have lo := n_wf_lt W hv
  have key := n_fill (fun i h => tJ7_fill_53178_c5 (m_g h1 v 0) 0 i (m_l h1 (m_g h1 v 0)) h) (h := h1) (a := m_g h1 v 0) (lo := 0) (n := m_l h1 (m_g h1 v 0)) (fun _ => 0) (by omega) (fun i i1 i2 => by
    show tJ7_fill_53178_c5 _ 0 i _ _ = tJ7_fill_53178_c5 _ 0 (i + 1) _ _
    have e2 : (n_fl h1 (m_g h1 v 0) 0 i (fun _ => 0)).2 = h1.2 := rfl
    generalize n_fl h1 (m_g h1 v 0) 0 i (fun _ => 0) = z at *
    rw [tJ7_fill_53178_c5, m_w_of (x := i) (by omega) (by omega), m_w_of (x := m_l h1 (m_g h1 v 0)) (by omega) (by omega), if_pos i2, if_pos (by rw [n_e2t e2, n_e2l e2]; exact ⟨q2, i1, i2⟩), n_bs])
  have B := n_rw_fl (lo := 0) (n := m_l h1 (m_g h1 v 0)) (f := fun _ => 0) C1 R1 hc lo.1 (fun _ => 0) (fun j j1 j2 => by rw [if_pos ⟨j1, by omega⟩])
  rw [en] at B
  refine ⟨_, ?_, B⟩
  unfold t5_silence
  rw [if_pos hv, e1, n_bs]
  dsimp only
  rw [if_pos q1]
  unfold tJ7_fill_53178
  rw [if_pos (by omega), n_bs, show tJ7_fill_53178_c5 (m_g h1 v 0) 0 0 (m_l h1 (m_g h1 v 0)) h1 = _ from key]
  show tJ7_fill_53178_c5 (m_g h1 v 0) 0 (m_l h1 (m_g h1 v 0)) (m_l h1 (m_g h1 v 0)) _ >>= _ = _
  rw [tJ7_fill_53178_c5, if_neg (by omega), n_bs]
/-- only the places of the row's array have changed -/
theorem n_rw_put {h h1 h2 : m_H} {v n : Int} {f f2 : Int → Int} (A : n_rw h h1 v n f) (e2 : h2.2 = h1.2) (e : ∀ b j, b ≠ m_g h1 v 0 → m_g h2 b j = m_g h1 b j) (ha : m_g h v 0 < m_n h) (hf : ∀ j, 0 ≤ j → j < n → m_g h2 (m_g h1 v 0) j = f2 j) : n_rw h h2 v n f2 := by
  obtain ⟨⟨r1, r2, r3, r4, r5⟩, c, en, -, a1, a2, a3, a4, a5, a6, a7, a8, a9⟩ := A
  have nv : v ≠ m_g h1 v 0 := fun q => by rw [← q] at r2; omega
  have e0 := e v 0 nv
  have e1 := e v 1 nv
  have cap : n_cap h2 v = n_cap h1 v := by unfold n_cap; rw [e0, n_e2l e2]
  refine ⟨⟨by rw [n_e2t e2]; exact r1, by rw [e0, n_e2t e2]; exact r2, by rw [e1]; exact r3, by rw [e0, e1, n_e2l e2]; exact r4, by rw [e0, n_e2l e2]; exact r5⟩, by rw [cap]; exact c, e1.trans en, fun j j0 j1 => by rw [e0]; exact hf j j0 j1, fun b hb => by rw [n_e2t e2, n_e2l e2]; exact a1 b hb, fun b hb h1' h2' j => by rw [e b j (fun q => by rcases a4 with z | z <;> omega)]; exact a2 b hb h1' h2' j, fun b hb => by rw [n_e2t e2, n_e2n e2]; exact a3 b hb, by rw [e0]; exact a4, by rw [e0, n_e2n e2]; exact a5, by rw [n_e2n e2]; exact a6, by rw [cap, n_e2n e2]; exact a7, ?_, by rw [cap]; exact a9⟩
  have : m_s h2 = m_s h1 := by unfold m_s; rw [e2]
  rw [cap, this]
  exact a8
theorem n_raiseC {x : m_H} {v p q : Int} (R : n_row x v) (p0 : 0 ≤ p) (p1 : p < 2147483648) : t5_raise v p q x = some ((), if p < m_g x v 1 then m_p x (m_g x v 0) p (m_g x (m_g x v 0) p + q) else x) := by
  obtain ⟨r1, r2, r3, r4, r5⟩ := R
  unfold t5_raise
  rw [m_w_of (x := p) (by omega) p1, if_neg (by omega), if_pos r1, m_w_of (x := m_g x v 1) (by omega) (by omega)]
  by_cases c : p < m_g x v 1
  · rw [if_pos c, if_pos c, if_pos (by omega), m_w_of (x := m_l x (m_g x v 0)) (by omega) (by omega), if_pos (by omega), if_pos ⟨r2, by omega, by omega⟩, n_bs]
  · rw [if_neg c, if_neg c]
/-- the row 107 has the values F, nothing else has changed -/
def n_mkB (y x : m_H) (F : Int → Int) : Prop := n_I x ∧ x.2 = y.2 ∧ (∀ b j, b ≠ m_g y 107 0 → m_g x b j = m_g y b j) ∧ ∀ t, 0 ≤ t → t < m_g y 107 1 → m_g x (m_g y 107 0) t = F t
theorem n_mkB_row {y x : m_H} {F : Int → Int} (I : n_I y) (S : n_mkB y x F) : n_row y 107 ∧ n_row x 107 ∧ m_g x 107 0 = m_g y 107 0 ∧ m_g x 107 1 = m_g y 107 1 := by
  have R := n_wf_row I.1 (n_t107 I.2)
  have R2 := n_wf_row S.1.1 (n_t107 S.1.2)
  have nv : (107 : Int) ≠ m_g y 107 0 := fun q => by have := R.2.1; have := R.1; rw [← q] at *; omega
  exact ⟨R, R2, S.2.2.1 _ _ nv, S.2.2.1 _ _ nv⟩
theorem n_mkB_eq {y x : m_H} {F G : Int → Int} (S : n_mkB y x F) (e : ∀ t, F t = G t) : n_mkB y x G := ⟨S.1, S.2.1, S.2.2.1, fun t t0 t1 => (S.2.2.2 t t0 t1).trans (e t)⟩
theorem n_mkB_o {y x : m_H} {F : Int → Int} (I : n_I y) (S : n_mkB y x F) {o L : Int} {s : Int → Int} (o0 : 0 ≤ o) (o1 : o < 40) (e1 : m_g y (26 + 2 * o) 1 = L) (es : ∀ i, 0 ≤ i → i < L → n_rg y (26 + 2 * o) i = s i) : m_t x (26 + 2 * o) = 5 ∧ m_g x (26 + 2 * o) 1 = L ∧ n_row x (26 + 2 * o) ∧ ∀ i, 0 ≤ i → i < L → n_rg x (26 + 2 * o) i = s i := by
  obtain ⟨J, x2, e, -⟩ := S
  have R := n_wf_row I.1 (n_t107 I.2)
  have p := (n_prt I.2 o0 o1).1
  have p2 := (n_prt J.2 o0 o1).1
  have nr : 26 + 2 * o ≠ m_g y 107 0 := fun q => by have := R.2.1; rw [← q] at this; omega
  have na : m_g y (26 + 2 * o) 0 ≠ m_g y 107 0 := I.1.2.2.2.1 _ _ p (n_t107 I.2) (by omega)
  refine ⟨p2, (e _ _ nr).trans e1, n_wf_row J.1 p2, fun i i0 i1 => ?_⟩
  rw [← es i i0 i1]
  unfold n_rg
  rw [e _ 1 nr, e _ 0 nr, e _ i na]
theorem n_layIn {g y : m_H} {o r j bg L : Int} {s G : Int → Int} (I : n_I y) (b0 : 0 ≤ bg) (b1 : bg ≤ 20000) (q0 : 0 ≤ r) (q1 : r < 40) (L1 : L ≤ 1500) (e1 : m_g y (26 + 2 * r) 1 = L) (es : ∀ i, 0 ≤ i → i < L → n_rg y (26 + 2 * r) i = s i) : ∀ (m : Nat) (i : Int) (x : m_H), 0 ≤ i → L = i + m → n_mkB y x (fun t => G t + if bg ≤ t ∧ t < bg + i then s (t - bg) else 0) → ∃ x', t2_layPut_x2 22 106 o (26 + 2 * r) j bg i x = t2_layPut_x2 2 106 o (26 + 2 * r) (j + 1) 0 0 x' ∧ n_mkB y x' (fun t => G t + if bg ≤ t ∧ t < bg + L then s (t - bg) else 0) := by
  intro m
  induction m with
  | zero =>
    intro i x i0 em S
    have ei : i = L := by omega
    subst ei
    obtain ⟨t5, z1, Rz, zs⟩ := n_mkB_o I S q0 q1 e1 es
    refine ⟨x, ?_, S⟩
    rw [t2_layPut_x2, if_neg (by omega), if_pos rfl, if_pos t5, n_size t5, n_bs, z1]
    dsimp only
    rw [if_neg (by omega)]
  | succ m ih =>
    intro i x i0 em S
    obtain ⟨t5, z1, Rz, zs⟩ := n_mkB_o I S q0 q1 e1 es
    obtain ⟨R, R2, c0, c1⟩ := n_mkB_row I S
    obtain ⟨J, x2, e, v⟩ := S
    rw [t2_layPut_x2, if_neg (by omega), if_pos rfl, if_pos t5, n_size t5, n_bs, z1]
    dsimp only
    rw [m_w_of (x := i) (by omega) (by omega), m_w_of (x := L) (by omega) (by omega), if_pos (by omega), if_pos (n_t106 J.2), if_pos t5, n_get Rz (by omega) (by omega), n_bs, zs i i0 (by omega)]
    dsimp only
    rw [n_p106_1 J.2, if_pos R2.1, n_raiseC R2 (by omega) (by omega), n_bs, c0, c1]
    dsimp only
    refine ih (i + 1) _ (by omega) (by omega) ?_
    by_cases c : bg + i < m_g y 107 1
    · rw [if_pos c]
      have kc : m_t x (m_g y 107 0) = 20 := by rw [n_e2t x2]; exact R.2.1
      refine ⟨n_I_pa J (Or.inl kc), x2, fun b j hb => (n_gp_n (fun z => hb z.1)).trans (e b j hb), fun t t0 t1 => ?_⟩
      by_cases d : t = bg + i
      · rw [d, n_gp_y ⟨rfl, rfl⟩, v _ (by omega) c]
        dsimp only
        rw [if_neg (by omega), if_pos (by omega), show bg + i - bg = i by omega, Int.add_zero]
      · rw [n_gp_n (fun z => d z.2), v t t0 t1]
        dsimp only
        by_cases w : bg ≤ t ∧ t < bg + i
        · rw [if_pos w, if_pos (by omega)]
        · rw [if_neg w, if_neg (by omega)]
    · rw [if_neg c]
      refine ⟨J, x2, e, fun t t0 t1 => ?_⟩
      rw [v t t0 t1]
      dsimp only
      by_cases w : bg ≤ t ∧ t < bg + i
      · rw [if_pos w, if_pos (by omega)]
      · rw [if_neg w, if_neg (by omega)]
