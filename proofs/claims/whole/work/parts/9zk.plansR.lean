/-! CALLS: turns, turnOf: the reference's plan -/
/-- the turns are noted of all steps that are done -/
def n_tn (f : Nat → Nat) (n : Nat) (x : m_H) (t : Nat) : Prop := ∀ j, j < n → (n_dsq f t).testBit j = true → ∃ u : Nat, u < t ∧ (f (n_dsq f u)).testBit j = true ∧ m_g x 306 j = (u : Int) + 1
theorem n_note306 {g hq : m_H} {k a : Int} (C : n_scc hq g k a) {V : Nat → Int} (c9 : n_cn g k (m_g g 151 k).toNat ≤ 9) {D S : Nat} {tt : Int} (hD : D < 512) (hS : S < 512) : ∀ (m i : Nat) (x : m_H), n_cn g k (m_g g 151 k).toNat = i + m → n_vM g x k V → ∃ x', t11_plans_x205 270 127 k D tt S i x = t11_plans_x205 205 127 k ((D ||| S : Nat) : Int) tt 0 0 x' ∧ n_vM g x' k V ∧ ∀ j : Nat, m_g x' 306 j = if i ≤ j ∧ j < n_cn g k (m_g g 151 k).toNat ∧ S.testBit j = true then tt else m_g x 306 j := by
  intro m
  induction m with
  | zero =>
    intro i x em X
    have I := X.1.1.1.1
    refine ⟨x, ?_, X, fun j => by rw [if_neg (by omega)]⟩
    rw [t11_plans_x205, if_neg (by omega), if_neg (by omega), if_pos rfl, if_pos (n_t127 I.2), X.1.1.2.1, if_neg (by rw [em]; simp), n_orN hD hS, n_bs]
  | succ m ih =>
    intro i x em X
    have I := X.1.1.1.1
    have s1 := X.1.1.2.1
    have l6 := n_l306 I.2
    by_cases c : S.testBit i = true
    · have X2 : n_vM g (m_p x 306 i tt) k V := by
        obtain ⟨⟨⟨⟨I, g2, e⟩, s1, s2⟩, s3⟩, s4⟩ := X
        exact ⟨⟨⟨⟨n_I_pa I (Or.inl (n_t306 I.2)), g2, fun b j h1 h2 => by rw [n_gp_n (by omega)]; exact e b j h1 h2⟩, by rw [n_gp_n (by omega)]; exact s1, fun i hi => by rw [n_gp_n (by omega)]; exact s2 i hi⟩, fun i hi => by rw [n_gp_n (by omega)]; exact s3 i hi⟩, fun E hE => by rw [n_gp_n (by omega)]; exact s4 E hE⟩
      obtain ⟨x', e1, X', e2⟩ := ih (i + 1) _ (by omega) X2
      refine ⟨x', ?_, X', fun j => ?_⟩
      · rw [t11_plans_x205, if_neg (by omega), if_neg (by omega), if_pos rfl, if_pos (n_t127 I.2), s1, m_w_of (x := (i : Int)) (by omega) (by omega), m_w_of (x := (n_cn g k (m_g g 151 k).toNat : Int)) (by omega) (by omega), if_pos (by omega), n_shrN hS (by omega), if_pos c, m_w_of (x := 1) (by omega) (by omega), if_pos rfl, n_p127_78 I.2, if_pos ⟨n_t306 I.2, by omega, by omega⟩, n_bs]
        exact e1
      · rw [e2 j]
        by_cases w : j = i
        · rw [w, if_neg (by omega), n_gp_y ⟨rfl, rfl⟩, if_pos ⟨Nat.le_refl _, by omega, c⟩]
        · rw [n_gp_n (by omega)]
          by_cases v : i + 1 ≤ j ∧ j < n_cn g k (m_g g 151 k).toNat ∧ S.testBit j = true
          · rw [if_pos v, if_pos ⟨by omega, v.2⟩]
          · rw [if_neg v, if_neg (fun z => v ⟨by omega, z.2⟩)]
    · obtain ⟨x', e1, X', e2⟩ := ih (i + 1) x (by omega) X
      refine ⟨x', ?_, X', fun j => ?_⟩
      · rw [t11_plans_x205, if_neg (by omega), if_neg (by omega), if_pos rfl, if_pos (n_t127 I.2), s1, m_w_of (x := (i : Int)) (by omega) (by omega), m_w_of (x := (n_cn g k (m_g g 151 k).toNat : Int)) (by omega) (by omega), if_pos (by omega), n_shrN hS (by omega), if_neg c, m_w_of (x := 0) (by omega) (by omega), if_neg (by omega)]
        exact e1
      · rw [e2 j]
        by_cases w : j = i
        · rw [w, if_neg (by omega), if_neg (fun z => c z.2.2)]
        · by_cases v : i + 1 ≤ j ∧ j < n_cn g k (m_g g 151 k).toNat ∧ S.testBit j = true
          · rw [if_pos v, if_pos ⟨by omega, v.2⟩]
          · rw [if_neg v, if_neg (fun z => v ⟨by omega, z.2⟩)]
/-- the reference's values, with its own bound -/
def n_V1 (V : Nat → Int) (D : Nat) : Int := if V D = 1000000 then 1000 else V D
/-- one turn of the plan is found -/
theorem n_findR {g hq : m_H} {k a : Int} (C : n_scc hq g k a) (M : 0 ≤ m_g g 127 23 ∧ m_g g 127 23 ≤ 4) (c9 : n_cn g k (m_g g 151 k).toNat ≤ 9) {V : Nat → Int} (X : n_Vs 1000000 (n_vP g k (m_g g 151 k).toNat) (2 ^ n_cn g k (m_g g 151 k).toNat - 1) V) {D v : Nat} {tt : Int} (hD : D < 2 ^ n_cn g k (m_g g 151 k).toNat) (fin : V D ≠ 1000000) (fs : n_fst (n_vP g k (m_g g 151 k).toNat) V D v) : ∀ (m w : Nat) (x : m_H), v = w + m → 1 ≤ w → n_vM g x k (n_V1 V) → ∃ x', t11_plans_x205 223 127 k D tt w 0 x = t11_plans_x205 270 127 k D tt v 0 x' ∧ n_vM g x' k (n_V1 V) ∧ ∀ j, m_g x' 306 j = m_g x 306 j := by
  have p9 := n_pow9 c9
  have X1 : n_Vs 1000 (n_vP g k (m_g g 151 k).toNat) (2 ^ n_cn g k (m_g g 151 k).toNat - 1) (n_V1 V) := n_Vs_cap X p9.2 p9.1
  have vlt := n_val_lt fs.1.1
  have rD := n_Vs_fin X p9.2 (2 ^ n_cn g k (m_g g 151 k).toNat) D (by omega) hD
  have eD : n_V1 V D = V D := by unfold n_V1; rw [if_neg fin]
  have rkle : ∀ E, n_rk E (n_cn g k (m_g g 151 k).toNat) < 12 := fun E => by
    have := n_rk_le E (n_cn g k (m_g g 151 k).toNat)
    omega
  intro m
  induction m with
  | zero =>
    intro w x em w1 S
    have ew : w = v := by omega
    subst ew
    have I := S.1.1.1.1
    have u := n_val_up fs.1.1 hD
    obtain ⟨r, er, hr⟩ := n_canR C M S.1 c9 (S := w) (D := D) (by omega) (by omega)
    have rt : r = true := hr.mpr ⟨fs.1.1.2.2, fun i _ hi => (fs.1.1.2.1 i hi).2.2⟩
    obtain ⟨y1, e1, Y1, z1⟩ := n_leastR C M c9 X1 12 (D ||| w) x u.2 (rkle _) S
    obtain ⟨y2, e2, Y2, z2⟩ := n_leastR C M c9 X1 12 D y1 hD (rkle _) Y1
    have dis : w &&& D = 0 := by
      apply Nat.eq_of_testBit_eq
      intro i
      rw [Nat.testBit_and, Nat.zero_testBit]
      cases hx : w.testBit i
      · rfl
      · rw [(fs.1.1.2.1 i hx).2.1]; rfl
    have fin2 : V (D ||| w) ≠ 1000000 := by have := fs.1.2; omega
    have e3 : n_V1 V (D ||| w) = V (D ||| w) := by unfold n_V1; rw [if_neg fin2]
    refine ⟨y2, ?_, Y2, fun j => (z2 j).trans (z1 j)⟩
    rw [t11_plans_x205, if_neg (by omega), if_pos rfl, n_andN (X := w) (Y := D) (by omega) (by omega), dis, m_w_of (x := ((0 : Nat) : Int)) (by omega) (by omega), if_pos (show ((0 : Nat) : Int) = 0 from rfl), if_pos (n_t127 I.2), er, n_bs, rt]
    dsimp only
    unfold t11_least
    rw [if_pos rfl, if_pos (n_t127 I.2), n_orN (by omega) (by omega), e1, n_bs]
    dsimp only
    rw [if_pos (n_t127 Y1.1.1.1.1.2), e2, n_bs]
    dsimp only
    rw [e3, eD, fs.1.2, if_pos rfl]
  | succ m ih =>
    intro w x em w1 S
    have I := S.1.1.1.1
    have no := fs.2 w (by omega)
    have cast : ((w + 1 : Nat) : Int) = (w : Int) + 1 := by omega
    have andle : w &&& D ≤ w := Nat.and_le_left
    rw [t11_plans_x205, if_neg (by omega), if_pos rfl, n_andN (X := w) (Y := D) (by omega) (by omega), m_w_of (x := ((w &&& D : Nat) : Int)) (by omega) (by omega)]
    by_cases dis : w &&& D = 0
    · obtain ⟨r, er, hr⟩ := n_canR C M S.1 c9 (S := w) (D := D) (by omega) (by omega)
      rw [dis, if_pos (show ((0 : Nat) : Int) = 0 from rfl), if_pos (n_t127 I.2), er, n_bs]
      dsimp only
      by_cases cr : r = true
      · have q := hr.mp cr
        have wlt : w < 2 ^ n_cn g k (m_g g 151 k).toNat := by omega
        have bits : ∀ i, w.testBit i = true → i < n_cn g k (m_g g 151 k).toNat ∧ D.testBit i = false ∧ n_sub (n_nd g k (m_g g 151 k).toNat i) D := fun i hi => by
          have i9 : i < n_cn g k (m_g g 151 k).toNat := by
            by_cases z : i < n_cn g k (m_g g 151 k).toNat
            · exact z
            · have : w < 2 ^ i := Nat.lt_of_lt_of_le wlt (Nat.pow_le_pow_right (by omega) (by omega))
              rw [Nat.testBit_lt_two_pow this] at hi
              cases hi
          refine ⟨i9, ?_, q.2 i i9 hi⟩
          have z : (w &&& D).testBit i = false := by rw [dis]; exact Nat.zero_testBit i
          rw [Nat.testBit_and, hi, Bool.true_and] at z
          exact z
        have Pw : n_vP g k (m_g g 151 k).toNat D w := ⟨by omega, bits, q.1⟩
        have u := n_val_up Pw hD
        obtain ⟨y1, e1, Y1, z1⟩ := n_leastR C M c9 X1 12 (D ||| w) x u.2 (rkle _) S
        obtain ⟨y2, e2, Y2, z2⟩ := n_leastR C M c9 X1 12 D y1 hD (rkle _) Y1
        have rw' := n_Vs_fin X p9.2 (2 ^ n_cn g k (m_g g 151 k).toNat) (D ||| w) (by omega) u.2
        have ne : n_V1 V (D ||| w) + 1 ≠ V D := fun z => by
          unfold n_V1 at z
          by_cases c : V (D ||| w) = 1000000
          · rw [if_pos c] at z
            omega
          · rw [if_neg c] at z
            exact no ⟨Pw, z⟩
        have rV : 0 ≤ n_V1 V (D ||| w) ∧ n_V1 V (D ||| w) ≤ 1000 := by
          unfold n_V1
          split <;> omega
        unfold t11_least
        rw [if_pos cr, if_pos (n_t127 I.2), n_orN (by omega) (by omega), e1, n_bs]
        dsimp only
        rw [if_pos (n_t127 Y1.1.1.1.1.2), e2, n_bs]
        dsimp only
        rw [eD, m_w_of (x := n_V1 V (D ||| w) + 1) (by omega) (by omega), m_w_of (x := V D) (by omega) (by omega), if_neg ne]
        obtain ⟨x', f1, f2, f3⟩ := ih (w + 1) y2 (by omega) (by omega) Y2
        rw [cast] at f1
        exact ⟨x', f1, f2, fun j => by rw [f3, z2, z1]⟩
      · rw [if_neg cr]
        have q := ih (w + 1) x (by omega) (by omega) S
        rw [cast] at q
        exact q
    · rw [if_neg (by omega)]
      have q := ih (w + 1) x (by omega) (by omega) S
      rw [cast] at q
      exact q
