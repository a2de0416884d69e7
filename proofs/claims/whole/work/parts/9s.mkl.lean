/-! CALLS: make: the component's lengths and sources, and where the piece ends -/
def n_lz (g : m_H) (k d o : Int) : Int := if m_g g (153 + k) o = 12 then n_L g k d (m_g g (163 + k) o) else n_L g k d o
def n_mkA (g y x : m_H) (k d o : Int) (f : Int → Int) : Prop := n_I x ∧ x.2 = y.2 ∧ (∀ b j, b ≠ 112 → b ≠ 113 → m_g x b j = m_g y b j) ∧ ∀ q, 0 ≤ q → q < o → m_g x 113 q = f q ∧ m_g x 112 q = n_lz g k d q
theorem n_laysLoop {g y : m_H} {k a d : Int} {f : Int → Int} (I : n_I y) (W : n_scw y g k a) (la : 312 ≤ a) (lc : 312 ≤ m_g y a 0) (e106 : m_g y 106 2 = a) (D : ∀ o, 0 ≤ o → o < m_g g 151 k → m_g y 24 o = f o) (Rw : ∀ o, 0 ≤ o → o < m_g g 151 k → m_g g (153 + k) o ≠ 12 → m_g y (26 + 2 * o) 1 = n_L g k d o ∧ 1 ≤ n_L g k d o ∧ n_L g k d o ≤ 1500) (eb : ∀ n : Nat, n ≤ m_g g 151 k → 0 ≤ n_eT g k d n ∧ n_eT g k d n ≤ 3000) : ∀ (m : Nat) (o : Int) (x : m_H), 0 ≤ o → m_g g 151 k = o + m → n_mkA g y x k d o f → ∃ x', t2_layAll_c16 106 20 (n_eT g k d o.toNat) o x = (if m_t x' (m_g x' 106 1) = 5 then t5_silence (m_g x' 106 1) (n_eT g k d (m_g g 151 k).toNat) x' >>= fun ⟨_, h65⟩ => t2_layAll_c147 106 20 0 h65 else none) ∧ n_mkA g y x' k d (m_g g 151 k) f := by
  have C3 := W.2.1
  have Wx : ∀ x o, n_mkA g y x k d o f → n_scw x g k a := fun x o S => n_scw_e W (n_e2t S.2.1 a) (n_e2t S.2.1 _) (n_e2l S.2.1 _) (fun j _ => S.2.2.1 a j (by omega) (by omega)) (fun j => S.2.2.1 _ j (by omega) (by omega))
  intro m
  induction m with
  | zero =>
    intro o x o0 em S
    have eo : o = m_g g 151 k := by omega
    have Wz := Wx x o S
    have e6 : m_g x 106 2 = a := (S.2.2.1 106 2 (by omega) (by omega)).trans e106
    refine ⟨x, ?_, by rw [← eo]; exact S⟩
    rw [t2_layAll_c16, if_pos (n_t106 S.1.2), e6, if_pos Wz.1.1, Wz.1.2.1, if_neg (by rw [eo]; omega), eo]
  | succ m ih =>
    intro o x o0 em S
    have Wz := Wx x o S
    obtain ⟨J, x2, e, v⟩ := S
    have F := J.2
    have e6 : m_g x 106 2 = a := (e 106 2 (by omega) (by omega)).trans e106
    have l24 := n_l24 F
    have l112 := n_l112 F
    have l113 := n_l113 F
    have e24 : m_g x 24 o = f o := (e 24 o (by omega) (by omega)).trans (D o o0 (by omega))
    have tb := n_tm_b (W.2.2.2 o o0 (by omega))
    have ee := n_eT_s g k d o.toNat
    rw [show ((o.toNat : Nat) : Int) = o by omega, show o.toNat + 1 = (o + 1).toNat by omega] at ee
    have eb0 := eb o.toNat (by omega)
    have eb1 := eb (o + 1).toNat (by omega)
    -- the heap behind the two entries
    have J1 : n_I (m_p x 113 o (f o)) := n_I_pa J (Or.inl (n_t113 F))
    have r1 : ∀ b j, b ≠ 113 → m_g (m_p x 113 o (f o)) b j = m_g x b j := fun b j h => n_gp_n (by omega)
    have r2 : ∀ q, m_g (m_p x 113 o (f o)) 113 q = if q = o then f o else m_g x 113 q := fun q => by
      by_cases c : q = o
      · rw [if_pos c, c, n_gp_y ⟨rfl, rfl⟩]
      · rw [if_neg c, n_gp_n (by omega)]
    have r3 : (m_p x 113 o (f o)).2 = x.2 := rfl
    have W1 : n_scw (m_p x 113 o (f o)) g k a := n_scw_e Wz (n_e2t r3 a) (n_e2t r3 _) (n_e2l r3 _) (fun j _ => r1 a j (by omega)) (fun j => r1 _ j (by have := Wz.1; have := e a 0 (by omega) (by omega); omega))
    have b163 := (W.2.2.2 o o0 (by omega)).2.2.2.1
    rw [t2_layAll_c16, if_pos (n_t106 F), e6, if_pos Wz.1.1, Wz.1.2.1, m_w_of (x := o) (by omega) (by omega), m_w_of (x := m_g g 151 k) (by omega) (by omega), if_pos (by omega), if_pos (n_t20 F), n_p20_3 F, n_entry_y (n_t24 F) (by omega) o0 (by omega), n_bs]
    dsimp only
    rw [n_p106_5 F, n_setEntry_y (n_t113 F) (by omega) o0 (by omega), n_bs, e24]
    generalize m_p x 113 o (f o) = z at *
    have F1 := J1.2
    have z6 : m_g z 106 2 = a := (r1 106 2 (by omega)).trans e6
    dsimp only
    rw [if_pos (n_t106 F1), z6, if_pos W1.1.1, n_isPutW W1 o0 (by omega), n_bs]
    dsimp only
    rw [n_p106_4 F1]
    have fin : ∀ s, s = n_lz g k d o → n_mkA g y (m_p z 112 o s) k d (o + 1) f ∧ n_I (m_p z 112 o s) ∧ n_scw (m_p z 112 o s) g k a ∧ m_g (m_p z 112 o s) 106 2 = a ∧ m_g (m_p z 112 o s) 112 o = s := fun s hs => by
      have J2 : n_I (m_p z 112 o s) := n_I_pa J1 (Or.inl (n_t112 F1))
      have u1 : ∀ b j, ¬ (b = 112 ∧ j = o) → m_g (m_p z 112 o s) b j = m_g z b j := fun b j h => n_gp_n h
      have u2 : m_g (m_p z 112 o s) 112 o = s := n_gp_y ⟨rfl, rfl⟩
      have u3 : (m_p z 112 o s).2 = z.2 := rfl
      refine ⟨⟨J2, u3.trans (r3.trans x2), fun b j h1 h2 => (u1 b j (by omega)).trans ((r1 b j h2).trans (e b j h1 h2)), fun q q0 q1 => ?_⟩, J2, n_scw_e W1 (n_e2t u3 a) (n_e2t u3 _) (n_e2l u3 _) (fun j _ => u1 a j (by omega)) (fun j => u1 _ j (by have := r1 a 0 (by omega); have := e a 0 (by omega) (by omega); omega)), (u1 106 2 (by omega)).trans z6, u2⟩
      by_cases c : q = o
      · rw [c, u1 113 o (by omega), r2, if_pos rfl, u2]
        exact ⟨rfl, hs⟩
      · have := v q q0 (by omega)
        rw [u1 113 q (by omega), r2, if_neg c, u1 112 q (by omega), r1 112 q (by omega)]
        exact this
    by_cases c : m_g g (153 + k) o = 12
    · have qn := b163 (by omega)
      have rw1 := Rw _ qn.1 (by omega) qn.2.2
      have p1 := (n_prt F1 qn.1 (by omega)).1
      have pb := (n_putB (W.2.2.2 o o0 (by omega)) c).2.2.2.1
      have tmv : n_tm g k o = m_g g (213 + k) o := by unfold n_tm; rw [if_pos c]
      have bgb := n_bg_b (j := n_tm g k o - 1) (W.2.2.2 o o0 (by omega)) c (by omega) (by omega)
      have z1 : m_g z (26 + 2 * m_g g (163 + k) o) 1 = n_L g k d (m_g g (163 + k) o) := by
        rw [r1 _ _ (by omega), e _ _ (by omega) (by omega)]
        exact rw1.1
      obtain ⟨g1, g2, g3, g4, g5⟩ := fin (n_L g k d (m_g g (163 + k) o)) (by unfold n_lz; rw [if_pos c])
      rw [if_pos c] at ee
      rw [decide_eq_true c]
      rw [if_pos rfl, if_pos (n_t106 F1), z6, if_pos W1.1.1, n_oneW W1 o0 (by omega), n_bs]
      dsimp only
      rw [if_pos (n_t20 F1), n_rowC J1 qn.1 (by omega), n_bs]
      dsimp only
      rw [if_pos p1, n_size p1, n_bs, z1]
      dsimp only
      rw [n_setEntry_y (n_t112 F1) (by have := n_l112 F1; omega) o0 (by have := n_l112 F1; omega), n_bs]
      generalize m_p z 112 o (n_L g k d (m_g g (163 + k) o)) = w at *
      rw [if_pos (n_t106 g2.2), g4, if_pos g3.1.1, n_isPutW g3 o0 (by omega), n_bs, decide_eq_true c]
      dsimp only
      rw [if_pos rfl, if_pos (n_t106 g2.2), n_timesW g2 g4 g3 o0 (by omega), n_bs]
      dsimp only
      rw [if_pos (n_t106 g2.2), n_beginW g2 g4 g3 o0 (by omega) c, n_bs]
      dsimp only
      rw [if_pos (n_t106 g2.2)]
      unfold t2_length
      rw [if_pos (n_t106 g2.2), n_p106_4 g2.2, n_entry_y (n_t112 g2.2) (by have := n_l112 g2.2; omega) o0 (by have := n_l112 g2.2; omega), n_bs, n_bs, n_bs, g5, n_max (by omega) (by omega) (by omega) (by omega), ← ee]
      exact ih (o + 1) w (by omega) (by omega) g1
    · have rw1 := Rw o o0 (by omega) c
      have p1 := (n_prt F1 o0 (by omega)).1
      have z1 : m_g z (26 + 2 * o) 1 = n_L g k d o := by
        rw [r1 _ _ (by omega), e _ _ (by omega) (by omega)]
        exact rw1.1
      obtain ⟨g1, g2, g3, g4, g5⟩ := fin (n_L g k d o) (by unfold n_lz; rw [if_neg c])
      rw [if_neg c] at ee
      rw [decide_eq_false c]
      rw [if_neg (by decide), if_pos (n_t20 F1), n_rowC J1 o0 (by omega), n_bs]
      dsimp only
      rw [if_pos p1, n_size p1, n_bs, z1]
      dsimp only
      rw [n_setEntry_y (n_t112 F1) (by have := n_l112 F1; omega) o0 (by have := n_l112 F1; omega), n_bs]
      generalize m_p z 112 o (n_L g k d o) = w at *
      rw [if_pos (n_t106 g2.2), g4, if_pos g3.1.1, n_isPutW g3 o0 (by omega), n_bs, decide_eq_false c]
      dsimp only
      rw [if_neg (by decide), ← ee]
      exact ih (o + 1) w (by omega) (by omega) g1
