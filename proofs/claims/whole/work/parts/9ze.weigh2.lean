/-! CALLS: turns: the component's table -/
theorem n_wG_118 {h x : m_H} {k a v : Int} {N : Nat} {D : Int} (G : n_wG h x k a N) : n_wG h (m_p x 118 D v) k a N := by
  obtain ⟨⟨I, x2, e⟩, ⟨s4, s5, s6⟩, s7, s8⟩ := G
  refine ⟨⟨n_I_pa I (Or.inl (n_t118 I.2)), x2, fun b j hb => by rw [n_gp_n (by omega)]; exact e b j hb⟩, ⟨by rw [n_gp_n (by omega)]; exact s4, by rw [n_gp_n (by omega)]; exact s5, by rw [n_gp_n (by omega)]; exact s6⟩, fun q hq => by rw [n_gp_n (by omega)]; exact s7 q hq, fun i hi => by rw [n_gp_n (by omega), n_gp_n (by omega)]; exact s8 i hi⟩
theorem n_leftC {x : m_H} (I : n_I x) {D : Nat} (hD : D < 512) : t9_leftFrom 114 D x = some (m_g x 118 D, x) := by
  have l := n_l118 I.2
  unfold t9_leftFrom
  rw [if_pos (n_t114 I.2), n_p114_3 I.2, n_entry_y (n_t118 I.2) (by omega) (by omega) (by omega), n_bs]
theorem n_wgIn {h x : m_H} {k a : Int} (C : n_scc h h k a) (M : 0 ≤ m_g h 127 23 ∧ m_g h 127 23 ≤ 4) (G : n_wG h x k a (m_g h 151 k).toNat) (c9 : n_cn h k (m_g h 151 k).toNat ≤ 9) {D R : Nat} (hD : D < 2 ^ n_cn h k (m_g h 151 k).toNat) (R1 : R < 2 ^ n_cn h k (m_g h 151 k).toNat) (hR : ∀ i, R.testBit i = true ↔ (i < n_cn h k (m_g h 151 k).toNat ∧ D.testBit i = false ∧ n_sub (n_nd h k (m_g h 151 k).toNat i) D)) (rg : ∀ j : Nat, D < j → j < 2 ^ n_cn h k (m_g h 151 k).toNat → 0 ≤ m_g x 118 j ∧ m_g x 118 j ≤ 1000000) : ∀ (m S : Nat) (L : Int), S ≤ m → n_sub S R → 0 ≤ L → L ≤ 1000000 → (∀ T, n_vP h k (m_g h 151 k).toNat D T → S < T → L ≤ m_g x 118 ((D ||| T : Nat) : Int) + 1) → (L = 1000000 ∨ ∃ T, n_vP h k (m_g h 151 k).toNat D T ∧ L = m_g x 118 ((D ||| T : Nat) : Int) + 1) → ∃ r, t9_weigh_x22 39 114 D R L S x = t9_weigh_x22 22 114 (D + -1) 0 0 0 (m_p x 118 D r) ∧ n_mn 1000000 (n_vP h k (m_g h 151 k).toNat) (fun j => m_g x 118 j) D r ∧ 0 ≤ r := by
  have F := G.1
  have I := F.1
  have p9 := n_pow9 c9
  have l8 := n_l118 I.2
  intro m
  induction m with
  | zero =>
    intro S L em hS L0 L1 lo at'
    have eS : S = 0 := by omega
    subst eS
    refine ⟨L, ?_, ⟨L1, fun T hT => lo T hT (by have := hT.1; omega), at'⟩, L0⟩
    rw [t9_weigh_x22, if_neg (by omega), if_pos rfl, if_neg (by rw [m_w_of (by omega) (by omega)]; omega), if_pos (n_t114 I.2), n_p114_3 I.2, n_setEntry_y (n_t118 I.2) (by omega) (by omega) (by omega), n_bs]
  | succ m ih =>
    intro S L em hS L0 L1 lo at'
    by_cases z : S = 0
    · subst z
      refine ⟨L, ?_, ⟨L1, fun T hT => lo T hT (by have := hT.1; omega), at'⟩, L0⟩
      rw [t9_weigh_x22, if_neg (by omega), if_pos rfl, if_neg (by rw [m_w_of (by omega) (by omega)]; omega), if_pos (n_t114 I.2), n_p114_3 I.2, n_setEntry_y (n_t118 I.2) (by omega) (by omega) (by omega), n_bs]
    · have Sle := n_sub_le _ _ hS
      have nx := n_next R S
      have S2 : n_sub ((S - 1) &&& R) R := fun j hj => by
        rw [Nat.testBit_and, Bool.and_eq_true] at hj
        exact hj.2
      have S3 : (S - 1) &&& R ≤ S - 1 := Nat.and_le_left
      have toR : ∀ T, n_vP h k (m_g h 151 k).toNat D T → n_sub T R := fun T hT j hj => (hR j).mpr (hT.2.1 j hj)
      have below : ∀ T, n_vP h k (m_g h 151 k).toNat D T → (S - 1) &&& R < T → T = S ∨ S < T := fun T hT lt => by
        by_cases w : T < S
        · have := nx T hS (toR T hT) w
          omega
        · omega
      -- whether S itself counts
      have bits : ∀ i, S.testBit i = true → i < n_cn h k (m_g h 151 k).toNat ∧ D.testBit i = false ∧ n_sub (n_nd h k (m_g h 151 k).toNat i) D := fun i hi => (hR i).mp (hS i hi)
      have u : D < D ||| S ∧ D ||| S < 2 ^ n_cn h k (m_g h 151 k).toNat := n_val_up (fit := fun _ => true) (nd := n_nd h k (m_g h 151 k).toNat) ⟨z, bits, rfl⟩ hD
      have rv := rg _ u.1 u.2
      have e80 : ∀ L', t9_weigh_x22 80 114 D R L' S x = t9_weigh_x22 39 114 D R L' ((S - 1) &&& R : Nat) x := fun L' => by
        rw [t9_weigh_x22, if_neg (by omega), if_neg (by omega), if_pos rfl, show (S : Int) - 1 = ((S - 1 : Nat) : Int) by omega, n_andN (Y := R) (by omega) (by omega), n_bs]
      have step : t9_weigh_x22 39 114 D R L S x = t9_weigh_x22 80 114 D R (if m_g x 118 ((D ||| S : Nat) : Int) + 1 < L ∧ n_fitN h k (m_g h 151 k).toNat S = true then m_g x 118 ((D ||| S : Nat) : Int) + 1 else L) S x := by
        rw [t9_weigh_x22, if_neg (by omega), if_pos rfl, m_w_of (x := (S : Int)) (by omega) (by omega), if_pos (by omega), if_pos (n_t114 I.2), n_orN (by omega) (by omega), n_leftC I (by omega), n_bs]
        dsimp only
        rw [m_w_of (x := m_g x 118 ((D ||| S : Nat) : Int) + 1) (by omega) (by omega), m_w_of (x := L) (by omega) (by omega)]
        by_cases c : m_g x 118 ((D ||| S : Nat) : Int) + 1 < L
        · rw [if_pos c, if_pos (n_t114 I.2), n_fitC C M G c9 (by omega), n_bs]
          dsimp only
          by_cases d : n_fitN h k (m_g h 151 k).toNat S = true
          · rw [if_pos d, if_pos (n_t114 I.2), n_leftC I (by omega), n_bs]
            dsimp only
            rw [n_bs, if_pos ⟨c, d⟩]
          · rw [if_neg d, if_neg (fun q => d q.2)]
        · rw [if_neg c, if_neg (fun q => c q.1)]
      rw [step, e80]
      by_cases c : m_g x 118 ((D ||| S : Nat) : Int) + 1 < L ∧ n_fitN h k (m_g h 151 k).toNat S = true
      · rw [if_pos c]
        have vS : n_vP h k (m_g h 151 k).toNat D S := ⟨z, bits, c.2⟩
        exact ih _ _ (by omega) S2 (by omega) (by omega) (fun T hT lt => by
          rcases below T hT lt with w | w
          · rw [w]
            omega
          · have := lo T hT w
            omega) (Or.inr ⟨S, vS, rfl⟩)
      · rw [if_neg c]
        exact ih _ _ (by omega) S2 L0 L1 (fun T hT lt => by
          rcases below T hT lt with w | w
          · rw [w]
            by_cases d : m_g x 118 ((D ||| S : Nat) : Int) + 1 < L
            · exact absurd ⟨d, by rw [← w]; exact hT.2.2⟩ c
            · omega
          · exact lo T hT w) at'
theorem n_wgOut {h : m_H} {k a : Int} (C : n_scc h h k a) (M : 0 ≤ m_g h 127 23 ∧ m_g h 127 23 ≤ 4) (c9 : n_cn h k (m_g h 151 k).toNat ≤ 9) : ∀ (m : Nat) (x : m_H), m < 2 ^ n_cn h k (m_g h 151 k).toNat → n_wG h x k a (m_g h 151 k).toNat → m_g x 118 ((2 ^ n_cn h k (m_g h 151 k).toNat - 1 : Nat) : Int) = 0 → (∀ j : Nat, m ≤ j → j < 2 ^ n_cn h k (m_g h 151 k).toNat - 1 → n_mn 1000000 (n_vP h k (m_g h 151 k).toNat) (fun i => m_g x 118 i) j (m_g x 118 j) ∧ 0 ≤ m_g x 118 j) → ∃ x', t9_weigh_x22 22 114 ((m : Int) - 1) 0 0 0 x = some ((), x') ∧ n_wG h x' k a (m_g h 151 k).toNat ∧ n_Vs 1000000 (n_vP h k (m_g h 151 k).toNat) (2 ^ n_cn h k (m_g h 151 k).toNat - 1) (fun i => m_g x' 118 i) := by
  have p9 := n_pow9 c9
  have bO := fun o o0 (o1 : o < ((m_g h 151 k).toNat : Int)) => n_scc_b C (o := o) o0 (by omega)
  intro m
  induction m with
  | zero =>
    intro x hm G z0 T
    refine ⟨x, ?_, G, z0, fun D hD => (T D (by omega) hD).1⟩
    rw [t9_weigh_x22, if_pos rfl, m_w_of (by omega) (by omega), if_pos (by omega)]
  | succ m ih =>
    intro x hm G z0 T
    have I := G.1.1
    obtain ⟨R, e1, R1, hR⟩ := n_readyC bO G c9 (D := m) (by omega)
    have rg : ∀ j : Nat, m < j → j < 2 ^ n_cn h k (m_g h 151 k).toNat → 0 ≤ m_g x 118 j ∧ m_g x 118 j ≤ 1000000 := fun j j1 j2 => by
      by_cases c : j = 2 ^ n_cn h k (m_g h 151 k).toNat - 1
      · rw [c, z0]; omega
      · have := T j (by omega) (by omega)
        exact ⟨this.2, this.1.1⟩
    obtain ⟨r, e2, mn, r0⟩ := n_wgIn C M G c9 (by omega) R1 hR rg R R 1000000 (Nat.le_refl _) (fun j hj => hj) (by omega) (by omega) (fun T' hT lt => by
      have := n_sub_le R T' (fun j hj => (hR j).mpr (hT.2.1 j hj))
      omega) (Or.inl rfl)
    have G2 := n_wG_118 (D := (m : Int)) (v := r) G
    have w : ∀ j : Nat, j ≠ m → m_g (m_p x 118 m r) 118 j = m_g x 118 j := fun j hj => n_gp_n (by omega)
    have w2 : m_g (m_p x 118 m r) 118 m = r := n_gp_y ⟨rfl, rfl⟩
    obtain ⟨x', e3, G3, V3⟩ := ih (m_p x 118 m r) (by omega) G2 (by rw [w _ (by omega)]; exact z0) (fun j j1 j2 => by
      by_cases c : j = m
      · subst c
        rw [w2]
        exact ⟨n_mn_e (fun S hS => w _ (by have := (n_val_up hS (by omega)).1; omega)) mn, r0⟩
      · rw [w j c]
        have q := T j (by omega) j2
        exact ⟨n_mn_e (fun S hS => w _ (by have := (n_val_up hS (by omega)).1; omega)) q.1, q.2⟩)
    refine ⟨x', ?_, G3, V3⟩
    rw [t9_weigh_x22, if_pos rfl, m_w_of (by omega) (by omega), if_neg (by omega), if_pos (n_t114 I.2), show ((m + 1 : Nat) : Int) - 1 = (m : Int) by omega, e1, n_bs]
    dsimp only
    rw [e2, show (m : Int) + -1 = (m : Int) - 1 by omega]
    exact e3
theorem n_weighC {h x : m_H} {k a : Int} (C : n_scc h h k a) (M : 0 ≤ m_g h 127 23 ∧ m_g h 127 23 ≤ 4) (c9 : n_cn h k (m_g h 151 k).toNat ≤ 9) (c1 : 1 ≤ n_cn h k (m_g h 151 k).toNat) (G : n_wG h x k a (m_g h 151 k).toNat) : ∃ x', t9_weigh 114 x = some ((), x') ∧ n_wG h x' k a (m_g h 151 k).toNat ∧ n_Vs 1000000 (n_vP h k (m_g h 151 k).toNat) (2 ^ n_cn h k (m_g h 151 k).toNat - 1) (fun i => m_g x' 118 i) := by
  have p9 := n_pow9 c9
  have I := G.1.1
  have l8 := n_l118 I.2
  have p2 : 2 ≤ 2 ^ n_cn h k (m_g h 151 k).toNat := Nat.pow_le_pow_right (show 0 < 2 by omega) c1
  obtain ⟨x', e, r⟩ := n_wgOut C M c9 (2 ^ n_cn h k (m_g h 151 k).toNat - 1) (m_p x 118 ((2 ^ n_cn h k (m_g h 151 k).toNat - 1 : Nat) : Int) 0) (by omega) (n_wG_118 G) (n_gp_y ⟨rfl, rfl⟩) (fun j j1 j2 => by omega)
  refine ⟨x', ?_, r⟩
  unfold t9_weigh
  rw [if_pos (n_t114 I.2), G.2.1.2.1, n_shlN (by omega), n_bs, n_p114_3 I.2, show ((2 ^ n_cn h k (m_g h 151 k).toNat : Nat) : Int) - 1 = ((2 ^ n_cn h k (m_g h 151 k).toNat - 1 : Nat) : Int) by omega, n_setEntry_y (n_t118 I.2) (by omega) (by omega) (by omega), n_bs]
  dsimp only
  rw [n_bs]
  exact e
