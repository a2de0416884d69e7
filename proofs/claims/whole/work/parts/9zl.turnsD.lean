/-! CALLS: turns, turnOf -/
theorem n_planR {g hq : m_H} {k a : Int} (C : n_scc hq g k a) (M : 0 ≤ m_g g 127 23 ∧ m_g g 127 23 ≤ 4) (c9 : n_cn g k (m_g g 151 k).toNat ≤ 9) {V : Nat → Int} {f : Nat → Nat} (P : n_plan g k V f) (fin : V 0 < 1000000) : ∀ (m t : Nat) (x : m_H), (V 0).toNat = t + m → n_vM g x k (n_V1 V) → n_tn f (n_cn g k (m_g g 151 k).toNat) x t → ∃ x', t11_plans_x205 205 127 k (n_dsq f t) t 0 0 x = some (true, x') ∧ n_vM g x' k (n_V1 V) ∧ n_tn f (n_cn g k (m_g g 151 k).toNat) x' (V 0).toNat := by
  have p9 := n_pow9 c9
  obtain ⟨X, T, v0, v1⟩ := P
  have T := T fin
  have v1 := v1 fin
  intro m
  induction m with
  | zero =>
    intro t x em S tn
    have I := S.1.1.1.1
    obtain ⟨t1, t2, -⟩ := T t (by omega)
    have rD := n_Vs_fin X p9.2 (2 ^ n_cn g k (m_g g 151 k).toNat) (n_dsq f t) (by omega) t1
    have eF : n_dsq f t = 2 ^ n_cn g k (m_g g 151 k).toNat - 1 := by
      by_cases c : n_dsq f t < 2 ^ n_cn g k (m_g g 151 k).toNat - 1
      · omega
      · omega
    refine ⟨x, ?_, S, by rw [show (V 0).toNat = t by omega]; exact tn⟩
    rw [t11_plans_x205, if_pos rfl, if_pos (n_t127 I.2), S.1.1.2.1, n_shlN (by omega), eF, show ((2 ^ n_cn g k (m_g g 151 k).toNat : Nat) : Int) - 1 = ((2 ^ n_cn g k (m_g g 151 k).toNat - 1 : Nat) : Int) by omega, if_pos rfl]
  | succ m ih =>
    intro t x em S tn
    have I := S.1.1.1.1
    obtain ⟨t1, t2, t3⟩ := T t (by omega)
    have fs := t3 (by omega)
    have nF : n_dsq f t ≠ 2 ^ n_cn g k (m_g g 151 k).toNat - 1 := fun z => by
      rw [z, X.1] at t2
      omega
    have vlt := n_val_lt fs.1.1
    obtain ⟨x1, f1, S1, w1⟩ := n_findR (tt := (t : Int) + 1) C M c9 X t1 (by omega) fs (f (n_dsq f t) - 1) 1 x (by have := fs.1.1.1; omega) (Nat.le_refl _) S
    obtain ⟨x2, f2, S2, w2⟩ := n_note306 (D := n_dsq f t) (S := f (n_dsq f t)) (tt := (t : Int) + 1) C c9 (by omega) (by omega) (n_cn g k (m_g g 151 k).toNat) 0 x1 (by omega) S1
    have tn2 : n_tn f (n_cn g k (m_g g 151 k).toNat) x2 (t + 1) := fun j hj bj => by
      rw [show n_dsq f (t + 1) = n_dsq f t ||| f (n_dsq f t) from rfl, Nat.testBit_or, Bool.or_eq_true] at bj
      by_cases c : (f (n_dsq f t)).testBit j = true
      · exact ⟨t, by omega, c, by rw [w2 j, if_pos ⟨by omega, hj, c⟩]⟩
      · obtain ⟨u, u1, u2, u3⟩ := tn j hj (bj.resolve_right c)
        exact ⟨u, by omega, u2, by rw [w2 j, if_neg (fun z => c z.2.2), w1 j]; exact u3⟩
    obtain ⟨x3, f3, S3, w3⟩ := ih (t + 1) x2 (by omega) S2 tn2
    refine ⟨x3, ?_, S3, w3⟩
    rw [show n_dsq f (t + 1) = n_dsq f t ||| f (n_dsq f t) from rfl, show ((t + 1 : Nat) : Int) = (t : Int) + 1 by omega] at f3
    rw [t11_plans_x205, if_pos rfl, if_pos (n_t127 I.2), S.1.1.2.1, n_shlN (by omega), show ((2 ^ n_cn g k (m_g g 151 k).toNat : Nat) : Int) - 1 = ((2 ^ n_cn g k (m_g g 151 k).toNat - 1 : Nat) : Int) by omega, m_w_of (x := (n_dsq f t : Int)) (by omega) (by omega), m_w_of (x := ((2 ^ n_cn g k (m_g g 151 k).toNat - 1 : Nat) : Int)) (by omega) (by omega), if_neg (by omega)]
    exact (show t11_plans_x205 223 127 k (n_dsq f t) ((t : Int) + 1) 1 0 x = _ from f1).trans ((show t11_plans_x205 270 127 k (n_dsq f t) ((t : Int) + 1) (f (n_dsq f t)) 0 x1 = _ from f2).trans f3)
theorem n_zero305 {g hq : m_H} {k a : Int} (C : n_scc hq g k a) {V : Nat → Int} (c9 : n_cn g k (m_g g 151 k).toNat ≤ 9) : ∀ (m i : Nat) (x : m_H), 2 ^ n_cn g k (m_g g 151 k).toNat = i + m → n_vT g x k (m_g g 151 k).toNat → (∀ j : Nat, j < i → m_g x 305 j = 0) → ∃ x', t11_plans_c164 127 k i x = (t11_least 127 k 0 x' >>= fun ⟨r6, h5⟩ => (if (m_w r6) < 1000 then (t11_plans_x205 205 127 k 0 0 0 0 h5) else some (false, h5))) ∧ n_vM g x' k V := by
  have p9 := n_pow9 c9
  intro m
  induction m with
  | zero =>
    intro i x em S z
    have I := S.1.1.1
    refine ⟨x, ?_, S, fun D hD => Or.inl (z D (by omega))⟩
    rw [t11_plans_c164, if_pos (n_t127 I.2), S.1.2.1, n_shlN (by omega), em, if_neg (by simp)]
  | succ m ih =>
    intro i x em S z
    have S' := S
    obtain ⟨⟨⟨I, g2, e⟩, s1, s2⟩, s3⟩ := S'
    have l5 := n_l305 I.2
    obtain ⟨x', f1, r⟩ := ih (i + 1) (m_p x 305 i 0) (by omega) ⟨⟨⟨n_I_pa I (Or.inl (n_t305 I.2)), g2, fun b j h1 h2 => by rw [n_gp_n (by omega)]; exact e b j h1 h2⟩, by rw [n_gp_n (by omega)]; exact s1, fun j hj => by rw [n_gp_n (by omega)]; exact s2 j hj⟩, fun j hj => by rw [n_gp_n (by omega)]; exact s3 j hj⟩ (fun j hj => by
      by_cases c : j = i
      · rw [c, n_gp_y ⟨rfl, rfl⟩]
      · rw [n_gp_n (by omega)]
        exact z j (by omega))
    refine ⟨x', ?_, r⟩
    rw [t11_plans_c164, if_pos (n_t127 I.2), s1, n_shlN (by omega)]
    generalize 2 ^ n_cn g k (m_g g 151 k).toNat = p at *
    rw [m_w_of (x := (i : Int)) (by omega) (by omega), m_w_of (x := (p : Int)) (by omega) (by omega), if_pos (by omega), n_p127_77 I.2, if_pos ⟨n_t305 I.2, by omega, by omega⟩, n_bs]
    exact f1
theorem n_plansR {g hq : m_H} {k a : Int} (I : n_I g) (C : n_scc hq g k a) (M : 0 ≤ m_g g 127 23 ∧ m_g g 127 23 ≤ 4) (c43 : k < m_g g 127 43) (l43 : m_g g 127 43 ≤ 8) : (¬ (1 ≤ n_cn g k (m_g g 151 k).toNat ∧ n_cn g k (m_g g 151 k).toNat ≤ 9) → ∃ g', t11_plans 127 k g = some (false, g') ∧ n_vF g g') ∧ (1 ≤ n_cn g k (m_g g 151 k).toNat ∧ n_cn g k (m_g g 151 k).toNat ≤ 9 → ∀ V f, n_plan g k V f → ∃ g', t11_plans 127 k g = some (decide (V 0 < 1000000), g') ∧ n_vF g g' ∧ (V 0 < 1000000 → n_vM g g' k (n_V1 V) ∧ n_tn f (n_cn g k (m_g g 151 k).toNat) g' (V 0).toNat)) := by
  have C3 := C.2.2.1
  have k0 := C.2.1.1
  have k8 := C.2.1.2
  have eS := n_isScore (s := k) I (by omega) l43
  rw [m_w_of (x := k) (by omega) (by omega), decide_eq_true (show 0 ≤ k ∧ k < m_g g 127 43 from ⟨k0, c43⟩)] at eS
  have J : n_I (m_p g 127 79 0) := n_I_p I (by rw [n_t127 I.2]; omega) (by rw [n_t127 I.2]; omega) rfl
  have S0 : n_vS g (m_p g 127 79 0) k 0 := ⟨⟨J, rfl, fun b j h1 h2 => n_gp_n h2⟩, n_gp_y ⟨rfl, rfl⟩, fun i hi => by unfold n_cn at hi; omega⟩
  have e0 : t11_plans 127 k g = t11_plans_c17 127 k ((0 : Nat) : Int) (m_p g 127 79 0) := by
    unfold t11_plans
    rw [if_pos (n_t127 I.2), eS, n_bs]
    dsimp only
    rw [if_pos rfl, if_pos (n_t127 I.2), n_bs]
    rfl
  obtain ⟨A, B⟩ := n_plans17 C (m_g g 151 k).toNat 0 _ (by omega) (by unfold n_cn; omega) S0
  constructor
  · intro c
    obtain ⟨g', e1, F⟩ := A c
    exact ⟨g', e0.trans e1, F⟩
  · intro c V f P
    have c9 := c.2
    have p9 := n_pow9 c9
    obtain ⟨g1, e1, S1⟩ := B c
    obtain ⟨g2, e2, S2⟩ := n_plans103 C c9 (n_cn g k (m_g g 151 k).toNat) 0 g1 (by omega) S1 (fun j hj => by omega)
    have X1 : n_Vs 1000 (n_vP g k (m_g g 151 k).toNat) (2 ^ n_cn g k (m_g g 151 k).toNat - 1) (n_V1 V) := n_Vs_cap P.1 p9.2 p9.1
    obtain ⟨g3, e3, S3⟩ := n_zero305 (V := n_V1 V) C c9 (2 ^ n_cn g k (m_g g 151 k).toNat) 0 g2 (by omega) S2 (fun j hj => by omega)
    obtain ⟨g4, e4, S4, w4⟩ := n_leastR C M c9 X1 12 0 g3 (by omega) (by have := n_rk_le 0 (n_cn g k (m_g g 151 k).toNat); omega) S3
    have fn := n_Vs_fin P.1 p9.2 (2 ^ n_cn g k (m_g g 151 k).toNat) 0 (by omega) (by omega)
    have e4' : t11_least 127 k 0 g3 = some (n_V1 V 0, g4) := e4
    have all : t11_plans 127 k g = if m_w (n_V1 V 0) < 1000 then t11_plans_x205 205 127 k 0 0 0 0 g4 else some (false, g4) := by
      refine e0.trans (e1.trans ((show t11_plans_c103 127 k 0 g1 = _ from e2).trans ((show t11_plans_c164 127 k 0 g2 = _ from e3).trans ?_)))
      rw [e4', n_bs]
    by_cases fin : V 0 < 1000000
    · have v1 := P.2.2.2 fin
      have e5 : n_V1 V 0 = V 0 := by unfold n_V1; rw [if_neg (by omega)]
      have v0 := P.2.2.1
      obtain ⟨g5, f5, S5, w5⟩ := n_planR C M c9 P fin (V 0).toNat 0 g4 (by omega) S4 (fun j hj bj => by rw [show n_dsq f 0 = 0 from rfl, Nat.zero_testBit] at bj; cases bj)
      refine ⟨g5, ?_, S5.1.1.1, fun _ => ⟨S5, w5⟩⟩
      rw [all, e5, m_w_of (x := V 0) (by omega) (by omega), if_pos (by omega), decide_eq_true fin]
      exact f5
    · have e5 : n_V1 V 0 = 1000 := by unfold n_V1; rw [if_pos (by omega)]
      refine ⟨g4, ?_, S4.1.1.1, fun z => absurd z fin⟩
      rw [all, e5, m_w_of (x := 1000) (by omega) (by omega), if_neg (by omega), decide_eq_false fin]
