/-! CALLS: turns, turnOf: the reference gathers the steps -/
def n_vF (g gg : m_H) : Prop := n_I gg ∧ gg.2 = g.2 ∧ ∀ b j, (b < 303 ∨ 306 < b) → ¬ (b = 127 ∧ j = 79) → m_g gg b j = m_g g b j
def n_vS (g gg : m_H) (k : Int) (o : Nat) : Prop := n_vF g gg ∧ m_g gg 127 79 = n_cn g k o ∧ ∀ i : Nat, i < n_cn g k o → m_g gg 303 i = n_so g k o i
theorem n_plans17 {g hq : m_H} {k a : Int} (C : n_scc hq g k a) : ∀ (m o : Nat) (gg : m_H), m_g g 151 k = o + m → n_cn g k o ≤ 9 → n_vS g gg k o → (¬ (1 ≤ n_cn g k (m_g g 151 k).toNat ∧ n_cn g k (m_g g 151 k).toNat ≤ 9) → ∃ g', t11_plans_c17 127 k o gg = some (false, g') ∧ n_vF g g') ∧ (1 ≤ n_cn g k (m_g g 151 k).toNat ∧ n_cn g k (m_g g 151 k).toNat ≤ 9 → ∃ g', t11_plans_c17 127 k o gg = t11_plans_c103 127 k 0 g' ∧ n_vS g g' k (m_g g 151 k).toNat) := by
  have C3 := C.2.2.1
  have k0 := C.2.1.1
  have k8 := C.2.1.2
  have k1 : k < 9 := by omega
  intro m
  induction m with
  | zero =>
    intro o gg em c9 S
    have F := S.1
    have I := F.1
    have eo : (m_g g 151 k).toNat = o := by omega
    rw [eo]
    have e : t11_plans_c17 127 k o gg = if n_cn g k o = 0 then some (false, gg) else t11_plans_c103 127 k 0 gg := by
      rw [t11_plans_c17, if_pos (n_t127 I.2), m_w_of (x := k) (by omega) (by omega), if_pos (n_c34 I.2 k0 k1), n_p127_34 I.2, F.2.2 151 k (by omega) (by omega), if_neg (by rw [em]; simp), S.2.1, m_w_of (x := (n_cn g k o : Int)) (by omega) (by omega)]
      by_cases z : n_cn g k o = 0
      · rw [if_pos (by omega), if_pos z]
      · rw [if_neg (by omega), if_neg z]
    constructor
    · intro q
      exact ⟨gg, by rw [e, if_pos (by omega)], F⟩
    · intro q
      exact ⟨gg, by rw [e, if_neg (by omega)], S⟩
  | succ m ih =>
    intro o gg em c9 S
    obtain ⟨F, s1, s2⟩ := S
    have F' := F
    obtain ⟨I, g2, e⟩ := F'
    have b := n_scc_b C (o := o) (by omega) (by omega)
    have b1 := b.1
    have b2 := b.2.1
    clear b
    have cs := n_cn_s g k o
    have nxt : t11_plans_c17 127 k o gg = if n_isT g k o = true then (if n_cn g k o = 9 then some (false, gg) else t11_plans_c17 127 k (o + 1) (m_p (m_p gg 303 (n_cn g k o) o) 127 79 ((n_cn g k o : Int) + 1))) else t11_plans_c17 127 k (o + 1) gg := by
      rw [t11_plans_c17, if_pos (n_t127 I.2), m_w_of (x := k) (by omega) (by omega), if_pos (n_c34 I.2 k0 k1), n_p127_34 I.2, e 151 k (by omega) (by omega), m_w_of (x := (o : Int)) (by omega) (by omega), m_w_of (x := m_g g 151 k) (by omega) (by omega), if_pos (by omega), if_pos (n_c35 I.2 k0 k1), n_a35 I.2 k0 k1, if_pos (n_d35 I.2 k0 k1 (by omega) (by omega)), e (153 + k) o (by omega) (by omega), m_w_of (x := m_g g (153 + k) o) (by omega) (by omega), s1, m_w_of (x := (n_cn g k o : Int)) (by omega) (by omega)]
      unfold n_isT
      by_cases c1 : 1 < m_g g (153 + k) o
      · rw [if_pos c1]
        by_cases c2 : m_g g (153 + k) o = 12
        · rw [if_pos c2, if_neg (by rw [decide_eq_true_eq]; omega)]
        · rw [if_neg c2, if_pos (decide_eq_true (show 2 ≤ m_g g (153 + k) o ∧ m_g g (153 + k) o ≠ 12 by omega))]
          by_cases c3 : n_cn g k o = 9
          · rw [if_pos (by omega), if_pos c3]
          · have l3 := n_l303 I.2
            have J : n_I (m_p gg 303 (n_cn g k o) o) := n_I_pa I (Or.inl (n_t303 I.2))
            have e79 : m_g (m_p gg 303 (n_cn g k o) o) 127 79 = n_cn g k o := by rw [n_gp_n (by omega)]; exact s1
            rw [if_neg (by omega), if_neg c3, n_p127_75 I.2, if_pos ⟨n_t303 I.2, by omega, by omega⟩, n_bs, if_pos (n_t127 J.2), n_bs, e79]
      · rw [if_neg c1, if_neg (by rw [decide_eq_true_eq]; omega)]
    by_cases hT : n_isT g k o = true
    · rw [if_pos hT] at nxt cs
      by_cases c3 : n_cn g k o = 9
      · have mm := n_cn_mono g k (show o + 1 ≤ (m_g g 151 k).toNat by omega)
        rw [if_pos c3] at nxt
        exact ⟨fun _ => ⟨gg, nxt, F⟩, fun q => by omega⟩
      · rw [if_neg c3] at nxt
        have J : n_I (m_p gg 303 (n_cn g k o) o) := n_I_pa I (Or.inl (n_t303 I.2))
        have J2 : n_I (m_p (m_p gg 303 (n_cn g k o) o) 127 79 ((n_cn g k o : Int) + 1)) := n_I_p J (by rw [n_t127 J.2]; omega) (by rw [n_t127 J.2]; omega) rfl
        have S2 : n_vS g (m_p (m_p gg 303 (n_cn g k o) o) 127 79 ((n_cn g k o : Int) + 1)) k (o + 1) := by
          refine ⟨⟨J2, g2, fun b j h1 h2 => by rw [n_gp_n (by omega), n_gp_n (by omega)]; exact e b j h1 h2⟩, by rw [n_gp_y ⟨rfl, rfl⟩, cs]; omega, fun i hi => ?_⟩
          rw [n_so_s, hT, n_gp_n (by omega)]
          by_cases z : i = n_cn g k o
          · rw [if_pos ⟨rfl, z⟩, z, n_gp_y ⟨rfl, rfl⟩]
          · rw [if_neg (fun t => z t.2), n_gp_n (by omega)]
            exact s2 i (by omega)
        rw [nxt]
        exact ih (o + 1) _ (by omega) (by omega) S2
    · have hT' : n_isT g k o = false := by simpa using hT
      rw [if_neg hT] at nxt cs
      rw [nxt]
      exact ih (o + 1) gg (by omega) (by omega) ⟨F, by rw [cs]; exact s1, fun i hi => by
        rw [n_so_s, hT', if_neg (fun z => by cases z.1)]
        exact s2 i (by omega)⟩
theorem n_so_cn {g : m_H} {k v : Int} {N : Nat} (v0 : 0 ≤ v) (v1 : v < N) (hT : n_isT g k v = true) : n_cn g k v.toNat < n_cn g k N ∧ n_so g k N (n_cn g k v.toNat) = v := by
  have step : ∀ q : Nat, n_isT g k (q : Int) = true → ∀ p : Nat, q < p → n_cn g k q < n_cn g k p := fun q hq p lt => by
    have a := n_cn_s g k q
    rw [if_pos hq] at a
    have b := n_cn_mono g k (show q + 1 ≤ p by omega)
    omega
  have hv : n_isT g k ((v.toNat : Nat) : Int) = true := by rw [show ((v.toNat : Nat) : Int) = v by omega]; exact hT
  have lt := step v.toNat hv N (by omega)
  refine ⟨lt, ?_⟩
  obtain ⟨s0, s1, s2, s3⟩ := n_so_b g k N (n_cn g k v.toNat) lt
  have hs : n_isT g k (((n_so g k N (n_cn g k v.toNat)).toNat : Nat) : Int) = true := by rw [show (((n_so g k N (n_cn g k v.toNat)).toNat : Nat) : Int) = n_so g k N (n_cn g k v.toNat) by omega]; exact s2
  rcases Nat.lt_trichotomy v.toNat (n_so g k N (n_cn g k v.toNat)).toNat with c | c | c
  · have := step _ hv _ c
    omega
  · omega
  · have := step _ hs _ c
    omega
theorem n_stepOfR {g gg : m_H} {k v : Int} {N : Nat} (N4 : N ≤ 40) (S : n_vS g gg k N) (c9 : n_cn g k N ≤ 9) (v1 : -2147483648 ≤ v) (v2 : v < 2147483648) : t11_stepOf 127 v gg = some (if 0 ≤ v ∧ v < N ∧ n_isT g k v = true then (n_cn g k v.toNat : Int) else -1, gg) := by
  obtain ⟨F, s1, s2⟩ := S
  have I := F.1
  have l3 := n_l303 I.2
  have key : ∀ (m i : Nat), n_cn g k N = i + m → (∀ j, j < i → n_so g k N j ≠ v) → t11_stepOf_c2 127 v i gg = some (if 0 ≤ v ∧ v < N ∧ n_isT g k v = true then (n_cn g k v.toNat : Int) else -1, gg) := by
    intro m
    induction m with
    | zero =>
      intro i em no
      rw [t11_stepOf_c2, if_pos (n_t127 I.2), s1, if_neg (by rw [show n_cn g k N = i by omega]; omega)]
      by_cases c : 0 ≤ v ∧ v < N ∧ n_isT g k v = true
      · have := n_so_cn c.1 c.2.1 c.2.2
        exact absurd this.2 (no _ (by omega))
      · rw [if_neg c]
    | succ m ih =>
      intro i em no
      obtain ⟨z0, z1, z2, z3⟩ := n_so_b g k N i (by omega)
      have q := s2 i (by omega)
      rw [t11_stepOf_c2, if_pos (n_t127 I.2), s1, m_w_of (x := (i : Int)) (by omega) (by omega), m_w_of (x := (n_cn g k N : Int)) (by omega) (by omega), if_pos (by omega), n_p127_75 I.2, if_pos ⟨n_t303 I.2, by omega, by omega⟩, q, m_w_of (x := n_so g k N i) (by omega) (by omega), m_w_of v1 v2]
      by_cases c : n_so g k N i = v
      · rw [if_pos c, ← c, if_pos ⟨z0, z1, z2⟩, z3]
      · rw [if_neg c]
        exact ih (i + 1) (by omega) (fun j hj => by
          by_cases w : j = i
          · rw [w]; exact c
          · exact no j (by omega))
  exact key (n_cn g k N) 0 (by omega) (fun j hj => by omega)
theorem n_needR {g gg : m_H} {k v : Int} {N i X : Nat} (N4 : N ≤ 40) (S : n_vS g gg k N) (c9 : n_cn g k N ≤ 9) (hi : i < 9) (hX : X < 512) (eX : m_g gg 304 i = (X : Int)) (hv : v = -1 ∨ (0 ≤ v ∧ v < N)) : ∃ g', t11_need 127 i k v gg = some ((), g') ∧ n_vS g g' k N ∧ (∀ j : Nat, j ≠ i → m_g g' 304 j = m_g gg 304 j) ∧ m_g g' 304 i = ((X ||| n_bt g k v : Nat) : Int) := by
  have S' := S
  obtain ⟨F, s1, s2⟩ := S'
  have I := F.1
  have l4 := n_l304 I.2
  unfold t11_need
  rw [m_w_of (x := v) (by omega) (by omega)]
  by_cases c : v = -1
  · refine ⟨gg, by rw [if_pos c], S, fun _ _ => rfl, ?_⟩
    unfold n_bt
    rw [if_neg (by omega), eX, Nat.or_zero]
  · rw [if_neg c, if_pos (n_t127 I.2), n_stepOfR N4 S c9 (by omega) (by omega), n_bs]
    dsimp only
    by_cases d : n_isT g k v = true
    · have sc := n_so_cn (N := N) (by omega : 0 ≤ v) (by omega) d
      have lt := Nat.pow_lt_pow_right (show 1 < 2 by omega) (show n_cn g k v.toNat < 9 by omega)
      rw [if_pos (show 0 ≤ v ∧ v < N ∧ n_isT g k v = true from ⟨by omega, by omega, d⟩), m_w_of (x := (n_cn g k v.toNat : Int)) (by omega) (by omega), if_neg (by omega), if_pos (n_t127 I.2), n_p127_76 I.2, m_w_of (x := (i : Int)) (by omega) (by omega), if_pos ⟨n_t304 I.2, by omega, by omega⟩, eX, n_shlN (by omega), n_orN hX lt, n_bs]
      refine ⟨_, rfl, ⟨⟨n_I_pa I (Or.inl (n_t304 I.2)), F.2.1, fun b j h1 h2 => by rw [n_gp_n (by omega)]; exact F.2.2 b j h1 h2⟩, by rw [n_gp_n (by omega)]; exact s1, fun j hj => by rw [n_gp_n (by omega)]; exact s2 j hj⟩, fun j hj => n_gp_n (by omega), ?_⟩
      rw [n_gp_y ⟨rfl, rfl⟩]
      unfold n_bt
      rw [if_pos ⟨by omega, d⟩]
    · rw [if_neg (show ¬ (0 ≤ v ∧ v < N ∧ n_isT g k v = true) from fun z => d z.2.2), m_w_of (x := -1) (by omega) (by omega), if_pos rfl]
      refine ⟨gg, rfl, S, fun _ _ => rfl, ?_⟩
      unfold n_bt
      rw [if_neg (fun z => d z.2), eX, Nat.or_zero]
/-- needs too -/
def n_vT (g gg : m_H) (k : Int) (N : Nat) : Prop := n_vS g gg k N ∧ ∀ i : Nat, i < n_cn g k N → m_g gg 304 i = (n_nd g k N i : Int)
theorem n_plans103 {g hq : m_H} {k a : Int} (C : n_scc hq g k a) (c9 : n_cn g k (m_g g 151 k).toNat ≤ 9) : ∀ (m i : Nat) (gg : m_H), n_cn g k (m_g g 151 k).toNat = i + m → n_vS g gg k (m_g g 151 k).toNat → (∀ j : Nat, j < i → m_g gg 304 j = (n_nd g k (m_g g 151 k).toNat j : Int)) → ∃ g', t11_plans_c103 127 k i gg = t11_plans_c164 127 k 0 g' ∧ n_vT g g' k (m_g g 151 k).toNat := by
  have C3 := C.2.2.1
  have k0 := C.2.1.1
  have k8 := C.2.1.2
  have k1 : k < 9 := by omega
  intro m
  induction m with
  | zero =>
    intro i gg em S T
    have I := S.1.1
    have ei : n_cn g k (m_g g 151 k).toNat = i := by omega
    refine ⟨gg, ?_, S, fun j hj => T j (by omega)⟩
    rw [t11_plans_c103, if_pos (n_t127 I.2), S.2.1, ei, if_neg (by omega)]
  | succ m ih =>
    intro i gg em S T
    have S' := S
    obtain ⟨F, s1, s2⟩ := S'
    have I := F.1
    have l4 := n_l304 I.2
    obtain ⟨z0, z1, z2, z3⟩ := n_so_b g k (m_g g 151 k).toNat i (by omega)
    have bO := fun o o0 (o1 : o < ((m_g g 151 k).toNat : Int)) => n_scc_b C (o := o) o0 (by omega)
    obtain ⟨nl, dd⟩ := n_nd_lt bO c9 (show i < n_cn g k (m_g g 151 k).toNat by omega)
    have d1 := dd _ (Or.inl rfl)
    have d2 := dd _ (Or.inr rfl)
    have J : n_I (m_p gg 304 i 0) := n_I_pa I (Or.inl (n_t304 I.2))
    have S1 : n_vS g (m_p gg 304 i 0) k (m_g g 151 k).toNat := ⟨⟨J, F.2.1, fun b j h1 h2 => by rw [n_gp_n (by omega)]; exact F.2.2 b j h1 h2⟩, by rw [n_gp_n (by omega)]; exact s1, fun j hj => by rw [n_gp_n (by omega)]; exact s2 j hj⟩
    have q1 : ∀ j : Nat, j ≠ i → m_g (m_p gg 304 i 0) 304 j = m_g gg 304 j := fun j hj => n_gp_n (by omega)
    have q2 : m_g (m_p gg 304 i 0) 304 i = ((0 : Nat) : Int) := n_gp_y ⟨rfl, rfl⟩
    rw [t11_plans_c103, if_pos (n_t127 I.2), s1, m_w_of (x := (i : Int)) (by omega) (by omega), m_w_of (x := (n_cn g k (m_g g 151 k).toNat : Int)) (by omega) (by omega), if_pos (by omega), n_p127_76 I.2, if_pos ⟨n_t304 I.2, by omega, by omega⟩, n_bs]
    generalize m_p gg 304 i 0 = y at *
    have l3 := n_l303 J.2
    have e3 : m_g y 303 i = n_so g k (m_g g 151 k).toNat i := S1.2.2 i (by omega)
    obtain ⟨y2, f1, S2, r1, r2⟩ := n_needR (v := m_g g (163 + k) (n_so g k (m_g g 151 k).toNat i)) (by omega) S1 c9 (by omega) (by omega) q2 (by omega)
    have b1lt := n_bt_lt (h := g) (k := k) (o := (m_g g 151 k).toNat) (v := m_g g (163 + k) (n_so g k (m_g g 151 k).toNat i)) (by omega) c9
    rw [Nat.zero_or] at r2
    obtain ⟨y3, f2, S3, r3, r4⟩ := n_needR (v := m_g g (173 + k) (n_so g k (m_g g 151 k).toNat i)) (by omega) S2 c9 (by omega) b1lt r2 (by omega)
    have I2 := S2.1.1
    have l3' := n_l303 I2.2
    have e3' : m_g y2 303 i = n_so g k (m_g g 151 k).toNat i := S2.2.2 i (by omega)
    rw [if_pos (n_t127 J.2), m_w_of (x := k) (by omega) (by omega), if_pos (n_c36 J.2 k0 k1), n_p127_75 J.2, if_pos ⟨n_t303 J.2, by omega, by omega⟩, e3, m_w_of (x := n_so g k (m_g g 151 k).toNat i) (by omega) (by omega), n_a36 J.2 k0 k1, if_pos (n_d36 J.2 k0 k1 z0 (by omega)), S1.1.2.2 (163 + k) _ (by omega) (by omega), f1, n_bs]
    dsimp only
    rw [if_pos (n_t127 I2.2), if_pos (n_c37 I2.2 k0 k1), n_p127_75 I2.2, if_pos ⟨n_t303 I2.2, by omega, by omega⟩, e3', m_w_of (x := n_so g k (m_g g 151 k).toNat i) (by omega) (by omega), n_a37 I2.2 k0 k1, if_pos (n_d37 I2.2 k0 k1 z0 (by omega)), S2.1.2.2 (173 + k) _ (by omega) (by omega), f2, n_bs]
    dsimp only
    exact ih (i + 1) y3 (by omega) S3 (fun j hj => by
      by_cases w : j = i
      · rw [w, r4]
        rfl
      · rw [r3 j w, r1 j w, q1 j w]
        exact T j (by omega))
