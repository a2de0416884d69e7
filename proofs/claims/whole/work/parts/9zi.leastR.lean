/-! CALLS: turns, turnOf: the reference weighs -/
theorem n_bit_all : ((List.range 512).all fun x => (List.range 9).all fun i => decide (m_and (x : Int) (m_shl 1 (i : Int)) = if x.testBit i = true then ((2 ^ i : Nat) : Int) else 0)) = true := by decide +kernel
theorem n_bitN {X i : Nat} (hX : X < 512) (h : i < 9) : m_and (X : Int) (m_shl 1 (i : Int)) = if X.testBit i = true then ((2 ^ i : Nat) : Int) else 0 := by
  have A := n_bit_all
  rw [List.all_eq_true] at A
  have B := A X (List.mem_range.mpr hX)
  rw [List.all_eq_true] at B
  exact of_decide_eq_true (B i (List.mem_range.mpr h))
theorem n_canR {g hq gg : m_H} {k a : Int} (C : n_scc hq g k a) (M : 0 ≤ m_g g 127 23 ∧ m_g g 127 23 ≤ 4) (S0 : n_vT g gg k (m_g g 151 k).toNat) (c9 : n_cn g k (m_g g 151 k).toNat ≤ 9) {S D : Nat} (hS : S < 512) (hD : D < 512) : ∃ r, t11_canDo 127 k S D gg = some (r, gg) ∧ (r = true ↔ n_fitN g k (m_g g 151 k).toNat S = true ∧ ∀ i, i < n_cn g k (m_g g 151 k).toNat → S.testBit i = true → n_sub (n_nd g k (m_g g 151 k).toNat i) D) := by
  have C3 := C.2.2.1
  have k0 := C.2.1.1
  have k8 := C.2.1.2
  have k1 : k < 9 := by omega
  obtain ⟨⟨F, s1, s2⟩, s3⟩ := S0
  have I := F.1
  have l3 := n_l303 I.2
  have l4 := n_l304 I.2
  have bO := fun o o0 (o1 : o < ((m_g g 151 k).toNat : Int)) => n_scc_b C (o := o) o0 (by omega)
  have e23 : m_g gg 127 23 = m_g g 127 23 := F.2.2 127 23 (by omega) (by omega)
  have key : ∀ (m i : Nat) (b mc : Int) (u : Nat), n_cn g k (m_g g 151 k).toNat = i + m → 0 ≤ b → b ≤ i → 0 ≤ mc → mc ≤ i → u < 16 → ∃ r, t11_canDo_c12 127 k S D b mc u i gg = some (r, gg) ∧ (r = true ↔ n_fitG g k S (n_so g k (m_g g 151 k).toNat) m i b mc u = true ∧ ∀ j, i ≤ j → j < n_cn g k (m_g g 151 k).toNat → S.testBit j = true → n_sub (n_nd g k (m_g g 151 k).toNat j) D) := by
    intro m
    induction m with
    | zero =>
      intro i b mc u em b0 b1 m0 m1 hu
      rw [t11_canDo_c12, if_pos (n_t127 I.2), s1, if_neg (by rw [em]; simp), m_w_of (x := b) (by omega) (by omega), e23, m_w_of (x := m_g g 127 23) (by omega) (by omega), m_w_of (x := mc) (by omega) (by omega), n_fitG]
      by_cases c : 1 < b
      · exact ⟨false, by rw [if_pos c], ⟨fun z => (by cases z), fun z => by have := of_decide_eq_true z.1; omega⟩⟩
      · rw [if_neg c]
        by_cases d : m_g g 127 23 < mc
        · exact ⟨false, by rw [if_pos d], ⟨fun z => (by cases z), fun z => by have := of_decide_eq_true z.1; omega⟩⟩
        · exact ⟨true, by rw [if_neg d], ⟨fun _ => ⟨decide_eq_true (by omega), fun j j0 j1 => by omega⟩, fun _ => rfl⟩⟩
    | succ m ih =>
      intro i b mc u em b0 b1 m0 m1 hu
      obtain ⟨z0, z1, z2, z3⟩ := n_so_b g k (m_g g 151 k).toNat i (by omega)
      have e5 : m_g gg 303 i = n_so g k (m_g g 151 k).toNat i := s2 i (by omega)
      have e6 : m_g gg 304 i = (n_nd g k (m_g g 151 k).toNat i : Int) := s3 i (by omega)
      have nl := (n_nd_lt bO c9 (show i < n_cn g k (m_g g 151 k).toNat by omega)).1
      have B := n_scc_b C (o := n_so g k (m_g g 151 k).toNat i) z0 (by omega)
      have v1 := B.1
      have v2 := B.2.1
      have v7 := B.2.2.2.2.2.2.1
      have v8 := B.2.2.2.2.2.2.2.2.2.2.2.2.1
      clear B
      -- one order more
      have up : ∀ (q r : Bool), (S.testBit i = true → n_sub (n_nd g k (m_g g 151 k).toNat i) D) → (r = true ↔ q = true ∧ ∀ j, i + 1 ≤ j → j < n_cn g k (m_g g 151 k).toNat → S.testBit j = true → n_sub (n_nd g k (m_g g 151 k).toNat j) D) → (r = true ↔ q = true ∧ ∀ j, i ≤ j → j < n_cn g k (m_g g 151 k).toNat → S.testBit j = true → n_sub (n_nd g k (m_g g 151 k).toNat j) D) := fun q r hi hr => by
        rw [hr]
        constructor
        · intro z
          refine ⟨z.1, fun j j0 j1 j2 => ?_⟩
          by_cases w : j = i
          · rw [w] at j2 ⊢
            exact hi j2
          · exact z.2 j (by omega) j1 j2
        · exact fun z => ⟨z.1, fun j j0 j1 j2 => z.2 j (by omega) j1 j2⟩
      rw [t11_canDo_c12, if_pos (n_t127 I.2), s1, m_w_of (x := (i : Int)) (by omega) (by omega), m_w_of (x := (n_cn g k (m_g g 151 k).toNat : Int)) (by omega) (by omega), if_pos (by omega), n_shrN hS (by omega), n_fitG]
      by_cases c : S.testBit i = true
      · have bd : -2147483648 ≤ m_and (n_nd g k (m_g g 151 k).toNat i : Int) (m_xor (D : Int) (-1)) ∧ m_and (n_nd g k (m_g g 151 k).toNat i : Int) (m_xor (D : Int) (-1)) < 2147483648 := by
          rw [n_xorN hD, n_andN (X := n_nd g k (m_g g 151 k).toNat i) (Y := 2 ^ 32 - (D + 1)) (by omega) (by show (-1 - (D : Int)) % 4294967296 = ((4294967296 - (D + 1) : Nat) : Int); omega)]
          have : n_nd g k (m_g g 151 k).toNat i &&& (2 ^ 32 - (D + 1)) ≤ n_nd g k (m_g g 151 k).toNat i := Nat.and_le_left
          omega
        rw [if_pos c, m_w_of (x := 1) (by omega) (by omega), if_neg (by omega), if_neg (show ¬ S.testBit i = false by rw [c]; decide), m_w_of (x := k) (by omega) (by omega), if_pos (n_c35 I.2 k0 k1), n_p127_75 I.2, if_pos ⟨n_t303 I.2, by omega, by omega⟩, e5, m_w_of (x := n_so g k (m_g g 151 k).toNat i) (by omega) (by omega), n_a35 I.2 k0 k1, if_pos (n_d35 I.2 k0 k1 z0 (by omega)), F.2.2 (153 + k) _ (by omega) (by omega), n_bs, n_p127_76 I.2, if_pos ⟨n_t304 I.2, by omega, by omega⟩, e6, m_w_of bd.1 bd.2]
        by_cases nd : n_sub (n_nd g k (m_g g 151 k).toNat i) D
        · have hi : S.testBit i = true → n_sub (n_nd g k (m_g g 151 k).toNat i) D := fun _ => nd
          rw [if_pos ((n_subN nl hD).mpr nd)]
          unfold t11_isBench
          rw [m_w_of (x := m_g g (153 + k) (n_so g k (m_g g 151 k).toNat i)) (by omega) (by omega)]
          by_cases d : m_g g (153 + k) (n_so g k (m_g g 151 k).toNat i) = 2 ∨ m_g g (153 + k) (n_so g k (m_g g 151 k).toNat i) = 3 ∨ m_g g (153 + k) (n_so g k (m_g g 151 k).toNat i) = 5 ∨ m_g g (153 + k) (n_so g k (m_g g 151 k).toNat i) = 6
          · obtain ⟨r, er, hr⟩ := ih (i + 1) (b + 1) mc u (by omega) (by omega) (by omega) (by omega) (by omega) hu
            refine ⟨r, ?_, by rw [if_pos d]; exact up _ r hi hr⟩
            have ben : (if m_g g (153 + k) (n_so g k (m_g g 151 k).toNat i) = 2 then some (true, gg) else if m_g g (153 + k) (n_so g k (m_g g 151 k).toNat i) = 3 then some (true, gg) else if m_g g (153 + k) (n_so g k (m_g g 151 k).toNat i) = 5 then some (true, gg) else if m_g g (153 + k) (n_so g k (m_g g 151 k).toNat i) = 6 then some (true, gg) else some (false, gg)) = some (true, gg) := by
              rcases d with d | d | d | d <;> rw [d] <;> rfl
            rw [ben, n_bs]
            dsimp only
            rw [if_pos rfl]
            exact er
          · rw [if_neg (show ¬ m_g g (153 + k) (n_so g k (m_g g 151 k).toNat i) = 2 by omega), if_neg (show ¬ m_g g (153 + k) (n_so g k (m_g g 151 k).toNat i) = 3 by omega), if_neg (show ¬ m_g g (153 + k) (n_so g k (m_g g 151 k).toNat i) = 5 by omega), if_neg (show ¬ m_g g (153 + k) (n_so g k (m_g g 151 k).toNat i) = 6 by omega), n_bs]
            dsimp only
            rw [if_neg (by decide), if_neg d]
            by_cases c8 : m_g g (153 + k) (n_so g k (m_g g 151 k).toNat i) = 8
            · have w1 := v7 (by omega)
              have w2 := v8 c8
              rw [if_pos c8, if_pos c8, if_pos (n_t127 I.2), if_pos (n_c38 I.2 k0 k1), n_p127_75 I.2, if_pos ⟨n_t303 I.2, by omega, by omega⟩, e5, m_w_of (x := n_so g k (m_g g 151 k).toNat i) (by omega) (by omega), n_a38 I.2 k0 k1, if_pos (n_d38 I.2 k0 k1 z0 (by omega)), n_bs, F.2.2 (183 + k) _ (by omega) (by omega)]
              generalize hj : m_g g (183 + k) (n_so g k (m_g g 151 k).toNat i) = j at *
              have ej : j = ((j.toNat : Nat) : Int) := by omega
              have esh : m_shl 1 j = ((2 ^ j.toNat : Nat) : Int) := by
                rw [ej]
                exact n_shlN (by omega)
              have p16 := Nat.pow_lt_pow_right (show 1 < 2 by omega) (show j.toNat < 4 by omega)
              have ea : m_and (u : Int) (m_shl 1 j) = if u.testBit j.toNat = true then ((2 ^ j.toNat : Nat) : Int) else 0 := by
                rw [ej]
                exact n_bitN (by omega) (by omega)
              have im := n_isMachine (g := gg) (i := j) I (by rw [e23]; omega) (by rw [e23]; omega) (by omega) (by omega)
              rw [e23] at im
              have pp : (1 : Nat) ≤ 2 ^ j.toNat := Nat.one_le_two_pow
              rw [ea]
              by_cases cu : u.testBit j.toNat = true
              · refine ⟨false, ?_, ⟨fun z => (by cases z), fun z => ?_⟩⟩
                · rw [if_pos cu, m_w_of (x := ((2 ^ j.toNat : Nat) : Int)) (by omega) (by omega), if_neg (by omega)]
                · rw [if_neg (fun q => by rw [cu] at q; cases q.2)] at z
                  cases z.1
              · have cu' : u.testBit j.toNat = false := by simpa using cu
                rw [if_neg cu, m_w_of (x := 0) (by omega) (by omega), if_pos rfl, im, n_bs]
                dsimp only
                by_cases cj : j < m_g g 127 23
                · obtain ⟨r, er, hr⟩ := ih (i + 1) b (mc + 1) (u ||| 2 ^ j.toNat) (by omega) (by omega) (by omega) (by omega) (by omega) (Nat.or_lt_two_pow (n := 4) hu p16)
                  refine ⟨r, ?_, by rw [if_pos ⟨cj, cu'⟩]; exact up _ r hi hr⟩
                  rw [decide_eq_true (show 0 ≤ j ∧ j < m_g g 127 23 from ⟨by omega, cj⟩), if_pos rfl, esh, n_orN (by omega) (by omega), n_bs]
                  exact er
                · refine ⟨false, ?_, ⟨fun z => (by cases z), fun z => ?_⟩⟩
                  · rw [decide_eq_false (show ¬ (0 ≤ j ∧ j < m_g g 127 23) from fun q => cj q.2)]
                    rfl
                  · rw [if_neg (fun q => cj q.1)] at z
                    cases z.1
            · obtain ⟨r, er, hr⟩ := ih (i + 1) b (mc + 1) u (by omega) (by omega) (by omega) (by omega) (by omega) hu
              rw [if_neg c8, if_neg c8]
              exact ⟨r, er, up _ r hi hr⟩
        · refine ⟨false, ?_, ⟨fun z => (by cases z), fun z => absurd (z.2 i (Nat.le_refl _) (by omega) c) nd⟩⟩
          rw [if_neg (fun z => nd ((n_subN nl hD).mp z))]
      · have c' : S.testBit i = false := by simpa using c
        obtain ⟨r, er, hr⟩ := ih (i + 1) b mc u (by omega) (by omega) (by omega) (by omega) (by omega) hu
        rw [if_neg c, m_w_of (x := 0) (by omega) (by omega), if_pos rfl, if_pos c']
        exact ⟨r, er, up _ r (fun z => by rw [c'] at z; cases z) hr⟩
  obtain ⟨r, er, hr⟩ := key (n_cn g k (m_g g 151 k).toNat) 0 0 0 0 (by omega) (by omega) (by omega) (by omega) (by omega) (by omega)
  refine ⟨r, er, ?_⟩
  rw [hr]
  exact ⟨fun z => ⟨z.1, fun i hi => z.2 i (by omega) hi⟩, fun z => ⟨z.1, fun i _ hi => z.2 i hi⟩⟩
/-- how many of the first n bits are missing -/
def n_rk (D : Nat) : Nat → Nat
  | 0 => 0
  | n + 1 => n_rk D n + if D.testBit n = true then 0 else 1
theorem n_rk_le (D : Nat) : ∀ n, n_rk D n ≤ n
  | 0 => Nat.le_refl _
  | n + 1 => by
    have := n_rk_le D n
    unfold n_rk
    split <;> omega
theorem n_rk_or (D S : Nat) : ∀ n, n_rk (D ||| S) n ≤ n_rk D n ∧ ((∃ i, i < n ∧ S.testBit i = true ∧ D.testBit i = false) → n_rk (D ||| S) n < n_rk D n)
  | 0 => ⟨Nat.le_refl _, fun ⟨i, h, _⟩ => by omega⟩
  | n + 1 => by
    obtain ⟨a, b⟩ := n_rk_or D S n
    unfold n_rk
    rw [Nat.testBit_or]
    refine ⟨?_, fun ⟨i, h1, h2, h3⟩ => ?_⟩
    · cases hd : D.testBit n <;> cases hs : S.testBit n <;> simp <;> omega
    · by_cases c : i = n
      · rw [c] at h2 h3
        rw [h2, h3]
        simp
        omega
      · have := b ⟨i, by omega, h2, h3⟩
        cases hd : D.testBit n <;> cases hs : S.testBit n <;> simp <;> omega
theorem n_mn_u {c : Int} {P : Nat → Nat → Prop} {V : Nat → Int} {D : Nat} {r s : Int} (A : n_mn c P V D r) (B : n_mn c P V D s) : r = s := by
  have one : ∀ r s, n_mn c P V D r → n_mn c P V D s → r ≤ s := fun r s A B => by
    rcases B.2.2 with e | ⟨S, s1, s2⟩
    · rw [e]; exact A.1
    · rw [s2]; exact A.2.1 S s1
  have a := one r s A B
  have b := one s r B A
  omega
