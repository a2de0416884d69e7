/-! CALLS: turns: the component weighs -/
def n_nd (h : m_H) (k : Int) (N i : Nat) : Nat := n_ndO h k (n_so h k N i)
def n_fitN (h : m_H) (k : Int) (N S : Nat) : Bool := n_fitG h k S (n_so h k N) (n_cn h k N) 0 0 0 0
abbrev n_vP (h : m_H) (k : Int) (N : Nat) : Nat → Nat → Prop := n_val (n_cn h k N) (n_nd h k N) (n_fitN h k N)
theorem n_mn_e {c : Int} {P : Nat → Nat → Prop} {V V' : Nat → Int} {D : Nat} {r : Int} (e : ∀ S, P D S → V' (D ||| S) = V (D ||| S)) (X : n_mn c P V D r) : n_mn c P V' D r := by
  obtain ⟨a, b, d⟩ := X
  refine ⟨a, fun S hS => by rw [e S hS]; exact b S hS, ?_⟩
  rcases d with d | ⟨S, s1, s2⟩
  · exact Or.inl d
  · exact Or.inr ⟨S, s1, by rw [e S s1]; exact s2⟩
theorem n_pow9 {n : Nat} (h : n ≤ 9) : 1 ≤ 2 ^ n ∧ 2 ^ n ≤ 512 := ⟨Nat.one_le_two_pow, by have := Nat.pow_le_pow_right (show 0 < 2 by omega) h; exact this⟩
theorem n_nd_lt {h : m_H} {k : Int} {N i : Nat} (b : ∀ o, 0 ≤ o → o < (N : Int) → n_ordB h k o) (c9 : n_cn h k N ≤ 9) (hi : i < n_cn h k N) : n_nd h k N i < 512 ∧ ∀ v, v = m_g h (163 + k) (n_so h k N i) ∨ v = m_g h (173 + k) (n_so h k N i) → v = -1 ∨ (0 ≤ v ∧ v < n_so h k N i) := by
  obtain ⟨s0, s1, s2, s3⟩ := n_so_b h k N i hi
  have B := b _ s0 s1
  have q1 := B.2.2.2.1
  have q2 := B.2.2.2.2.1
  have q3 := B.2.2.2.2.2.1
  clear B
  unfold n_isT at s2
  have s2 := of_decide_eq_true s2
  have d1 := q1 s2.1
  have d2 : m_g h (173 + k) (n_so h k N i) = -1 ∨ (0 ≤ m_g h (173 + k) (n_so h k N i) ∧ m_g h (173 + k) (n_so h k N i) < n_so h k N i) := by
    by_cases z : m_g h (153 + k) (n_so h k N i) = 5
    · have := q3 z
      exact Or.inr ⟨this.1, this.2.1⟩
    · exact Or.inl (q2 z)
  refine ⟨?_, fun v hv => by rcases hv with e | e <;> rw [e]; exact Or.inr ⟨d1.1, d1.2.1⟩; exact d2⟩
  unfold n_nd n_ndO
  have c := n_cn_mono h k (show (n_so h k N i).toNat ≤ N by omega)
  exact Nat.or_lt_two_pow (n := 9) (n_bt_lt (o := (n_so h k N i).toNat) (by omega) (by omega)) (n_bt_lt (o := (n_so h k N i).toNat) (by omega) (by omega))
theorem n_bitlt {X n : Nat} (h : ∀ j, X.testBit j = true → j < n) : X < 2 ^ n := by
  apply Nat.lt_pow_two_of_testBit
  intro i hi
  cases hx : X.testBit i
  · rfl
  · have := h i hx
    omega
theorem n_readyC {h x : m_H} {k a : Int} {N : Nat} (b : ∀ o, 0 ≤ o → o < (N : Int) → n_ordB h k o) (G : n_wG h x k a N) (c9 : n_cn h k N ≤ 9) {D : Nat} (hD : D < 512) : ∃ R : Nat, t9_readyAfter 114 D x = some ((R : Int), x) ∧ R < 2 ^ n_cn h k N ∧ ∀ i, R.testBit i = true ↔ (i < n_cn h k N ∧ D.testBit i = false ∧ n_sub (n_nd h k N i) D) := by
  obtain ⟨F, ⟨s4, s5, s6⟩, s7, s8⟩ := G
  have I := F.1
  have l6 := n_l116 I.2
  have key : ∀ (m i R : Nat), n_cn h k N = i + m → (∀ j, R.testBit j = true ↔ (j < i ∧ D.testBit j = false ∧ n_sub (n_nd h k N j) D)) → ∃ R' : Nat, t9_readyAfter_c4 114 D R i x = some ((R' : Int), x) ∧ ∀ j, R'.testBit j = true ↔ (j < n_cn h k N ∧ D.testBit j = false ∧ n_sub (n_nd h k N j) D) := by
    intro m
    induction m with
    | zero =>
      intro i R em hR
      refine ⟨R, ?_, by rw [show n_cn h k N = i by omega]; exact hR⟩
      rw [t9_readyAfter_c4, if_pos (n_t114 I.2), s5, if_neg (by rw [show n_cn h k N = i by omega]; omega)]
    | succ m ih =>
      intro i R em hR
      have ndl := (n_nd_lt b c9 (show i < n_cn h k N by omega)).1
      have Rlt := n_bitlt (X := R) (n := 9) (fun j hj => by have := ((hR j).mp hj).1; omega)
      have plt := Nat.pow_lt_pow_right (show 1 < 2 by omega) (show i < 9 by omega)
      have e6 : m_g x 116 i = (n_nd h k N i : Int) := (s8 i (by omega)).2
      rw [t9_readyAfter_c4, if_pos (n_t114 I.2), s5, m_w_of (x := (i : Int)) (by omega) (by omega), m_w_of (x := (n_cn h k N : Int)) (by omega) (by omega), if_pos (by omega), n_shrN hD (by omega)]
      by_cases c : D.testBit i = true
      · rw [if_pos c, m_w_of (x := 1) (by omega) (by omega), if_neg (by omega)]
        exact ih (i + 1) R (by omega) (fun j => by
          rw [hR j]
          constructor
          · exact fun z => ⟨by omega, z.2⟩
          · intro z
            refine ⟨?_, z.2⟩
            by_cases w : j = i
            · rw [w, c] at z
              cases z.2.1
            · omega)
      · have c' : D.testBit i = false := by simpa using c
        rw [if_neg c, m_w_of (x := 0) (by omega) (by omega), if_pos rfl, n_p114_1 I.2, n_entry_y (n_t116 I.2) (by omega) (by omega) (by omega), n_bs]
        dsimp only
        rw [e6]
        have bd : -2147483648 ≤ m_and (n_nd h k N i : Int) (m_xor (D : Int) (-1)) ∧ m_and (n_nd h k N i : Int) (m_xor (D : Int) (-1)) < 2147483648 := by
          rw [n_xorN hD, n_andN (X := n_nd h k N i) (Y := 2 ^ 32 - (D + 1)) (by omega) (by show (-1 - (D : Int)) % 4294967296 = ((4294967296 - (D + 1) : Nat) : Int); omega)]
          have : n_nd h k N i &&& (2 ^ 32 - (D + 1)) ≤ n_nd h k N i := Nat.and_le_left
          omega
        rw [m_w_of bd.1 bd.2]
        by_cases d : n_sub (n_nd h k N i) D
        · rw [if_pos ((n_subN ndl hD).mpr d), n_shlN (by omega), n_orN Rlt plt, n_bs]
          exact ih (i + 1) (R ||| 2 ^ i) (by omega) (fun j => by
            rw [Nat.testBit_or, Bool.or_eq_true, hR j, Nat.testBit_two_pow, decide_eq_true_eq]
            constructor
            · intro z
              rcases z with z | z
              · exact ⟨by omega, z.2⟩
              · rw [← z]
                exact ⟨by omega, c', d⟩
            · intro z
              by_cases w : i = j
              · exact Or.inr w
              · exact Or.inl ⟨by omega, z.2⟩)
        · rw [if_neg (fun z => d ((n_subN ndl hD).mp z))]
          exact ih (i + 1) R (by omega) (fun j => by
            rw [hR j]
            constructor
            · exact fun z => ⟨by omega, z.2⟩
            · intro z
              refine ⟨?_, z.2⟩
              by_cases w : j = i
              · rw [w] at z
                exact absurd z.2.2 d
              · omega)
  obtain ⟨R, e, hR⟩ := key (n_cn h k N) 0 0 (by omega) (fun j => by rw [Nat.zero_testBit]; exact ⟨fun z => (by cases z), fun z => by omega⟩)
  exact ⟨R, e, n_bitlt (fun j hj => ((hR j).mp hj).1), hR⟩
theorem n_isBenchC {x g : m_H} {k a o : Int} (I : n_I x) (C : n_scc x g k a) (o0 : 0 ≤ o) (o1 : o < m_g g 151 k) : t6_isBench a o x = some (decide (m_g g (153 + k) o = 2 ∨ m_g g (153 + k) o = 3 ∨ m_g g (153 + k) o = 5 ∨ m_g g (153 + k) o = 6), x) := by
  have b := n_scc_b C o0 o1
  have b1 := b.1
  have b2 := b.2.1
  clear b
  unfold t6_isBench
  rw [if_pos (n_scc_t C), n_cell I C o0 o1 (by omega) (by omega), n_bs]
  dsimp only
  rw [Int.add_zero, (n_scc_o C o0 o1).1, m_w_of (x := m_g g (153 + k) o) (by omega) (by omega)]
  by_cases c2 : m_g g (153 + k) o = 2
  · rw [if_pos c2, decide_eq_true (by omega)]
  rw [if_neg c2]
  by_cases c3 : m_g g (153 + k) o = 3
  · rw [if_pos c3, decide_eq_true (by omega)]
  rw [if_neg c3]
  by_cases c5 : m_g g (153 + k) o = 5
  · rw [if_pos c5, decide_eq_true (by omega)]
  rw [if_neg c5]
  by_cases c6 : m_g g (153 + k) o = 6
  · rw [if_pos c6, decide_eq_true (by omega)]
  rw [if_neg c6, decide_eq_false (by omega)]
theorem n_fitC {h x : m_H} {k a : Int} (C : n_scc h h k a) (M : 0 ≤ m_g h 127 23 ∧ m_g h 127 23 ≤ 4) (G : n_wG h x k a (m_g h 151 k).toNat) (c9 : n_cn h k (m_g h 151 k).toNat ≤ 9) {S : Nat} (hS : S < 512) : t9_fitsRoom 114 S x = some (n_fitN h k (m_g h 151 k).toNat S, x) := by
  have C3 := C.2.2.1
  obtain ⟨F, ⟨s4, s5, s6⟩, s7, s8⟩ := G
  have I := F.1
  have Cx := n_wF_C F C
  have l5 := n_l115 I.2
  have t6 := n_scc_t Cx
  have key : ∀ (m i : Nat) (b mc : Int) (u : Nat), n_cn h k (m_g h 151 k).toNat = i + m → 0 ≤ b → b ≤ i → 0 ≤ mc → mc ≤ i → u < 16 → t9_fitsRoom_c10 114 S b mc u i x = some (n_fitG h k S (n_so h k (m_g h 151 k).toNat) m i b mc u, x) := by
    intro m
    induction m with
    | zero =>
      intro i b mc u em b0 b1 m0 m1 hu
      rw [t9_fitsRoom_c10, if_pos (n_t114 I.2), s5, if_neg (by rw [em]; simp), m_w_of (x := b) (by omega) (by omega), s6, m_w_of (x := m_g h 127 23) (by omega) (by omega), m_w_of (x := mc) (by omega) (by omega), n_fitG]
      by_cases c : 1 < b
      · rw [if_pos c, decide_eq_false (by omega)]
      · rw [if_neg c]
        by_cases d : m_g h 127 23 < mc
        · rw [if_pos d, decide_eq_false (by omega)]
        · rw [if_neg d, decide_eq_true (by omega)]
    | succ m ih =>
      intro i b mc u em b0 b1 m0 m1 hu
      obtain ⟨z0, z1, z2, z3⟩ := n_so_b h k (m_g h 151 k).toNat i (by omega)
      have e5 : m_g x 115 i = n_so h k (m_g h 151 k).toNat i := (s8 i (by omega)).1
      have B := n_scc_b C (o := n_so h k (m_g h 151 k).toNat i) z0 (by omega)
      have v1 := B.1
      have v2 := B.2.1
      have v7 := B.2.2.2.2.2.2.1
      have v8 := B.2.2.2.2.2.2.2.2.2.2.2.2.1
      clear B
      have so := n_scc_o Cx (o := n_so h k (m_g h 151 k).toNat i) z0 (by omega)
      rw [t9_fitsRoom_c10, if_pos (n_t114 I.2), s5, m_w_of (x := (i : Int)) (by omega) (by omega), m_w_of (x := (n_cn h k (m_g h 151 k).toNat : Int)) (by omega) (by omega), if_pos (by omega), n_p114_0 I.2, n_entry_y (n_t115 I.2) (by omega) (by omega) (by omega), n_bs, e5, n_shrN hS (by omega), n_fitG]
      dsimp only
      by_cases c : S.testBit i = true
      · rw [if_pos c, m_w_of (x := 1) (by omega) (by omega), if_neg (by omega), if_neg (show ¬ S.testBit i = false by rw [c]; decide), if_pos (n_t114 I.2), s4, if_pos t6, n_isBenchC I Cx z0 (by omega), n_bs]
        dsimp only
        by_cases d : m_g h (153 + k) (n_so h k (m_g h 151 k).toNat i) = 2 ∨ m_g h (153 + k) (n_so h k (m_g h 151 k).toNat i) = 3 ∨ m_g h (153 + k) (n_so h k (m_g h 151 k).toNat i) = 5 ∨ m_g h (153 + k) (n_so h k (m_g h 151 k).toNat i) = 6
        · rw [decide_eq_true d, if_pos rfl, if_pos d]
          exact ih (i + 1) (b + 1) mc u (by omega) (by omega) (by omega) (by omega) (by omega) hu
        · rw [decide_eq_false d, if_neg (by decide), if_neg d, if_pos (n_t114 I.2), s4, if_pos t6, n_verbC I Cx z0 (by omega), n_bs]
          dsimp only
          rw [m_w_of (x := m_g h (153 + k) (n_so h k (m_g h 151 k).toNat i)) (by omega) (by omega)]
          by_cases c8 : m_g h (153 + k) (n_so h k (m_g h 151 k).toNat i) = 8
          · have w1 := v7 (by omega)
            have w2 := v8 c8
            rw [if_pos c8, if_pos c8, if_pos (n_t114 I.2), s4, if_pos t6, n_numC I Cx z0 (by omega) (by omega) (by omega), n_bs]
            dsimp only
            rw [show (3 : Int) + 0 = 3 by omega, so.2.2.2.1 (by omega), if_pos (n_t114 I.2), s6]
            generalize hj : m_g h (183 + k) (n_so h k (m_g h 151 k).toNat i) = j at *
            have ej : j = ((j.toNat : Nat) : Int) := by omega
            rw [m_w_of (x := j) (by omega) (by omega), m_w_of (x := m_g h 127 23) (by omega) (by omega)]
            by_cases c9 : j < m_g h 127 23
            · have es : m_and (m_shr (u : Int) j) 1 = if u.testBit j.toNat = true then 1 else 0 := by
                rw [ej]
                exact n_shrN (by omega) (by omega)
              rw [if_pos c9, es]
              by_cases cu : u.testBit j.toNat = true
              · rw [if_pos cu, m_w_of (x := 1) (by omega) (by omega), if_neg (by omega), if_neg (fun z => by rw [cu] at z; cases z.2)]
              · have cu' : u.testBit j.toNat = false := by simpa using cu
                have esh : m_shl 1 j = ((2 ^ j.toNat : Nat) : Int) := by
                  rw [ej]
                  exact n_shlN (by omega)
                have p16 := Nat.pow_lt_pow_right (show 1 < 2 by omega) (show j.toNat < 4 by omega)
                rw [if_neg cu, m_w_of (x := 0) (by omega) (by omega), if_pos rfl, if_pos ⟨c9, cu'⟩, esh, n_orN (by omega) (by omega), n_bs]
                exact ih (i + 1) b (mc + 1) (u ||| 2 ^ j.toNat) (by omega) (by omega) (by omega) (by omega) (by omega) (Nat.or_lt_two_pow (n := 4) hu p16)
            · rw [if_neg c9, if_neg (fun z => c9 z.1)]
          · rw [if_neg c8, if_neg c8]
            exact ih (i + 1) b (mc + 1) u (by omega) (by omega) (by omega) (by omega) (by omega) hu
      · have c' : S.testBit i = false := by simpa using c
        rw [if_neg c, m_w_of (x := 0) (by omega) (by omega), if_pos rfl, if_pos c']
        exact ih (i + 1) b mc u (by omega) (by omega) (by omega) (by omega) (by omega) hu
  exact key (n_cn h k (m_g h 151 k).toNat) 0 0 0 0 (by omega) (by omega) (by omega) (by omega) (by omega) (by omega)
