/-! SCRATCH: what a call that only uses scratch cells leaves -/
def n_scrA (b : Int) : Bool := decide (11 < b ∧ b < 127 ∧ b ≠ 19 ∧ b ≠ 106 ∧ b ≠ 109 ∧ b ≠ 112 ∧ b ≠ 113 ∧ b ≠ 121 ∧ b ≠ 124 ∧ b ≠ 110) && (let t := n_kT.getD (b.toNat - 1) 0; decide (t ≠ 8 ∧ t ≠ 0 ∧ t ≠ 5) && (decide (t ≠ 20) || decide (0 < n_kL.getD (b.toNat - 1) 0)))
def n_scrR (r : Int) : Bool := decide (r < 127 ∧ r ≠ 8 ∧ r ≠ 119 ∧ r ≠ 107)
def n_scrT (b : Int) : Bool := decide (129 < b ∧ b < 312 ∧ (b < 130 ∨ 148 < b) ∧ b ≠ 150 ∧ (b < 151 ∨ 231 < b ∨ b = 161 ∨ b = 171 ∨ b = 181 ∨ b = 191 ∨ b = 201 ∨ b = 211 ∨ b = 221 ∨ b = 231) ∧ b ≠ 292 ∧ (b < 294 ∨ 301 < b) ∧ (b < 285 ∨ 291 < b) ∧ b ≠ 308)
def n_scrF (k : Int) : Bool := decide (k ≠ 14 ∧ k ≠ 15 ∧ k ≠ 16 ∧ k ≠ 17 ∧ k ≠ 18 ∧ k ≠ 23 ∧ k ≠ 27 ∧ k ≠ 30 ∧ k ≠ 43 ∧ k ≠ 60 ∧ k ≠ 61 ∧ k ≠ 62 ∧ k ≠ 85)
theorem n_scrA_sf {h : m_H} (I : n_I h) {b : Int} (c : n_scrA b = true) : n_sf h b ∧ (11 < b ∧ b < 127 ∧ b ≠ 19 ∧ b ≠ 106 ∧ b ≠ 109 ∧ b ≠ 112 ∧ b ≠ 113 ∧ b ≠ 121 ∧ b ≠ 124 ∧ b ≠ 110) ∧ m_t h b ≠ 8 ∧ m_t h b ≠ 0 ∧ m_t h b ≠ 5 := by
  unfold n_scrA at c
  rw [Bool.and_eq_true, decide_eq_true_eq, Bool.and_eq_true, Bool.or_eq_true, decide_eq_true_eq, decide_eq_true_eq, decide_eq_true_eq] at c
  obtain ⟨c1, c2, c3⟩ := c
  have e := I.2.1 b (by omega) (by omega)
  rw [← e.1, ← e.2] at c3
  rw [← e.1] at c2
  exact ⟨n_sfa I (by omega) c2.2.2 c3, c1, c2⟩
theorem n_finS {h g2 : m_H} {A R Tc Tf : List Int} {k : Int} (X : n_R h k) (P : n_sp h g2 A R Tc Tf) (I2 : n_I g2) (B : n_bud g2 (k + 1)) (cA : A.all n_scrA = true) (cR : R.all n_scrR = true) (cT : Tc.all n_scrT = true) (cF : Tf.all n_scrF = true) : n_R g2 (k + 1) := by
  rw [List.all_eq_true] at cA cR cT cF
  have X' := X
  obtain ⟨I, gs, bud, x1, x2, x3, x4, x5, x6, x7⟩ := X'
  have hA := fun b hb => n_scrA_sf I (cA b hb)
  have hR := fun b hb => of_decide_eq_true (cR b hb)
  have hT := fun b hb => of_decide_eq_true (cT b hb)
  have hF := fun b hb => of_decide_eq_true (cF b hb)
  obtain ⟨g0, g1, g2', g3, g4, g5, g6, g7⟩ := n_fr X P
  have nos : n_nos Tc Tf := ⟨fun b hb => by have := hT b hb; omega, fun b hb => by have := hF b hb; omega⟩
  have nosc : n_nosc Tc := fun b hb => by have := hT b hb; omega
  have nA : ∀ b, (b ≤ 11 ∨ b = 19 ∨ b = 106 ∨ b = 109 ∨ b = 112 ∨ b = 113 ∨ b = 121 ∨ b = 124) → b ∉ A := fun b hb q => by have := (hA b q).2.1; omega
  have nR : ∀ b, (b = 8 ∨ b = 119 ∨ b = 107) → b ∉ R := fun b hb q => by have := hR b q; omega
  have nT : ∀ b, (b ≤ 150 ∧ b ≠ 149 ∨ b = 308) → b ∉ Tc := fun b hb q => by have := hT b q; omega
  have nF : ∀ b, (b = 14 ∨ b = 15 ∨ b = 16 ∨ b = 17 ∨ b = 18 ∨ b = 23 ∨ b = 27 ∨ b = 30 ∨ b = 43 ∨ b = 60 ∨ b = 61 ∨ b = 62 ∨ b = 85) → b ∉ Tf := fun b hb q => by have := hF b q; omega
  have e2 := (n_sp_cell P (n_sf2 I) (by omega) (nA 2 (by omega))).1
  exact ⟨I2, g0 nos, B, g1 (nR 8 (by omega)) (nT 129 (by omega)) (nF 16 (by omega)), g2' (nR 119 (by omega)) (nT 308 (by omega)) (nF 85 (by omega)), g3 nos (fun b hb => by have := hA b hb; exact ⟨by omega, this.2.2.1, this.2.2.2.1⟩) (fun r hr => by have := hR r hr; omega), g4 (nT 150 (by omega)) (nF 30 (by omega)) (nA 10 (by omega)) (nA 11 (by omega)), g5 nosc (nF 43 (by omega)) (fun b hb => by have := (hA b hb).2.1; omega), g6 nosc (nF 43 (by omega)) (nF 23 (by omega)) (nT 142 (by omega)) (fun b hb => by have := hT b hb; omega) (fun q hq => by have := hF q hq; omega) (fun b hb => by have := (hA b hb).2.1; omega) (nR 107 (by omega)), g7 nos (nT 308 (by omega)) (nF 85 (by omega)) (e2 11) (nA 121 (by omega)) (nA 124 (by omega))⟩
/-- only scratch cells of the component have changed -/
theorem n_only {h hh : m_H} {A : List Int} {k : Int} (X : n_R h k) (e2 : hh.2 = h.2) (e : ∀ b j, b ∉ A → m_g hh b j = m_g h b j) (cA : A.all n_scrA = true) : n_kp h hh A [] ∧ n_sp h hh A [] [] [] ∧ n_Rsh hh h ∧ n_bud hh k := by
  rw [List.all_eq_true] at cA
  have X' := X
  obtain ⟨I, gs, bud, x1, x2, x3, x4, x5, x6, x7⟩ := X'
  have hA := fun b hb => n_scrA_sf I (cA b hb)
  have nr : ∀ r, m_t h r = 5 → r ∉ A := fun r hr q => (hA r q).2.2.2.2 hr
  have K : n_kp h hh A [] := ⟨fun b _ => ⟨n_e2t e2 b, n_e2l e2 b⟩, by rw [n_e2n e2]; exact Int.le_refl _, fun b _ q _ _ j => e b j q, fun r hr => Or.inl (e r 0 (nr r hr))⟩
  have P : n_sp h hh A [] [] [] := n_sp_of I K n_kr_rfl (fun b hb => ⟨(hA b hb).1, Or.inl (by have := (hA b hb).2.1; omega)⟩) n_no
  have nos : n_nos [] [] := by unfold n_nos; simp
  have S := n_Rsh_sp I P nos (fun b hb => by have := hA b hb; exact ⟨by omega, this.2.2.1, this.2.2.2.1⟩) n_no x3
  have ref : ∀ b j, 127 ≤ b → b < 312 → m_g hh b j = m_g h b j := fun b j h1 h2 => e b j (fun q => by have := (hA b q).2.1; omega)
  exact ⟨K, P, n_Rsh_g S (fun b j h1 h2 => (ref b j h1 h2).symm), n_bud_same I e2 (fun r hr => e r 0 (nr r hr)) bud⟩
/-! CALLS: deep -/
/-- the depth of order o, by the depths T of those ahead -/
def n_dpV (g : m_H) (k : Int) (T : Int → Int) (o : Int) : Int :=
  if m_g g (153 + k) o ≤ 1 then (if n_sOf g k o (m_g g 127 18) = -1 then 0 else m_g g 134 (n_sOf g k o (m_g g 127 18)))
  else (if m_g g (153 + k) o = 4 ∨ m_g g (153 + k) o = 8 ∨ m_g g (153 + k) o = 7 ∨ m_g g (153 + k) o = 9 then 1 else 0) + (if m_g g (173 + k) o = -1 then T (m_g g (163 + k) o) else max (T (m_g g (163 + k) o)) (T (m_g g (173 + k) o)))
def n_dpT (g : m_H) (k : Int) : Nat → Int → Int
  | 0 => fun _ => 0
  | n + 1 => fun j => if j = n then n_dpV g k (n_dpT g k n) n else n_dpT g k n j
theorem n_dpT_s (g : m_H) (k : Int) (n : Nat) (j : Int) : n_dpT g k (n + 1) j = if j = n then n_dpV g k (n_dpT g k n) n else n_dpT g k n j := rfl
theorem n_dpT_b {g : m_H} {k : Int} (G : n_gs g) : ∀ (n : Nat) (j : Int), 0 ≤ n_dpT g k n j ∧ n_dpT g k n j ≤ 100 + n
  | 0, j => by unfold n_dpT; omega
  | n + 1, j => by
    rw [n_dpT_s]
    have b := fun j => n_dpT_b (k := k) G n j
    have B := G.1
    unfold n_shB at B
    by_cases c : j = n
    · rw [if_pos c]
      unfold n_dpV
      have b1 := b (m_g g (163 + k) n)
      have b2 := b (m_g g (173 + k) n)
      by_cases v : m_g g (153 + k) n ≤ 1
      · rw [if_pos v]
        by_cases e : n_sOf g k n (m_g g 127 18) = -1
        · rw [if_pos e]; omega
        · rw [if_neg e]
          have so := n_sOf_b (g := g) (k := k) (o := n) (d := m_g g 127 18) B.1
          have q := G.2.1 (n_sOf g k n (m_g g 127 18)) (by omega) (by omega)
          unfold n_strB at q
          omega
      · rw [if_neg v]
        split <;> split <;> omega
    · rw [if_neg c]
      have := b j
      omega
theorem n_dpT_st (g : m_H) (k : Int) : ∀ (q : Nat) (n : Nat) (j : Int), j < n → n_dpT g k (n + q) j = n_dpT g k n j
  | 0, n, j, _ => rfl
  | q + 1, n, j, h => by rw [show n + (q + 1) = (n + q) + 1 by omega, n_dpT_s, if_neg (by omega), n_dpT_st g k q n j h]
def n_dpF (g : m_H) (k j : Int) : Int := n_dpT g k (j.toNat + 1) j
theorem n_dpF_T {g : m_H} {k j : Int} {n : Nat} (j0 : 0 ≤ j) (j1 : j < n) : n_dpF g k j = n_dpT g k n j := by
  unfold n_dpF
  have := n_dpT_st g k (n - (j.toNat + 1)) (j.toNat + 1) j (by omega)
  rw [show j.toNat + 1 + (n - (j.toNat + 1)) = n by omega] at this
  exact this.symm
theorem n_dpF_b {g : m_H} {k j : Int} (G : n_gs g) (j1 : j < 40) : 0 ≤ n_dpF g k j ∧ n_dpF g k j ≤ 200 := by
  have := n_dpT_b (k := k) G (j.toNat + 1) j
  unfold n_dpF
  omega
theorem n_dpF_eq {g : m_H} {k o : Int} (b : n_ordB g k o) (o0 : 0 ≤ o) : n_dpF g k o = n_dpV g k (n_dpF g k) o := by
  have e : n_dpF g k o = n_dpV g k (n_dpT g k o.toNat) o := by
    unfold n_dpF
    rw [n_dpT_s, show ((o.toNat : Nat) : Int) = o by omega, if_pos rfl]
  rw [e]
  unfold n_dpV
  by_cases v : m_g g (153 + k) o ≤ 1
  · rw [if_pos v, if_pos v]
  · rw [if_neg v, if_neg v]
    have b2 := b.2.2.2.1 (by omega)
    rw [n_dpF_T (n := o.toNat) b2.1 (by omega)]
    by_cases c : m_g g (173 + k) o = -1
    · rw [if_pos c, if_pos c]
    · rw [if_neg c, if_neg c]
      have b3 : m_g g (153 + k) o = 5 := by
        by_cases q : m_g g (153 + k) o = 5
        · exact q
        · exact absurd (b.2.2.2.2.1 q) c
      have b4 := b.2.2.2.2.2.1 b3
      rw [n_dpF_T (n := o.toNat) b4.1 (by omega)]
/-- the deepest put of the first n orders -/
def n_dpM (g : m_H) (k : Int) : Nat → Int
  | 0 => -1
  | n + 1 => if m_g g (153 + k) n = 12 then max (n_dpM g k n) (n_dpF g k n) else n_dpM g k n
theorem n_dpM_b {g : m_H} {k : Int} (G : n_gs g) : ∀ n : Nat, n ≤ 40 → -1 ≤ n_dpM g k n ∧ n_dpM g k n ≤ 200
  | 0, _ => by unfold n_dpM; omega
  | n + 1, h => by
    rw [n_dpM]
    have := n_dpM_b (k := k) G n (by omega)
    have := n_dpF_b (k := k) (j := n) G (by omega)
    split <;> omega
theorem n_ent {h : m_H} {i : Int} {f : Int → Int} (I : n_I h) {n : Int} (n1 : n ≤ 40) (e : ∀ j, 0 ≤ j → j < n → m_g h 25 j = f j) (i0 : -1 ≤ i) (i1 : i < n) : t10_entry 25 i 0 h = some ((if i = -1 then 0 else f i), h) := by
  have l := n_l25 I.2
  by_cases c : i = -1
  · rw [if_pos c, n_entry_n (n_t25 I.2) (by omega) (by omega) (by omega) (by omega) (by omega)]
  · rw [if_neg c, n_entry_y (n_t25 I.2) (by omega) (by omega) (by omega), e i (by omega) i1]
theorem n_depthOf {hh g : m_H} {k a o : Int} (I : n_I hh) (S : n_Rsh hh g) (G : n_gs g) (C : n_scc hh g k a) (o0 : 0 ≤ o) (o1 : o < m_g g 151 k) (E : ∀ j, 0 ≤ j → j < o → m_g hh 25 j = n_dpF g k j) : t3_depthOf 20 a o hh = some (n_dpF g k o, hh) := by
  have b := n_scc_b C o0 o1
  have t6 := n_scc_t C
  have C3 := C.2.2.1
  have B := G.1
  have N := S.1
  unfold n_shB at B
  unfold n_shN at N
  rw [n_dpF_eq b o0]
  have b1 := b.1
  have b1' := b.2.1
  have b2' := b.2.2.2.1
  have b5' := b.2.2.2.2.1
  have b6' := b.2.2.2.2.2.1
  clear b
  have sb := n_sOf_b (g := g) (k := k) (o := o) (d := m_g g 127 18) B.1
  unfold t3_depthOf n_dpV
  rw [if_pos t6, n_isSrcC I C o0 o1, n_bs]
  by_cases v : m_g g (153 + k) o ≤ 1
  · rw [decide_eq_true v, if_pos v]
    show (if true = true then if m_t hh 20 = 3 then if m_t hh (m_g hh 20 0) = 7 then t3_stripOf 20 a o (m_g hh (m_g hh 20 0) 3) hh >>= _ else none else none else _) = _
    rw [if_pos rfl, if_pos (n_t20 I.2), n_p20_0 I.2, if_pos (n_t2 I.2), N.2.2.1, n_ledC I S G C o0 o1 (by omega) (by omega), n_bs]
    show (if m_t hh 2 = 7 then t7_there 2 (n_sOf g k o (m_g g 127 18)) hh >>= _ else none) = _
    rw [if_pos (n_t2 I.2)]
    rcases sb with e | ⟨e1, e2, e3⟩
    · rw [e, n_there_n I S G (by omega) (by omega) (by omega), n_bs, if_pos rfl]
      rfl
    · obtain ⟨⟨s1, s2, s3, s4⟩, s5, s6, s7, s8, s9, s10⟩ := n_st S ⟨e1, e2⟩
      rw [n_there_y I S G ⟨e1, e2⟩ e3, n_bs, if_neg (by omega)]
      show (if m_g hh 3 (n_sOf g k o (m_g g 127 18)) = 0 then _ else if m_t hh (m_g hh 3 (n_sOf g k o (m_g g 127 18))) = 8 then some (m_g hh (m_g hh 3 (n_sOf g k o (m_g g 127 18))) 5, hh) else none) = _
      rw [if_neg (by omega), if_pos s1, s9]
  · rw [decide_eq_false v, if_neg v]
    show (if m_t hh a = 6 then t6_verb a o hh >>= _ else none) = _
    rw [if_pos t6, n_verbC I C o0 o1, n_bs]
    show (if m_w (m_g g (153 + k) o) = 4 then t3_depthOf_c71 20 a o hh else if m_w (m_g g (153 + k) o) = 8 then t3_depthOf_c71 20 a o hh else if m_w (m_g g (153 + k) o) = 7 then t3_depthOf_c71 20 a o hh else if m_w (m_g g (153 + k) o) = 9 then t3_depthOf_c71 20 a o hh else t3_depthOf_c76 20 a o 0 hh) = _
    have b2 := b2' (by omega)
    have b3 : -1 ≤ m_g g (173 + k) o ∧ m_g g (173 + k) o < o := by
      by_cases q : m_g g (153 + k) o = 5
      · have := b6' q; omega
      · have := b5' q; omega
    have fb := fun j (j1 : j < 40) => n_dpF_b (k := k) (j := j) G j1
    have f1 := fb (m_g g (163 + k) o) (by omega)
    have f2 := fb (m_g g (173 + k) o) (by omega)
    have c76 : ∀ s0, t3_depthOf_c76 20 a o s0 hh = some (s0 + (if m_g g (173 + k) o = -1 then n_dpF g k (m_g g (163 + k) o) else max (n_dpF g k (m_g g (163 + k) o)) (n_dpF g k (m_g g (173 + k) o))), hh) := fun s0 => by
      unfold t3_depthOf_c76
      rw [if_pos (n_t20 I.2), if_pos t6, n_oneC I C o0 o1, n_bs, n_p20_4 I.2]
      show (t10_entry 25 (m_g g (163 + k) o) 0 hh >>= _) = _
      rw [n_ent I (n := o) (by omega) E (by omega) (by omega), n_bs, if_neg (by omega)]
      show (if m_t hh 20 = 3 then if m_t hh a = 6 then t6_other a o hh >>= _ else none else none) = _
      rw [if_pos (n_t20 I.2), if_pos t6, n_otherC I C o0 o1, n_bs, n_p20_4 I.2]
      show (t10_entry 25 (m_g g (173 + k) o) 0 hh >>= _) = _
      rw [n_ent I (n := o) (by omega) E (by omega) (by omega), n_bs]
      show some (s0 + m_max (n_dpF g k (m_g g (163 + k) o)) (if m_g g (173 + k) o = -1 then 0 else n_dpF g k (m_g g (173 + k) o)), hh) = _
      by_cases c : m_g g (173 + k) o = -1
      · rw [if_pos c, if_pos c, n_max (by omega) (by omega) (by omega) (by omega), Int.max_eq_left f1.1]
      · rw [if_neg c, if_neg c, n_max (by omega) (by omega) (by omega) (by omega)]
    have c71 : t3_depthOf_c71 20 a o hh = t3_depthOf_c76 20 a o 1 hh := rfl
    rw [m_w_of (x := m_g g (153 + k) o) (by omega) (by omega), c71]
    by_cases d : m_g g (153 + k) o = 4 ∨ m_g g (153 + k) o = 8 ∨ m_g g (153 + k) o = 7 ∨ m_g g (153 + k) o = 9
    · rw [if_pos d, ← c76 1]
      by_cases d1 : m_g g (153 + k) o = 4
      · rw [if_pos d1]
      · rw [if_neg d1]
        by_cases d2 : m_g g (153 + k) o = 8
        · rw [if_pos d2]
        · rw [if_neg d2]
          by_cases d3 : m_g g (153 + k) o = 7
          · rw [if_pos d3]
          · rw [if_neg d3, if_pos (by omega)]
    · rw [if_neg d, ← c76 0, if_neg (by omega), if_neg (by omega), if_neg (by omega), if_neg (by omega)]
