/-! CALLS: fault, score: names, pure -/
theorem n_K4 {h : m_H} (A : n_alk h) {p : Int} (p0 : 0 ≤ p) (p1 : p ≤ m_g h 127 30) : n_kT9 (m_g h 11) (m_g h 10 1) p = 24 ↔ (1 ≤ n_we (m_g h 150) (m_g h 127 30) p - p ∧ n_we (m_g h 150) (m_g h 127 30) p - p ≤ 6 ∧ ∀ k, 0 ≤ k → k < 24 → n_isW (m_g h 150) (m_g h 127 30) p (n_cst k) = false) := by
  have K := fun k k0 k1 => n_K1 A p0 p1 (k := k) k0 k1
  have ew := (n_al_sk A p0).2.1
  have a := A.1
  have nb : n_kT9 (m_g h 11) (m_g h 10 1) p = 24 → ∀ k, 0 ≤ k → k < 24 → n_isW (m_g h 150) (m_g h 127 30) p (n_cst k) = false := fun q k k0 k1 => Bool.eq_false_iff.mpr (fun w => by have := (K k k0 k1).mpr w; omega)
  by_cases c : p < m_g h 10 1 ∧ n_lt (m_g h 11 p) = true
  · have e1 := n_we_y c.1 c.2
    have eb := n_eK_b (b := m_g h 11) c.1
    have F := n_kwF_b (m_g h 11) p (n_eK (m_g h 11) (m_g h 10 1) p) 24 0 (by omega)
    have kd : n_kT9 (m_g h 11) (m_g h 10 1) p = n_kdW (m_g h 11) p (n_eK (m_g h 11) (m_g h 10 1) p) := by
      unfold n_kT9
      rw [if_neg (by omega), if_pos c.2]
    rw [ew, e1]
    constructor
    · intro q
      refine ⟨by omega, ?_, nb q⟩
      rw [kd] at q
      unfold n_kdW at q
      split at q
      · omega
      · omega
    · rintro ⟨q1, q2, q3⟩
      have t := kd
      unfold n_kdW at t
      rw [if_neg (by omega)] at t
      split at t
      · exact t
      · next w =>
        have kk := (K _ (show 0 ≤ n_kwF (m_g h 11) p (n_eK (m_g h 11) (m_g h 10 1) p) 24 0 by omega) (by omega)).mp t
        rw [q3 _ (by omega) (by omega)] at kk
        cases kk
  · have e2 : n_we (m_g h 11) (m_g h 10 1) p = p := by
      refine n_we_n ?_
      by_cases z : p < m_g h 10 1
      · right
        exact Bool.eq_false_iff.mpr (fun q => c ⟨z, q⟩)
      · left; omega
    rw [ew, e2]
    refine ⟨fun q => ?_, fun q => by omega⟩
    exfalso
    unfold n_kT9 at q
    by_cases z : m_g h 10 1 ≤ p
    · rw [if_pos z] at q; omega
    · rw [if_neg z, if_neg (fun w => c ⟨by omega, w⟩)] at q
      split at q
      · omega
      · split at q
        · next w => have := of_decide_eq_true w; omega
        · omega
/-- a name: its letters, its end, its code -/
theorem n_nmT {h : m_H} (A : n_alk h) {p : Int} (p0 : 0 ≤ p) (p1 : p ≤ m_g h 127 30) (k : n_kT9 (m_g h 11) (m_g h 10 1) p = 24) : p < m_g h 127 30 ∧ n_lt (m_g h 11 p) = true ∧ n_we (m_g h 150) (m_g h 127 30) p = n_eK (m_g h 11) (m_g h 10 1) p ∧ (∀ j : Int, p ≤ j → j < n_eK (m_g h 11) (m_g h 10 1) p → n_lt (m_g h 11 j) = true) ∧ n_vT9 (m_g h 11) (m_g h 10 1) p = (n_cdP (m_g h 11) (n_eK (m_g h 11) (m_g h 10 1) p - p).toNat p 0 : Int) := by
  have K := (n_K4 A p0 p1).mp k
  have ew := (n_al_sk A p0).2.1
  have a := A.1
  rw [ew] at K
  have c : p < m_g h 10 1 ∧ n_lt (m_g h 11 p) = true := by
    by_cases c : p < m_g h 10 1
    · refine ⟨c, ?_⟩
      by_cases d : n_lt (m_g h 11 p) = true
      · exact d
      · have := n_we_n (b := m_g h 11) (n := m_g h 10 1) (p := p) (Or.inr (Bool.eq_false_iff.mpr d))
        omega
    · have := n_we_n (b := m_g h 11) (n := m_g h 10 1) (p := p) (Or.inl (by omega))
      omega
  have e1 := n_we_y c.1 c.2
  have al : ∀ j : Int, p ≤ j → j < n_we (m_g h 11) (m_g h 10 1) p → n_lt (m_g h 11 j) = true := fun j j0 j1 => n_past_all _ p j j0 j1
  refine ⟨by omega, c.2, by rw [ew, e1], fun j j0 j1 => al j j0 (by rw [e1]; exact j1), ?_⟩
  have d := of_decide_eq_true c.2
  have eb := n_eK_b (b := m_g h 11) c.1
  have ee : n_eK (m_g h 11) (m_g h 10 1) p = n_past n_lt (m_g h 11) (m_g h 10 1 - (p + 1)).toNat (p + 1) := by
    unfold n_eK
    rw [if_pos c.2]
  unfold n_vT9
  rw [if_pos c.2, ee, show m_g h 11 p - 97 + 1 = (((m_g h 11 p - 96).toNat : Nat) : Int) by omega]
  rw [ee] at eb e1
  have pb := n_past_b n_lt (m_g h 11) (m_g h 10 1 - (p + 1)).toNat (p + 1)
  have pw : 32 ^ (n_past n_lt (m_g h 11) (m_g h 10 1 - (p + 1)).toNat (p + 1) - (p + 1)).toNat ≤ 32 ^ 5 := Nat.pow_le_pow_right (by omega) (by omega)
  rw [n_cd_P (m_g h 11) _ _ _ (Nat.le_trans (Nat.mul_le_mul (show (m_g h 11 p - 96).toNat + 1 ≤ 27 by omega) pw) (by decide))]
  rw [show (n_past n_lt (m_g h 11) (m_g h 10 1 - (p + 1)).toNat (p + 1) - p).toNat = (n_past n_lt (m_g h 11) (m_g h 10 1 - (p + 1)).toNat (p + 1) - (p + 1)).toNat + 1 by omega, n_cdP, show 0 * 32 + (m_g h 11 p - 96).toNat = (m_g h 11 p - 96).toNat by omega]
/-- the words at p and q are the same for the reference -/
def n_sameW (b : Int → Int) (n q p : Int) : Prop := n_we b n q - q = n_we b n p - p ∧ ∀ j, 0 ≤ j → j < n_we b n q - q → b (q + j) = b (p + j)
theorem n_sameK {h : m_H} (A : n_alk h) {q p : Int} (q0 : 0 ≤ q) (q1 : q ≤ m_g h 127 30) (p0 : 0 ≤ p) (p1 : p ≤ m_g h 127 30) (k : n_kT9 (m_g h 11) (m_g h 10 1) q = 24) (s : n_sameW (m_g h 150) (m_g h 127 30) q p) : n_kT9 (m_g h 11) (m_g h 10 1) p = 24 := by
  obtain ⟨k1, k2, k3⟩ := (n_K4 A q0 q1).mp k
  obtain ⟨s1, s2⟩ := s
  refine (n_K4 A p0 p1).mpr ⟨by omega, by omega, fun i i0 i1 => ?_⟩
  have e := k3 i i0 i1
  refine Bool.eq_false_iff.mpr (fun w => ?_)
  refine absurd e ?_
  unfold n_isW at w ⊢
  by_cases z : n_we (m_g h 150) (m_g h 127 30) p - p = m_sl (n_cst i)
  · rw [if_pos z, n_eqN_all] at w
    have : n_eqN (m_g h 150) q (n_cst i) (m_sl (n_cst i)).toNat 0 = true := by
      rw [n_eqN_all]
      intro j j0 j1
      rw [s2 j j0 (by omega)]
      exact w j j0 j1
    rw [if_pos (by omega), this]
    decide
  · rw [if_neg z] at w
    cases w
theorem n_sameV {h : m_H} (A : n_alk h) {q p : Int} (q0 : 0 ≤ q) (q1 : q ≤ m_g h 127 30) (p0 : 0 ≤ p) (p1 : p ≤ m_g h 127 30) (k : n_kT9 (m_g h 11) (m_g h 10 1) q = 24) (kp : n_kT9 (m_g h 11) (m_g h 10 1) p = 24) : n_vT9 (m_g h 11) (m_g h 10 1) q = n_vT9 (m_g h 11) (m_g h 10 1) p ↔ n_sameW (m_g h 150) (m_g h 127 30) q p := by
  have a := A.1
  obtain ⟨x1, x2, x3, x4, x5⟩ := n_nmT A q0 q1 k
  obtain ⟨y1, y2, y3, y4, y5⟩ := n_nmT A p0 p1 kp
  have bq := n_eK_b (b := m_g h 11) (n := m_g h 10 1) (p := q) (by omega)
  have bp := n_eK_b (b := m_g h 11) (n := m_g h 10 1) (p := p) (by omega)
  unfold n_sameW
  rw [x3, y3, x5, y5]
  constructor
  · intro e
    have i := n_code_inj (m_g h 11) (p := q) (q := p) _ _ (fun j j0 j1 => x4 _ (by omega) (by omega)) (fun j j0 j1 => y4 _ (by omega) (by omega)) (Int.ofNat.inj e)
    refine ⟨by omega, fun j j0 j1 => ?_⟩
    have e2 := i.2 j j0 (by omega)
    have d := of_decide_eq_true (x4 (q + j) (by omega) (by omega))
    have u := (n_al_c A (j := p + j) (by omega) (by omega)).2.2.2 (m_g h 11 (q + j)) (by omega) (by omega)
    have v := (n_al_c A (j := q + j) (by omega) (by omega)).2.2.2 (m_g h 11 (q + j)) (by omega) (by omega)
    rw [u.mpr e2.symm, v.mpr rfl]
  · rintro ⟨e1, e2⟩
    have len : (n_eK (m_g h 11) (m_g h 10 1) q - q).toNat = (n_eK (m_g h 11) (m_g h 10 1) p - p).toNat := by omega
    rw [len, n_code_eq (m_g h 11) (p := q) (q := p) _ 0 (fun j j0 j1 => ?_)]
    have d := of_decide_eq_true (x4 (q + j) (by omega) (by omega))
    have u := (n_al_c A (j := p + j) (by omega) (by omega)).2.2.2 (m_g h 11 (q + j)) (by omega) (by omega)
    have v := (n_al_c A (j := q + j) (by omega) (by omega)).2.2.2 (m_g h 11 (q + j)) (by omega) (by omega)
    have w := e2 j j0 (by omega)
    rw [v.mpr rfl] at w
    exact (u.mp w.symm).symm
/-! the reference: barred words, verbs -/
def n_anyK (K : Int) (f : Int → Int) : Nat → Int → Bool
  | 0, _ => false
  | m + 1, j => if K = f j then true else n_anyK K f m (j + 1)
theorem n_anyK_n {K : Int} {f : Int → Int} : ∀ (m : Nat) (j : Int), (∀ q, j ≤ q → q < j + m → K ≠ f q) → n_anyK K f m j = false
  | 0, _, _ => rfl
  | m + 1, j, h => by
    unfold n_anyK
    rw [if_neg (h j (by omega) (by omega)), n_anyK_n m (j + 1) (fun q q0 q1 => h q (by omega) (by omega))]
def n_okw (j : Int) : Int := if j < 9 then 14 + j else if j = 9 then 12 else if j = 10 then 23 else 13
theorem n_anyAll : ((List.range 24).all fun k => n_anyK (k : Int) id 12 0 || n_anyK (k : Int) n_okw 12 0) = true := by decide +kernel
theorem n_anyT (K : Int) : (if n_anyK K id 12 0 = true then true else n_anyK K n_okw 12 0) = decide (0 ≤ K ∧ K < 24) := by
  by_cases c : 0 ≤ K ∧ K < 24
  · have A := n_anyAll
    rw [List.all_eq_true] at A
    have q := A K.toNat (List.mem_range.mpr (by omega))
    rw [show ((K.toNat : Nat) : Int) = K by omega, Bool.or_eq_true] at q
    rw [decide_eq_true c]
    rcases q with q | q
    · rw [if_pos q]
    · split
      · rfl
      · exact q
  · rw [decide_eq_false c, n_anyK_n 12 0 (fun q q0 q1 => by show K ≠ q; omega), n_anyK_n 12 0 (fun q q0 q1 => by unfold n_okw; split; omega; split; omega; split <;> omega)]
    rfl
theorem n_c48 {h : m_H} (F : n_fx h) {j : Int} (j0 : 0 ≤ j) (j1 : j < 12) : m_g h 235 j = n_cst j := by
  have c : j = 0 ∨ j = 1 ∨ j = 2 ∨ j = 3 ∨ j = 4 ∨ j = 5 ∨ j = 6 ∨ j = 7 ∨ j = 8 ∨ j = 9 ∨ j = 10 ∨ j = 11 := by omega
  rcases c with e | e | e | e | e | e | e | e | e | e | e | e <;> subst e
  · exact n_fxp F 107 rfl
  · exact n_fxp F 108 rfl
  · exact n_fxp F 109 rfl
  · exact n_fxp F 110 rfl
  · exact n_fxp F 111 rfl
  · exact n_fxp F 112 rfl
  · exact n_fxp F 113 rfl
  · exact n_fxp F 114 rfl
  · exact n_fxp F 115 rfl
  · exact n_fxp F 116 rfl
  · exact n_fxp F 117 rfl
  · exact n_fxp F 118 rfl
theorem n_c49 {h : m_H} (F : n_fx h) {j : Int} (j0 : 0 ≤ j) (j1 : j < 12) : m_g h 236 j = n_cst (n_okw j) := by
  have c : j = 0 ∨ j = 1 ∨ j = 2 ∨ j = 3 ∨ j = 4 ∨ j = 5 ∨ j = 6 ∨ j = 7 ∨ j = 8 ∨ j = 9 ∨ j = 10 ∨ j = 11 := by omega
  rcases c with e | e | e | e | e | e | e | e | e | e | e | e <;> subst e
  · exact n_fxp F 119 rfl
  · exact n_fxp F 120 rfl
  · exact n_fxp F 121 rfl
  · exact n_fxp F 122 rfl
  · exact n_fxp F 123 rfl
  · exact n_fxp F 124 rfl
  · exact n_fxp F 125 rfl
  · exact n_fxp F 126 rfl
  · exact n_fxp F 127 rfl
  · exact n_fxp F 128 rfl
  · exact n_fxp F 129 rfl
  · exact n_fxp F 130 rfl
theorem n_barR {g : m_H} (X : n_tx g) {p K : Int} (p0 : 0 ≤ p) (p1 : p ≤ m_g g 127 30) (hk : ∀ k, 0 ≤ k → k < 24 → n_isW (m_g g 150) (m_g g 127 30) p (n_cst k) = decide (K = k)) : t11_isBarred 127 (n_atR g p) = some (decide (0 ≤ K ∧ K < 24), n_atR g p) := by
  have J := n_atR_I X.1 p
  have k34 : ∀ (m : Nat) (j : Int), 0 ≤ j → 12 = j + m → t11_isBarred_c34 127 j (n_atR g p) = some (n_anyK K n_okw m j, n_atR g p) := by
    intro m
    induction m with
    | zero =>
      intro j j0 em
      rw [t11_isBarred_c34, if_pos (n_t127 J.2), n_p127_49 J.2, if_pos (by rw [n_t236 J.2]; omega), n_l236 J.2, m_w_of (x := j) (by omega) (by omega), m_w_of (x := 12) (by omega) (by omega), if_neg (by omega), n_anyK]
    | succ m ih =>
      intro j j0 em
      have ok : 0 ≤ n_okw j ∧ n_okw j < 24 := by unfold n_okw; split; omega; split; omega; split <;> omega
      have T := (n_kwT (j := 0) ok.1 ok.2 (by omega) (by omega)).1
      rw [t11_isBarred_c34, if_pos (n_t127 J.2), n_p127_49 J.2, if_pos (by rw [n_t236 J.2]; omega), n_l236 J.2, m_w_of (x := j) (by omega) (by omega), m_w_of (x := 12) (by omega) (by omega), if_pos (by omega), if_pos ⟨n_t236 J.2, by omega, by omega⟩, n_c49 J.2 j0 (by omega), n_isWordR X p0 p1 (by omega) (by omega), n_bs, hk _ ok.1 ok.2, n_anyK]
      dsimp only
      by_cases c : K = n_okw j
      · rw [decide_eq_true c, if_pos rfl, if_pos c]
      · rw [decide_eq_false c, if_neg (by decide), if_neg c]
        exact ih (j + 1) (by omega) (by omega)
  have k2 : ∀ (m : Nat) (j : Int), 0 ≤ j → 12 = j + m → t11_isBarred_c2 127 j (n_atR g p) = some (if n_anyK K id m j = true then true else n_anyK K n_okw 12 0, n_atR g p) := by
    intro m
    induction m with
    | zero =>
      intro j j0 em
      rw [t11_isBarred_c2, if_pos (n_t127 J.2), n_p127_48 J.2, if_pos (by rw [n_t235 J.2]; omega), n_l235 J.2, m_w_of (x := j) (by omega) (by omega), m_w_of (x := 12) (by omega) (by omega), if_neg (by omega), k34 12 0 (by omega) (by omega), n_anyK, if_neg (by decide)]
    | succ m ih =>
      intro j j0 em
      have T := (n_kwT (i := j) (j := 0) j0 (by omega) (by omega) (by omega)).1
      rw [t11_isBarred_c2, if_pos (n_t127 J.2), n_p127_48 J.2, if_pos (by rw [n_t235 J.2]; omega), n_l235 J.2, m_w_of (x := j) (by omega) (by omega), m_w_of (x := 12) (by omega) (by omega), if_pos (by omega), if_pos ⟨n_t235 J.2, by omega, by omega⟩, n_c48 J.2 j0 (by omega), n_isWordR X p0 p1 (by omega) (by omega), n_bs, hk _ j0 (by omega), n_anyK]
      dsimp only
      by_cases c : K = j
      · rw [decide_eq_true c, if_pos rfl, if_pos (show K = id j from c), if_pos rfl]
      · rw [decide_eq_false c, if_neg (by decide), if_neg (show ¬ K = id j from c)]
        exact ih (j + 1) (by omega) (by omega)
  unfold t11_isBarred
  rw [k2 12 0 (by omega) (by omega), n_anyT]
theorem n_verbR {g : m_H} (X : n_tx g) {p K : Int} (p0 : 0 ≤ p) (p1 : p ≤ m_g g 127 30) (hk : ∀ k, 0 ≤ k → k < 24 → n_isW (m_g g 150) (m_g g 127 30) p (n_cst k) = decide (K = k)) : t11_verbAt 127 (n_atR g p) = some (if 0 ≤ K ∧ K ≤ 11 then K else -1, n_atR g p) := by
  have J := n_atR_I X.1 p
  have k2 : ∀ (m : Nat) (j : Int), 0 ≤ j → 12 = j + m → t11_verbAt_c2 127 j (n_atR g p) = some (if j ≤ K ∧ K ≤ 11 then K else -1, n_atR g p) := by
    intro m
    induction m with
    | zero =>
      intro j j0 em
      rw [t11_verbAt_c2, if_pos (n_t127 J.2), n_p127_48 J.2, if_pos (by rw [n_t235 J.2]; omega), n_l235 J.2, m_w_of (x := j) (by omega) (by omega), m_w_of (x := 12) (by omega) (by omega), if_neg (by omega), if_neg (by omega)]
    | succ m ih =>
      intro j j0 em
      have T := (n_kwT (i := j) (j := 0) j0 (by omega) (by omega) (by omega)).1
      rw [t11_verbAt_c2, if_pos (n_t127 J.2), n_p127_48 J.2, if_pos (by rw [n_t235 J.2]; omega), n_l235 J.2, m_w_of (x := j) (by omega) (by omega), m_w_of (x := 12) (by omega) (by omega), if_pos (by omega), if_pos ⟨n_t235 J.2, by omega, by omega⟩, n_c48 J.2 j0 (by omega), n_isWordR X p0 p1 (by omega) (by omega), n_bs, hk _ j0 (by omega)]
      dsimp only
      by_cases c : K = j
      · rw [decide_eq_true c, if_pos rfl, if_pos (by omega), c]
      · rw [decide_eq_false c, if_neg (by decide), ih (j + 1) (by omega) (by omega)]
        by_cases d : j + 1 ≤ K ∧ K ≤ 11
        · rw [if_pos d, if_pos (by omega)]
        · rw [if_neg d, if_neg (by omega)]
  unfold t11_verbAt
  exact k2 12 0 (by omega) (by omega)
