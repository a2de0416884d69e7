/-! CALLS: fault, score: both parse: items -/
def n_qJ (h k : m_H) (c' : Nat) (C : Option (Bool × m_H)) (R : Option (Unit × m_H)) (Q : m_H → m_H → Prop) : Prop := ∃ b x g u, C = some (b, x) ∧ R = some (u, g) ∧ (b = true → Q x g) ∧ (b = false → n_qX h k c' x g)
def n_qk {α : Type} (k : m_H) (f : Int) (R : Option (α × m_H)) : Prop := ∃ u g, R = some (u, g) ∧ n_qF k g f
theorem n_qJ_bad {h k x : m_H} {c' i : Nat} {R : Option (Unit × m_H)} {Q : m_H → m_H → Prop} (T : n_qT h x c' i) (K : n_qk k (n_pq h i) R) : n_qJ h k c' (some (false, x)) R Q := by
  obtain ⟨u, g, e, F⟩ := K
  exact ⟨false, x, g, u, rfl, e, fun q => (by cases q), fun _ => ⟨i, T, F⟩⟩
theorem n_qF_word {k g : m_H} {f : Int} (F : n_qF k g f) (c : Int) : t11_word 127 c g = some ((), g) := by
  obtain ⟨R, e, f0, f1⟩ := F
  unfold t11_word
  rw [if_pos (n_t127 R.1.2), e, m_w_of (by omega) (by omega), if_neg (by omega)]
theorem n_qF_sign {k g : m_H} {f : Int} (F : n_qF k g f) (c : Int) : t11_sign 127 c g = some ((), g) := by
  obtain ⟨R, e, f0, f1⟩ := F
  unfold t11_sign
  rw [if_pos (n_t127 R.1.2), e, m_w_of (by omega) (by omega), if_neg (by omega)]
theorem n_qF_num {k g : m_H} {f : Int} (F : n_qF k g f) (a b : Int) : t11_number 127 a b g = some (0, g) := by
  obtain ⟨R, e, f0, f1⟩ := F
  unfold t11_number
  rw [if_pos (n_t127 R.1.2), e, m_w_of (by omega) (by omega), if_neg (by omega)]
theorem n_qF_made {k g : m_H} {f : Int} (F : n_qF k g f) : t11_made 127 g = some (0, g) := by
  obtain ⟨R, e, f0, f1⟩ := F
  unfold t11_made
  rw [if_pos (n_t127 R.1.2), e, m_w_of (by omega) (by omega), if_neg (by omega)]
theorem n_qF_fails {k g : m_H} {f : Int} (F : n_qF k g f) : t11_fails 127 g = some ((), g) := by
  obtain ⟨R, e, f0, f1⟩ := F
  unfold t11_fails
  rw [if_pos (n_t127 R.1.2), e, m_w_of (by omega) (by omega), if_neg (by omega)]
theorem n_qF_33 {k g : m_H} {f : Int} (F : n_qF k g f) : ¬ m_w (m_g g 127 33) = -1 := by
  obtain ⟨R, e, f0, f1⟩ := F
  rw [e, m_w_of (by omega) (by omega)]
  omega
theorem n_qF_t {k g : m_H} {f : Int} (F : n_qF k g f) : m_t g 127 = 11 := n_t127 F.1.1.2
theorem n_qF_scr {k g : m_H} {f : Int} (F : n_qF k g f) {b : Int} (s : n_scr b) (j v : Int) : n_qF k (m_p g b j v) f := by
  obtain ⟨R, e, f0, f1⟩ := F
  exact ⟨n_qR_p R (Or.inr (Or.inr (Or.inl s))), by rw [n_gp_n (by unfold n_scr at s; omega)]; exact e, f0, f1⟩
theorem n_qk_end {k g : m_H} {f : Int} {α : Type} {a : α} (F : n_qF k g f) : n_qk k f (some (a, g)) := ⟨a, g, rfl, F⟩
/-! kinds -/
theorem n_kT_lt {b : Int → Int} {n p : Int} (q : n_kT9 b n p ≤ 24) : p < n ∧ n_lt (b p) = true := by
  unfold n_kT9 at q
  by_cases z : n ≤ p
  · rw [if_pos z] at q; omega
  · rw [if_neg z] at q
    refine ⟨by omega, ?_⟩
    split at q
    · next w => exact w
    · split at q
      · omega
      · split at q
        · next w => have := of_decide_eq_true w; omega
        · omega
theorem n_kq_27 {h k : m_H} {c' i : Nat} (B : n_qB h k c') (hi : i ≤ c') : n_kq h i = 27 ↔ i = c' := by
  have N := n_qB_n B
  have p := n_qB_p B hi
  have kb := n_kdW_b (m_g h 11) (n_pq h i) (n_eK (m_g h 11) (m_g h 10 1) (n_pq h i))
  constructor
  · intro q
    by_cases c : i < c'
    · have lt := p.2.2 c
      unfold n_kq n_kT9 at q
      rw [if_neg (by omega)] at q
      split at q
      · omega
      · split at q
        · omega
        · split at q
          · next w => have := of_decide_eq_true w; omega
          · omega
    · omega
  · intro q
    subst q
    have l := n_qB_l B
    unfold n_kq n_kT9
    rw [if_pos (by omega)]
theorem n_qJ_word {h k x g : m_H} {c' i : Nat} {o nm : Int} {cc dd : Int → Int} (B : n_qB h k c') (P : n_qP h k c' x g i o nm cc dd) {kw c : Int} (k0 : 0 ≤ kw) (k1 : kw < 24) (hc : c = n_cst kw) {FC : Bool × m_H → Option (Bool × m_H)} {FR : Unit × m_H → Option (Unit × m_H)} {Q : m_H → m_H → Prop} (h1 : ∀ y, FC (false, y) = some (false, y)) (h2 : ∀ y, n_qF k y (n_pq h i) → n_qk k (n_pq h i) (FR ((), y))) (h3 : ∀ x' g', n_qP h k c' x' g' (i + 1) o nm cc dd → n_qJ h k c' (FC (true, x')) (FR ((), g')) Q) : n_qJ h k c' (t4_pass 10 kw x >>= FC) (t11_word 127 c g >>= FR) Q := by
  subst hc
  obtain ⟨X, e1, e2, e3, p0, p1⟩ := n_qP_g B P
  have T := P.1
  obtain ⟨tk, ts, tv⟩ := n_qT_k B T
  have kb := n_kq_b (h := h) (i := i)
  have pb := n_qB_p B T.2.2.1
  have N := n_qB_n B
  have kt := (n_kwT (j := 0) k0 k1 (by omega) (by omega)).1
  have W := n_wordR X P.2.2.1.2.2 (p := n_pq h i) (c := n_cst kw) p0 (by rw [e2]; exact p1) (by omega) (by omega)
  rw [e3, e1, e2] at W
  have hcn : i ≤ c' := T.2.2.1
  have cn := (n_qB_p B (Nat.le_refl c')).1
  have ln := n_qB_l B
  have pc := n_passC T.1.1 T.2.2.2 (k := kw) (by omega) (by omega) (by omega) (by omega) (by rw [tk]; omega) (by rw [tk]; omega)
  rw [tk] at pc
  rw [pc, W]
  have K := n_K1 B.1 p0 p1 k0 k1
  by_cases q : n_kq h i = kw
  · have w := K.mp q
    have hi : i < c' := by
      by_cases z : i = c'
      · have := (n_kq_27 B hcn).mpr z; omega
      · omega
    have lt := n_kT_lt (b := m_g h 11) (n := m_g h 10 1) (p := n_pq h i) (by unfold n_kq at q; omega)
    have sk := n_al_sk B.1 p0
    have eb := n_eK_b (b := m_g h 11) lt.1
    have en : n_sk (m_g h 150) (m_g h 127 30) (n_we (m_g h 150) (m_g h 127 30) (n_pq h i)) = n_pq h (i + 1) := by
      rw [sk.2.1, n_we_y lt.1 lt.2, (n_al_sk B.1 (p := n_eK (m_g h 11) (m_g h 10 1) (n_pq h i)) (by omega)).1, n_pq_s]
    rw [if_pos q, if_pos w, n_bs, n_bs, en]
    exact h3 _ _ (n_qP_next B P hi)
  · rw [if_neg q, if_neg (fun w => q (K.mpr w)), n_bs, n_bs, h1]
    exact n_qJ_bad T (h2 _ (n_qF_of B P.2.1 hcn))
theorem n_qJ_sign {h k x g : m_H} {c' i : Nat} {o nm : Int} {cc dd : Int → Int} (B : n_qB h k c') (P : n_qP h k c' x g i o nm cc dd) {s : Int} (hs : s = 61 ∨ s = 59 ∨ s = 47 ∨ s = 123 ∨ s = 125) {FC : Bool × m_H → Option (Bool × m_H)} {FR : Unit × m_H → Option (Unit × m_H)} {Q : m_H → m_H → Prop} (h1 : ∀ y, FC (false, y) = some (false, y)) (h2 : ∀ y, n_qF k y (n_pq h i) → n_qk k (n_pq h i) (FR ((), y))) (h3 : ∀ x' g', n_qP h k c' x' g' (i + 1) o nm cc dd → n_qJ h k c' (FC (true, x')) (FR ((), g')) Q) : n_qJ h k c' (t4_pass 10 s x >>= FC) (t11_sign 127 s g >>= FR) Q := by
  obtain ⟨X, e1, e2, e3, p0, p1⟩ := n_qP_g B P
  have T := P.1
  obtain ⟨tk, ts, tv⟩ := n_qT_k B T
  have kb := n_kq_b (h := h) (i := i)
  have pb := n_qB_p B T.2.2.1
  have N := n_qB_n B
  have W := n_signR X P.2.2.1.2.2 (p := n_pq h i) (s := s) p0 (by rw [e2]; exact p1) (by omega) (by omega)
  rw [e3, e1, e2] at W
  have hcn : i ≤ c' := T.2.2.1
  have cn := (n_qB_p B (Nat.le_refl c')).1
  have ln := n_qB_l B
  have pc := n_passC T.1.1 T.2.2.2 (k := s) (by omega) (by omega) (by omega) (by omega) (by rw [tk]; omega) (by rw [tk]; omega)
  rw [tk] at pc
  rw [pc, W]
  have K := n_K2 B.1 p0 hs
  by_cases q : n_kq h i = s
  · have w := K.mp q
    have hi : i < c' := by
      by_cases z : i = c'
      · have := (n_kq_27 B hcn).mpr z; omega
      · omega
    have a := (n_al_c B.1 p0 w.1).2.2.2 s (by omega) (by omega)
    have bs := a.mp w.2
    have ek : n_eK (m_g h 11) (m_g h 10 1) (n_pq h i) = n_pq h i + 1 := by
      unfold n_eK
      rw [if_neg (fun z => by have := of_decide_eq_true z; omega), if_neg (fun z => by have := of_decide_eq_true z; omega)]
    have en : n_sk (m_g h 150) (m_g h 127 30) (n_pq h i + 1) = n_pq h (i + 1) := by
      rw [(n_al_sk B.1 (p := n_pq h i + 1) (by omega)).1, n_pq_s, ek]
    rw [if_pos q, if_pos w, n_bs, n_bs, en]
    exact h3 _ _ (n_qP_next B P hi)
  · rw [if_neg q, if_neg (fun w => q (K.mpr w)), n_bs, n_bs, h1]
    exact n_qJ_bad T (h2 _ (n_qF_of B P.2.1 hcn))
theorem n_setC {x : m_H} (I : n_I x) {o w v : Int} (eo : m_g x 15 1 = o) (o0 : 0 ≤ o) (o1 : o < 40) (w0 : 0 ≤ w) (w1 : w < 8) : t4_setCell 10 w v x = some ((), m_p x 16 (8 * o + w) v) := by
  have l := n_l16 I.2
  unfold t4_setCell
  rw [if_pos (n_t10 I.2), n_p10_8 I.2, if_pos (n_t15 I.2), n_p15_0 I.2, eo, n_setEntry_y (n_t16 I.2) (by omega) (by omega) (by omega), n_bs, show o * 8 + w = 8 * o + w by omega]
theorem n_passNumC {h k x g : m_H} {c' i : Nat} {o nm : Int} {cc dd : Int → Int} (B : n_qB h k c') (P : n_qP h k c' x g i o nm cc dd) (o1 : o < 40) (m0 : 0 ≤ nm) (m1 : nm < 5) {lo hi : Int} (lo0 : 0 ≤ lo) (lo1 : lo ≤ 1500) (h0 : 0 ≤ hi) (h1 : hi ≤ 1500) : t4_passNumber 10 lo hi x = if n_kq h i = 25 ∧ lo ≤ n_vq h i ∧ n_vq h i ≤ hi then some (true, m_p (m_p (m_p x 16 (8 * o + (3 + nm)) (n_vq h i)) 10 10 (nm + 1)) 10 7 ((i : Int) + 1)) else some (false, x) := by
  have T := P.1
  obtain ⟨X, e1, e2, e3, p0, p1⟩ := n_qP_g B P
  obtain ⟨tk, ts, tv⟩ := n_qT_k B T
  have kb := n_kq_b (h := h) (i := i)
  have hcn : i ≤ c' := T.2.2.1
  have cn := (n_qB_p B (Nat.le_refl c')).1
  have ln := n_qB_l B
  have N := n_qB_n B
  have I := T.1.1
  obtain ⟨s1, s2, s3, s4, s5⟩ := P.2.2.2.1
  have K3 := (n_K3 B.1 (lo := lo) (hi := hi) p0 h1).2
  have nu := n_isNumC I T.2.2.2 (lo := lo) (hi := hi) (by omega) (by omega) lo0 lo1 h0 h1 (by rw [tk]; omega) (by rw [tk]; omega) (fun q => by
    rw [tk] at q
    rw [tv (Or.inr q)]
    exact (K3 q).1)
  have P1 := n_qP_cell P (w := 3 + nm) (by omega) (by omega) (n_vq h i)
  have P2 := n_qP_nm P1 (nm + 1)
  unfold t4_passNumber
  rw [if_pos (n_t10 I.2), nu, n_bs, tk]
  dsimp only
  by_cases c : n_kq h i = 25 ∧ lo ≤ n_vq h i ∧ n_vq h i ≤ hi
  · have v := tv (Or.inr c.1)
    rw [v, decide_eq_true c, if_pos rfl, if_pos c, if_pos (n_t10 I.2), n_valueC I T.2.2.2 (by omega) (by omega), n_bs, v]
    dsimp only
    rw [if_pos (n_t10 I.2), s3, n_setC I s1 s4 o1 (by omega) (by omega), n_bs]
    dsimp only
    rw [if_pos (n_t10 P1.1.1.1.2), n_bs]
    rw [P1.2.2.2.1.2.2.1, if_pos (n_t10 P2.1.1.1.2), P2.1.2.2.2, n_bs]
  · rw [if_neg c, decide_eq_false (fun z => c ⟨z.1, by rw [tv (Or.inr z.1)] at z; exact z.2⟩), if_neg (by decide)]
theorem n_qJ_num {h k x g : m_H} {c' i : Nat} {o nm : Int} {cc dd : Int → Int} (B : n_qB h k c') (P : n_qP h k c' x g i o nm cc dd) (o1 : o < 40) (m0 : 0 ≤ nm) (m1 : nm < 5) {lo hi : Int} (lo0 : 0 ≤ lo) (lh : lo ≤ hi) (h1' : hi ≤ 1500) {FC : Bool × m_H → Option (Bool × m_H)} {FR : Int × m_H → Option (Unit × m_H)} {Q : m_H → m_H → Prop} (h1 : ∀ y, FC (false, y) = some (false, y)) (h2 : ∀ y, n_qF k y (n_pq h i) → n_qk k (n_pq h i) (FR (0, y))) (h3 : ∀ v x' g', lo ≤ v → v ≤ hi → n_qP h k c' x' g' (i + 1) o (nm + 1) (n_up cc (3 + nm) v) dd → n_qJ h k c' (FC (true, x')) (FR (v, g')) Q) : n_qJ h k c' (t4_passNumber 10 lo hi x >>= FC) (t11_number 127 lo hi g >>= FR) Q := by
  obtain ⟨X, e1, e2, e3, p0, p1⟩ := n_qP_g B P
  have T := P.1
  have pb := n_qB_p B T.2.2.1
  have N := n_qB_n B
  have W := n_numR X P.2.2.1.2.2 (p := n_pq h i) (lo := lo) (hi := hi) p0 (by rw [e2]; exact p1) lo0 h1' lh
  rw [e3, e1, e2] at W
  have hcn : i ≤ c' := T.2.2.1
  rw [n_passNumC B P o1 m0 m1 lo0 (by omega) (by omega) h1', W]
  obtain ⟨K, K2⟩ := n_K3 B.1 (lo := lo) (hi := hi) p0 h1'
  by_cases q : n_kq h i = 25 ∧ lo ≤ n_vq h i ∧ n_vq h i ≤ hi
  · have w := K.mp q
    obtain ⟨y1, y2, y3⟩ := K2 q.1
    have ev : n_vlR (m_g h 150) (m_g h 127 30 - n_pq h i).toNat (n_pq h i) 0 = n_vq h i := y3 (by have := q.2.2; unfold n_vq at this; omega)
    have hi' : i < c' := by
      by_cases z : i = c'
      · have := (n_kq_27 B hcn).mpr z; omega
      · omega
    have dg := n_kT25.mp q.1
    have eb := n_eK_b (b := m_g h 11) dg.1
    have en : n_sk (m_g h 150) (m_g h 127 30) (n_ne (m_g h 150) (m_g h 127 30) (n_pq h i)) = n_pq h (i + 1) := by
      rw [y2, (n_al_sk B.1 (p := n_eK (m_g h 11) (m_g h 10 1) (n_pq h i)) (by omega)).1, n_pq_s]
    rw [if_pos q, if_pos w, n_bs, n_bs, en, ev]
    exact h3 _ _ _ q.2.1 q.2.2 (n_qP_next B (n_qP_nm (n_qP_cell P (w := 3 + nm) (by omega) (by omega) (n_vq h i)) (nm + 1)) hi')
  · rw [if_neg q, if_neg (fun w => q (K.mpr w)), n_bs, n_bs, h1]
    exact n_qJ_bad T (h2 _ (n_qF_of B P.2.1 hcn))
/-- both know the same name -/
theorem n_qKnown {h k x g : m_H} {c' i : Nat} {o nm : Int} {cc dd : Int → Int} (B : n_qB h k c') (P : n_qP h k c' x g i o nm cc dd) : ∃ r, t4_namedOrder 10 x = some (r, x) ∧ t11_wordKnown 127 g = some (r, g) ∧ (r = -1 ∨ ((0 ≤ r ∧ r < o) ∧ m_g g 161 r ≠ 12 ∧ n_kq h i = 24)) ∧ (r = -1 → n_kq h i = 24 → ∀ q, 0 ≤ q → q < o → m_g x 18 q ≠ n_vq h i) := by
  obtain ⟨X, e1, e2, e3, p0, p1⟩ := n_qP_g B P
  have T := P.1
  obtain ⟨tk, ts, tv⟩ := n_qT_k B T
  have kb := n_kq_b (h := h) (i := i)
  have hcn : i ≤ c' := T.2.2.1
  have cn := (n_qB_p B (Nat.le_refl c')).1
  have ln := n_qB_l B
  have N := n_qB_n B
  obtain ⟨s1, s2, s3, s4, s5⟩ := P.2.2.2.1
  obtain ⟨n1, n2, n3, n4⟩ := P.2.2.2.2.1
  have nmb : ∀ q, 0 ≤ q → q < o → -1 ≤ m_g x 18 q ∧ m_g x 18 q ≤ 1073741824 := fun q q0 q1 => by
    rcases n3 q q0 q1 with w | ⟨w, w0, w1⟩
    · omega
    · obtain ⟨a1, a2, a3, a4, a5, a6⟩ := n2 w w0.1 w0.2
      have v := n_nmV B.1 a1.1 a1.2 a2
      rw [w1] at a5
      omega
  obtain ⟨r, f1, f2, f3⟩ := n_namedC T.1.1 T.2.2.2 (o := o) (by omega) (by omega) s1 s4 s5 (by rw [tk]; exact kb) (fun q => by
    rw [tk] at q
    rw [tv (Or.inl q)]
    exact n_nmV B.1 p0 p1 q) nmb
  obtain ⟨r', g1, g2⟩ := n_knownR X (p := n_pq h i) (W := m_g g 127 47) p0 (by rw [e2]; exact p1) rfl n1.1 (by omega) (fun w w0 w1 => by
    obtain ⟨a1, a2, a3, a4, a5, a6⟩ := n2 w w0 w1
    have K := (n_K4 B.1 a1.1 a1.2).mp a2
    rw [e1, e2]
    exact ⟨a1, a3, by omega⟩)
  rw [e3] at g1
  rw [e1, e2] at g2
  rw [tk] at f2 f3
  by_cases c : n_kq h i = 24
  · have v := tv (Or.inl c)
    have vb := n_nmV B.1 p0 p1 c
    rw [v] at f3
    rcases f3 c with ⟨w1, w2⟩ | ⟨w1, w2⟩
    · rcases g2 with ⟨y1, y2⟩ | ⟨w, y1, y2, y3⟩
      · exact ⟨r, f1, by rw [w1, ← y1]; exact g1, Or.inl w1, fun _ _ => w2⟩
      · exfalso
        obtain ⟨a1, a2, a3, a4, a5, a6⟩ := n2 w y1.1 y1.2
        exact w2 _ a4.1 a4.2 (a5.trans ((n_sameV B.1 a1.1 a1.2 p0 p1 a2 c).mpr y2))
    · rcases g2 with ⟨y1, y2⟩ | ⟨w, y1, y2, y3⟩
      · exfalso
        rcases n3 r w1.1 w1.2 with z | ⟨w, z0, z1⟩
        · unfold n_vq at w2; omega
        · obtain ⟨a1, a2, a3, a4, a5, a6⟩ := n2 w z0.1 z0.2
          refine y2 w z0.1 z0.2 ((n_sameV B.1 a1.1 a1.2 p0 p1 a2 c).mp ?_)
          rw [z1] at a5
          exact a5.symm.trans w2
      · obtain ⟨a1, a2, a3, a4, a5, a6⟩ := n2 w y1.1 y1.2
        have sv := (n_sameV B.1 a1.1 a1.2 p0 p1 a2 c).mpr y2
        have eq := n4 (m_g g 234 w) r a4.1 a4.2 w1.1 w1.2 (by rw [a5, w2]; exact sv) (by rw [a5, sv]; omega)
        refine ⟨r, f1, by rw [← eq, ← y3]; exact g1, Or.inr ⟨w1, by rw [← eq]; exact a6, c⟩, fun q => by omega⟩
  · have rr := f2 c
    rcases g2 with ⟨y1, y2⟩ | ⟨w, y1, y2, y3⟩
    · exact ⟨r, f1, by rw [rr, ← y1]; exact g1, Or.inl rr, fun _ q => absurd q c⟩
    · exfalso
      obtain ⟨a1, a2, a3, a4, a5, a6⟩ := n2 w y1.1 y1.2
      exact c (n_sameK B.1 a1.1 a1.2 p0 p1 a2 y2)
theorem n_qJ_row {h k x g : m_H} {c' i : Nat} {o nm : Int} {cc dd : Int → Int} (B : n_qB h k c') (P : n_qP h k c' x g i o nm cc dd) (o1 : o < 40) {w : Int} (w0 : 0 ≤ w) (w1 : w < 8) {FC : Bool × m_H → Option (Bool × m_H)} {FR : Int × m_H → Option (Unit × m_H)} {Q : m_H → m_H → Prop} (h1 : ∀ y, FC (false, y) = some (false, y)) (h2 : ∀ y, n_qF k y (n_pq h i) → n_qk k (n_pq h i) (FR (0, y))) (h3 : ∀ r x' g', (0 ≤ r ∧ r < o) → dd (9 + r) ≠ 12 → n_qP h k c' x' g' (i + 1) o nm (n_up cc w r) dd → n_qJ h k c' (FC (true, x')) (FR (r, g')) Q) : n_qJ h k c' (t4_passRow 10 w x >>= FC) (t11_made 127 g >>= FR) Q := by
  obtain ⟨X, e1, e2, e3, p0, p1⟩ := n_qP_g B P
  have T := P.1
  have hcn : i ≤ c' := T.2.2.1
  have N := n_qB_n B
  have I := T.1.1
  obtain ⟨s1, s2, s3, s4, s5⟩ := P.2.2.2.1
  obtain ⟨v1, v2, v3⟩ := P.2.2.1
  have wb := n_we_b (b := m_g h 150) p1
  obtain ⟨r, f1, f2, f3, f4⟩ := n_qKnown B P
  have fl := n_failsR X v3 (n_pq h i)
  rw [e3] at fl
  have tR : m_t g 127 = 11 := n_t127 P.2.1.1.2
  have mR : t11_made 127 g = if n_we (m_g h 150) (m_g h 127 30) (n_pq h i) = n_pq h i then some (0, m_p g 127 33 (n_pq h i)) else if r = -1 then some (0, m_p g 127 33 (n_pq h i)) else t11_goesOn 127 g >>= fun z => some (r, z.2) := by
    unfold t11_made
    rw [if_pos tR, v3, m_w_of (x := -1) (by omega) (by omega), if_pos rfl, f2, n_bs]
    dsimp only
    rw [if_pos tR, v1, v2, m_w_of (x := n_we (m_g h 150) (m_g h 127 30) (n_pq h i)) (by omega) (by omega), m_w_of (x := n_pq h i) (by omega) (by omega), m_w_of (x := r) (by omega) (by omega), fl, n_bs]
  have mC : t4_passRow 10 w x = if r = -1 then some (false, x) else t4_setCell 10 w r x >>= fun z => if m_t z.2 10 = 4 then some (true, m_p z.2 10 7 (m_g z.2 10 7 + 1)) else none := by
    unfold t4_passRow
    rw [if_pos (n_t10 I.2), f1, n_bs]
    dsimp only
    rw [m_w_of (x := r) (by omega) (by omega), if_pos (n_t10 I.2)]
    rfl
  rcases f3 with c | ⟨c1, c2, c3⟩
  · have mR2 : t11_made 127 g = some (0, m_p g 127 33 (n_pq h i)) := by
      rw [mR, if_pos c, ite_self]
    rw [mC, if_pos c, mR2, n_bs, n_bs, h1]
    exact n_qJ_bad T (h2 _ (n_qF_of B P.2.1 hcn))
  · have hi : i < c' := by
      by_cases z : i = c'
      · have := (n_kq_27 B hcn).mpr z; omega
      · omega
    obtain ⟨y1, y2, y3, y4, y5⟩ := n_nmT B.1 p0 p1 c3
    have eb := n_eK_b (b := m_g h 11) (n := m_g h 10 1) (p := n_pq h i) (by omega)
    have P1 := n_qP_cell P w0 w1 r
    have go : t11_goesOn 127 g = some ((), n_atR g (n_pq h (i + 1))) := by
      have q := n_goesR X (p := n_pq h i) (e := n_we (m_g h 150) (m_g h 127 30) (n_pq h i)) (by omega) (by omega)
      have ea : n_h2 g 127 31 32 (n_pq h i) (n_we (m_g h 150) (m_g h 127 30) (n_pq h i)) = g := by
        have := e3
        unfold n_atR at this
        rw [e1, e2] at this
        exact this
      rw [ea, e1, e2, y3, (n_al_sk B.1 (p := n_eK (m_g h 11) (m_g h 10 1) (n_pq h i)) (by omega)).1, ← n_pq_s] at q
      exact q
    rw [mC, mR, if_neg (show ¬ r = -1 by omega), if_neg (by omega), if_neg (show ¬ r = -1 by omega), n_setC I s1 s4 o1 w0 w1, n_bs, go, n_bs]
    dsimp only
    rw [if_pos (n_t10 P1.1.1.1.2), P1.1.2.2.2, n_bs, n_bs]
    exact h3 _ _ _ c1 (by rw [← P.2.2.2.2.2.2.2.2.2.2 r c1.1 c1.2]; exact c2) (n_qP_next B P1 hi)
