/-! CALLS: fault, score: both parse: a put -/
theorem n_qP_tC {h k x g : m_H} {c' i : Nat} {o nm : Int} {c d : Int → Int} (P : n_qP h k c' x g i o nm c d) : m_t x 10 = 4 := n_t10 P.1.1.1.2
theorem n_qP_tR {h k x g : m_H} {c' i : Nat} {o nm : Int} {c d : Int → Int} (P : n_qP h k c' x g i o nm c d) : m_t g 127 = 11 := n_t127 P.2.1.1.2
theorem n_qP_34 {h k x g : m_H} {c' i : Nat} {o nm : Int} {c d : Int → Int} (P : n_qP h k c' x g i o nm c d) : m_t g (m_g g 127 34) = 20 ∧ (0 : Int) ≤ 8 ∧ 8 < m_l g (m_g g 127 34) := by
  have F := P.2.1.1.2
  rw [n_p127_34 F, n_t151 F, n_l151 F]
  omega
theorem n_qF_34 {k g : m_H} {f : Int} (X : n_qF k g f) : m_t g (m_g g 127 34) = 20 ∧ (0 : Int) ≤ 8 ∧ 8 < m_l g (m_g g 127 34) := by
  have F := X.1.1.2
  rw [n_p127_34 F, n_t151 F, n_l151 F]
  omega
theorem n_qP_F {h k x g : m_H} {c' i : Nat} {o nm : Int} {c d : Int → Int} (B : n_qB h k c') (P : n_qP h k c' x g i o nm c d) : t11_fails 127 g = some ((), m_p g 127 33 (n_pq h i)) ∧ n_qF k (m_p g 127 33 (n_pq h i)) (n_pq h i) := by
  obtain ⟨X, e1, e2, e3, p0, p1⟩ := n_qP_g B P
  have fl := n_failsR X P.2.2.1.2.2 (n_pq h i)
  rw [e3] at fl
  exact ⟨fl, n_qF_of B P.2.1 P.1.2.2.1⟩
theorem n_qBeg {h k x g : m_H} {c' i : Nat} {o nm : Int} {c d : Int → Int} (P : n_qP h k c' x g i o nm c d) (o1 : o < 40) (v name : Int) : ∃ x', t4_beginOrder 10 v name x = some ((), x') ∧ n_qP h k c' x' g i o 0 (n_up (n_up (n_up (n_up (n_up (n_up c 0 v) 1 (-1)) 2 (-1)) 6 0) 7 0) 8 name) d := by
  have P1 := n_qP_cell P (w := 0) (by omega) (by omega) v
  have P2 := n_qP_cell P1 (w := 1) (by omega) (by omega) (-1)
  have P3 := n_qP_cell P2 (w := 2) (by omega) (by omega) (-1)
  have P4 := n_qP_cell P3 (w := 6) (by omega) (by omega) 0
  have P5 := n_qP_cell P4 (w := 7) (by omega) (by omega) 0
  have P6 := n_qP_name P5 name
  have P7 := n_qP_nm P6 0
  have o0 := P.2.2.2.1.2.2.2.1
  have l := n_l18 P5.1.1.1.2
  refine ⟨_, ?_, P7⟩
  unfold t4_beginOrder
  rw [if_pos (n_qP_tC P), n_setC P.1.1.1 P.2.2.2.1.1 o0 o1 (by omega) (by omega), n_bs]
  dsimp only
  rw [if_pos (n_qP_tC P1), n_setC P1.1.1.1 P1.2.2.2.1.1 o0 o1 (by omega) (by omega), n_bs]
  dsimp only
  rw [if_pos (n_qP_tC P2), n_setC P2.1.1.1 P2.2.2.2.1.1 o0 o1 (by omega) (by omega), n_bs]
  dsimp only
  rw [if_pos (n_qP_tC P3), n_setC P3.1.1.1 P3.2.2.2.1.1 o0 o1 (by omega) (by omega), n_bs]
  dsimp only
  rw [if_pos (n_qP_tC P4), n_setC P4.1.1.1 P4.2.2.2.1.1 o0 o1 (by omega) (by omega), n_bs]
  dsimp only
  rw [if_pos (n_qP_tC P5), n_p10_8 P5.1.1.1.2, if_pos (n_t15 P5.1.1.1.2), n_p10_9 P5.1.1.1.2, P5.2.2.2.1.1, n_setEntry_y (n_t18 P5.1.1.1.2) (by omega) o0 (by omega), n_bs]
  dsimp only
  rw [if_pos (n_qP_tC P6), n_bs]
/-- both stand between orders -/
def n_qS (h k : m_H) (c' : Nat) (x g : m_H) (i : Nat) (o : Int) : Prop := ∃ nm c d, n_qP h k c' x g i o nm c d
/-- the cells of an order against the reference's arrays -/
def n_cd (c d : Int → Int) : Prop :=
  (c 0 = d 0 ∧ c 1 = d 1 ∧ c 2 = d 2) ∧ (d 0 ≠ 3 → c 3 = d 3) ∧ (d 0 = 2 ∨ d 0 = 4 ∨ d 0 = 7 ∨ d 0 = 9 ∨ d 0 = 10 ∨ d 0 = 12 → c 4 = d 4) ∧ (d 0 = 9 → c 5 = d 5) ∧ (d 0 = 12 → c 6 = d 6 ∧ c 7 = d 7) ∧ (d 0 ≠ 12 → c 6 = 0 ∧ c 7 = 0)
/-- the bounds of an order that comes -/
def n_db (o : Int) (d : Int → Int) : Prop :=
  0 ≤ d 0 ∧ d 0 ≤ 12 ∧ (d 0 ≤ 1 → d 1 = -1) ∧ (2 ≤ d 0 → 0 ≤ d 1 ∧ d 1 < o ∧ d (9 + d 1) ≠ 12) ∧ (d 0 ≠ 5 → d 2 = -1) ∧ (d 0 = 5 → 0 ≤ d 2 ∧ d 2 < o ∧ d (9 + d 2) ≠ 12) ∧
  (d 0 ≠ 3 → 0 ≤ d 3 ∧ d 3 ≤ 1500) ∧ (d 0 = 0 → d 3 ≤ 99) ∧ (d 0 = 1 → d 3 ≤ 999) ∧ (d 0 = 4 → 1 ≤ d 3 ∧ d 3 ≤ 8 ∧ 1 ≤ d 4 ∧ d 4 ≤ 8) ∧ (d 0 = 5 → d 3 ≤ 40) ∧ (d 0 = 7 → 1 ≤ d 3 ∧ d 3 ≤ 500 ∧ 0 ≤ d 4 ∧ d 4 ≤ 255) ∧ (d 0 = 8 → d 3 ≤ 3) ∧
  (d 0 = 9 → d 3 ≤ 128 ∧ 0 ≤ d 4 ∧ d 4 ≤ 128 ∧ 0 ≤ d 5 ∧ d 5 ≤ 128) ∧ (d 0 = 11 → d 3 ≤ 128) ∧ (d 0 = 2 ∨ d 0 = 10 → 0 ≤ d 4 ∧ d 4 ≤ 1500) ∧ (d 0 = 12 → 0 ≤ d 4 ∧ d 4 ≤ 15 ∧ 1 ≤ d 6 ∧ d 6 ≤ 9 ∧ 0 ≤ d 7 ∧ d 7 ≤ 999)
theorem n_qO_end {x g : m_H} {o : Int} {c d : Int → Int} (O : n_qO x g o) (K : n_qK x g o c d) (C : n_cd c d) (D : n_db o d) : n_qO x g (o + 1) := fun q q0 q1 => by
  by_cases z : q < o
  · exact O q q0 z
  · have e : q = o := by omega
    subst e
    obtain ⟨k1, k2, k3, k4, k5⟩ := K
    have c0 := k1 0 (by omega) (by omega)
    have c1 := k1 1 (by omega) (by omega)
    have c2 := k1 2 (by omega) (by omega)
    have c3 := k1 3 (by omega) (by omega)
    have c4 := k1 4 (by omega) (by omega)
    have c5 := k1 5 (by omega) (by omega)
    have c6 := k1 6 (by omega) (by omega)
    have c7 := k1 7 (by omega) (by omega)
    have d0 : m_g g 161 q = d 0 := k2 0 (by omega) (by omega)
    have d1 : m_g g 171 q = d 1 := k2 1 (by omega) (by omega)
    have d2 : m_g g 181 q = d 2 := k2 2 (by omega) (by omega)
    have d3 : m_g g 191 q = d 3 := k2 3 (by omega) (by omega)
    have d4 : m_g g 201 q = d 4 := k2 4 (by omega) (by omega)
    have d5 : m_g g 211 q = d 5 := k2 5 (by omega) (by omega)
    have d6 : m_g g 221 q = d 6 := k2 6 (by omega) (by omega)
    have d7 : m_g g 231 q = d 7 := k2 7 (by omega) (by omega)
    rw [Int.add_zero] at c0
    constructor
    · unfold n_ord
      simp only [show (153 : Int) + 8 = 161 from rfl, show (163 : Int) + 8 = 171 from rfl, show (173 : Int) + 8 = 181 from rfl, show (183 : Int) + 8 = 191 from rfl, show (193 : Int) + 8 = 201 from rfl, show (203 : Int) + 8 = 211 from rfl, show (213 : Int) + 8 = 221 from rfl, show (223 : Int) + 8 = 231 from rfl]
      rw [c0, c1, c2, c3, c4, c5, c6, c7, d0, d1, d2, d3, d4, d5, d6, d7]
      obtain ⟨⟨w1, w2, w3⟩, w4⟩ := C
      exact ⟨w1, w2, w3, w4⟩
    · unfold n_ordB
      simp only [show (153 : Int) + 8 = 161 from rfl, show (163 : Int) + 8 = 171 from rfl, show (173 : Int) + 8 = 181 from rfl, show (183 : Int) + 8 = 191 from rfl, show (193 : Int) + 8 = 201 from rfl, show (203 : Int) + 8 = 211 from rfl, show (213 : Int) + 8 = 221 from rfl, show (223 : Int) + 8 = 231 from rfl]
      rw [d0, d1, d2, d3, d4, d5, d6, d7]
      unfold n_db at D
      obtain ⟨b1, b2, b3, b4, b5, b6, b7⟩ := D
      refine ⟨b1, b2, b3, fun v => ?_, b5, fun v => ?_, b7⟩
      · obtain ⟨w1, w2, w3⟩ := b4 v
        exact ⟨w1, w2, by rw [k5 _ w1 w2]; exact w3⟩
      · obtain ⟨w1, w2, w3⟩ := b6 v
        exact ⟨w1, w2, by rw [k5 _ w1 w2]; exact w3⟩
/-- an order has come: what both read of it stands; then the next one's cells are as they are -/
theorem n_qS_of {h k x g : m_H} {c' i : Nat} {o nm : Int} (T : n_qT h x c' i) (R : n_qR k g) (f : m_g g 127 31 = n_pq h i ∧ m_g g 127 32 = n_we (m_g h 150) (m_g h 127 30) (n_pq h i) ∧ m_g g 127 33 = -1) (s : m_g x 15 1 = o ∧ m_g g 151 8 = o ∧ m_g x 10 10 = nm ∧ 0 ≤ o ∧ o ≤ 40) (N : n_qN h x g o) (O : n_qO x g o) : n_qS h k c' x g i o := by
  refine ⟨nm, fun w => if w = 8 then m_g x 18 o else if 9 ≤ w then m_g x 18 (w - 9) else m_g x 16 (8 * o + w), fun w => if 9 ≤ w then m_g g 161 (w - 9) else m_g g (161 + 10 * w) o, T, R, f, s, N, O, fun w w0 w1 => ?_, fun w w0 w1 => ?_, ?_, fun q q0 q1 => ?_, fun q q0 q1 => ?_⟩
  · show _ = if w = 8 then _ else if 9 ≤ w then _ else _
    rw [if_neg (by omega), if_neg (by omega)]
  · show _ = if 9 ≤ w then _ else _
    rw [if_neg (by omega)]
  · show _ = if (8 : Int) = 8 then _ else _
    rw [if_pos rfl]
  · show _ = if 9 + q = 8 then _ else if 9 ≤ 9 + q then _ else _
    rw [if_neg (by omega), if_pos (by omega), show 9 + q - 9 = q by omega]
  · show _ = if 9 ≤ 9 + q then _ else _
    rw [if_pos (by omega), show 9 + q - 9 = q by omega]
/-- a put has come -/
theorem n_qS_put {h k x g : m_H} {c' i : Nat} {o nm : Int} {c d : Int → Int} (P : n_qP h k c' x g i o nm c d) (o1 : o < 40) (C : n_cd c d) (D : n_db o d) (c8 : c 8 = -1) : n_qS h k c' (m_p x 15 1 (o + 1)) (m_p g 151 8 (o + 1)) i (o + 1) := by
  obtain ⟨⟨Cc, R, hi2, e7⟩, RR, ⟨f1, f2, f3⟩, ⟨s1, s2, s3, s4, s5⟩, N, O, K⟩ := P
  refine n_qS_of (nm := nm) ⟨n_qC_p Cc (Or.inr (Or.inl ⟨rfl, rfl⟩)), n_rec_p R (by omega), hi2, by rw [n_gp_n (by omega)]; exact e7⟩ (n_qR_p RR (Or.inr (Or.inl ⟨rfl, rfl⟩))) ⟨by rw [n_gp_n (by omega)]; exact f1, by rw [n_gp_n (by omega)]; exact f2, by rw [n_gp_n (by omega)]; exact f3⟩ ⟨n_gp_y ⟨rfl, rfl⟩, n_gp_y ⟨rfl, rfl⟩, by rw [n_gp_n (by omega)]; exact s3, by omega, by omega⟩ ?_ ?_
  · have N1 : n_qN h x g (o + 1) := by
      obtain ⟨n1, n2, n3, n4⟩ := N
      have eo : m_g x 18 o = -1 := by rw [K.2.2.1]; exact c8
      refine ⟨by omega, fun w w0 w1 => ?_, fun q q0 q1 => ?_, fun q q' q0 q1 q2 q3 => ?_⟩
      · obtain ⟨a1, a2, a3, a4, a5, a6⟩ := n2 w w0 w1
        exact ⟨a1, a2, a3, by omega, a5, a6⟩
      · by_cases z : q = o
        · rw [z]; exact Or.inl eo
        · exact n3 q q0 (by omega)
      · intro e1 e2
        by_cases z : q = o
        · rw [z] at e2; exact absurd eo e2
        · by_cases z2 : q' = o
          · rw [z2, eo] at e1; exact absurd e1 e2
          · exact n4 q q' q0 (by omega) q2 (by omega) e1 e2
    exact n_qN_S N1 (fun j => n_gp_n (by omega)) (n_gp_n (by omega)) (fun j => n_gp_n (by omega)) (fun j => n_gp_n (by omega)) (fun j => n_gp_n (by omega)) (fun j _ => n_gp_n (by omega))
  · exact n_qO_S (n_qO_end O K C D) (fun j _ => n_gp_n (by omega)) (fun b j sb _ => n_gp_n (by unfold n_scr at sb; omega))
theorem n_atR_p {g : m_H} {a j v p : Int} (h1 : a ≠ 127) (h2 : a ≠ 150) : n_atR (m_p g a j v) p = m_p (n_atR g p) a j v := by
  have e1 : m_g (m_p g a j v) 150 = m_g g 150 := funext fun z => n_gp_n (by omega)
  have e2 : m_g (m_p g a j v) 127 30 = m_g g 127 30 := n_gp_n (by omega)
  unfold n_atR
  rw [e1, e2]
  refine n_ext rfl fun b z => ?_
  show (if b = 127 ∧ z = 31 then _ else if b = 127 ∧ z = 32 then _ else m_g (m_p g a j v) b z) = _
  rw [m_g_p, m_g_p]
  show _ = if b = a ∧ z = j then v else if b = 127 ∧ z = 31 then _ else if b = 127 ∧ z = 32 then _ else m_g g b z
  by_cases c : b = a ∧ z = j
  · rw [if_neg (by omega), if_neg (by omega), if_pos c, if_pos c]
  · rw [if_neg c, if_neg c]
/-- the end of a put -/
theorem n_endPutJ {h k x g : m_H} {c' i : Nat} {o nm : Int} {c d : Int → Int} (B : n_qB h k c') (P : n_qP h k c' x g i o nm c d) (o1 : o < 40) (C : n_cd c d) (D : n_db o d) (c8 : c 8 = -1) {FC : Bool × m_H → Option (Bool × m_H)} {FR : Unit × m_H → Option (Unit × m_H)} {Q : m_H → m_H → Prop} (h1 : ∀ b y, FC (b, y) = some (b, y)) (h2 : ∀ y, FR ((), y) = some ((), y)) (h3 : ∀ x' g', n_qS h k c' x' g' (i + 1) (o + 1) → Q x' g') : n_qJ h k c' (t4_endOrder 10 x >>= FC) (t11_sign 127 59 (m_p g 151 8 (o + 1)) >>= FR) Q := by
  obtain ⟨X, e1, e2, e3, p0, p1⟩ := n_qP_g B P
  have T := P.1
  have R1 : n_qR k (m_p g 151 8 (o + 1)) := n_qR_p P.2.1 (Or.inr (Or.inl ⟨rfl, rfl⟩))
  obtain ⟨X1, e11, e12⟩ := n_qR_tx B R1
  obtain ⟨tk, ts, tv⟩ := n_qT_k B T
  have kb := n_kq_b (h := h) (i := i)
  have N := n_qB_n B
  have hcn : i ≤ c' := T.2.2.1
  have cn := (n_qB_p B (Nat.le_refl c')).1
  have ln := n_qB_l B
  have W := n_signR X1 (p := n_pq h i) (s := 59) (by rw [n_gp_n (by omega)]; exact P.2.2.1.2.2) p0 (by rw [e12]; exact p1) (by omega) (by omega)
  rw [n_atR_p (by omega) (by omega), n_atR_p (by omega) (by omega), e3, e11, e12] at W
  have pc := n_passC T.1.1 T.2.2.2 (k := 59) (by omega) (by omega) (by omega) (by omega) (by rw [tk]; omega) (by rw [tk]; omega)
  rw [tk] at pc
  have K := n_K2 B.1 (s := 59) p0 (by omega)
  unfold t4_endOrder
  rw [if_pos (n_qP_tC P), pc, W]
  by_cases q : n_kq h i = 59
  · have w := K.mp q
    have hi : i < c' := by
      by_cases z : i = c'
      · have := (n_kq_27 B hcn).mpr z; omega
      · omega
    have a := (n_al_c B.1 p0 w.1).2.2.2 59 (by omega) (by omega)
    have bs := a.mp w.2
    have ek : n_eK (m_g h 11) (m_g h 10 1) (n_pq h i) = n_pq h i + 1 := by
      unfold n_eK
      rw [if_neg (fun z => by have := of_decide_eq_true z; omega), if_neg (fun z => by have := of_decide_eq_true z; omega)]
    have en : n_sk (m_g h 150) (m_g h 127 30) (n_pq h i + 1) = n_pq h (i + 1) := by
      rw [(n_al_sk B.1 (p := n_pq h i + 1) (by omega)).1, n_pq_s, ek]
    have P1 := n_qP_next B P hi
    rw [if_pos q, if_pos w, n_bs, n_bs, en]
    dsimp only
    rw [if_pos rfl, if_pos (n_qP_tC P1), n_p10_8 P1.1.1.1.2, if_pos (n_t15 P1.1.1.1.2), P1.2.2.2.1.1, n_bs, n_bs, h1, h2]
    exact ⟨true, _, _, _, rfl, rfl, fun _ => h3 _ _ (n_qS_put P1 o1 C D c8), fun z => by cases z⟩
  · rw [if_neg q, if_neg (fun w => q (K.mpr w)), n_bs, n_bs]
    dsimp only
    rw [if_neg (by decide), n_bs, h1, h2]
    refine n_qJ_bad T (n_qk_end ?_)
    exact n_qF_of B R1 hcn
theorem n_putF {k g : m_H} {f : Int} (F : n_qF k g f) (t l : Int) : t11_puts_c16 127 t l g = some ((), g) := by
  unfold t11_puts_c16
  repeat (first | rw [if_pos (n_qF_t F)] | rw [if_pos (n_qF_34 F), n_bs] | rw [if_neg (n_qF_33 F)] | (rw [n_qF_word F, n_bs]; dsimp only) | (rw [n_qF_num F, n_bs]; dsimp only) | (rw [n_qF_made F, n_bs]; dsimp only) | (rw [n_qF_sign F, n_bs]; dsimp only))
theorem n_putsF {k g : m_H} {f : Int} (F : n_qF k g f) (t l : Int) : t11_puts 127 t l g = some ((), g) := by
  have q := n_putF F t l
  unfold t11_puts
  rw [if_pos (n_qF_t F), if_pos (n_qF_34 F), n_qF_fails F, n_bs]
  dsimp only
  rw [q, ite_self]
theorem n_putJ {h k x g : m_H} {c' i : Nat} {o : Int} (B : n_qB h k c') (S : n_qS h k c' x g i o) {t l : Int} (t0 : 1 ≤ t) (t1 : t ≤ 9) (l0 : 0 ≤ l) (l1 : l ≤ 999) : n_qJ h k c' (t4_readPut 10 t l x) (t11_puts 127 t l g) (fun x' g' => ∃ i', i < i' ∧ o < 40 ∧ n_qS h k c' x' g' i' (o + 1)) := by
  obtain ⟨nm, c, d, P⟩ := S
  obtain ⟨s1, s2, s3, s4, s5⟩ := P.2.2.2.1
  have s2' : m_g g (m_g g 127 34) 8 = o := by rw [n_p127_34 P.2.1.1.2]; exact s2
  unfold t4_readPut t11_puts
  rw [if_pos (n_qP_tC P), n_p10_8 P.1.1.1.2, if_pos (n_t15 P.1.1.1.2), s1, m_w_of (x := o) (by omega) (by omega), if_pos (n_qP_tR P), if_pos (n_qP_34 P), s2', m_w_of (x := o) (by omega) (by omega)]
  by_cases o40 : o = 40
  · obtain ⟨fl, F⟩ := n_qP_F B P
    rw [if_neg (show ¬ o < 40 by omega), if_pos o40, fl, n_bs]
    dsimp only
    rw [n_putF F]
    exact n_qJ_bad P.1 (n_qk_end F)
  · have o1 : o < 40 := by omega
    obtain ⟨x1, be, P1⟩ := n_qBeg P o1 12 (-1)
    have P2 := n_qP_cell P1 (w := 6) (by omega) (by omega) t
    have P3 := n_qP_cell P2 (w := 7) (by omega) (by omega) l
    rw [if_pos o1, if_neg o40, be, n_bs]
    dsimp only
    rw [if_pos (n_qP_tC P1), n_setC P1.1.1.1 P1.2.2.2.1.1 s4 o1 (by omega) (by omega), n_bs]
    dsimp only
    rw [if_pos (n_qP_tC P2), n_setC P2.1.1.1 P2.2.2.2.1.1 s4 o1 (by omega) (by omega), n_bs]
    dsimp only
    unfold t11_puts_c16
    rw [if_pos (n_qP_tC P3), if_pos (n_qP_tR P3)]
    refine n_qJ_word B P3 (kw := 12) (by omega) (by omega) rfl (fun _ => rfl) (fun y F => ?_) (fun x4 g4 P4 => ?_)
    · dsimp only; (repeat (first | rw [if_pos (n_qF_t F)] | rw [if_pos (n_qF_34 F), n_bs] | rw [if_neg (n_qF_33 F)] | (rw [n_qF_word F, n_bs]; dsimp only) | (rw [n_qF_num F, n_bs]; dsimp only) | (rw [n_qF_made F, n_bs]; dsimp only) | (rw [n_qF_sign F, n_bs]; dsimp only))); exact n_qk_end F
    · have s4' : m_g g4 (m_g g4 127 34) 8 = o := by rw [n_p127_34 P4.2.1.1.2]; exact P4.2.2.2.1.2.1
      dsimp only
      rw [if_pos rfl, if_pos (n_qP_tC P4), if_pos (n_qP_tR P4), if_pos (n_qP_34 P4), n_bs, s4']
      refine n_qJ_row B P4 o1 (w := 1) (by omega) (by omega) (fun _ => rfl) (fun y F => ?_) (fun r x5 g5 r1 r2 P5 => ?_)
      · dsimp only; (repeat (first | rw [if_pos (n_qF_t F)] | rw [if_pos (n_qF_34 F), n_bs] | rw [if_neg (n_qF_33 F)] | (rw [n_qF_word F, n_bs]; dsimp only) | (rw [n_qF_num F, n_bs]; dsimp only) | (rw [n_qF_made F, n_bs]; dsimp only) | (rw [n_qF_sign F, n_bs]; dsimp only))); exact n_qk_end F
      · dsimp only
        rw [if_pos rfl, if_pos (n_qP_tC P5), if_pos (n_qP_tR P5)]
        refine n_qJ_word B P5 (kw := 23) (by omega) (by omega) rfl (fun _ => rfl) (fun y F => ?_) (fun x6 g6 P6 => ?_)
        · dsimp only; (repeat (first | rw [if_pos (n_qF_t F)] | rw [if_pos (n_qF_34 F), n_bs] | rw [if_neg (n_qF_33 F)] | (rw [n_qF_word F, n_bs]; dsimp only) | (rw [n_qF_num F, n_bs]; dsimp only) | (rw [n_qF_made F, n_bs]; dsimp only) | (rw [n_qF_sign F, n_bs]; dsimp only))); exact n_qk_end F
        · dsimp only
          rw [if_pos rfl, if_pos (n_qP_tC P6), if_pos (n_qP_tR P6)]
          refine n_qJ_num B P6 o1 (by omega) (by omega) (by omega) (by omega) (by omega) (fun _ => rfl) (fun y F => ?_) (fun v x7 g7 v0 v1 P7 => ?_)
          · dsimp only; (repeat (first | rw [if_pos (n_qF_t F)] | rw [if_pos (n_qF_34 F), n_bs] | rw [if_neg (n_qF_33 F)] | (rw [n_qF_word F, n_bs]; dsimp only) | (rw [n_qF_num F, n_bs]; dsimp only) | (rw [n_qF_made F, n_bs]; dsimp only) | (rw [n_qF_sign F, n_bs]; dsimp only))); exact n_qk_end F
          · dsimp only
            rw [if_pos rfl, if_pos (n_qP_tC P7), if_pos (n_qP_tR P7)]
            refine n_qJ_word B P7 (kw := 20) (by omega) (by omega) rfl (fun _ => rfl) (fun y F => ?_) (fun x8 g8 P8 => ?_)
            · dsimp only; (repeat (first | rw [if_pos (n_qF_t F)] | rw [if_pos (n_qF_34 F), n_bs] | rw [if_neg (n_qF_33 F)] | (rw [n_qF_word F, n_bs]; dsimp only) | (rw [n_qF_num F, n_bs]; dsimp only) | (rw [n_qF_made F, n_bs]; dsimp only) | (rw [n_qF_sign F, n_bs]; dsimp only))); exact n_qk_end F
            · dsimp only
              rw [if_pos rfl, if_pos (n_qP_tC P8), if_pos (n_qP_tR P8)]
              refine n_qJ_num B P8 o1 (by omega) (by omega) (by omega) (by omega) (by omega) (fun _ => rfl) (fun y F => ?_) (fun u x9 g9 u0 u1 P9 => ?_)
              · dsimp only; (repeat (first | rw [if_pos (n_qF_t F)] | rw [if_pos (n_qF_34 F), n_bs] | rw [if_neg (n_qF_33 F)] | (rw [n_qF_word F, n_bs]; dsimp only) | (rw [n_qF_num F, n_bs]; dsimp only) | (rw [n_qF_made F, n_bs]; dsimp only) | (rw [n_qF_sign F, n_bs]; dsimp only))); exact n_qk_end F
              · have F9 := P9.2.1.1.2
                have P10 : n_qP h k c' x9 (m_p g9 (153 + 8) o 12) _ _ _ _ _ := n_qP_scr P9 (w := 0) (by omega) (by omega) 12
                have P11 : n_qP h k c' x9 (m_p (m_p g9 (153 + 8) o 12) (163 + 8) o r) _ _ _ _ _ := n_qP_scr P10 (w := 1) (by omega) (by omega) r
                have P12 : n_qP h k c' x9 (m_p (m_p (m_p g9 (153 + 8) o 12) (163 + 8) o r) (173 + 8) o (-1)) _ _ _ _ _ := n_qP_scr P11 (w := 2) (by omega) (by omega) (-1)
                have P13 : n_qP h k c' x9 (m_p (m_p (m_p (m_p g9 (153 + 8) o 12) (163 + 8) o r) (173 + 8) o (-1)) (183 + 8) o v) _ _ _ _ _ := n_qP_scr P12 (w := 3) (by omega) (by omega) v
                have P14 : n_qP h k c' x9 (m_p (m_p (m_p (m_p (m_p g9 (153 + 8) o 12) (163 + 8) o r) (173 + 8) o (-1)) (183 + 8) o v) (193 + 8) o u) _ _ _ _ _ := n_qP_scr P13 (w := 4) (by omega) (by omega) u
                have P15 : n_qP h k c' x9 (m_p (m_p (m_p (m_p (m_p (m_p g9 (153 + 8) o 12) (163 + 8) o r) (173 + 8) o (-1)) (183 + 8) o v) (193 + 8) o u) (213 + 8) o t) _ _ _ _ _ := n_qP_scr P14 (w := 6) (by omega) (by omega) t
                have P16 : n_qP h k c' x9 (m_p (m_p (m_p (m_p (m_p (m_p (m_p g9 (153 + 8) o 12) (163 + 8) o r) (173 + 8) o (-1)) (183 + 8) o v) (193 + 8) o u) (213 + 8) o t) (223 + 8) o l) _ _ _ _ _ := n_qP_scr P15 (w := 7) (by omega) (by omega) l
                dsimp only
                rw [if_pos rfl, if_pos (n_qP_tC P9), if_pos (n_qP_tR P9), P9.2.2.1.2.2, m_w_of (x := -1) (by omega) (by omega), if_pos rfl, m_w_of (x := o) (by omega) (by omega)]
                rw [if_pos (n_c35 F9 (k := 8) (by omega) (by omega)), n_a35 F9 (by omega) (by omega), if_pos (n_d35 F9 (k := 8) (by omega) (by omega) s4 o1), n_bs]
                rw [if_pos (n_qP_tR P10), if_pos (n_c36 P10.2.1.1.2 (k := 8) (by omega) (by omega)), n_a36 P10.2.1.1.2 (by omega) (by omega), if_pos (n_d36 P10.2.1.1.2 (k := 8) (by omega) (by omega) s4 o1), n_bs]
                rw [if_pos (n_qP_tR P11), if_pos (n_c37 P11.2.1.1.2 (k := 8) (by omega) (by omega)), n_a37 P11.2.1.1.2 (by omega) (by omega), if_pos (n_d37 P11.2.1.1.2 (k := 8) (by omega) (by omega) s4 o1), n_bs]
                rw [if_pos (n_qP_tR P12), if_pos (n_c38 P12.2.1.1.2 (k := 8) (by omega) (by omega)), n_a38 P12.2.1.1.2 (by omega) (by omega), if_pos (n_d38 P12.2.1.1.2 (k := 8) (by omega) (by omega) s4 o1), n_bs]
                rw [if_pos (n_qP_tR P13), if_pos (n_c39 P13.2.1.1.2 (k := 8) (by omega) (by omega)), n_a39 P13.2.1.1.2 (by omega) (by omega), if_pos (n_d39 P13.2.1.1.2 (k := 8) (by omega) (by omega) s4 o1), n_bs]
                rw [if_pos (n_qP_tR P14), if_pos (n_c41 P14.2.1.1.2 (k := 8) (by omega) (by omega)), n_a41 P14.2.1.1.2 (by omega) (by omega), if_pos (n_d41 P14.2.1.1.2 (k := 8) (by omega) (by omega) s4 o1), n_bs]
                rw [if_pos (n_qP_tR P15), if_pos (n_c42 P15.2.1.1.2 (k := 8) (by omega) (by omega)), n_a42 P15.2.1.1.2 (by omega) (by omega), if_pos (n_d42 P15.2.1.1.2 (k := 8) (by omega) (by omega) s4 o1), n_bs]
                generalize m_p (m_p (m_p (m_p (m_p (m_p (m_p g9 (153 + 8) o 12) (163 + 8) o r) (173 + 8) o (-1)) (183 + 8) o v) (193 + 8) o u) (213 + 8) o t) (223 + 8) o l = gz at P16
                rw [if_pos (n_qP_tR P16), if_pos (n_qP_34 P16), n_p127_34 P16.2.1.1.2, P16.2.2.2.1.2.1, n_bs]
                have tz : m_t (m_p gz 151 8 (o + 1)) 127 = 11 := by rw [m_t_p]; exact n_qP_tR P16
                rw [if_pos tz]
                refine n_endPutJ B P16 o1 ?_ ?_ ?_ (fun b y => by cases b <;> rfl) (fun _ => rfl) (fun x' g' S => ⟨_, by omega, o1, S⟩)
                · unfold n_cd
                  simp [n_up]
                · unfold n_db
                  simp [n_up]
                  refine ⟨⟨r1.1, r1.2, ?_⟩, ⟨v0, v1⟩, u0, u1, t0, t1, l0, l1⟩
                  rw [if_neg (by omega), if_neg (by omega), if_neg (by omega), if_neg (by omega), if_neg (by omega), if_neg (by omega), if_neg (by omega)]
                  exact r2
                · simp [n_up]
