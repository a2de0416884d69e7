/-! CALLS: make ..: the reference lays a put -/
theorem n_bg_le {g : m_H} {k o i j : Int} (b : n_ordB g k o) (v : m_g g (153 + k) o = 12) (ij : i ≤ j) : n_bg g k o i ≤ n_bg g k o j := by
  have p := (n_putB b v).2.2.2.2
  have := Int.mul_le_mul_of_nonneg_right (c := m_g g (223 + k) o) ij p.1
  unfold n_bg
  omega
theorem n_rK_put {g : m_H} {k d o : Int} (v : m_g g (153 + k) o = 12) : n_rK g k d (n_L g k d) o = decide (n_bg g k o (n_tm g k o - 1) + n_L g k d (m_g g (163 + k) o) ≤ 3000) := by
  have et : n_tm g k o = m_g g (213 + k) o := by unfold n_tm; rw [if_pos v]
  unfold n_rK
  rw [if_neg (by omega), if_neg (by omega), if_neg (by omega), if_neg (by omega), if_neg (by omega), if_neg (by omega), if_neg (by omega), if_pos v, et]
  rfl
theorem n_eT_b {g : m_H} {k d : Int} {N : Nat} (b : ∀ o, 0 ≤ o → o < (N : Int) → n_ordB g k o) (st : n_stD g k d N) : ∀ n : Nat, n ≤ N → 0 ≤ n_eT g k d n ∧ n_eT g k d n ≤ 3000
  | 0, _ => by unfold n_eT; omega
  | n + 1, hn => by
    have q := n_eT_b b st n (by omega)
    rw [n_eT_s]
    by_cases v : m_g g (153 + k) n = 12
    · have s := st n (by omega) (by omega)
      rw [n_rK_put v] at s
      have := of_decide_eq_true s
      rw [if_pos v]
      omega
    · rw [if_neg v]; exact q
theorem n_lay1 {g gg : m_H} {k a d o j : Int} {hq : m_H} (C : n_scc hq g k a) (o0 : 0 ≤ o) (o1 : o < m_g g 151 k) (v : m_g g (153 + k) o = 12) (ok : n_okO g k d (m_g g (163 + k) o)) (eb : 0 ≤ n_eT g k d o.toNat ∧ n_eT g k d o.toNat ≤ 3000) (F : n_rF g gg) (D : n_rR g gg k d o (o + 1)) (Y : n_rY g gg k d o j) (j0 : 0 ≤ j) (j1 : j < n_tm g k o) (fit : n_bg g k o j + n_L g k d (m_g g (163 + k) o) ≤ 3000) : ∃ g', t11_lays_x17 17 127 k o (n_L g k d (m_g g (163 + k) o)) j 0 0 gg = t11_lays_x17 17 127 k o (n_L g k d (m_g g (163 + k) o)) (j + 1) 0 0 g' ∧ n_rF g g' ∧ n_rR g g' k d o (o + 1) ∧ n_rY g g' k d o (j + 1) := by
  have C3 := C.2.2.1
  have k0 := C.2.1.1
  have k1 : k < 9 := by have := C.2.1.2; omega
  have B := n_scc_b C o0 o1
  have tb := n_tm_b B
  have p := n_putB B v
  have et : n_tm g k o = m_g g (213 + k) o := by unfold n_tm; rw [if_pos v]
  have bb := n_bg_b B v j0 (by omega)
  have ob := n_off_b (g := g) (k := k) o.toNat (fun x x0 x1 => n_scc_b C x0 (by omega))
  obtain ⟨J, f2, fo⟩ := F
  obtain ⟨y1, y2, y3, y4⟩ := Y
  obtain ⟨d1, d2⟩ := D
  obtain ⟨r1, r2⟩ := d1 _ p.1.1 p.1.2.1 p.1.2.2
  obtain ⟨ok1, ok2, ok3⟩ := ok
  generalize hL : n_L g k d (m_g g (163 + k) o) = L at *
  generalize hB : n_bg g k o j = A at *
  generalize hl : n_off g k o.toNat + j = l at *
  have l0 : 0 ≤ l ∧ l < 400 := by omega
  have FF := J.2
  have wk := m_w_of (x := k) (by omega) (by omega)
  have wo := m_w_of (x := o) (by omega) (by omega)
  have wj := m_w_of (x := j) (by omega) (by omega)
  have wl := m_w_of (x := l) (by omega) (by omega)
  have wL := m_w_of (x := L) (by omega) (by omega)
  have w1 := m_w_of (x := m_g g (163 + k) o) (by omega) (by omega)
  -- the laying is noted
  have J1 : n_I (m_p gg 281 l o) := n_I_pa J (Or.inl (n_t281 FF))
  have J2 : n_I (m_p (m_p gg 281 l o) 282 l (m_g g (193 + k) o)) := n_I_pa J1 (Or.inl (n_t282 J1.2))
  have J3 : n_I (m_p (m_p (m_p gg 281 l o) 282 l (m_g g (193 + k) o)) 283 l A) := n_I_pa J2 (Or.inl (n_t283 J2.2))
  have J4 : n_I (m_p (m_p (m_p (m_p gg 281 l o) 282 l (m_g g (193 + k) o)) 283 l A) 284 l L) := n_I_pa J3 (Or.inl (n_t284 J3.2))
  have J5 : n_I (m_p (m_p (m_p (m_p (m_p gg 281 l o) 282 l (m_g g (193 + k) o)) 283 l A) 284 l L) 127 58 (l + 1)) := n_I_p J4 (by rw [n_t127 J4.2]; omega) (by rw [n_t127 J4.2]; omega) rfl
  have g5 : ∀ b i, ¬ ((b = 281 ∨ b = 282 ∨ b = 283 ∨ b = 284) ∧ i = l) → ¬ (b = 127 ∧ i = 58) → m_g (m_p (m_p (m_p (m_p (m_p gg 281 l o) 282 l (m_g g (193 + k) o)) 283 l A) 284 l L) 127 58 (l + 1)) b i = m_g gg b i := fun b i h1 h2 => by rw [n_gp_n h2, n_gp_n (by omega), n_gp_n (by omega), n_gp_n (by omega), n_gp_n (by omega)]
  have g58 : m_g (m_p (m_p (m_p (m_p (m_p gg 281 l o) 282 l (m_g g (193 + k) o)) 283 l A) 284 l L) 127 58 (l + 1)) 127 58 = l + 1 := n_gp_y ⟨rfl, rfl⟩
  have ga : m_g (m_p (m_p (m_p (m_p (m_p gg 281 l o) 282 l (m_g g (193 + k) o)) 283 l A) 284 l L) 127 58 (l + 1)) 281 l = o := by rw [n_gp_n (by omega), n_gp_n (by omega), n_gp_n (by omega), n_gp_n (by omega), n_gp_y ⟨rfl, rfl⟩]
  have gb : m_g (m_p (m_p (m_p (m_p (m_p gg 281 l o) 282 l (m_g g (193 + k) o)) 283 l A) 284 l L) 127 58 (l + 1)) 282 l = m_g g (193 + k) o := by rw [n_gp_n (by omega), n_gp_n (by omega), n_gp_n (by omega), n_gp_y ⟨rfl, rfl⟩]
  have gc : m_g (m_p (m_p (m_p (m_p (m_p gg 281 l o) 282 l (m_g g (193 + k) o)) 283 l A) 284 l L) 127 58 (l + 1)) 283 l = A := by rw [n_gp_n (by omega), n_gp_n (by omega), n_gp_y ⟨rfl, rfl⟩]
  have gd : m_g (m_p (m_p (m_p (m_p (m_p gg 281 l o) 282 l (m_g g (193 + k) o)) 283 l A) 284 l L) 127 58 (l + 1)) 284 l = L := by rw [n_gp_n (by omega), n_gp_y ⟨rfl, rfl⟩]
  have e17 : t11_lays_x17 17 127 k o L j 0 0 gg = t11_lays_x17 125 127 k o L j A 0 (m_p (m_p (m_p (m_p (m_p gg 281 l o) 282 l (m_g g (193 + k) o)) 283 l A) 284 l L) 127 58 (l + 1)) := by
    have a58 : m_g gg 127 58 = l := y1
    have b58 : m_g (m_p gg 281 l o) 127 58 = l := (n_gp_n (by omega)).trans a58
    have c58 : m_g (m_p (m_p gg 281 l o) 282 l (m_g g (193 + k) o)) 127 58 = l := (n_gp_n (by omega)).trans b58
    have d58 : m_g (m_p (m_p (m_p gg 281 l o) 282 l (m_g g (193 + k) o)) 283 l A) 127 58 = l := (n_gp_n (by omega)).trans c58
    have e58 : m_g (m_p (m_p (m_p (m_p gg 281 l o) 282 l (m_g g (193 + k) o)) 283 l A) 284 l L) 127 58 = l := (n_gp_n (by omega)).trans d58
    have b39 : m_g (m_p gg 281 l o) (193 + k) o = m_g g (193 + k) o := (n_gp_n (by omega)).trans (fo _ _ (by omega) (by omega))
    have m281 := n_l281 FF
    have m282 := n_l282 J1.2
    have m283 := n_l283 J2.2
    have m284 := n_l284 J3.2
    rw [t11_lays_x17, if_pos rfl, if_pos (n_t127 FF), wk, wo, if_pos (n_c41 FF k0 k1), n_a41 FF k0 k1, if_pos (n_d41 FF k0 k1 o0 (by omega)), fo (213 + k) o (by omega) (by omega), wj, m_w_of (x := m_g g (213 + k) o) (by omega) (by omega), if_pos (by omega), if_pos (n_c38 FF k0 k1), n_a38 FF k0 k1, if_pos (n_d38 FF k0 k1 o0 (by omega)), if_pos (n_c42 FF k0 k1), n_a42 FF k0 k1, if_pos (n_d42 FF k0 k1 o0 (by omega)), fo (183 + k) o (by omega) (by omega), fo (223 + k) o (by omega) (by omega), show m_g g (183 + k) o + j * m_g g (223 + k) o = A from hB, n_bs, m_w_of (x := A + L) (by omega) (by omega), if_neg (by omega), n_p127_54 FF, a58, wl, if_pos ⟨n_t281 FF, l0.1, by omega⟩, n_bs, if_pos (n_t127 J1.2), if_pos (n_c39 J1.2 k0 k1), n_a39 J1.2 k0 k1, if_pos (n_d39 J1.2 k0 k1 o0 (by omega)), n_p127_55 J1.2, b58, wl, if_pos ⟨n_t282 J1.2, l0.1, by omega⟩, b39, n_bs, if_pos (n_t127 J2.2), n_p127_56 J2.2, c58, wl, if_pos ⟨n_t283 J2.2, l0.1, by omega⟩, n_bs, if_pos (n_t127 J3.2), n_p127_57 J3.2, d58, wl, if_pos ⟨n_t284 J3.2, l0.1, by omega⟩, n_bs, if_pos (n_t127 J4.2), e58, n_bs]
  have hh5 : (m_p (m_p (m_p (m_p (m_p gg 281 l o) 282 l (m_g g (193 + k) o)) 283 l A) 284 l L) 127 58 (l + 1)).2 = gg.2 := rfl
  rw [e17]
  generalize m_p (m_p (m_p (m_p (m_p gg 281 l o) 282 l (m_g g (193 + k) o)) 283 l A) 284 l L) 127 58 (l + 1) = gx at *
  clear J1 J2 J3 J4
  -- its samples are added
  have fac : ∀ i, n_I (n_fl gx 280 A i (fun t => m_g gx 280 t + n_S g k d (m_g g (163 + k) o) (t - A))) ∧ ∀ b x, b ≠ 280 → m_g (n_fl gx 280 A i (fun t => m_g gx 280 t + n_S g k d (m_g g (163 + k) o) (t - A))) b x = m_g gx b x := fun i => ⟨n_I_fl J5 (Or.inr (Or.inl (n_t280 J5.2))), fun b x hb => by rw [n_g_fl, if_neg (fun z => hb z.1)]⟩
  have key := n_fill (fun t h => t11_lays_x17 125 127 k o L j A (t - A) h) (h := gx) (a := 280) (lo := A) (n := A + L) (fun t => m_g gx 280 t + n_S g k d (m_g g (163 + k) o) (t - A)) (by omega) (fun t t1 t2 => by
    obtain ⟨Ji, e⟩ := fac t
    have e1 : m_g (n_fl gx 280 A t (fun t => m_g gx 280 t + n_S g k d (m_g g (163 + k) o) (t - A))) 280 t = m_g gx 280 t := by rw [n_g_fl, if_neg (by omega)]
    have sr := ok3 (t - A) (by omega) (by omega)
    show t11_lays_x17 125 127 k o L j A (t - A) _ = t11_lays_x17 125 127 k o L j A (t + 1 - A) _
    rw [t11_lays_x17]
    generalize n_fl gx 280 A t (fun t => m_g gx 280 t + n_S g k d (m_g g (163 + k) o) (t - A)) = gi at *
    have Fi := Ji.2
    have m280 := n_l280 Fi
    have x1 : m_g gi (163 + k) o = m_g g (163 + k) o := (e _ _ (by omega)).trans ((g5 _ _ (by omega) (by omega)).trans (fo _ _ (by omega) (by omega)))
    have x2 : m_g gi (238 + m_g g (163 + k) o) (t - A) = n_S g k d (m_g g (163 + k) o) (t - A) := by
      rw [e _ _ (by omega), g5 _ _ (by omega) (by omega)]
      exact r2 _ (by omega) (by omega)
    rw [if_neg (by omega), if_pos rfl, m_w_of (x := t - A) (by omega) (by omega), wL, if_pos (by omega), if_pos (n_t127 Fi), show A + (t - A) = t by omega, m_w_of (x := t) (by omega) (by omega), n_p127_53 Fi, if_pos ⟨n_t280 Fi, by omega, by omega⟩, wk, if_pos (n_c36 Fi k0 k1), n_a36 Fi k0 k1, wo, if_pos (n_d36 Fi k0 k1 o0 (by omega)), x1, w1, if_pos (n_c50 Fi p.1.1 (by omega)), n_a50 Fi p.1.1 (by omega), if_pos (n_d50 Fi p.1.1 (by omega) (by omega) (by omega)), x2, e1, m_w_of (x := n_S g k d (m_g g (163 + k) o) (t - A)) (by omega) (by omega), n_bs, show t - A + 1 = t + 1 - A by omega])
  obtain ⟨J6, g6⟩ := fac (A + L)
  have h6 : ∀ t, m_g (n_fl gx 280 A (A + L) (fun t => m_g gx 280 t + n_S g k d (m_g g (163 + k) o) (t - A))) 280 t = m_g gx 280 t + if A ≤ t ∧ t < A + L then n_S g k d (m_g g (163 + k) o) (t - A) else 0 := fun t => by
    rw [n_g_fl]
    by_cases c : A ≤ t ∧ t < A + L
    · rw [if_pos ⟨rfl, c⟩, if_pos c]
    · rw [if_neg (fun z => c z.2), if_neg c, Int.add_zero]
  have hh6 : (n_fl gx 280 A (A + L) (fun t => m_g gx 280 t + n_S g k d (m_g g (163 + k) o) (t - A))).2 = gg.2 := hh5
  have e125 : t11_lays_x17 125 127 k o L j A 0 gx = t11_lays_x17 125 127 k o L j A L (n_fl gx 280 A (A + L) (fun t => m_g gx 280 t + n_S g k d (m_g g (163 + k) o) (t - A))) := by
    have z1 : (0 : Int) = A - A := by omega
    have z2 : A + L - A = L := by omega
    refine Eq.trans (congrArg (fun x => t11_lays_x17 125 127 k o L j A x gx) z1) (Eq.trans key ?_)
    show t11_lays_x17 125 127 k o L j A (A + L - A) _ = _
    rw [z2]
  rw [e125]
  generalize n_fl gx 280 A (A + L) (fun t => m_g gx 280 t + n_S g k d (m_g g (163 + k) o) (t - A)) = gy at *
  clear fac key
  -- where all that is laid ends
  have a59 : m_g gy 127 59 = if j = 0 then n_eT g k d o.toNat else max (n_eT g k d o.toNat) (n_bg g k o (j - 1) + L) := by rw [g6 127 59 (by omega), g5 127 59 (by omega) (by omega)]; exact y4
  have bl : 1 ≤ j → n_bg g k o (j - 1) ≤ A := fun z => by rw [← hB]; exact n_bg_le B v (by omega)
  have bl0 : 1 ≤ j → 0 ≤ n_bg g k o (j - 1) := fun z => (n_bg_b B v (by omega) (by omega)).1
  have b59 : 0 ≤ m_g gy 127 59 ∧ m_g gy 127 59 ≤ 3000 := by
    rw [a59]
    by_cases c : j = 0
    · rw [if_pos c]; exact eb
    · rw [if_neg c]
      have := bl (by omega)
      have := bl0 (by omega)
      omega
  have m59 : max (m_g gy 127 59) (A + L) = max (n_eT g k d o.toNat) (A + L) := by
    rw [a59]
    by_cases c : j = 0
    · rw [if_pos c]
    · rw [if_neg c]
      have := bl (by omega)
      omega
  have J7 : n_I (m_p gy 127 59 (max (m_g gy 127 59) (A + L))) := n_I_p J6 (by rw [n_t127 J6.2]; omega) (by rw [n_t127 J6.2]; omega) rfl
  have e125b : t11_lays_x17 125 127 k o L j A L gy = t11_lays_x17 17 127 k o L (j + 1) 0 0 (m_p gy 127 59 (max (m_g gy 127 59) (A + L))) := by
    rw [t11_lays_x17, if_neg (by omega), if_pos rfl, if_neg (by omega), if_pos (n_t127 J6.2), m_w_of (x := m_g gy 127 59) (by omega) (by omega), m_w_of (x := A + L) (by omega) (by omega)]
    by_cases c : m_g gy 127 59 < A + L
    · rw [if_pos c, n_bs, Int.max_eq_right (by omega)]
    · rw [if_neg c, Int.max_eq_left (by omega)]
      have : m_p gy 127 59 (m_g gy 127 59) = gy := by
        refine n_ext rfl fun b i => ?_
        rw [m_g_p]
        by_cases q : b = 127 ∧ i = 59
        · rw [if_pos q, q.1, q.2]
        · rw [if_neg q]
      rw [this]
  have all : ∀ b i, ¬ ((b = 281 ∨ b = 282 ∨ b = 283 ∨ b = 284) ∧ i = l) → ¬ (b = 127 ∧ (i = 58 ∨ i = 59)) → b ≠ 280 → m_g (m_p gy 127 59 (max (m_g gy 127 59) (A + L))) b i = m_g gg b i := fun b i h1 h2 h3 => by rw [n_gp_n (by omega), g6 b i h3, g5 b i h1 (by omega)]
  refine ⟨_, e125b, ⟨J7, hh6.trans f2, fun b i h1 h2 => (all b i (by omega) (by omega) (by omega)).trans (fo b i h1 h2)⟩, ⟨fun q q0 q1 qv => ?_, fun q q0 q1 => by rw [all 279 q (by omega) (by omega) (by omega)]; exact d2 q q0 q1⟩, ?_, fun q i q0 i0 hq => ?_, fun t t0 t1 => ?_, ?_⟩
  · obtain ⟨x1, x2⟩ := d1 q q0 q1 qv
    exact ⟨by rw [all 278 q (by omega) (by omega) (by omega)]; exact x1, fun i i0 i1 => by rw [all (238 + q) i (by omega) (by omega) (by omega)]; exact x2 i i0 i1⟩
  · rw [n_gp_n (by omega), g6 127 58 (by omega), g58]
    omega
  · have z : ∀ b, b = 281 ∨ b = 282 ∨ b = 283 ∨ b = 284 → ∀ i, m_g (m_p gy 127 59 (max (m_g gy 127 59) (A + L))) b i = m_g gx b i := fun b hb i => by rw [n_gp_n (by omega), g6 b i (by omega)]
    rw [z 281 (by omega), z 282 (by omega), z 283 (by omega), z 284 (by omega)]
    by_cases c : q = o ∧ i = j
    · obtain ⟨c1, c2⟩ := c
      subst c1 c2
      rw [hl, ga, gb, gc, gd, hB, hL]
      exact ⟨rfl, rfl, rfl, rfl⟩
    · have lt : n_off g k q.toNat + i < l := by
        rcases hq with ⟨h1, h2⟩ | ⟨h1, h2⟩
        · have om := n_off_mono (g := g) (k := k) (N := (m_g g 151 k).toNat) (fun x x0 x1 => n_scc_b C x0 (by omega)) (o.toNat - (q + 1).toNat) (q + 1).toNat (by omega)
          rw [show (q + 1).toNat + (o.toNat - (q + 1).toNat) = o.toNat by omega, n_off_s q0] at om
          omega
        · rw [h1]; omega
      rw [g5 281 _ (by omega) (by omega), g5 282 _ (by omega) (by omega), g5 283 _ (by omega) (by omega), g5 284 _ (by omega) (by omega)]
      exact y2 q i q0 i0 (by omega)
  · rw [n_gp_n (by omega), h6 t, g5 280 t (by omega) (by omega), y3 t t0 t1, show (j + 1).toNat = j.toNat + 1 by omega, n_sO_s, show ((j.toNat : Nat) : Int) = j by omega, hB, hL]
    omega
  · rw [n_gp_y ⟨rfl, rfl⟩, if_neg (by omega), m59, show j + 1 - 1 = j by omega, hB, hL]
theorem n_laysR {g gg : m_H} {k a d o : Int} {hq : m_H} (C : n_scc hq g k a) (o0 : 0 ≤ o) (o1 : o < m_g g 151 k) (v : m_g g (153 + k) o = 12) (ok : n_okO g k d (m_g g (163 + k) o)) (eb : 0 ≤ n_eT g k d o.toNat ∧ n_eT g k d o.toNat ≤ 3000) (F : n_rF g gg) (D : n_rR g gg k d o (o + 1)) (Y : n_rY g gg k d o 0) : ∃ g', t11_lays 127 k o gg = some (n_rK g k d (n_L g k d) o, g') ∧ n_rF g g' ∧ (n_rK g k d (n_L g k d) o = true → n_rR g g' k d (o + 1) (o + 1) ∧ n_rY g g' k d (o + 1) 0) := by
  have C3 := C.2.2.1
  have k0 := C.2.1.1
  have k1 : k < 9 := by have := C.2.1.2; omega
  have B := n_scc_b C o0 o1
  have tb := n_tm_b B
  have p := n_putB B v
  have et : n_tm g k o = m_g g (213 + k) o := by unfold n_tm; rw [if_pos v]
  have eK := n_rK_put (d := d) v
  have wk := m_w_of (x := k) (by omega) (by omega)
  have wo := m_w_of (x := o) (by omega) (by omega)
  have w1 := m_w_of (x := m_g g (163 + k) o) (by omega) (by omega)
  obtain ⟨r1, r2⟩ := D.1 _ p.1.1 p.1.2.1 p.1.2.2
  obtain ⟨ok1, ok2, ok3⟩ := ok
  have main : ∀ (s : Nat) (j : Int) (gg : m_H), 0 ≤ j → j + s = n_tm g k o → n_rF g gg → n_rR g gg k d o (o + 1) → n_rY g gg k d o j → (1 ≤ j → n_bg g k o (j - 1) + n_L g k d (m_g g (163 + k) o) ≤ 3000) → ∃ g', t11_lays_x17 17 127 k o (n_L g k d (m_g g (163 + k) o)) j 0 0 gg = some (n_rK g k d (n_L g k d) o, g') ∧ n_rF g g' ∧ (n_rK g k d (n_L g k d) o = true → n_rR g g' k d o (o + 1) ∧ n_rY g g' k d o (n_tm g k o)) := by
    intro s
    induction s with
    | zero =>
      intro j gg j0 js F D Y fit
      have FF := F.1.2
      have ej : j = n_tm g k o := by omega
      refine ⟨gg, ?_, F, fun _ => ⟨D, by rw [← ej]; exact Y⟩⟩
      rw [eK, decide_eq_true (by rw [← ej]; exact fit (by omega)), t11_lays_x17, if_pos rfl, if_pos (n_t127 FF), wk, wo, if_pos (n_c41 FF k0 k1), n_a41 FF k0 k1, if_pos (n_d41 FF k0 k1 o0 (by omega)), F.2.2 (213 + k) o (by omega) (by omega), if_neg (by rw [m_w_of (by omega) (by omega), m_w_of (by omega) (by omega)]; omega)]
    | succ s ih =>
      intro j gg j0 js F D Y fit
      have FF := F.1.2
      have bb := n_bg_b B v j0 (by omega)
      by_cases c : n_bg g k o j + n_L g k d (m_g g (163 + k) o) ≤ 3000
      · obtain ⟨g1, e1, F1, D1, Y1⟩ := n_lay1 C o0 o1 v ⟨ok1, ok2, ok3⟩ eb F D Y j0 (by omega) c
        obtain ⟨g2, e2, F2, R2⟩ := ih (j + 1) g1 (by omega) (by omega) F1 D1 Y1 (fun _ => by rw [show j + 1 - 1 = j by omega]; exact c)
        exact ⟨g2, e1.trans e2, F2, R2⟩
      · have le := n_bg_le B v (show j ≤ n_tm g k o - 1 by omega)
        have hK : n_rK g k d (n_L g k d) o = false := by rw [eK, decide_eq_false (by omega)]
        refine ⟨gg, ?_, F, fun z => by rw [hK] at z; cases z⟩
        rw [hK, t11_lays_x17, if_pos rfl, if_pos (n_t127 FF), wk, wo, if_pos (n_c41 FF k0 k1), n_a41 FF k0 k1, if_pos (n_d41 FF k0 k1 o0 (by omega)), F.2.2 (213 + k) o (by omega) (by omega), m_w_of (x := j) (by omega) (by omega), m_w_of (x := m_g g (213 + k) o) (by omega) (by omega), if_pos (by omega), if_pos (n_c38 FF k0 k1), n_a38 FF k0 k1, if_pos (n_d38 FF k0 k1 o0 (by omega)), if_pos (n_c42 FF k0 k1), n_a42 FF k0 k1, if_pos (n_d42 FF k0 k1 o0 (by omega)), F.2.2 (183 + k) o (by omega) (by omega), F.2.2 (223 + k) o (by omega) (by omega), show m_g g (183 + k) o + j * m_g g (223 + k) o = n_bg g k o j from rfl, n_bs, m_w_of (x := n_bg g k o j + n_L g k d (m_g g (163 + k) o)) (by omega) (by omega), if_pos (by omega)]
  obtain ⟨g', e1, F1, R1⟩ := main (n_tm g k o).toNat 0 gg (by omega) (by omega) F D Y (fun z => by omega)
  refine ⟨g', ?_, F1, fun z => ?_⟩
  · have FF := F.1.2
    unfold t11_lays
    rw [if_pos (n_t127 FF), wk, wo, if_pos (n_c36 FF k0 k1), n_a36 FF k0 k1, if_pos (n_d36 FF k0 k1 o0 (by omega)), F.2.2 (163 + k) o (by omega) (by omega), w1, if_pos (n_c51 FF p.1.1 (by omega)), n_p127_51 FF, r1, n_bs]
    exact e1
  · obtain ⟨D1, Y1⟩ := R1 z
    obtain ⟨y1, y2, y3, y4⟩ := Y1
    have eo : (o + 1).toNat = o.toNat + 1 := by omega
    have ec : ((o.toNat : Nat) : Int) = o := by omega
    refine ⟨⟨fun q q0 q1 qv => D1.1 q q0 (by
      by_cases c : q = o
      · rw [c] at qv; exact absurd v qv
      · omega) qv, D1.2⟩, ?_, fun q i q0 i0 hq => y2 q i q0 i0 ?_, fun t t0 t1 => ?_, ?_⟩
    · rw [y1, n_off_s o0, Int.add_zero]
    · rcases hq with ⟨h1, h2⟩ | ⟨h1, h2⟩
      · by_cases c : q = o
        · right; subst c; exact ⟨rfl, h2⟩
        · left; exact ⟨by omega, h2⟩
      · omega
    · rw [y3 t t0 t1, eo, n_sT_s, ec]
      show _ = n_sT g k d o.toNat t + n_sO g k d o (n_tm g k o).toNat t + 0
      rw [Int.add_zero]
    · rw [y4, if_neg (by omega), if_pos rfl, eo, n_eT_s, ec, if_pos v]
