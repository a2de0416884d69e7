/-! CALLS: make: what both keep -/
theorem n_scc_g {h g g' : m_H} {k a : Int} (C : n_scc h g k a) (e : ∀ b j, 151 ≤ b → b < 312 → m_g g' b j = m_g g b j) : n_scc h g' k a := by
  obtain ⟨⟨s, t2, t3, t4, t5, t6⟩, c1, c2, c3⟩ := C
  have e151 := e 151 k (by omega) (by omega)
  refine ⟨⟨s, by rw [e151]; exact t2, by rw [e151]; exact t3, by rw [e 292 k (by omega) (by omega)]; exact t4, fun o o0 o1 => ?_, fun q o o0 o1 => ?_⟩, c1, by rw [e151]; exact c2, fun o o0 o1 => ?_⟩
  · have := t5 o o0 (by omega)
    unfold n_ord at *
    rw [e (153 + k) o (by omega) (by omega), e (163 + k) o (by omega) (by omega), e (173 + k) o (by omega) (by omega), e (183 + k) o (by omega) (by omega), e (193 + k) o (by omega) (by omega), e (203 + k) o (by omega) (by omega), e (213 + k) o (by omega) (by omega), e (223 + k) o (by omega) (by omega)]
    exact this
  · rw [e (294 + k) o (by omega) (by omega)]
    exact t6 (by rw [← e 292 k (by omega) (by omega)]; exact q) o o0 (by omega)
  · have q := c3 o o0 (by omega)
    have w := fun b j (hb : 151 ≤ b ∧ b ≤ 231) => e b j (by omega) (by omega)
    unfold n_ordB at *
    rw [w (153 + k) o (by omega), w (163 + k) o (by omega), w (173 + k) o (by omega), w (183 + k) o (by omega), w (193 + k) o (by omega), w (203 + k) o (by omega), w (213 + k) o (by omega), w (223 + k) o (by omega), w (153 + k) _ (by omega), w (153 + k) _ (by omega)]
    exact q
theorem n_off_e {g g' : m_H} {k : Int} (e : ∀ b j, 151 ≤ b → b ≤ 231 → m_g g' b j = m_g g b j) (k0 : 0 ≤ k) (k1 : k < 8) : ∀ n : Nat, n_off g' k n = n_off g k n
  | 0 => rfl
  | n + 1 => by
    unfold n_off
    rw [n_off_e e k0 k1 n, e (153 + k) _ (by omega) (by omega), e (213 + k) _ (by omega) (by omega)]
theorem n_lenR_of {g z : m_H} {k d o : Int} (G : n_gs g) (k0 : 0 ≤ k) (k1 : k < 8) (b : n_ordB g k o) (o0 : 0 ≤ o) (e : ∀ b j, (127 < b ∧ b ≤ 148) ∨ (151 ≤ b ∧ b ≤ 231) → m_g z b j = m_g g b j) (e23 : m_g z 127 23 = m_g g 127 23) (v : ∀ q, 0 ≤ q → q ≤ o → m_g g (153 + k) q ≠ 12 → m_g z 286 q = n_L g k d q ∧ n_okO g k d q) (st : n_rK g k d (n_L g k d) o = true) : n_lenR z k o := by
  have eL := n_L_eq (d := d) b o0
  have b1 := b.1
  have b2 := b.2.1
  have q1 := b.2.2.2.1
  have q5 := b.2.2.2.2.2.1
  have b4 := b.2.2.2.2.2.2.2.2.2.1
  have b7 := b.2.2.2.2.2.2.1
  have b8 := b.2.2.2.2.2.2.2.2.2.2.2.2.1
  clear b
  unfold n_rK at st
  have one : 2 ≤ m_g g (153 + k) o → m_g z 286 (m_g g (163 + k) o) = n_L g k d (m_g g (163 + k) o) ∧ 1 ≤ n_L g k d (m_g g (163 + k) o) := fun h => by
    have := q1 h
    have w := v _ this.1 (by omega) this.2.2
    exact ⟨w.1, w.2.1⟩
  have own := fun h => v o o0 (by omega) h
  unfold n_lenR
  rw [e (153 + k) o (by omega), e (163 + k) o (by omega), e (173 + k) o (by omega), e (183 + k) o (by omega), e (193 + k) o (by omega), e 142 _ (by omega), e23]
  refine ⟨fun h => ?_, fun h => ?_, fun h => ?_, fun h => ?_, fun h => ?_⟩
  · rw [(one (by omega)).1, (own (by omega)).1, eL]
    unfold n_rL
    rw [if_neg (by omega), if_pos h] at st
    rw [if_neg (by omega), if_pos h]
    have := of_decide_eq_true st
    omega
  · rw [(one (by omega)).1, (own (by omega)).1, eL]
    unfold n_rL
    rw [if_neg (by omega), if_neg (by omega), if_neg (by omega), if_neg (by omega), if_neg (by omega), if_neg (by omega)]
  · rw [(one (by omega)).1, (own (by omega)).1, eL]
    unfold n_rL
    rw [if_neg (by omega), if_neg (by omega), if_pos h, Int.add_sub_cancel]
    have y := b4 h
    have o1 := one (by omega)
    exact (n_td (Int.mul_nonneg (show 0 ≤ n_L g k d (m_g g (163 + k) o) - 1 by omega) (show 0 ≤ m_g g (193 + k) o by omega)) (by omega)).2.1
  · have y := q5 h
    have w := v _ y.1 (by omega) y.2.2
    rw [(one (by omega)).1, (own (by omega)).1, w.1, eL]
    unfold n_rL
    rw [if_neg (by omega), if_neg (by omega), if_neg (by omega), if_pos h] at st
    rw [if_neg (by omega), if_neg (by omega), if_neg (by omega), if_pos h]
    have := of_decide_eq_true st
    omega
  · rw [(one (by omega)).1, (own (by omega)).1, eL]
    unfold n_rL
    rw [if_neg (by omega), if_neg (by omega), if_neg (by omega), if_neg (by omega), if_neg (by omega), if_pos h] at st
    rw [if_neg (by omega), if_neg (by omega), if_neg (by omega), if_neg (by omega), if_neg (by omega), if_pos h, Int.add_sub_cancel]
    have := of_decide_eq_true st
    have y := b8 h
    have z7 := b7 (by omega)
    have mb := G.2.2.1 (m_g g (183 + k) o) z7.1 this.1
    unfold n_macB at mb
    have o1 := one (by omega)
    exact ⟨this.1, (n_td (show 0 ≤ (n_L g k d (m_g g (163 + k) o) - 1) * 1000 by omega) (by omega)).2.1⟩
/-- what the reference has kept: the piece of score k, made at d -/
def n_mkZ (g z : m_H) (k d : Int) : Prop := n_I z ∧ z.2 = g.2 ∧ (∀ b j, ¬ (b = 149 ∨ (238 ≤ b ∧ b ≤ 291)) → b ≠ 294 + k → ¬ (b = 292 ∧ j = k) → ¬ (b = 127 ∧ 58 ≤ j ∧ j ≤ 62) → m_g z b j = m_g g b j) ∧
  (m_g z 127 60 = k ∧ m_g z 127 61 = n_eT g k d (m_g g 151 k).toNat ∧ m_g z 127 62 = n_off g k (m_g g 151 k).toNat ∧ m_g z 292 k = 1) ∧
  (∀ t, 0 ≤ t → t < n_eT g k d (m_g g 151 k).toNat → m_g z 285 t = n_cl (n_sT g k d (m_g g 151 k).toNat t)) ∧
  (∀ o, 0 ≤ o → o < m_g g 151 k → m_g z 287 o = n_sOf g k o d ∧ m_g z (294 + k) o = n_sOf g k o d ∧ (m_g g (153 + k) o ≠ 12 → m_g z 286 o = n_L g k d o)) ∧
  ∀ o i, 0 ≤ o → o < m_g g 151 k → 0 ≤ i → i < n_tm g k o → m_g z 288 (n_off g k o.toNat + i) = o ∧ m_g z 289 (n_off g k o.toNat + i) = m_g g (193 + k) o ∧ m_g z 290 (n_off g k o.toNat + i) = n_bg g k o i ∧ m_g z 291 (n_off g k o.toNat + i) = n_L g k d (m_g g (163 + k) o)
theorem n_makeR {g : m_H} {k a d : Int} (I : n_I g) (G : n_gs g) {hq : m_H} (C : n_scc hq g k a) (c43 : k < m_g g 127 43) (l43 : m_g g 127 43 ≤ 8) (d1 : 0 ≤ d) (d2 : d ≤ m_g g 127 18) (st : n_stD g k d (m_g g 151 k)) : ∃ z, t11_make 127 k d g = some (n_eT g k d (m_g g 151 k).toNat, z) ∧ n_mkZ g z k d := by
  have C3 := C.2.2.1
  have k0 := C.2.1.1
  have k8 := C.2.1.2
  have B := G.1
  unfold n_shB at B
  have ok : ∀ o : Int, 0 ≤ o → o < m_g g 151 k → m_g g (153 + k) o ≠ 12 → n_okO g k d o := fun o o0 o1 ov => n_okAll G (N := m_g g 151 k) (fun z z0 z1 => n_scc_b C z0 z1) (m_g g 151 k).toNat (by omega) (fun z z0 z1 => st z z0 (by omega)) o o0 (by omega) ov
  have eb := n_eT_b (g := g) (k := k) (d := d) (N := (m_g g 151 k).toNat) (fun z z0 z1 => n_scc_b C z0 (by omega)) (fun z z0 z1 => st z z0 (by omega)) _ (Nat.le_refl _)
  have sb := n_sT_b (g := g) (k := k) (d := d) (N := (m_g g 151 k).toNat) (fun z z0 z1 => n_scc_b C z0 (by omega)) (fun z z0 z1 zv => ok z z0 (by omega) zv)
  have ob := n_off_b (g := g) (k := k) (m_g g 151 k).toNat (fun z z0 z1 => n_scc_b C z0 (by omega))
  have eC := n_canMake I G (by omega) l43 (s := k) (d := d) (by omega) (by omega) (by omega) (by omega)
  rw [decide_eq_true ⟨⟨k0, c43⟩, d1, d2⟩] at eC
  obtain ⟨q, g1, e1, F1, f1, RY⟩ := n_makesR I G C (by omega) (by omega : d < 2147483648)
  have eq : q = -1 := n_ff_u f1 (Or.inl ⟨rfl, st⟩)
  subst eq
  obtain ⟨R, Y⟩ := RY rfl
  obtain ⟨Y1, Y2, Y3, Y4⟩ := Y
  have J := F1.1
  have J60 : n_I (m_p g1 127 60 k) := n_I_p J (by rw [n_t127 J.2]; omega) (by rw [n_t127 J.2]; omega) rfl
  have J61 : n_I (m_p (m_p g1 127 60 k) 127 61 (m_g (m_p g1 127 60 k) 127 59)) := n_I_p J60 (by rw [n_t127 J60.2]; omega) (by rw [n_t127 J60.2]; omega) rfl
  have v0 : m_g (m_p g1 127 60 k) 127 59 = m_g g1 127 59 := n_gp_n (by omega)
  have v1 : ∀ b j, ¬ (b = 127 ∧ (j = 60 ∨ j = 61)) → m_g (m_p (m_p g1 127 60 k) 127 61 (m_g (m_p g1 127 60 k) 127 59)) b j = m_g g1 b j := fun b j h => by rw [n_gp_n (by omega), n_gp_n (by omega)]
  have v2 : m_g (m_p (m_p g1 127 60 k) 127 61 (m_g (m_p g1 127 60 k) 127 59)) 127 60 = k := by rw [n_gp_n (by omega), n_gp_y ⟨rfl, rfl⟩]
  have v3 : m_g (m_p (m_p g1 127 60 k) 127 61 (m_g (m_p g1 127 60 k) 127 59)) 127 61 = m_g g1 127 59 := by rw [n_gp_y ⟨rfl, rfl⟩, v0]
  have v4 : (m_p (m_p g1 127 60 k) 127 61 (m_g (m_p g1 127 60 k) 127 59)).2 = g1.2 := rfl
  have eM : t11_make 127 k d g = t11_make_c36 127 k 0 (m_p (m_p g1 127 60 k) 127 61 (m_g (m_p g1 127 60 k) 127 59)) := by
    unfold t11_make
    rw [if_pos (n_t127 I.2), eC, n_bs]
    dsimp only
    rw [if_pos rfl, if_pos (n_t127 I.2), e1, n_bs]
    dsimp only
    rw [m_w_of (x := -1) (by omega) (by omega), if_pos rfl, if_pos (n_t127 J.2), n_bs, if_pos (n_t127 J60.2), n_bs]
  generalize m_p (m_p g1 127 60 k) 127 61 (m_g (m_p g1 127 60 k) 127 59) = g2 at *
  have E59 : m_g g1 127 59 = n_eT g k d (m_g g 151 k).toNat := Y4
  have E58 : m_g g1 127 58 = n_off g k (m_g g 151 k).toNat := by rw [Y1]; omega
  have E280 : ∀ t, 0 ≤ t → t < 3000 → m_g g1 280 t = n_sT g k d (m_g g 151 k).toNat t := fun t t0 t1 => (Y3 t t0 t1).trans (by show _ + 0 = _; omega)
  have P := n_tailP (E := n_eT g k d (m_g g 151 k).toNat) J61 k0 k8 (by rw [v1 127 59 (by omega)]; exact E59) eb.1 eb.2 (fun t t0 t1 => by
    have := sb (m_g g 151 k).toNat t (Nat.le_refl _)
    rw [v1 280 t (by omega), E280 t t0 (by omega)]
    omega)
  have J3 : n_I (n_fl g2 285 0 (n_eT g k d (m_g g 151 k).toNat) (fun t => n_cl (m_g g2 280 t))) := n_I_fl J61 (Or.inl (n_t285 J61.2))
  have J4 : n_I (m_p (n_fl g2 285 0 (n_eT g k d (m_g g 151 k).toNat) (fun t => n_cl (m_g g2 280 t))) 127 62 (m_g g2 127 58)) := n_I_p J3 (by rw [n_t127 J3.2]; omega) (by rw [n_t127 J3.2]; omega) rfl
  have w1 : ∀ b j, b ≠ 285 → ¬ (b = 127 ∧ j = 62) → m_g (m_p (n_fl g2 285 0 (n_eT g k d (m_g g 151 k).toNat) (fun t => n_cl (m_g g2 280 t))) 127 62 (m_g g2 127 58)) b j = m_g g2 b j := fun b j h1 h2 => by rw [n_gp_n h2, n_g_fl, if_neg (fun z => h1 z.1)]
  have w2 : ∀ t, 0 ≤ t → t < n_eT g k d (m_g g 151 k).toNat → m_g (m_p (n_fl g2 285 0 (n_eT g k d (m_g g 151 k).toNat) (fun t => n_cl (m_g g2 280 t))) 127 62 (m_g g2 127 58)) 285 t = n_cl (m_g g2 280 t) := fun t t0 t1 => by rw [n_gp_n (by omega), n_g_fl, if_pos ⟨rfl, t0, t1⟩]
  have w3 : m_g (m_p (n_fl g2 285 0 (n_eT g k d (m_g g 151 k).toNat) (fun t => n_cl (m_g g2 280 t))) 127 62 (m_g g2 127 58)) 127 62 = m_g g2 127 58 := n_gp_y ⟨rfl, rfl⟩
  have w4 : (m_p (n_fl g2 285 0 (n_eT g k d (m_g g 151 k).toNat) (fun t => n_cl (m_g g2 280 t))) 127 62 (m_g g2 127 58)).2 = g2.2 := rfl
  generalize m_p (n_fl g2 285 0 (n_eT g k d (m_g g 151 k).toNat) (fun t => n_cl (m_g g2 280 t))) 127 62 (m_g g2 127 58) = g3 at *
  obtain ⟨g4, e4, S4⟩ := n_tailL (g := g3) (k := k) (L := n_off g k (m_g g 151 k).toNat) k0 k8 (by rw [w1 127 58 (by omega) (by omega), v1 127 58 (by omega)]; exact E58) (by omega) (n_off g k (m_g g 151 k).toNat).toNat 0 g3 (by omega) (by omega) ⟨J4, rfl, fun _ _ _ => rfl, fun l l0 l1 => by omega⟩
  obtain ⟨J5, x2, xe, xl⟩ := S4
  have J6 : n_I (m_p g4 292 k 1) := n_I_p J5 (by rw [n_t292 J5.2]; omega) (by rw [n_t292 J5.2]; omega) (n_key_ar J5.2 k (Or.inr (Or.inr (Or.inr (n_t292 J5.2)))))
  have y1 : ∀ b j, ¬ (b = 292 ∧ j = k) → m_g (m_p g4 292 k 1) b j = m_g g4 b j := fun b j h => n_gp_n h
  have y2 : m_g (m_p g4 292 k 1) 292 k = 1 := n_gp_y ⟨rfl, rfl⟩
  have y3 : (m_p g4 292 k 1).2 = g4.2 := rfl
  generalize m_p g4 292 k 1 = g5 at *
  have c5 : ∀ b j, ¬ (285 ≤ b ∧ b ≤ 292) → ¬ (b = 127 ∧ (j = 60 ∨ j = 61 ∨ j = 62)) → m_g g5 b j = m_g g1 b j := fun b j h1 h2 => (y1 b j (by omega)).trans ((xe b j (by omega)).trans ((w1 b j (by omega) (by omega)).trans (v1 b j (by omega))))
  obtain ⟨z, e5, S5⟩ := n_tailO (g := g5) (k := k) (N := m_g g 151 k) k0 k8 (by rw [c5 151 k (by omega) (by omega)]; exact F1.2.2 151 k (by omega) (by omega)) (by omega) (m_g g 151 k).toNat 0 g5 (by omega) (by omega) ⟨J6, rfl, fun _ _ _ _ _ => rfl, fun l l0 l1 => by omega⟩
  obtain ⟨J7, z2, ze, zo⟩ := S5
  refine ⟨z, ?_, J7, z2.trans (y3.trans (x2.trans (w4.trans (v4.trans F1.2.1)))), fun b j h1 h2 h3 h4 => ?_, ⟨?_, ?_, ?_, ?_⟩, fun t t0 t1 => ?_, fun o o0 o1 => ?_, fun o i o0 o1 i0 i1 => ?_⟩
  · rw [eM, P, e4, e5, c5 127 59 (by omega) (by omega), E59]
  · rw [ze b j (by omega) (by omega) h2]
    exact (y1 b j h3).trans ((xe b j (by omega)).trans ((w1 b j (by omega) (by omega)).trans ((v1 b j (by omega)).trans (F1.2.2 b j (by omega) (by omega)))))
  · rw [ze 127 60 (by omega) (by omega) (by omega), y1 127 60 (by omega), xe 127 60 (by omega), w1 127 60 (by omega) (by omega)]
    exact v2
  · rw [ze 127 61 (by omega) (by omega) (by omega), y1 127 61 (by omega), xe 127 61 (by omega), w1 127 61 (by omega) (by omega)]
    exact v3.trans E59
  · rw [ze 127 62 (by omega) (by omega) (by omega), y1 127 62 (by omega), xe 127 62 (by omega), w3, v1 127 58 (by omega)]
    exact E58
  · rw [ze 292 k (by omega) (by omega) (by omega)]
    exact y2
  · rw [ze 285 t (by omega) (by omega) (by omega), y1 285 t (by omega), xe 285 t (by omega), w2 t t0 t1, v1 280 t (by omega), E280 t t0 (by omega)]
  · obtain ⟨z4, z5, z6⟩ := zo o o0 o1
    have r2 := R.2 o o0 o1
    have e279 : m_g g5 279 o = n_sOf g k o d := (c5 279 o (by omega) (by omega)).trans r2
    exact ⟨z5.trans e279, z6.trans e279, fun ov => z4.trans ((c5 278 o (by omega) (by omega)).trans (R.1 o o0 o1 ov).1)⟩
  · have y := Y2 o i o0 i0 (Or.inl ⟨o1, i1⟩)
    have om := n_off_mono (g := g) (k := k) (N := (m_g g 151 k).toNat) (fun z z0 z1 => n_scc_b C z0 (by omega)) ((m_g g 151 k).toNat - (o + 1).toNat) (o + 1).toNat (by omega)
    rw [show (o + 1).toNat + ((m_g g 151 k).toNat - (o + 1).toNat) = (m_g g 151 k).toNat by omega] at om
    have os := n_off_s (g := g) (k := k) o0
    have o3 := n_off_b (g := g) (k := k) o.toNat (fun z z0 z1 => n_scc_b C z0 (by omega))
    obtain ⟨p1, p2, p3, p4⟩ := xl (n_off g k o.toNat + i) (by omega) (by omega)
    have cc : ∀ b j, 281 ≤ b → b ≤ 284 → m_g g3 b j = m_g g1 b j := fun b j h1 h2 => (w1 b j (by omega) (by omega)).trans (v1 b j (by omega))
    rw [ze 288 _ (by omega) (by omega) (by omega), ze 289 _ (by omega) (by omega) (by omega), ze 290 _ (by omega) (by omega) (by omega), ze 291 _ (by omega) (by omega) (by omega), y1 288 _ (by omega), y1 289 _ (by omega), y1 290 _ (by omega), y1 291 _ (by omega), p1, p2, p3, p4, cc 281 _ (by omega) (by omega), cc 282 _ (by omega) (by omega), cc 283 _ (by omega) (by omega), cc 284 _ (by omega) (by omega)]
    exact y
