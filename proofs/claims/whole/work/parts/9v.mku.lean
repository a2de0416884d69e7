/-! CALLS: make: the component's whole -/
def n_mkF (g x : m_H) (k a d : Int) : Prop := n_I x ∧ x.2 = g.2 ∧ (∀ b j, ¬ (b = a ∧ j = 2) → b ≠ m_g g a 3 → ¬ (b = 106 ∧ (j = 2 ∨ j = 3)) → b ≠ 112 → b ≠ 113 → m_g x b j = m_g g b j) ∧ m_g x a 2 = 1 ∧ (∀ o, 0 ≤ o → o < m_g g 151 k → m_g x (m_g g a 3) o = n_sOf g k o d) ∧ m_g x 106 2 = a ∧ m_g x 106 3 = k ∧ ∀ o, 0 ≤ o → o < m_g g 151 k → m_g x 113 o = n_sOf g k o d ∧ m_g x 112 o = n_lz g k d o
theorem n_makeC {g : m_H} {k a d kk : Int} (I : n_I g) (G : n_gs g) (bud : n_bud g kk) (C : n_scc g g k a) (st : n_stD g k d (m_g g 151 k)) (D : ∀ o, 0 ≤ o → o < m_g g 151 k → m_g g 24 o = n_sOf g k o d) (Rw : ∀ o, 0 ≤ o → o < m_g g 151 k → m_g g (153 + k) o ≠ 12 → m_g g (26 + 2 * o) 1 = n_L g k d o ∧ ∀ i, 0 ≤ i → i < n_L g k d o → n_rg g (26 + 2 * o) i = n_S g k d o i) : ∃ x1 x2 x5, t3_noteLeads 20 a g = some ((), x1) ∧ t2_layAll 106 a k 20 x1 = some ((), x5) ∧ n_mkF g x2 k a d ∧ n_rw x2 x5 107 (n_eT g k d (m_g g 151 k).toNat) (fun t => n_cl (n_sT g k d (m_g g 151 k).toNat t)) ∧ n_bud x5 kk := by
  have C3 := C.2.2.1
  obtain ⟨a1, a2, a3, a4, a5⟩ := C.1.1
  have Wa := I.1.2.2.2.2 a a1
  have na3 : m_g g a 3 ≠ a := fun q => by rw [q] at Wa; omega
  have na0 : m_g g a 0 ≠ a := fun q => by rw [q] at Wa; omega
  have ok : ∀ o : Int, 0 ≤ o → o < m_g g 151 k → m_g g (153 + k) o ≠ 12 → n_okO g k d o := fun o o0 o1 ov => n_okAll G (N := m_g g 151 k) (fun z z0 z1 => n_scc_b C z0 z1) (m_g g 151 k).toNat (by omega) (fun z z0 z1 => st z z0 (by omega)) o o0 (by omega) ov
  have eb := n_eT_b (g := g) (k := k) (d := d) (N := (m_g g 151 k).toNat) (fun z z0 z1 => n_scc_b C z0 (by omega)) (fun z z0 z1 => st z z0 (by omega))
  have sb := n_sT_b (g := g) (k := k) (d := d) (N := (m_g g 151 k).toNat) (fun z z0 z1 => n_scc_b C z0 (by omega)) (fun z z0 z1 zv => ok z z0 (by omega) zv)
  obtain ⟨x1, e1, J1, u1, u2, u3, u4⟩ := n_noteC I C D
  have q : n_I (m_p x1 106 2 a) := n_I_p J1 (by rw [n_t106 J1.2]; omega) (by rw [n_t106 J1.2]; omega) rfl
  have Jy : n_I (m_p (m_p x1 106 2 a) 106 3 k) := by
    exact n_I_p q (by rw [n_t106 q.2]; omega) (by rw [n_t106 q.2]; omega) rfl
  have y1 : ∀ b j, ¬ (b = 106 ∧ (j = 2 ∨ j = 3)) → m_g (m_p (m_p x1 106 2 a) 106 3 k) b j = m_g x1 b j := fun b j h => by rw [n_gp_n (by omega), n_gp_n (by omega)]
  have y2 : m_g (m_p (m_p x1 106 2 a) 106 3 k) 106 2 = a := by rw [n_gp_n (by omega), n_gp_y ⟨rfl, rfl⟩]
  have y3 : m_g (m_p (m_p x1 106 2 a) 106 3 k) 106 3 = k := n_gp_y ⟨rfl, rfl⟩
  have y4 : (m_p (m_p x1 106 2 a) 106 3 k).2 = x1.2 := rfl
  have el : t2_layAll 106 a k 20 x1 = t2_layAll_c16 106 20 0 0 (m_p (m_p x1 106 2 a) 106 3 k) := by
    unfold t2_layAll
    rw [if_pos (n_t106 J1.2), n_bs, if_pos (n_t106 q.2), n_bs]
  generalize m_p (m_p x1 106 2 a) 106 3 k = y at *
  have yg : ∀ b j, ¬ (b = a ∧ j = 2) → b ≠ m_g g a 3 → ¬ (b = 106 ∧ (j = 2 ∨ j = 3)) → m_g y b j = m_g g b j := fun b j h1 h2 h3 => (y1 b j h3).trans (u2 b j h1 h2)
  have y22 : y.2 = g.2 := y4.trans u1
  have Wg := n_scw_of I C
  have Wy : n_scw y g k a := n_scw_e Wg (n_e2t y22 a) (n_e2t y22 _) (n_e2l y22 _) (fun j hj => yg a j (by omega) (fun q => na3 q.symm) (by omega)) (fun j => yg _ j (by omega) a5 (by omega))
  have ya0 : m_g y a 0 = m_g g a 0 := yg a 0 (by omega) (fun q => na3 q.symm) (by omega)
  have S0 : n_mkA g y y k d 0 (fun o => n_sOf g k o d) := ⟨Jy, rfl, fun _ _ _ _ => rfl, fun q q0 q1 => by omega⟩
  obtain ⟨x2, e2, S2⟩ := n_laysLoop Jy Wy a2 (by rw [ya0]; exact a3) y2 (fun o o0 o1 => (yg 24 o (by omega) (by omega) (by omega)).trans (D o o0 o1)) (fun o o0 o1 ov => ⟨(yg _ 1 (by omega) (by omega) (by omega)).trans (Rw o o0 o1 ov).1, (ok o o0 o1 ov).1, (ok o o0 o1 ov).2.1⟩) (fun n hn => eb n (by omega)) (m_g g 151 k).toNat 0 y (by omega) (by omega) S0
  obtain ⟨J2, z2, zv, zq⟩ := S2
  have x22 : x2.2 = g.2 := z2.trans y22
  have xg : ∀ b j, ¬ (b = a ∧ j = 2) → b ≠ m_g g a 3 → ¬ (b = 106 ∧ (j = 2 ∨ j = 3)) → b ≠ 112 → b ≠ 113 → m_g x2 b j = m_g g b j := fun b j h1 h2 h3 h4 h5 => (zv b j h4 h5).trans (yg b j h1 h2 h3)
  have MF : n_mkF g x2 k a d := ⟨J2, x22, xg, by rw [zv a 2 (by omega) (by omega), y1 a 2 (by omega)]; exact u3, fun o o0 o1 => by rw [zv _ o (by omega) (by omega), y1 _ o (by omega)]; exact u4 o o0 o1, (zv 106 2 (by omega) (by omega)).trans y2, (zv 106 3 (by omega) (by omega)).trans y3, zq⟩
  have Wx2 : n_scw x2 g k a := n_scw_e Wy (n_e2t z2 a) (n_e2t z2 _) (n_e2l z2 _) (fun j _ => zv a j (by omega) (by omega)) (fun j => zv _ j (by omega) (by omega))
  -- silence
  have t5 := n_t107 J2.2
  obtain ⟨y5, e3, A⟩ := n_silenceC (x := x2) (v := 107) (E := n_eT g k d (m_g g 151 k).toNat) J2.1 t5 (eb _ (Nat.le_refl _)).1 (eb _ (Nat.le_refl _)).2
  have J5 := n_I_rw J2 t5 A
  have xa0 : m_g x2 a 0 = m_g g a 0 := xg a 0 (by omega) (fun q => na3 q.symm) (by omega) (by omega) (by omega)
  have x2a : m_t x2 a = 6 := by rw [n_e2t x22]; exact a1
  have Wx := J2.1.2.2.2.2 a x2a
  have sa : n_sf x2 a := ⟨(J2.1.1 a (by omega)).2, by omega, fun r hr e => by have := (n_wf_row J2.1 hr).2.1; rw [e] at this; omega⟩
  have sa0 : n_sf x2 (m_g x2 a 0) := ⟨(J2.1.1 _ (by omega)).2, by omega, fun r hr => (Wx.2.2.2.2 r hr).1⟩
  have s6 := n_sfa J2 (a := 106) (by omega) (by rw [n_t106 J2.2]; omega) (Or.inl (by rw [n_t106 J2.2]; omega))
  have Ac := A.2.2.2.2
  have W5 : n_scw y5 g k a := n_scw_e Wx2 (Ac.1 a sa.1).1 (Ac.1 _ sa0.1).1 (Ac.1 _ sa0.1).2 (fun j _ => n_rw_cell J2 t5 A sa j) (fun j => n_rw_cell J2 t5 A sa0 j)
  have e56 : m_g y5 106 2 = a := (n_rw_cell J2 t5 A s6 2).trans MF.2.2.2.2.2.1
  have Rw5 : ∀ o, 0 ≤ o → o < m_g g 151 k → m_g g (153 + k) o ≠ 12 → (m_g y5 (26 + 2 * o) 1 = n_L g k d o ∧ ∀ i, 0 ≤ i → i < n_L g k d o → n_rg y5 (26 + 2 * o) i = n_S g k d o i) ∧ 1 ≤ n_L g k d o ∧ n_L g k d o ≤ 1500 := fun o o0 o1 ov => by
    have p := (n_prt J2.2 o0 (by omega)).1
    obtain ⟨-, -, q3, -, q5⟩ := n_oth J2.1 t5 Ac p (by omega)
    have rr := Rw o o0 o1 ov
    have pg := (n_prt I.2 o0 (by omega)).1
    have s112 := n_sfa I (a := 112) (by omega) (by rw [n_t112 I.2]; omega) (Or.inr (by rw [n_l112 I.2]; omega))
    have s113 := n_sfa I (a := 113) (by omega) (by rw [n_t113 I.2]; omega) (Or.inr (by rw [n_l113 I.2]; omega))
    have s106 := n_sfa I (a := 106) (by omega) (by rw [n_t106 I.2]; omega) (Or.inl (by rw [n_t106 I.2]; omega))
    have nar : m_g g (26 + 2 * o) 0 ≠ a := fun q => by have := (n_wf_row I.1 pg).2.1; rw [q] at this; omega
    refine ⟨⟨q3.trans ((xg _ 1 (by omega) (by omega) (by omega) (by omega) (by omega)).trans rr.1), fun i i0 i1 => ?_⟩, (ok o o0 o1 ov).1, (ok o o0 o1 ov).2.1⟩
    rw [q5, ← rr.2 i i0 i1]
    unfold n_rg
    rw [xg (26 + 2 * o) 1 (by omega) (by omega) (by omega) (by omega) (by omega), xg (26 + 2 * o) 0 (by omega) (by omega) (by omega) (by omega) (by omega), xg (m_g g (26 + 2 * o) 0) i (fun q => nar q.1) (Wa.2.2.2.2 _ pg).2 (fun q => s106.2.2 _ pg q.1) (s112.2.2 _ pg) (s113.2.2 _ pg)]
  have W52 := (J5.1.2.2.2.2 a W5.1.1).2.2.2.2
  have en5 := A.2.2.1
  obtain ⟨x4, e4, B4⟩ := n_layPuts J5 W5 (fun r hr => (W52 r hr).1) e56 Rw5 (m_g g 151 k).toNat 0 y5 (by omega) (by omega) ⟨J5, rfl, fun _ _ _ => rfl, fun t t0 t1 => (A.2.2.2.1 t t0 (by omega)).trans rfl⟩
  obtain ⟨R, R2, c0, c1⟩ := n_mkB_row J5 B4
  have eE := eb (m_g g 151 k).toNat (Nat.le_refl _)
  have e5 := n_limitC B4.1 (n_t107 B4.1.2) (by omega) (fun t t0 t1 => by
    have := sb (m_g g 151 k).toNat t (Nat.le_refl _)
    rw [c0, B4.2.2.2 t t0 (by omega)]
    omega)
  have w1 : ∀ b j, b ≠ m_g x4 107 0 → m_g (n_fl x4 (m_g x4 107 0) 0 (m_g x4 107 1) (fun t => n_cl (m_g x4 (m_g x4 107 0) t))) b j = m_g x4 b j := fun b j hb => by rw [n_g_fl, if_neg (fun z => hb z.1)]
  have w2 : ∀ t, 0 ≤ t → t < m_g x4 107 1 → m_g (n_fl x4 (m_g x4 107 0) 0 (m_g x4 107 1) (fun t => n_cl (m_g x4 (m_g x4 107 0) t))) (m_g x4 107 0) t = n_cl (m_g x4 (m_g x4 107 0) t) := fun t t0 t1 => by rw [n_g_fl, if_pos ⟨rfl, t0, t1⟩]
  have w3 : (n_fl x4 (m_g x4 107 0) 0 (m_g x4 107 1) (fun t => n_cl (m_g x4 (m_g x4 107 0) t))).2 = x4.2 := rfl
  generalize n_fl x4 (m_g x4 107 0) 0 (m_g x4 107 1) (fun t => n_cl (m_g x4 (m_g x4 107 0) t)) = x5 at *
  have lo := n_wf_lt J2.1 t5
  have AA : n_rw x2 x5 107 (n_eT g k d (m_g g 151 k).toNat) (fun t => n_cl (n_sT g k d (m_g g 151 k).toNat t)) := n_rw_put A (w3.trans B4.2.1) (fun b j hb => (w1 b j (by rw [c0]; exact hb)).trans (B4.2.2.1 b j hb)) lo.2.1 (fun t t0 t1 => by
    have := w2 t t0 (by omega)
    rw [c0] at this
    rw [this, B4.2.2.2 t t0 (by omega)])
  refine ⟨x1, x2, x5, e1, ?_, MF, AA, ?_⟩
  · rw [el]
    refine (show t2_layAll_c16 106 20 0 0 y = t2_layAll_c16 106 20 (n_eT g k d (0 : Int).toNat) 0 y from rfl).trans (e2.trans ?_)
    rw [n_p106_1 J2.2, if_pos t5, e3, n_bs]
    dsimp only
    rw [e4, e5, n_bs]
  · have nrw : ∀ r, m_t g r = 5 → m_g x2 r 0 = m_g g r 0 := fun r hr => by
      have r106 := n_t106 I.2
      have r112 := n_t112 I.2
      have r113 := n_t113 I.2
      exact xg r 0 (by omega) (fun q => by rw [q] at hr; omega) (by omega) (fun q => by rw [q] at hr; omega) (fun q => by rw [q] at hr; omega)
    exact n_bud_rw J2 (by decide) AA (n_bud_same I x22 nrw bud)
