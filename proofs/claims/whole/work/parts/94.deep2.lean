/-! CALLS: deep: both loops, the step -/
theorem n_mk_S {g g' : m_H} (e : ∀ b j, (130 ≤ b ∧ b ≤ 148) ∨ (151 ≤ b ∧ b ≤ 231) → m_g g' b j = m_g g b j) (s d : Int) : ∀ n, n_mk g' s d n = n_mk g s d n
  | 0 => rfl
  | n + 1 => by rw [n_mk, n_mk, e 146 n (by omega), e 147 n (by omega), e 148 n (by omega), n_mk_S e s d n]
theorem n_lmN_S {g g' : m_H} (e : ∀ b j, (130 ≤ b ∧ b ≤ 148) ∨ (151 ≤ b ∧ b ≤ 231) → m_g g' b j = m_g g b j) (e27 : m_g g' 127 27 = m_g g 127 27) (mk d : Int) : ∀ n i, n_lmN g' mk d n i = n_lmN g mk d n i
  | 0, i => rfl
  | n + 1, i => by rw [n_lmN, n_lmN, e 133 i (by omega), e27, n_mk_S e, n_lmN_S e e27 mk d n (i + 1)]
theorem n_sOf_S {g g' : m_H} (e : ∀ b j, (130 ≤ b ∧ b ≤ 148) ∨ (151 ≤ b ∧ b ≤ 231) → m_g g' b j = m_g g b j) (e14 : m_g g' 127 14 = m_g g 127 14) (e27 : m_g g' 127 27 = m_g g 127 27) {k : Int} (k0 : 0 ≤ k) (k1 : k < 8) (o d : Int) : n_sOf g' k o d = n_sOf g k o d := by
  unfold n_sOf
  rw [e (153 + k) o (by omega), e (183 + k) o (by omega), e14, n_lmN_S e e27, e 133 _ (by omega)]
theorem n_ordB_e {g g' : m_H} {k o : Int} (e : ∀ b j, (130 ≤ b ∧ b ≤ 148) ∨ (151 ≤ b ∧ b ≤ 231) → m_g g' b j = m_g g b j) (k0 : 0 ≤ k) (k1 : k < 9) (b : n_ordB g k o) : n_ordB g' k o := by
  have q := fun b j (hb : 151 ≤ b ∧ b ≤ 231) => e b j (Or.inr hb)
  unfold n_ordB at *
  rw [q (153 + k) o (by omega), q (163 + k) o (by omega), q (173 + k) o (by omega), q (183 + k) o (by omega), q (193 + k) o (by omega), q (203 + k) o (by omega), q (213 + k) o (by omega), q (223 + k) o (by omega), q (153 + k) _ (by omega), q (153 + k) _ (by omega)]
  exact b
theorem n_depthC {h : m_H} {k kk a : Int} (X : n_R h kk) (C : n_scc h h k a) : t3_depth 20 a h = some (n_dpM h k (m_g h 151 k).toNat, n_fl h 25 0 (m_g h 151 k) (n_dpF h k)) ∧ n_I (n_fl h 25 0 (m_g h 151 k) (n_dpF h k)) ∧ n_scc (n_fl h 25 0 (m_g h 151 k) (n_dpF h k)) h k a := by
  have I := X.1
  have G := X.2.1
  have C3 := C.2.2.1
  have t25 := n_t25 I.2
  have l25 := n_l25 I.2
  have fac : ∀ i, n_I (n_fl h 25 0 i (n_dpF h k)) ∧ n_Rsh (n_fl h 25 0 i (n_dpF h k)) h ∧ n_scc (n_fl h 25 0 i (n_dpF h k)) h k a ∧ ∀ j, 0 ≤ j → j < i → m_g (n_fl h 25 0 i (n_dpF h k)) 25 j = n_dpF h k j := fun i => by
    have J : n_I (n_fl h 25 0 i (n_dpF h k)) := n_I_fl I (Or.inl t25)
    have e : ∀ b j, b ∉ [(25 : Int)] → m_g (n_fl h 25 0 i (n_dpF h k)) b j = m_g h b j := fun b j hb => by rw [n_g_fl, if_neg (fun q => by simp at hb; exact hb q.1)]
    obtain ⟨-, -, S, -⟩ := n_only X (A := [25]) (hh := n_fl h 25 0 i (n_dpF h k)) rfl e (by decide)
    exact ⟨J, S, n_scc_S C rfl (fun b j hb => e b j (by simp; omega)), fun j j0 j1 => by rw [n_g_fl, if_pos ⟨rfl, j0, j1⟩]⟩
  have key := n_fill (fun i hh => t3_depth_c4 20 a (n_dpM h k i.toNat) i hh) (h := h) (a := 25) (lo := 0) (n := m_g h 151 k) (n_dpF h k) C3.1 (fun i i1 i2 => by
    obtain ⟨J, S, D, E⟩ := fac i
    show t3_depth_c4 20 a (n_dpM h k i.toNat) i _ = t3_depth_c4 20 a (n_dpM h k (i + 1).toNat) (i + 1) _
    have mb := n_dpM_b (k := k) G i.toNat (by omega)
    have fb := n_dpF_b (k := k) (j := i) G (by omega)
    have eM : n_dpM h k (i + 1).toNat = if m_g h (153 + k) i = 12 then max (n_dpM h k i.toNat) (n_dpF h k i) else n_dpM h k i.toNat := by
      rw [show (i + 1).toNat = i.toNat + 1 by omega, n_dpM, show (i.toNat : Int) = i by omega]
    rw [eM]
    generalize n_dpM h k i.toNat = M at *
    generalize n_fl h 25 0 i (n_dpF h k) = hi at *
    have J2 : n_I (m_p hi 25 i (n_dpF h k i)) := n_I_pa J (Or.inl (n_t25 J.2))
    have D2 : n_scc (m_p hi 25 i (n_dpF h k i)) h k a := n_scc_S D rfl (fun b j hb => n_gp_n (by omega))
    rw [t3_depth_c4, if_pos (n_scc_t D), D.1.2.1, m_w_of (x := i) (by omega) (by omega), m_w_of (x := m_g h 151 k) (by omega) (by omega), if_pos i2, if_pos (n_t20 J.2), n_depthOf J S G D i1 i2 E, n_bs]
    show (if m_t hi 20 = 3 then t10_setEntry (m_g hi 20 4) i (n_dpF h k i) hi >>= _ else none) = _
    rw [if_pos (n_t20 J.2), n_p20_4 J.2, n_setEntry_y (n_t25 J.2) (by rw [n_l25 J.2]; omega) i1 (by rw [n_l25 J.2]; omega), n_bs]
    show (if m_t (m_p hi 25 i (n_dpF h k i)) a = 6 then t6_isPut a i (m_p hi 25 i (n_dpF h k i)) >>= _ else none) = _
    rw [if_pos (n_scc_t D2), n_isPutC J2 D2 i1 i2, n_bs]
    show (if decide (m_g h (153 + k) i = 12) = true then some (m_max M (n_dpF h k i)) >>= fun x13 => t3_depth_c4 20 a x13 (i + 1) (m_p hi 25 i (n_dpF h k i)) else t3_depth_c4 20 a M (i + 1) (m_p hi 25 i (n_dpF h k i))) = _
    by_cases c : m_g h (153 + k) i = 12
    · rw [decide_eq_true c, if_pos rfl, if_pos c, n_max (by omega) (by omega) (by omega) (by omega), n_bs]
    · rw [decide_eq_false c, if_neg c]
      rfl)
  obtain ⟨J, S, D, E⟩ := fac (m_g h 151 k)
  refine ⟨?_, J, D⟩
  unfold t3_depth
  refine key.trans ?_
  show t3_depth_c4 20 a (n_dpM h k (m_g h 151 k).toNat) (m_g h 151 k) _ = _
  rw [t3_depth_c4, if_pos (n_scc_t D), D.1.2.1, if_neg (by omega)]
theorem n_depthR {g : m_H} {k : Int} (I : n_I g) (G : n_gs g) (k0 : 0 ≤ k) (k1 : k < 8) (C3 : 0 ≤ m_g g 151 k ∧ m_g g 151 k ≤ 40) (ob : ∀ o, 0 ≤ o → o < m_g g 151 k → n_ordB g k o) : t11_deep_x14 14 127 k (-1) 0 0 0 g = some (n_dpM g k (m_g g 151 k).toNat, n_fl g 307 0 (m_g g 151 k) (n_dpF g k)) := by
  have B := G.1
  unfold n_shB at B
  have t307 := n_t307 I.2
  have fac : ∀ i, n_I (n_fl g 307 0 i (n_dpF g k)) ∧ (∀ b j, b ≠ 307 → m_g (n_fl g 307 0 i (n_dpF g k)) b j = m_g g b j) ∧ (∀ j, 0 ≤ j → j < i → m_g (n_fl g 307 0 i (n_dpF g k)) 307 j = n_dpF g k j) ∧ n_gs (n_fl g 307 0 i (n_dpF g k)) := fun i => by
    have J : n_I (n_fl g 307 0 i (n_dpF g k)) := n_I_fl I (Or.inl t307)
    exact ⟨J, fun b j hb => by rw [n_g_fl, if_neg (fun q => hb q.1)], fun j j0 j1 => by rw [n_g_fl, if_pos ⟨rfl, j0, j1⟩], n_gs_kr G (n_kr_fl (a := 307) (by omega) (by omega)) ⟨by decide, by decide⟩⟩
  have key := n_fill (fun i gg => t11_deep_x14 14 127 k (n_dpM g k i.toNat) i 0 0 gg) (h := g) (a := 307) (lo := 0) (n := m_g g 151 k) (n_dpF g k) C3.1 (fun i i1 i2 => by
    obtain ⟨J, e, E, G2⟩ := fac i
    show t11_deep_x14 14 127 k (n_dpM g k i.toNat) i 0 0 _ = t11_deep_x14 14 127 k (n_dpM g k (i + 1).toNat) (i + 1) 0 0 _
    have b := ob i i1 i2
    have b' := n_ordB_e (g' := n_fl g 307 0 i (n_dpF g k)) (fun b j hb => e b j (by omega)) k0 (by omega) b
    have eS := n_sOf_S (g := g) (g' := n_fl g 307 0 i (n_dpF g k)) (fun b j hb => e b j (by omega)) (e 127 14 (by omega)) (e 127 27 (by omega)) k0 k1 i (m_g g 127 18)
    have sb := n_sOf_b (g := g) (k := k) (o := i) (d := m_g g 127 18) B.1
    have eD := n_dpF_eq b i1
    have b1 := b.1
    have b1' := b.2.1
    have b2' := b.2.2.2.1
    have b5' := b.2.2.2.2.1
    have b6' := b.2.2.2.2.2.1
    clear b
    have mb := n_dpM_b (k := k) G i.toNat (by omega)
    have fb := fun j (j1 : j < 40) => n_dpF_b (k := k) (j := j) G j1
    have fi := fb i (by omega)
    have eM : n_dpM g k (i + 1).toNat = if m_g g (153 + k) i = 12 then max (n_dpM g k i.toNat) (n_dpF g k i) else n_dpM g k i.toNat := by
      rw [show (i + 1).toNat = i.toNat + 1 by omega, n_dpM, show (i.toNat : Int) = i by omega]
    rw [eM]
    generalize n_dpM g k i.toNat = M at *
    generalize n_fl g 307 0 i (n_dpF g k) = gi at *
    have F := J.2
    have tM := n_t127 F
    have l307 := n_l307 F
    have l151 := n_l151 F
    have e34 : m_t gi (m_g gi 127 34) = 20 ∧ 0 ≤ k ∧ k < m_l gi (m_g gi 127 34) := by rw [n_p127_34 F]; exact ⟨n_t151 F, k0, by omega⟩
    have a34 : m_g gi (m_g gi 127 34) k = m_g g 151 k := by rw [n_p127_34 F]; exact e 151 k (by omega)
    have wk := m_w_of (x := k) (by omega) (by omega)
    have wi := m_w_of (x := i) (by omega) (by omega)
    have wv := m_w_of (x := m_g g (153 + k) i) (by omega) (by omega)
    have e167 : t11_deep_x14 167 127 k M i (m_g g (153 + k) i) (n_dpF g k i) gi = t11_deep_x14 14 127 k (if m_g g (153 + k) i = 12 then max M (n_dpF g k i) else M) (i + 1) 0 0 (m_p gi 307 i (n_dpF g k i)) := by
      rw [t11_deep_x14, if_neg (by omega), if_neg (by omega), if_neg (by omega), if_pos rfl, if_pos tM, n_p127_80 F, wi, if_pos ⟨n_t307 F, i1, by omega⟩, n_bs, wv, m_w_of (x := M) (by omega) (by omega), m_w_of (x := n_dpF g k i) (by omega) (by omega)]
      by_cases c : m_g g (153 + k) i = 12
      · rw [if_pos c, if_pos c]
        by_cases c2 : M < n_dpF g k i
        · rw [if_pos c2, Int.max_eq_right (by omega)]
        · rw [if_neg c2, Int.max_eq_left (by omega)]
      · rw [if_neg c, if_neg c]
    have e137 : ∀ x, t11_deep_x14 137 127 k M i (m_g g (153 + k) i) x gi = t11_deep_x14 167 127 k M i (m_g g (153 + k) i) ((if m_g g (153 + k) i = 4 ∨ m_g g (153 + k) i = 8 ∨ m_g g (153 + k) i = 7 ∨ m_g g (153 + k) i = 9 then 1 else 0) + x) gi := fun x => by
      have e164 : t11_deep_x14 164 127 k M i (m_g g (153 + k) i) x gi = t11_deep_x14 167 127 k M i (m_g g (153 + k) i) (1 + x) gi := by
        rw [t11_deep_x14, if_neg (by omega), if_neg (by omega), if_pos rfl, Int.add_comm x 1]
      rw [t11_deep_x14, if_neg (by omega), if_pos rfl, wv, e164]
      by_cases d : m_g g (153 + k) i = 4 ∨ m_g g (153 + k) i = 8 ∨ m_g g (153 + k) i = 7 ∨ m_g g (153 + k) i = 9
      · rw [if_pos d]
        by_cases d1 : m_g g (153 + k) i = 4
        · rw [if_pos d1]
        · rw [if_neg d1]
          by_cases d2 : m_g g (153 + k) i = 8
          · rw [if_pos d2]
          · rw [if_neg d2]
            by_cases d3 : m_g g (153 + k) i = 7
            · rw [if_pos d3]
            · rw [if_neg d3, if_pos (by omega)]
      · rw [if_neg d, if_neg (by omega), if_neg (by omega), if_neg (by omega), if_neg (by omega), Int.zero_add]
    rw [← e167]
    rw [t11_deep_x14, if_pos rfl, if_pos tM, wk, if_pos e34, a34, wi, m_w_of (x := m_g g 151 k) (by omega) (by omega), if_pos i2, if_pos (n_c35 F k0 (by omega)), n_a35 F k0 (by omega), if_pos (n_d35 F k0 (by omega) i1 (by omega)), e (153 + k) i (by omega), n_bs, wv]
    by_cases v : m_g g (153 + k) i ≤ 1
    · rw [if_neg (by omega), e 127 18 (by omega), n_ledR J G2 k0 k1 i1 (by omega) b' (by rw [e (153 + k) i (by omega)]; exact v) (by omega) (by omega), n_bs, eS]
      have eV : n_dpF g k i = if n_sOf g k i (m_g g 127 18) = -1 then 0 else m_g g 134 (n_sOf g k i (m_g g 127 18)) := by rw [eD]; unfold n_dpV; rw [if_pos v]
      have nz : (if m_g g (153 + k) i = 4 ∨ m_g g (153 + k) i = 8 ∨ m_g g (153 + k) i = 7 ∨ m_g g (153 + k) i = 9 then (1 : Int) else 0) = 0 := if_neg (by omega)
      show (if m_w (n_sOf g k i (m_g g 127 18)) = -1 then t11_deep_x14 137 127 k M i (m_g g (153 + k) i) 0 gi else if m_t gi 127 = 11 then if m_t gi (m_g gi 127 6) = 20 ∧ 0 ≤ m_w (n_sOf g k i (m_g g 127 18)) ∧ m_w (n_sOf g k i (m_g g 127 18)) < m_l gi (m_g gi 127 6) then some (m_g gi (m_g gi 127 6) (m_w (n_sOf g k i (m_g g 127 18)))) >>= fun x23 => t11_deep_x14 137 127 k M i (m_g g (153 + k) i) x23 gi else none else none) = _
      rw [m_w_of (x := n_sOf g k i (m_g g 127 18)) (by omega) (by omega)]
      by_cases c : n_sOf g k i (m_g g 127 18) = -1
      · rw [if_pos c] at eV
        rw [if_pos c, e137, nz, Int.zero_add, eV]
      · rw [if_neg c] at eV
        have l134 := n_l134 F
        rw [if_neg c, if_pos tM, n_p127_6 F, if_pos ⟨n_t134 F, by omega, by omega⟩, e 134 _ (by omega), n_bs, e137, nz, Int.zero_add, eV]
    · have b2 := b2' (by omega)
      have b3 : -1 ≤ m_g g (173 + k) i ∧ m_g g (173 + k) i < i := by
        by_cases q : m_g g (153 + k) i = 5
        · have := b6' q; omega
        · have := b5' q; omega
      have f1 := fb (m_g g (163 + k) i) (by omega)
      have f2 := fb (m_g g (173 + k) i) (by omega)
      have w1 := m_w_of (x := m_g g (163 + k) i) (by omega) (by omega)
      have w2 := m_w_of (x := m_g g (173 + k) i) (by omega) (by omega)
      have eV : n_dpF g k i = (if m_g g (153 + k) i = 4 ∨ m_g g (153 + k) i = 8 ∨ m_g g (153 + k) i = 7 ∨ m_g g (153 + k) i = 9 then 1 else 0) + (if m_g g (173 + k) i = -1 then n_dpF g k (m_g g (163 + k) i) else max (n_dpF g k (m_g g (163 + k) i)) (n_dpF g k (m_g g (173 + k) i))) := by rw [eD]; unfold n_dpV; rw [if_neg v]
      rw [if_pos (by omega), if_pos (n_c36 F k0 (by omega)), n_a36 F k0 (by omega), if_pos (n_d36 F k0 (by omega) i1 (by omega)), e (163 + k) i (by omega), n_p127_80 F, w1, if_pos ⟨n_t307 F, by omega, by omega⟩, E _ b2.1 b2.2.1, n_bs, if_pos (n_c37 F k0 (by omega)), n_a37 F k0 (by omega), if_pos (n_d37 F k0 (by omega) i1 (by omega)), e (173 + k) i (by omega), w2]
      by_cases c : m_g g (173 + k) i = -1
      · rw [if_pos c] at eV
        rw [if_pos c, e137, eV]
      · rw [if_neg c] at eV
        rw [if_neg c, if_pos ⟨n_t307 F, by omega, by omega⟩, E _ (by omega) (by omega), m_w_of (x := n_dpF g k (m_g g (163 + k) i)) (by omega) (by omega), m_w_of (x := n_dpF g k (m_g g (173 + k) i)) (by omega) (by omega)]
        by_cases d : n_dpF g k (m_g g (163 + k) i) < n_dpF g k (m_g g (173 + k) i)
        · rw [Int.max_eq_right (by omega)] at eV
          rw [if_pos d, n_bs, e137, eV]
        · rw [Int.max_eq_left (by omega)] at eV
          rw [if_neg d, e137, eV])
  obtain ⟨J, e, E, G2⟩ := fac (m_g g 151 k)
  refine key.trans ?_
  show t11_deep_x14 14 127 k (n_dpM g k (m_g g 151 k).toNat) (m_g g 151 k) 0 0 _ = _
  have l151 := n_l151 J.2
  rw [t11_deep_x14, if_pos rfl, if_pos (n_t127 J.2), n_p127_34 J.2, m_w_of (x := k) (by omega) (by omega), if_pos ⟨n_t151 J.2, k0, by omega⟩, e 151 k (by omega), if_neg (by omega)]
theorem n_s_deep {h : m_H} {k : Int} (X : n_R h k) (s : Int) (i1 : -2147483648 ≤ s) (i2 : s < 2147483648) : n_step h k (t10_deep 1 s) (t11_deep 127 s) := by
  have X' := X
  obtain ⟨I, gs, bud, x1, x2, x3, x4, x5, x6, x7⟩ := X'
  have s2 := x5.2.1
  have s3 := x5.2.2.1
  unfold n_step t10_deep t11_deep
  by_cases c : 0 ≤ s ∧ s < m_g h 127 43
  · have C := n_scc_of x5 c.1 c.2
    obtain ⟨e1, J, D⟩ := n_depthC X C
    have e : ∀ b j, b ∉ [(25 : Int)] → m_g (n_fl h 25 0 (m_g h 151 s) (n_dpF h s)) b j = m_g h b j := fun b j hb => by rw [n_g_fl, if_neg (fun q => by simp at hb; exact hb q.1)]
    obtain ⟨K, P, S, B⟩ := n_only X (A := [25]) (hh := n_fl h 25 0 (m_g h 151 s) (n_dpF h s)) rfl e (by decide)
    have ref : ∀ b j, 127 ≤ b → m_g (n_fl h 25 0 (m_g h 151 s) (n_dpF h s)) b j = m_g h b j := fun b j hb => e b j (by simp; omega)
    have qB := n_bud_more B
    have R2 : n_R (n_fl h 25 0 (m_g h 151 s) (n_dpF h s)) (k + 1) := n_finS X P J qB (by decide) rfl rfl rfl
    generalize n_fl h 25 0 (m_g h 151 s) (n_dpF h s) = hh at *
    have e2 := n_depthR (g := hh) (k := s) J R2.2.1 c.1 (by omega) (by rw [ref 151 s (by omega)]; exact C.2.2.1) (fun o o0 o1 => n_ordB_e (fun b j hb => ref b j (by omega)) c.1 (by omega) (C.2.2.2 o o0 (by rw [ref 151 s (by omega)] at o1; exact o1)))
    have KR : n_kr hh (n_fl hh 307 0 (m_g hh 151 s) (n_dpF hh s)) [307] [] := n_kr_fl (by omega) (by omega)
    have J2 : n_I (n_fl hh 307 0 (m_g hh 151 s) (n_dpF hh s)) := n_I_fl J (Or.inl (n_t307 J.2))
    have P2 : n_sp h (n_fl hh 307 0 (m_g hh 151 s) (n_dpF hh s)) [25] [] [307] [] := n_sp_of I K KR P.2.2.2.1 n_no
    have B2 : n_bud (n_fl hh 307 0 (m_g hh 151 s) (n_dpF hh s)) (k + 1) := n_bud_same J rfl (fun r hr => n_kr_comp KR (n_ref_row J hr).1 0) qB
    have eqF : ∀ n, n ≤ 40 → n_dpT hh s n = n_dpT h s n := fun n => by
      induction n with
      | zero => intro _; rfl
      | succ n ih =>
        intro hn
        funext j
        rw [n_dpT_s, n_dpT_s, ih (by omega)]
        have : n_dpV hh s (n_dpT h s n) n = n_dpV h s (n_dpT h s n) n := by
          unfold n_dpV
          rw [n_sOf_S (g := h) (g' := hh) (fun b j hb => ref b j (by omega)) (ref 127 14 (by omega)) (ref 127 27 (by omega)) c.1 (by omega), ref (153 + s) _ (by omega), ref (163 + s) _ (by omega), ref (173 + s) _ (by omega), ref 127 18 (by omega), ref 134 _ (by omega)]
        rw [this]
    have eqM : ∀ n : Nat, n ≤ 40 → n_dpM hh s n = n_dpM h s n := fun n => by
      induction n with
      | zero => intro _; rfl
      | succ n ih =>
        intro hn
        rw [n_dpM, n_dpM, ih (by omega), ref (153 + s) _ (by omega)]
        unfold n_dpF
        rw [eqF _ (by omega)]
    have C3 := C.2.2.1
    refine ⟨n_dpM h s (m_g h 151 s).toNat, hh, n_dpM hh s (m_g hh 151 s).toNat, _, ?_, ?_, ?_, n_finS X P2 J2 B2 (by decide) rfl (by decide) rfl⟩
    · rw [if_pos (n_t1 I.2), n_scoreOf_y I x5 c, n_bs]
      show (if m_g h 19 s = 0 then some (-1, h) else if m_t h 1 = 10 then if m_t h (m_g h 1 5) = 3 then t3_depth (m_g h 1 5) (m_g h 19 s) h >>= _ else none else none) = _
      have := C.1.1.2.1
      rw [if_neg (by omega), if_pos (n_t1 I.2), n_p1_5 I.2, if_pos (n_t20 I.2), e1, n_bs]
    · have r43 : m_g hh 127 43 = m_g h 127 43 := ref 127 43 (by omega)
      have eS := n_isScore (s := s) J (by omega) (by omega)
      rw [r43, m_w_of i1 i2, decide_eq_true c] at eS
      rw [if_pos (n_t127 J.2), eS, n_bs]
      exact e2
    · rw [ref 151 s (by omega), eqM _ (by omega)]
  · have eS := n_isScore (s := s) I s2 s3
    rw [m_w_of i1 i2, decide_eq_false c] at eS
    refine ⟨-1, h, -1, h, ?_, ?_, rfl, n_R_more X⟩
    · rw [if_pos (n_t1 I.2), n_scoreOf_n I x5 i1 i2 c, n_bs]
      rfl
    · rw [if_pos (n_t127 I.2), eS, n_bs]
      rfl
