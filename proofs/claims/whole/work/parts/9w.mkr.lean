/-! CALLS: make: the reference keeps what it has made -/
theorem n_tailP {g : m_H} {k E : Int} (J : n_I g) (k0 : 0 ≤ k) (k1 : k < 8) (eE : m_g g 127 59 = E) (E0 : 0 ≤ E) (E1 : E ≤ 3000) (b : ∀ t, 0 ≤ t → t < E → -9223372036854775808 ≤ m_g g 280 t ∧ m_g g 280 t < 9223372036854775808) : t11_make_c36 127 k 0 g = t11_make_c75 127 k 0 (m_p (n_fl g 285 0 E (fun t => n_cl (m_g g 280 t))) 127 62 (m_g g 127 58)) := by
  have key := n_fill (fun i h => t11_make_c36 127 k i h) (h := g) (a := 285) (lo := 0) (n := E) (fun t => n_cl (m_g g 280 t)) (by omega) (fun i i1 i2 => by
    show t11_make_c36 127 k i _ = t11_make_c36 127 k (i + 1) _
    have Ji : n_I (n_fl g 285 0 i (fun t => n_cl (m_g g 280 t))) := n_I_fl J (Or.inl (n_t285 J.2))
    have q : ∀ b j, b ≠ 285 → m_g (n_fl g 285 0 i (fun t => n_cl (m_g g 280 t))) b j = m_g g b j := fun b j hb => by rw [n_g_fl, if_neg (fun z => hb z.1)]
    have bi := b i i1 i2
    generalize n_fl g 285 0 i (fun t => n_cl (m_g g 280 t)) = z at *
    have F := Ji.2
    have l1 := n_l280 F
    have l2 := n_l285 F
    rw [t11_make_c36, if_pos (n_t127 F), q 127 59 (by omega), eE, m_w_of (x := i) (by omega) (by omega), m_w_of (x := E) (by omega) (by omega), if_pos i2, n_p127_53 F, if_pos ⟨n_t280 F, by omega, by omega⟩, q 280 i (by omega), n_bounded bi.1 bi.2, n_bs]
    dsimp only
    rw [n_p127_63 F, if_pos ⟨n_t285 F, by omega, by omega⟩, n_bs])
  refine (show t11_make_c36 127 k 0 g = t11_make_c36 127 k E (n_fl g 285 0 E (fun t => n_cl (m_g g 280 t))) from key).trans ?_
  have Ji : n_I (n_fl g 285 0 E (fun t => n_cl (m_g g 280 t))) := n_I_fl J (Or.inl (n_t285 J.2))
  have q : ∀ b j, b ≠ 285 → m_g (n_fl g 285 0 E (fun t => n_cl (m_g g 280 t))) b j = m_g g b j := fun b j hb => by rw [n_g_fl, if_neg (fun z => hb z.1)]
  generalize n_fl g 285 0 E (fun t => n_cl (m_g g 280 t)) = z at *
  rw [t11_make_c36, if_pos (n_t127 Ji.2), q 127 59 (by omega), eE, if_neg (by omega), n_bs, q 127 58 (by omega)]
/-- the layings are kept -/
def n_mzL (g z : m_H) (i : Int) : Prop := n_I z ∧ z.2 = g.2 ∧ (∀ b j, (b < 288 ∨ 291 < b) → m_g z b j = m_g g b j) ∧ ∀ l, 0 ≤ l → l < i → m_g z 288 l = m_g g 281 l ∧ m_g z 289 l = m_g g 282 l ∧ m_g z 290 l = m_g g 283 l ∧ m_g z 291 l = m_g g 284 l
theorem n_tailL {g : m_H} {k L : Int} (k0 : 0 ≤ k) (k1 : k < 8) (eL : m_g g 127 58 = L) (L1 : L ≤ 360) : ∀ (m : Nat) (i : Int) (z : m_H), 0 ≤ i → L = i + m → n_mzL g z i → ∃ z', t11_make_c75 127 k i z = t11_make_c146 127 k 0 (m_p z' 292 k 1) ∧ n_mzL g z' L := by
  intro m
  induction m with
  | zero =>
    intro i z i0 em S
    have F := S.1.2
    have ei : i = L := by omega
    refine ⟨z, ?_, by rw [← ei]; exact S⟩
    rw [t11_make_c75, if_pos (n_t127 F), S.2.2.1 127 58 (by omega), eL, if_neg (by rw [ei]; omega), m_w_of (x := k) (by omega) (by omega), if_pos (n_c70 F k0 k1), n_p127_70 F, n_bs]
  | succ m ih =>
    intro i z i0 em S
    obtain ⟨J, z2, e, v⟩ := S
    have F := J.2
    have l1 := n_l281 F
    have l2 := n_l282 F
    have l3 := n_l283 F
    have l4 := n_l284 F
    have l5 := n_l288 F
    have l6 := n_l289 F
    have l7 := n_l290 F
    have l8 := n_l291 F
    have J1 : n_I (m_p z 288 i (m_g g 281 i)) := n_I_pa J (Or.inl (n_t288 F))
    have F1 := J1.2
    have J2 : n_I (m_p (m_p z 288 i (m_g g 281 i)) 289 i (m_g g 282 i)) := n_I_pa J1 (Or.inl (n_t289 F1))
    have F2 := J2.2
    have J3 : n_I (m_p (m_p (m_p z 288 i (m_g g 281 i)) 289 i (m_g g 282 i)) 290 i (m_g g 283 i)) := n_I_pa J2 (Or.inl (n_t290 F2))
    have F3 := J3.2
    have J4 : n_I (m_p (m_p (m_p (m_p z 288 i (m_g g 281 i)) 289 i (m_g g 282 i)) 290 i (m_g g 283 i)) 291 i (m_g g 284 i)) := n_I_pa J3 (Or.inl (n_t291 F3))
    have e2 : m_g (m_p z 288 i (m_g g 281 i)) 282 i = m_g g 282 i := by rw [n_gp_n (by omega), e 282 i (by omega)]
    have e3 : m_g (m_p (m_p z 288 i (m_g g 281 i)) 289 i (m_g g 282 i)) 283 i = m_g g 283 i := by rw [n_gp_n (by omega), n_gp_n (by omega), e 283 i (by omega)]
    have e4 : m_g (m_p (m_p (m_p z 288 i (m_g g 281 i)) 289 i (m_g g 282 i)) 290 i (m_g g 283 i)) 284 i = m_g g 284 i := by rw [n_gp_n (by omega), n_gp_n (by omega), n_gp_n (by omega), e 284 i (by omega)]
    obtain ⟨z', f1, S'⟩ := ih (i + 1) (m_p (m_p (m_p (m_p z 288 i (m_g g 281 i)) 289 i (m_g g 282 i)) 290 i (m_g g 283 i)) 291 i (m_g g 284 i)) (by omega) (by omega) ⟨J4, z2, fun b j hb => by rw [n_gp_n (by omega), n_gp_n (by omega), n_gp_n (by omega), n_gp_n (by omega), e b j hb], fun l l0 l1 => by
      by_cases c : l = i
      · rw [c]
        exact ⟨by rw [n_gp_n (by omega), n_gp_n (by omega), n_gp_n (by omega), n_gp_y ⟨rfl, rfl⟩], by rw [n_gp_n (by omega), n_gp_n (by omega), n_gp_y ⟨rfl, rfl⟩], by rw [n_gp_n (by omega), n_gp_y ⟨rfl, rfl⟩], n_gp_y ⟨rfl, rfl⟩⟩
      · have := v l l0 (by omega)
        rw [n_gp_n (by omega), n_gp_n (by omega), n_gp_n (by omega), n_gp_n (by omega), n_gp_n (by omega), n_gp_n (by omega), n_gp_n (by omega), n_gp_n (by omega), n_gp_n (by omega), n_gp_n (by omega), n_gp_n (by omega), n_gp_n (by omega), n_gp_n (by omega), n_gp_n (by omega), n_gp_n (by omega), n_gp_n (by omega)]
        exact this⟩
    refine ⟨z', ?_, S'⟩
    rw [t11_make_c75, if_pos (n_t127 F), e 127 58 (by omega), eL, m_w_of (x := i) (by omega) (by omega), m_w_of (x := L) (by omega) (by omega), if_pos (by omega), n_p127_54 F, if_pos ⟨n_t281 F, by omega, by omega⟩, n_p127_66 F, if_pos ⟨n_t288 F, by omega, by omega⟩, n_bs, e 281 i (by omega)]
    rw [if_pos (n_t127 F1), n_p127_55 F1, if_pos ⟨n_t282 F1, by omega, by have := n_l282 F1; omega⟩, n_p127_67 F1, if_pos ⟨n_t289 F1, by omega, by have := n_l289 F1; omega⟩, n_bs, e2]
    rw [if_pos (n_t127 F2), n_p127_56 F2, if_pos ⟨n_t283 F2, by omega, by have := n_l283 F2; omega⟩, n_p127_68 F2, if_pos ⟨n_t290 F2, by omega, by have := n_l290 F2; omega⟩, n_bs, e3]
    rw [if_pos (n_t127 F3), n_p127_57 F3, if_pos ⟨n_t284 F3, by omega, by have := n_l284 F3; omega⟩, n_p127_69 F3, if_pos ⟨n_t291 F3, by omega, by have := n_l291 F3; omega⟩, n_bs, e4]
    exact f1
/-- lengths and sources are kept -/
def n_mzO (g z : m_H) (k i : Int) : Prop := n_I z ∧ z.2 = g.2 ∧ (∀ b j, b ≠ 286 → b ≠ 287 → b ≠ 294 + k → m_g z b j = m_g g b j) ∧ ∀ o, 0 ≤ o → o < i → m_g z 286 o = m_g g 278 o ∧ m_g z 287 o = m_g g 279 o ∧ m_g z (294 + k) o = m_g g 279 o
theorem n_tailO {g : m_H} {k N : Int} (k0 : 0 ≤ k) (k1 : k < 8) (eN : m_g g 151 k = N) (N1 : N ≤ 40) : ∀ (m : Nat) (i : Int) (z : m_H), 0 ≤ i → N = i + m → n_mzO g z k i → ∃ z', t11_make_c146 127 k i z = some (m_g g 127 59, z') ∧ n_mzO g z' k N := by
  intro m
  induction m with
  | zero =>
    intro i z i0 em S
    have F := S.1.2
    have ei : i = N := by omega
    refine ⟨z, ?_, by rw [← ei]; exact S⟩
    rw [t11_make_c146, if_pos (n_t127 F), m_w_of (x := k) (by omega) (by omega), if_pos (n_c34 F k0 (by omega)), n_p127_34 F, S.2.2.1 151 k (by omega) (by omega) (by omega), eN, if_neg (by rw [ei]; omega), S.2.2.1 127 59 (by omega) (by omega) (by omega)]
  | succ m ih =>
    intro i z i0 em S
    obtain ⟨J, z2, e, v⟩ := S
    have F := J.2
    have J1 : n_I (m_p z 286 i (m_g g 278 i)) := n_I_pa J (Or.inl (n_t286 F))
    have F1 := J1.2
    have J2 : n_I (m_p (m_p z 286 i (m_g g 278 i)) 287 i (m_g g 279 i)) := n_I_pa J1 (Or.inl (n_t287 F1))
    have F2 := J2.2
    have J3 : n_I (m_p (m_p (m_p z 286 i (m_g g 278 i)) 287 i (m_g g 279 i)) (294 + k) i (m_g g 279 i)) := n_I_pa J2 (Or.inl (n_294 F2 k0 k1).1)
    have e2 : m_g (m_p z 286 i (m_g g 278 i)) 279 i = m_g g 279 i := by rw [n_gp_n (by omega), e 279 i (by omega) (by omega) (by omega)]
    have e3 : m_g (m_p (m_p z 286 i (m_g g 278 i)) 287 i (m_g g 279 i)) 279 i = m_g g 279 i := by rw [n_gp_n (by omega), n_gp_n (by omega), e 279 i (by omega) (by omega) (by omega)]
    obtain ⟨z', f1, S'⟩ := ih (i + 1) (m_p (m_p (m_p z 286 i (m_g g 278 i)) 287 i (m_g g 279 i)) (294 + k) i (m_g g 279 i)) (by omega) (by omega) ⟨J3, z2, fun b j h1 h2 h3 => by rw [n_gp_n (by omega), n_gp_n (by omega), n_gp_n (by omega), e b j h1 h2 h3], fun l l0 l1 => by
      by_cases c : l = i
      · rw [c]
        exact ⟨by rw [n_gp_n (by omega), n_gp_n (by omega), n_gp_y ⟨rfl, rfl⟩], by rw [n_gp_n (by omega), n_gp_y ⟨rfl, rfl⟩], n_gp_y ⟨rfl, rfl⟩⟩
      · have := v l l0 (by omega)
        rw [n_gp_n (by omega), n_gp_n (by omega), n_gp_n (by omega), n_gp_n (by omega), n_gp_n (by omega), n_gp_n (by omega), n_gp_n (by omega), n_gp_n (by omega), n_gp_n (by omega)]
        exact this⟩
    refine ⟨z', ?_, S'⟩
    rw [t11_make_c146, if_pos (n_t127 F), m_w_of (x := k) (by omega) (by omega), if_pos (n_c34 F k0 (by omega)), n_p127_34 F, e 151 k (by omega) (by omega) (by omega), eN, m_w_of (x := i) (by omega) (by omega), m_w_of (x := N) (by omega) (by omega), if_pos (by omega), if_pos (n_c51 F i0 (by omega)), n_p127_64 F, if_pos ⟨n_t286 F, by omega, by have := n_l286 F; omega⟩, n_p127_51 F, n_bs, e 278 i (by omega) (by omega) (by omega)]
    rw [if_pos (n_t127 F1), if_pos (n_c52 F1 i0 (by omega)), n_p127_65 F1, if_pos ⟨n_t287 F1, by omega, by have := n_l287 F1; omega⟩, n_p127_52 F1, n_bs, e2]
    rw [if_pos (n_t127 F2), if_pos (n_c71 F2 k0 k1), if_pos (n_c52 F2 i0 (by omega)), n_a71 F2 k0 k1, if_pos (n_d71 F2 k0 k1 i0 (by omega)), n_p127_52 F2, n_bs, e3]
    exact f1
