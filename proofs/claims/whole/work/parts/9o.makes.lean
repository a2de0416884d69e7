/-! CALLS: fails: the reference plays all of the orders -/
theorem n_makesLoop {g : m_H} {k a d : Int} (G : n_gs g) {hq : m_H} (C : n_scc hq g k a) (d1 : -2147483648 ≤ d) (d2 : d < 2147483648) : ∀ (m : Nat) (o : Int) (gg : m_H), m_g g 151 k ≤ o + m → 0 ≤ o → o ≤ m_g g 151 k → n_stD g k d o → n_rF g gg → n_rR g gg k d o o → n_rY g gg k d o 0 → ∃ z g', t11_makes__c34 127 k d o gg = some (z, g') ∧ n_rF g g' ∧ n_ff g k d z ∧ (z = -1 → n_rR g g' k d (m_g g 151 k) (m_g g 151 k) ∧ n_rY g g' k d (m_g g 151 k) 0) := by
  have C3 := C.2.2.1
  have k0 := C.2.1.1
  have k8 := C.2.1.2
  have head : ∀ (o : Int) (gg : m_H), 0 ≤ o → o ≤ m_g g 151 k → n_rF g gg → t11_makes__c34 127 k d o gg = if o < m_g g 151 k then (t11_does 127 k o d gg >>= fun ⟨r5, h4⟩ => (if r5 = true then t11_makes__c34 127 k d (o + 1) h4 else some (o, h4))) else some (-1, gg) := fun o gg o0 o1 F => by
    have FF := F.1.2
    have l := n_l151 FF
    rw [t11_makes__c34, if_pos (n_t127 FF), n_p127_34 FF, m_w_of (x := k) (by omega) (by omega), if_pos (show m_t gg 151 = 20 ∧ 0 ≤ k ∧ k < m_l gg 151 from ⟨n_t151 FF, by omega, by omega⟩), F.2.2 151 k (by omega) (by omega), m_w_of (x := o) (by omega) (by omega), m_w_of (x := m_g g 151 k) (by omega) (by omega)]
  intro m
  induction m with
  | zero =>
    intro o gg e o0 o1 st F R Y
    have eo : o = m_g g 151 k := by omega
    subst eo
    exact ⟨-1, gg, by rw [head _ gg o0 o1 F, if_neg (by omega)], F, Or.inl ⟨rfl, st⟩, fun _ => ⟨R, Y⟩⟩
  | succ m ih =>
    intro o gg e o0 o1 st F R Y
    by_cases c : o < m_g g 151 k
    · obtain ⟨g', e1, F1, R1⟩ := n_doesR G C d1 d2 o0 c st F R Y
      cases hK : n_rK g k d (n_L g k d) o with
      | true =>
        rw [hK] at e1 R1
        obtain ⟨R2, Y2⟩ := R1 rfl
        obtain ⟨z, g2, f1, f2, f3, f4⟩ := ih (o + 1) g' (by omega) (by omega) (by omega) (fun q q0 q1 => by
          by_cases z : q = o
          · rw [z]; exact hK
          · exact st q q0 (by omega)) F1 R2 Y2
        exact ⟨z, g2, by rw [head o gg o0 o1 F, if_pos c, e1, n_bs]; exact f1, f2, f3, f4⟩
      | false =>
        rw [hK] at e1
        exact ⟨o, g', by rw [head o gg o0 o1 F, if_pos c, e1, n_bs]; rfl, F1, Or.inr ⟨⟨o0, c⟩, st, hK⟩, fun z => by omega⟩
    · have eo : o = m_g g 151 k := by omega
      subst eo
      exact ⟨-1, gg, by rw [head _ gg o0 o1 F, if_neg (by omega)], F, Or.inl ⟨rfl, st⟩, fun _ => ⟨R, Y⟩⟩
theorem n_makesR {g : m_H} {k a d : Int} (I : n_I g) (G : n_gs g) {hq : m_H} (C : n_scc hq g k a) (d1 : -2147483648 ≤ d) (d2 : d < 2147483648) : ∃ z g', t11_makes_ 127 k d g = some (z, g') ∧ n_rF g g' ∧ n_ff g k d z ∧ (z = -1 → n_rR g g' k d (m_g g 151 k) (m_g g 151 k) ∧ n_rY g g' k d (m_g g 151 k) 0) := by
  have C3 := C.2.2.1
  have t7 := n_t127 I.2
  have J1 : n_I (m_p g 127 58 0) := n_I_p I (by omega) (by omega) rfl
  have J2 : n_I (m_p (m_p g 127 58 0) 127 59 0) := n_I_p J1 (by rw [n_t127 J1.2]; omega) (by rw [n_t127 J1.2]; omega) rfl
  have q : ∀ b j, ¬ (b = 127 ∧ (j = 58 ∨ j = 59)) → m_g (m_p (m_p g 127 58 0) 127 59 0) b j = m_g g b j := fun b j h => by rw [n_gp_n (by omega), n_gp_n (by omega)]
  have q58 : m_g (m_p (m_p g 127 58 0) 127 59 0) 127 58 = 0 := by rw [n_gp_n (by omega), n_gp_y ⟨rfl, rfl⟩]
  have q59 : m_g (m_p (m_p g 127 58 0) 127 59 0) 127 59 = 0 := n_gp_y ⟨rfl, rfl⟩
  have qq : (m_p (m_p g 127 58 0) 127 59 0).2 = g.2 := rfl
  unfold t11_makes_
  rw [if_pos t7, n_bs, if_pos (n_t127 J1.2), n_bs]
  generalize m_p (m_p g 127 58 0) 127 59 0 = g1 at *
  have key := n_fill (fun i g => t11_makes__c12 127 k d i g) (h := g1) (a := 280) (lo := 0) (n := 3000) (fun _ => 0) (by omega) (fun i i1 i2 => by
    show t11_makes__c12 127 k d i _ = t11_makes__c12 127 k d (i + 1) _
    have J : n_I (n_fl g1 280 0 i (fun _ => 0)) := n_I_fl J2 (Or.inr (Or.inl (n_t280 J2.2)))
    generalize n_fl g1 280 0 i (fun _ => 0) = hi at *
    have := n_l280 J.2
    rw [t11_makes__c12, m_w_of (by omega) (by omega), if_pos i2, if_pos (n_t127 J.2), n_p127_53 J.2, if_pos ⟨n_t280 J.2, by omega, by omega⟩, n_bs])
  have J : n_I (n_fl g1 280 0 3000 (fun _ => 0)) := n_I_fl J2 (Or.inr (Or.inl (n_t280 J2.2)))
  have r : ∀ b j, b ≠ 280 → m_g (n_fl g1 280 0 3000 (fun _ => 0)) b j = m_g g1 b j := fun b j hb => by rw [n_g_fl, if_neg (fun z => hb z.1)]
  have r280 : ∀ t, 0 ≤ t → t < 3000 → m_g (n_fl g1 280 0 3000 (fun _ => 0)) 280 t = 0 := fun t t0 t1 => by rw [n_g_fl, if_pos ⟨rfl, t0, t1⟩]
  have rr : (n_fl g1 280 0 3000 (fun _ => 0)).2 = g1.2 := rfl
  have e : t11_makes__c12 127 k d 0 g1 = t11_makes__c34 127 k d 0 (n_fl g1 280 0 3000 (fun _ => 0)) := key.trans (by
    show t11_makes__c12 127 k d 3000 _ = _
    rw [t11_makes__c12, if_neg (by rw [m_w_of (by omega) (by omega)]; omega)])
  rw [e]
  generalize n_fl g1 280 0 3000 (fun _ => 0) = g2 at *
  have F : n_rF g g2 := ⟨J, rr.trans qq, fun b j h1 h2 => (r b j (by omega)).trans (q b j h2)⟩
  exact n_makesLoop G C d1 d2 (m_g g 151 k).toNat 0 g2 (by omega) (by omega) (by omega) (fun q q0 q1 => by omega) F ⟨fun q q0 q1 => by omega, fun q q0 q1 => by omega⟩ ⟨by rw [r _ _ (by omega), q58]; rfl, fun o i o0 i0 h => by omega, fun t t0 t1 => by rw [r280 t t0 t1]; rfl, by rw [r _ _ (by omega), q59]; rfl⟩
