/-! CALLS: make ..: the component's first failing order -/
theorem n_canPutC {h hh : m_H} {k a d o kk m : Int} (X : n_R h kk) (C : n_scc h h k a) (o0 : 0 ≤ o) (o1 : o < m_g h 151 k) (v12 : m_g h (153 + k) o = 12) (st : n_stD h k d o) (F : n_cF h hh kk) (D : n_cP h hh k d o m) : t3_canPut 20 a o hh = some (n_rK h k d (n_L h k d) o, hh) := by
  have J := F.1
  have C3 := C.2.2.1
  have C' := n_cF_C X F C
  have b := n_scc_b C o0 o1
  have od := n_scc_o C' o0 o1
  obtain ⟨p1, p2, p3, p4, p5⟩ := n_putB b v12
  have k1 := n_okAll X.2.1 (N := m_g h 151 k) (fun z z0 z1 => n_scc_b C z0 z1) o.toNat (by omega) (fun z z0 z1 => st z z0 (by omega)) (m_g h (163 + k) o) p1.1 (by omega) p1.2.2
  obtain ⟨hw, e1, er, sw⟩ := n_wrow X F D p1.1 p1.2.1 (by omega) p1.2.2 k1
  have ta := n_scc_t C'
  have eK : n_rK h k d (n_L h k d) o = decide (m_g h (183 + k) o + (m_g h (213 + k) o - 1) * m_g h (223 + k) o + n_L h k d (m_g h (163 + k) o) ≤ 3000) := by unfold n_rK; rw [if_neg (by omega), if_neg (by omega), if_neg (by omega), if_neg (by omega), if_neg (by omega), if_neg (by omega), if_neg (by omega), if_pos v12]
  obtain ⟨l1, l2, -⟩ := k1
  have mq := n_mulq (j := m_g h (213 + k) o - 1) (x := m_g h (223 + k) o) (A := 8) (B := 999) (by omega) (by omega) p5.1 p5.2
  unfold t3_canPut
  rw [if_pos ta, n_cell J C' o0 o1 (by omega) (by omega), n_bs]
  dsimp only
  rw [if_pos ta, n_cell J C' o0 o1 (by omega) (by omega), n_bs]
  dsimp only
  rw [n_bs, if_pos ta, n_numC (w := 0) J C' o0 o1 (by omega) (by omega), n_bs]
  dsimp only
  rw [if_pos ta, n_oneC J C' o0 o1, n_bs]
  dsimp only
  rw [if_pos (n_t20 J.2), n_rowC J p1.1 (by omega), n_bs]
  dsimp only
  rw [if_pos hw, n_size hw, n_bs, e1]
  dsimp only
  rw [show 8 * o + (3 + (0 : Int)) = 8 * o + 3 by omega, od.2.2.2.1 (by omega), (od.2.2.2.2.2.2.1 v12).1, (od.2.2.2.2.2.2.1 v12).2, m_w_of (by omega) (by omega), eK]
  by_cases z : m_g h (183 + k) o + (m_g h (213 + k) o - 1) * m_g h (223 + k) o + n_L h k d (m_g h (163 + k) o) ≤ 3000
  · rw [if_neg (by omega), decide_eq_true z]
  · rw [if_pos (by omega), decide_eq_false z]
/-- the first order that fails: r is its number, or -1 -/
def n_ff (g : m_H) (k d r : Int) : Prop := (r = -1 ∧ n_stD g k d (m_g g 151 k)) ∨ ((0 ≤ r ∧ r < m_g g 151 k) ∧ n_stD g k d r ∧ n_rK g k d (n_L g k d) r = false)
theorem n_ff_u {g : m_H} {k d r s : Int} (A : n_ff g k d r) (B : n_ff g k d s) : r = s := by
  rcases A with ⟨a1, a2⟩ | ⟨a1, a2, a3⟩
  · rcases B with ⟨b1, b2⟩ | ⟨b1, b2, b3⟩
    · omega
    · rw [a2 s b1.1 b1.2] at b3; cases b3
  · rcases B with ⟨b1, b2⟩ | ⟨b1, b2, b3⟩
    · rw [b2 r a1.1 a1.2] at a3; cases a3
    · rcases Int.lt_trichotomy r s with c | c | c
      · rw [b2 r a1.1 c] at a3; cases a3
      · exact c
      · rw [a2 s b1.1 c] at b3; cases b3
theorem n_firstFailC {h : m_H} {k a d kk : Int} (X : n_R h kk) (C : n_scc h h k a) (d1 : -2147483648 ≤ d) (d2 : d < 2147483648) : ∀ (r : Nat) (o : Int) (hh : m_H), 0 ≤ o → o + r = m_g h 151 k → n_stD h k d o → n_cF h hh kk → n_cP h hh k d o o → ∃ z h', t3_firstFailing_c2 20 a d o hh = some (z, h') ∧ n_cF h h' kk ∧ n_ff h k d z ∧ (z = -1 → n_cP h h' k d (m_g h 151 k) (m_g h 151 k)) := by
  have C3 := C.2.2.1
  intro r
  induction r with
  | zero =>
    intro o hh o0 orr st F D
    have C' := n_cF_C X F C
    have e : o = m_g h 151 k := by omega
    refine ⟨-1, hh, ?_, F, Or.inl ⟨rfl, by rw [← e]; exact st⟩, fun _ => by rw [← e]; exact D⟩
    rw [t3_firstFailing_c2, if_pos (n_scc_t C'), C'.1.2.1, m_w_of (by omega) (by omega), m_w_of (by omega) (by omega), if_neg (by omega)]
  | succ r ih =>
    intro o hh o0 orr st F D
    have o1 : o < m_g h 151 k := by omega
    have C' := n_cF_C X F C
    have S' := n_cF_S X F
    have J := F.1
    have t24 := n_t24 J.2
    have l24 := n_l24 J.2
    have b := n_scc_b C o0 o1
    -- the lead is noted
    have J1 : n_I (m_p hh 24 o (n_sOf h k o d)) := n_I_pa J (Or.inl t24)
    have F1 : n_cF h (m_p hh 24 o (n_sOf h k o d)) kk := ⟨J1, n_kp_mono (n_kp_trans F.2.1 (n_kp_p (h := hh) (a := 24) (k := o) (v := n_sOf h k o d) (by omega)) X.1.1 n_no) (fun b hb => Or.inl (by simpa using hb)) (fun b hb => Or.inl (by simpa using hb)), n_bud_same J rfl (fun r hr => n_gp_n (fun z => by rw [z.1] at hr; omega)) F.2.2⟩
    have D1 : n_cP h (m_p hh 24 o (n_sOf h k o d)) k d o (o + 1) := by
      refine ⟨fun q q0 q1 qv => ?_, fun q q0 q1 => ?_⟩
      · have pq := n_prt J.2 q0 (show q < 40 by omega)
        have nz : m_g hh (26 + 2 * q) 0 ≠ 24 := (n_sfa J (a := 24) (by omega) (by omega) (Or.inr (by omega))).2.2 _ pq.1
        have rg : ∀ j, n_rg (m_p hh 24 o (n_sOf h k o d)) (26 + 2 * q) j = n_rg hh (26 + 2 * q) j := fun j => by
          have e : ∀ b, b ≠ 24 → m_g (m_p hh 24 o (n_sOf h k o d)) b = m_g hh b := fun b hb => funext fun i => n_gp_n (fun z => hb z.1)
          unfold n_rg
          rw [e (26 + 2 * q) (by omega), e _ nz]
        obtain ⟨d1, d2⟩ := D.1 q q0 q1 qv
        exact ⟨by rw [n_gp_n (by omega)]; exact d1, fun i i0 i1 => by rw [rg]; exact d2 i i0 i1⟩
      · by_cases c : q = o
        · rw [c, n_gp_y ⟨rfl, rfl⟩]
        · rw [n_gp_n (by omega)]; exact D.2 q q0 (by omega)
    have C1 := n_cF_C X F1 C
    have key : ∃ h', (if m_g h (153 + k) o = 12 then t3_canPut 20 a o (m_p hh 24 o (n_sOf h k o d)) else t3_fillRow 20 a o (m_p hh 24 o (n_sOf h k o d))) = some (n_rK h k d (n_L h k d) o, h') ∧ n_cF h h' kk ∧ (n_rK h k d (n_L h k d) o = true → n_cP h h' k d (o + 1) (o + 1)) := by
      by_cases v : m_g h (153 + k) o = 12
      · rw [if_pos v]
        refine ⟨_, n_canPutC X C o0 o1 v st F1 D1, F1, fun _ => ⟨fun q q0 q1 qv => D1.1 q q0 (by
          by_cases z : q = o
          · rw [z] at qv; exact absurd v qv
          · omega) qv, D1.2⟩⟩
      · rw [if_neg v]
        exact n_fillRowC X C o0 o1 v st F1 D1
    obtain ⟨h', e1, F2, D2⟩ := key
    have e0 : t3_firstFailing_c2 20 a d o hh = if n_rK h k d (n_L h k d) o = true then t3_firstFailing_c2 20 a d (o + 1) h' else some (o, h') := by
      rw [t3_firstFailing_c2, if_pos (n_scc_t C'), C'.1.2.1, m_w_of (x := o) (by omega) (by omega), m_w_of (x := m_g h 151 k) (by omega) (by omega), if_pos o1, if_pos (n_t20 J.2), n_ledC J S' X.2.1 C' o0 o1 d1 d2, n_bs]
      dsimp only
      rw [n_p20_3 J.2, n_setEntry_y t24 (by omega) o0 (by omega), n_bs]
      dsimp only
      generalize m_p hh 24 o (n_sOf h k o d) = h1 at *
      rw [if_pos (n_scc_t C1), n_isPutC J1 C1 o0 o1, n_bs]
      dsimp only
      by_cases v : m_g h (153 + k) o = 12
      · rw [if_pos v] at e1
        rw [decide_eq_true v, if_pos rfl, if_pos (n_t20 J1.2), e1, n_bs]
        dsimp only
        rw [n_bs]
        cases n_rK h k d (n_L h k d) o
        · rw [if_pos (by decide), if_neg (by decide)]
        · rw [if_neg (by decide), if_pos rfl]
      · rw [if_neg v] at e1
        rw [decide_eq_false v, if_neg (by decide), if_pos (n_t20 J1.2), e1, n_bs]
        dsimp only
        rw [n_bs]
        cases n_rK h k d (n_L h k d) o
        · rw [if_pos (by decide), if_neg (by decide)]
        · rw [if_neg (by decide), if_pos rfl]
    rw [e0]
    cases hK : n_rK h k d (n_L h k d) o
    · rw [if_neg (by decide)]
      exact ⟨o, h', rfl, F2, Or.inr ⟨⟨o0, o1⟩, st, hK⟩, fun z => by omega⟩
    · rw [if_pos rfl]
      exact ih (o + 1) h' (by omega) (by omega) (fun q q0 q1 => by
        by_cases c : q = o
        · rw [c]; exact hK
        · exact st q q0 (by omega)) F2 (D2 hK)
theorem n_failC {h : m_H} {k a d kk : Int} (X : n_R h kk) (C : n_scc h h k a) (d1 : -2147483648 ≤ d) (d2 : d < 2147483648) : ∃ z h', t3_firstFailing 20 a d h = some (z, h') ∧ n_cF h h' kk ∧ n_ff h k d z ∧ (z = -1 → n_cP h h' k d (m_g h 151 k) (m_g h 151 k)) := by
  have C3 := C.2.2.1
  exact n_firstFailC X C d1 d2 (m_g h 151 k).toNat 0 h (by omega) (by omega) (fun q q0 q1 => by omega) (n_cF_0 X) ⟨fun q q0 q1 => by omega, fun q q0 q1 => by omega⟩
