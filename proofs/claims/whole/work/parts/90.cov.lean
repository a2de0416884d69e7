/-! CALLS: remade, stretch, unfound: both covers, whole; what they leave -/
def n_mE2 (h hh : m_H) (k m : Int) : Prop := n_I hh ∧ n_kp h hh [121, 124, 125, 126] [122] ∧ n_bud hh k ∧ (∀ j, j < 11 ∨ 12 < j → m_g hh 121 j = m_g h 121 j) ∧ m_g hh 121 11 = m ∧ m_g hh 121 12 = m_g h 2 11 ∧ ∀ t, 0 ≤ t → t < m_g h 127 85 → n_isL h m t (m_g hh 124 t)
theorem n_mE_2 {h hh : m_H} {k m : Int} (C : n_mE h hh k m) : n_mE2 h hh k m := by
  obtain ⟨c1, c2, c3⟩ := C
  exact ⟨c1, n_kp_mono c2 (fun b hb => Or.inl (by simp at hb ⊢; omega)) (fun b hb => Or.inl hb), c3⟩
theorem n_mE2_P {h hh g2 : m_H} {k m : Int} (I : n_I h) (C : n_mE2 h hh k m) (KR : n_kr hh g2 [149, 309, 310, 311] [86]) : n_sp h g2 [121, 124, 125, 126] [122] [149, 309, 310, 311] [86] := by
  have t1 := n_t121 I.2
  have t4 := n_t124 I.2
  have l4 := n_l124 I.2
  have t5 := n_t125 I.2
  have l5 := n_l125 I.2
  have t6 := n_t126 I.2
  have l6 := n_l126 I.2
  exact n_sp_of I C.2.1 KR (fun b hb => by
    simp at hb
    rcases hb with e | e | e | e <;> rw [e]
    · exact ⟨n_sfa I (by omega) (by omega) (Or.inl (by omega)), Or.inl (by omega)⟩
    · exact ⟨n_sfa I (by omega) (by omega) (Or.inr (by omega)), Or.inl (by omega)⟩
    · exact ⟨n_sfa I (by omega) (by omega) (Or.inr (by omega)), Or.inl (by omega)⟩
    · exact ⟨n_sfa I (by omega) (by omega) (Or.inr (by omega)), Or.inl (by omega)⟩) (n_in1 (n_t122 I.2))
theorem n_finM {h hh g2 : m_H} {k m : Int} (X : n_R h k) (C : n_mE2 h hh k m) (m0 : 0 ≤ m) (m1 : m ≤ 65535) (KR : n_kr hh g2 [149, 309, 310, 311] [86]) : n_R g2 (k + 1) ∧ ∀ t L, n_isL h m t L → n_isL g2 m t L := by
  have X' := X
  obtain ⟨I, gs, bud, x1, x2, x3, x4, x5, x6, x7⟩ := X'
  have P := n_mE2_P I C KR
  obtain ⟨J, K, Bu, F, E1, E2, Q⟩ := C
  have nos : n_nos [149, 309, 310, 311] [86] := ⟨by decide, by decide⟩
  obtain ⟨g0, g1, g2', g3, g4, g5, g6, g7⟩ := n_fr X P
  have e2 := (n_sp_cell P (n_sf2 I) (by omega) (by decide)).1
  have a := fun b hb j => n_nos_a P nos (b := b) hb j
  have iL : ∀ t L, n_isL h m t L → n_isL g2 m t L := fun t L q => n_isL_S (n_sp_f P (by decide)) (n_sp_f P (by decide)) (n_sp_a P (by omega) (by omega) (by decide)) (a 128 (by omega)) (a 130 (by omega)) (a 131 (by omega)) (a 133 (by omega)) q
  have I2 : n_I g2 := n_kr_I J KR (fun b hb => by
    simp at hb
    rcases hb with e | e | e | e <;> rw [e]
    · exact Or.inl (n_t149 J.2)
    · exact Or.inl (n_t309 J.2)
    · exact Or.inl (n_t310 J.2)
    · exact Or.inl (n_t311 J.2)) rfl
  have t1 := n_t121 I.2
  have t4 := n_t124 I.2
  have t5 := n_t125 I.2
  have t6 := n_t126 I.2
  have RM : n_Rm g2 g2 (k + 1) := by
    obtain ⟨y1, y2, y3, y4, y5, y6⟩ := x7
    unfold n_Rm
    rw [n_kr_comp KR (b := 121) (by omega), n_kr_comp KR (b := 121) (by omega), E1, E2, e2]
    refine ⟨by omega, m1, by omega, Int.le_refl _, by omega, fun _ _ t t0 t1 => ?_⟩
    rw [n_sp_f P (by decide)] at t1
    rw [n_kr_comp KR (b := 124) (by omega)]
    exact iL t _ (Q t t0 t1)
  refine ⟨⟨I2, g0 nos, n_bud_more (n_bud_same J KR.1 (fun r hr => n_kr_comp KR (n_ref_row J hr).1 0) Bu), g1 (by decide) (by decide) (by decide), g2' (by decide) (by decide) (by decide), g3 nos (fun b hb => ?_) (n_in1 (by omega)), g4 (by decide) (by decide) (by decide) (by decide), g5 (by decide) (by decide) (fun b hb => ?_), g6 (by decide) (by decide) (by decide) (by decide) (by decide) (by decide) (fun b hb => ?_) (by decide), RM⟩, iL⟩
  · simp at hb
    rcases hb with e | e | e | e <;> rw [e] <;> exact ⟨Or.inr (by omega), by omega, by omega⟩
  · simp at hb
    rcases hb with e | e | e | e <;> rw [e] <;> exact ⟨by omega, by omega, Or.inl (by omega)⟩
  · simp at hb
    omega
theorem n_covC {h : m_H} {w m k : Int} (X : n_R h k) (k1 : k ≤ 1000) (w1 : 1 ≤ w) (w2 : w ≤ 100) (m0 : 0 ≤ m) (m1 : m ≤ 65535) : ∃ h2, t1_coveredBy 121 w m h = some (decide (n_tabN (m_g h2 124) w (m_g h 127 85) 1000000 (m_g h 127 85).toNat 0 < 1000000), h2) ∧ n_mE2 h h2 k m ∧ ∀ j, 0 ≤ j → j ≤ m_g h 127 85 → m_g h2 125 j = n_tabN (m_g h2 124) w (m_g h 127 85) 1000000 (m_g h 127 85).toNat j := by
  have X' := X
  obtain ⟨I, gs, bud, x1, x2, x3, x4, x5, x6, x7⟩ := X'
  have T3 := x2.2
  obtain ⟨hh, em, C⟩ := n_measure (m := m) I x3 gs x2 x7 bud k1 m0 m1
  have C2 := n_mE_2 C
  have P := n_mE2_P I C2 (n_kr_mono n_kr_rfl n_no n_no (by decide))
  obtain ⟨J, K, Bu, F, E1, E2, Q⟩ := C
  have Lb : ∀ t, 0 ≤ t → t < m_g h 127 85 → 0 ≤ m_g hh 124 t ∧ m_g hh 124 t ≤ m_g h 127 85 - t := fun t t0 t1 => n_isQ_b (Q := n_lay h) (Q t t0 t1) (by omega)
  have r119 := n_sp_row I P (n_t119 I.2) (by decide)
  have eN : m_g hh 119 1 = m_g h 127 85 := r119.2.2.1.trans x2.1
  have l5 := n_l125 J.2
  have J1 : n_I (m_p hh 125 (m_g h 127 85) 0) := n_I_pa J (Or.inl (n_t125 J.2))
  obtain ⟨h', a1, a2, a3, a4, a5⟩ := n_cout (w := w) (N := m_g h 127 85) (n := (m_g h 127 85).toNat) (L := m_g hh 124) (by omega) (by omega) w1 w2 Lb (m_g h 127 85).toNat (m_p hh 125 (m_g h 127 85) 0) J1 (Nat.le_refl _) (fun t t0 t1 => n_gp_n (by omega)) (fun j j1 j2 => by
    rw [Nat.sub_self]
    exact n_gp_y ⟨rfl, by omega⟩)
  have e124 : m_g h' 124 = m_g hh 124 := funext fun j => (a4 124 j (by omega)).trans (n_gp_n (by omega))
  have K2 : n_kp hh h' [125] [] := ⟨fun b _ => ⟨n_e2t a3 b, n_e2l a3 b⟩, by rw [n_e2n a3]; exact Int.le_refl _, fun b hb q _ _ j => (a4 b j (by simpa using q)).trans (n_gp_n (by simp at q; omega)), fun r hr => Or.inl ((a4 r 0 (fun e => by rw [e, n_t125 J.2] at hr; omega)).trans (n_gp_n (fun e => by rw [e.1, n_t125 J.2] at hr; omega)))⟩
  have oth : ∀ b j, b ≠ 125 → m_g h' b j = m_g hh b j := fun b j hb => (a4 b j hb).trans (n_gp_n (by omega))
  refine ⟨h', ?_, ⟨a2, n_kp_mono (n_kp_trans C2.2.1 K2 I.1 n_no) (fun b hb => Or.inl (by simp at hb ⊢; omega)) (fun b hb => Or.inl (by simpa using hb)), n_bud_same J a3 (fun r hr => oth r 0 (fun e => by rw [e, n_t125 J.2] at hr; omega)) Bu, fun j hj => (oth 121 j (by omega)).trans (F j hj), (oth 121 11 (by omega)).trans E1, (oth 121 12 (by omega)).trans E2, fun t t0 t1 => by rw [oth 124 t (by omega)]; exact Q t t0 t1⟩, fun j j0 j1 => by rw [e124]; exact a5 j j0 j1⟩
  rw [e124, ← a1]
  unfold t1_coveredBy
  rw [n_isAsked (by omega) (by omega) (by omega) (by omega), decide_eq_true ⟨⟨w1, w2⟩, m0, m1⟩, n_bs]
  show (if true = true then if m_t h 121 = 1 then t1_measure 121 m h >>= _ else none else _) = _
  rw [if_pos rfl, if_pos (n_t121 I.2), em, n_bs]
  show (if m_t hh 121 = 1 then if m_t hh (m_g hh 121 1) = 5 then t5_size (m_g hh 121 1) hh >>= _ else none else none) = _
  rw [if_pos (n_t121 J.2), n_p121_1 J.2, if_pos (n_t119 J.2), n_size (n_t119 J.2), n_bs, eN, n_p121_9 J.2]
  show (t10_setEntry 125 (m_g h 127 85) 0 hh >>= _) = _
  rw [n_setEntry_y (n_t125 J.2) (by omega) (by omega) (by omega), n_bs]
  have eN1 : m_g (m_p hh 125 (m_g h 127 85) 0) 119 1 = m_g h 127 85 := by rw [n_gp_n (by omega)]; exact eN
  generalize m_p hh 125 (m_g h 127 85) 0 = h9 at *
  show (if m_t h9 121 = 1 then if m_t h9 (m_g h9 121 1) = 5 then t5_size (m_g h9 121 1) h9 >>= _ else none else none) = _
  rw [if_pos (n_t121 J1.2), n_p121_1 J1.2, if_pos (n_t119 J1.2), n_size (n_t119 J1.2), n_bs, eN1, show ((m_g h 127 85).toNat : Int) = m_g h 127 85 by omega]
  rfl
theorem n_covR {g : m_H} {w m : Int} {L : Int → Int} (I : n_I g) (G : n_gs g) (T : n_Rtape g g) (w1 : 1 ≤ w) (w2 : w ≤ 100) (m0 : 0 ≤ m) (m1 : m ≤ 65535) (hL : ∀ t, 0 ≤ t → t < m_g g 127 85 → n_isL g m t (L t)) : ∃ g2, t11_covers 127 w m g = some (decide (n_tabN L w (m_g g 127 85) 1001 (m_g g 127 85).toNat 0 ≤ 1000), g2) ∧ n_I g2 ∧ n_kr g g2 [149, 309, 310, 311] [86] ∧ (∀ t, 0 ≤ t → t < m_g g 127 85 → m_g g2 310 t = L t) ∧ m_g g2 310 (m_g g 127 85) = 0 ∧ ∀ j, 0 ≤ j → j ≤ m_g g 127 85 → m_g g2 311 j = n_tabN L w (m_g g 127 85) 1001 (m_g g 127 85).toNat j := by
  have T3 := T.2
  obtain ⟨gg, el, J, K, Q, Q0⟩ := n_longest (m := m) I G T m0 m1
  have e85 : m_g gg 127 85 = m_g g 127 85 := K.2.2 127 85 (by decide) (by simp)
  have l1 := n_l311 J.2
  have Lb : ∀ t, 0 ≤ t → t < m_g g 127 85 → 0 ≤ L t ∧ L t ≤ m_g g 127 85 - t := fun t t0 t1 => n_isQ_b (Q := n_lay g) (hL t t0 t1) (by omega)
  have J1 : n_I (m_p gg 311 (m_g g 127 85) 0) := n_I_pa J (Or.inl (n_t311 J.2))
  have e310 : ∀ t, 0 ≤ t → t < m_g g 127 85 → m_g gg 310 t = L t := fun t t0 t1 => n_isL_eq (Q t t0 t1) (hL t t0 t1)
  obtain ⟨g2, a1, a2, a3, a4, a5⟩ := n_rout (w := w) (N := m_g g 127 85) (n := (m_g g 127 85).toNat) (L := L) (by omega) (by omega) w1 w2 Lb (m_g g 127 85).toNat (m_p gg 311 (m_g g 127 85) 0) J1 (Nat.le_refl _) (fun t t0 t1 => (n_gp_n (by omega)).trans (e310 t t0 t1)) (fun j j1 j2 => by
    rw [Nat.sub_self]
    exact n_gp_y ⟨rfl, by omega⟩)
  have oth : ∀ b j, b ≠ 311 → m_g g2 b j = m_g gg b j := fun b j hb => (a4 b j hb).trans (n_gp_n (by omega))
  refine ⟨g2, ?_, a2, ⟨a3.trans K.1, by decide, fun b j q1 q2 => ?_⟩, fun t t0 t1 => (oth 310 t (by omega)).trans (e310 t t0 t1), (oth 310 _ (by omega)).trans Q0, a5⟩
  · rw [← a1]
    unfold t11_covers
    rw [n_canAsk (by omega) (by omega) (by omega) (by omega), decide_eq_true ⟨⟨w1, w2⟩, m0, m1⟩, n_bs]
    show (if true = true then if m_t g 127 = 11 then t11_longest 127 m g >>= _ else none else _) = _
    rw [if_pos rfl, if_pos (n_t127 I.2), el, n_bs]
    show (if m_t gg 127 = 11 then if m_t gg (m_g gg 127 84) = 20 ∧ 0 ≤ m_w (m_g gg 127 85) ∧ m_w (m_g gg 127 85) < m_l gg (m_g gg 127 84) then some (m_p gg (m_g gg 127 84) (m_w (m_g gg 127 85)) 0) >>= _ else none else none) = _
    rw [if_pos (n_t127 J.2), n_p127_84 J.2, e85, m_w_of (by omega) (by omega), if_pos ⟨n_t311 J.2, by omega, by omega⟩, n_bs, if_pos (n_t127 J1.2), n_gp_n (by omega), e85, n_bs, show ((m_g g 127 85).toNat : Int) = m_g g 127 85 by omega]
  · simp at q1
    rw [oth b j q1.2.2.2]
    exact K.2.2 b j (by simp; exact ⟨q1.1, q1.2.1, q1.2.2.1⟩) q2
