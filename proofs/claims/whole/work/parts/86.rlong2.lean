/-! CALLS: remade, stretch, unfound: the reference's longest runs, all ways and strips -/
def n_rLI (g gg : m_H) (m s w : Int) : Prop := n_I gg ∧ n_kr g gg [149, 309, 310] [86] ∧ (∀ t, 0 ≤ t → t < m_g g 127 85 → n_isQ g m t (n_QD g s w) (m_g gg 310 t)) ∧ m_g gg 310 (m_g g 127 85) = 0
theorem n_rlw {g : m_H} {m s : Int} (G : n_gs g) (T : n_Rtape g g) (c : 0 ≤ s ∧ s < m_g g 127 14) (d : m_g g 133 s < 2) (m0 : 0 ≤ m) (m1 : m ≤ 65535) : ∀ (kk : Nat) (w : Int) (gg : m_H), 0 ≤ w → w + kk = 4 → n_rLI g gg m s w → ∃ g2, t11_longest_x25 35 127 m s w 0 0 0 gg = t11_longest_x25 25 127 m (s + 1) 0 0 0 0 g2 ∧ n_rLI g g2 m s 4 := by
  have b := G.2.1 s c.1 c.2
  unfold n_strB at b
  have B := G.1.2.1
  have W := fun w => n_wl_1 G c w
  have W2 := fun w => n_wl_599 G c w
  have T3 := T.2
  intro kk
  induction kk with
  | zero =>
    intro w gg w0 wk C
    have e : w = 4 := by omega
    subst e
    refine ⟨gg, ?_, C⟩
    rw [t11_longest_x25, if_neg (by omega), if_pos rfl, m_w_of (by omega) (by omega), if_neg (by omega)]
  | succ kk ih =>
    intro w gg w0 wk C
    obtain ⟨J, K, Q, Q0⟩ := C
    have A := fun b j (h1 : b ≠ 149) (h2 : b ≠ 309) (h3 : b ≠ 127) (h4 : b ≠ 310) => K.2.2 b j (by simp; exact ⟨h1, h2, h4⟩) (fun q => h3 q.1)
    have e14 : m_g gg 127 14 = m_g g 127 14 := K.2.2 127 14 (by decide) (by simp)
    have e85 : m_g gg 127 85 = m_g g 127 85 := K.2.2 127 85 (by decide) (by simp)
    obtain ⟨el, ev⟩ := n_wS (g := g) (g' := gg) (fun j => A 128 j (by decide) (by decide) (by decide) (by decide)) (fun j => A 130 j (by decide) (by decide) (by decide) (by decide)) (fun j => A 131 j (by decide) (by decide) (by decide) (by decide))
    have G2 : n_gs gg := n_gs_kr G K ⟨by decide, by decide⟩
    have r133 := A 133 s (by decide) (by decide) (by decide) (by decide)
    have eL := n_isLaid (g := gg) (s := s) J (by omega) (by omega)
    rw [r133, decide_eq_true d] at eL
    have eG := n_gives (g := gg) (s := s) (w := w) J G2 (by omega) w0 (by omega)
    have K1 := n_gv_kr gg s w
    have I1 := n_gv_I J s w
    have A1 := fun b j (h1 : b ≠ 149) (h2 : b ≠ 309) (h3 : b ≠ 127) => K1.2.2 b j (by simp; exact ⟨h1, h2⟩) (fun q => h3 q.1)
    have F1 : ∀ j, j ≠ 86 → m_g (n_gv gg s w) 127 j = m_g gg 127 j := fun j hj => K1.2.2 127 j (by decide) (by simp; exact hj)
    have e309 : ∀ j, 0 ≤ j → j < n_wl g s w → m_g (n_gv gg s w) 309 j = n_wv g s w j := fun j j1 j2 => by rw [n_gv_309 j1 (by rw [el]; exact j2), ev]
    have e86 : m_g (n_gv gg s w) 127 86 = n_wl g s w := by rw [n_gv_86, el]
    have e308 : ∀ j, m_g (n_gv gg s w) 308 j = m_g g 308 j := fun j => by rw [A1 308 j (by decide) (by decide) (by decide), A 308 j (by decide) (by decide) (by decide) (by decide)]
    have e310 : ∀ j, m_g (n_gv gg s w) 310 j = m_g gg 310 j := fun j => A1 310 j (by decide) (by decide) (by decide)
    have Ww := W w
    obtain ⟨h2, x1, x2, x3, x4, x5, x6⟩ := n_rdiags (g := g) (m := m) (s := s) (w := w) (W2 w) (W w).1 (by omega) (by omega) m0 m1 c.1 d w0 (by omega) (fun t t1 t2 => (T.2.2.2 t t1 t2).2) (fun j j1 j2 => n_wv_b G c j1 j2) (m_g g 127 85 - (1 - n_wl g s w)).toNat (1 - n_wl g s w) (n_gv gg s w) ⟨I1, (F1 85 (by decide)).trans e85, e86, e308, e309⟩ (by omega) (by omega) (fun t t1 t2 => by rw [e310]; exact n_QB_begin (Q t t1 t2) t1)
    have K2 : n_kr g h2 [149, 309, 310] [86] := ⟨x3.trans (K1.1.trans K.1), by decide, fun b j h1 h2' => by
      simp at h1
      rw [x4 b j h1.2.2]
      by_cases hb : b = 127
      · subst hb
        have hj : j ≠ 86 := by simp at h2'; exact h2'
        rw [F1 j hj]
        exact K.2.2 127 j (by decide) h2'
      · rw [A1 b j h1.1 h1.2.1 hb]
        exact A b j h1.1 h1.2.1 hb h1.2.2⟩
    obtain ⟨h3, e3, C3⟩ := ih (w + 1) h2 (by omega) (by omega) ⟨x2.1, K2, x6, by rw [x5 _ (Or.inr (Int.le_refl _)), e310]; exact Q0⟩
    refine ⟨h3, ?_, C3⟩
    rw [t11_longest_x25, if_neg (by omega), if_pos rfl, m_w_of (by omega) (by omega), if_pos (by omega), if_pos (n_t127 J.2), eL, n_bs]
    show (if true = true then if m_t gg 127 = 11 then t11_gives 127 s w gg >>= _ else none else _) = _
    rw [if_pos rfl, if_pos (n_t127 J.2), eG, n_bs]
    show (if m_t (n_gv gg s w) 127 = 11 then some (1 - m_g (n_gv gg s w) 127 86) >>= _ else none) = _
    rw [if_pos (n_t127 I1.2), e86, n_bs]
    exact x1.trans e3
theorem n_rls {g : m_H} {m : Int} (G : n_gs g) (T : n_Rtape g g) (m0 : 0 ≤ m) (m1 : m ≤ 65535) : ∀ (kk : Nat) (s : Int) (gg : m_H), 0 ≤ s → s + kk = m_g g 127 14 → n_rLI g gg m s 0 → ∃ g2, t11_longest_x25 25 127 m s 0 0 0 0 gg = some ((), g2) ∧ n_rLI g g2 m (m_g g 127 14) 0 := by
  have B := G.1.2.1
  intro kk
  induction kk with
  | zero =>
    intro s gg s0 sk C
    have es : s = m_g g 127 14 := by omega
    have C' := C
    obtain ⟨J, K, Q⟩ := C'
    have e14 : m_g gg 127 14 = m_g g 127 14 := K.2.2 127 14 (by decide) (by simp)
    refine ⟨gg, ?_, by rw [← es]; exact C⟩
    rw [t11_longest_x25, if_pos rfl, if_pos (n_t127 J.2), e14, if_neg (by rw [m_w_of (by omega) (by omega), m_w_of (by omega) (by omega)]; omega)]
  | succ kk ih =>
    intro s gg s0 sk C
    have c : 0 ≤ s ∧ s < m_g g 127 14 := ⟨s0, by omega⟩
    have b := G.2.1 s c.1 c.2
    unfold n_strB at b
    have C' := C
    obtain ⟨J, K, Q, Q0⟩ := C'
    have e14 : m_g gg 127 14 = m_g g 127 14 := K.2.2 127 14 (by decide) (by simp)
    have r133 : m_g gg 133 s = m_g g 133 s := K.2.2 133 s (by decide) (by simp)
    have e25 : t11_longest_x25 25 127 m s 0 0 0 0 gg = t11_longest_x25 35 127 m s 0 0 0 0 gg := by
      rw [t11_longest_x25, if_pos rfl, if_pos (n_t127 J.2), e14, if_pos (by rw [m_w_of (by omega) (by omega), m_w_of (by omega) (by omega)]; omega)]
    rw [e25]
    by_cases d : m_g g 133 s < 2
    · obtain ⟨h2, e2, C2⟩ := n_rlw (m := m) G T c d m0 m1 4 0 gg (by omega) (by omega) C
      obtain ⟨h3, e3', C3⟩ := ih (s + 1) h2 (by omega) (by omega) ⟨C2.1, C2.2.1, fun t t1 t2 => n_QD_strip (C2.2.2.1 t t1 t2), C2.2.2.2⟩
      exact ⟨h3, e2.trans e3', C3⟩
    · obtain ⟨h3, e3', C3⟩ := ih (s + 1) gg (by omega) (by omega) ⟨J, K, fun t t1 t2 => n_QD_lost (Q t t1 t2) d, Q0⟩
      refine ⟨h3, ?_, C3⟩
      have eL := n_isLaid (g := gg) (s := s) J (by omega) (by omega)
      rw [r133, decide_eq_false d] at eL
      rw [t11_longest_x25, if_neg (by omega), if_pos rfl, m_w_of (by omega) (by omega), if_pos (by omega), if_pos (n_t127 J.2), eL, n_bs]
      exact e3'
theorem n_longest {g : m_H} {m : Int} (I : n_I g) (G : n_gs g) (T : n_Rtape g g) (m0 : 0 ≤ m) (m1 : m ≤ 65535) : ∃ g2, t11_longest 127 m g = some ((), g2) ∧ n_I g2 ∧ n_kr g g2 [149, 309, 310] [86] ∧ (∀ t, 0 ≤ t → t < m_g g 127 85 → n_isL g m t (m_g g2 310 t)) ∧ m_g g2 310 (m_g g 127 85) = 0 := by
  have T3 := T.2
  have B := G.1
  unfold n_shB at B
  have tA := n_t310 I.2
  have lA := n_l310 I.2
  have key := n_fill (fun i h => t11_longest_c2 127 m i h) (h := g) (a := 310) (lo := 0) (n := m_g g 127 85 + 1) (fun _ => 0) (by omega) (fun i i1 i2 => by
    show t11_longest_c2 127 m i _ = t11_longest_c2 127 m (i + 1) _
    have J : n_I (n_fl g 310 0 i (fun _ => 0)) := n_I_fl I (Or.inl tA)
    have e85 : m_g (n_fl g 310 0 i (fun _ => 0)) 127 85 = m_g g 127 85 := by rw [n_g_fl, if_neg (by omega)]
    rw [t11_longest_c2]
    generalize n_fl g 310 0 i (fun _ => 0) = hi at *
    rw [if_pos (n_t127 J.2), e85, m_w_of (by omega) (by omega), m_w_of (by omega) (by omega), if_neg (by omega), n_p127_83 J.2, if_pos ⟨n_t310 J.2, by omega, by have := n_l310 J.2; omega⟩, n_bs])
  have J : n_I (n_fl g 310 0 (m_g g 127 85 + 1) (fun _ => 0)) := n_I_fl I (Or.inl tA)
  have e85 : m_g (n_fl g 310 0 (m_g g 127 85 + 1) (fun _ => 0)) 127 85 = m_g g 127 85 := by rw [n_g_fl, if_neg (by omega)]
  have K : n_kr g (n_fl g 310 0 (m_g g 127 85 + 1) (fun _ => 0)) [149, 309, 310] [86] := n_kr_mono (n_kr_fl (by omega) (by omega)) (fun b hb => by simp at hb ⊢; omega) n_no (by decide)
  obtain ⟨g2, e2, C⟩ := n_rls G T m0 m1 (m_g g 127 14).toNat 0 (n_fl g 310 0 (m_g g 127 85 + 1) (fun _ => 0)) (by omega) (by omega) ⟨J, K, fun t t1 t2 => by rw [n_g_fl, if_pos ⟨rfl, t1, by omega⟩]; exact n_QD_0, by rw [n_g_fl, if_pos ⟨rfl, by omega, by omega⟩]⟩
  refine ⟨g2, ?_, C.1, C.2.1, fun t t1 t2 => n_QD_all (C.2.2.1 t t1 t2), C.2.2.2⟩
  unfold t11_longest
  refine key.trans ?_
  show t11_longest_c2 127 m (m_g g 127 85 + 1) _ = _
  rw [t11_longest_c2, if_pos (n_t127 J.2), e85, m_w_of (by omega) (by omega), m_w_of (by omega) (by omega), if_pos (by omega)]
  exact e2
