/-! CALLS: near, rivals: the reference's ways and strips -/
theorem n_wS {g g' : m_H} (e1 : ∀ j, m_g g' 128 j = m_g g 128 j) (e2 : ∀ j, m_g g' 130 j = m_g g 130 j) (e3 : ∀ j, m_g g' 131 j = m_g g 131 j) : n_wl g' = n_wl g ∧ n_wv g' = n_wv g := by
  have es : n_smp g' = n_smp g := by funext s j; unfold n_smp; rw [e1, e2]
  constructor
  · funext s w; unfold n_wl; rw [e3]
  · funext s w i; unfold n_wv; rw [es, e3]
def n_rI (g gg : m_H) (st : Int × Int × Int × Int × Int) : Prop := n_I gg ∧ n_kr g gg [149, 309] [86, 87, 88, 89, 90, 91] ∧ n_stR gg st
theorem n_isLaid {g : m_H} {s : Int} (I : n_I g) (c : 0 ≤ s ∧ s < 100) (b : 0 ≤ m_g g 133 s ∧ m_g g 133 s ≤ 2) : t11_isLaid 127 s g = some (decide (m_g g 133 s < 2), g) := by
  have l := n_l133 I.2
  unfold t11_isLaid
  rw [if_pos (n_t127 I.2), n_p127_5 I.2, m_w_of (x := s) (by omega) (by omega), if_pos ⟨n_t133 I.2, by omega, by omega⟩, m_w_of (by omega) (by omega)]
  by_cases d : m_g g 133 s < 2
  · rw [if_pos d, decide_eq_true d]
  · rw [if_neg d, decide_eq_false d]
theorem n_rways {g : m_H} {t n m s : Int} (G : n_gs g) (T : n_Rtape g g) (c : 0 ≤ s ∧ s < m_g g 127 14) (d : m_g g 133 s < 2) (n1 : 1 ≤ n) (n2 : n ≤ 100) (t0 : 0 ≤ t) (t1 : t + n ≤ m_g g 127 85) (m0 : 0 ≤ m) (m1 : m ≤ 65535) : ∀ (kk : Nat) (w : Int) (gg : m_H) (st : Int × Int × Int × Int × Int), 0 ≤ w → w + kk = 4 → n_rI g gg st → n_okS st → st.1 + 600 * kk ≤ 900000 → ∃ g2, t11_nears_x32 44 127 t n m s w 0 0 gg = t11_nears_x32 32 127 t n m (s + 1) 0 0 0 g2 ∧ n_rI g g2 (n_wysF g t n m s kk w st) ∧ n_okS (n_wysF g t n m s kk w st) ∧ (n_wysF g t n m s kk w st).1 ≤ st.1 + 600 * kk := by
  have b := G.2.1 s c.1 c.2
  unfold n_strB at b
  have B := G.1.2.1
  have W := fun w => n_wl_1 G c w
  have T3 := T.2.2.1
  intro kk
  induction kk with
  | zero =>
    intro w gg st w0 wk C ok cb
    refine ⟨gg, ?_, C, ok, by show st.1 ≤ _; omega⟩
    rw [t11_nears_x32, if_neg (by omega), if_pos rfl, m_w_of (by omega) (by omega), if_neg (by omega)]
  | succ kk ih =>
    intro w gg st w0 wk C ok cb
    obtain ⟨J, K, Q⟩ := C
    have A := fun b j (h1 : b ≠ 149) (h2 : b ≠ 309) (h3 : b ≠ 127) => K.2.2 b j (by simp; exact ⟨h1, h2⟩) (fun q => h3 q.1)
    have e14 : m_g gg 127 14 = m_g g 127 14 := K.2.2 127 14 (by decide) (by simp)
    obtain ⟨el, ev⟩ := n_wS (g := g) (g' := gg) (fun j => A 128 j (by decide) (by decide) (by decide)) (fun j => A 130 j (by decide) (by decide) (by decide)) (fun j => A 131 j (by decide) (by decide) (by decide))
    have G2 : n_gs gg := n_gs_kr G K ⟨by decide, by decide⟩
    have r133 := A 133 s (by decide) (by decide) (by decide)
    have eL := n_isLaid (g := gg) (s := s) J (by omega) (by omega)
    rw [r133, decide_eq_true d] at eL
    have eG := n_gives (g := gg) (s := s) (w := w) J G2 (by omega) w0 (by omega)
    have K1 := n_gv_kr gg s w
    have I1 := n_gv_I J s w
    have A1 := fun b j (h1 : b ≠ 149) (h2 : b ≠ 309) (h3 : b ≠ 127) => K1.2.2 b j (by simp; exact ⟨h1, h2⟩) (fun q => h3 q.1)
    have F1 : ∀ j, j ≠ 86 → m_g (n_gv gg s w) 127 j = m_g gg 127 j := fun j hj => K1.2.2 127 j (by decide) (by simp; exact hj)
    have Q1 : n_stR (n_gv gg s w) st := by
      unfold n_stR at *
      rw [F1 91 (by decide), F1 87 (by decide), F1 88 (by decide), F1 89 (by decide), F1 90 (by decide)]
      exact Q
    have e309 : ∀ j, 0 ≤ j → j < n_wl g s w → m_g (n_gv gg s w) 309 j = n_wv g s w j := fun j j1 j2 => by rw [n_gv_309 j1 (by rw [el]; exact j2), ev]
    have e86 : m_g (n_gv gg s w) 127 86 = n_wl g s w := by rw [n_gv_86, el]
    have e308 : ∀ j, m_g (n_gv gg s w) 308 j = m_g g 308 j := fun j => by rw [A1 308 j (by decide) (by decide) (by decide), A 308 j (by decide) (by decide) (by decide)]
    have Ww := W w
    obtain ⟨h2, x1, I2, Q2, x2, x3, x4⟩ := n_rway (N := n_wl g s w) (n := n) (t := t) (m := m) (s := s) (w := w) (T := m_g g 308) (V := n_wv g s w) n1 n2 (W w).1 (W w).2 t0 (by omega) m0 m1 (fun j j1 j2 => (T.2.2.2 (t + j) (by omega) (by omega)).2) (fun j j1 j2 => n_wv_b G c j1 j2) (max 0 (n_wl g s w - n + 1)).toNat 0 (n_gv gg s w) st I1 e86 (fun j j1 j2 => e308 _) e309 (by omega) (by omega) Q1 ok.1 (by omega) ok.2
    have K2 : n_kr g h2 [149, 309] [86, 87, 88, 89, 90, 91] := ⟨x2.trans (K1.1.trans K.1), by decide, fun b j h1 h2' => by
      by_cases hb : b = 127
      · subst hb
        have hj : j ≠ 86 ∧ (j < 87 ∨ 91 < j) := by
          simp at h2'
          omega
        rw [x4 j hj.2, F1 j hj.1]
        exact K.2.2 127 j h1 h2'
      · simp at h1
        rw [x3 b j hb, A1 b j h1.1 h1.2 hb]
        exact A b j h1.1 h1.2 hb⟩
    obtain ⟨ok2, c2⟩ := n_wayF_ok (m := m) (w := w) G T c n1 n2 t0 t1 ok
    obtain ⟨h3, e3, C3, ok3, c3⟩ := ih (w + 1) h2 (n_wayF g t n m s w st) (by omega) (by omega) ⟨I2, K2, Q2⟩ ok2 (by omega)
    refine ⟨h3, ?_, C3, ok3, by show (n_wysF g t n m s kk (w + 1) (n_wayF g t n m s w st)).1 ≤ _; omega⟩
    rw [t11_nears_x32, if_neg (by omega), if_pos rfl, m_w_of (by omega) (by omega), if_pos (by omega), if_pos (n_t127 J.2), eL, n_bs]
    show (if true = true then if m_t gg 127 = 11 then t11_gives 127 s w gg >>= _ else none else _) = _
    rw [if_pos rfl, if_pos (n_t127 J.2), eG, n_bs]
    exact x1.trans e3
