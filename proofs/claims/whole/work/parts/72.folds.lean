/-! CALLS: near, rivals: the component's ways and strips -/
def n_wysF (g : m_H) (t n m s : Int) : Nat → Int → Int × Int × Int × Int × Int → Int × Int × Int × Int × Int
  | 0, _, st => st
  | k + 1, w, st => n_wysF g t n m s k (w + 1) (n_wayF g t n m s w st)
def n_stsF (g : m_H) (t n m : Int) : Nat → Int → Int × Int × Int × Int × Int → Int × Int × Int × Int × Int
  | 0, _, st => st
  | k + 1, s, st => n_stsF g t n m k (s + 1) (if m_g g 133 s < 2 then n_wysF g t n m s 4 0 st else st)
def n_cI (h hh : m_H) (k : Int) (st : Int × Int × Int × Int × Int) : Prop := n_I hh ∧ n_kp h hh [121] [122] ∧ n_bud hh k ∧ (∀ j, j < 3 ∨ 7 < j → m_g hh 121 j = m_g h 121 j) ∧ n_stC hh st
theorem n_ways {h : m_H} {t n m s k : Int} (I : n_I h) (S : n_Rsh h h) (G : n_gs h) (T : n_Rtape h h) (c : 0 ≤ s ∧ s < m_g h 127 14) (n1 : 1 ≤ n) (n2 : n ≤ 100) (t0 : 0 ≤ t) (t1 : t + n ≤ m_g h 127 85) (m0 : 0 ≤ m) (m1 : m ≤ 65535) : ∀ (kk : Nat) (w : Int) (hh : m_H) (st : Int × Int × Int × Int × Int), 0 ≤ w → w + kk = 4 → n_cI h hh k st → n_okS st → st.1 + 600 * kk ≤ 900000 → ∃ h2, t1_search_x35 58 121 t n m s (m_g h (m_g h 3 s) 3) w hh = t1_search_x35 35 121 t n m (s + 1) 0 0 h2 ∧ n_cI h h2 k (n_wysF h t n m s kk w st) ∧ n_okS (n_wysF h t n m s kk w st) ∧ (n_wysF h t n m s kk w st).1 ≤ st.1 + 600 * kk := by
  obtain ⟨⟨a1, a2, a3, a4⟩, a5⟩ := n_st S c
  intro kk
  induction kk with
  | zero =>
    intro w hh st w0 wk C ok cb
    refine ⟨hh, ?_, C, ok, by show st.1 ≤ _; omega⟩
    rw [t1_search_x35, if_neg (by omega), if_pos rfl, m_w_of (by omega) (by omega), if_neg (by omega)]
  | succ kk ih =>
    intro w hh st w0 wk C ok cb
    obtain ⟨J, K, Bu, F, Q⟩ := C
    obtain ⟨h1, h2, e1, I1, e2, I2, K2, B2, F2, Q2⟩ := n_oneway I S G T c w0 (by omega) n1 n2 t0 t1 m0 m1 J K Bu F Q ok (by omega)
    obtain ⟨ok2, c2⟩ := n_wayF_ok (m := m) (w := w) G T c n1 n2 t0 t1 ok
    obtain ⟨h3, e3, C3, ok3, c3⟩ := ih (w + 1) h2 (n_wayF h t n m s w st) (by omega) (by omega) ⟨I2, K2, B2, F2, Q2⟩ ok2 (by omega)
    refine ⟨h3, ?_, C3, ok3, by show (n_wysF h t n m s kk (w + 1) (n_wayF h t n m s w st)).1 ≤ _; omega⟩
    rw [t1_search_x35, if_neg (by omega), if_pos rfl, m_w_of (by omega) (by omega), if_pos (by omega), if_neg (by omega), if_pos (n_t121 J.2), e1, n_bs]
    show (if m_t h1 121 = 1 then t1_searchWay 121 s w t n m h1 >>= _ else none) = _
    rw [if_pos (n_t121 I1.2), e2, n_bs]
    exact e3
