/-! CALLS: near, rivals: the reference's strips -/
theorem n_rstrips {g : m_H} {t n m : Int} (G : n_gs g) (T : n_Rtape g g) (n1 : 1 ≤ n) (n2 : n ≤ 100) (t0 : 0 ≤ t) (t1 : t + n ≤ m_g g 127 85) (m0 : 0 ≤ m) (m1 : m ≤ 65535) : ∀ (kk : Nat) (s : Int) (gg : m_H) (st : Int × Int × Int × Int × Int), 0 ≤ s → s + kk = m_g g 127 14 → n_rI g gg st → n_okS st → st.1 + 2400 * kk ≤ 900000 → ∃ g2, t11_nears_x32 32 127 t n m s 0 0 0 gg = some (decide (0 < (n_stsF g t n m kk s st).1), g2) ∧ n_rI g g2 (n_stsF g t n m kk s st) ∧ n_okS (n_stsF g t n m kk s st) ∧ (n_stsF g t n m kk s st).1 ≤ st.1 + 2400 * kk := by
  have B := G.1.2.1
  intro kk
  induction kk with
  | zero =>
    intro s gg st s0 sk C ok cb
    have C' := C
    obtain ⟨J, K, Q⟩ := C'
    have e14 : m_g gg 127 14 = m_g g 127 14 := K.2.2 127 14 (by decide) (by simp)
    have ok1 := ok.1
    refine ⟨gg, ?_, C, ok, by show st.1 ≤ _; omega⟩
    rw [t11_nears_x32, if_pos rfl, if_pos (n_t127 J.2), e14, if_neg (by rw [m_w_of (by omega) (by omega), m_w_of (by omega) (by omega)]; omega), Q.1, m_w_of (x := st.1) (by omega) (by omega)]
    show (if 0 < st.1 then some (true, gg) else some (false, gg)) = some (decide (0 < st.1), gg)
    by_cases c : 0 < st.1
    · rw [if_pos c, decide_eq_true c]
    · rw [if_neg c, decide_eq_false c]
  | succ kk ih =>
    intro s gg st s0 sk C ok cb
    have c : 0 ≤ s ∧ s < m_g g 127 14 := ⟨s0, by omega⟩
    have b := G.2.1 s c.1 c.2
    unfold n_strB at b
    have C' := C
    obtain ⟨J, K, Q⟩ := C'
    have e14 : m_g gg 127 14 = m_g g 127 14 := K.2.2 127 14 (by decide) (by simp)
    have r133 : m_g gg 133 s = m_g g 133 s := K.2.2 133 s (by decide) (by simp)
    have e32 : t11_nears_x32 32 127 t n m s 0 0 0 gg = t11_nears_x32 44 127 t n m s 0 0 0 gg := by
      rw [t11_nears_x32, if_pos rfl, if_pos (n_t127 J.2), e14, if_pos (by rw [m_w_of (by omega) (by omega), m_w_of (by omega) (by omega)]; omega)]
    rw [e32]
    show ∃ h2, _ = some (decide (0 < (n_stsF g t n m kk (s + 1) (if m_g g 133 s < 2 then n_wysF g t n m s 4 0 st else st)).1), h2) ∧ n_rI g h2 (n_stsF g t n m kk (s + 1) (if m_g g 133 s < 2 then n_wysF g t n m s 4 0 st else st)) ∧ n_okS (n_stsF g t n m kk (s + 1) (if m_g g 133 s < 2 then n_wysF g t n m s 4 0 st else st)) ∧ (n_stsF g t n m kk (s + 1) (if m_g g 133 s < 2 then n_wysF g t n m s 4 0 st else st)).1 ≤ _
    by_cases d : m_g g 133 s < 2
    · rw [if_pos d]
      obtain ⟨h2, e2, C2, ok2, c2⟩ := n_rways (m := m) G T c d n1 n2 t0 t1 m0 m1 4 0 gg st (by omega) (by omega) C ok (by omega)
      obtain ⟨h3, e3', C3, ok3, c3⟩ := ih (s + 1) h2 (n_wysF g t n m s 4 0 st) (by omega) (by omega) C2 ok2 (by omega)
      exact ⟨h3, e2.trans e3', C3, ok3, by omega⟩
    · rw [if_neg d]
      obtain ⟨h3, e3', C3, ok3, c3⟩ := ih (s + 1) gg st (by omega) (by omega) C ok (by omega)
      refine ⟨h3, ?_, C3, ok3, by omega⟩
      have eL := n_isLaid (g := gg) (s := s) J (by omega) (by omega)
      rw [r133, decide_eq_false d] at eL
      rw [t11_nears_x32, if_neg (by omega), if_pos rfl, m_w_of (by omega) (by omega), if_pos (by omega), if_pos (n_t127 J.2), eL, n_bs]
      exact e3'
/-- the pure folds read the reference's cells alone -/
theorem n_stsF_S {g g' : m_H} (e : ∀ b j, 127 < b → b < 312 → m_g g' b j = m_g g b j) (t n m : Int) : ∀ (k : Nat) (s : Int) (st : Int × Int × Int × Int × Int), n_stsF g' t n m k s st = n_stsF g t n m k s st := by
  obtain ⟨el, ev⟩ := n_wS (g := g) (g' := g') (fun j => e 128 j (by omega) (by omega)) (fun j => e 130 j (by omega) (by omega)) (fun j => e 131 j (by omega) (by omega))
  have e3 : m_g g' 308 = m_g g 308 := funext fun j => e 308 j (by omega) (by omega)
  have w1 : ∀ s w st, n_wayF g' t n m s w st = n_wayF g t n m s w st := fun s w st => by unfold n_wayF; rw [el, ev, e3]
  have w2 : ∀ (k : Nat) (s w : Int) st, n_wysF g' t n m s k w st = n_wysF g t n m s k w st := by
    intro k
    induction k with
    | zero => intro s w st; rfl
    | succ k ih => intro s w st; unfold n_wysF; rw [ih, w1]
  intro k
  induction k with
  | zero => intro s st; rfl
  | succ k ih => intro s st; unfold n_stsF; rw [ih, w2, e 133 s (by omega) (by omega)]
