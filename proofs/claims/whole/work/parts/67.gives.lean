/-! CALLS: near, rivals ..: the reference's row of a way -/
def n_gv (g : m_H) (s w : Int) : m_H := n_fl (m_p (n_fl g 149 0 (m_g g 131 s) (n_smp g s)) 127 86 (n_wl g s w)) 309 0 (n_wl g s w) (n_wv g s w)
theorem n_gv_kr (g : m_H) (s w : Int) : n_kr g (n_gv g s w) [149, 309] [86] := n_kr_trans (n_kr_trans (n_kr_fl (by omega) (by omega)) n_kr_f) (n_kr_fl (by omega) (by omega))
theorem n_gv_I {g : m_H} (I : n_I g) (s w : Int) : n_I (n_gv g s w) := n_kr_I I (n_gv_kr g s w) (fun b hb => by
  simp at hb
  rcases hb with e | e <;> rw [e]
  · exact Or.inl (n_t149 I.2)
  · exact Or.inl (n_t309 I.2)) rfl
theorem n_gv_86 (g : m_H) (s w : Int) : m_g (n_gv g s w) 127 86 = n_wl g s w := by
  unfold n_gv
  rw [n_g_fl, if_neg (by omega), n_gp_y ⟨rfl, rfl⟩]
theorem n_gv_309 {g : m_H} {s w j : Int} (j1 : 0 ≤ j) (j2 : j < n_wl g s w) : m_g (n_gv g s w) 309 j = n_wv g s w j := by
  unfold n_gv
  rw [n_g_fl, if_pos ⟨rfl, j1, j2⟩]
theorem n_play_11 {r : Int → Int} {n i : Int} (i1 : 0 ≤ i) (i2 : i < n) : n_play r n i 1 1 = r i := by
  unfold n_play
  rw [Int.mul_one, Int.tdiv_one]
  by_cases c : n - 1 ≤ i
  · rw [if_pos c]; congr 1; omega
  · rw [if_neg c, show Int.tmod i 1 = 0 from Int.tmod_one i, Int.zero_mul, Int.zero_tdiv]; omega
theorem n_gives81 {g ge : m_H} {s w p q : Int} (I : n_I g) (G : n_gs g) (c : 0 ≤ s ∧ s < m_g g 127 14) (w0 : 0 ≤ w) (w1 : w ≤ 3) (ege : ge = m_p (n_fl g 149 0 (m_g g 131 s) (n_smp g s)) 127 86 (n_wl g s w)) (pq : (w = 2 ∧ p = 1 ∧ q = 2) ∨ (w = 3 ∧ p = 2 ∧ q = 1) ∨ (w ≠ 2 ∧ w ≠ 3 ∧ p = 1 ∧ q = 1)) : t11_gives_c81 127 s w p q 0 ge = some ((), n_gv g s w) := by
  have b := G.2.1 s c.1 c.2
  unfold n_strB at b
  have B := G.1
  unfold n_shB at B
  have W := n_wl_1 G c w
  have en : n_wl g s w = Int.tdiv ((m_g g 131 s - 1) * q) p + 1 := by
    unfold n_wl
    rcases pq with ⟨e1, e2, e3⟩ | ⟨e1, e2, e3⟩ | ⟨e1, e2, e3, e4⟩
    · rw [if_pos e1, e2, e3, Int.tdiv_one]; omega
    · rw [if_neg (by omega), if_pos e1, e2, e3, Int.mul_one]
    · rw [if_neg e1, if_neg e2, e3, e4, Int.tdiv_one]; omega
  have fac : ∀ i, n_I (n_fl ge 309 0 i (n_wv g s w)) ∧ m_g (n_fl ge 309 0 i (n_wv g s w)) 127 86 = n_wl g s w ∧ m_g (n_fl ge 309 0 i (n_wv g s w)) 131 s = m_g g 131 s ∧ ∀ j, 0 ≤ j → j < m_g g 131 s → m_g (n_fl ge 309 0 i (n_wv g s w)) 149 j = n_smp g s j := fun i => by
    have K : n_kr g (n_fl ge 309 0 i (n_wv g s w)) [149, 309] [86] := by rw [ege]; exact n_kr_trans (n_kr_trans (n_kr_fl (by omega) (by omega)) n_kr_f) (n_kr_fl (by omega) (by omega))
    refine ⟨n_kr_I I K (fun b hb => by
      simp at hb
      rcases hb with e | e <;> rw [e]
      · exact Or.inl (n_t149 I.2)
      · exact Or.inl (n_t309 I.2)) rfl, ?_, K.2.2 131 s (by decide) (by simp), fun j j1 j2 => ?_⟩
    · rw [n_g_fl, if_neg (by omega), ege, n_gp_y ⟨rfl, rfl⟩]
    · rw [n_g_fl, if_neg (by omega), ege, n_gp_n (by omega), n_g_fl, if_pos ⟨rfl, j1, j2⟩]
  have key := n_fill (fun i h => t11_gives_c81 127 s w p q i h) (h := ge) (a := 309) (lo := 0) (n := n_wl g s w) (n_wv g s w) (by omega) (fun i i1 i2 => by
    obtain ⟨J, f1, f2, f3⟩ := fac i
    show t11_gives_c81 127 s w p q i _ = t11_gives_c81 127 s w p q (i + 1) _
    rw [t11_gives_c81]
    generalize n_fl ge 309 0 i (n_wv g s w) = hi at *
    have l3 := n_l131 J.2
    have l9 := n_l149 J.2
    have l309 := n_l309 J.2
    rw [if_pos (n_t127 J.2), f1, m_w_of (x := i) (by omega) (by omega), m_w_of (x := n_wl g s w) (by omega) (by omega), if_pos i2, m_w_of (x := w) (by omega) (by omega), n_p127_3 J.2, m_w_of (x := s) (by omega) (by omega), f2]
    by_cases c1 : w = 1
    · have hw : n_wl g s w = m_g g 131 s := by unfold n_wl; rw [if_neg (by omega), if_neg (by omega)]
      have ev : n_wv g s w i = n_smp g s (m_g g 131 s - 1 - i) := by unfold n_wv; rw [if_pos c1]
      rw [if_pos c1, if_pos ⟨n_t131 J.2, by omega, by omega⟩, n_p127_28 J.2, n_p127_82 J.2, m_w_of (x := m_g g 131 s - 1 - i) (by omega) (by omega), if_pos ⟨n_t149 J.2, by omega, by omega⟩, if_pos ⟨n_t309 J.2, by omega, by omega⟩, f3 _ (by omega) (by omega), ← ev, n_bs]
    · have sa := n_sampleAt (g := hi) (n := m_g g 131 s) (i := i) (p := p) (q := q) J (by omega) (by omega) i1 (by omega) (by omega) (by omega) (by omega) (by omega) (by omega) (fun j j1 j2 => by rw [f3 j j1 j2]; exact n_smp_b G c j1 j2)
      rw [n_play_eq (r' := n_smp g s) f3 i1 (by omega) (by omega) (by omega)] at sa
      have ev : n_cl (n_play (n_smp g s) (m_g g 131 s) i p q) = n_wv g s w i := by
        have pin := n_play_in (r := n_smp g s) (n := m_g g 131 s) (i := i) (p := p) (q := q) (fun j j1 j2 => n_smp_b G c j1 j2) i1 (by omega) (by omega) (by omega)
        rw [n_cl_of pin.1 pin.2]
        unfold n_wv
        rw [if_neg c1]
        rcases pq with ⟨e1, e2, e3⟩ | ⟨e1, e2, e3⟩ | ⟨e1, e2, e3, e4⟩
        · rw [if_pos e1, e2, e3]
        · rw [if_neg (by omega), if_pos e1, e2, e3]
        · rw [if_neg e1, if_neg e2, e3, e4]
          have hw : n_wl g s w = m_g g 131 s := by unfold n_wl; rw [if_neg e1, if_neg e2]
          exact n_play_11 i1 (by omega)
      rw [ev] at sa
      rw [if_neg c1, if_pos ⟨n_t131 J.2, by omega, by omega⟩, sa, n_bs]
      show (if m_t hi (m_g hi 127 82) = 20 ∧ 0 ≤ i ∧ i < m_l hi (m_g hi 127 82) then some (m_p hi (m_g hi 127 82) i (n_wv g s w i)) >>= _ else none) = _
      rw [n_p127_82 J.2, if_pos ⟨n_t309 J.2, by omega, by omega⟩, n_bs])
  refine key.trans ?_
  obtain ⟨J, f1, f2, f3⟩ := fac (n_wl g s w)
  have eg : n_fl ge 309 0 (n_wl g s w) (n_wv g s w) = n_gv g s w := by unfold n_gv; rw [ege]
  show t11_gives_c81 127 s w p q (n_wl g s w) _ = _
  rw [t11_gives_c81, if_pos (n_t127 J.2), f1, if_neg (by omega), eg]
theorem n_gives {g : m_H} {s w : Int} (I : n_I g) (G : n_gs g) (c : 0 ≤ s ∧ s < m_g g 127 14) (w0 : 0 ≤ w) (w1 : w ≤ 3) : t11_gives 127 s w g = some ((), n_gv g s w) := by
  have b := G.2.1 s c.1 c.2
  unfold n_strB at b
  have B := G.1
  unfold n_shB at B
  have fac : ∀ i, n_I (n_fl g 149 0 i (n_smp g s)) ∧ (∀ x j, x ≠ 149 → m_g (n_fl g 149 0 i (n_smp g s)) x j = m_g g x j) := fun i => by
    have K : n_kr g (n_fl g 149 0 i (n_smp g s)) [149] [] := n_kr_fl (by omega) (by omega)
    refine ⟨n_kr_I I K (fun b hb => by
      simp at hb
      rw [hb]
      exact Or.inl (n_t149 I.2)) rfl, fun x j hx => by rw [n_g_fl, if_neg (fun q => hx q.1)]⟩
  have key := n_fill (fun i h => t11_gives_c2 127 s w i h) (h := g) (a := 149) (lo := 0) (n := m_g g 131 s) (n_smp g s) (by omega) (fun i i1 i2 => by
    obtain ⟨J, f1⟩ := fac i
    show t11_gives_c2 127 s w i _ = t11_gives_c2 127 s w (i + 1) _
    rw [t11_gives_c2]
    generalize n_fl g 149 0 i (n_smp g s) = hi at *
    have q1 := f1 131 s (by omega)
    have q2 := f1 130 s (by omega)
    have e2 := n_at2 (g := hi) (s := s) (j := i) J c.1 (by omega) (by rw [q2]; omega) (by rw [q2]; omega)
    rw [q2, f1 128 _ (by omega)] at e2
    have l3 := n_l131 J.2
    have l9 := n_l149 J.2
    rw [if_pos (n_t127 J.2), n_p127_3 J.2, m_w_of (x := s) (by omega) (by omega), if_pos ⟨n_t131 J.2, by omega, by omega⟩, q1, m_w_of (x := i) (by omega) (by omega), m_w_of (x := m_g g 131 s) (by omega) (by omega), if_pos i2, e2, n_bs]
    show (if m_t hi (m_g hi 127 28) = 20 ∧ 0 ≤ i ∧ i < m_l hi (m_g hi 127 28) then some (m_p hi (m_g hi 127 28) i (m_g g 128 (m_g g 130 s + i))) >>= _ else none) = _
    rw [n_p127_28 J.2, if_pos ⟨n_t149 J.2, by omega, by omega⟩, n_bs]
    rfl)
  unfold t11_gives
  refine key.trans ?_
  obtain ⟨J, f1⟩ := fac (m_g g 131 s)
  have q1 := f1 131 s (by omega)
  have l3 := n_l131 J.2
  have c60 : ∀ p q, (w = 2 ∧ p = 1 ∧ q = 2) ∨ (w = 3 ∧ p = 2 ∧ q = 1) ∨ (w ≠ 2 ∧ w ≠ 3 ∧ p = 1 ∧ q = 1) → t11_gives_c60 127 s w p q (n_fl g 149 0 (m_g g 131 s) (n_smp g s)) = some ((), n_gv g s w) := fun p q pq => by
    have k := n_gives81 (p := p) (q := q) I G c w0 w1 rfl pq
    have en : n_wl g s w = Int.tdiv ((m_g g 131 s - 1) * q) p + 1 := by
      unfold n_wl
      rcases pq with ⟨e1, e2, e3⟩ | ⟨e1, e2, e3⟩ | ⟨e1, e2, e3, e4⟩
      · rw [if_pos e1, e2, e3, Int.tdiv_one]; omega
      · rw [if_neg (by omega), if_pos e1, e2, e3, Int.mul_one]
      · rw [if_neg e1, if_neg e2, e3, e4, Int.tdiv_one]; omega
    generalize n_fl g 149 0 (m_g g 131 s) (n_smp g s) = gd at *
    have eL := n_longAt (g := gd) (n := m_g g 131 s) (p := p) (q := q) (by omega) (by omega) (by omega) (by omega) (by omega) (by omega)
    rw [← en] at eL
    unfold t11_gives_c60
    rw [if_pos (n_t127 J.2), n_p127_3 J.2, m_w_of (x := s) (by omega) (by omega), if_pos ⟨n_t131 J.2, by omega, by omega⟩, q1, eL, n_bs]
    show (if m_t gd 127 = 11 then some (m_p gd 127 86 (n_wl g s w)) >>= _ else none) = _
    rw [if_pos (n_t127 J.2), n_bs]
    exact k
  show t11_gives_c2 127 s w (m_g g 131 s) _ = _
  rw [t11_gives_c2, if_pos (n_t127 J.2), n_p127_3 J.2, m_w_of (x := s) (by omega) (by omega), if_pos ⟨n_t131 J.2, by omega, by omega⟩, q1, if_neg (by omega)]
  unfold t11_gives_c49
  rw [m_w_of (x := w) (by omega) (by omega)]
  by_cases c2 : w = 2
  · rw [if_pos c2, if_pos c2]; exact c60 1 2 (Or.inl ⟨c2, rfl, rfl⟩)
  · rw [if_neg c2]
    by_cases c3 : w = 3
    · rw [if_pos c3, if_neg c2]; exact c60 2 1 (Or.inr (Or.inl ⟨c3, rfl, rfl⟩))
    · rw [if_neg c3, if_neg c2]; exact c60 1 1 (Or.inr (Or.inr ⟨c2, c3, rfl, rfl⟩))
