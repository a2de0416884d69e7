/-! CALLS: why: the component -/
/-- marks after the last m of n orders have been dealt with -/
def n_wM (g : m_H) (k t n : Int) : Nat → Int → Bool
  | 0 => fun j => n_in0 g k t j
  | m + 1 => fun j => n_wM g k t n m j || (n_wM g k t n m (n - (m + 1)) && (decide (j = m_g g (163 + k) (n - (m + 1))) || decide (j = m_g g (173 + k) (n - (m + 1)))))
theorem n_wM_s (g : m_H) (k t n : Int) (m : Nat) (j : Int) : n_wM g k t n (m + 1) j = (n_wM g k t n m j || (n_wM g k t n m (n - (m + 1)) && (decide (j = m_g g (163 + k) (n - (m + 1))) || decide (j = m_g g (173 + k) (n - (m + 1)))))) := rfl
theorem n_below {g : m_H} {k o : Int} (b : n_ordB g k o) : -1 ≤ m_g g (163 + k) o ∧ (m_g g (163 + k) o < o ∨ m_g g (163 + k) o = -1) ∧ -1 ≤ m_g g (173 + k) o ∧ (m_g g (173 + k) o < o ∨ m_g g (173 + k) o = -1) := by
  obtain ⟨b1, b2, b3, b4, b5, b6, -⟩ := b
  refine ⟨?_, ?_, ?_, ?_⟩
  · by_cases c : m_g g (153 + k) o ≤ 1
    · have := b3 c; omega
    · have := b4 (by omega); omega
  · by_cases c : m_g g (153 + k) o ≤ 1
    · exact Or.inr (b3 c)
    · have := b4 (by omega); exact Or.inl this.2.1
  · by_cases c : m_g g (153 + k) o = 5
    · have := b6 c; omega
    · have := b5 c; omega
  · by_cases c : m_g g (153 + k) o = 5
    · exact Or.inl (b6 c).2.1
    · exact Or.inr (b5 c)
theorem n_bitC {h : m_H} {x : Int} (x0 : -1 ≤ x) (x1 : x < 40) : ∃ y, t2_bit x h = some (y, h) ∧ ∀ j, 0 ≤ j → j < 64 → n_tb y j = decide (j = x) := by
  unfold t2_bit
  rw [m_w_of (by omega) (by omega)]
  by_cases c : x = -1
  · rw [if_pos c]
    exact ⟨0, rfl, fun j j0 j1 => by rw [n_tb_0, decide_eq_false (by omega)]⟩
  · rw [if_neg c]
    exact ⟨_, rfl, fun j j0 j1 => n_tb_bit j0 j1 (by omega) (by omega)⟩
theorem n_reasonsC {h : m_H} {k a t : Int} (I : n_I h) (C : n_pc h k a) (t1 : -2147483648 ≤ t) (t2 : t < 2147483648) : ∀ (r m : Nat) (f : Int), (r : Int) + m = m_g h 151 k → (∀ j : Int, 0 ≤ j → j < r → n_wM h k t (m_g h 151 k) m j = (n_in0 h k t j || n_tb f j)) → (∀ j : Int, r ≤ j → j < m_g h 151 k → n_wM h k t (m_g h 151 k) m j = n_tb f j) → ∃ f', t2_reasons_x13 13 106 t f (r - 1) h = some (f', h) ∧ ∀ j, 0 ≤ j → j < m_g h 151 k → n_tb f' j = n_wM h k t (m_g h 151 k) (m_g h 151 k).toNat j := by
  have c3 := C.1.2.2.1
  obtain ⟨c1, c2⟩ := n_pcI C
  intro r
  induction r with
  | zero =>
    intro m f rm lo hi
    refine ⟨f, ?_, fun j j0 j1 => ?_⟩
    · rw [t2_reasons_x13, if_pos rfl, m_w_of (by omega) (by omega), if_pos (by omega)]
    · rw [← hi j (by omega) j1]
      congr 1
      omega
  | succ r ih =>
    intro m f rm lo hi
    have o1 : (r : Int) < m_g h 151 k := by omega
    have b := n_scc_b C.1 (o := r) (by omega) o1
    have bl := n_below b
    obtain ⟨x, ex, bx⟩ := n_beginWith I C (o := r) (by omega) o1 t1 t2
    obtain ⟨i0, x0, x1⟩ := n_bw_in b bx
    have em : m_g h 151 k - (m + 1) = r := by omega
    -- behind the first half
    have e13 : ∃ f2, t2_reasons_x13 13 106 t f r h = t2_reasons_x13 36 106 t f2 r h ∧ ∀ j, 0 ≤ j → j < 64 → n_tb f2 j = (n_tb f j || (n_in0 h k t r && decide (j = r))) := by
      rw [t2_reasons_x13, if_pos rfl, m_w_of (x := (r : Int)) (by omega) (by omega), if_neg (by omega), if_pos (n_t106 I.2), ex, n_bs]
      show ∃ f2, (if m_w x = -1 then t2_reasons_x13 36 106 t f r h else some (m_lor f (m_lshl 1 r)) >>= fun x6 => t2_reasons_x13 36 106 t x6 r h) = _ ∧ _
      rw [m_w_of (x := x) (by omega) (by omega), i0]
      by_cases c : x = -1
      · rw [if_pos c, decide_eq_false (by omega)]
        exact ⟨f, rfl, fun j j0 j1 => by simp⟩
      · rw [if_neg c, decide_eq_true c, n_bs]
        exact ⟨_, rfl, fun j j0 j1 => by rw [n_tb_or, n_tb_bit j0 j1 (by omega) (by omega), Bool.true_and]⟩
    obtain ⟨f2, e1, q2⟩ := e13
    have wr : n_wM h k t (m_g h 151 k) m r = n_tb f2 r := by
      rw [lo r (by omega) (by omega), q2 r (by omega) (by omega), decide_eq_true rfl, Bool.and_true, Bool.or_comm]
    have e36 : ∃ f3, t2_reasons_x13 36 106 t f2 r h = t2_reasons_x13 13 106 t f3 (r - 1) h ∧ ∀ j, 0 ≤ j → j < 64 → n_tb f3 j = (n_tb f2 j || (n_tb f2 r && (decide (j = m_g h (163 + k) r) || decide (j = m_g h (173 + k) r)))) := by
      have test := n_tb_test (x := f2) (i := r) (by omega) (by omega)
      rw [t2_reasons_x13, if_neg (by omega), if_pos rfl]
      by_cases c : n_tb f2 r = false
      · rw [if_pos (test.mpr c)]
        exact ⟨f2, rfl, fun j j0 j1 => by rw [c]; simp⟩
      · have ct : n_tb f2 r = true := by cases hh : n_tb f2 r; exact absurd hh c; rfl
        obtain ⟨y1, ey1, qy1⟩ := n_bitC (h := h) (x := m_g h (163 + k) r) bl.1 (by omega)
        obtain ⟨y2, ey2, qy2⟩ := n_bitC (h := h) (x := m_g h (173 + k) r) bl.2.2.1 (by omega)
        refine ⟨m_lor f2 (m_lor y1 y2), ?_, fun j j0 j1 => by rw [n_tb_or, n_tb_or, qy1 j j0 j1, qy2 j j0 j1, ct, Bool.true_and]⟩
        rw [if_neg (fun q => c (test.mp q)), if_pos (n_t106 I.2), c1, if_pos c2, n_oneC I C.1 (by omega) o1, n_bs]
        show (t2_bit (m_g h (163 + k) r) h >>= _) = _
        rw [ey1, n_bs]
        show (if m_t h 106 = 2 then if m_t h (m_g h 106 2) = 6 then t6_other (m_g h 106 2) r h >>= _ else none else none) = _
        rw [if_pos (n_t106 I.2), c1, if_pos c2, n_otherC I C.1 (by omega) o1, n_bs]
        show (t2_bit (m_g h (173 + k) r) h >>= _) = _
        rw [ey2, n_bs]
        rfl
    obtain ⟨f3, e2, q3⟩ := e36
    obtain ⟨f', e3, q'⟩ := ih (m + 1) f3 (by omega) (fun j j0 j1 => by
      rw [n_wM_s, em, wr, q3 j j0 (by omega), q2 j j0 (by omega), lo j j0 (by omega), decide_eq_false (show ¬ j = (r : Int) by omega), Bool.and_false, Bool.or_false, Bool.or_assoc]) (fun j j0 j1 => by
      rw [n_wM_s, em, wr, q3 j (by omega) (by omega)]
      by_cases c : j = r
      · rw [c, wr]
      · rw [q2 j (by omega) (by omega), hi j (by omega) j1, decide_eq_false c, Bool.and_false, Bool.or_false])
    refine ⟨f', ?_, q'⟩
    rw [show ((r + 1 : Nat) : Int) - 1 = r by omega, e1, e2]
    exact e3
