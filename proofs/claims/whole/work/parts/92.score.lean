/-! SCORES: how both read an order -/
theorem n_2d_all : ((List.range 9).all fun k => [153, 163, 173, 183, 193, 203, 213, 223].all fun b => decide (n_kT.getD (b + k - 1) 0 = 20) && decide (n_kL.getD (b + k - 1) 0 = 40)) = true := by decide +kernel
theorem n_2d {h : m_H} (F : n_fx h) {b : Nat} {k : Int} (hb : b ∈ [153, 163, 173, 183, 193, 203, 213, 223]) (k0 : 0 ≤ k) (k1 : k < 9) : m_t h (b + k) = 20 ∧ m_l h (b + k) = 40 := by
  have A := n_2d_all
  rw [List.all_eq_true] at A
  have A1 := A k.toNat (List.mem_range.mpr (by omega))
  rw [List.all_eq_true] at A1
  have A2 := A1 b hb
  rw [Bool.and_eq_true, decide_eq_true_eq, decide_eq_true_eq] at A2
  have hb2 : 153 ≤ b ∧ b ≤ 223 := by simp at hb; omega
  have e := F.1 (b + k) (by omega) (by omega)
  rw [show ((b : Int) + k).toNat - 1 = b + k.toNat - 1 by omega] at e
  rw [e.1, e.2]
  exact A2
theorem n_a35 {h : m_H} (F : n_fx h) {k : Int} (k0 : 0 ≤ k) (k1 : k < 9) : m_g h (m_g h 127 35) k = 153 + k := by rw [n_p127_35 F, n_f152 F k0 k1]; omega
theorem n_c35 {h : m_H} (F : n_fx h) {k : Int} (k0 : 0 ≤ k) (k1 : k < 9) : m_t h (m_g h 127 35) = 29 ∧ 0 ≤ k ∧ k < m_l h (m_g h 127 35) := by rw [n_p127_35 F, n_t152 F, n_l152 F]; exact ⟨rfl, k0, k1⟩
theorem n_d35 {h : m_H} (F : n_fx h) {k o : Int} (k0 : 0 ≤ k) (k1 : k < 9) (o0 : 0 ≤ o) (o1 : o < 40) : m_t h (153 + k) = 20 ∧ 0 ≤ o ∧ o < m_l h (153 + k) := by
  have e := n_2d F (b := 153) (by decide) k0 k1
  have e1 : m_t h (153 + k) = 20 := e.1
  have e2 : m_l h (153 + k) = 40 := e.2
  rw [e1, e2]
  exact ⟨rfl, o0, o1⟩
theorem n_a36 {h : m_H} (F : n_fx h) {k : Int} (k0 : 0 ≤ k) (k1 : k < 9) : m_g h (m_g h 127 36) k = 163 + k := by rw [n_p127_36 F, n_f162 F k0 k1]; omega
theorem n_c36 {h : m_H} (F : n_fx h) {k : Int} (k0 : 0 ≤ k) (k1 : k < 9) : m_t h (m_g h 127 36) = 29 ∧ 0 ≤ k ∧ k < m_l h (m_g h 127 36) := by rw [n_p127_36 F, n_t162 F, n_l162 F]; exact ⟨rfl, k0, k1⟩
theorem n_d36 {h : m_H} (F : n_fx h) {k o : Int} (k0 : 0 ≤ k) (k1 : k < 9) (o0 : 0 ≤ o) (o1 : o < 40) : m_t h (163 + k) = 20 ∧ 0 ≤ o ∧ o < m_l h (163 + k) := by
  have e := n_2d F (b := 163) (by decide) k0 k1
  have e1 : m_t h (163 + k) = 20 := e.1
  have e2 : m_l h (163 + k) = 40 := e.2
  rw [e1, e2]
  exact ⟨rfl, o0, o1⟩
theorem n_a37 {h : m_H} (F : n_fx h) {k : Int} (k0 : 0 ≤ k) (k1 : k < 9) : m_g h (m_g h 127 37) k = 173 + k := by rw [n_p127_37 F, n_f172 F k0 k1]; omega
theorem n_c37 {h : m_H} (F : n_fx h) {k : Int} (k0 : 0 ≤ k) (k1 : k < 9) : m_t h (m_g h 127 37) = 29 ∧ 0 ≤ k ∧ k < m_l h (m_g h 127 37) := by rw [n_p127_37 F, n_t172 F, n_l172 F]; exact ⟨rfl, k0, k1⟩
theorem n_d37 {h : m_H} (F : n_fx h) {k o : Int} (k0 : 0 ≤ k) (k1 : k < 9) (o0 : 0 ≤ o) (o1 : o < 40) : m_t h (173 + k) = 20 ∧ 0 ≤ o ∧ o < m_l h (173 + k) := by
  have e := n_2d F (b := 173) (by decide) k0 k1
  have e1 : m_t h (173 + k) = 20 := e.1
  have e2 : m_l h (173 + k) = 40 := e.2
  rw [e1, e2]
  exact ⟨rfl, o0, o1⟩
theorem n_a38 {h : m_H} (F : n_fx h) {k : Int} (k0 : 0 ≤ k) (k1 : k < 9) : m_g h (m_g h 127 38) k = 183 + k := by rw [n_p127_38 F, n_f182 F k0 k1]; omega
theorem n_c38 {h : m_H} (F : n_fx h) {k : Int} (k0 : 0 ≤ k) (k1 : k < 9) : m_t h (m_g h 127 38) = 29 ∧ 0 ≤ k ∧ k < m_l h (m_g h 127 38) := by rw [n_p127_38 F, n_t182 F, n_l182 F]; exact ⟨rfl, k0, k1⟩
theorem n_d38 {h : m_H} (F : n_fx h) {k o : Int} (k0 : 0 ≤ k) (k1 : k < 9) (o0 : 0 ≤ o) (o1 : o < 40) : m_t h (183 + k) = 20 ∧ 0 ≤ o ∧ o < m_l h (183 + k) := by
  have e := n_2d F (b := 183) (by decide) k0 k1
  have e1 : m_t h (183 + k) = 20 := e.1
  have e2 : m_l h (183 + k) = 40 := e.2
  rw [e1, e2]
  exact ⟨rfl, o0, o1⟩
theorem n_a39 {h : m_H} (F : n_fx h) {k : Int} (k0 : 0 ≤ k) (k1 : k < 9) : m_g h (m_g h 127 39) k = 193 + k := by rw [n_p127_39 F, n_f192 F k0 k1]; omega
theorem n_c39 {h : m_H} (F : n_fx h) {k : Int} (k0 : 0 ≤ k) (k1 : k < 9) : m_t h (m_g h 127 39) = 29 ∧ 0 ≤ k ∧ k < m_l h (m_g h 127 39) := by rw [n_p127_39 F, n_t192 F, n_l192 F]; exact ⟨rfl, k0, k1⟩
theorem n_d39 {h : m_H} (F : n_fx h) {k o : Int} (k0 : 0 ≤ k) (k1 : k < 9) (o0 : 0 ≤ o) (o1 : o < 40) : m_t h (193 + k) = 20 ∧ 0 ≤ o ∧ o < m_l h (193 + k) := by
  have e := n_2d F (b := 193) (by decide) k0 k1
  have e1 : m_t h (193 + k) = 20 := e.1
  have e2 : m_l h (193 + k) = 40 := e.2
  rw [e1, e2]
  exact ⟨rfl, o0, o1⟩
theorem n_a40 {h : m_H} (F : n_fx h) {k : Int} (k0 : 0 ≤ k) (k1 : k < 9) : m_g h (m_g h 127 40) k = 203 + k := by rw [n_p127_40 F, n_f202 F k0 k1]; omega
theorem n_c40 {h : m_H} (F : n_fx h) {k : Int} (k0 : 0 ≤ k) (k1 : k < 9) : m_t h (m_g h 127 40) = 29 ∧ 0 ≤ k ∧ k < m_l h (m_g h 127 40) := by rw [n_p127_40 F, n_t202 F, n_l202 F]; exact ⟨rfl, k0, k1⟩
theorem n_d40 {h : m_H} (F : n_fx h) {k o : Int} (k0 : 0 ≤ k) (k1 : k < 9) (o0 : 0 ≤ o) (o1 : o < 40) : m_t h (203 + k) = 20 ∧ 0 ≤ o ∧ o < m_l h (203 + k) := by
  have e := n_2d F (b := 203) (by decide) k0 k1
  have e1 : m_t h (203 + k) = 20 := e.1
  have e2 : m_l h (203 + k) = 40 := e.2
  rw [e1, e2]
  exact ⟨rfl, o0, o1⟩
theorem n_a41 {h : m_H} (F : n_fx h) {k : Int} (k0 : 0 ≤ k) (k1 : k < 9) : m_g h (m_g h 127 41) k = 213 + k := by rw [n_p127_41 F, n_f212 F k0 k1]; omega
theorem n_c41 {h : m_H} (F : n_fx h) {k : Int} (k0 : 0 ≤ k) (k1 : k < 9) : m_t h (m_g h 127 41) = 29 ∧ 0 ≤ k ∧ k < m_l h (m_g h 127 41) := by rw [n_p127_41 F, n_t212 F, n_l212 F]; exact ⟨rfl, k0, k1⟩
theorem n_d41 {h : m_H} (F : n_fx h) {k o : Int} (k0 : 0 ≤ k) (k1 : k < 9) (o0 : 0 ≤ o) (o1 : o < 40) : m_t h (213 + k) = 20 ∧ 0 ≤ o ∧ o < m_l h (213 + k) := by
  have e := n_2d F (b := 213) (by decide) k0 k1
  have e1 : m_t h (213 + k) = 20 := e.1
  have e2 : m_l h (213 + k) = 40 := e.2
  rw [e1, e2]
  exact ⟨rfl, o0, o1⟩
theorem n_a42 {h : m_H} (F : n_fx h) {k : Int} (k0 : 0 ≤ k) (k1 : k < 9) : m_g h (m_g h 127 42) k = 223 + k := by rw [n_p127_42 F, n_f222 F k0 k1]; omega
theorem n_c42 {h : m_H} (F : n_fx h) {k : Int} (k0 : 0 ≤ k) (k1 : k < 9) : m_t h (m_g h 127 42) = 29 ∧ 0 ≤ k ∧ k < m_l h (m_g h 127 42) := by rw [n_p127_42 F, n_t222 F, n_l222 F]; exact ⟨rfl, k0, k1⟩
theorem n_d42 {h : m_H} (F : n_fx h) {k o : Int} (k0 : 0 ≤ k) (k1 : k < 9) (o0 : 0 ≤ o) (o1 : o < 40) : m_t h (223 + k) = 20 ∧ 0 ≤ o ∧ o < m_l h (223 + k) := by
  have e := n_2d F (b := 223) (by decide) k0 k1
  have e1 : m_t h (223 + k) = 20 := e.1
  have e2 : m_l h (223 + k) = 40 := e.2
  rw [e1, e2]
  exact ⟨rfl, o0, o1⟩
/-- score k stands at the cell a -/
def n_scc (h g : m_H) (k a : Int) : Prop := n_score h g k a ∧ (0 ≤ k ∧ k < 8) ∧ (0 ≤ m_g g 151 k ∧ m_g g 151 k ≤ 40) ∧ ∀ o, 0 ≤ o → o < m_g g 151 k → n_ordB g k o
theorem n_scc_of {h g : m_H} {k : Int} (S : n_Rsc h g) (k0 : 0 ≤ k) (k1 : k < m_g g 127 43) : n_scc h g k (m_g h 19 k) := by
  obtain ⟨s1, s2, s3, s4, s5⟩ := S
  obtain ⟨a, b, c, d, e, f⟩ := s4 k k0 k1
  exact ⟨a, by omega, ⟨b, c⟩, f⟩
/-- cells from 312 on are the same -/
theorem n_scc_S {h h' g : m_H} {k a : Int} (C : n_scc h g k a) (e2 : h'.2 = h.2) (e : ∀ b j, 312 ≤ b → m_g h' b j = m_g h b j) : n_scc h' g k a := by
  obtain ⟨⟨⟨s1, s2, s3, s4, s5⟩, t2, t3, t4, t5, t6⟩, C2⟩ := C
  refine ⟨⟨⟨by rw [n_e2t e2]; exact s1, s2, by rw [e a 0 s2]; exact s3, by rw [e a 3 s2]; exact s4, by rw [e a 0 s2, e a 3 s2]; exact s5⟩, by rw [e a 1 s2]; exact t2, by rw [e a 0 s2, n_e2l e2]; exact t3, by rw [e a 2 s2]; exact t4, fun o o1 o2 => ?_, fun q o o1 o2 => by rw [e a 3 s2, e _ o s4]; exact t6 q o o1 o2⟩, C2⟩
  rw [e a 0 s2]
  have := t5 o o1 o2
  unfold n_ord at *
  simp only [e _ _ s3]
  exact this
theorem n_cell {h g : m_H} {k a o w : Int} (I : n_I h) (C : n_scc h g k a) (o0 : 0 ≤ o) (o1 : o < m_g g 151 k) (w0 : 0 ≤ w) (w1 : w < 8) : t6_cell a o w h = some (m_g h (m_g h a 0) (8 * o + w), h) := by
  obtain ⟨⟨⟨s1, s2, s3, s4, s5⟩, t2, t3, t4, t5, t6⟩, C2, C3, C4⟩ := C
  have q := I.1.2.2.2.2 a s1
  unfold t6_cell
  rw [n_bs, m_w_of (x := o) (by omega) (by omega), if_neg (by omega), if_pos s1, t2, m_w_of (x := m_g g 151 k) (by omega) (by omega), if_pos o1, m_w_of (x := o * 8 + w) (by omega) (by omega), if_neg (by omega), if_pos (by omega), t3, m_w_of (x := 8 * m_g g 151 k) (by omega) (by omega), if_pos (by omega), if_pos ⟨q.1, by omega, by omega⟩, show o * 8 + w = 8 * o + w by omega]
theorem n_cell_n {h g : m_H} {k a o w : Int} (C : n_scc h g k a) (i1 : -2147483648 ≤ o) (i2 : o < 2147483648) (c : o < 0 ∨ m_g g 151 k ≤ o) : t6_cell a o w h = some (-1, h) := by
  obtain ⟨⟨⟨s1, s2, s3, s4, s5⟩, t2, t3, t4, t5, t6⟩, C2, C3, C4⟩ := C
  unfold t6_cell
  rw [n_bs, m_w_of i1 i2]
  by_cases d : o < 0
  · rw [if_pos d]
  · rw [if_neg d, if_pos s1, t2, m_w_of (by omega) (by omega), if_neg (by omega)]
theorem n_scc_t {h g : m_H} {k a : Int} (C : n_scc h g k a) : m_t h a = 6 := C.1.1.1
theorem n_scc_o {h g : m_H} {k a o : Int} (C : n_scc h g k a) (o0 : 0 ≤ o) (o1 : o < m_g g 151 k) : n_ord h g k (m_g h a 0) o := C.1.2.2.2.2.1 o o0 o1
theorem n_scc_b {h g : m_H} {k a o : Int} (C : n_scc h g k a) (o0 : 0 ≤ o) (o1 : o < m_g g 151 k) : n_ordB g k o := C.2.2.2 o o0 o1
theorem n_verbC {h g : m_H} {k a o : Int} (I : n_I h) (C : n_scc h g k a) (o0 : 0 ≤ o) (o1 : o < m_g g 151 k) : t6_verb a o h = some (m_g g (153 + k) o, h) := by
  unfold t6_verb
  rw [if_pos (n_scc_t C), n_cell I C o0 o1 (by omega) (by omega), n_bs]
  show some (m_g h (m_g h a 0) (8 * o + 0), h) = _
  rw [Int.add_zero, (n_scc_o C o0 o1).1]
theorem n_oneC {h g : m_H} {k a o : Int} (I : n_I h) (C : n_scc h g k a) (o0 : 0 ≤ o) (o1 : o < m_g g 151 k) : t6_one a o h = some (m_g g (163 + k) o, h) := by
  unfold t6_one
  rw [if_pos (n_scc_t C), n_cell I C o0 o1 (by omega) (by omega), n_bs]
  show some (m_g h (m_g h a 0) (8 * o + 1), h) = _
  rw [(n_scc_o C o0 o1).2.1]
theorem n_otherC {h g : m_H} {k a o : Int} (I : n_I h) (C : n_scc h g k a) (o0 : 0 ≤ o) (o1 : o < m_g g 151 k) : t6_other a o h = some (m_g g (173 + k) o, h) := by
  unfold t6_other
  rw [if_pos (n_scc_t C), n_cell I C o0 o1 (by omega) (by omega), n_bs]
  show some (m_g h (m_g h a 0) (8 * o + 2), h) = _
  rw [(n_scc_o C o0 o1).2.2.1]
theorem n_numC {h g : m_H} {k a o w : Int} (I : n_I h) (C : n_scc h g k a) (o0 : 0 ≤ o) (o1 : o < m_g g 151 k) (w0 : 0 ≤ w) (w1 : w ≤ 2) : t6_number a o w h = some (m_g h (m_g h a 0) (8 * o + (3 + w)), h) := by
  unfold t6_number
  rw [if_pos (n_scc_t C), n_cell I C o0 o1 (by omega) (by omega), n_bs]
theorem n_isPutC {h g : m_H} {k a o : Int} (I : n_I h) (C : n_scc h g k a) (o0 : 0 ≤ o) (o1 : o < m_g g 151 k) : t6_isPut a o h = some (decide (m_g g (153 + k) o = 12), h) := by
  have b := n_scc_b C o0 o1
  have b1 := b.1
  have b2 := b.2.1
  clear b
  unfold t6_isPut
  rw [if_pos (n_scc_t C), n_cell I C o0 o1 (by omega) (by omega), n_bs]
  show (if m_w (m_g h (m_g h a 0) (8 * o + 0)) = 12 then some (true, h) else some (false, h)) = _
  rw [Int.add_zero, (n_scc_o C o0 o1).1, m_w_of (by omega) (by omega)]
  by_cases c : m_g g (153 + k) o = 12
  · rw [if_pos c, decide_eq_true c]
  · rw [if_neg c, decide_eq_false c]
theorem n_isSrcC {h g : m_H} {k a o : Int} (I : n_I h) (C : n_scc h g k a) (o0 : 0 ≤ o) (o1 : o < m_g g 151 k) : t6_isSource a o h = some (decide (m_g g (153 + k) o ≤ 1), h) := by
  have b := n_scc_b C o0 o1
  have b1 := b.1
  have b2 := b.2.1
  clear b
  unfold t6_isSource
  rw [if_pos (n_scc_t C), n_cell I C o0 o1 (by omega) (by omega), n_bs]
  show (if m_w (m_g h (m_g h a 0) (8 * o + 0)) = 0 then some (true, h) else if m_w (m_g h (m_g h a 0) (8 * o + 0)) = 1 then some (true, h) else some (false, h)) = _
  rw [Int.add_zero, (n_scc_o C o0 o1).1, m_w_of (by omega) (by omega)]
  by_cases c : m_g g (153 + k) o = 0
  · rw [if_pos c, decide_eq_true (by omega)]
  · rw [if_neg c]
    by_cases d : m_g g (153 + k) o = 1
    · rw [if_pos d, decide_eq_true (by omega)]
    · rw [if_neg d, decide_eq_false (by omega)]
/-! the strip to which a take or a mark leads -/
def n_lmN (g : m_H) (mk d : Int) : Nat → Int → Int
  | 0, _ => -1
  | n + 1, i => if m_g g 133 i = 0 ∧ n_mk g i d (m_g g 127 27).toNat = mk then i else n_lmN g mk d n (i + 1)
theorem n_lmN_b {g : m_H} {mk d : Int} : ∀ (n : Nat) (i : Int), n_lmN g mk d n i = -1 ∨ (i ≤ n_lmN g mk d n i ∧ n_lmN g mk d n i < i + n ∧ m_g g 133 (n_lmN g mk d n i) = 0)
  | 0, i => Or.inl rfl
  | n + 1, i => by
    rw [n_lmN]
    by_cases c : m_g g 133 i = 0 ∧ n_mk g i d (m_g g 127 27).toNat = mk
    · rw [if_pos c]; right; exact ⟨by omega, by omega, c.1⟩
    · rw [if_neg c]
      rcases n_lmN_b (g := g) (mk := mk) (d := d) n (i + 1) with e | ⟨e1, e2, e3⟩
      · exact Or.inl e
      · right; exact ⟨by omega, by omega, e3⟩
def n_sOf (g : m_H) (k o d : Int) : Int := if m_g g (153 + k) o = 1 then n_lmN g (m_g g (183 + k) o) d (m_g g 127 14).toNat 0 else if m_g g (153 + k) o = 0 ∧ 0 ≤ m_g g (183 + k) o ∧ m_g g (183 + k) o < m_g g 127 14 ∧ m_g g 133 (m_g g (183 + k) o) = 0 then m_g g (183 + k) o else -1
theorem n_sOf_b {g : m_H} {k o d : Int} (G : 0 ≤ m_g g 127 14) : n_sOf g k o d = -1 ∨ (0 ≤ n_sOf g k o d ∧ n_sOf g k o d < m_g g 127 14 ∧ m_g g 133 (n_sOf g k o d) = 0) := by
  unfold n_sOf
  split
  · have := n_lmN_b (g := g) (mk := m_g g (183 + k) o) (d := d) (m_g g 127 14).toNat 0
    rcases this with e | e
    · exact Or.inl e
    · right; exact ⟨e.1, by omega, e.2.2⟩
  · split
    · next c => right; exact ⟨c.2.1, c.2.2.1, c.2.2.2⟩
    · exact Or.inl rfl
theorem n_leastC {h g : m_H} {mk d : Int} (I : n_I h) (S : n_Rsh h g) (G : n_gs g) (m0 : 0 ≤ mk) (m1 : mk ≤ 999) (d1 : -2147483648 ≤ d) (d2 : d < 2147483648) : ∀ (n : Nat) (i : Int), 0 ≤ i → i + n = m_g g 127 14 → t7_leastMarked_c2 2 mk d i h = some (n_lmN g mk d n i, h) := by
  have B := G.1
  unfold n_shB at B
  have N := S.1.1
  intro n
  induction n with
  | zero =>
    intro i i0 i1
    rw [t7_leastMarked_c2, if_pos (n_t2 I.2), N, m_w_of (by omega) (by omega), m_w_of (by omega) (by omega), if_neg (by omega)]
    rfl
  | succ n ih =>
    intro i i0 i1
    have a := (n_st S ⟨i0, show i < m_g g 127 14 by omega⟩).1.2.1
    have mb := n_mk_b (s := i) (d := d) G (m_g g 127 27).toNat (by omega)
    rw [t7_leastMarked_c2, if_pos (n_t2 I.2), N, m_w_of (by omega) (by omega), m_w_of (by omega) (by omega), if_pos (by omega), n_lmN]
    by_cases c : m_g g 133 i = 0
    · rw [n_there_y I S G ⟨i0, by omega⟩ c, n_bs]
      show (if m_g h 3 i = 0 then _ else if m_t h 2 = 7 then t7_markOf 2 i d h >>= _ else none) = _
      rw [if_neg (by omega), if_pos (n_t2 I.2), n_t7markOf I S G (by omega) (by omega) d1 d2, n_bs]
      show (if m_w (n_mk g i d (m_g g 127 27).toNat) = m_w mk then some (i, h) else t7_leastMarked_c2 2 mk d (i + 1) h) = _
      rw [m_w_of (by omega) (by omega), m_w_of (by omega) (by omega)]
      by_cases e : n_mk g i d (m_g g 127 27).toNat = mk
      · rw [if_pos e, if_pos ⟨c, e⟩]
      · rw [if_neg e, if_neg (fun q => e q.2), ih (i + 1) (by omega) (by omega)]
    · rw [n_there_n I S G (by omega) (by omega) (fun q => c q.2.2), n_bs, if_neg (fun q => c q.1)]
      show (if (0 : Int) = 0 then t7_leastMarked_c2 2 mk d (i + 1) h else _) = _
      rw [if_pos rfl, ih (i + 1) (by omega) (by omega)]
theorem n_ledC {h g : m_H} {k a o d : Int} (I : n_I h) (S : n_Rsh h g) (G : n_gs g) (C : n_scc h g k a) (o0 : 0 ≤ o) (o1 : o < m_g g 151 k) (d1 : -2147483648 ≤ d) (d2 : d < 2147483648) : t3_stripOf 20 a o d h = some (n_sOf g k o d, h) := by
  have b := n_scc_b C o0 o1
  have B := G.1
  unfold n_shB at B
  have q3 := (n_scc_o C o0 o1).2.2.2.1
  have b1 := b.1
  have b2 := b.2.1
  have b3 := b.2.2.2.2.2.2.1
  have m9' := b.2.2.2.2.2.2.2.2.1
  clear b
  have t6 := n_scc_t C
  have n0 := n_numC (w := 0) I C o0 o1 (by omega) (by omega)
  rw [show 8 * o + (3 + (0 : Int)) = 8 * o + 3 by omega] at n0
  unfold t3_stripOf
  rw [if_pos t6, n0, n_bs]
  show (if m_t h a = 6 then t6_verb a o h >>= _ else none) = _
  rw [if_pos t6, n_verbC I C o0 o1, n_bs]
  show (if m_w (m_g g (153 + k) o) = 1 then _ else _) = _
  rw [m_w_of (x := m_g g (153 + k) o) (by omega) (by omega)]
  by_cases c1 : m_g g (153 + k) o = 1
  · have e3 := q3 (by omega)
    have b4 := b3 (by omega)
    rw [if_pos c1, if_pos (n_t20 I.2), n_p20_0 I.2, if_pos (n_t2 I.2), e3]
    have m9 := m9' c1
    unfold t7_leastMarked n_sOf
    rw [n_leastC I S G (by omega) m9 d1 d2 (m_g g 127 14).toNat 0 (by omega) (by omega), n_bs, if_pos c1]
  · rw [if_neg c1, if_pos t6, n_verbC I C o0 o1, n_bs]
    unfold n_sOf
    rw [if_neg c1]
    show (if m_w (m_g g (153 + k) o) = 0 then _ else some (-1, h)) = _
    rw [m_w_of (x := m_g g (153 + k) o) (by omega) (by omega)]
    by_cases c0 : m_g g (153 + k) o = 0
    · have e3 := q3 (by omega)
      have b4 := b3 (by omega)
      rw [if_pos c0, if_pos (n_t20 I.2), n_p20_0 I.2, if_pos (n_t2 I.2), e3]
      by_cases e : 0 ≤ m_g g (183 + k) o ∧ m_g g (183 + k) o < m_g g 127 14 ∧ m_g g 133 (m_g g (183 + k) o) = 0
      · have a2 := (n_st S ⟨e.1, e.2.1⟩).1.2.1
        rw [n_there_y I S G ⟨e.1, e.2.1⟩ e.2.2, n_bs, if_pos ⟨c0, e⟩]
        show (if m_g h 3 (m_g g (183 + k) o) = 0 then _ else _) = _
        rw [if_neg (by omega)]
      · rw [n_there_n I S G (by omega) (by omega) e, n_bs, if_neg (fun q => e q.2)]
        rfl
    · rw [if_neg c0, if_neg (fun q => c0 q.1)]
theorem n_ledR {g : m_H} {k o d : Int} (I : n_I g) (G : n_gs g) (k0 : 0 ≤ k) (k1 : k < 8) (o0 : 0 ≤ o) (o1 : o < 40) (b : n_ordB g k o) (v : m_g g (153 + k) o ≤ 1) (d1 : -2147483648 ≤ d) (d2 : d < 2147483648) : t11_stripOf 127 k o d g = some (n_sOf g k o d, g) := by
  have F := I.2
  have B := G.1
  unfold n_shB at B
  have tM := n_t127 F
  have b1 := b.1
  have b2 := b.2.1
  have b3 := b.2.2.2.2.2.2.1 (by omega)
  clear b
  have w3 := m_w_of (x := m_g g (183 + k) o) (by omega) (by omega)
  unfold t11_stripOf
  rw [m_w_of (x := k) (by omega) (by omega), m_w_of (x := o) (by omega) (by omega), if_pos tM, if_pos (n_c35 F k0 (by omega)), n_a35 F k0 (by omega), if_pos (n_d35 F k0 (by omega) o0 o1), m_w_of (x := m_g g (153 + k) o) (by omega) (by omega)]
  by_cases c0 : m_g g (153 + k) o = 0
  · have et := n_isThere (i := m_g g (183 + k) o) I G (by omega) (by omega)
    unfold n_sOf
    rw [if_pos c0, if_pos (n_c38 F k0 (by omega)), n_a38 F k0 (by omega), if_pos (n_d38 F k0 (by omega) o0 o1), et, n_bs, if_neg (show ¬ m_g g (153 + k) o = 1 by omega)]
    by_cases e : 0 ≤ m_g g (183 + k) o ∧ m_g g (183 + k) o < m_g g 127 14 ∧ m_g g 133 (m_g g (183 + k) o) = 0
    · rw [decide_eq_true e, if_pos ⟨c0, e⟩]
      show (if true = true then if m_t g 127 = 11 then if m_t g (m_g g 127 38) = 29 ∧ 0 ≤ k ∧ k < m_l g (m_g g 127 38) then if m_t g (m_g g (m_g g 127 38) k) = 20 ∧ 0 ≤ o ∧ o < m_l g (m_g g (m_g g 127 38) k) then some (m_g g (m_g g (m_g g 127 38) k) o, g) else none else none else none else _) = _
      rw [if_pos rfl, if_pos tM, if_pos (n_c38 F k0 (by omega)), n_a38 F k0 (by omega), if_pos (n_d38 F k0 (by omega) o0 o1)]
    · rw [decide_eq_false e, if_neg (fun q => e q.2)]
      rfl
  · rw [if_neg c0]
    have key : ∀ (n : Nat) (i : Int), 0 ≤ i → i + n = m_g g 127 14 → t11_stripOf_c42 127 k o d i g = some (n_lmN g (m_g g (183 + k) o) d n i, g) := by
      intro n
      induction n with
      | zero =>
        intro i i0 i1
        rw [t11_stripOf_c42, if_pos tM, m_w_of (by omega) (by omega), m_w_of (by omega) (by omega), if_neg (by omega)]
        rfl
      | succ n ih =>
        intro i i0 i1
        have mb := n_mk_b (s := i) (d := d) G (m_g g 127 27).toNat (by omega)
        rw [t11_stripOf_c42, if_pos tM, m_w_of (x := i) (by omega) (by omega), m_w_of (x := m_g g 127 14) (by omega) (by omega), if_pos (by omega), n_isThere I G (by omega) (by omega), n_bs, n_lmN]
        by_cases c : m_g g 133 i = 0
        · rw [decide_eq_true ⟨i0, by omega, c⟩]
          show (if true = true then if m_t g 127 = 11 then t11_markOf 127 i d g >>= _ else none else _) = _
          rw [if_pos rfl, if_pos tM, n_t11markOf I G (by omega) (by omega) d1 d2, n_bs]
          show (if m_t g 127 = 11 then if m_t g (m_g g 127 38) = 29 ∧ 0 ≤ m_w k ∧ m_w k < m_l g (m_g g 127 38) then if m_t g (m_g g (m_g g 127 38) (m_w k)) = 20 ∧ 0 ≤ m_w o ∧ m_w o < m_l g (m_g g (m_g g 127 38) (m_w k)) then if m_w (n_mk g i d (m_g g 127 27).toNat) = m_w (m_g g (m_g g (m_g g 127 38) (m_w k)) (m_w o)) then some (i, g) else t11_stripOf_c42 127 k o d (i + 1) g else none else none else none) = _
          rw [if_pos tM, m_w_of (x := k) (by omega) (by omega), m_w_of (x := o) (by omega) (by omega), if_pos (n_c38 F k0 (by omega)), n_a38 F k0 (by omega), if_pos (n_d38 F k0 (by omega) o0 o1), m_w_of (x := n_mk g i d (m_g g 127 27).toNat) (by omega) (by omega), w3]
          by_cases e : n_mk g i d (m_g g 127 27).toNat = m_g g (183 + k) o
          · rw [if_pos e, if_pos ⟨c, e⟩]
          · rw [if_neg e, if_neg (fun q => e q.2), ih (i + 1) (by omega) (by omega)]
        · rw [decide_eq_false (fun q => c q.2.2), if_neg (fun q => c q.1)]
          show t11_stripOf_c42 127 k o d (i + 1) g = _
          rw [ih (i + 1) (by omega) (by omega)]
    rw [key (m_g g 127 14).toNat 0 (by omega) (by omega)]
    unfold n_sOf
    rw [if_pos (by omega)]
