/-! THE HEAP OF BOTH OBJECTS: cells are there or not; rows are apart -/
/-- kinds; every row has an array of its own, that is no other cell's; caps -/
def n_wf (h : m_H) : Prop :=
  (∀ a, m_t h a ≠ -1 → 1 ≤ a ∧ a < m_n h) ∧ 312 ≤ m_n h ∧
  (∀ r, m_t h r = 5 → n_row h r ∧ n_cap h r ≤ 6000 ∧ (m_g h r 0 < 312 → n_cap h r = 0)) ∧
  (∀ r q, m_t h r = 5 → m_t h q = 5 → r ≠ q → m_g h r 0 ≠ m_g h q 0) ∧
  (∀ s, m_t h s = 6 → m_t h (m_g h s 0) = 20 ∧ m_t h (m_g h s 3) = 20 ∧ m_l h (m_g h s 3) = 40 ∧ m_l h (m_g h s 0) < 60000000 ∧ ∀ r, m_t h r = 5 → m_g h r 0 ≠ m_g h s 0 ∧ m_g h r 0 ≠ m_g h s 3)
theorem n_wf_row {h : m_H} (W : n_wf h) {r : Int} (hr : m_t h r = 5) : n_row h r := (W.2.2.1 r hr).1
theorem n_wf_lt {h : m_H} (W : n_wf h) {r : Int} (hr : m_t h r = 5) : r < m_n h ∧ m_g h r 0 < m_n h ∧ n_cap h r ≤ 6000 ∧ 1 ≤ r ∧ 1 ≤ m_g h r 0 := by
  have h1 := W.1 r (by omega)
  have h2 := W.1 (m_g h r 0) (by rw [(n_wf_row W hr).2.1]; omega)
  exact ⟨h1.2, h2.2, (W.2.2.1 r hr).2.1, h1.1, h2.1⟩
/-- a cell that is no row and no row's array -/
def n_sf (h : m_H) (b : Int) : Prop := b < m_n h ∧ m_t h b ≠ 5 ∧ ∀ r, m_t h r = 5 → m_g h r 0 ≠ b
/-- nothing has changed but the row v and its array, and what is new -/
def n_ch (h h' : m_H) (v : Int) : Prop :=
  (∀ b, b < m_n h → m_t h' b = m_t h b ∧ m_l h' b = m_l h b) ∧
  (∀ b, b < m_n h → b ≠ v → b ≠ m_g h v 0 → ∀ j, m_g h' b j = m_g h b j) ∧
  (∀ b, m_n h ≤ b → m_t h' b = -1 ∨ (m_t h' b = 20 ∧ b < m_n h')) ∧
  (m_g h' v 0 = m_g h v 0 ∨ m_n h ≤ m_g h' v 0) ∧ m_g h' v 0 < m_n h' ∧ m_n h ≤ m_n h' ∧
  m_n h' + n_cap h v ≤ m_n h + n_cap h' v ∧ m_s h' + 2 * n_cap h v ≤ m_s h + 2 * n_cap h' v ∧ n_cap h v ≤ n_cap h' v
theorem n_ch_rfl {h : m_H} {v : Int} (W : n_wf h) (hv : m_t h v = 5) : n_ch h h v := by
  have := n_wf_lt W hv
  refine ⟨fun b _ => ⟨rfl, rfl⟩, fun b _ _ _ j => rfl, fun b hb => Or.inl ?_, Or.inl rfl, this.2.1, Int.le_refl _, Int.le_refl _, Int.le_refl _, Int.le_refl _⟩
  by_cases c : m_t h b = -1
  · exact c
  · have := W.1 b c
    omega
theorem n_ch_trans {h h1 h2 : m_H} {v : Int} (A : n_ch h h1 v) (B : n_ch h1 h2 v) (hv : v < m_n h) (ha : m_g h v 0 < m_n h) : n_ch h h2 v := by
  obtain ⟨a1, a2, a3, a4, a5, a6, a7, a8, a9⟩ := A
  obtain ⟨b1, b2, b3, b4, b5, b6, b7, b8, b9⟩ := B
  refine ⟨fun b hb => ?_, fun b hb h1 h2 j => ?_, fun b hb => ?_, ?_, b5, by omega, by omega, by omega, by omega⟩
  · have := a1 b hb
    have := b1 b (by omega)
    omega
  · rw [b2 b (by omega) h1 (by omega) j, a2 b hb h1 h2 j]
  · by_cases c : b < m_n h1
    · rcases a3 b hb with q | q
      · exact Or.inl ((b1 b c).1.trans q)
      · exact Or.inr ⟨(b1 b c).1.trans q.1, by omega⟩
    · exact b3 b (by omega)
  · omega
theorem n_row_fl {h : m_H} {w a lo hi : Int} {f : Int → Int} (R : n_row h w) (ha : m_t h a = 20) : n_row (n_fl h a lo hi f) w := by
  have e : w ≠ a := fun e => by have := R.1; rw [e] at this; omega
  have e0 : ∀ j, m_g (n_fl h a lo hi f) w j = m_g h w j := fun j => by rw [n_g_fl, if_neg (fun q => e q.1)]
  unfold n_row
  rw [e0, e0]
  exact R
theorem n_rg_fl {h : m_H} {w a lo hi i : Int} {f : Int → Int} (R : n_row h w) (ha : m_t h a = 20) (hw : m_g h w 0 ≠ a) : n_rg (n_fl h a lo hi f) w i = n_rg h w i := by
  have e : w ≠ a := fun e => by have := R.1; rw [e] at this; omega
  have e0 : ∀ j, m_g (n_fl h a lo hi f) w j = m_g h w j := fun j => by rw [n_g_fl, if_neg (fun q => e q.1)]
  have e2 : m_g (n_fl h a lo hi f) (m_g h w 0) i = m_g h (m_g h w 0) i := by rw [n_g_fl, if_neg (fun q => hw q.1)]
  unfold n_rg
  rw [e0, e0, e2]
theorem n_rg_fls {h : m_H} {w a lo hi i : Int} {f : Int → Int} (R : n_row h w) (hw : m_g h w 0 = a) : n_rg (n_fl h a lo hi f) w i = if 0 ≤ i ∧ i < m_g h w 1 then (if lo ≤ i ∧ i < hi then f i else m_g h a i) else 0 := by
  have e : w ≠ a := fun e => by have := R.1; have := R.2.1; rw [hw, ← e] at this; omega
  have e0 : ∀ j, m_g (n_fl h a lo hi f) w j = m_g h w j := fun j => by rw [n_g_fl, if_neg (fun q => e q.1)]
  have e2 : m_g (n_fl h a lo hi f) a i = if lo ≤ i ∧ i < hi then f i else m_g h a i := by
    rw [n_g_fl]
    by_cases c : lo ≤ i ∧ i < hi
    · rw [if_pos ⟨rfl, c⟩, if_pos c]
    · rw [if_neg (fun q => c q.2), if_neg c]
  unfold n_rg
  rw [e0, e0, hw, e2]
theorem n_ch_fl {h h1 : m_H} {v lo hi : Int} {f : Int → Int} (A : n_ch h h1 v) (R : n_row h1 v) (hv : v < m_n h) : n_ch h (n_fl h1 (m_g h1 v 0) lo hi f) v := by
  obtain ⟨a1, a2, a3, a4, a5, a6, a7, a8, a9⟩ := A
  have e : v ≠ m_g h1 v 0 := fun e => by have := R.1; have := R.2.1; rw [← e] at this; omega
  have e0 : m_g (n_fl h1 (m_g h1 v 0) lo hi f) v 0 = m_g h1 v 0 := by rw [n_g_fl, if_neg (fun q => e q.1)]
  have ec : n_cap (n_fl h1 (m_g h1 v 0) lo hi f) v = n_cap h1 v := by unfold n_cap; rw [e0]; rfl
  refine ⟨a1, fun b hb h1 h2 j => ?_, a3, by rw [e0]; exact a4, by rw [e0]; exact a5, a6, by rw [ec]; exact a7, by rw [ec]; exact a8, by rw [ec]; exact a9⟩
  rw [n_g_fl, if_neg (fun q => by omega), a2 b hb h1 h2 j]
theorem n_wf_ch {h h' : m_H} {v : Int} (W : n_wf h) (hv : m_t h v = 5) (A : n_ch h h' v) (R : n_row h' v) (hc : n_cap h' v ≤ 6000) : n_wf h' := by
  obtain ⟨a1, a2, a3, a4, a5, a6, a7, a8, a9⟩ := A
  obtain ⟨w1, w2, w3, w4, w5⟩ := W
  have W : n_wf h := ⟨w1, w2, w3, w4, w5⟩
  have kd : ∀ b, m_t h' b = m_t h b ∨ (m_n h ≤ b ∧ m_t h' b = 20 ∧ b < m_n h') := fun b => by
    by_cases c : b < m_n h
    · exact Or.inl (a1 b c).1
    · rcases a3 b (by omega) with q | q
      · left
        rw [q]
        by_cases c2 : m_t h b = -1
        · exact c2.symm
        · have := w1 b c2; omega
      · exact Or.inr ⟨by omega, q⟩
  have k5 : ∀ r, m_t h' r = 5 → m_t h r = 5 := fun r hr => by rcases kd r with q | q <;> omega
  have k6 : ∀ r, m_t h' r = 6 → m_t h r = 6 := fun r hr => by rcases kd r with q | q <;> omega
  have old : ∀ r, m_t h r = 5 → r ≠ v → ∀ j, m_g h' r j = m_g h r j := fun r hr hn j => by
    refine a2 r (n_wf_lt W hr).1 hn (fun e => ?_) j
    have := (n_wf_row W hv).2.1
    rw [← e] at this
    omega
  refine ⟨fun a ha => ?_, by omega, fun r hr => ?_, fun r q hr hq hn => ?_, fun s hs => ?_⟩
  · rcases kd a with q | q
    · have := w1 a (by omega); omega
    · omega
  · have hr5 := k5 r hr
    by_cases c : r = v
    · subst c
      refine ⟨R, hc, fun q => ?_⟩
      have q2 : m_g h' r 0 = m_g h r 0 := by omega
      have := (w3 r hr5).2.2 (by omega)
      unfold n_cap at this ⊢
      rw [q2, (a1 _ (n_wf_lt W hr5).2.1).2]
      exact this
    · have l := n_wf_lt W hr5
      obtain ⟨q1, q2, q3⟩ := w3 r hr5
      unfold n_row n_cap at *
      rw [old r hr5 c, old r hr5 c, (a1 r l.1).1, (a1 _ l.2.1).1, (a1 _ l.2.1).2]
      exact ⟨q1, q2, q3⟩
  · have hr5 := k5 r hr
    have hq5 := k5 q hq
    have := w4 r q hr5 hq5 hn
    have lr := n_wf_lt W hr5
    have lq := n_wf_lt W hq5
    by_cases c : r = v
    · subst c
      rw [old q hq5 (Ne.symm hn)]
      rcases a4 with e | e <;> omega
    · rw [old r hr5 c]
      by_cases c2 : q = v
      · subst c2
        rcases a4 with e | e <;> omega
      · rw [old q hq5 c2]
        exact this
  · have hs6 := k6 s hs
    obtain ⟨s1, s2, s3, s4, s5⟩ := w5 s hs6
    have ls := w1 s (by omega)
    have l0 := w1 (m_g h s 0) (by omega)
    have l3 := w1 (m_g h s 3) (by omega)
    have es : ∀ j, m_g h' s j = m_g h s j := fun j => by
      refine a2 s ls.2 (fun e => by rw [e] at hs6; omega) (fun e => ?_) j
      have := (n_wf_row W hv).2.1
      rw [← e] at this
      omega
    rw [es, es]
    refine ⟨(a1 _ l0.2).1.trans s1, (a1 _ l3.2).1.trans s2, (a1 _ l3.2).2.trans s3, by rw [(a1 _ l0.2).2]; exact s4, fun r hr => ?_⟩
    have hr5 := k5 r hr
    have := s5 r hr5
    by_cases c : r = v
    · subst c
      rcases a4 with e | e <;> omega
    · rw [old r hr5 c]
      exact this
theorem n_rsz_ch {h : m_H} {v n : Int} (W : n_wf h) (hv : m_t h v = 5) (h0 : 0 ≤ n) (hn : n ≤ 3000) : n_row (n_rsz h v n) v ∧ m_g (n_rsz h v n) v 1 = n ∧ n_ch h (n_rsz h v n) v ∧ n_cap (n_rsz h v n) v ≤ 6000 ∧ ∀ j, 0 ≤ j → j < m_g h v 1 → j < n → m_g (n_rsz h v n) (m_g (n_rsz h v n) v 0) j = m_g h (m_g h v 0) j := by
  obtain ⟨r1, r2, r3, r4, r5⟩ := n_wf_row W hv
  have l := n_wf_lt W hv
  have hva : v ≠ m_g h v 0 := fun e => by rw [← e] at r2; omega
  by_cases c : n_cap h v < n
  · generalize hz : max n (2 * n_cap h v) = z
    have e : n_rsz h v n = m_p (m_p (m_cp (m_a h 20 z) (m_g h v 0) 0 (m_n h) 0 (n_cap h v)) v 0 (m_n h)) v 1 n := by unfold n_rsz; rw [if_pos c, hz]
    unfold n_cap at c hz l
    have g0 : m_g (n_rsz h v n) v 0 = m_n h := by rw [e]; simp (disch := omega) only [m_w_of, n_ltT, n_ltF, n_leT, n_leF, n_eqT, n_eqF, n_bs, n_bn, ↓reduceIte, true_and, and_true, and_self, false_and, and_false, or_true, true_or, or_false, false_or, not_true_eq_false, not_false_eq_true, Bool.false_eq_true, reduceCtorEq, eq_self, m_g_p, m_t_p, m_l_p, m_n_p, m_s_p, n_g_fl, n_t_fl, n_l_fl, n_n_fl, n_s_fl]
    have g1 : m_g (n_rsz h v n) v 1 = n := by rw [e]; simp (disch := omega) only [m_w_of, n_ltT, n_ltF, n_leT, n_leF, n_eqT, n_eqF, n_bs, n_bn, ↓reduceIte, true_and, and_true, and_self, false_and, and_false, or_true, true_or, or_false, false_or, not_true_eq_false, not_false_eq_true, Bool.false_eq_true, reduceCtorEq, eq_self, m_g_p, m_t_p, m_l_p, m_n_p, m_s_p, n_g_fl, n_t_fl, n_l_fl, n_n_fl, n_s_fl]
    have ec : n_cap (n_rsz h v n) v = z := by unfold n_cap; rw [g0, e]; simp only [m_g_p, m_t_p, m_l_p, m_n_p, m_s_p, n_g_fl, n_t_fl, n_l_fl, n_n_fl, n_s_fl, m_l_cp, m_l_a, if_true]
    have ec' : n_cap h v = m_l h (m_g h v 0) := rfl
    refine ⟨⟨?_, ?_, by omega, by rw [g1]; unfold n_cap at ec; omega, by unfold n_cap at ec; omega⟩, g1, ⟨fun b hb => ?_, fun b hb h1 h2 j => ?_, fun b hb => ?_, Or.inr (by omega), ?_, ?_, ?_, ?_, by omega⟩, by omega, fun j hj0 hj hjn => ?_⟩
    · rw [e]; simp only [m_g_p, m_t_p, m_l_p, m_n_p, m_s_p, n_g_fl, n_t_fl, n_l_fl, n_n_fl, n_s_fl, m_t_cp, m_t_a]; rw [if_neg (by omega)]; exact r1
    · rw [g0, e]; simp only [m_g_p, m_t_p, m_l_p, m_n_p, m_s_p, n_g_fl, n_t_fl, n_l_fl, n_n_fl, n_s_fl, m_t_cp, m_t_a, if_true]
    · rw [e]; simp only [m_g_p, m_t_p, m_l_p, m_n_p, m_s_p, n_g_fl, n_t_fl, n_l_fl, n_n_fl, n_s_fl, m_t_cp, m_t_a, m_l_cp, m_l_a]; rw [if_neg (by omega), if_neg (by omega)]; exact ⟨rfl, rfl⟩
    · rw [e]; simp only [m_g_p, m_t_p, m_l_p, m_n_p, m_s_p, n_g_fl, n_t_fl, n_l_fl, n_n_fl, n_s_fl, m_g_cp, m_g_a]; rw [if_neg (by omega), if_neg (by omega), if_neg (by omega), if_neg (by omega)]
    · rw [e]
      simp only [m_g_p, m_t_p, m_l_p, m_n_p, m_s_p, n_g_fl, n_t_fl, n_l_fl, n_n_fl, n_s_fl, m_t_cp, m_t_a, m_n_cp, m_n_a]
      by_cases c2 : b = m_n h
      · rw [if_pos c2]; omega
      · rw [if_neg c2]
        left
        by_cases c3 : m_t h b = -1
        · exact c3
        · have := W.1 b c3; omega
    · rw [g0, e]; simp only [m_g_p, m_t_p, m_l_p, m_n_p, m_s_p, n_g_fl, n_t_fl, n_l_fl, n_n_fl, n_s_fl, m_n_cp, m_n_a]; omega
    · rw [e]; simp only [m_g_p, m_t_p, m_l_p, m_n_p, m_s_p, n_g_fl, n_t_fl, n_l_fl, n_n_fl, n_s_fl, m_n_cp, m_n_a]; omega
    · rw [ec, e]; simp only [m_g_p, m_t_p, m_l_p, m_n_p, m_s_p, n_g_fl, n_t_fl, n_l_fl, n_n_fl, n_s_fl, m_n_cp, m_n_a]; omega
    · rw [ec, e]; simp only [m_g_p, m_t_p, m_l_p, m_n_p, m_s_p, n_g_fl, n_t_fl, n_l_fl, n_n_fl, n_s_fl, m_s_cp, m_s_a]; omega
    · rw [g0, e]
      simp only [m_g_p, m_t_p, m_l_p, m_n_p, m_s_p, n_g_fl, n_t_fl, n_l_fl, n_n_fl, n_s_fl, m_g_cp, m_g_a]
      rw [if_neg (by omega), if_neg (by omega)]
      have q : True ∧ 0 ≤ j ∧ j < 0 + n_cap h v := ⟨trivial, hj0, by omega⟩
      rw [if_pos q, if_neg (by omega)]
      congr 1; omega
  · have e : n_rsz h v n = m_p h v 1 n := by unfold n_rsz; rw [if_neg c]
    unfold n_cap at c
    have g0 : m_g (n_rsz h v n) v 0 = m_g h v 0 := by rw [e]; simp (disch := omega) only [m_w_of, n_ltT, n_ltF, n_leT, n_leF, n_eqT, n_eqF, n_bs, n_bn, ↓reduceIte, true_and, and_true, and_self, false_and, and_false, or_true, true_or, or_false, false_or, not_true_eq_false, not_false_eq_true, Bool.false_eq_true, reduceCtorEq, eq_self, m_g_p, m_t_p, m_l_p, m_n_p, m_s_p, n_g_fl, n_t_fl, n_l_fl, n_n_fl, n_s_fl]
    have g1 : m_g (n_rsz h v n) v 1 = n := by rw [e]; simp (disch := omega) only [m_w_of, n_ltT, n_ltF, n_leT, n_leF, n_eqT, n_eqF, n_bs, n_bn, ↓reduceIte, true_and, and_true, and_self, false_and, and_false, or_true, true_or, or_false, false_or, not_true_eq_false, not_false_eq_true, Bool.false_eq_true, reduceCtorEq, eq_self, m_g_p, m_t_p, m_l_p, m_n_p, m_s_p, n_g_fl, n_t_fl, n_l_fl, n_n_fl, n_s_fl]
    have ec : n_cap (n_rsz h v n) v = n_cap h v := by unfold n_cap; rw [g0, e]; simp only [m_g_p, m_t_p, m_l_p, m_n_p, m_s_p, n_g_fl, n_t_fl, n_l_fl, n_n_fl, n_s_fl]
    have ec' : n_cap h v = m_l h (m_g h v 0) := rfl
    refine ⟨⟨?_, ?_, by omega, by rw [g1]; unfold n_cap at ec; omega, by unfold n_cap at ec; omega⟩, g1, ⟨fun b hb => ?_, fun b hb h1 h2 j => ?_, fun b hb => ?_, Or.inl g0, ?_, ?_, ?_, ?_, by omega⟩, by omega, fun j hj0 hj hjn => ?_⟩
    · rw [e]; exact r1
    · rw [g0, e]; exact r2
    · rw [e]; exact ⟨rfl, rfl⟩
    · rw [e]; simp only [m_g_p, m_t_p, m_l_p, m_n_p, m_s_p, n_g_fl, n_t_fl, n_l_fl, n_n_fl, n_s_fl]; rw [if_neg (by omega)]
    · rw [e]
      simp only [m_g_p, m_t_p, m_l_p, m_n_p, m_s_p, n_g_fl, n_t_fl, n_l_fl, n_n_fl, n_s_fl]
      left
      by_cases c3 : m_t h b = -1
      · exact c3
      · have := W.1 b c3; omega
    · rw [g0, e]; simp only [m_g_p, m_t_p, m_l_p, m_n_p, m_s_p, n_g_fl, n_t_fl, n_l_fl, n_n_fl, n_s_fl]; omega
    · rw [e]; simp only [m_g_p, m_t_p, m_l_p, m_n_p, m_s_p, n_g_fl, n_t_fl, n_l_fl, n_n_fl, n_s_fl]; omega
    · rw [ec, e]; simp only [m_g_p, m_t_p, m_l_p, m_n_p, m_s_p, n_g_fl, n_t_fl, n_l_fl, n_n_fl, n_s_fl]; omega
    · rw [ec, e]; simp only [m_g_p, m_t_p, m_l_p, m_n_p, m_s_p, n_g_fl, n_t_fl, n_l_fl, n_n_fl, n_s_fl]; omega
    · rw [g0, e]
      simp only [m_g_p, m_t_p, m_l_p, m_n_p, m_s_p, n_g_fl, n_t_fl, n_l_fl, n_n_fl, n_s_fl]
      rw [if_neg (by omega)]
