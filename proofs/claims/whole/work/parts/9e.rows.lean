/-! CALLS: make, fails, open: the rows of the orders, pure -/
/-- an echo: the first n samples are made, those behind are still the row's own -/
def n_ecT (r : Int → Int) (a b : Int) : Nat → Int → Int
  | 0 => r
  | n + 1 => fun j => if j = n then (if (n : Int) < a then r n else n_cl (r n + Int.tdiv (n_ecT r a b n (n - a) * b) 256)) else n_ecT r a b n j
theorem n_ecT_s (r : Int → Int) (a b : Int) (n : Nat) (j : Int) : n_ecT r a b (n + 1) j = if j = n then (if (n : Int) < a then r n else n_cl (r n + Int.tdiv (n_ecT r a b n (n - a) * b) 256)) else n_ecT r a b n j := rfl
/-- a fade: in, then out -/
def n_fdI (r : Int → Int) (a i : Int) : Int := if i < a then Int.tdiv (r i * i) a else r i
def n_fdO (r : Int → Int) (n b i : Int) : Int := if n - b ≤ i then Int.tdiv (r i * (n - 1 - i)) b else r i
def n_z (r : Int → Int) (n i : Int) : Int := if 0 ≤ i ∧ i < n then r i else 0
def n_ft (r : Int → Int) (n x y z i : Int) : Int := Int.tdiv (n_z r n (i - 1) * x + r i * y + n_z r n (i + 1) * z) 64
/-- the length of the row of order o, by the lengths L of those ahead -/
def n_rL (g : m_H) (k d : Int) (L : Int → Int) (o : Int) : Int :=
  if m_g g (153 + k) o ≤ 1 then m_g g 131 (n_sOf g k o d)
  else if m_g g (153 + k) o = 2 then m_g g (193 + k) o - m_g g (183 + k) o
  else if m_g g (153 + k) o = 4 then Int.tdiv ((L (m_g g (163 + k) o) - 1) * m_g g (193 + k) o) (m_g g (183 + k) o) + 1
  else if m_g g (153 + k) o = 5 then L (m_g g (163 + k) o) + L (m_g g (173 + k) o) - m_g g (183 + k) o
  else if m_g g (153 + k) o = 6 then m_g g (183 + k) o
  else if m_g g (153 + k) o = 8 then Int.tdiv ((L (m_g g (163 + k) o) - 1) * 1000) (1000 + m_g g 142 (m_g g (183 + k) o)) + 1
  else L (m_g g (163 + k) o)
/-- whether order o stands -/
def n_rK (g : m_H) (k d : Int) (L : Int → Int) (o : Int) : Bool :=
  if m_g g (153 + k) o ≤ 1 then decide (n_sOf g k o d ≠ -1)
  else if m_g g (153 + k) o = 2 then decide (m_g g (183 + k) o < m_g g (193 + k) o ∧ m_g g (193 + k) o ≤ L (m_g g (163 + k) o))
  else if m_g g (153 + k) o = 4 then decide (n_rL g k d L o ≤ 1500)
  else if m_g g (153 + k) o = 5 then decide (m_g g (183 + k) o ≤ L (m_g g (163 + k) o) ∧ m_g g (183 + k) o ≤ L (m_g g (173 + k) o) ∧ n_rL g k d L o ≤ 1500)
  else if m_g g (153 + k) o = 6 then decide (1 ≤ m_g g (183 + k) o)
  else if m_g g (153 + k) o = 8 then decide (m_g g (183 + k) o < m_g g 127 23 ∧ n_rL g k d L o ≤ 1500)
  else if m_g g (153 + k) o = 10 then decide (m_g g (183 + k) o ≤ L (m_g g (163 + k) o) ∧ m_g g (193 + k) o ≤ L (m_g g (163 + k) o))
  else if m_g g (153 + k) o = 12 then decide (m_g g (183 + k) o + (m_g g (213 + k) o - 1) * m_g g (223 + k) o + L (m_g g (163 + k) o) ≤ 3000)
  else true
/-- sample i of the row of order o, by the rows S of those ahead -/
def n_rS (g : m_H) (k d : Int) (L : Int → Int) (S : Int → Int → Int) (o i : Int) : Int :=
  if m_g g (153 + k) o ≤ 1 then n_smp g (n_sOf g k o d) i
  else if m_g g (153 + k) o = 2 then S (m_g g (163 + k) o) (m_g g (183 + k) o + i)
  else if m_g g (153 + k) o = 3 then S (m_g g (163 + k) o) (L (m_g g (163 + k) o) - 1 - i)
  else if m_g g (153 + k) o = 4 then n_cl (n_play (S (m_g g (163 + k) o)) (L (m_g g (163 + k) o)) i (m_g g (183 + k) o) (m_g g (193 + k) o))
  else if m_g g (153 + k) o = 5 then n_jn (S (m_g g (163 + k) o)) (S (m_g g (173 + k) o)) (L (m_g g (163 + k) o) - m_g g (183 + k) o) (m_g g (183 + k) o) i
  else if m_g g (153 + k) o = 6 then S (m_g g (163 + k) o) (Int.tmod i (L (m_g g (163 + k) o)))
  else if m_g g (153 + k) o = 7 then n_ecT (S (m_g g (163 + k) o)) (m_g g (183 + k) o) (m_g g (193 + k) o) (L (m_g g (163 + k) o)).toNat i
  else if m_g g (153 + k) o = 8 then n_cl (Int.tdiv (n_cl (n_play (S (m_g g (163 + k) o)) (L (m_g g (163 + k) o)) i (1000 + m_g g 142 (m_g g (183 + k) o)) 1000) * m_g g 143 (m_g g (183 + k) o)) 64)
  else if m_g g (153 + k) o = 9 then n_cl (n_ft (S (m_g g (163 + k) o)) (L (m_g g (163 + k) o)) (m_g g (183 + k) o) (m_g g (193 + k) o) (m_g g (203 + k) o) i)
  else if m_g g (153 + k) o = 10 then n_fdO (n_fdI (S (m_g g (163 + k) o)) (m_g g (183 + k) o)) (L (m_g g (163 + k) o)) (m_g g (193 + k) o) i
  else n_cl (Int.tdiv (S (m_g g (163 + k) o) i * m_g g (183 + k) o) 64)
/-! the first n orders -/
def n_pL (g : m_H) (k d : Int) : Nat → Int → Int
  | 0 => fun _ => 0
  | n + 1 => fun j => if j = n then n_rL g k d (n_pL g k d n) n else n_pL g k d n j
def n_pS (g : m_H) (k d : Int) : Nat → Int → Int → Int
  | 0 => fun _ _ => 0
  | n + 1 => fun j => if j = n then n_rS g k d (n_pL g k d n) (n_pS g k d n) n else n_pS g k d n j
theorem n_pL_s (g : m_H) (k d : Int) (n : Nat) (j : Int) : n_pL g k d (n + 1) j = if j = n then n_rL g k d (n_pL g k d n) n else n_pL g k d n j := rfl
theorem n_pS_s (g : m_H) (k d : Int) (n : Nat) (j : Int) : n_pS g k d (n + 1) j = if j = n then n_rS g k d (n_pL g k d n) (n_pS g k d n) n else n_pS g k d n j := rfl
theorem n_pL_st (g : m_H) (k d : Int) : ∀ (q n : Nat) (j : Int), j < n → n_pL g k d (n + q) j = n_pL g k d n j
  | 0, n, j, _ => rfl
  | q + 1, n, j, h => by rw [show n + (q + 1) = (n + q) + 1 by omega, n_pL_s, if_neg (by omega), n_pL_st g k d q n j h]
theorem n_pS_st (g : m_H) (k d : Int) : ∀ (q n : Nat) (j : Int), j < n → n_pS g k d (n + q) j = n_pS g k d n j
  | 0, n, j, _ => rfl
  | q + 1, n, j, h => by rw [show n + (q + 1) = (n + q) + 1 by omega, n_pS_s, if_neg (by omega), n_pS_st g k d q n j h]
def n_L (g : m_H) (k d o : Int) : Int := n_pL g k d (o.toNat + 1) o
def n_S (g : m_H) (k d o : Int) : Int → Int := n_pS g k d (o.toNat + 1) o
theorem n_L_at {g : m_H} {k d j : Int} {n : Nat} (j0 : 0 ≤ j) (j1 : j < n) : n_pL g k d n j = n_L g k d j := by
  have := n_pL_st g k d (n - (j.toNat + 1)) (j.toNat + 1) j (by omega)
  rw [show j.toNat + 1 + (n - (j.toNat + 1)) = n by omega] at this
  exact this
theorem n_S_at {g : m_H} {k d j : Int} {n : Nat} (j0 : 0 ≤ j) (j1 : j < n) : n_pS g k d n j = n_S g k d j := by
  have := n_pS_st g k d (n - (j.toNat + 1)) (j.toNat + 1) j (by omega)
  rw [show j.toNat + 1 + (n - (j.toNat + 1)) = n by omega] at this
  exact this
/-- rows are made of rows ahead alone -/
theorem n_rL_c {g : m_H} {k d o : Int} {L L' : Int → Int} (b : n_ordB g k o) (e : ∀ j, 0 ≤ j → j < o → L j = L' j) : n_rL g k d L o = n_rL g k d L' o := by
  unfold n_rL
  by_cases c1 : m_g g (153 + k) o ≤ 1
  · rw [if_pos c1, if_pos c1]
  · have q := b.2.2.2.1 (by omega)
    rw [if_neg c1, if_neg c1, e _ q.1 q.2.1]
    by_cases c5 : m_g g (153 + k) o = 5
    · have q2 := b.2.2.2.2.2.1 c5
      rw [e _ q2.1 q2.2.1]
    · rw [if_neg c5, if_neg c5]
theorem n_rK_c {g : m_H} {k d o : Int} {L L' : Int → Int} (b : n_ordB g k o) (e : ∀ j, 0 ≤ j → j < o → L j = L' j) : n_rK g k d L o = n_rK g k d L' o := by
  have eL := n_rL_c (d := d) b e
  unfold n_rK
  by_cases c1 : m_g g (153 + k) o ≤ 1
  · rw [if_pos c1, if_pos c1]
  · have q := b.2.2.2.1 (by omega)
    rw [if_neg c1, if_neg c1, eL, e _ q.1 q.2.1]
    by_cases c5 : m_g g (153 + k) o = 5
    · have q2 := b.2.2.2.2.2.1 c5
      rw [e _ q2.1 q2.2.1]
    · rw [if_neg c5, if_neg c5]
theorem n_rS_c {g : m_H} {k d o : Int} {L L' : Int → Int} {S S' : Int → Int → Int} (b : n_ordB g k o) (e : ∀ j, 0 ≤ j → j < o → L j = L' j) (f : ∀ j, 0 ≤ j → j < o → S j = S' j) (i : Int) : n_rS g k d L S o i = n_rS g k d L' S' o i := by
  unfold n_rS
  by_cases c1 : m_g g (153 + k) o ≤ 1
  · rw [if_pos c1, if_pos c1]
  · have q := b.2.2.2.1 (by omega)
    rw [if_neg c1, if_neg c1, e _ q.1 q.2.1, f _ q.1 q.2.1]
    by_cases c5 : m_g g (153 + k) o = 5
    · have q2 := b.2.2.2.2.2.1 c5
      rw [f _ q2.1 q2.2.1]
    · rw [if_neg c5, if_neg c5]
theorem n_L_eq {g : m_H} {k d o : Int} (b : n_ordB g k o) (o0 : 0 ≤ o) : n_L g k d o = n_rL g k d (n_L g k d) o := by
  unfold n_L
  rw [n_pL_s, if_pos (by omega), show ((o.toNat : Nat) : Int) = o by omega]
  exact n_rL_c b (fun j j0 j1 => n_L_at j0 (by omega))
theorem n_S_eq {g : m_H} {k d o : Int} (b : n_ordB g k o) (o0 : 0 ≤ o) (i : Int) : n_S g k d o i = n_rS g k d (n_L g k d) (n_S g k d) o i := by
  unfold n_S
  rw [n_pS_s, if_pos (by omega), show ((o.toNat : Nat) : Int) = o by omega]
  exact n_rS_c b (fun j j0 j1 => n_L_at j0 (by omega)) (fun j j0 j1 => n_S_at j0 (by omega)) i
/-! bounds -/
def n_sB (r : Int → Int) (n : Int) : Prop := ∀ i, 0 ≤ i → i < n → -32768 ≤ r i ∧ r i ≤ 32767
theorem n_ecT_b {r : Int → Int} {a b N : Int} (hr : n_sB r N) (a1 : 1 ≤ a) : ∀ (n : Nat), n ≤ N → n_sB (n_ecT r a b n) N
  | 0, _ => hr
  | n + 1, hn => fun i i0 i1 => by
    rw [n_ecT_s]
    by_cases c : i = n
    · rw [if_pos c]
      by_cases d : (n : Int) < a
      · rw [if_pos d]; exact hr n (by omega) (by omega)
      · rw [if_neg d]; exact ⟨n_cl_lo _, n_cl_hi _⟩
    · rw [if_neg c]
      exact n_ecT_b hr a1 n (by omega) i i0 i1
theorem n_fd_b {x i a : Int} (x1 : -32768 ≤ x) (x2 : x ≤ 32767) (i0 : 0 ≤ i) (i1 : i < a) : -32768 ≤ Int.tdiv (x * i) a ∧ Int.tdiv (x * i) a ≤ 32767 := by
  by_cases d : 0 ≤ x
  · have := n_tdl (m := i) (d := x) (q := a) i0 i1 d
    rw [Int.mul_comm] at this
    omega
  · have := n_tdl (m := i) (d := -x) (q := a) i0 i1 (by omega)
    rw [Int.mul_comm, Int.neg_mul, Int.neg_tdiv] at this
    omega
theorem n_fdI_b {r : Int → Int} {a N : Int} (hr : n_sB r N) : n_sB (n_fdI r a) N := fun i i0 i1 => by
  have := hr i i0 i1
  unfold n_fdI
  by_cases c : i < a
  · rw [if_pos c]; exact n_fd_b this.1 this.2 i0 c
  · rw [if_neg c]; exact this
theorem n_fdO_b {r : Int → Int} {b N : Int} (hr : n_sB r N) : n_sB (n_fdO r N b) N := fun i i0 i1 => by
  have := hr i i0 i1
  unfold n_fdO
  by_cases c : N - b ≤ i
  · rw [if_pos c]; exact n_fd_b this.1 this.2 (by omega) (by omega)
  · rw [if_neg c]; exact this
theorem n_clB (r : Int → Int) (N : Int) : n_sB (fun i => n_cl (r i)) N := fun i _ _ => ⟨n_cl_lo _, n_cl_hi _⟩
/-- what is known of the row of an order that stands, when those ahead are in their bounds -/
def n_okO (g : m_H) (k d o : Int) : Prop := 1 ≤ n_L g k d o ∧ n_L g k d o ≤ 1500 ∧ n_sB (n_S g k d o) (n_L g k d o)
theorem n_okO_of {g : m_H} {k d o : Int} (G : n_gs g) (b : n_ordB g k o) (o0 : 0 ≤ o) (v12 : m_g g (153 + k) o ≠ 12) (ih : ∀ j, 0 ≤ j → j < o → m_g g (153 + k) j ≠ 12 → n_okO g k d j) (st : n_rK g k d (n_L g k d) o = true) : n_okO g k d o := by
  have bv := b.1
  have bv2 := b.2.1
  have B7 := b.2.2.2.2.2.2.1
  have Bs := G.1.1
  unfold n_okO
  have eS : n_S g k d o = n_rS g k d (n_L g k d) (n_S g k d) o := funext fun i => n_S_eq b o0 i
  rw [n_L_eq b o0, eS]
  unfold n_rK at st
  by_cases c1 : m_g g (153 + k) o ≤ 1
  · rw [if_pos c1] at st
    have so := of_decide_eq_true st
    have sb := n_sOf_b (g := g) (k := k) (o := o) (d := d) Bs
    have sc : 0 ≤ n_sOf g k o d ∧ n_sOf g k o d < m_g g 127 14 := by omega
    have q := G.2.1 _ sc.1 sc.2
    unfold n_strB at q
    have e1 : n_rL g k d (n_L g k d) o = m_g g 131 (n_sOf g k o d) := by unfold n_rL; rw [if_pos c1]
    rw [e1]
    refine ⟨by omega, by omega, fun i i0 i1 => ?_⟩
    unfold n_rS
    rw [if_pos c1]
    exact n_smp_b G sc i0 i1
  · rw [if_neg c1] at st
    have q1 := b.2.2.2.1 (by omega)
    obtain ⟨l1, l2, s1⟩ := ih _ q1.1 q1.2.1 q1.2.2
    unfold n_rS
    simp only [if_neg c1]
    by_cases c2 : m_g g (153 + k) o = 2
    · rw [if_pos c2] at st
      have z := of_decide_eq_true st
      have b7 := B7 (by omega)
      have e1 : n_rL g k d (n_L g k d) o = m_g g (193 + k) o - m_g g (183 + k) o := by unfold n_rL; rw [if_neg c1, if_pos c2]
      rw [e1]
      simp only [if_pos c2]
      exact ⟨by omega, by omega, fun i i0 i1 => s1 _ (by omega) (by omega)⟩
    rw [if_neg c2] at st
    simp only [if_neg c2]
    by_cases c3 : m_g g (153 + k) o = 3
    · have e1 : n_rL g k d (n_L g k d) o = n_L g k d (m_g g (163 + k) o) := by unfold n_rL; rw [if_neg c1, if_neg c2, if_neg (by omega), if_neg (by omega), if_neg (by omega), if_neg (by omega)]
      rw [e1]
      simp only [if_pos c3]
      exact ⟨l1, l2, fun i i0 i1 => s1 _ (by omega) (by omega)⟩
    simp only [if_neg c3]
    have b7 := B7 c3
    by_cases c4 : m_g g (153 + k) o = 4
    · rw [if_pos c4] at st
      have z := of_decide_eq_true st
      have y := b.2.2.2.2.2.2.2.2.2.1 c4
      have e1 : n_rL g k d (n_L g k d) o = Int.tdiv ((n_L g k d (m_g g (163 + k) o) - 1) * m_g g (193 + k) o) (m_g g (183 + k) o) + 1 := by unfold n_rL; rw [if_neg c1, if_neg c2, if_pos c4]
      have t := n_td (x := (n_L g k d (m_g g (163 + k) o) - 1) * m_g g (193 + k) o) (q := m_g g (183 + k) o) (Int.mul_nonneg (by omega) (by omega)) y.1
      simp only [if_pos c4]
      exact ⟨by rw [e1]; omega, z, n_clB _ _⟩
    rw [if_neg c4] at st
    simp only [if_neg c4]
    by_cases c5 : m_g g (153 + k) o = 5
    · rw [if_pos c5] at st
      have z := of_decide_eq_true st
      have y := b.2.2.2.2.2.1 c5
      obtain ⟨m1, m2, s2⟩ := ih _ y.1 y.2.1 y.2.2
      have e1 : n_rL g k d (n_L g k d) o = n_L g k d (m_g g (163 + k) o) + n_L g k d (m_g g (173 + k) o) - m_g g (183 + k) o := by unfold n_rL; rw [if_neg c1, if_neg c2, if_neg c4, if_pos c5]
      simp only [if_pos c5]
      refine ⟨by rw [e1]; omega, z.2.2, fun i i0 i1 => ?_⟩
      rw [e1] at i1
      exact n_jn_b (l2 := n_L g k d (m_g g (173 + k) o)) b7.1 (fun i i0 i1 => s1 i i0 (by omega)) s2 i0 (by omega)
    rw [if_neg c5] at st
    simp only [if_neg c5]
    by_cases c6 : m_g g (153 + k) o = 6
    · rw [if_pos c6] at st
      have z := of_decide_eq_true st
      have e1 : n_rL g k d (n_L g k d) o = m_g g (183 + k) o := by unfold n_rL; rw [if_neg c1, if_neg c2, if_neg c4, if_neg c5, if_pos c6]
      simp only [if_pos c6]
      rw [e1]
      refine ⟨z, b7.2, fun i i0 i1 => ?_⟩
      have t := n_td (x := i) (q := n_L g k d (m_g g (163 + k) o)) i0 l1
      exact s1 _ t.2.2.2.2.1 t.2.2.2.2.2
    rw [if_neg c6] at st
    simp only [if_neg c6]
    by_cases c8 : m_g g (153 + k) o = 8
    · rw [if_pos c8] at st
      have z := of_decide_eq_true st
      have mb := G.2.2.1 _ b7.1 z.1
      unfold n_macB at mb
      have e1 : n_rL g k d (n_L g k d) o = Int.tdiv ((n_L g k d (m_g g (163 + k) o) - 1) * 1000) (1000 + m_g g 142 (m_g g (183 + k) o)) + 1 := by unfold n_rL; rw [if_neg c1, if_neg c2, if_neg c4, if_neg c5, if_neg c6, if_pos c8]
      have t := n_td (x := (n_L g k d (m_g g (163 + k) o) - 1) * 1000) (q := 1000 + m_g g 142 (m_g g (183 + k) o)) (Int.mul_nonneg (by omega) (by omega)) (by omega)
      simp only [if_neg (show ¬ m_g g (153 + k) o = 7 by omega), if_pos c8]
      exact ⟨by rw [e1]; omega, z.2, n_clB _ _⟩
    have e1 : n_rL g k d (n_L g k d) o = n_L g k d (m_g g (163 + k) o) := by unfold n_rL; rw [if_neg c1, if_neg c2, if_neg c4, if_neg c5, if_neg c6, if_neg c8]
    rw [e1]
    refine ⟨l1, l2, ?_⟩
    by_cases c7 : m_g g (153 + k) o = 7
    · simp only [if_pos c7]
      have y := b.2.2.2.2.2.2.2.2.2.2.2.1 c7
      exact n_ecT_b s1 y.1 _ (by omega)
    simp only [if_neg c7, if_neg c8]
    by_cases c9 : m_g g (153 + k) o = 9
    · simp only [if_pos c9]; exact n_clB _ _
    simp only [if_neg c9]
    by_cases c10 : m_g g (153 + k) o = 10
    · simp only [if_pos c10]; exact n_fdO_b (n_fdI_b s1)
    simp only [if_neg c10]
    exact n_clB _ _
/-- all orders ahead of n stand -/
def n_stD (g : m_H) (k d n : Int) : Prop := ∀ o, 0 ≤ o → o < n → n_rK g k d (n_L g k d) o = true
theorem n_okAll {g : m_H} {k d : Int} (G : n_gs g) {N : Int} (b : ∀ o, 0 ≤ o → o < N → n_ordB g k o) : ∀ (n : Nat), n ≤ N → n_stD g k d n → ∀ o : Int, 0 ≤ o → o < n → m_g g (153 + k) o ≠ 12 → n_okO g k d o
  | 0, _, _ => fun o o0 o1 => by omega
  | n + 1, hn, st => fun o o0 o1 v => by
    by_cases c : o < n
    · exact n_okAll G b n (by omega) (fun o z0 z1 => st o z0 (by omega)) o o0 c v
    · have e : o = n := by omega
      rw [e] at v o0 ⊢
      exact n_okO_of G (b n (by omega) (by omega)) o0 v (fun j j0 j1 jv => n_okAll G b n (by omega) (fun o z0 z1 => st o z0 (by omega)) j j0 j1 jv) (st n (by omega) (by omega))
