/-! CALLS: fault, score: both parse: the numbers of an order -/
def n_nt (a lo hi o : Int) (K : m_H → Option (Unit × m_H)) (g : m_H) : Option (Unit × m_H) := if m_t g 127 = 11 then if m_t g (m_g g 127 a) = 29 ∧ (0 : Int) ≤ 8 ∧ 8 < m_l g (m_g g 127 a) then t11_number 127 lo hi g >>= fun ⟨r5, h4⟩ => if m_t h4 (m_g g (m_g g 127 a) 8) = 20 ∧ 0 ≤ (m_w o) ∧ (m_w o) < m_l h4 (m_g g (m_g g 127 a) 8) then some (m_p h4 (m_g g (m_g g 127 a) 8) (m_w o) r5) >>= K else none else none else none
theorem n_nt_F {k g : m_H} {f a lo hi o : Int} {K : m_H → Option (Unit × m_H)} (F : n_qF k g f) (ha : a = 38 ∨ a = 39 ∨ a = 40) (o0 : 0 ≤ o) (o1 : o < 40) (hK : ∀ y, n_qF k y f → n_qk k f (K y)) : n_qk k f (n_nt a lo hi o K g) := by
  have G := F.1.1.2
  unfold n_nt
  rw [if_pos (n_qF_t F), m_w_of (x := o) (by omega) (by omega)]
  rcases ha with e | e | e <;> subst e
  · rw [if_pos (n_c38 G (k := 8) (by omega) (by omega)), n_qF_num F, n_bs, n_a38 G (by omega) (by omega)]
    dsimp only
    rw [if_pos (n_d38 G (k := 8) (by omega) (by omega) o0 o1), n_bs]
    exact hK _ (n_qF_scr F (b := 183 + 8) (by unfold n_scr; omega) o 0)
  · rw [if_pos (n_c39 G (k := 8) (by omega) (by omega)), n_qF_num F, n_bs, n_a39 G (by omega) (by omega)]
    dsimp only
    rw [if_pos (n_d39 G (k := 8) (by omega) (by omega) o0 o1), n_bs]
    exact hK _ (n_qF_scr F (b := 193 + 8) (by unfold n_scr; omega) o 0)
  · rw [if_pos (n_c40 G (k := 8) (by omega) (by omega)), n_qF_num F, n_bs, n_a40 G (by omega) (by omega)]
    dsimp only
    rw [if_pos (n_d40 G (k := 8) (by omega) (by omega) o0 o1), n_bs]
    exact hK _ (n_qF_scr F (b := 203 + 8) (by unfold n_scr; omega) o 0)
theorem n_nt_J {h k x g : m_H} {c' i : Nat} {o nm : Int} {cc dd : Int → Int} (B : n_qB h k c') (P : n_qP h k c' x g i o nm cc dd) (o1 : o < 40) (m0 : 0 ≤ nm) (m1 : nm < 5) {a w lo hi : Int} (ha : (a = 38 ∧ w = 3) ∨ (a = 39 ∧ w = 4) ∨ (a = 40 ∧ w = 5)) (lo0 : 0 ≤ lo) (lh : lo ≤ hi) (hi1 : hi ≤ 1500) {FC : Bool × m_H → Option (Bool × m_H)} {K : m_H → Option (Unit × m_H)} {Q : m_H → m_H → Prop} (h1 : ∀ y, FC (false, y) = some (false, y)) (h2 : ∀ y, n_qF k y (n_pq h i) → n_qk k (n_pq h i) (K y)) (h3 : ∀ v x' g', lo ≤ v → v ≤ hi → n_qP h k c' x' g' (i + 1) o (nm + 1) (n_up cc (3 + nm) v) (n_up dd w v) → n_qJ h k c' (FC (true, x')) (K g') Q) : n_qJ h k c' (t4_passNumber 10 lo hi x >>= FC) (n_nt a lo hi o K g) Q := by
  have G := P.2.1.1.2
  have o0 := P.2.2.2.1.2.2.2.1
  unfold n_nt
  rw [if_pos (n_qP_tR P), m_w_of (x := o) (by omega) (by omega)]
  rcases ha with ⟨e, e'⟩ | ⟨e, e'⟩ | ⟨e, e'⟩ <;> subst e <;> subst e'
  · rw [if_pos (n_c38 G (k := 8) (by omega) (by omega)), n_a38 G (by omega) (by omega)]
    refine n_qJ_num B P o1 m0 m1 lo0 lh hi1 h1 (fun y F => ?_) (fun v x1 g1 v0 v1 P1 => ?_)
    · dsimp only
      rw [if_pos (n_d38 F.1.1.2 (k := 8) (by omega) (by omega) o0 o1), n_bs]
      exact h2 _ (n_qF_scr F (b := 183 + 8) (by unfold n_scr; omega) o 0)
    · dsimp only
      rw [if_pos (n_d38 P1.2.1.1.2 (k := 8) (by omega) (by omega) o0 o1), n_bs]
      exact h3 v x1 _ v0 v1 (n_qP_scr P1 (w := 3) (by omega) (by omega) v)
  · rw [if_pos (n_c39 G (k := 8) (by omega) (by omega)), n_a39 G (by omega) (by omega)]
    refine n_qJ_num B P o1 m0 m1 lo0 lh hi1 h1 (fun y F => ?_) (fun v x1 g1 v0 v1 P1 => ?_)
    · dsimp only
      rw [if_pos (n_d39 F.1.1.2 (k := 8) (by omega) (by omega) o0 o1), n_bs]
      exact h2 _ (n_qF_scr F (b := 193 + 8) (by unfold n_scr; omega) o 0)
    · dsimp only
      rw [if_pos (n_d39 P1.2.1.1.2 (k := 8) (by omega) (by omega) o0 o1), n_bs]
      exact h3 v x1 _ v0 v1 (n_qP_scr P1 (w := 4) (by omega) (by omega) v)
  · rw [if_pos (n_c40 G (k := 8) (by omega) (by omega)), n_a40 G (by omega) (by omega)]
    refine n_qJ_num B P o1 m0 m1 lo0 lh hi1 h1 (fun y F => ?_) (fun v x1 g1 v0 v1 P1 => ?_)
    · dsimp only
      rw [if_pos (n_d40 F.1.1.2 (k := 8) (by omega) (by omega) o0 o1), n_bs]
      exact h2 _ (n_qF_scr F (b := 203 + 8) (by unfold n_scr; omega) o 0)
    · dsimp only
      rw [if_pos (n_d40 P1.2.1.1.2 (k := 8) (by omega) (by omega) o0 o1), n_bs]
      exact h3 v x1 _ v0 v1 (n_qP_scr P1 (w := 5) (by omega) (by omega) v)
theorem n_qJ_seq {h k : m_H} {c' : Nat} {C1 : Option (Bool × m_H)} {R1 : Option (Unit × m_H)} {Q1 : m_H → m_H → Prop} {FC : Bool × m_H → Option (Bool × m_H)} {FR : Unit × m_H → Option (Unit × m_H)} {Q : m_H → m_H → Prop} (J : n_qJ h k c' C1 R1 Q1) (h1 : ∀ y, FC (false, y) = some (false, y)) (h2 : ∀ y f, n_qF k y f → n_qk k f (FR ((), y))) (h3 : ∀ x g, Q1 x g → n_qJ h k c' (FC (true, x)) (FR ((), g)) Q) : n_qJ h k c' (C1 >>= FC) (R1 >>= FR) Q := by
  obtain ⟨b, x, g, u, e1, e2, q1, q2⟩ := J
  rw [e1, e2, n_bs, n_bs]
  cases b with
  | true => exact h3 x g (q1 rfl)
  | false =>
    obtain ⟨i, T, F⟩ := q2 rfl
    rw [h1]
    exact n_qJ_bad T (h2 _ _ F)
/-- what the numbers of an order with the verb v are, here and there -/
def n_nOK (v : Int) (c d c2 d2 : Int → Int) : Prop :=
  (∀ w, w < 3 ∨ 5 < w → c2 w = c w ∧ d2 w = d w) ∧ (v ≠ 3 → c2 3 = d2 3 ∧ 0 ≤ d2 3 ∧ d2 3 ≤ 1500) ∧ (v = 2 ∨ v = 4 ∨ v = 7 ∨ v = 9 ∨ v = 10 → c2 4 = d2 4) ∧ (v = 9 → c2 5 = d2 5) ∧ (v = 0 → d2 3 ≤ 99) ∧ (v = 1 → d2 3 ≤ 999) ∧ (v = 4 → 1 ≤ d2 3 ∧ d2 3 ≤ 8 ∧ 1 ≤ d2 4 ∧ d2 4 ≤ 8) ∧ (v = 5 → d2 3 ≤ 40) ∧
  (v = 7 → 1 ≤ d2 3 ∧ d2 3 ≤ 500 ∧ 0 ≤ d2 4 ∧ d2 4 ≤ 255) ∧ (v = 8 → d2 3 ≤ 3) ∧ (v = 9 → d2 3 ≤ 128 ∧ 0 ≤ d2 4 ∧ d2 4 ≤ 128 ∧ 0 ≤ d2 5 ∧ d2 5 ≤ 128) ∧ (v = 11 → d2 3 ≤ 128) ∧ (v = 2 ∨ v = 10 → 0 ≤ d2 4 ∧ d2 4 ≤ 1500)
theorem n_upE (c : Int → Int) (w v z : Int) : n_up c w v z = if z = w then v else c z := rfl
def n_nQ (h k : m_H) (c' : Nat) (i : Nat) (o v : Int) (c d : Int → Int) (x' g' : m_H) : Prop := ∃ i' nm' c2 d2, i ≤ i' ∧ n_qP h k c' x' g' i' o nm' c2 d2 ∧ n_nOK v c d c2 d2
def n_nC0 (x : m_H) : Option (Bool × m_H) := (if m_t x 10 = 4 then t4_passNumber 10 0 99 x >>= fun ⟨r0, h0⟩ => some (r0, h0) else none)
def n_nC1 (x : m_H) : Option (Bool × m_H) := (if m_t x 10 = 4 then t4_passNumber 10 0 999 x >>= fun ⟨r0, h0⟩ => some (r0, h0) else none)
def n_nC2 (x : m_H) : Option (Bool × m_H) := (if m_t x 10 = 4 then t4_pass 10 14 x >>= fun ⟨r0, h0⟩ => (if r0 = true then (if m_t h0 10 = 4 then t4_passNumber 10 0 1500 h0 >>= fun ⟨r1, h1⟩ => (if r1 = true then (if m_t h1 10 = 4 then t4_pass 10 15 h1 >>= fun ⟨r2, h2⟩ => (if r2 = true then (if m_t h2 10 = 4 then t4_passNumber 10 0 1500 h2 >>= fun ⟨r3, h3⟩ => (if r3 = true then some (true, h3) else some (false, h3)) else none) else some (false, h2)) else none) else some (false, h1)) else none) else some (false, h0)) else none)
def n_nC3 (x : m_H) : Option (Bool × m_H) := some (true, x)
def n_nC4 (x : m_H) : Option (Bool × m_H) := (if m_t x 10 = 4 then t4_passNumber 10 1 8 x >>= fun ⟨r0, h0⟩ => (if r0 = true then (if m_t h0 10 = 4 then t4_pass 10 47 h0 >>= fun ⟨r1, h1⟩ => (if r1 = true then (if m_t h1 10 = 4 then t4_passNumber 10 1 8 h1 >>= fun ⟨r2, h2⟩ => (if r2 = true then some (true, h2) else some (false, h2)) else none) else some (false, h1)) else none) else some (false, h0)) else none)
def n_nC5 (x : m_H) : Option (Bool × m_H) := (if m_t x 10 = 4 then t4_pass 10 16 x >>= fun ⟨r0, h0⟩ => (if r0 = true then (if m_t h0 10 = 4 then t4_passNumber 10 0 40 h0 >>= fun ⟨r1, h1⟩ => (if r1 = true then some (true, h1) else some (false, h1)) else none) else some (false, h0)) else none)
def n_nC6 (x : m_H) : Option (Bool × m_H) := (if m_t x 10 = 4 then t4_pass 10 17 x >>= fun ⟨r0, h0⟩ => (if r0 = true then (if m_t h0 10 = 4 then t4_passNumber 10 0 1500 h0 >>= fun ⟨r1, h1⟩ => (if r1 = true then some (true, h1) else some (false, h1)) else none) else some (false, h0)) else none)
def n_nC7 (x : m_H) : Option (Bool × m_H) := (if m_t x 10 = 4 then t4_pass 10 18 x >>= fun ⟨r0, h0⟩ => (if r0 = true then (if m_t h0 10 = 4 then t4_passNumber 10 1 500 h0 >>= fun ⟨r1, h1⟩ => (if r1 = true then (if m_t h1 10 = 4 then t4_pass 10 19 h1 >>= fun ⟨r2, h2⟩ => (if r2 = true then (if m_t h2 10 = 4 then t4_passNumber 10 0 255 h2 >>= fun ⟨r3, h3⟩ => (if r3 = true then some (true, h3) else some (false, h3)) else none) else some (false, h2)) else none) else some (false, h1)) else none) else some (false, h0)) else none)
def n_nC8 (x : m_H) : Option (Bool × m_H) := (if m_t x 10 = 4 then t4_pass 10 20 x >>= fun ⟨r0, h0⟩ => (if r0 = true then (if m_t h0 10 = 4 then t4_passNumber 10 0 3 h0 >>= fun ⟨r1, h1⟩ => (if r1 = true then some (true, h1) else some (false, h1)) else none) else some (false, h0)) else none)
def n_nC9 (x : m_H) : Option (Bool × m_H) := (if m_t x 10 = 4 then t4_passNumber 10 0 128 x >>= fun ⟨r0, h0⟩ => (if r0 = true then (if m_t h0 10 = 4 then t4_passNumber 10 0 128 h0 >>= fun ⟨r1, h1⟩ => (if r1 = true then (if m_t h1 10 = 4 then t4_passNumber 10 0 128 h1 >>= fun ⟨r2, h2⟩ => (if r2 = true then some (true, h2) else some (false, h2)) else none) else some (false, h1)) else none) else some (false, h0)) else none)
def n_nC10 (x : m_H) : Option (Bool × m_H) := (if m_t x 10 = 4 then t4_pass 10 21 x >>= fun ⟨r0, h0⟩ => (if r0 = true then (if m_t h0 10 = 4 then t4_passNumber 10 0 1500 h0 >>= fun ⟨r1, h1⟩ => (if r1 = true then (if m_t h1 10 = 4 then t4_pass 10 22 h1 >>= fun ⟨r2, h2⟩ => (if r2 = true then (if m_t h2 10 = 4 then t4_passNumber 10 0 1500 h2 >>= fun ⟨r3, h3⟩ => (if r3 = true then some (true, h3) else some (false, h3)) else none) else some (false, h2)) else none) else some (false, h1)) else none) else some (false, h0)) else none)
def n_nC11 (x : m_H) : Option (Bool × m_H) := (if m_t x 10 = 4 then t4_passNumber 10 0 128 x >>= fun ⟨r0, h0⟩ => some (r0, h0) else none)
theorem n_numsF {k g : m_H} {f o v : Int} (F : n_qF k g f) (o0 : 0 ≤ o) (o1 : o < 40) (v0 : 0 ≤ v) (v1 : v < 12) : n_qk k f (t11_numbers 127 o v g) := by
  have cs : v = 0 ∨ v = 1 ∨ v = 2 ∨ v = 3 ∨ v = 4 ∨ v = 5 ∨ v = 6 ∨ v = 7 ∨ v = 8 ∨ v = 9 ∨ v = 10 ∨ v = 11 := by omega
  rcases cs with e | e | e | e | e | e | e | e | e | e | e | e <;> subst e
  · unfold t11_numbers
    rw [m_w_of (x := 0) (by omega) (by omega), if_pos (show (0 : Int) = 0 from rfl)]
    repeat (first | exact n_qk_end F | refine n_nt_F F (by omega) o0 o1 (fun y F => ?_) | rw [if_pos (n_qF_t F)] | (rw [n_qF_word F, n_bs]; dsimp only) | (rw [n_qF_sign F, n_bs]; dsimp only))
  · unfold t11_numbers
    rw [m_w_of (x := 1) (by omega) (by omega), if_neg (show ¬ (1 : Int) = 0 by decide), if_pos (show (1 : Int) = 1 from rfl)]
    repeat (first | exact n_qk_end F | refine n_nt_F F (by omega) o0 o1 (fun y F => ?_) | rw [if_pos (n_qF_t F)] | (rw [n_qF_word F, n_bs]; dsimp only) | (rw [n_qF_sign F, n_bs]; dsimp only))
  · unfold t11_numbers
    rw [m_w_of (x := 2) (by omega) (by omega), if_neg (show ¬ (2 : Int) = 0 by decide), if_neg (show ¬ (2 : Int) = 1 by decide), if_pos (show (2 : Int) = 2 from rfl)]
    repeat (first | exact n_qk_end F | refine n_nt_F F (by omega) o0 o1 (fun y F => ?_) | rw [if_pos (n_qF_t F)] | (rw [n_qF_word F, n_bs]; dsimp only) | (rw [n_qF_sign F, n_bs]; dsimp only))
  · unfold t11_numbers
    rw [m_w_of (x := 3) (by omega) (by omega), if_neg (show ¬ (3 : Int) = 0 by decide), if_neg (show ¬ (3 : Int) = 1 by decide), if_neg (show ¬ (3 : Int) = 2 by decide), if_pos (show (3 : Int) = 3 from rfl)]
    repeat (first | exact n_qk_end F | refine n_nt_F F (by omega) o0 o1 (fun y F => ?_) | rw [if_pos (n_qF_t F)] | (rw [n_qF_word F, n_bs]; dsimp only) | (rw [n_qF_sign F, n_bs]; dsimp only))
  · unfold t11_numbers
    rw [m_w_of (x := 4) (by omega) (by omega), if_neg (show ¬ (4 : Int) = 0 by decide), if_neg (show ¬ (4 : Int) = 1 by decide), if_neg (show ¬ (4 : Int) = 2 by decide), if_neg (show ¬ (4 : Int) = 3 by decide), if_pos (show (4 : Int) = 4 from rfl)]
    repeat (first | exact n_qk_end F | refine n_nt_F F (by omega) o0 o1 (fun y F => ?_) | rw [if_pos (n_qF_t F)] | (rw [n_qF_word F, n_bs]; dsimp only) | (rw [n_qF_sign F, n_bs]; dsimp only))
  · unfold t11_numbers
    rw [m_w_of (x := 5) (by omega) (by omega), if_neg (show ¬ (5 : Int) = 0 by decide), if_neg (show ¬ (5 : Int) = 1 by decide), if_neg (show ¬ (5 : Int) = 2 by decide), if_neg (show ¬ (5 : Int) = 3 by decide), if_neg (show ¬ (5 : Int) = 4 by decide), if_pos (show (5 : Int) = 5 from rfl)]
    repeat (first | exact n_qk_end F | refine n_nt_F F (by omega) o0 o1 (fun y F => ?_) | rw [if_pos (n_qF_t F)] | (rw [n_qF_word F, n_bs]; dsimp only) | (rw [n_qF_sign F, n_bs]; dsimp only))
  · unfold t11_numbers
    rw [m_w_of (x := 6) (by omega) (by omega), if_neg (show ¬ (6 : Int) = 0 by decide), if_neg (show ¬ (6 : Int) = 1 by decide), if_neg (show ¬ (6 : Int) = 2 by decide), if_neg (show ¬ (6 : Int) = 3 by decide), if_neg (show ¬ (6 : Int) = 4 by decide), if_neg (show ¬ (6 : Int) = 5 by decide), if_pos (show (6 : Int) = 6 from rfl)]
    repeat (first | exact n_qk_end F | refine n_nt_F F (by omega) o0 o1 (fun y F => ?_) | rw [if_pos (n_qF_t F)] | (rw [n_qF_word F, n_bs]; dsimp only) | (rw [n_qF_sign F, n_bs]; dsimp only))
  · unfold t11_numbers
    rw [m_w_of (x := 7) (by omega) (by omega), if_neg (show ¬ (7 : Int) = 0 by decide), if_neg (show ¬ (7 : Int) = 1 by decide), if_neg (show ¬ (7 : Int) = 2 by decide), if_neg (show ¬ (7 : Int) = 3 by decide), if_neg (show ¬ (7 : Int) = 4 by decide), if_neg (show ¬ (7 : Int) = 5 by decide), if_neg (show ¬ (7 : Int) = 6 by decide), if_pos (show (7 : Int) = 7 from rfl)]
    repeat (first | exact n_qk_end F | refine n_nt_F F (by omega) o0 o1 (fun y F => ?_) | rw [if_pos (n_qF_t F)] | (rw [n_qF_word F, n_bs]; dsimp only) | (rw [n_qF_sign F, n_bs]; dsimp only))
  · unfold t11_numbers
    rw [m_w_of (x := 8) (by omega) (by omega), if_neg (show ¬ (8 : Int) = 0 by decide), if_neg (show ¬ (8 : Int) = 1 by decide), if_neg (show ¬ (8 : Int) = 2 by decide), if_neg (show ¬ (8 : Int) = 3 by decide), if_neg (show ¬ (8 : Int) = 4 by decide), if_neg (show ¬ (8 : Int) = 5 by decide), if_neg (show ¬ (8 : Int) = 6 by decide), if_neg (show ¬ (8 : Int) = 7 by decide), if_pos (show (8 : Int) = 8 from rfl)]
    repeat (first | exact n_qk_end F | refine n_nt_F F (by omega) o0 o1 (fun y F => ?_) | rw [if_pos (n_qF_t F)] | (rw [n_qF_word F, n_bs]; dsimp only) | (rw [n_qF_sign F, n_bs]; dsimp only))
  · unfold t11_numbers
    rw [m_w_of (x := 9) (by omega) (by omega), if_neg (show ¬ (9 : Int) = 0 by decide), if_neg (show ¬ (9 : Int) = 1 by decide), if_neg (show ¬ (9 : Int) = 2 by decide), if_neg (show ¬ (9 : Int) = 3 by decide), if_neg (show ¬ (9 : Int) = 4 by decide), if_neg (show ¬ (9 : Int) = 5 by decide), if_neg (show ¬ (9 : Int) = 6 by decide), if_neg (show ¬ (9 : Int) = 7 by decide), if_neg (show ¬ (9 : Int) = 8 by decide), if_pos (show (9 : Int) = 9 from rfl)]
    repeat (first | exact n_qk_end F | refine n_nt_F F (by omega) o0 o1 (fun y F => ?_) | rw [if_pos (n_qF_t F)] | (rw [n_qF_word F, n_bs]; dsimp only) | (rw [n_qF_sign F, n_bs]; dsimp only))
  · unfold t11_numbers
    rw [m_w_of (x := 10) (by omega) (by omega), if_neg (show ¬ (10 : Int) = 0 by decide), if_neg (show ¬ (10 : Int) = 1 by decide), if_neg (show ¬ (10 : Int) = 2 by decide), if_neg (show ¬ (10 : Int) = 3 by decide), if_neg (show ¬ (10 : Int) = 4 by decide), if_neg (show ¬ (10 : Int) = 5 by decide), if_neg (show ¬ (10 : Int) = 6 by decide), if_neg (show ¬ (10 : Int) = 7 by decide), if_neg (show ¬ (10 : Int) = 8 by decide), if_neg (show ¬ (10 : Int) = 9 by decide), if_pos (show (10 : Int) = 10 from rfl)]
    repeat (first | exact n_qk_end F | refine n_nt_F F (by omega) o0 o1 (fun y F => ?_) | rw [if_pos (n_qF_t F)] | (rw [n_qF_word F, n_bs]; dsimp only) | (rw [n_qF_sign F, n_bs]; dsimp only))
  · unfold t11_numbers
    rw [m_w_of (x := 11) (by omega) (by omega), if_neg (show ¬ (11 : Int) = 0 by decide), if_neg (show ¬ (11 : Int) = 1 by decide), if_neg (show ¬ (11 : Int) = 2 by decide), if_neg (show ¬ (11 : Int) = 3 by decide), if_neg (show ¬ (11 : Int) = 4 by decide), if_neg (show ¬ (11 : Int) = 5 by decide), if_neg (show ¬ (11 : Int) = 6 by decide), if_neg (show ¬ (11 : Int) = 7 by decide), if_neg (show ¬ (11 : Int) = 8 by decide), if_neg (show ¬ (11 : Int) = 9 by decide), if_neg (show ¬ (11 : Int) = 10 by decide), if_pos (show (11 : Int) = 11 from rfl)]
    repeat (first | exact n_qk_end F | refine n_nt_F F (by omega) o0 o1 (fun y F => ?_) | rw [if_pos (n_qF_t F)] | (rw [n_qF_word F, n_bs]; dsimp only) | (rw [n_qF_sign F, n_bs]; dsimp only))
theorem n_numsJ0 {h k x g : m_H} {c' i : Nat} {o : Int} {c d : Int → Int} (B : n_qB h k c') (P : n_qP h k c' x g i o 0 c d) (o0 : 0 ≤ o) (o1 : o < 40) : n_qJ h k c' (n_nC0 x) (t11_numbers 127 o 0 g) (n_nQ h k c' i o 0 c d) := by
  unfold n_nC0 t11_numbers
  rw [m_w_of (x := 0) (by omega) (by omega), if_pos (show (0 : Int) = 0 from rfl)]
  rw [if_pos (n_qP_tC P)]
  refine n_nt_J B P o1 (by omega) (by omega) (a := 38) (w := 3) (lo := 0) (hi := 99) (by omega) (by omega) (by omega) (by omega) (fun _ => rfl) (fun y F => ?_) (fun v0 x0 g0 a0 b0 P0 => ?_)
  · try dsimp only
    repeat (first | exact n_qk_end F | refine n_nt_F F (by omega) o0 o1 (fun y F => ?_) | rw [if_pos (n_qF_t F)] | (rw [n_qF_word F, n_bs]; dsimp only) | (rw [n_qF_sign F, n_bs]; dsimp only))
  · try dsimp only
    refine ⟨true, x0, _, (), rfl, rfl, fun _ => ⟨_, _, _, _, by omega, P0, ?_⟩, fun q => by cases q⟩
    unfold n_nOK
    refine ⟨fun w hw => ?_, ?_⟩
    · simp only [n_upE]
      refine ⟨?_, ?_⟩ <;> repeat rw [if_neg (by omega)]
    · simp [n_upE]
      try omega
theorem n_numsJ1 {h k x g : m_H} {c' i : Nat} {o : Int} {c d : Int → Int} (B : n_qB h k c') (P : n_qP h k c' x g i o 0 c d) (o0 : 0 ≤ o) (o1 : o < 40) : n_qJ h k c' (n_nC1 x) (t11_numbers 127 o 1 g) (n_nQ h k c' i o 1 c d) := by
  unfold n_nC1 t11_numbers
  rw [m_w_of (x := 1) (by omega) (by omega), if_neg (show ¬ (1 : Int) = 0 by decide), if_pos (show (1 : Int) = 1 from rfl)]
  rw [if_pos (n_qP_tC P)]
  refine n_nt_J B P o1 (by omega) (by omega) (a := 38) (w := 3) (lo := 0) (hi := 999) (by omega) (by omega) (by omega) (by omega) (fun _ => rfl) (fun y F => ?_) (fun v0 x0 g0 a0 b0 P0 => ?_)
  · try dsimp only
    repeat (first | exact n_qk_end F | refine n_nt_F F (by omega) o0 o1 (fun y F => ?_) | rw [if_pos (n_qF_t F)] | (rw [n_qF_word F, n_bs]; dsimp only) | (rw [n_qF_sign F, n_bs]; dsimp only))
  · try dsimp only
    refine ⟨true, x0, _, (), rfl, rfl, fun _ => ⟨_, _, _, _, by omega, P0, ?_⟩, fun q => by cases q⟩
    unfold n_nOK
    refine ⟨fun w hw => ?_, ?_⟩
    · simp only [n_upE]
      refine ⟨?_, ?_⟩ <;> repeat rw [if_neg (by omega)]
    · simp [n_upE]
      try omega
theorem n_numsJ2 {h k x g : m_H} {c' i : Nat} {o : Int} {c d : Int → Int} (B : n_qB h k c') (P : n_qP h k c' x g i o 0 c d) (o0 : 0 ≤ o) (o1 : o < 40) : n_qJ h k c' (n_nC2 x) (t11_numbers 127 o 2 g) (n_nQ h k c' i o 2 c d) := by
  unfold n_nC2 t11_numbers
  rw [m_w_of (x := 2) (by omega) (by omega), if_neg (show ¬ (2 : Int) = 0 by decide), if_neg (show ¬ (2 : Int) = 1 by decide), if_pos (show (2 : Int) = 2 from rfl)]
  rw [if_pos (n_qP_tC P), if_pos (n_qP_tR P)]
  refine n_qJ_word B P (kw := 14) (by omega) (by omega) rfl (fun _ => rfl) (fun y F => ?_) (fun x0 g0 P0 => ?_)
  · try dsimp only
    repeat (first | exact n_qk_end F | refine n_nt_F F (by omega) o0 o1 (fun y F => ?_) | rw [if_pos (n_qF_t F)] | (rw [n_qF_word F, n_bs]; dsimp only) | (rw [n_qF_sign F, n_bs]; dsimp only))
  · try dsimp only
    rw [if_pos rfl]
    rw [if_pos (n_qP_tC P0)]
    refine n_nt_J B P0 o1 (by omega) (by omega) (a := 38) (w := 3) (lo := 0) (hi := 1500) (by omega) (by omega) (by omega) (by omega) (fun _ => rfl) (fun y F => ?_) (fun v1 x1 g1 a1 b1 P1 => ?_)
    · try dsimp only
      repeat (first | exact n_qk_end F | refine n_nt_F F (by omega) o0 o1 (fun y F => ?_) | rw [if_pos (n_qF_t F)] | (rw [n_qF_word F, n_bs]; dsimp only) | (rw [n_qF_sign F, n_bs]; dsimp only))
    · try dsimp only
      rw [if_pos rfl]
      rw [if_pos (n_qP_tC P1), if_pos (n_qP_tR P1)]
      refine n_qJ_word B P1 (kw := 15) (by omega) (by omega) rfl (fun _ => rfl) (fun y F => ?_) (fun x2 g2 P2 => ?_)
      · try dsimp only
        repeat (first | exact n_qk_end F | refine n_nt_F F (by omega) o0 o1 (fun y F => ?_) | rw [if_pos (n_qF_t F)] | (rw [n_qF_word F, n_bs]; dsimp only) | (rw [n_qF_sign F, n_bs]; dsimp only))
      · try dsimp only
        rw [if_pos rfl]
        rw [if_pos (n_qP_tC P2)]
        refine n_nt_J B P2 o1 (by omega) (by omega) (a := 39) (w := 4) (lo := 0) (hi := 1500) (by omega) (by omega) (by omega) (by omega) (fun _ => rfl) (fun y F => ?_) (fun v3 x3 g3 a3 b3 P3 => ?_)
        · try dsimp only
          repeat (first | exact n_qk_end F | refine n_nt_F F (by omega) o0 o1 (fun y F => ?_) | rw [if_pos (n_qF_t F)] | (rw [n_qF_word F, n_bs]; dsimp only) | (rw [n_qF_sign F, n_bs]; dsimp only))
        · try dsimp only
          rw [if_pos rfl]
          refine ⟨true, x3, _, (), rfl, rfl, fun _ => ⟨_, _, _, _, by omega, P3, ?_⟩, fun q => by cases q⟩
          unfold n_nOK
          refine ⟨fun w hw => ?_, ?_⟩
          · simp only [n_upE]
            refine ⟨?_, ?_⟩ <;> repeat rw [if_neg (by omega)]
          · simp [n_upE]
            try omega
theorem n_numsJ3 {h k x g : m_H} {c' i : Nat} {o : Int} {c d : Int → Int} (B : n_qB h k c') (P : n_qP h k c' x g i o 0 c d) (o0 : 0 ≤ o) (o1 : o < 40) : n_qJ h k c' (n_nC3 x) (t11_numbers 127 o 3 g) (n_nQ h k c' i o 3 c d) := by
  unfold n_nC3 t11_numbers
  rw [m_w_of (x := 3) (by omega) (by omega), if_neg (show ¬ (3 : Int) = 0 by decide), if_neg (show ¬ (3 : Int) = 1 by decide), if_neg (show ¬ (3 : Int) = 2 by decide), if_pos (show (3 : Int) = 3 from rfl)]
  refine ⟨true, x, g, (), rfl, rfl, fun _ => ⟨_, _, _, _, by omega, P, ?_⟩, fun q => by cases q⟩
  unfold n_nOK
  refine ⟨fun w hw => ?_, ?_⟩
  · exact ⟨rfl, rfl⟩
  · simp [n_upE]
    try omega
theorem n_numsJ4 {h k x g : m_H} {c' i : Nat} {o : Int} {c d : Int → Int} (B : n_qB h k c') (P : n_qP h k c' x g i o 0 c d) (o0 : 0 ≤ o) (o1 : o < 40) : n_qJ h k c' (n_nC4 x) (t11_numbers 127 o 4 g) (n_nQ h k c' i o 4 c d) := by
  unfold n_nC4 t11_numbers
  rw [m_w_of (x := 4) (by omega) (by omega), if_neg (show ¬ (4 : Int) = 0 by decide), if_neg (show ¬ (4 : Int) = 1 by decide), if_neg (show ¬ (4 : Int) = 2 by decide), if_neg (show ¬ (4 : Int) = 3 by decide), if_pos (show (4 : Int) = 4 from rfl)]
  rw [if_pos (n_qP_tC P)]
  refine n_nt_J B P o1 (by omega) (by omega) (a := 38) (w := 3) (lo := 1) (hi := 8) (by omega) (by omega) (by omega) (by omega) (fun _ => rfl) (fun y F => ?_) (fun v0 x0 g0 a0 b0 P0 => ?_)
  · try dsimp only
    repeat (first | exact n_qk_end F | refine n_nt_F F (by omega) o0 o1 (fun y F => ?_) | rw [if_pos (n_qF_t F)] | (rw [n_qF_word F, n_bs]; dsimp only) | (rw [n_qF_sign F, n_bs]; dsimp only))
  · try dsimp only
    rw [if_pos rfl]
    rw [if_pos (n_qP_tC P0), if_pos (n_qP_tR P0)]
    refine n_qJ_sign B P0 (s := 47) (by omega) (fun _ => rfl) (fun y F => ?_) (fun x1 g1 P1 => ?_)
    · try dsimp only
      repeat (first | exact n_qk_end F | refine n_nt_F F (by omega) o0 o1 (fun y F => ?_) | rw [if_pos (n_qF_t F)] | (rw [n_qF_word F, n_bs]; dsimp only) | (rw [n_qF_sign F, n_bs]; dsimp only))
    · try dsimp only
      rw [if_pos rfl]
      rw [if_pos (n_qP_tC P1)]
      refine n_nt_J B P1 o1 (by omega) (by omega) (a := 39) (w := 4) (lo := 1) (hi := 8) (by omega) (by omega) (by omega) (by omega) (fun _ => rfl) (fun y F => ?_) (fun v2 x2 g2 a2 b2 P2 => ?_)
      · try dsimp only
        repeat (first | exact n_qk_end F | refine n_nt_F F (by omega) o0 o1 (fun y F => ?_) | rw [if_pos (n_qF_t F)] | (rw [n_qF_word F, n_bs]; dsimp only) | (rw [n_qF_sign F, n_bs]; dsimp only))
      · try dsimp only
        rw [if_pos rfl]
        refine ⟨true, x2, _, (), rfl, rfl, fun _ => ⟨_, _, _, _, by omega, P2, ?_⟩, fun q => by cases q⟩
        unfold n_nOK
        refine ⟨fun w hw => ?_, ?_⟩
        · simp only [n_upE]
          refine ⟨?_, ?_⟩ <;> repeat rw [if_neg (by omega)]
        · simp [n_upE]
          try omega
theorem n_numsJ5 {h k x g : m_H} {c' i : Nat} {o : Int} {c d : Int → Int} (B : n_qB h k c') (P : n_qP h k c' x g i o 0 c d) (o0 : 0 ≤ o) (o1 : o < 40) : n_qJ h k c' (n_nC5 x) (t11_numbers 127 o 5 g) (n_nQ h k c' i o 5 c d) := by
  unfold n_nC5 t11_numbers
  rw [m_w_of (x := 5) (by omega) (by omega), if_neg (show ¬ (5 : Int) = 0 by decide), if_neg (show ¬ (5 : Int) = 1 by decide), if_neg (show ¬ (5 : Int) = 2 by decide), if_neg (show ¬ (5 : Int) = 3 by decide), if_neg (show ¬ (5 : Int) = 4 by decide), if_pos (show (5 : Int) = 5 from rfl)]
  rw [if_pos (n_qP_tC P), if_pos (n_qP_tR P)]
  refine n_qJ_word B P (kw := 16) (by omega) (by omega) rfl (fun _ => rfl) (fun y F => ?_) (fun x0 g0 P0 => ?_)
  · try dsimp only
    repeat (first | exact n_qk_end F | refine n_nt_F F (by omega) o0 o1 (fun y F => ?_) | rw [if_pos (n_qF_t F)] | (rw [n_qF_word F, n_bs]; dsimp only) | (rw [n_qF_sign F, n_bs]; dsimp only))
  · try dsimp only
    rw [if_pos rfl]
    rw [if_pos (n_qP_tC P0)]
    refine n_nt_J B P0 o1 (by omega) (by omega) (a := 38) (w := 3) (lo := 0) (hi := 40) (by omega) (by omega) (by omega) (by omega) (fun _ => rfl) (fun y F => ?_) (fun v1 x1 g1 a1 b1 P1 => ?_)
    · try dsimp only
      repeat (first | exact n_qk_end F | refine n_nt_F F (by omega) o0 o1 (fun y F => ?_) | rw [if_pos (n_qF_t F)] | (rw [n_qF_word F, n_bs]; dsimp only) | (rw [n_qF_sign F, n_bs]; dsimp only))
    · try dsimp only
      rw [if_pos rfl]
      refine ⟨true, x1, _, (), rfl, rfl, fun _ => ⟨_, _, _, _, by omega, P1, ?_⟩, fun q => by cases q⟩
      unfold n_nOK
      refine ⟨fun w hw => ?_, ?_⟩
      · simp only [n_upE]
        refine ⟨?_, ?_⟩ <;> repeat rw [if_neg (by omega)]
      · simp [n_upE]
        try omega
theorem n_numsJ6 {h k x g : m_H} {c' i : Nat} {o : Int} {c d : Int → Int} (B : n_qB h k c') (P : n_qP h k c' x g i o 0 c d) (o0 : 0 ≤ o) (o1 : o < 40) : n_qJ h k c' (n_nC6 x) (t11_numbers 127 o 6 g) (n_nQ h k c' i o 6 c d) := by
  unfold n_nC6 t11_numbers
  rw [m_w_of (x := 6) (by omega) (by omega), if_neg (show ¬ (6 : Int) = 0 by decide), if_neg (show ¬ (6 : Int) = 1 by decide), if_neg (show ¬ (6 : Int) = 2 by decide), if_neg (show ¬ (6 : Int) = 3 by decide), if_neg (show ¬ (6 : Int) = 4 by decide), if_neg (show ¬ (6 : Int) = 5 by decide), if_pos (show (6 : Int) = 6 from rfl)]
  rw [if_pos (n_qP_tC P), if_pos (n_qP_tR P)]
  refine n_qJ_word B P (kw := 17) (by omega) (by omega) rfl (fun _ => rfl) (fun y F => ?_) (fun x0 g0 P0 => ?_)
  · try dsimp only
    repeat (first | exact n_qk_end F | refine n_nt_F F (by omega) o0 o1 (fun y F => ?_) | rw [if_pos (n_qF_t F)] | (rw [n_qF_word F, n_bs]; dsimp only) | (rw [n_qF_sign F, n_bs]; dsimp only))
  · try dsimp only
    rw [if_pos rfl]
    rw [if_pos (n_qP_tC P0)]
    refine n_nt_J B P0 o1 (by omega) (by omega) (a := 38) (w := 3) (lo := 0) (hi := 1500) (by omega) (by omega) (by omega) (by omega) (fun _ => rfl) (fun y F => ?_) (fun v1 x1 g1 a1 b1 P1 => ?_)
    · try dsimp only
      repeat (first | exact n_qk_end F | refine n_nt_F F (by omega) o0 o1 (fun y F => ?_) | rw [if_pos (n_qF_t F)] | (rw [n_qF_word F, n_bs]; dsimp only) | (rw [n_qF_sign F, n_bs]; dsimp only))
    · try dsimp only
      rw [if_pos rfl]
      refine ⟨true, x1, _, (), rfl, rfl, fun _ => ⟨_, _, _, _, by omega, P1, ?_⟩, fun q => by cases q⟩
      unfold n_nOK
      refine ⟨fun w hw => ?_, ?_⟩
      · simp only [n_upE]
        refine ⟨?_, ?_⟩ <;> repeat rw [if_neg (by omega)]
      · simp [n_upE]
        try omega
theorem n_numsJ7 {h k x g : m_H} {c' i : Nat} {o : Int} {c d : Int → Int} (B : n_qB h k c') (P : n_qP h k c' x g i o 0 c d) (o0 : 0 ≤ o) (o1 : o < 40) : n_qJ h k c' (n_nC7 x) (t11_numbers 127 o 7 g) (n_nQ h k c' i o 7 c d) := by
  unfold n_nC7 t11_numbers
  rw [m_w_of (x := 7) (by omega) (by omega), if_neg (show ¬ (7 : Int) = 0 by decide), if_neg (show ¬ (7 : Int) = 1 by decide), if_neg (show ¬ (7 : Int) = 2 by decide), if_neg (show ¬ (7 : Int) = 3 by decide), if_neg (show ¬ (7 : Int) = 4 by decide), if_neg (show ¬ (7 : Int) = 5 by decide), if_neg (show ¬ (7 : Int) = 6 by decide), if_pos (show (7 : Int) = 7 from rfl)]
  rw [if_pos (n_qP_tC P), if_pos (n_qP_tR P)]
  refine n_qJ_word B P (kw := 18) (by omega) (by omega) rfl (fun _ => rfl) (fun y F => ?_) (fun x0 g0 P0 => ?_)
  · try dsimp only
    repeat (first | exact n_qk_end F | refine n_nt_F F (by omega) o0 o1 (fun y F => ?_) | rw [if_pos (n_qF_t F)] | (rw [n_qF_word F, n_bs]; dsimp only) | (rw [n_qF_sign F, n_bs]; dsimp only))
  · try dsimp only
    rw [if_pos rfl]
    rw [if_pos (n_qP_tC P0)]
    refine n_nt_J B P0 o1 (by omega) (by omega) (a := 38) (w := 3) (lo := 1) (hi := 500) (by omega) (by omega) (by omega) (by omega) (fun _ => rfl) (fun y F => ?_) (fun v1 x1 g1 a1 b1 P1 => ?_)
    · try dsimp only
      repeat (first | exact n_qk_end F | refine n_nt_F F (by omega) o0 o1 (fun y F => ?_) | rw [if_pos (n_qF_t F)] | (rw [n_qF_word F, n_bs]; dsimp only) | (rw [n_qF_sign F, n_bs]; dsimp only))
    · try dsimp only
      rw [if_pos rfl]
      rw [if_pos (n_qP_tC P1), if_pos (n_qP_tR P1)]
      refine n_qJ_word B P1 (kw := 19) (by omega) (by omega) rfl (fun _ => rfl) (fun y F => ?_) (fun x2 g2 P2 => ?_)
      · try dsimp only
        repeat (first | exact n_qk_end F | refine n_nt_F F (by omega) o0 o1 (fun y F => ?_) | rw [if_pos (n_qF_t F)] | (rw [n_qF_word F, n_bs]; dsimp only) | (rw [n_qF_sign F, n_bs]; dsimp only))
      · try dsimp only
        rw [if_pos rfl]
        rw [if_pos (n_qP_tC P2)]
        refine n_nt_J B P2 o1 (by omega) (by omega) (a := 39) (w := 4) (lo := 0) (hi := 255) (by omega) (by omega) (by omega) (by omega) (fun _ => rfl) (fun y F => ?_) (fun v3 x3 g3 a3 b3 P3 => ?_)
        · try dsimp only
          repeat (first | exact n_qk_end F | refine n_nt_F F (by omega) o0 o1 (fun y F => ?_) | rw [if_pos (n_qF_t F)] | (rw [n_qF_word F, n_bs]; dsimp only) | (rw [n_qF_sign F, n_bs]; dsimp only))
        · try dsimp only
          rw [if_pos rfl]
          refine ⟨true, x3, _, (), rfl, rfl, fun _ => ⟨_, _, _, _, by omega, P3, ?_⟩, fun q => by cases q⟩
          unfold n_nOK
          refine ⟨fun w hw => ?_, ?_⟩
          · simp only [n_upE]
            refine ⟨?_, ?_⟩ <;> repeat rw [if_neg (by omega)]
          · simp [n_upE]
            try omega
theorem n_numsJ8 {h k x g : m_H} {c' i : Nat} {o : Int} {c d : Int → Int} (B : n_qB h k c') (P : n_qP h k c' x g i o 0 c d) (o0 : 0 ≤ o) (o1 : o < 40) : n_qJ h k c' (n_nC8 x) (t11_numbers 127 o 8 g) (n_nQ h k c' i o 8 c d) := by
  unfold n_nC8 t11_numbers
  rw [m_w_of (x := 8) (by omega) (by omega), if_neg (show ¬ (8 : Int) = 0 by decide), if_neg (show ¬ (8 : Int) = 1 by decide), if_neg (show ¬ (8 : Int) = 2 by decide), if_neg (show ¬ (8 : Int) = 3 by decide), if_neg (show ¬ (8 : Int) = 4 by decide), if_neg (show ¬ (8 : Int) = 5 by decide), if_neg (show ¬ (8 : Int) = 6 by decide), if_neg (show ¬ (8 : Int) = 7 by decide), if_pos (show (8 : Int) = 8 from rfl)]
  rw [if_pos (n_qP_tC P), if_pos (n_qP_tR P)]
  refine n_qJ_word B P (kw := 20) (by omega) (by omega) rfl (fun _ => rfl) (fun y F => ?_) (fun x0 g0 P0 => ?_)
  · try dsimp only
    repeat (first | exact n_qk_end F | refine n_nt_F F (by omega) o0 o1 (fun y F => ?_) | rw [if_pos (n_qF_t F)] | (rw [n_qF_word F, n_bs]; dsimp only) | (rw [n_qF_sign F, n_bs]; dsimp only))
  · try dsimp only
    rw [if_pos rfl]
    rw [if_pos (n_qP_tC P0)]
    refine n_nt_J B P0 o1 (by omega) (by omega) (a := 38) (w := 3) (lo := 0) (hi := 3) (by omega) (by omega) (by omega) (by omega) (fun _ => rfl) (fun y F => ?_) (fun v1 x1 g1 a1 b1 P1 => ?_)
    · try dsimp only
      repeat (first | exact n_qk_end F | refine n_nt_F F (by omega) o0 o1 (fun y F => ?_) | rw [if_pos (n_qF_t F)] | (rw [n_qF_word F, n_bs]; dsimp only) | (rw [n_qF_sign F, n_bs]; dsimp only))
    · try dsimp only
      rw [if_pos rfl]
      refine ⟨true, x1, _, (), rfl, rfl, fun _ => ⟨_, _, _, _, by omega, P1, ?_⟩, fun q => by cases q⟩
      unfold n_nOK
      refine ⟨fun w hw => ?_, ?_⟩
      · simp only [n_upE]
        refine ⟨?_, ?_⟩ <;> repeat rw [if_neg (by omega)]
      · simp [n_upE]
        try omega
theorem n_numsJ9 {h k x g : m_H} {c' i : Nat} {o : Int} {c d : Int → Int} (B : n_qB h k c') (P : n_qP h k c' x g i o 0 c d) (o0 : 0 ≤ o) (o1 : o < 40) : n_qJ h k c' (n_nC9 x) (t11_numbers 127 o 9 g) (n_nQ h k c' i o 9 c d) := by
  unfold n_nC9 t11_numbers
  rw [m_w_of (x := 9) (by omega) (by omega), if_neg (show ¬ (9 : Int) = 0 by decide), if_neg (show ¬ (9 : Int) = 1 by decide), if_neg (show ¬ (9 : Int) = 2 by decide), if_neg (show ¬ (9 : Int) = 3 by decide), if_neg (show ¬ (9 : Int) = 4 by decide), if_neg (show ¬ (9 : Int) = 5 by decide), if_neg (show ¬ (9 : Int) = 6 by decide), if_neg (show ¬ (9 : Int) = 7 by decide), if_neg (show ¬ (9 : Int) = 8 by decide), if_pos (show (9 : Int) = 9 from rfl)]
  rw [if_pos (n_qP_tC P)]
  refine n_nt_J B P o1 (by omega) (by omega) (a := 38) (w := 3) (lo := 0) (hi := 128) (by omega) (by omega) (by omega) (by omega) (fun _ => rfl) (fun y F => ?_) (fun v0 x0 g0 a0 b0 P0 => ?_)
  · try dsimp only
    repeat (first | exact n_qk_end F | refine n_nt_F F (by omega) o0 o1 (fun y F => ?_) | rw [if_pos (n_qF_t F)] | (rw [n_qF_word F, n_bs]; dsimp only) | (rw [n_qF_sign F, n_bs]; dsimp only))
  · try dsimp only
    rw [if_pos rfl]
    rw [if_pos (n_qP_tC P0)]
    refine n_nt_J B P0 o1 (by omega) (by omega) (a := 39) (w := 4) (lo := 0) (hi := 128) (by omega) (by omega) (by omega) (by omega) (fun _ => rfl) (fun y F => ?_) (fun v1 x1 g1 a1 b1 P1 => ?_)
    · try dsimp only
      repeat (first | exact n_qk_end F | refine n_nt_F F (by omega) o0 o1 (fun y F => ?_) | rw [if_pos (n_qF_t F)] | (rw [n_qF_word F, n_bs]; dsimp only) | (rw [n_qF_sign F, n_bs]; dsimp only))
    · try dsimp only
      rw [if_pos rfl]
      rw [if_pos (n_qP_tC P1)]
      refine n_nt_J B P1 o1 (by omega) (by omega) (a := 40) (w := 5) (lo := 0) (hi := 128) (by omega) (by omega) (by omega) (by omega) (fun _ => rfl) (fun y F => ?_) (fun v2 x2 g2 a2 b2 P2 => ?_)
      · try dsimp only
        repeat (first | exact n_qk_end F | refine n_nt_F F (by omega) o0 o1 (fun y F => ?_) | rw [if_pos (n_qF_t F)] | (rw [n_qF_word F, n_bs]; dsimp only) | (rw [n_qF_sign F, n_bs]; dsimp only))
      · try dsimp only
        rw [if_pos rfl]
        refine ⟨true, x2, _, (), rfl, rfl, fun _ => ⟨_, _, _, _, by omega, P2, ?_⟩, fun q => by cases q⟩
        unfold n_nOK
        refine ⟨fun w hw => ?_, ?_⟩
        · simp only [n_upE]
          refine ⟨?_, ?_⟩ <;> repeat rw [if_neg (by omega)]
        · simp [n_upE]
          try omega
theorem n_numsJ10 {h k x g : m_H} {c' i : Nat} {o : Int} {c d : Int → Int} (B : n_qB h k c') (P : n_qP h k c' x g i o 0 c d) (o0 : 0 ≤ o) (o1 : o < 40) : n_qJ h k c' (n_nC10 x) (t11_numbers 127 o 10 g) (n_nQ h k c' i o 10 c d) := by
  unfold n_nC10 t11_numbers
  rw [m_w_of (x := 10) (by omega) (by omega), if_neg (show ¬ (10 : Int) = 0 by decide), if_neg (show ¬ (10 : Int) = 1 by decide), if_neg (show ¬ (10 : Int) = 2 by decide), if_neg (show ¬ (10 : Int) = 3 by decide), if_neg (show ¬ (10 : Int) = 4 by decide), if_neg (show ¬ (10 : Int) = 5 by decide), if_neg (show ¬ (10 : Int) = 6 by decide), if_neg (show ¬ (10 : Int) = 7 by decide), if_neg (show ¬ (10 : Int) = 8 by decide), if_neg (show ¬ (10 : Int) = 9 by decide), if_pos (show (10 : Int) = 10 from rfl)]
  rw [if_pos (n_qP_tC P), if_pos (n_qP_tR P)]
  refine n_qJ_word B P (kw := 21) (by omega) (by omega) rfl (fun _ => rfl) (fun y F => ?_) (fun x0 g0 P0 => ?_)
  · try dsimp only
    repeat (first | exact n_qk_end F | refine n_nt_F F (by omega) o0 o1 (fun y F => ?_) | rw [if_pos (n_qF_t F)] | (rw [n_qF_word F, n_bs]; dsimp only) | (rw [n_qF_sign F, n_bs]; dsimp only))
  · try dsimp only
    rw [if_pos rfl]
    rw [if_pos (n_qP_tC P0)]
    refine n_nt_J B P0 o1 (by omega) (by omega) (a := 38) (w := 3) (lo := 0) (hi := 1500) (by omega) (by omega) (by omega) (by omega) (fun _ => rfl) (fun y F => ?_) (fun v1 x1 g1 a1 b1 P1 => ?_)
    · try dsimp only
      repeat (first | exact n_qk_end F | refine n_nt_F F (by omega) o0 o1 (fun y F => ?_) | rw [if_pos (n_qF_t F)] | (rw [n_qF_word F, n_bs]; dsimp only) | (rw [n_qF_sign F, n_bs]; dsimp only))
    · try dsimp only
      rw [if_pos rfl]
      rw [if_pos (n_qP_tC P1), if_pos (n_qP_tR P1)]
      refine n_qJ_word B P1 (kw := 22) (by omega) (by omega) rfl (fun _ => rfl) (fun y F => ?_) (fun x2 g2 P2 => ?_)
      · try dsimp only
        repeat (first | exact n_qk_end F | refine n_nt_F F (by omega) o0 o1 (fun y F => ?_) | rw [if_pos (n_qF_t F)] | (rw [n_qF_word F, n_bs]; dsimp only) | (rw [n_qF_sign F, n_bs]; dsimp only))
      · try dsimp only
        rw [if_pos rfl]
        rw [if_pos (n_qP_tC P2)]
        refine n_nt_J B P2 o1 (by omega) (by omega) (a := 39) (w := 4) (lo := 0) (hi := 1500) (by omega) (by omega) (by omega) (by omega) (fun _ => rfl) (fun y F => ?_) (fun v3 x3 g3 a3 b3 P3 => ?_)
        · try dsimp only
          repeat (first | exact n_qk_end F | refine n_nt_F F (by omega) o0 o1 (fun y F => ?_) | rw [if_pos (n_qF_t F)] | (rw [n_qF_word F, n_bs]; dsimp only) | (rw [n_qF_sign F, n_bs]; dsimp only))
        · try dsimp only
          rw [if_pos rfl]
          refine ⟨true, x3, _, (), rfl, rfl, fun _ => ⟨_, _, _, _, by omega, P3, ?_⟩, fun q => by cases q⟩
          unfold n_nOK
          refine ⟨fun w hw => ?_, ?_⟩
          · simp only [n_upE]
            refine ⟨?_, ?_⟩ <;> repeat rw [if_neg (by omega)]
          · simp [n_upE]
            try omega
theorem n_numsJ11 {h k x g : m_H} {c' i : Nat} {o : Int} {c d : Int → Int} (B : n_qB h k c') (P : n_qP h k c' x g i o 0 c d) (o0 : 0 ≤ o) (o1 : o < 40) : n_qJ h k c' (n_nC11 x) (t11_numbers 127 o 11 g) (n_nQ h k c' i o 11 c d) := by
  unfold n_nC11 t11_numbers
  rw [m_w_of (x := 11) (by omega) (by omega), if_neg (show ¬ (11 : Int) = 0 by decide), if_neg (show ¬ (11 : Int) = 1 by decide), if_neg (show ¬ (11 : Int) = 2 by decide), if_neg (show ¬ (11 : Int) = 3 by decide), if_neg (show ¬ (11 : Int) = 4 by decide), if_neg (show ¬ (11 : Int) = 5 by decide), if_neg (show ¬ (11 : Int) = 6 by decide), if_neg (show ¬ (11 : Int) = 7 by decide), if_neg (show ¬ (11 : Int) = 8 by decide), if_neg (show ¬ (11 : Int) = 9 by decide), if_neg (show ¬ (11 : Int) = 10 by decide), if_pos (show (11 : Int) = 11 from rfl)]
  rw [if_pos (n_qP_tC P)]
  refine n_nt_J B P o1 (by omega) (by omega) (a := 38) (w := 3) (lo := 0) (hi := 128) (by omega) (by omega) (by omega) (by omega) (fun _ => rfl) (fun y F => ?_) (fun v0 x0 g0 a0 b0 P0 => ?_)
  · try dsimp only
    repeat (first | exact n_qk_end F | refine n_nt_F F (by omega) o0 o1 (fun y F => ?_) | rw [if_pos (n_qF_t F)] | (rw [n_qF_word F, n_bs]; dsimp only) | (rw [n_qF_sign F, n_bs]; dsimp only))
  · try dsimp only
    refine ⟨true, x0, _, (), rfl, rfl, fun _ => ⟨_, _, _, _, by omega, P0, ?_⟩, fun q => by cases q⟩
    unfold n_nOK
    refine ⟨fun w hw => ?_, ?_⟩
    · simp only [n_upE]
      refine ⟨?_, ?_⟩ <;> repeat rw [if_neg (by omega)]
    · simp [n_upE]
      try omega
