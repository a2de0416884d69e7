/-! LEVEL 2: TOOLS -/
theorem n_iter {β : Type} (G : Int → β) (lo n : Int) (hle : lo ≤ n) (hs : ∀ i, lo ≤ i → i < n → G i = G (i + 1)) : G lo = G n := by
  obtain ⟨k, hk⟩ : ∃ k : Nat, n = lo + k := ⟨(n - lo).toNat, by omega⟩
  subst hk
  clear hle
  induction k with
  | zero => simp
  | succ k ih =>
    rw [ih (fun i h1 h2 => hs i h1 (by omega)), hs (lo + k) (by omega) (by omega)]
    congr 1; omega
theorem n_back {β : Type} (G : Int → β) (lo n : Int) (hle : lo ≤ n) (hs : ∀ i, lo < i → i ≤ n → G i = G (i - 1)) : G n = G lo := by
  obtain ⟨k, hk⟩ : ∃ k : Nat, n = lo + k := ⟨(n - lo).toNat, by omega⟩
  subst hk
  clear hle
  induction k with
  | zero => simp
  | succ k ih =>
    rw [hs (lo + ((k + 1 : Nat) : Int)) (by omega) (by omega), ← ih (fun i h1 h2 => hs i h1 (by omega))]
    congr 1; omega
theorem n_bs {α β : Type} (x : α) (f : α → Option β) : (some x >>= f) = f x := rfl
theorem n_bn {α β : Type} (f : α → Option β) : ((none : Option α) >>= f) = none := rfl
theorem n_ltT {a b : Int} (h : a < b) : (a < b) = True := eq_true h
theorem n_ltF {a b : Int} (h : ¬ a < b) : (a < b) = False := eq_false h
theorem n_leT {a b : Int} (h : a ≤ b) : (a ≤ b) = True := eq_true h
theorem n_leF {a b : Int} (h : ¬ a ≤ b) : (a ≤ b) = False := eq_false h
theorem n_eqT {a b : Int} (h : a = b) : (a = b) = True := eq_true h
theorem n_eqF {a b : Int} (h : ¬ a = b) : (a = b) = False := eq_false h
theorem n_gd {β : Type} {c : Prop} [Decidable c] {T T2 : Option β} (hc : c) (h : T = T2) : (if c then T else none) = T2 := by rw [if_pos hc]; exact h
/-! heaps -/
theorem n_ext {h g : m_H} (e : h.2 = g.2) (e1 : ∀ b j, m_g h b j = m_g g b j) : h = g := by
  obtain ⟨a, b⟩ := h
  obtain ⟨c, d⟩ := g
  obtain rfl : b = d := e
  obtain rfl : a = c := funext fun x => funext fun y => e1 x y
  rfl
/-- places lo .. hi - 1 of a cell written by a function -/
def n_fl (h : m_H) (a lo hi : Int) (f : Int → Int) : m_H := (fun x j => if x = a ∧ lo ≤ j ∧ j < hi then f j else m_g h x j, h.2)
theorem n_g_fl (h : m_H) (a lo hi : Int) (f : Int → Int) (x j : Int) : m_g (n_fl h a lo hi f) x j = if x = a ∧ lo ≤ j ∧ j < hi then f j else m_g h x j := rfl
theorem n_t_fl (h : m_H) (a lo hi : Int) (f : Int → Int) (x : Int) : m_t (n_fl h a lo hi f) x = m_t h x := rfl
theorem n_l_fl (h : m_H) (a lo hi : Int) (f : Int → Int) (x : Int) : m_l (n_fl h a lo hi f) x = m_l h x := rfl
theorem n_n_fl (h : m_H) (a lo hi : Int) (f : Int → Int) : m_n (n_fl h a lo hi f) = m_n h := rfl
theorem n_s_fl (h : m_H) (a lo hi : Int) (f : Int → Int) : m_s (n_fl h a lo hi f) = m_s h := rfl
theorem n_fl_0 (h : m_H) (a lo hi : Int) (f : Int → Int) (hh : hi ≤ lo) : n_fl h a lo hi f = h := by
  refine n_ext rfl fun b j => ?_
  rw [n_g_fl, if_neg (by omega)]
theorem n_p_fl {h : m_H} {a lo i x : Int} {f : Int → Int} (hl : lo ≤ i) (hx : x = f i) : m_p (n_fl h a lo i f) a i x = n_fl h a lo (i + 1) f := by
  refine n_ext rfl fun b j => ?_
  rw [m_g_p, n_g_fl, n_g_fl, hx]
  by_cases hb : b = a
  · subst hb
    by_cases hj : j = i
    · subst hj
      rw [if_pos ⟨rfl, rfl⟩, if_pos (by omega)]
    · rw [if_neg (by omega)]
      by_cases c : lo ≤ j ∧ j < i
      · rw [if_pos (by omega), if_pos (by omega)]
      · rw [if_neg (by omega), if_neg (by omega)]
  · rw [if_neg (by omega), if_neg (by omega), if_neg (by omega)]
/-- a loop that writes place after place of one cell -/
theorem n_fill {β : Type} (G : Int → m_H → β) {h : m_H} {a lo n : Int} (f : Int → Int) (hle : lo ≤ n) (hs : ∀ i, lo ≤ i → i < n → G i (n_fl h a lo i f) = G (i + 1) (m_p (n_fl h a lo i f) a i (f i))) : G lo h = G n (n_fl h a lo n f) := by
  have := n_iter (fun i => G i (n_fl h a lo i f)) lo n hle (fun i h1 h2 => by
    show G i (n_fl h a lo i f) = G (i + 1) (n_fl h a lo (i + 1) f)
    rw [hs i h1 h2, n_p_fl h1 rfl])
  simpa only [n_fl_0 h a lo lo f (Int.le_refl _)] using this
/-! numbers -/
/-- the nearest sample -/
def n_cl (x : Int) : Int := if x < -32768 then -32768 else if 32767 < x then 32767 else x
theorem n_cl_of {x : Int} (h1 : -32768 ≤ x) (h2 : x ≤ 32767) : n_cl x = x := by unfold n_cl; rw [if_neg (by omega), if_neg (by omega)]
theorem n_cl_lo (x : Int) : -32768 ≤ n_cl x := by unfold n_cl; split <;> (try split) <;> omega
theorem n_cl_hi (x : Int) : n_cl x ≤ 32767 := by unfold n_cl; split <;> (try split) <;> omega
theorem n_max {a b : Int} (h1 : -2147483648 ≤ a) (h2 : a < 2147483648) (h3 : -2147483648 ≤ b) (h4 : b < 2147483648) : m_max a b = max a b := by
  unfold m_max
  rw [m_w_of h1 h2, m_w_of h3 h4]
  split <;> omega
theorem n_min {a b : Int} (h1 : -2147483648 ≤ a) (h2 : a < 2147483648) (h3 : -2147483648 ≤ b) (h4 : b < 2147483648) : m_min a b = min a b := by
  unfold m_min
  rw [m_w_of h1 h2, m_w_of h3 h4]
  split <;> omega
theorem n_near {x : Int} (h1 : -2147483648 ≤ x) (h2 : x < 2147483648) : m_max (-32768) (m_min 32767 x) = n_cl x := by
  rw [n_min (by omega) (by omega) h1 h2, n_max (by omega) (by omega) (by omega) (by omega)]
  unfold n_cl
  split
  · omega
  · split <;> omega
