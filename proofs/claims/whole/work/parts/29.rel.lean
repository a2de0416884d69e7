/-! THE RELATION of both objects: h is where the component's cells are read, g where the reference's -/
def n_Rhand (h g : m_H) : Prop := m_g h 8 1 = m_g g 127 16 ∧ 0 ≤ m_g g 127 16 ∧ m_g g 127 16 ≤ 300 ∧ ∀ j, 0 ≤ j → j < m_g g 127 16 → n_rg h 8 j = m_g g 129 j ∧ -32768 ≤ m_g g 129 j ∧ m_g g 129 j ≤ 32767
def n_Rtape (h g : m_H) : Prop := m_g h 119 1 = m_g g 127 85 ∧ 0 ≤ m_g g 127 85 ∧ m_g g 127 85 ≤ 1000 ∧ ∀ j, 0 ≤ j → j < m_g g 127 85 → n_rg h 119 j = m_g g 308 j ∧ -32768 ≤ m_g g 308 j ∧ m_g g 308 j ≤ 32767
/-- strip i, at the cell a -/
def n_strip (h g : m_H) (i a : Int) : Prop :=
  (m_t h a = 8 ∧ 312 ≤ a ∧ m_t h (m_g h a 3) = 5 ∧ 312 ≤ m_g h a 3) ∧
  m_g h a 0 = i ∧ m_g h a 1 = m_g g 132 i ∧ m_g h a 2 = m_g g 138 i ∧ m_g h a 4 = m_g g 133 i ∧ m_g h a 5 = m_g g 134 i ∧ m_g h a 6 = m_g g 135 i ∧ m_g h a 7 = m_g g 136 i ∧ m_g h a 8 = m_g g 137 i ∧ m_g h a 9 = m_g g 139 i ∧ m_g h a 10 = m_g g 140 i ∧ m_g h a 11 = m_g g 141 i ∧
  m_g h (m_g h a 3) 1 = m_g g 131 i ∧ ∀ j, 0 ≤ j → j < m_g g 131 i → n_rg h (m_g h a 3) j = m_g g 128 (m_g g 130 i + j)
/-- the bounds of strip i -/
def n_strB (g : m_H) (i : Int) : Prop :=
  0 ≤ m_g g 130 i ∧ 1 ≤ m_g g 131 i ∧ m_g g 131 i ≤ 300 ∧ m_g g 130 i + m_g g 131 i ≤ m_g g 127 15 ∧ 0 ≤ m_g g 132 i ∧ m_g g 132 i ≤ 6 ∧ 0 ≤ m_g g 133 i ∧ m_g g 133 i ≤ 2 ∧ 0 ≤ m_g g 134 i ∧ m_g g 134 i ≤ i ∧ 0 ≤ m_g g 135 i ∧ m_g g 135 i ≤ 1000 ∧ 0 ≤ m_g g 136 i ∧ m_g g 136 i ≤ 1000 ∧ -1 ≤ m_g g 137 i ∧ m_g g 137 i ≤ 29 ∧
  0 ≤ m_g g 138 i ∧ m_g g 138 i ≤ 400 ∧ -1 ≤ m_g g 139 i ∧ m_g g 139 i < 100 ∧ -1 ≤ m_g g 140 i ∧ m_g g 140 i < 100 ∧ 0 ≤ m_g g 141 i ∧ m_g g 141 i ≤ 400 ∧ (m_g g 133 i ≠ 0 → m_g g 137 i = -1)
def n_mach (h g : m_H) (i a : Int) : Prop := (m_t h a = 0 ∧ 312 ≤ a) ∧ m_g h a 0 = m_g g 142 i ∧ m_g h a 1 = m_g g 143 i ∧ m_g h a 2 = m_g g 144 i ∧ m_g h a 3 = m_g g 145 i
def n_macB (g : m_H) (i : Int) : Prop := -50 ≤ m_g g 142 i ∧ m_g g 142 i ≤ 50 ∧ 0 ≤ m_g g 143 i ∧ m_g g 143 i ≤ 128 ∧ 0 ≤ m_g g 144 i ∧ m_g g 144 i ≤ 100 ∧ 0 ≤ m_g g 145 i ∧ m_g g 145 i ≤ 200
/-- the shelf's numbers -/
def n_shN (h g : m_H) : Prop :=
  m_g h 2 1 = m_g g 127 14 ∧ m_g h 2 2 = m_g g 127 15 ∧ m_g h 2 3 = m_g g 127 18 ∧ m_g h 2 4 = m_g g 127 17 ∧ m_g h 2 6 = m_g g 127 23 ∧ m_g h 2 10 = m_g g 127 27
def n_shB (g : m_H) : Prop :=
  0 ≤ m_g g 127 14 ∧ m_g g 127 14 ≤ 100 ∧ 0 ≤ m_g g 127 15 ∧ m_g g 127 15 ≤ 20000 ∧ 0 ≤ m_g g 127 18 ∧ m_g g 127 18 ≤ 400 ∧ 0 ≤ m_g g 127 17 ∧ m_g g 127 17 ≤ 9 ∧ 0 ≤ m_g g 127 23 ∧ m_g g 127 23 ≤ 4 ∧ 0 ≤ m_g g 127 27 ∧ m_g g 127 27 ≤ 100
/-- what holds of the reference's strips alone -/
def n_gs (g : m_H) : Prop := n_shB g ∧ (∀ i, 0 ≤ i → i < m_g g 127 14 → n_strB g i) ∧ (∀ i, 0 ≤ i → i < m_g g 127 23 → n_macB g i) ∧ (∀ j, 0 ≤ j → j < m_g g 127 15 → -32768 ≤ m_g g 128 j ∧ m_g g 128 j ≤ 32767) ∧
  (∀ i j, 0 ≤ i → i < j → j < m_g g 127 14 → m_g g 137 i = m_g g 137 j → m_g g 137 i = -1) ∧
  ∀ j, 0 ≤ j → j < m_g g 127 27 → (0 ≤ m_g g 146 j ∧ m_g g 146 j < m_g g 127 14) ∧ (0 ≤ m_g g 147 j ∧ m_g g 147 j ≤ 999) ∧ 0 ≤ m_g g 148 j ∧ m_g g 148 j ≤ 400
def n_Rsh (h g : m_H) : Prop := n_shN h g ∧ (∀ i, 0 ≤ i → i < m_g g 127 14 → n_strip h g i (m_g h 3 i)) ∧ (∀ i, 0 ≤ i → i < m_g g 127 23 → n_mach h g i (m_g h 4 i)) ∧
  ∀ j, 0 ≤ j → j < m_g g 127 27 → m_g h 5 j = m_g g 146 j ∧ m_g h 6 j = m_g g 147 j ∧ m_g h 7 j = m_g g 148 j
def n_Rread (h g : m_H) : Prop := m_g h 10 1 = m_g g 127 30 ∧ 0 ≤ m_g g 127 30 ∧ m_g g 127 30 ≤ 1200 ∧ ∀ j, 0 ≤ j → j < m_g g 127 30 → 0 ≤ m_g h 11 j ∧ m_g h 11 j ≤ 255 ∧ m_g g 150 j = if m_g h 11 j < 128 then m_g h 11 j else m_g h 11 j - 256
/-- order o of score k, whose cells lie in the array c -/
def n_ord (h g : m_H) (k c o : Int) : Prop :=
  m_g h c (8 * o) = m_g g (153 + k) o ∧ m_g h c (8 * o + 1) = m_g g (163 + k) o ∧ m_g h c (8 * o + 2) = m_g g (173 + k) o ∧
  (m_g g (153 + k) o ≠ 3 → m_g h c (8 * o + 3) = m_g g (183 + k) o) ∧
  (m_g g (153 + k) o = 2 ∨ m_g g (153 + k) o = 4 ∨ m_g g (153 + k) o = 7 ∨ m_g g (153 + k) o = 9 ∨ m_g g (153 + k) o = 10 ∨ m_g g (153 + k) o = 12 → m_g h c (8 * o + 4) = m_g g (193 + k) o) ∧
  (m_g g (153 + k) o = 9 → m_g h c (8 * o + 5) = m_g g (203 + k) o) ∧
  (m_g g (153 + k) o = 12 → m_g h c (8 * o + 6) = m_g g (213 + k) o ∧ m_g h c (8 * o + 7) = m_g g (223 + k) o) ∧
  (m_g g (153 + k) o ≠ 12 → m_g h c (8 * o + 6) = 0 ∧ m_g h c (8 * o + 7) = 0)
/-- the bounds of order o of the score k of the reference -/
def n_ordB (g : m_H) (k o : Int) : Prop :=
  0 ≤ m_g g (153 + k) o ∧ m_g g (153 + k) o ≤ 12 ∧
  (m_g g (153 + k) o ≤ 1 → m_g g (163 + k) o = -1) ∧ (2 ≤ m_g g (153 + k) o → 0 ≤ m_g g (163 + k) o ∧ m_g g (163 + k) o < o ∧ m_g g (153 + k) (m_g g (163 + k) o) ≠ 12) ∧
  (m_g g (153 + k) o ≠ 5 → m_g g (173 + k) o = -1) ∧ (m_g g (153 + k) o = 5 → 0 ≤ m_g g (173 + k) o ∧ m_g g (173 + k) o < o ∧ m_g g (153 + k) (m_g g (173 + k) o) ≠ 12) ∧
  (m_g g (153 + k) o ≠ 3 → 0 ≤ m_g g (183 + k) o ∧ m_g g (183 + k) o ≤ 1500) ∧
  (m_g g (153 + k) o = 0 → m_g g (183 + k) o ≤ 99) ∧ (m_g g (153 + k) o = 1 → m_g g (183 + k) o ≤ 999) ∧
  (m_g g (153 + k) o = 4 → 1 ≤ m_g g (183 + k) o ∧ m_g g (183 + k) o ≤ 8 ∧ 1 ≤ m_g g (193 + k) o ∧ m_g g (193 + k) o ≤ 8) ∧
  (m_g g (153 + k) o = 5 → m_g g (183 + k) o ≤ 40) ∧
  (m_g g (153 + k) o = 7 → 1 ≤ m_g g (183 + k) o ∧ m_g g (183 + k) o ≤ 500 ∧ 0 ≤ m_g g (193 + k) o ∧ m_g g (193 + k) o ≤ 255) ∧
  (m_g g (153 + k) o = 8 → m_g g (183 + k) o ≤ 3) ∧
  (m_g g (153 + k) o = 9 → m_g g (183 + k) o ≤ 128 ∧ 0 ≤ m_g g (193 + k) o ∧ m_g g (193 + k) o ≤ 128 ∧ 0 ≤ m_g g (203 + k) o ∧ m_g g (203 + k) o ≤ 128) ∧
  (m_g g (153 + k) o = 11 → m_g g (183 + k) o ≤ 128) ∧
  (m_g g (153 + k) o = 2 ∨ m_g g (153 + k) o = 10 → 0 ≤ m_g g (193 + k) o ∧ m_g g (193 + k) o ≤ 1500) ∧
  (m_g g (153 + k) o = 12 → 0 ≤ m_g g (193 + k) o ∧ m_g g (193 + k) o ≤ 15 ∧ 1 ≤ m_g g (213 + k) o ∧ m_g g (213 + k) o ≤ 9 ∧ 0 ≤ m_g g (223 + k) o ∧ m_g g (223 + k) o ≤ 999)
/-- score k, at the cell a -/
def n_score (h g : m_H) (k a : Int) : Prop :=
  (m_t h a = 6 ∧ 312 ≤ a ∧ 312 ≤ m_g h a 0 ∧ 312 ≤ m_g h a 3 ∧ m_g h a 0 ≠ m_g h a 3) ∧ m_g h a 1 = m_g g 151 k ∧ m_l h (m_g h a 0) = 8 * m_g g 151 k ∧ m_g h a 2 = m_g g 292 k ∧
  (∀ o, 0 ≤ o → o < m_g g 151 k → n_ord h g k (m_g h a 0) o) ∧ (m_g g 292 k = 1 → ∀ o, 0 ≤ o → o < m_g g 151 k → m_g h (m_g h a 3) o = m_g g (294 + k) o ∧ -1 ≤ m_g g (294 + k) o ∧ m_g g (294 + k) o < 100)
def n_Rsc (h g : m_H) : Prop := m_g h 1 4 = m_g g 127 43 ∧ 0 ≤ m_g g 127 43 ∧ m_g g 127 43 ≤ 8 ∧
  (∀ k, 0 ≤ k → k < m_g g 127 43 → n_score h g k (m_g h 19 k) ∧ 0 ≤ m_g g 151 k ∧ m_g g 151 k ≤ 40 ∧ 0 ≤ m_g g 292 k ∧ m_g g 292 k ≤ 1 ∧ ∀ o, 0 ≤ o → o < m_g g 151 k → n_ordB g k o) ∧
  (∀ k q, 0 ≤ k → k < m_g g 127 43 → 0 ≤ q → q < m_g g 127 43 → k ≠ q → m_g h 19 k ≠ m_g h 19 q ∧ m_g h (m_g h 19 k) 3 ≠ m_g h (m_g h 19 q) 3 ∧ m_g h (m_g h 19 k) 3 ≠ m_g h (m_g h 19 q) 0) ∧
  ∀ q, m_g g 127 43 ≤ q → q < 8 → m_g g 292 q = 0
/-- how many layings the first n orders of a score have -/
def n_off (g : m_H) (k : Int) : Nat → Int
  | 0 => 0
  | n + 1 => n_off g k n + if m_g g (153 + k) n = 12 then m_g g (213 + k) n else 0
/-- the length of the row of order o by those that it is made of -/
def n_lenR (g : m_H) (k o : Int) : Prop :=
  (m_g g (153 + k) o = 2 → m_g g (183 + k) o + m_g g 286 o ≤ m_g g 286 (m_g g (163 + k) o)) ∧
  (m_g g (153 + k) o = 3 ∨ m_g g (153 + k) o = 7 ∨ m_g g (153 + k) o = 9 ∨ m_g g (153 + k) o = 10 ∨ m_g g (153 + k) o = 11 → m_g g 286 o = m_g g 286 (m_g g (163 + k) o)) ∧
  (m_g g (153 + k) o = 4 → (m_g g 286 o - 1) * m_g g (183 + k) o ≤ (m_g g 286 (m_g g (163 + k) o) - 1) * m_g g (193 + k) o) ∧
  (m_g g (153 + k) o = 5 → m_g g 286 o = m_g g 286 (m_g g (163 + k) o) + m_g g 286 (m_g g (173 + k) o) - m_g g (183 + k) o ∧ m_g g (183 + k) o ≤ m_g g 286 (m_g g (163 + k) o) ∧ m_g g (183 + k) o ≤ m_g g 286 (m_g g (173 + k) o)) ∧
  (m_g g (153 + k) o = 8 → m_g g (183 + k) o < m_g g 127 23 ∧ (m_g g 286 o - 1) * (1000 + m_g g 142 (m_g g (183 + k) o)) ≤ (m_g g 286 (m_g g (163 + k) o) - 1) * 1000)
/-- the piece that was made last, of score k -/
def n_piece (h g : m_H) (k : Int) : Prop :=
  m_g h 106 2 = m_g h 19 k ∧ m_g h 107 1 = m_g g 127 61 ∧ 0 ≤ m_g g 127 61 ∧ m_g g 127 61 ≤ 3000 ∧
  (∀ j, 0 ≤ j → j < m_g g 127 61 → n_rg h 107 j = m_g g 285 j ∧ -32768 ≤ m_g g 285 j ∧ m_g g 285 j ≤ 32767) ∧
  (∀ o, 0 ≤ o → o < m_g g 151 k → m_g h 113 o = m_g g 287 o ∧ -1 ≤ m_g g 287 o ∧ m_g g 287 o < 100 ∧
    (m_g g (153 + k) o ≠ 12 → m_g h 112 o = m_g g 286 o ∧ 1 ≤ m_g g 286 o ∧ m_g g 286 o ≤ 1500) ∧ (m_g g (153 + k) o = 12 → m_g h 112 o = m_g g 286 (m_g g (163 + k) o))) ∧
  m_g g 127 62 = n_off g k (m_g g 151 k).toNat ∧
  (∀ o j, 0 ≤ o → o < m_g g 151 k → m_g g (153 + k) o = 12 → 0 ≤ j → j < m_g g (213 + k) o → m_g g 288 (n_off g k o.toNat + j) = o ∧ m_g g 289 (n_off g k o.toNat + j) = m_g g (193 + k) o ∧ m_g g 290 (n_off g k o.toNat + j) = m_g g (183 + k) o + j * m_g g (223 + k) o ∧ m_g g 291 (n_off g k o.toNat + j) = m_g g 286 (m_g g (163 + k) o)) ∧
  ∀ o, 0 ≤ o → o < m_g g 151 k → n_lenR g k o
def n_Rpc (h g : m_H) : Prop := m_g h 106 3 = m_g g 127 60 ∧ -1 ≤ m_g g 127 60 ∧ m_g g 127 60 < m_g g 127 43 ∧ (m_g g 127 60 = -1 → m_g h 106 2 = 109 ∧ m_g h 109 1 = 0 ∧ m_g h 107 1 = 0) ∧ (0 ≤ m_g g 127 60 → n_piece h g (m_g g 127 60))
/-! the ways of a strip, and runs of the tape on them -/
def n_play (r : Int → Int) (n i p q : Int) : Int := if n - 1 ≤ Int.tdiv (i * p) q then r (n - 1) else r (Int.tdiv (i * p) q) + Int.tdiv (Int.tmod (i * p) q * (r (Int.tdiv (i * p) q + 1) - r (Int.tdiv (i * p) q))) q
def n_smp (g : m_H) (s j : Int) : Int := m_g g 128 (m_g g 130 s + j)
def n_wl (g : m_H) (s w : Int) : Int := if w = 2 then 2 * m_g g 131 s - 1 else if w = 3 then Int.tdiv (m_g g 131 s - 1) 2 + 1 else m_g g 131 s
def n_wv (g : m_H) (s w i : Int) : Int := if w = 1 then n_smp g s (m_g g 131 s - 1 - i) else if w = 2 then n_play (n_smp g s) (m_g g 131 s) i 1 2 else if w = 3 then n_play (n_smp g s) (m_g g 131 s) i 2 1 else n_smp g s i
def n_fit (g : m_H) (m s w t p : Int) : Bool := decide (p < n_wl g s w ∧ t < m_g g 127 85 ∧ m_g g 308 t - n_wv g s w p ≤ m ∧ n_wv g s w p - m_g g 308 t ≤ m)
def n_runN (ok : Int → Int → Bool) : Nat → Int → Int → Int
  | 0, _, _ => 0
  | k + 1, t, p => if ok t p = true then n_runN ok k (t + 1) (p + 1) + 1 else 0
def n_run (g : m_H) (m s w t p : Int) : Int := n_runN (n_fit g m s w) (m_g g 127 85 - t).toNat t p
def n_lay (g : m_H) (s w p : Int) : Prop := 0 ≤ s ∧ s < m_g g 127 14 ∧ m_g g 133 s < 2 ∧ 0 ≤ w ∧ w < 4 ∧ 0 ≤ p ∧ p < n_wl g s w
/-- L is the longest run from the time t -/
def n_isL (g : m_H) (m t L : Int) : Prop := (∀ s w p, n_lay g s w p → n_run g m s w t p ≤ L) ∧ (L = 0 ∨ ∃ s w p, n_lay g s w p ∧ n_run g m s w t p = L) ∧ 0 ≤ L
def n_Rm (h g : m_H) (k : Int) : Prop := -1 ≤ m_g h 121 11 ∧ m_g h 121 11 ≤ 65535 ∧ 0 ≤ m_g h 121 12 ∧ m_g h 121 12 ≤ m_g h 2 11 ∧ m_g h 2 11 ≤ 10 * k ∧ (m_g h 121 11 ≠ -1 → m_g h 121 12 = m_g h 2 11 → ∀ t, 0 ≤ t → t < m_g g 127 85 → n_isL g (m_g h 121 11) t (m_g h 124 t))
/-- the whole relation, after k calls -/
def n_C (h g : m_H) (k : Int) : Prop := n_Rhand h g ∧ n_Rtape h g ∧ n_Rsh h g ∧ n_Rread h g ∧ n_Rsc h g ∧ n_Rpc h g ∧ n_Rm h g k
def n_R (h : m_H) (k : Int) : Prop := n_I h ∧ n_gs h ∧ n_bud h k ∧ n_C h h k
