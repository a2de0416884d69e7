/-! THE SMALL HEAP: cells at 1, 2, 3 ..; slots and addresses are whole numbers; 0 is null; what lies below the claim's own cells has a number below 0 -/
abbrev m_H : Type := (Int → Int → Int) × (Int → Int) × (Int → Int) × Int × Int
def m_g (h : m_H) (a k : Int) : Int := h.1 a k
def m_t (h : m_H) (a : Int) : Int := h.2.1 a
def m_l (h : m_H) (a : Int) : Int := h.2.2.1 a
def m_n (h : m_H) : Int := h.2.2.2.1
def m_s (h : m_H) : Int := h.2.2.2.2
/-- one slot is written -/
def m_p (h : m_H) (a k v : Int) : m_H := (fun b j => if b = a ∧ j = k then v else m_g h b j, h.2)
/-- a cell of kind t with n slots is made -/
def m_a (h : m_H) (t n : Int) : m_H := (fun b j => if b = m_n h then 0 else m_g h b j, fun b => if b = m_n h then t else m_t h b, fun b => if b = m_n h then n else m_l h b, m_n h + 1, m_s h + n)
/-- new int[n][k] -/
def m_a2 (h : m_H) (n k : Int) : m_H := (fun b j => if b = m_n h then (if 0 ≤ j ∧ j < n then m_n h + 1 + j else 0) else if m_n h < b ∧ b ≤ m_n h + n then 0 else m_g h b j, fun b => if b = m_n h then 29 else if m_n h < b ∧ b ≤ m_n h + n then 20 else m_t h b, fun b => if b = m_n h then n else if m_n h < b ∧ b ≤ m_n h + n then k else m_l h b, m_n h + 1 + n, m_s h + n + n * k)
/-- n places of an array from s on copied to another from e on -/
def m_cp (h : m_H) (a s b e n : Int) : m_H := (fun x j => if x = b ∧ e ≤ j ∧ j < e + n then m_g h a (s + (j - e)) else m_g h x j, h.2)
theorem m_g_p (h : m_H) (a k v b j : Int) : m_g (m_p h a k v) b j = if b = a ∧ j = k then v else m_g h b j := rfl
theorem m_t_p (h : m_H) (a k v b : Int) : m_t (m_p h a k v) b = m_t h b := rfl
theorem m_l_p (h : m_H) (a k v b : Int) : m_l (m_p h a k v) b = m_l h b := rfl
theorem m_n_p (h : m_H) (a k v : Int) : m_n (m_p h a k v) = m_n h := rfl
theorem m_s_p (h : m_H) (a k v : Int) : m_s (m_p h a k v) = m_s h := rfl
theorem m_g_a (h : m_H) (t n b j : Int) : m_g (m_a h t n) b j = if b = m_n h then 0 else m_g h b j := rfl
theorem m_t_a (h : m_H) (t n b : Int) : m_t (m_a h t n) b = if b = m_n h then t else m_t h b := rfl
theorem m_l_a (h : m_H) (t n b : Int) : m_l (m_a h t n) b = if b = m_n h then n else m_l h b := rfl
theorem m_n_a (h : m_H) (t n : Int) : m_n (m_a h t n) = m_n h + 1 := rfl
theorem m_s_a (h : m_H) (t n : Int) : m_s (m_a h t n) = m_s h + n := rfl
theorem m_g_cp (h : m_H) (a s b e n x j : Int) : m_g (m_cp h a s b e n) x j = if x = b ∧ e ≤ j ∧ j < e + n then m_g h a (s + (j - e)) else m_g h x j := rfl
theorem m_t_cp (h : m_H) (a s b e n x : Int) : m_t (m_cp h a s b e n) x = m_t h x := rfl
theorem m_l_cp (h : m_H) (a s b e n x : Int) : m_l (m_cp h a s b e n) x = m_l h x := rfl
theorem m_n_cp (h : m_H) (a s b e n : Int) : m_n (m_cp h a s b e n) = m_n h := rfl
theorem m_s_cp (h : m_H) (a s b e n : Int) : m_s (m_cp h a s b e n) = m_s h := rfl
/-! numbers: an int is a whole number up to 2^32, a long up to 2^64 -/
def m_w (x : Int) : Int := (x + 2147483648) % 4294967296 - 2147483648
def m_v (x : Int) : Int := (x + 9223372036854775808) % 18446744073709551616 - 9223372036854775808
theorem m_w_i (x : Int) : (Int32.ofInt x).toInt = m_w x := by
  rw [Int32.toInt_ofInt, m_w, Int.bmod_def, show Int32.size = 4294967296 from rfl]
  split <;> omega
theorem m_v_j (x : Int) : (Int64.ofInt x).toInt = m_v x := by
  rw [Int64.toInt_ofInt, m_v, Int.bmod_def, show Int64.size = 18446744073709551616 from rfl]
  split <;> omega
theorem m_w_of {x : Int} (h : -2147483648 ≤ x) (h2 : x < 2147483648) : m_w x = x := by rw [m_w]; omega
theorem m_v_of {x : Int} (h : -9223372036854775808 ≤ x) (h2 : x < 9223372036854775808) : m_v x = x := by rw [m_v]; omega
theorem m_w_lo (x : Int) : -2147483648 ≤ m_w x := by rw [m_w]; omega
theorem m_w_hi (x : Int) : m_w x < 2147483648 := by rw [m_w]; omega
theorem m_w_w (x : Int) : m_w (m_w x) = m_w x := m_w_of (m_w_lo x) (m_w_hi x)
theorem m_i_w (x : Int) : Int32.ofInt (m_w x) = Int32.ofInt x := by rw [← m_w_i, Int32.ofInt_toInt]
theorem m_j_v (x : Int) : Int64.ofInt (m_v x) = Int64.ofInt x := by rw [← m_v_j, Int64.ofInt_toInt]
/-! operations on ints that are read bit by bit -/
def m_and (a b : Int) : Int := (Int32.ofInt a &&& Int32.ofInt b).toInt
def m_or (a b : Int) : Int := (Int32.ofInt a ||| Int32.ofInt b).toInt
def m_xor (a b : Int) : Int := (Int32.ofInt a ^^^ Int32.ofInt b).toInt
def m_shl (a b : Int) : Int := (Int32.ofInt a <<< (Int32.ofInt b &&& 31)).toInt
def m_shr (a b : Int) : Int := (Int32.ofInt a >>> (Int32.ofInt b &&& 31)).toInt
def m_ushr (a b : Int) : Int := ((Int32.ofInt a).toUInt32 >>> ((Int32.ofInt b).toUInt32 &&& Int32.toUInt32 31)).toInt32.toInt
def m_i2s (a : Int) : Int := (Int32.ofInt a).toInt16.toInt32.toInt
def m_i2b (a : Int) : Int := (Int32.ofInt a).toInt8.toInt32.toInt
def m_land (a b : Int) : Int := (Int64.ofInt a &&& Int64.ofInt b).toInt
def m_lor (a b : Int) : Int := (Int64.ofInt a ||| Int64.ofInt b).toInt
def m_lshl (a b : Int) : Int := (Int64.ofInt a <<< ((Int32.ofInt b).toInt64 &&& 63)).toInt
def m_lshr (a b : Int) : Int := (Int64.ofInt a >>> ((Int32.ofInt b).toInt64 &&& 63)).toInt
def m_lcmp (a b : Int) : Int := if m_v b < m_v a then 1 else if m_v a = m_v b then 0 else -1
def m_b2i (b : Bool) : Int := if b then 1 else 0
/-! values, and where the cells lie -/
abbrev m_V : Type := Nat × Int
abbrev m_i (x : Int) : m_V := (0, x)
abbrev m_j (x : Int) : m_V := (1, x)
abbrev m_r (a : Int) : m_V := (2, a)
/-- the first own address, the heap at the law's start, classes and slots, the classes of arrays, the addresses of what is not the claim's own (1: the script; 2 on: texts), the texts' bytes, the script -/
abbrev m_D : Type := Nat × Heap × va_G × (Nat → ClassId) × (Nat → Nat) × (Nat → Nat) × Nat × (Nat → Int32)
def m_ad (d : m_D) (a : Int) : Nat := if 0 < a then d.1 + (a.toNat - 1) else d.2.2.2.2.1 (-a).toNat
def m_tr (d : m_D) (v : m_V) : Value := if v.1 = 0 then .int (Int32.ofInt v.2) else if v.1 = 1 then .long (Int64.ofInt v.2) else if v.2 = 0 then .null else .ref (m_ad d v.2)
theorem m_tr_i (d : m_D) (x : Int) : m_tr d (0, x) = .int (Int32.ofInt x) := rfl
theorem m_tr_j (d : m_D) (x : Int) : m_tr d (1, x) = .long (Int64.ofInt x) := rfl
theorem m_tr_n (d : m_D) : m_tr d (2, 0) = .null := rfl
theorem m_tr_r {d : m_D} {a : Int} (h : a ≠ 0) : m_tr d (2, a) = .ref (m_ad d a) := by
  show (if a = 0 then Value.null else .ref (m_ad d a)) = _
  rw [if_neg h]
/-- the kinds of the fields of the classes X0 .. X11 (0 int, 2 reference), and of the places of arrays -/
def m_fks : List (List Nat) := [[0,0,0,0],[2,2,2,0,0,0,0,0,2,2,2,0,0],[2,2,2,0,2,2,0,0],[2,2,2,2,2],[2,0,2,2,2,0,0,0,2,2,0],[2,0],[2,0,0,2],[2,0,0,0,0,2,0,2,2,2,0,0],[0,0,0,2,0,0,0,0,0,0,0,0],[2,2,2,2,2,0,0],[2,2,2,2,0,2,2,2,2,2],[2,2,2,2,2,2,2,2,2,2,2,2,2,2,0,0,0,0,0,2,2,2,2,0,2,2,2,0,2,2,0,0,0,0,2,2,2,2,2,2,2,2,2,0,2,2,2,0,2,2,2,2,2,2,2,2,2,2,0,0,0,0,0,2,2,2,2,2,2,2,2,2,2,0,0,2,2,2,2,0,2,2,2,2,2,0,0,0,0,0,0,0]]
def m_fk (t : Int) (k : Nat) : Nat := (m_fks.getD t.toNat []).getD k 0
def m_ek (t : Int) : Nat := if t = 21 then 1 else if t < 24 then 0 else 2
def m_nf (t : Int) : Nat := (m_fks.getD t.toNat []).length
def m_tys (cA : Nat → ClassId) : List (ClassId × FieldType) := [(cA 20, .int), (cA 21, .long), (cA 22, .byte), (cA 23, .boolean), (cA 24, .object RX8), (cA 25, .object RX0), (cA 26, .object RX6), (cA 27, .object RX5), (cA 28, .object "java/lang/String"), (cA 29, .array .int)]
/-- the cell at a, as the heap has it -/
def m_at (d : m_D) (h : m_H) (a : Int) (H : Heap) : Prop :=
  if m_t h a < 20 then t_OB (m_ad d a) (d.2.2.1.1 (m_t h a).toNat) (m_nf (m_t h a)) (d.2.2.1.2 (m_t h a).toNat) H (fun k => m_tr d (m_fk (m_t h a) k, m_g h a k))
  else 0 ≤ m_l h a ∧ m_l h a < 2147483648 ∧ H[m_ad d a]? = some (arrV (d.2.2.2.1 (m_t h a).toNat) (m_l h a).toNat (fun j => m_tr d (m_ek (m_t h a), m_g h a j)))
/-- the heap holds the small heap from d.1 on, and below what lay there at the law's start -/
def m_R (d : m_D) (h : m_H) (H : Heap) : Prop :=
  (H.size : Int) + 1 = d.1 + m_n h ∧ 1 ≤ m_n h ∧ (∀ a, 0 ≤ m_t h a → 1 ≤ a ∧ a < m_n h ∧ (m_t h a < 12 ∨ 20 ≤ m_t h a) ∧ m_t h a < 30 ∧ m_at d h a H) ∧ ∀ q, q < d.1 → H[q]? = d.2.1[q]?
