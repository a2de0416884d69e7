/-! CALLS: quarrel: both -/
/-- laying i of a and laying j of b have a time in common -/
def n_qc (g : m_H) (k a b i j : Int) : Prop := n_bg g k b j - n_bg g k a i < n_ln g k a ∧ -(n_bg g k b j - n_bg g k a i) < n_ln g k b
def n_qu (g : m_H) (k a b : Int) : Prop := m_g g (193 + k) a = m_g g (193 + k) b ∧ ∃ i j, (0 ≤ i ∧ i < n_tm g k a) ∧ (0 ≤ j ∧ j < n_tm g k b) ∧ (a = b → i < j) ∧ n_qc g k a b i j
theorem n_trackC {h : m_H} {k a o : Int} (I : n_I h) (C : n_pc h k a) (o0 : 0 ≤ o) (o1 : o < m_g h 151 k) (v : m_g h (153 + k) o = 12) : t2_track 106 o h = some (m_g h (193 + k) o, h) := by
  obtain ⟨c1, c2⟩ := n_pcI C
  have q := n_scc_o C.1 o0 o1
  unfold t2_track
  rw [if_pos (n_t106 I.2), c1, if_pos c2, n_cell I C.1 o0 o1 (by omega) (by omega), n_bs]
  show some (m_g h (m_g h a 0) (8 * o + 4), h) = _
  rw [q.2.2.2.2.1 (by omega)]
theorem n_quarC {h : m_H} {k c a b : Int} (I : n_I h) (C : n_pc h k c) (a0 : 0 ≤ a) (a1 : a < m_g h 151 k) (b0 : 0 ≤ b) (b1 : b < m_g h 151 k) (va : m_g h (153 + k) a = 12) (vb : m_g h (153 + k) b = 12) : ∃ r : Bool, t2_quarrels 106 a b h = some (r, h) ∧ (r = true ↔ n_qu h k a b) := by
  obtain ⟨c1, c2⟩ := n_pcI C
  have t6 := n_t106 I.2
  have c3 := C.1.2.2.1
  have ba := n_scc_b C.1 a0 a1
  have bb := n_scc_b C.1 b0 b1
  have pa := (n_putB ba va).2.2.1
  have pb := (n_putB bb vb).2.2.1
  have ta := n_tm_b ba
  have tb := n_tm_b bb
  have la := n_ln_b C a0 a1 va
  have lb := n_ln_b C b0 b1 vb
  have s62 : ∀ i j, 0 ≤ i → i < n_tm h k a → 0 ≤ j → j ≤ 10 → t2_quarrels_x39 62 106 a b i j h = if j < n_tm h k b then (if n_bg h k b j - n_bg h k a i < n_ln h k a ∧ -(n_bg h k b j - n_bg h k a i) < n_ln h k b then some (true, h) else t2_quarrels_x39 62 106 a b i (j + 1) h) else t2_quarrels_x39 39 106 a b (i + 1) 0 h := fun i j i0 i1 j0 j1 => by
    have ga := n_bg_b ba va i0 (by omega)
    rw [t2_quarrels_x39, if_neg (by omega), if_pos rfl, if_pos t6, n_timesC I C b0 b1, n_bs]
    show (if m_w j < m_w (n_tm h k b) then if m_t h 106 = 2 then t2_beginOf 106 b j h >>= _ else none else t2_quarrels_x39 39 106 a b (i + 1) 0 h) = _
    rw [m_w_of (x := j) (by omega) (by omega), m_w_of (x := n_tm h k b) (by omega) (by omega)]
    by_cases d : j < n_tm h k b
    · have gb := n_bg_b bb vb j0 (by omega)
      rw [if_pos d, if_pos d, if_pos t6, n_beginC I C b0 b1 vb, n_bs]
      show (if m_t h 106 = 2 then t2_beginOf 106 a i h >>= _ else none) = _
      rw [if_pos t6, n_beginC I C a0 a1 va, n_bs]
      show (some (n_bg h k b j - n_bg h k a i) >>= fun x11 => if m_t h 106 = 2 then t2_length 106 a h >>= _ else none) = _
      rw [n_bs, if_pos t6, n_lengthC I C a0 a1, n_bs, la.2.2]
      show (if m_w (n_bg h k b j - n_bg h k a i) < m_w (n_ln h k a) then if m_t h 106 = 2 then t2_length 106 b h >>= _ else none else t2_quarrels_x39 62 106 a b i (j + 1) h) = _
      rw [m_w_of (x := n_bg h k b j - n_bg h k a i) (by omega) (by omega), m_w_of (x := n_ln h k a) (by omega) (by omega)]
      by_cases e1 : n_bg h k b j - n_bg h k a i < n_ln h k a
      · rw [if_pos e1, if_pos t6, n_lengthC I C b0 b1, n_bs, lb.2.2]
        show (if m_w (-(n_bg h k b j - n_bg h k a i)) < m_w (n_ln h k b) then some (true, h) else t2_quarrels_x39 62 106 a b i (j + 1) h) = _
        rw [m_w_of (x := -(n_bg h k b j - n_bg h k a i)) (by omega) (by omega), m_w_of (x := n_ln h k b) (by omega) (by omega)]
        by_cases e2 : -(n_bg h k b j - n_bg h k a i) < n_ln h k b
        · rw [if_pos e2, if_pos ⟨e1, e2⟩]
        · rw [if_neg e2, if_neg (fun q => e2 q.2)]
      · rw [if_neg e1, if_neg (fun q => e1 q.1)]
    · rw [if_neg d, if_neg d]
  have s39 : ∀ i, 0 ≤ i → i ≤ n_tm h k a → t2_quarrels_x39 39 106 a b i 0 h = if i < n_tm h k a then t2_quarrels_x39 62 106 a b i (if a = b then i + 1 else 0) h else some (false, h) := fun i i0 i1 => by
    rw [t2_quarrels_x39, if_pos rfl, if_pos t6, n_timesC I C a0 a1, n_bs]
    show (if m_w i < m_w (n_tm h k a) then if m_w a = m_w b then some (i + 1) >>= _ else t2_quarrels_x39 62 106 a b i 0 h else some (false, h)) = _
    rw [m_w_of (x := i) (by omega) (by omega), m_w_of (x := n_tm h k a) (by omega) (by omega), m_w_of (x := a) (by omega) (by omega), m_w_of (x := b) (by omega) (by omega)]
    by_cases d : i < n_tm h k a
    · rw [if_pos d, if_pos d]
      by_cases e : a = b
      · rw [if_pos e, if_pos e, n_bs]
      · rw [if_neg e, if_neg e]
    · rw [if_neg d, if_neg d]
  have inner : ∀ i, 0 ≤ i → i < n_tm h k a → (t2_quarrels_x39 39 106 a b i 0 h = some (true, h) ∧ ∃ j, (0 ≤ j ∧ j < n_tm h k b) ∧ (a = b → i < j) ∧ n_qc h k a b i j) ∨ (t2_quarrels_x39 39 106 a b i 0 h = t2_quarrels_x39 39 106 a b (i + 1) 0 h ∧ ¬ ∃ j, (0 ≤ j ∧ j < n_tm h k b) ∧ (a = b → i < j) ∧ n_qc h k a b i j) := fun i i0 i1 => by
    rw [s39 i i0 (by omega), if_pos i1]
    have lo : 0 ≤ (if a = b then i + 1 else 0) ∧ (if a = b then i + 1 else 0) ≤ n_tm h k b := by
      by_cases e : a = b
      · rw [if_pos e, ← e]; omega
      · rw [if_neg e]; omega
    have lo2 : ∀ j, (if a = b then i + 1 else 0) ≤ j ↔ (0 ≤ j ∧ (a = b → i < j)) := fun j => by
      by_cases e : a = b
      · rw [if_pos e]; constructor
        · intro q; exact ⟨by omega, fun _ => by omega⟩
        · intro q; have := q.2 e; omega
      · rw [if_neg e]; constructor
        · intro q; exact ⟨q, fun z => absurd z e⟩
        · intro q; exact q.1
    generalize (if a = b then i + 1 else 0) = L at *
    rcases n_find (fun j => t2_quarrels_x39 62 106 a b i j h) L (n_tm h k b) (fun j => n_qc h k a b i j) lo.2 (fun j j0 j1 hp => by
      show t2_quarrels_x39 62 106 a b i j h = t2_quarrels_x39 62 106 a b i (j + 1) h
      rw [s62 i j i0 i1 (by omega) (by omega), if_pos j1]
      exact if_neg hp) with ⟨x, y⟩ | ⟨j, x, y, z, u, w⟩
    · right
      refine ⟨y.trans ?_, fun ⟨j, ⟨q1, q2⟩, q3, q4⟩ => x j ((lo2 j).mpr ⟨q1, q3⟩) q2 q4⟩
      show t2_quarrels_x39 62 106 a b i (n_tm h k b) h = _
      rw [s62 i _ i0 i1 (by omega) (by omega), if_neg (by omega)]
    · left
      have q := (lo2 j).mp x
      refine ⟨w.trans ?_, j, ⟨q.1, y⟩, q.2, z⟩
      show t2_quarrels_x39 62 106 a b i j h = _
      rw [s62 i j i0 i1 (by omega) (by omega), if_pos y]
      exact if_pos z
  have outer : ∃ r : Bool, t2_quarrels_x39 39 106 a b 0 0 h = some (r, h) ∧ (r = true ↔ ∃ i j, (0 ≤ i ∧ i < n_tm h k a) ∧ (0 ≤ j ∧ j < n_tm h k b) ∧ (a = b → i < j) ∧ n_qc h k a b i j) := by
    rcases n_find (fun i => t2_quarrels_x39 39 106 a b i 0 h) 0 (n_tm h k a) (fun i => ∃ j, (0 ≤ j ∧ j < n_tm h k b) ∧ (a = b → i < j) ∧ n_qc h k a b i j) ta.1 (fun i i0 i1 hp => by
      rcases inner i i0 i1 with ⟨x, y⟩ | ⟨x, y⟩
      · exact absurd y hp
      · exact x) with ⟨x, y⟩ | ⟨i, x, y, z, u, w⟩
    · refine ⟨false, y.trans ?_, fun q => (by cases q), fun ⟨i, j, q1, q2⟩ => absurd ⟨j, q2⟩ (x i q1.1 q1.2)⟩
      show t2_quarrels_x39 39 106 a b (n_tm h k a) 0 h = _
      rw [s39 _ ta.1 (by omega), if_neg (by omega)]
    · obtain ⟨j, z'⟩ := z
      refine ⟨true, w.trans ?_, fun _ => ⟨i, j, ⟨x, y⟩, z'⟩, fun _ => rfl⟩
      rcases inner i x y with ⟨p, q⟩ | ⟨p, q⟩
      · exact p
      · exact absurd ⟨j, z'⟩ q
  have e0 : t2_quarrels 106 a b h = if m_g h (193 + k) a = m_g h (193 + k) b then t2_quarrels_x39 39 106 a b 0 0 h else some (false, h) := by
    unfold t2_quarrels
    rw [if_pos t6, c1, if_pos c2, n_isPutC I C.1 a0 a1, n_bs, decide_eq_true va]
    show (if true = true then if m_t h 106 = 2 then if m_t h (m_g h 106 2) = 6 then t6_isPut (m_g h 106 2) b h >>= _ else none else none else _) = _
    rw [if_pos rfl, if_pos t6, c1, if_pos c2, n_isPutC I C.1 b0 b1, n_bs, decide_eq_true vb]
    show (if true = true then if m_t h 106 = 2 then t2_track 106 a h >>= _ else none else _) = _
    rw [if_pos rfl, if_pos t6, n_trackC I C a0 a1 va, n_bs]
    show (if m_t h 106 = 2 then t2_track 106 b h >>= _ else none) = _
    rw [if_pos t6, n_trackC I C b0 b1 vb, n_bs]
    show (if m_w (m_g h (193 + k) a) = m_w (m_g h (193 + k) b) then _ else _) = _
    rw [m_w_of (x := m_g h (193 + k) a) (by omega) (by omega), m_w_of (x := m_g h (193 + k) b) (by omega) (by omega)]
  rw [e0]
  unfold n_qu
  by_cases d : m_g h (193 + k) a = m_g h (193 + k) b
  · rw [if_pos d]
    obtain ⟨r, r1, r2⟩ := outer
    exact ⟨r, r1, fun q => ⟨d, r2.mp q⟩, fun q => r2.mpr q.2⟩
  · rw [if_neg d]
    exact ⟨false, rfl, fun q => (by cases q), fun q => absurd q.1 d⟩
/-- each place of the layings is one of some order -/
theorem n_layEx {h : m_H} {k a : Int} (C : n_pc h k a) : ∀ (n : Nat), (n : Int) ≤ m_g h 151 k → ∀ l, 0 ≤ l → l < n_off h k n → ∃ o j : Int, (0 ≤ o ∧ o < n) ∧ (0 ≤ j ∧ j < n_tm h k o) ∧ l = n_off h k o.toNat + j := by
  intro n
  induction n with
  | zero => intro _ l l0 l1; unfold n_off at l1; omega
  | succ n ih =>
    intro hn l l0 l1
    by_cases c : l < n_off h k n
    · obtain ⟨o, j, x, y, z⟩ := ih (by omega) l l0 c
      exact ⟨o, j, ⟨x.1, by omega⟩, y, z⟩
    · have e : n_off h k (n + 1) = n_off h k n + n_tm h k n := rfl
      exact ⟨n, l - n_off h k n, ⟨by omega, by omega⟩, ⟨by omega, by omega⟩, by rw [show ((n : Int)).toNat = n by omega]; omega⟩
theorem n_layLt {h : m_H} {k a o j o' j' : Int} (C : n_pc h k a) (o0 : 0 ≤ o) (o1 : o < m_g h 151 k) (p0 : 0 ≤ o') (p1 : o' < m_g h 151 k) (j0 : 0 ≤ j) (j1 : j < n_tm h k o) (q0 : 0 ≤ j') (q1 : j' < n_tm h k o') : n_off h k o.toNat + j < n_off h k o'.toNat + j' ↔ (o < o' ∨ (o = o' ∧ j < j')) := by
  have mono : ∀ x y, 0 ≤ x → x < y → y < m_g h 151 k → n_off h k x.toNat + n_tm h k x ≤ n_off h k y.toNat := fun x y x0 xy y1 => by
    have om := n_off_mono (g := h) (k := k) (N := (m_g h 151 k).toNat) (fun x x0 x1 => C.1.2.2.2 x x0 (by omega)) (y.toNat - (x + 1).toNat) (x + 1).toNat (by omega)
    rw [show (x + 1).toNat + (y.toNat - (x + 1).toNat) = y.toNat by omega, n_off_s x0] at om
    exact om
  rcases Int.lt_trichotomy o o' with c | c | c
  · have := mono o o' o0 c p1; omega
  · subst c; omega
  · have := mono o' o p0 c o1; omega
theorem n_quarR {h : m_H} {k c a b : Int} (I : n_I h) (C : n_pc h k c) (a0 : 0 ≤ a) (ab : a ≤ b) (b1 : b < m_g h 151 k) (va : m_g h (153 + k) a = 12) (vb : m_g h (153 + k) b = 12) : ∃ r : Bool, t11_quarrels 127 a b h = some (r, h) ∧ (r = true ↔ n_qu h k a b) := by
  have tM := n_t127 I.2
  have c3 := C.1.2.2.1
  have N1 : m_g h 127 62 = n_off h k (m_g h 151 k).toNat := C.2.2.1.2.2.2.2.2.2.1
  have nb := n_off_b (g := h) (k := k) (m_g h 151 k).toNat (fun x x0 x1 => C.1.2.2.2 x x0 (by omega))
  have l8 := n_l288 I.2
  have l9 := n_l289 I.2
  have l0 := n_l290 I.2
  have l1 := n_l291 I.2
  have k8 := n_t288 I.2
  have k9 := n_t289 I.2
  have k0 := n_t290 I.2
  have k1 := n_t291 I.2
  have p8 := n_p127_66 I.2
  have p9 := n_p127_67 I.2
  have p0 := n_p127_68 I.2
  have p1 := n_p127_69 I.2
  have lay : ∀ l, 0 ≤ l → l < m_g h 127 62 → ∃ o j, (0 ≤ o ∧ o < m_g h 151 k) ∧ (0 ≤ j ∧ j < n_tm h k o) ∧ l = n_off h k o.toNat + j ∧ m_g h 288 l = o ∧ m_g h 289 l = m_g h (193 + k) o ∧ m_g h 290 l = n_bg h k o j ∧ m_g h 291 l = n_ln h k o ∧ (0 ≤ n_bg h k o j ∧ n_bg h k o j ≤ 10500) ∧ (1 ≤ n_ln h k o ∧ n_ln h k o ≤ 1500) ∧ 0 ≤ m_g h (193 + k) o ∧ m_g h (193 + k) o ≤ 15 := fun l z0 z1 => by
    obtain ⟨o, j, x, y, z⟩ := n_layEx C (m_g h 151 k).toNat (by omega) l z0 (by omega)
    have xb : o < m_g h 151 k := by omega
    have L := n_layL C x.1 xb y.1 y.2
    have b := n_scc_b C.1 x.1 xb
    have tb := n_tm_b b
    have v := tb.2.2 (by omega)
    have bb := n_bg_b b v y.1 (by omega)
    have lb := n_ln_b C x.1 xb v
    have pb := (n_putB b v).2.2.1
    rw [← z] at L
    exact ⟨o, j, ⟨x.1, xb⟩, y, z, L.2.1, L.2.2.1, L.2.2.2.1, L.2.2.2.2, bb, ⟨lb.1, lb.2.1⟩, pb⟩
  have s15 : ∀ l l2, 0 ≤ l → l < m_g h 127 62 → 0 ≤ l2 → l2 ≤ m_g h 127 62 → t11_quarrels_x2 15 127 a b l l2 h = if l2 < m_g h 127 62 then (if ((m_g h 288 l = a ∧ m_g h 288 l2 = b) ∨ (m_g h 288 l = b ∧ m_g h 288 l2 = a)) ∧ m_g h 289 l = m_g h 289 l2 ∧ m_g h 290 l < m_g h 290 l2 + m_g h 291 l2 ∧ m_g h 290 l2 < m_g h 290 l + m_g h 291 l then some (true, h) else t11_quarrels_x2 15 127 a b l (l2 + 1) h) else t11_quarrels_x2 2 127 a b (l + 1) 0 h := fun l l2 x0 x1 y0 y1 => by
    rw [t11_quarrels_x2, if_neg (by omega), if_pos rfl, if_pos tM, m_w_of (x := l2) (by omega) (by omega), m_w_of (x := m_g h 127 62) (by omega) (by omega)]
    by_cases d : l2 < m_g h 127 62
    · obtain ⟨o, j, u1, u2, u3, u4, u5, u6, u7, u8, u9, u10⟩ := lay l x0 x1
      obtain ⟨o', j', v1, v2, v3, v4, v5, v6, v7, v8, v9, v10⟩ := lay l2 y0 d
      have c8 : m_t h 288 = 20 ∧ 0 ≤ l ∧ l < m_l h 288 := ⟨k8, x0, by omega⟩
      have c8' : m_t h 288 = 20 ∧ 0 ≤ l2 ∧ l2 < m_l h 288 := ⟨k8, y0, by omega⟩
      have c9 : m_t h 289 = 20 ∧ 0 ≤ l ∧ l < m_l h 289 := ⟨k9, x0, by omega⟩
      have c9' : m_t h 289 = 20 ∧ 0 ≤ l2 ∧ l2 < m_l h 289 := ⟨k9, y0, by omega⟩
      have c0 : m_t h 290 = 20 ∧ 0 ≤ l ∧ l < m_l h 290 := ⟨k0, x0, by omega⟩
      have c0' : m_t h 290 = 20 ∧ 0 ≤ l2 ∧ l2 < m_l h 290 := ⟨k0, y0, by omega⟩
      have c1 : m_t h 291 = 20 ∧ 0 ≤ l ∧ l < m_l h 291 := ⟨k1, x0, by omega⟩
      have c1' : m_t h 291 = 20 ∧ 0 ≤ l2 ∧ l2 < m_l h 291 := ⟨k1, y0, by omega⟩
      have wl := m_w_of (x := l) (by omega) (by omega)
      have wl2 := m_w_of (x := l2) (by omega) (by omega)
      have wo := m_w_of (x := o) (by omega) (by omega)
      have wo' := m_w_of (x := o') (by omega) (by omega)
      have wa := m_w_of (x := a) (by omega) (by omega)
      have wb := m_w_of (x := b) (by omega) (by omega)
      have e66 : t11_quarrels_x2 66 127 a b l l2 h = if m_g h 289 l = m_g h 289 l2 ∧ m_g h 290 l < m_g h 290 l2 + m_g h 291 l2 ∧ m_g h 290 l2 < m_g h 290 l + m_g h 291 l then some (true, h) else t11_quarrels_x2 15 127 a b l (l2 + 1) h := by
        rw [t11_quarrels_x2, if_neg (by omega), if_neg (by omega), if_neg (by omega), if_pos rfl, if_neg (show ¬ m_w 1 = 0 by decide), if_pos tM, p9, p0, p1, wl, wl2, if_pos c9, if_pos c9', u5, v5, u6, v6, u7, v7, m_w_of (x := m_g h (193 + k) o) (by omega) (by omega), m_w_of (x := m_g h (193 + k) o') (by omega) (by omega)]
        by_cases q : m_g h (193 + k) o = m_g h (193 + k) o'
        · rw [if_pos q, if_pos c0, if_pos c0', if_pos c1', m_w_of (x := n_bg h k o j) (by omega) (by omega), m_w_of (x := n_bg h k o' j' + n_ln h k o') (by omega) (by omega)]
          by_cases q2 : n_bg h k o j < n_bg h k o' j' + n_ln h k o'
          · rw [if_pos q2, if_pos c1, m_w_of (x := n_bg h k o' j') (by omega) (by omega), m_w_of (x := n_bg h k o j + n_ln h k o) (by omega) (by omega)]
            by_cases q3 : n_bg h k o' j' < n_bg h k o j + n_ln h k o
            · rw [if_pos q3, if_pos ⟨q, q2, q3⟩]
            · rw [if_neg q3, if_neg (fun z => q3 z.2.2)]
          · rw [if_neg q2, if_neg (fun z => q2 z.2.1)]
        · rw [if_neg q, if_neg (fun z => q z.1)]
      have e70 : t11_quarrels_x2 70 127 a b l l2 h = t11_quarrels_x2 15 127 a b l (l2 + 1) h := by
        rw [t11_quarrels_x2, if_neg (by omega), if_neg (by omega), if_neg (by omega), if_neg (by omega), if_pos rfl, if_pos (show m_w 0 = 0 by decide)]
      have e45 : t11_quarrels_x2 45 127 a b l l2 h = if o = b ∧ o' = a then t11_quarrels_x2 66 127 a b l l2 h else t11_quarrels_x2 15 127 a b l (l2 + 1) h := by
        rw [t11_quarrels_x2, if_neg (by omega), if_neg (by omega), if_pos rfl, if_pos tM, p8, wl, wl2, if_pos c8, u4, wo, wb]
        by_cases q : o = b
        · rw [if_pos q, if_pos c8', v4, wo', wa]
          by_cases q2 : o' = a
          · rw [if_pos q2, if_pos ⟨q, q2⟩]
          · rw [if_neg q2, if_neg (fun z => q2 z.2), e70]
        · rw [if_neg q, if_neg (fun z => q z.1), e70]
      rw [if_pos d, if_pos d, p8, wl, if_pos c8, u4, wo, wa]
      have fin : (if o = a ∧ o' = b then t11_quarrels_x2 66 127 a b l l2 h else t11_quarrels_x2 45 127 a b l l2 h) = if ((o = a ∧ m_g h 288 l2 = b) ∨ (o = b ∧ m_g h 288 l2 = a)) ∧ m_g h 289 l = m_g h 289 l2 ∧ m_g h 290 l < m_g h 290 l2 + m_g h 291 l2 ∧ m_g h 290 l2 < m_g h 290 l + m_g h 291 l then some (true, h) else t11_quarrels_x2 15 127 a b l (l2 + 1) h := by
        rw [v4, e45, e66]
        by_cases q : o = a ∧ o' = b
        · rw [if_pos q]
          by_cases z : m_g h 289 l = m_g h 289 l2 ∧ m_g h 290 l < m_g h 290 l2 + m_g h 291 l2 ∧ m_g h 290 l2 < m_g h 290 l + m_g h 291 l
          · rw [if_pos z, if_pos ⟨Or.inl q, z⟩]
          · rw [if_neg z, if_neg (fun y => z y.2)]
        · rw [if_neg q]
          by_cases q2 : o = b ∧ o' = a
          · rw [if_pos q2]
            by_cases z : m_g h 289 l = m_g h 289 l2 ∧ m_g h 290 l < m_g h 290 l2 + m_g h 291 l2 ∧ m_g h 290 l2 < m_g h 290 l + m_g h 291 l
            · rw [if_pos z, if_pos ⟨Or.inr q2, z⟩]
            · rw [if_neg z, if_neg (fun y => z y.2)]
          · rw [if_neg q2, if_neg (fun y => y.1.elim q q2)]
      rw [← fin]
      by_cases q : o = a
      · rw [if_pos q, if_pos c8', v4, wo', wb]
        by_cases q2 : o' = b
        · rw [if_pos q2, if_pos ⟨q, q2⟩]
        · rw [if_neg q2, if_neg (fun z => q2 z.2)]
      · rw [if_neg q, if_neg (fun z => q z.1)]
    · rw [if_neg d, if_neg d]
  have s2 : ∀ l, 0 ≤ l → l ≤ m_g h 127 62 → t11_quarrels_x2 2 127 a b l 0 h = if l < m_g h 127 62 then t11_quarrels_x2 15 127 a b l (l + 1) h else some (false, h) := fun l x0 x1 => by
    rw [t11_quarrels_x2, if_pos rfl, if_pos tM, m_w_of (x := l) (by omega) (by omega), m_w_of (x := m_g h 127 62) (by omega) (by omega)]
    by_cases d : l < m_g h 127 62
    · rw [if_pos d, if_pos d, n_bs]
    · rw [if_neg d, if_neg d]
  have inner : ∀ l, 0 ≤ l → l < m_g h 127 62 → (t11_quarrels_x2 2 127 a b l 0 h = some (true, h) ∧ ∃ l2, (l < l2 ∧ l2 < m_g h 127 62) ∧ ((m_g h 288 l = a ∧ m_g h 288 l2 = b) ∨ (m_g h 288 l = b ∧ m_g h 288 l2 = a)) ∧ m_g h 289 l = m_g h 289 l2 ∧ m_g h 290 l < m_g h 290 l2 + m_g h 291 l2 ∧ m_g h 290 l2 < m_g h 290 l + m_g h 291 l) ∨ (t11_quarrels_x2 2 127 a b l 0 h = t11_quarrels_x2 2 127 a b (l + 1) 0 h ∧ ¬ ∃ l2, (l < l2 ∧ l2 < m_g h 127 62) ∧ ((m_g h 288 l = a ∧ m_g h 288 l2 = b) ∨ (m_g h 288 l = b ∧ m_g h 288 l2 = a)) ∧ m_g h 289 l = m_g h 289 l2 ∧ m_g h 290 l < m_g h 290 l2 + m_g h 291 l2 ∧ m_g h 290 l2 < m_g h 290 l + m_g h 291 l) := fun l x0 x1 => by
    rw [s2 l x0 (by omega), if_pos x1]
    rcases n_find (fun l2 => t11_quarrels_x2 15 127 a b l l2 h) (l + 1) (m_g h 127 62) (fun l2 => ((m_g h 288 l = a ∧ m_g h 288 l2 = b) ∨ (m_g h 288 l = b ∧ m_g h 288 l2 = a)) ∧ m_g h 289 l = m_g h 289 l2 ∧ m_g h 290 l < m_g h 290 l2 + m_g h 291 l2 ∧ m_g h 290 l2 < m_g h 290 l + m_g h 291 l) (by omega) (fun j j0 j1 hp => by
      show t11_quarrels_x2 15 127 a b l j h = t11_quarrels_x2 15 127 a b l (j + 1) h
      rw [s15 l j x0 x1 (by omega) (by omega), if_pos j1]
      exact if_neg hp) with ⟨x, y⟩ | ⟨j, x, y, z, u, w⟩
    · right
      refine ⟨y.trans ?_, fun ⟨j, ⟨q1, q2⟩, q3⟩ => x j (by omega) q2 q3⟩
      show t11_quarrels_x2 15 127 a b l (m_g h 127 62) h = _
      rw [s15 l _ x0 x1 (by omega) (by omega), if_neg (by omega)]
    · left
      refine ⟨w.trans ?_, j, ⟨by omega, y⟩, z⟩
      show t11_quarrels_x2 15 127 a b l j h = _
      rw [s15 l j x0 x1 (by omega) (by omega), if_pos y]
      exact if_pos z
  have eqv : (∃ l l2, (0 ≤ l ∧ l < m_g h 127 62) ∧ (l < l2 ∧ l2 < m_g h 127 62) ∧ ((m_g h 288 l = a ∧ m_g h 288 l2 = b) ∨ (m_g h 288 l = b ∧ m_g h 288 l2 = a)) ∧ m_g h 289 l = m_g h 289 l2 ∧ m_g h 290 l < m_g h 290 l2 + m_g h 291 l2 ∧ m_g h 290 l2 < m_g h 290 l + m_g h 291 l) ↔ n_qu h k a b := by
    unfold n_qu n_qc
    constructor
    · intro ⟨l, l2, ⟨x0, x1⟩, ⟨y0, y1⟩, z1, z2, z3, z4⟩
      obtain ⟨o, j, u1, u2, u3, u4, u5, u6, u7, u8, u9, u10⟩ := lay l x0 x1
      obtain ⟨o', j', v1, v2, v3, v4, v5, v6, v7, v8, v9, v10⟩ := lay l2 (by omega) y1
      have lt := (n_layLt C u1.1 u1.2 v1.1 v1.2 u2.1 u2.2 v2.1 v2.2).mp (by omega)
      rw [u4, v4] at z1
      rw [u5, v5] at z2
      rw [u6, v6, v7] at z3
      rw [u6, v6, u7] at z4
      have ho : o = a ∧ o' = b := by
        rcases z1 with q | q
        · exact q
        · omega
      obtain ⟨h1, h2⟩ := ho
      subst h1 h2
      exact ⟨z2, j, j', u2, v2, fun e => by omega, by omega, by omega⟩
    · intro ⟨z2, i, j, q1, q2, q3, q4, q5⟩
      have A := n_layL C a0 (by omega) q1.1 q1.2
      have B := n_layL C (by omega) b1 q2.1 q2.2
      have lt := (n_layLt C a0 (by omega) (by omega) b1 q1.1 q1.2 q2.1 q2.2).mpr (by
        by_cases e : a = b
        · exact Or.inr ⟨e, q3 e⟩
        · left; omega)
      refine ⟨n_off h k a.toNat + i, n_off h k b.toNat + j, ⟨A.1.1, A.1.2.1⟩, ⟨lt, B.1.2.1⟩, Or.inl ⟨A.2.1, B.2.1⟩, ?_, ?_, ?_⟩
      · rw [A.2.2.1, B.2.2.1]; exact z2
      · rw [A.2.2.2.1, B.2.2.2.1, B.2.2.2.2]; omega
      · rw [A.2.2.2.1, B.2.2.2.1, A.2.2.2.2]; omega
  unfold t11_quarrels
  rcases n_find (fun l => t11_quarrels_x2 2 127 a b l 0 h) 0 (m_g h 127 62) (fun l => ∃ l2, (l < l2 ∧ l2 < m_g h 127 62) ∧ ((m_g h 288 l = a ∧ m_g h 288 l2 = b) ∨ (m_g h 288 l = b ∧ m_g h 288 l2 = a)) ∧ m_g h 289 l = m_g h 289 l2 ∧ m_g h 290 l < m_g h 290 l2 + m_g h 291 l2 ∧ m_g h 290 l2 < m_g h 290 l + m_g h 291 l) (by omega) (fun i i0 i1 hp => by
    rcases inner i i0 i1 with ⟨x, y⟩ | ⟨x, y⟩
    · exact absurd y hp
    · exact x) with ⟨x, y⟩ | ⟨i, x, y, z, u, w⟩
  · refine ⟨false, y.trans ?_, fun q => (by cases q), fun q => ?_⟩
    · show t11_quarrels_x2 2 127 a b (m_g h 127 62) 0 h = _
      rw [s2 _ (by omega) (by omega), if_neg (by omega)]
    · obtain ⟨l, l2, z1, z2⟩ := eqv.mpr q
      exact absurd ⟨l2, z2⟩ (x l z1.1 z1.2)
  · obtain ⟨j, z'⟩ := z
    refine ⟨true, w.trans ?_, fun _ => eqv.mp ⟨i, j, ⟨x, y⟩, z'⟩, fun _ => rfl⟩
    rcases inner i x y with ⟨p, q⟩ | ⟨p, q⟩
    · exact p
    · exact absurd ⟨j, z'⟩ q
theorem n_s_quarrel {h : m_H} {k : Int} (X : n_R h k) (q : Int) (q1 : -2147483648 ≤ q) (q2 : q < 2147483648) : n_step h k (t10_quarrel 1 q) (t11_quarrel 127 q) := by
  have X' := X
  obtain ⟨I, gs, bud, x1, x2, x3, x4, x5, x6, x7⟩ := X'
  have t1h := n_t1 I.2
  have t6 := n_t106 I.2
  have tM := n_t127 I.2
  have y := x6
  obtain ⟨y1, y2, y3, y4, y5⟩ := y
  have l5 := x5.2.2.1
  unfold n_step t10_quarrel t11_quarrel t2_quarrelAt
  rw [if_pos t1h, n_p1_6 I.2, if_pos t6]
  by_cases c : m_g h 127 60 = -1
  · obtain ⟨z1, z2, z3⟩ := y4 c
    have s109 : m_t h 109 = 6 := n_t109 I.2
    refine ⟨-1, h, -1, h, ?_, ?_, rfl, n_R_more X⟩
    · rw [t2_quarrelAt_x4, if_pos rfl, if_pos t6, z1, if_pos s109, z2, if_neg (by omega), n_bs]
    · rw [if_pos tM, m_w_of (by omega) (by omega), if_pos c]
  · have C := n_pc_of x5 x6 c
    generalize hk : m_g h 127 60 = kk at *
    generalize m_g h 19 kk = a at *
    obtain ⟨c1, c2⟩ := n_pcI C
    have c3 := C.1.2.2.1
    have eN := C.1.1.2.1
    have l151 := n_l151 I.2
    have k0 : 0 ≤ kk := C.2.2.2.2.1
    have k1 : kk < 8 := C.1.2.1.2
    have wk := m_w_of (x := kk) (by omega) (by omega)
    have wq := m_w_of q1 q2
    have wN := m_w_of (x := m_g h 151 kk) (by omega) (by omega)
    have e34 : m_t h (m_g h 127 34) = 20 ∧ 0 ≤ kk ∧ kk < m_l h (m_g h 127 34) := by rw [n_p127_34 I.2]; exact ⟨n_t151 I.2, k0, by omega⟩
    have a34 : m_g h (m_g h 127 34) kk = m_g h 151 kk := by rw [n_p127_34 I.2]
    have c22 : ∀ u a b, 0 ≤ a → a ≤ b → b ≤ m_g h 151 kk → a < m_g h 151 kk → ∃ r : Bool, (r = true ↔ (b < m_g h 151 kk ∧ m_g h (153 + kk) a = 12 ∧ m_g h (153 + kk) b = 12 ∧ n_qu h kk a b)) ∧ t2_quarrelAt_x4 22 106 u a b h = (if b < m_g h 151 kk then (if r = true then (if m_w u = 0 then some (a * 100 + b, h) else t2_quarrelAt_x4 22 106 (u + -1) a (b + 1) h) else t2_quarrelAt_x4 22 106 u a (b + 1) h) else t2_quarrelAt_x4 4 106 u (a + 1) 0 h) ∧ ∀ n, t11_quarrel_x14 30 127 q n a b h = (if b < m_g h 151 kk then (if r = true then (if m_w n = q then some (100 * a + b, h) else t11_quarrel_x14 30 127 q (n + 1) a (b + 1) h) else t11_quarrel_x14 30 127 q n a (b + 1) h) else t11_quarrel_x14 14 127 q n (a + 1) 0 h) := fun u x b x0 xb b1 x1 => by
      have wb := m_w_of (x := b) (by omega) (by omega)
      have wx := m_w_of (x := x) (by omega) (by omega)
      have eC : t2_quarrelAt_x4 22 106 u x b h = if b < m_g h 151 kk then (t2_quarrels 106 x b h >>= fun ⟨r5, h4⟩ => (if r5 = true then (if (m_w u) = 0 then some (((x * 100) + b), h4) else (t2_quarrelAt_x4 22 106 (u + (-1)) x (b + 1) h4)) else (t2_quarrelAt_x4 22 106 u x (b + 1) h4))) else t2_quarrelAt_x4 4 106 u (x + 1) 0 h := by
        rw [t2_quarrelAt_x4, if_neg (by omega), if_pos rfl, if_pos t6, c1, if_pos c2, eN, wb, wN]
      have eR : ∀ n, t11_quarrel_x14 30 127 q n x b h = if b < m_g h 151 kk then (if m_g h (153 + kk) x = 12 ∧ m_g h (153 + kk) b = 12 then (t11_quarrels 127 x b h >>= fun ⟨r10, h9⟩ => (if r10 = true then (if (m_w n) = q then some (((100 * x) + b), h9) else (t11_quarrel_x14 30 127 q (n + 1) x (b + 1) h9)) else (t11_quarrel_x14 30 127 q n x (b + 1) h9))) else t11_quarrel_x14 30 127 q n x (b + 1) h) else t11_quarrel_x14 14 127 q n (x + 1) 0 h := fun n => by
        rw [t11_quarrel_x14, if_neg (by omega), if_pos rfl, if_pos tM, hk, wk, if_pos e34, a34, wb, wN]
        by_cases d : b < m_g h 151 kk
        · have ox := n_scc_b C.1 x0 x1
          have ob := n_scc_b C.1 (o := b) (by omega) d
          have ox1 := ox.1
          have ox2 := ox.2.1
          have ob1 := ob.1
          have ob2 := ob.2.1
          rw [if_pos d, if_pos d, if_pos (n_c35 I.2 k0 (by omega)), n_a35 I.2 k0 (by omega), wx, if_pos (n_d35 I.2 k0 (by omega) x0 (by omega)), m_w_of (x := m_g h (153 + kk) x) (by omega) (by omega)]
          by_cases v : m_g h (153 + kk) x = 12
          · rw [if_pos v, if_pos (n_d35 I.2 k0 (by omega) (by omega) (by omega)), m_w_of (x := m_g h (153 + kk) b) (by omega) (by omega)]
            by_cases v2 : m_g h (153 + kk) b = 12
            · rw [if_pos v2, if_pos ⟨v, v2⟩, wq]
            · rw [if_neg v2, if_neg (fun z => v2 z.2)]
          · rw [if_neg v, if_neg (fun z => v z.1)]
        · rw [if_neg d, if_neg d]
      by_cases d : b < m_g h 151 kk
      · by_cases v : m_g h (153 + kk) x = 12 ∧ m_g h (153 + kk) b = 12
        · obtain ⟨r, r1, r2⟩ := n_quarC I C x0 x1 (by omega) d v.1 v.2
          obtain ⟨s, s1, s2⟩ := n_quarR I C x0 xb d v.1 v.2
          have rs : s = r := by
            cases r <;> cases s
            · rfl
            · exact absurd (r2.mpr (s2.mp rfl)) (by decide)
            · exact absurd (s2.mpr (r2.mp rfl)) (by decide)
            · rfl
          refine ⟨r, ⟨fun z => ⟨d, v.1, v.2, r2.mp z⟩, fun z => r2.mpr z.2.2.2⟩, ?_, fun n => ?_⟩
          · rw [eC, if_pos d, if_pos d, r1, n_bs]
          · rw [eR n, if_pos d, if_pos d, if_pos v, s1, n_bs, rs]
        · refine ⟨false, ⟨fun z => (by cases z), fun z => absurd ⟨z.2.1, z.2.2.1⟩ v⟩, ?_, fun n => ?_⟩
          · have ef : t2_quarrels 106 x b h = some (false, h) := by
              unfold t2_quarrels
              rw [if_pos t6, c1, if_pos c2, n_isPutC I C.1 x0 x1, n_bs]
              by_cases v1 : m_g h (153 + kk) x = 12
              · rw [decide_eq_true v1]
                show (if true = true then if m_t h 106 = 2 then if m_t h (m_g h 106 2) = 6 then t6_isPut (m_g h 106 2) b h >>= _ else none else none else _) = _
                rw [if_pos rfl, if_pos t6, c1, if_pos c2, n_isPutC I C.1 (by omega) d, n_bs, decide_eq_false (fun z => v ⟨v1, z⟩)]
                rfl
              · rw [decide_eq_false v1]
                rfl
            rw [eC, if_pos d, if_pos d, ef, n_bs]
          · rw [eR n, if_pos d, if_pos d, if_neg v]
            rfl
      · refine ⟨false, ⟨fun z => (by cases z), fun z => absurd z.1 d⟩, ?_, fun n => ?_⟩
        · rw [eC, if_neg d, if_neg d]
        · rw [eR n, if_neg d, if_neg d]
    have s4 : ∀ u x, 0 ≤ x → x ≤ m_g h 151 kk → t2_quarrelAt_x4 4 106 u x 0 h = if x < m_g h 151 kk then (if m_w u < 0 then some (-1, h) else t2_quarrelAt_x4 22 106 u x x h) else some (-1, h) := fun u x x0 x1 => by
      rw [t2_quarrelAt_x4, if_pos rfl, if_pos t6, c1, if_pos c2, eN, m_w_of (x := x) (by omega) (by omega), wN]
    have s14 : ∀ n x, 0 ≤ x → x ≤ m_g h 151 kk → t11_quarrel_x14 14 127 q n x 0 h = if x < m_g h 151 kk then t11_quarrel_x14 30 127 q n x x h else some (-1, h) := fun n x x0 x1 => by
      rw [t11_quarrel_x14, if_pos rfl, if_pos tM, hk, wk, if_pos e34, a34, m_w_of (x := x) (by omega) (by omega), wN]
    have main : ∃ T, t2_quarrelAt_x4 4 106 q 0 0 h = some (T, h) ∧ ∃ T2, t11_quarrel_x14 14 127 q 0 0 0 h = some (T2, h) ∧ T = T2 := by
      by_cases qs : q < 0
      · refine ⟨-1, ?_, -1, ?_, rfl⟩
        · rw [s4 q 0 (by omega) (by omega), wq, if_pos qs]
          split <;> rfl
        · have inn : ∀ (r : Nat) (b x n : Int), 0 ≤ x → x ≤ b → b + r = m_g h 151 kk → x < m_g h 151 kk → 0 ≤ n → n ≤ 100 * x + b → ∃ n', 0 ≤ n' ∧ n' ≤ 100 * (x + 1) ∧ t11_quarrel_x14 30 127 q n x b h = t11_quarrel_x14 14 127 q n' (x + 1) 0 h := by
            intro r
            induction r with
            | zero =>
              intro b x n x0 xb br x1 n0 n1
              obtain ⟨r, r1, r2, r3⟩ := c22 0 x b x0 xb (by omega) x1
              exact ⟨n, n0, by omega, by rw [r3 n, if_neg (by omega)]⟩
            | succ r ih =>
              intro b x n x0 xb br x1 n0 n1
              obtain ⟨r, r1, r2, r3⟩ := c22 0 x b x0 xb (by omega) x1
              rw [r3 n, if_pos (show b < m_g h 151 kk by omega), if_neg (show ¬ m_w n = q by rw [m_w_of (by omega) (by omega)]; omega)]
              cases r
              · exact ih (b + 1) x n x0 (by omega) (by omega) x1 n0 (by omega)
              · exact ih (b + 1) x (n + 1) x0 (by omega) (by omega) x1 (by omega) (by omega)
          have out : ∀ (r : Nat) (x n : Int), 0 ≤ x → x + r = m_g h 151 kk → 0 ≤ n → n ≤ 100 * x → t11_quarrel_x14 14 127 q n x 0 h = some (-1, h) := by
            intro r
            induction r with
            | zero => intro x n x0 xr n0 n1; rw [s14 n x x0 (by omega), if_neg (by omega)]
            | succ r ih =>
              intro x n x0 xr n0 n1
              obtain ⟨n', z0, z1, z2⟩ := inn (m_g h 151 kk - x).toNat x x n x0 (by omega) (by omega) (by omega) n0 (by omega)
              rw [s14 n x x0 (by omega), if_pos (by omega), z2]
              exact ih (x + 1) n' (by omega) (by omega) z0 z1
          exact out (m_g h 151 kk).toNat 0 0 (by omega) (by omega) (by omega) (by omega)
      · have inn : ∀ (r : Nat) (b x n : Int), 0 ≤ x → x ≤ b → b + r = m_g h 151 kk → x < m_g h 151 kk → 0 ≤ n → n ≤ 100 * x + b → n ≤ q → (∃ T, t2_quarrelAt_x4 22 106 (q - n) x b h = some (T, h) ∧ ∃ T2, t11_quarrel_x14 30 127 q n x b h = some (T2, h) ∧ T = T2) ∨ ∃ n', 0 ≤ n' ∧ n' ≤ 100 * (x + 1) ∧ n' ≤ q ∧ t2_quarrelAt_x4 22 106 (q - n) x b h = t2_quarrelAt_x4 4 106 (q - n') (x + 1) 0 h ∧ t11_quarrel_x14 30 127 q n x b h = t11_quarrel_x14 14 127 q n' (x + 1) 0 h := by
          intro r
          induction r with
          | zero =>
            intro b x n x0 xb br x1 n0 n1 n2
            obtain ⟨r, r1, r2, r3⟩ := c22 (q - n) x b x0 xb (by omega) x1
            right
            exact ⟨n, n0, by omega, n2, by rw [r2, if_neg (by omega)], by rw [r3 n, if_neg (by omega)]⟩
          | succ r ih =>
            intro b x n x0 xb br x1 n0 n1 n2
            obtain ⟨r, r1, r2, r3⟩ := c22 (q - n) x b x0 xb (by omega) x1
            rw [r2, r3 n, if_pos (show b < m_g h 151 kk by omega), if_pos (show b < m_g h 151 kk by omega), m_w_of (x := q - n) (by omega) (by omega), m_w_of (x := n) (by omega) (by omega)]
            cases r
            · exact ih (b + 1) x n x0 (by omega) (by omega) x1 n0 (by omega) n2
            · by_cases d : n = q
              · left
                refine ⟨x * 100 + b, ?_, 100 * x + b, ?_, by omega⟩
                · rw [if_pos rfl, if_pos (by omega)]
                · rw [if_pos rfl, if_pos d]
              · rw [if_pos rfl, if_pos rfl, if_neg (show ¬ q - n = 0 by omega), if_neg d, show q - n + -1 = q - (n + 1) by omega]
                exact ih (b + 1) x (n + 1) x0 (by omega) (by omega) x1 (by omega) (by omega) (by omega)
        have out : ∀ (r : Nat) (x n : Int), 0 ≤ x → x + r = m_g h 151 kk → 0 ≤ n → n ≤ 100 * x → n ≤ q → ∃ T, t2_quarrelAt_x4 4 106 (q - n) x 0 h = some (T, h) ∧ ∃ T2, t11_quarrel_x14 14 127 q n x 0 h = some (T2, h) ∧ T = T2 := by
          intro r
          induction r with
          | zero => intro x n x0 xr n0 n1 n2; exact ⟨-1, by rw [s4 _ x x0 (by omega), if_neg (by omega)], -1, by rw [s14 n x x0 (by omega), if_neg (by omega)], rfl⟩
          | succ r ih =>
            intro x n x0 xr n0 n1 n2
            rw [s4 _ x x0 (by omega), s14 n x x0 (by omega), if_pos (show x < m_g h 151 kk by omega), if_pos (show x < m_g h 151 kk by omega), if_neg (show ¬ m_w (q - n) < 0 by rw [m_w_of (by omega) (by omega)]; omega)]
            rcases inn (m_g h 151 kk - x).toNat x x n x0 (by omega) (by omega) (by omega) n0 (by omega) n2 with z | ⟨n', z0, z1, z2, z3, z4⟩
            · exact z
            · rw [z3, z4]
              exact ih (x + 1) n' (by omega) (by omega) z0 z1 z2
        have z := out (m_g h 151 kk).toNat 0 0 (by omega) (by omega) (by omega) (by omega) (by omega)
        rw [Int.sub_zero] at z
        exact z
    obtain ⟨T, r1, T2, r2, r3⟩ := main
    refine ⟨T, h, T2, h, ?_, ?_, by rw [r3], n_R_more X⟩
    · rw [r1, n_bs]
    · rw [if_pos tM, hk, wk, if_neg c]
      exact r2
