/-! CALLS: make ..: the reference plays: sums and layings, pure -/
def n_sO (g : m_H) (k d o : Int) : Nat → Int → Int
  | 0 => fun _ => 0
  | j + 1 => fun t => n_sO g k d o j t + if n_bg g k o j ≤ t ∧ t < n_bg g k o j + n_L g k d (m_g g (163 + k) o) then n_S g k d (m_g g (163 + k) o) (t - n_bg g k o j) else 0
def n_sT (g : m_H) (k d : Int) : Nat → Int → Int
  | 0 => fun _ => 0
  | n + 1 => fun t => n_sT g k d n t + n_sO g k d n (n_tm g k n).toNat t
def n_eT (g : m_H) (k d : Int) : Nat → Int
  | 0 => 0
  | n + 1 => if m_g g (153 + k) n = 12 then max (n_eT g k d n) (n_bg g k n (n_tm g k n - 1) + n_L g k d (m_g g (163 + k) n)) else n_eT g k d n
theorem n_sO_s (g : m_H) (k d o : Int) (j : Nat) (t : Int) : n_sO g k d o (j + 1) t = n_sO g k d o j t + if n_bg g k o j ≤ t ∧ t < n_bg g k o j + n_L g k d (m_g g (163 + k) o) then n_S g k d (m_g g (163 + k) o) (t - n_bg g k o j) else 0 := rfl
theorem n_sT_s (g : m_H) (k d : Int) (n : Nat) (t : Int) : n_sT g k d (n + 1) t = n_sT g k d n t + n_sO g k d n (n_tm g k n).toNat t := rfl
theorem n_eT_s (g : m_H) (k d : Int) (n : Nat) : n_eT g k d (n + 1) = if m_g g (153 + k) n = 12 then max (n_eT g k d n) (n_bg g k n (n_tm g k n - 1) + n_L g k d (m_g g (163 + k) n)) else n_eT g k d n := rfl
theorem n_sO_b {g : m_H} {k d o : Int} (ok : n_sB (n_S g k d (m_g g (163 + k) o)) (n_L g k d (m_g g (163 + k) o))) : ∀ (j : Nat) (t : Int), -(40000 * (j : Int)) ≤ n_sO g k d o j t ∧ n_sO g k d o j t ≤ 40000 * (j : Int)
  | 0, t => by unfold n_sO; omega
  | j + 1, t => by
    rw [n_sO_s]
    have := n_sO_b ok j t
    by_cases c : n_bg g k o j ≤ t ∧ t < n_bg g k o j + n_L g k d (m_g g (163 + k) o)
    · rw [if_pos c]
      have := ok (t - n_bg g k o j) (by omega) (by omega)
      omega
    · rw [if_neg c]; omega
theorem n_sT_b {g : m_H} {k d : Int} {N : Nat} (b : ∀ o, 0 ≤ o → o < (N : Int) → n_ordB g k o) (ok : ∀ o, 0 ≤ o → o < (N : Int) → m_g g (153 + k) o ≠ 12 → n_okO g k d o) : ∀ (n : Nat) (t : Int), n ≤ N → -(360000 * (n : Int)) ≤ n_sT g k d n t ∧ n_sT g k d n t ≤ 360000 * (n : Int)
  | 0, t, _ => by unfold n_sT; omega
  | n + 1, t, hn => by
    rw [n_sT_s]
    have q := n_sT_b b ok n t (by omega)
    have bn := b n (by omega) (by omega)
    have tb := n_tm_b bn
    by_cases v : m_g g (153 + k) n = 12
    · have p := n_putB bn v
      have s := n_sO_b (o := n) (ok _ p.1.1 (by omega) p.1.2.2).2.2 (n_tm g k n).toNat t
      omega
    · have : n_tm g k n = 0 := by unfold n_tm; rw [if_neg v]
      rw [this]
      show _ ≤ n_sT g k d n t + 0 ∧ n_sT g k d n t + 0 ≤ _
      omega
/-- the reference's rows of the orders ahead of n, sources of those ahead of m -/
def n_rR (g gg : m_H) (k d n m : Int) : Prop := (∀ o, 0 ≤ o → o < n → m_g g (153 + k) o ≠ 12 → m_g gg 278 o = n_L g k d o ∧ ∀ i, 0 ≤ i → i < n_L g k d o → m_g gg (238 + o) i = n_S g k d o i) ∧ ∀ o, 0 ≤ o → o < m → m_g gg 279 o = n_sOf g k o d
/-- what is laid: all of the orders ahead of n, and the first j of order n -/
def n_rY (g gg : m_H) (k d n j : Int) : Prop := m_g gg 127 58 = n_off g k n.toNat + j ∧
  (∀ o i, 0 ≤ o → 0 ≤ i → (o < n ∧ i < n_tm g k o) ∨ (o = n ∧ i < j) → m_g gg 281 (n_off g k o.toNat + i) = o ∧ m_g gg 282 (n_off g k o.toNat + i) = m_g g (193 + k) o ∧ m_g gg 283 (n_off g k o.toNat + i) = n_bg g k o i ∧ m_g gg 284 (n_off g k o.toNat + i) = n_L g k d (m_g g (163 + k) o)) ∧
  (∀ t, 0 ≤ t → t < 3000 → m_g gg 280 t = n_sT g k d n.toNat t + n_sO g k d n j.toNat t) ∧
  m_g gg 127 59 = if j = 0 then n_eT g k d n.toNat else max (n_eT g k d n.toNat) (n_bg g k n (j - 1) + n_L g k d (m_g g (163 + k) n))
def n_rTc : List Int := [149, 238, 239, 240, 241, 242, 243, 244, 245, 246, 247, 248, 249, 250, 251, 252, 253, 254, 255, 256, 257, 258, 259, 260, 261, 262, 263, 264, 265, 266, 267, 268, 269, 270, 271, 272, 273, 274, 275, 276, 277, 278, 279, 280, 281, 282, 283, 284]
theorem n_rTc_T : n_rTc.all n_scrT = true := by decide +kernel
theorem n_rTc_m {b : Int} : b ∈ n_rTc ↔ (b = 149 ∨ (238 ≤ b ∧ b ≤ 284)) := by
  unfold n_rTc
  simp only [List.mem_cons, List.not_mem_nil, or_false]
  omega
/-- nothing but the reference's play has changed -/
def n_rF (g gg : m_H) : Prop := n_I gg ∧ gg.2 = g.2 ∧ ∀ b j, ¬ (b = 149 ∨ (238 ≤ b ∧ b ≤ 284)) → ¬ (b = 127 ∧ (j = 58 ∨ j = 59)) → m_g gg b j = m_g g b j
theorem n_rF_kr {g gg : m_H} (F : n_rF g gg) : n_kr g gg n_rTc [58, 59] := ⟨F.2.1, fun b hb => by have := n_rTc_m.mp hb; omega, fun b j h1 h2 => F.2.2 b j (fun q => h1 (n_rTc_m.mpr q)) (fun q => h2 (by simp; exact q))⟩
theorem n_rF_gs {g gg : m_H} (G : n_gs g) (F : n_rF g gg) : n_gs gg := n_gs_kr G (n_rF_kr F) ⟨fun b hb => by have := n_rTc_m.mp hb; omega, by decide⟩
theorem n_rF_sOf {g gg : m_H} (F : n_rF g gg) {k : Int} (k0 : 0 ≤ k) (k1 : k < 8) (o d : Int) : n_sOf gg k o d = n_sOf g k o d := n_sOf_S (fun b j hb => F.2.2 b j (by omega) (by omega)) (F.2.2 127 14 (by omega) (by omega)) (F.2.2 127 27 (by omega) (by omega)) k0 k1 o d
/-- the row of an order, made by n_rop -/
theorem n_rop_F {g gg g' : m_H} {o n : Int} {f : Int → Int} (F : n_rF g gg) (o0 : 0 ≤ o) (o1 : o < 40) (A : n_rop gg g' o n f) : n_rF g g' := ⟨A.1, A.2.1.trans F.2.1, fun b j h1 h2 => (A.2.2.2.2 b j (by omega) (by omega) (by omega)).trans (F.2.2 b j h1 h2)⟩
theorem n_rip_F {g gg g' : m_H} {o n : Int} {f : Int → Int} (F : n_rF g gg) (o0 : 0 ≤ o) (o1 : o < 40) (A : n_rip gg g' o n f) : n_rF g g' := ⟨A.1, A.2.1.trans F.2.1, fun b j h1 h2 => (A.2.2.2 b j (by omega)).trans (F.2.2 b j h1 h2)⟩
theorem n_rop_R {g gg g' : m_H} {k d o n : Int} {f : Int → Int} (D : n_rR g gg k d o (o + 1)) (Y : n_rY g gg k d o 0) (o0 : 0 ≤ o) (o1 : o < 40) (v : m_g g (153 + k) o ≠ 12) (A : n_rop gg g' o n f) (en : n = n_L g k d o) (ef : ∀ j, 0 ≤ j → j < n → f j = n_S g k d o j) : n_rR g g' k d (o + 1) (o + 1) ∧ n_rY g g' k d (o + 1) 0 := by
  obtain ⟨a1, a2, a3, a4, a5⟩ := A
  refine ⟨⟨fun q q0 q1 qv => ?_, fun q q0 q1 => by rw [a5 279 q (by omega) (by omega) (by omega)]; exact D.2 q q0 q1⟩, ?_⟩
  · by_cases c : q = o
    · subst c
      exact ⟨by rw [a3, en], fun i i0 i1 => by rw [a4 i i0 (by omega), ef i i0 (by omega)]⟩
    · obtain ⟨d1, d2⟩ := D.1 q q0 (by omega) qv
      exact ⟨by rw [a5 278 q (by omega) (by omega) (by omega)]; exact d1, fun i i0 i1 => by rw [a5 (238 + q) i (by omega) (by omega) (by omega)]; exact d2 i i0 i1⟩
  · obtain ⟨y1, y2, y3, y4⟩ := Y
    have et : n_tm g k o = 0 := by unfold n_tm; rw [if_neg v]
    have eo : (o + 1).toNat = o.toNat + 1 := by omega
    have ec : ((o.toNat : Nat) : Int) = o := by omega
    refine ⟨?_, fun q i q0 i0 hq => ?_, fun t t0 t1 => ?_, ?_⟩
    · rw [a5 127 58 (by omega) (by omega) (by omega), y1, n_off_s o0, et, Int.add_zero, Int.add_zero]
    · have hq2 : q < o ∧ i < n_tm g k q := by
        rcases hq with ⟨h1, h2⟩ | ⟨h1, h2⟩
        · by_cases c : q = o
          · rw [c, et] at h2; omega
          · exact ⟨by omega, h2⟩
        · omega
      rw [a5 281 _ (by omega) (by omega) (by omega), a5 282 _ (by omega) (by omega) (by omega), a5 283 _ (by omega) (by omega) (by omega), a5 284 _ (by omega) (by omega) (by omega)]
      exact y2 q i q0 i0 (Or.inl hq2)
    · rw [a5 280 t (by omega) (by omega) (by omega), y3 t t0 t1, eo, n_sT_s, ec, et]
      show n_sT g k d o.toNat t + 0 = n_sT g k d o.toNat t + 0 + 0
      rw [Int.add_zero, Int.add_zero]
    · rw [a5 127 59 (by omega) (by omega) (by omega), y4, if_pos rfl, if_pos rfl, eo, n_eT_s, ec, if_neg v]
theorem n_rtake {g : m_H} {k o d : Int} (I : n_I g) (G : n_gs g) (k0 : 0 ≤ k) (k1 : k < 8) (o0 : 0 ≤ o) (o1 : o < 40) (b : n_ordB g k o) (v : m_g g (153 + k) o ≤ 1) (d1 : -2147483648 ≤ d) (d2 : d < 2147483648) : (n_sOf g k o d = -1 → t11_takes 127 k o d g = some (false, m_p g 279 o (n_sOf g k o d))) ∧ (n_sOf g k o d ≠ -1 → ∃ g', t11_takes 127 k o d g = some (true, g') ∧ n_rop (m_p g 279 o (n_sOf g k o d)) g' o (m_g g 131 (n_sOf g k o d)) (n_smp g (n_sOf g k o d))) := by
  have F := I.2
  have Bs := G.1.2.1
  have wo := m_w_of (x := o) (by omega) (by omega)
  have Bs2 := G.1.2.2.2.1
  have so := n_sOf_b (g := g) (k := k) (o := o) (d := d) G.1.1
  have J : n_I (m_p g 279 o (n_sOf g k o d)) := n_I_pa I (Or.inl (n_t279 F))
  have e1 : m_g (m_p g 279 o (n_sOf g k o d)) 279 o = n_sOf g k o d := n_gp_y ⟨rfl, rfl⟩
  have oth : ∀ b j, b ≠ 279 → m_g (m_p g 279 o (n_sOf g k o d)) b j = m_g g b j := fun b j hb => n_gp_n (fun z => hb z.1)
  have c52 := n_c52 F o0 o1
  rw [n_p127_52 F] at c52
  unfold t11_takes
  rw [if_pos (n_t127 F), n_ledR I G k0 k1 o0 o1 b v d1 d2, n_bs]
  dsimp only
  rw [n_p127_52 F, wo, if_pos c52, n_bs]
  generalize hs : n_sOf g k o d = s at *
  have wsv := m_w_of (x := s) (by omega) (by omega)
  generalize hg1 : m_p g 279 o s = g1 at *
  have F1 := J.2
  have c52' := n_c52 F1 o0 o1
  rw [n_p127_52 F1] at c52'
  rw [if_pos (n_t127 F1), n_p127_52 F1, if_pos c52', e1, wsv]
  constructor
  · intro c
    rw [if_pos c]
  · intro c
    have sc : 0 ≤ s ∧ s < m_g g 127 14 := by omega
    have q := G.2.1 s sc.1 sc.2
    unfold n_strB at q
    have l131 := n_l131 F1
    have c51 := n_c51 F1 o0 o1
    rw [n_p127_51 F1] at c51
    rw [if_neg c, n_p127_3 F1, if_pos ⟨n_t131 F1, sc.1, by omega⟩, n_p127_51 F1, if_pos c51, oth 131 s (by omega), n_bs]
    have J2 : n_I (m_p g1 278 o (m_g g 131 s)) := n_I_pa J (Or.inl (n_t278 F1))
    have oth2 : ∀ b j, b ≠ 278 → b ≠ 279 → m_g (m_p g1 278 o (m_g g 131 s)) b j = m_g g b j := fun b j h1 h2 => (n_gp_n (fun z => h1 z.1)).trans (oth b j h2)
    have x1 : m_g (m_p g1 278 o (m_g g 131 s)) 278 o = m_g g 131 s := n_gp_y ⟨rfl, rfl⟩
    have x2 : m_g (m_p g1 278 o (m_g g 131 s)) 279 o = s := (n_gp_n (by omega)).trans e1
    have x3 : ∀ b j, ¬ (b = 278 ∧ j = o) → m_g (m_p g1 278 o (m_g g 131 s)) b j = m_g g1 b j := fun b j h1 => n_gp_n h1
    have x4 : (m_p g1 278 o (m_g g 131 s)).2 = g1.2 := rfl
    generalize m_p g1 278 o (m_g g 131 s) = g2 at *
    have key := n_fill (fun i h => t11_takes_c45 127 o i h) (h := g2) (a := 238 + o) (lo := 0) (n := m_g g 131 s) (n_smp g s) (by omega) (fun i i1 i2 => by
      obtain ⟨Ji, e⟩ := n_rfl (g := g2) (o := o) (i := i) (f := n_smp g s) J2 o0 o1
      show t11_takes_c45 127 o i _ = t11_takes_c45 127 o (i + 1) _
      rw [t11_takes_c45]
      generalize n_fl g2 (238 + o) 0 i (n_smp g s) = gi at *
      have Fi := Ji.2
      have y1 : m_g gi 278 o = m_g g 131 s := (e 278 o (by omega)).trans x1
      have y2 : m_g gi 279 o = s := (e 279 o (by omega)).trans x2
      have y3 : m_g gi 130 s = m_g g 130 s := (e 130 s (by omega)).trans (oth2 130 s (by omega) (by omega))
      have y4 : ∀ j, m_g gi 128 j = m_g g 128 j := fun j => (e 128 j (by omega)).trans (oth2 128 j (by omega) (by omega))
      have ea := n_at2 (g := gi) (s := s) (j := i) Ji sc.1 (by omega) (by rw [y3]; omega) (by rw [y3]; omega)
      rw [y3, y4] at ea
      have cc := n_c52 Fi o0 o1
      rw [n_p127_52 Fi] at cc
      rw [if_pos (n_t127 Fi), wo, if_pos (n_c51 Fi o0 o1), n_p127_51 Fi, y1, m_w_of (x := i) (by omega) (by omega), m_w_of (x := m_g g 131 s) (by omega) (by omega), if_pos i2, if_pos (n_c50 Fi o0 o1), n_p127_52 Fi, if_pos cc, y2, ea, n_bs]
      dsimp only
      rw [n_a50 Fi o0 o1, if_pos (n_d50 Fi o0 o1 i1 (by omega)), n_bs]
      rfl)
    obtain ⟨Ji, e⟩ := n_rfl (g := g2) (o := o) (i := m_g g 131 s) (f := n_smp g s) J2 o0 o1
    refine ⟨_, key.trans ?_, Ji, x4, (e 278 o (by omega)).trans x1, fun j j0 j1 => by rw [n_g_fl, if_pos ⟨rfl, j0, j1⟩], fun b j h1 h2 h3 => (e b j h2).trans (x3 b j h3)⟩
    show t11_takes_c45 127 o (m_g g 131 s) _ = _
    rw [t11_takes_c45, if_pos (n_t127 Ji.2), wo, if_pos (n_c51 Ji.2 o0 o1), n_p127_51 Ji.2, (e 278 o (by omega)).trans x1, if_neg (by omega)]
