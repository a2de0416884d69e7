/-! CALLS: turns: the component gathers the steps -/
def n_wF (h x : m_H) : Prop := n_I x ∧ x.2 = h.2 ∧ ∀ b j, (b < 114 ∨ 118 < b) → m_g x b j = m_g h b j
def n_wG (h x : m_H) (k a : Int) (o : Nat) : Prop := n_wF h x ∧ (m_g x 114 4 = a ∧ m_g x 114 5 = n_cn h k o ∧ m_g x 114 6 = m_g h 127 23) ∧ (∀ q : Nat, q < o → m_g x 117 q = if n_isT h k q = true then (n_cn h k q : Int) else -1) ∧ ∀ i : Nat, i < n_cn h k o → m_g x 115 i = n_so h k o i ∧ m_g x 116 i = n_ndO h k (n_so h k o i)
theorem n_wF_C {h x : m_H} {k a : Int} (F : n_wF h x) (C : n_scc h h k a) : n_scc x h k a := n_scc_S C F.2.1 (fun b j hb => F.2.2 b j (by omega))
theorem n_isSrc2 {x g : m_H} {k a o : Int} (I : n_I x) (C : n_scc x g k a) (o0 : 0 ≤ o) (o1 : o < m_g g 151 k) : t6_isSource a o x = some (decide (m_g g (153 + k) o ≤ 1), x) := by
  have b := n_scc_b C o0 o1
  have b1 := b.1
  have b2 := b.2.1
  clear b
  unfold t6_isSource
  rw [if_pos (n_scc_t C), n_cell I C o0 o1 (by omega) (by omega), n_bs]
  dsimp only
  rw [Int.add_zero, (n_scc_o C o0 o1).1, m_w_of (x := m_g g (153 + k) o) (by omega) (by omega)]
  by_cases c : m_g g (153 + k) o = 0
  · rw [if_pos c, decide_eq_true (by omega)]
  · rw [if_neg c]
    by_cases d : m_g g (153 + k) o = 1
    · rw [if_pos d, decide_eq_true (by omega)]
    · rw [if_neg d, decide_eq_false (by omega)]
theorem n_stepBitC {h x : m_H} {k v : Int} {o : Nat} (I : n_I x) (o1 : (o : Int) ≤ 40) (e : ∀ q : Nat, q < o → m_g x 117 q = if n_isT h k q = true then (n_cn h k q : Int) else -1) (c9 : n_cn h k o ≤ 9) (hv : v = -1 ∨ (0 ≤ v ∧ v < o)) : t9_stepBit 114 v x = some (((n_bt h k v : Nat) : Int), x) := by
  have l := n_l117 I.2
  unfold t9_stepBit n_bt
  rw [if_pos (n_t114 I.2), n_p114_2 I.2]
  rcases hv with hv | ⟨v0, v1⟩
  · rw [hv, n_entry_n (n_t117 I.2) (by omega) (by omega) (by omega) (by omega) (by omega), n_bs]
    dsimp only
    rw [m_w_of (x := -1) (by omega) (by omega), if_pos rfl, if_neg (by omega)]
    rfl
  · rw [n_entry_y (n_t117 I.2) (by omega) v0 (by omega), n_bs]
    dsimp only
    have q := e v.toNat (by omega)
    rw [show ((v.toNat : Nat) : Int) = v by omega] at q
    rw [q]
    have m := n_cn_mono h k (show v.toNat ≤ o by omega)
    by_cases c : n_isT h k v = true
    · rw [if_pos c, m_w_of (x := (n_cn h k v.toNat : Int)) (by omega) (by omega), if_neg (by omega), if_pos ⟨v0, c⟩, n_shlN (by omega)]
    · rw [if_neg c, m_w_of (x := -1) (by omega) (by omega), if_pos rfl, if_neg (fun z => c z.2)]
      rfl
theorem n_bt_lt {h : m_H} {k : Int} {v : Int} {o : Nat} (hv : v = -1 ∨ (0 ≤ v ∧ v < o)) (c9 : n_cn h k o ≤ 9) : n_bt h k v < 512 := by
  unfold n_bt
  by_cases c : 0 ≤ v ∧ n_isT h k v = true
  · rw [if_pos c]
    have a := n_cn_mono h k (show v.toNat + 1 ≤ o by omega)
    have b := n_cn_s h k v.toNat
    rw [show ((v.toNat : Nat) : Int) = v by omega, if_pos c.2] at b
    exact Nat.lt_of_le_of_lt (Nat.pow_le_pow_right (by omega) (show n_cn h k v.toNat ≤ 8 by omega)) (by omega)
  · rw [if_neg c]
    omega
theorem n_gathC {h : m_H} {k a : Int} (C : n_scc h h k a) : ∀ (m : Nat) (o : Nat) (x : m_H), m_g h 151 k = o + m → n_cn h k o ≤ 9 → n_wG h x k a o → ∃ x', t9_gather_c7 114 o x = some (decide (1 ≤ n_cn h k (m_g h 151 k).toNat ∧ n_cn h k (m_g h 151 k).toNat ≤ 9), x') ∧ n_wF h x' ∧ (n_cn h k (m_g h 151 k).toNat ≤ 9 → n_wG h x' k a (m_g h 151 k).toNat) := by
  have C3 := C.2.2.1
  have a312 := C.1.1.2.1
  intro m
  induction m with
  | zero =>
    intro o x em c9 S
    have F := S.1
    have I := F.1
    have Cx := n_wF_C F C
    have eo : (m_g h 151 k).toNat = o := by omega
    rw [eo]
    refine ⟨x, ?_, F, fun _ => S⟩
    rw [t9_gather_c7, if_pos (n_t114 I.2), S.2.1.1, if_pos (n_scc_t Cx), Cx.1.2.1, if_neg (by rw [em]; simp), S.2.1.2.1, m_w_of (by omega) (by omega)]
    by_cases c : 0 < n_cn h k o
    · rw [if_pos (by omega), decide_eq_true (by omega)]
    · rw [if_neg (by omega), decide_eq_false (by omega)]
  | succ m ih =>
    intro o x em c9 S
    obtain ⟨F, ⟨s4, s5, s6⟩, s7, s8⟩ := S
    have F' := F
    obtain ⟨I, x2, e⟩ := F'
    have Cx := n_wF_C F C
    have b := n_scc_b C (o := o) (by omega) (by omega)
    have b1 := b.1
    have b2 := b.2.1
    have q1 := b.2.2.2.1
    have q2 := b.2.2.2.2.1
    have q3 := b.2.2.2.2.2.1
    clear b
    have l7 := n_l117 I.2
    have cs := n_cn_s h k o
    have J1 : n_I (m_p x 117 o (-1)) := n_I_pa I (Or.inl (n_t117 I.2))
    have r1 : ∀ b j, ¬ (b = 117 ∧ j = (o : Int)) → m_g (m_p x 117 o (-1)) b j = m_g x b j := fun b j hb => n_gp_n hb
    have r2 : m_g (m_p x 117 o (-1)) 117 o = -1 := n_gp_y ⟨rfl, rfl⟩
    have r3 : (m_p x 117 o (-1)).2 = x.2 := rfl
    rw [t9_gather_c7, if_pos (n_t114 I.2), s4, if_pos (n_scc_t Cx), Cx.1.2.1, m_w_of (x := (o : Int)) (by omega) (by omega), m_w_of (x := m_g h 151 k) (by omega) (by omega), if_pos (by omega), n_p114_2 I.2, n_setEntry_y (n_t117 I.2) (by omega) (by omega) (by omega), n_bs]
    dsimp only
    generalize m_p x 117 o (-1) = y at *
    have Fy : n_wF h y := ⟨J1, r3.trans x2, fun b j hb => (r1 b j (by omega)).trans (e b j hb)⟩
    have Cy := n_wF_C Fy C
    have y4 : m_g y 114 4 = a := (r1 114 4 (by omega)).trans s4
    have y5 : m_g y 114 5 = n_cn h k o := (r1 114 5 (by omega)).trans s5
    have t6 := n_scc_t Cy
    have y7 : ∀ q : Nat, q < o → m_g y 117 q = if n_isT h k q = true then (n_cn h k q : Int) else -1 := fun q hq => (r1 117 q (by omega)).trans (s7 q hq)
    have y8 : ∀ i : Nat, i < n_cn h k o → m_g y 115 i = n_so h k o i ∧ m_g y 116 i = n_ndO h k (n_so h k o i) := fun i hi => by rw [r1 115 i (by omega), r1 116 i (by omega)]; exact s8 i hi
    have stay : n_isT h k o = false → n_wG h y k a (o + 1) := fun hT => by
      rw [hT] at cs
      rw [if_neg (by decide), Nat.add_zero] at cs
      refine ⟨Fy, ⟨y4, by rw [cs]; exact y5, (r1 114 6 (by omega)).trans s6⟩, fun q hq => ?_, fun i hi => ?_⟩
      · by_cases c : q = o
        · rw [c, r2, hT, if_neg (by decide)]
        · exact y7 q (by omega)
      · rw [n_so_s, hT, if_neg (fun z => by cases z.1)]
        exact y8 i (by omega)
    rw [if_pos (n_t114 J1.2), y4, if_pos t6, n_isSrc2 J1 Cy (by omega) (by omega), n_bs]
    dsimp only
    by_cases c1 : m_g h (153 + k) o ≤ 1
    · have hT : n_isT h k o = false := by unfold n_isT; rw [decide_eq_false (by omega)]
      rw [hT, if_neg (by decide)] at cs
      rw [decide_eq_true c1, if_pos rfl]
      exact ih (o + 1) y (by omega) (by omega) (stay hT)
    · rw [decide_eq_false c1, if_neg (by decide), if_pos (n_t114 J1.2), y4, if_pos t6, n_isPutC J1 Cy (by omega) (by omega), n_bs]
      dsimp only
      by_cases c2 : m_g h (153 + k) o = 12
      · have hT : n_isT h k o = false := by unfold n_isT; rw [decide_eq_false (by omega)]
        rw [hT, if_neg (by decide)] at cs
        rw [decide_eq_true c2, if_pos rfl]
        exact ih (o + 1) y (by omega) (by omega) (stay hT)
      · have hT : n_isT h k o = true := by unfold n_isT; rw [decide_eq_true (by omega)]
        rw [hT, if_pos rfl] at cs
        rw [decide_eq_false c2, if_neg (by decide), if_pos (n_t114 J1.2), y5, m_w_of (x := (n_cn h k o : Int)) (by omega) (by omega)]
        by_cases c3 : n_cn h k o = 9
        · have mm := n_cn_mono h k (show o + 1 ≤ (m_g h 151 k).toNat by omega)
          rw [if_neg (by omega), decide_eq_false (by omega)]
          exact ⟨y, rfl, Fy, fun z => by omega⟩
        · have d1 := q1 (by omega)
          have d2 : m_g h (173 + k) o = -1 ∨ (0 ≤ m_g h (173 + k) o ∧ m_g h (173 + k) o < o) := by
            by_cases z : m_g h (153 + k) o = 5
            · have := q3 z
              exact Or.inr ⟨this.1, this.2.1⟩
            · exact Or.inl (q2 z)
          have d1' : m_g h (163 + k) o = -1 ∨ (0 ≤ m_g h (163 + k) o ∧ m_g h (163 + k) o < o) := Or.inr ⟨d1.1, d1.2.1⟩
          have J1' : n_I (m_p y 117 o (n_cn h k o)) := n_I_pa J1 (Or.inl (n_t117 J1.2))
          have J2 : n_I (m_p (m_p y 117 o (n_cn h k o)) 115 (n_cn h k o) o) := n_I_pa J1' (Or.inl (n_t115 J1'.2))
          have u1 : ∀ b j, ¬ (b = 117 ∧ j = (o : Int)) → ¬ (b = 115 ∧ j = (n_cn h k o : Int)) → m_g (m_p (m_p y 117 o (n_cn h k o)) 115 (n_cn h k o) o) b j = m_g y b j := fun b j h1 h2 => by rw [n_gp_n h2, n_gp_n h1]
          have u2 : m_g (m_p (m_p y 117 o (n_cn h k o)) 115 (n_cn h k o) o) 117 o = n_cn h k o := by rw [n_gp_n (by omega), n_gp_y ⟨rfl, rfl⟩]
          have u3 : m_g (m_p (m_p y 117 o (n_cn h k o)) 115 (n_cn h k o) o) 115 (n_cn h k o) = o := n_gp_y ⟨rfl, rfl⟩
          have u4 : (m_p (m_p y 117 o (n_cn h k o)) 115 (n_cn h k o) o).2 = y.2 := rfl
          have l5 := n_l115 J1'.2
          have g5 : m_g (m_p y 117 o (n_cn h k o)) 114 5 = n_cn h k o := by rw [n_gp_n (by omega)]; exact y5
          rw [if_pos (by omega), n_p114_2 J1.2, n_setEntry_y (n_t117 J1.2) (by rw [n_l117 J1.2]; omega) (by omega) (by rw [n_l117 J1.2]; omega), n_bs]
          dsimp only
          rw [if_pos (n_t114 J1'.2), n_p114_0 J1'.2, g5, n_setEntry_y (n_t115 J1'.2) (by omega) (by omega) (by omega), n_bs]
          dsimp only
          generalize m_p (m_p y 117 o (n_cn h k o)) 115 (n_cn h k o) o = w at *
          have Fw : n_wF h w := ⟨J2, u4.trans Fy.2.1, fun b j hb => (u1 b j (by omega) (by omega)).trans (Fy.2.2 b j hb)⟩
          have Cw := n_wF_C Fw C
          have w4 : m_g w 114 4 = a := (u1 114 4 (by omega) (by omega)).trans y4
          have w5 : m_g w 114 5 = n_cn h k o := (u1 114 5 (by omega) (by omega)).trans y5
          have w7 : ∀ q : Nat, q < o → m_g w 117 q = if n_isT h k q = true then (n_cn h k q : Int) else -1 := fun q hq => (u1 117 q (by omega) (by omega)).trans (y7 q hq)
          have t6w := n_scc_t Cw
          have lt1 := n_bt_lt (h := h) (k := k) d1' (by omega)
          have lt2 := n_bt_lt (h := h) (k := k) d2 (by omega)
          have l6 := n_l116 J2.2
          rw [if_pos (n_t114 J2.2), w4, if_pos t6w, n_oneC J2 Cw (by omega) (by omega), n_bs]
          dsimp only
          rw [if_pos (n_t114 J2.2), n_stepBitC J2 (by omega) w7 (by omega) d1', n_bs]
          dsimp only
          rw [if_pos (n_t114 J2.2), w4, if_pos t6w, n_otherC J2 Cw (by omega) (by omega), n_bs]
          dsimp only
          rw [if_pos (n_t114 J2.2), n_stepBitC J2 (by omega) w7 (by omega) d2, n_bs]
          dsimp only
          rw [n_p114_1 J2.2, w5, n_orN lt1 lt2, n_setEntry_y (n_t116 J2.2) (by omega) (by omega) (by omega), n_bs]
          dsimp only
          have J3 : n_I (m_p w 116 (n_cn h k o) ((n_bt h k (m_g h (163 + k) o) ||| n_bt h k (m_g h (173 + k) o) : Nat) : Int)) := n_I_pa J2 (Or.inl (n_t116 J2.2))
          have v5 : m_g (m_p w 116 (n_cn h k o) ((n_bt h k (m_g h (163 + k) o) ||| n_bt h k (m_g h (173 + k) o) : Nat) : Int)) 114 5 = n_cn h k o := by rw [n_gp_n (by omega)]; exact w5
          rw [if_pos (n_t114 J3.2), n_bs, v5]
          refine ih (o + 1) _ (by omega) (by omega) ⟨⟨n_I_p J3 (by rw [n_t114 J3.2]; omega) (by rw [n_t114 J3.2]; omega) rfl, Fw.2.1, fun b j hb => by rw [n_gp_n (by omega), n_gp_n (by omega)]; exact Fw.2.2 b j hb⟩, ⟨by rw [n_gp_n (by omega), n_gp_n (by omega)]; exact w4, by rw [n_gp_y ⟨rfl, rfl⟩, cs]; omega, by rw [n_gp_n (by omega), n_gp_n (by omega), u1 114 6 (by omega) (by omega), r1 114 6 (by omega)]; exact s6⟩, fun q hq => ?_, fun i hi => ?_⟩
          · rw [n_gp_n (by omega), n_gp_n (by omega)]
            by_cases z : q = o
            · rw [z, u2, hT, if_pos rfl]
            · exact w7 q (by omega)
          · rw [n_so_s, hT]
            by_cases z : i = n_cn h k o
            · rw [if_pos ⟨rfl, z⟩, z, n_gp_n (by omega), n_gp_n (by omega), n_gp_n (by omega), n_gp_y ⟨rfl, rfl⟩]
              exact ⟨u3, rfl⟩
            · rw [if_neg (fun t => z t.2), n_gp_n (by omega), n_gp_n (by omega), n_gp_n (by omega), n_gp_n (by omega), u1 115 i (by omega) (by omega), u1 116 i (by omega) (by omega)]
              exact y8 i (by omega)
