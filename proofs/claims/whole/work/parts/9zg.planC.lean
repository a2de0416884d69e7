/-! CALLS: turns, turnOf: the component's answer -/
/-- the component's table -/
def n_tV (x : m_H) (i : Nat) : Int := m_g x 118 (i : Int)
theorem n_planW {h x : m_H} {k a : Int} (C : n_scc h h k a) (M : 0 ≤ m_g h 127 23 ∧ m_g h 127 23 ≤ 4) (G : n_wG h x k a (m_g h 151 k).toNat) (c9 : n_cn h k (m_g h 151 k).toNat ≤ 9) (X : n_Vs 1000000 (n_vP h k (m_g h 151 k).toNat) (2 ^ n_cn h k (m_g h 151 k).toNat - 1) (n_tV x)) {f : Nat → Nat} (T : n_tr (n_vP h k (m_g h 151 k).toNat) (n_cn h k (m_g h 151 k).toNat) (n_tV x) f) (L1 : n_tV x 0 ≤ 512) {j u : Nat} (j9 : j < 9) (u1 : (u : Int) < n_tV x 0) (bu : (f (n_dsq f u)).testBit j = true) : ∀ (m t : Nat), u = t + m → t9_plannedTurn_c55 114 (n_tV x 0) j (n_dsq f t) (t + 1) x = some ((u : Int) + 1, x) := by
  have I := G.1.1
  have p9 := n_pow9 c9
  intro m
  induction m with
  | zero =>
    intro t em
    have et : t = u := by omega
    subst et
    obtain ⟨t1, t2, t3⟩ := T t (by omega)
    have fs := t3 u1
    have v := n_val_lt fs.1.1
    rw [t9_plannedTurn_c55, m_w_of (x := n_tV x 0) (by omega) (by omega), m_w_of (x := (t : Int) + 1) (by omega) (by omega), if_neg (by omega), if_pos (n_t114 I.2), n_firstW C M G c9 X t1 fs, n_bs]
    dsimp only
    rw [n_shrN (by omega) j9, bu]
    rw [if_pos rfl, m_w_of (x := 1) (by omega) (by omega), if_neg (by omega)]
  | succ m ih =>
    intro t em
    obtain ⟨t1, t2, t3⟩ := T t (by omega)
    have fs := t3 (by omega)
    have v := n_val_lt fs.1.1
    have nb : (f (n_dsq f t)).testBit j ≠ true := fun z => by
      have := n_tr_one T (by omega) u1 z bu
      omega
    have q := ih (t + 1) (by omega)
    rw [show ((t + 1 : Nat) : Int) = (t : Int) + 1 by omega] at q
    rw [t9_plannedTurn_c55, m_w_of (x := n_tV x 0) (by omega) (by omega), m_w_of (x := (t : Int) + 1) (by omega) (by omega), if_neg (by omega), if_pos (n_t114 I.2), n_firstW C M G c9 X t1 fs, n_bs]
    dsimp only
    rw [n_shrN (by omega) j9, if_neg nb, m_w_of (x := 0) (by omega) (by omega), if_pos rfl, n_orN (by omega) (by omega), n_bs]
    exact q
/-- the answer of turns and turnOf, apart from how they are found -/
def n_plan (h : m_H) (k : Int) (V : Nat → Int) (f : Nat → Nat) : Prop := n_Vs 1000000 (n_vP h k (m_g h 151 k).toNat) (2 ^ n_cn h k (m_g h 151 k).toNat - 1) V ∧ (V 0 < 1000000 → n_tr (n_vP h k (m_g h 151 k).toNat) (n_cn h k (m_g h 151 k).toNat) V f) ∧ 0 ≤ V 0 ∧ (V 0 < 1000000 → V 0 ≤ 512)
theorem n_planEx {h x : m_H} {k : Int} (c9 : n_cn h k (m_g h 151 k).toNat ≤ 9) (X : n_Vs 1000000 (n_vP h k (m_g h 151 k).toNat) (2 ^ n_cn h k (m_g h 151 k).toNat - 1) (n_tV x)) : ∃ f, n_plan h k (n_tV x) f := by
  have p9 := n_pow9 c9
  have f0 := n_Vs_fin X p9.2 (2 ^ n_cn h k (m_g h 151 k).toNat) 0 (by omega) (by omega)
  by_cases c : n_tV x 0 = 1000000
  · exact ⟨fun _ => 0, X, fun z => by omega, by omega, fun z => by omega⟩
  · obtain ⟨f, hf⟩ := n_trace X c9 c
    exact ⟨f, X, fun _ => hf, by omega, fun z => by omega⟩
/-- the last heap holds all steps -/
theorem n_plan_all {h : m_H} {k : Int} {V : Nat → Int} {f : Nat → Nat} (P : n_plan h k V f) (c9 : n_cn h k (m_g h 151 k).toNat ≤ 9) (fin : V 0 < 1000000) {j : Nat} (hj : j < n_cn h k (m_g h 151 k).toNat) : ∃ u : Nat, (u : Int) < V 0 ∧ (f (n_dsq f u)).testBit j = true := by
  obtain ⟨X, T, v0, v1⟩ := P
  have T := T fin
  have p9 := n_pow9 c9
  obtain ⟨t1, t2, -⟩ := T (V 0).toNat (by omega)
  have fn := n_Vs_fin X p9.2 (2 ^ n_cn h k (m_g h 151 k).toNat) (n_dsq f (V 0).toNat) (by omega) t1
  have e : n_dsq f (V 0).toNat = 2 ^ n_cn h k (m_g h 151 k).toNat - 1 := by
    by_cases c : n_dsq f (V 0).toNat < 2 ^ n_cn h k (m_g h 151 k).toNat - 1
    · omega
    · omega
  have b : (n_dsq f (V 0).toNat).testBit j = true := by
    rw [e, Nat.testBit_two_pow_sub_one, decide_eq_true hj]
  obtain ⟨u, u1, u2⟩ := n_dsq_in f _ b
  exact ⟨u, by omega, u2⟩
def n_isTN (h : m_H) (k o : Int) : Prop := 0 ≤ o ∧ o < m_g h 151 k ∧ n_isT h k o = true
theorem n_turnsC {h : m_H} {k a : Int} (I : n_I h) (C : n_scc h h k a) (M : 0 ≤ m_g h 127 23 ∧ m_g h 127 23 ≤ 4) : ∃ x r, t9_leastTurns 114 a (m_g h 127 23) h = some (r, x) ∧ n_wF h x ∧ (¬ (1 ≤ n_cn h k (m_g h 151 k).toNat ∧ n_cn h k (m_g h 151 k).toNat ≤ 9) → r = -1 ∧ ∀ o, -2147483648 ≤ o → o < 2147483648 → t9_plannedTurn 114 a (m_g h 127 23) o h = some (-1, x)) ∧ (1 ≤ n_cn h k (m_g h 151 k).toNat ∧ n_cn h k (m_g h 151 k).toNat ≤ 9 → ∃ V f, n_plan h k V f ∧ (r = if V 0 < 1000000 then V 0 else -1) ∧ ∀ o, -2147483648 ≤ o → o < 2147483648 → ((¬ V 0 < 1000000 ∨ ¬ n_isTN h k o) → t9_plannedTurn 114 a (m_g h 127 23) o h = some (-1, x)) ∧ (V 0 < 1000000 → n_isTN h k o → ∀ u : Nat, (u : Int) < V 0 → (f (n_dsq f u)).testBit (n_cn h k o.toNat) = true → t9_plannedTurn 114 a (m_g h 127 23) o h = some ((u : Int) + 1, x))) := by
  have C3 := C.2.2.1
  obtain ⟨x, r, e1, F, n1, n2⟩ := n_leastW I C M
  have Cx := n_wF_C F C
  have t6 := n_scc_t Cx
  have Ix := F.1
  have l7 := n_l117 Ix.2
  have eN := Cx.1.2.1
  have none' : r = -1 → ∀ o, -2147483648 ≤ o → o < 2147483648 → t9_plannedTurn 114 a (m_g h 127 23) o h = some (-1, x) := fun hr o o1 o2 => by
    unfold t9_plannedTurn
    rw [if_pos (n_t114 I.2), e1, n_bs, hr]
    dsimp only
    have c33 : ∀ s, t9_plannedTurn_c33 114 (-1) s x = some (-1, x) := fun s => by
      unfold t9_plannedTurn_c33
      rw [m_w_of (x := -1) (by omega) (by omega), if_pos rfl]
    unfold t9_plannedTurn_c32
    rw [m_w_of o1 o2]
    by_cases c : o < 0
    · rw [if_pos c, c33]
    · rw [if_neg c, if_pos t6, eN, m_w_of (x := m_g h 151 k) (by omega) (by omega)]
      by_cases d : o < m_g h 151 k
      · rw [if_pos d, if_pos (n_t114 Ix.2), n_p114_2 Ix.2, n_entry_y (n_t117 Ix.2) (by omega) (by omega) (by omega), n_bs]
        dsimp only
        rw [c33]
      · rw [if_neg d, c33]
  refine ⟨x, r, e1, F, fun c => ⟨n1 c, none' (n1 c)⟩, fun c => ?_⟩
  obtain ⟨G, X, rg, er⟩ := n2 c
  have er : r = if n_tV x 0 < 1000000 then n_tV x 0 else -1 := er
  obtain ⟨f, P⟩ := n_planEx c.2 X
  have v0 := P.2.2.1
  refine ⟨_, f, P, er, fun o o1 o2 => ⟨fun hc => ?_, fun fin st u u1 bu => ?_⟩⟩
  · by_cases fin : n_tV x 0 < 1000000
    · have ns : ¬ n_isTN h k o := by
        rcases hc with q | q
        · exact absurd fin q
        · exact q
      have v1 := P.2.2.2 fin
      rw [if_pos fin] at er
      unfold t9_plannedTurn
      rw [if_pos (n_t114 I.2), e1, n_bs]
      dsimp only
      have c33 : t9_plannedTurn_c33 114 r (-1) x = some (-1, x) := by
        unfold t9_plannedTurn_c33
        rw [m_w_of (x := r) (by omega) (by omega), if_neg (by omega), m_w_of (x := -1) (by omega) (by omega), if_pos rfl]
      unfold t9_plannedTurn_c32
      rw [m_w_of o1 o2]
      by_cases c' : o < 0
      · rw [if_pos c', c33]
      · rw [if_neg c', if_pos t6, eN, m_w_of (x := m_g h 151 k) (by omega) (by omega)]
        by_cases d : o < m_g h 151 k
        · have nT : ¬ n_isT h k o = true := fun z => ns ⟨by omega, d, z⟩
          have q := G.2.2.1 o.toNat (by omega)
          rw [show ((o.toNat : Nat) : Int) = o by omega, if_neg nT] at q
          rw [if_pos d, if_pos (n_t114 Ix.2), n_p114_2 Ix.2, n_entry_y (n_t117 Ix.2) (by omega) (by omega) (by omega), n_bs, q]
          dsimp only
          rw [c33]
        · rw [if_neg d, c33]
    · rw [if_neg fin] at er
      exact none' er o o1 o2
  · have v1 := P.2.2.2 fin
    have er' := er
    rw [if_pos fin] at er'
    obtain ⟨s0, s1, s2⟩ := st
    have q := G.2.2.1 o.toNat (by omega)
    rw [show ((o.toNat : Nat) : Int) = o by omega, if_pos s2] at q
    have m1 := n_cn_mono h k (show o.toNat + 1 ≤ (m_g h 151 k).toNat by omega)
    have m2 := n_cn_s h k o.toNat
    rw [show ((o.toNat : Nat) : Int) = o by omega, if_pos s2] at m2
    unfold t9_plannedTurn
    rw [if_pos (n_t114 I.2), e1, n_bs]
    dsimp only
    rw [m_w_of o1 o2, if_neg (by omega), if_pos t6, eN, m_w_of (x := m_g h 151 k) (by omega) (by omega), if_pos s1, if_pos (n_t114 Ix.2), n_p114_2 Ix.2, n_entry_y (n_t117 Ix.2) (by omega) (by omega) (by omega), n_bs, q]
    dsimp only
    unfold t9_plannedTurn_c33
    rw [er', m_w_of (x := n_tV x 0) (by omega) (by omega), if_neg (by omega), m_w_of (x := (n_cn h k o.toNat : Int)) (by omega) (by omega), if_neg (by omega)]
    have := n_planW C M G c.2 X (P.2.1 fin) v1 (by omega) u1 bu u 0 (by omega)
    exact this
