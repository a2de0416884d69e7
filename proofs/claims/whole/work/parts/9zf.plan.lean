/-! CALLS: turns, turnOf: the plan, and the component's way to it -/
def n_fst (P : Nat → Nat → Prop) (V : Nat → Int) (D v : Nat) : Prop := (P D v ∧ V (D ||| v) + 1 = V D) ∧ ∀ T, T < v → ¬ (P D T ∧ V (D ||| T) + 1 = V D)
theorem n_fst_u {P : Nat → Nat → Prop} {V : Nat → Int} {D v w : Nat} (A : n_fst P V D v) (B : n_fst P V D w) : v = w := by
  rcases Nat.lt_trichotomy v w with c | c | c
  · exact absurd A.1 (B.2 v c)
  · exact c
  · exact absurd B.1 (A.2 w c)
theorem n_leastN {Q : Nat → Prop} : ∀ m : Nat, Q m → ∃ v, v ≤ m ∧ Q v ∧ ∀ T, T < v → ¬ Q T := by
  intro m
  induction m using Nat.strongRecOn with
  | _ m ih =>
    intro h
    by_cases c : ∃ T, T < m ∧ Q T
    · obtain ⟨T, t1, t2⟩ := c
      obtain ⟨v, v1, v2⟩ := ih T t1 t2
      exact ⟨v, by omega, v2⟩
    · exact ⟨m, Nat.le_refl _, h, fun T hT q => c ⟨T, hT, q⟩⟩
theorem n_fst_ex {c : Int} {P : Nat → Nat → Prop} {F : Nat} {V : Nat → Int} (X : n_Vs c P F V) {D : Nat} (hD : D < F) (fin : V D ≠ c) : ∃ v, n_fst P V D v := by
  obtain ⟨a1, a2, a3⟩ := X.2 D hD
  rcases a3 with a3 | ⟨S, s1, s2⟩
  · exact absurd a3 fin
  · obtain ⟨v, -, v1, v2⟩ := n_leastN (Q := fun T => P D T ∧ V (D ||| T) + 1 = V D) S ⟨s1, s2.symm⟩
    exact ⟨v, v1, v2⟩
def n_dsq (f : Nat → Nat) : Nat → Nat
  | 0 => 0
  | t + 1 => n_dsq f t ||| f (n_dsq f t)
/-- the plan: the heap of each turn -/
def n_tr (P : Nat → Nat → Prop) (n : Nat) (V : Nat → Int) (f : Nat → Nat) : Prop := ∀ t : Nat, (t : Int) ≤ V 0 → n_dsq f t < 2 ^ n ∧ V (n_dsq f t) = V 0 - t ∧ ((t : Int) < V 0 → n_fst P V (n_dsq f t) (f (n_dsq f t)))
theorem n_trace {n : Nat} {nd : Nat → Nat} {fit : Nat → Bool} {V : Nat → Int} (X : n_Vs 1000000 (n_val n nd fit) (2 ^ n - 1) V) (hn : n ≤ 9) (fin : V 0 ≠ 1000000) : ∃ f, n_tr (n_val n nd fit) n V f := by
  have p9 := n_pow9 hn
  obtain ⟨f, hf⟩ := Classical.axiomOfChoice (r := fun (D v : Nat) => D < 2 ^ n - 1 → V D ≠ 1000000 → n_fst (n_val n nd fit) V D v) (fun D => by
    by_cases c : D < 2 ^ n - 1 ∧ V D ≠ 1000000
    · obtain ⟨v, hv⟩ := n_fst_ex X c.1 c.2
      exact ⟨v, fun _ _ => hv⟩
    · exact ⟨0, fun a b => absurd ⟨a, b⟩ c⟩)
  have f0 := n_Vs_fin X p9.2 (2 ^ n) 0 (by omega) (by omega)
  refine ⟨f, fun t => ?_⟩
  induction t with
  | zero =>
    intro _
    refine ⟨by show 0 < 2 ^ n; omega, by show V 0 = _; omega, fun lt => hf 0 ?_ fin⟩
    by_cases c : (0 : Nat) < 2 ^ n - 1
    · exact c
    · have : 2 ^ n - 1 = 0 := by omega
      have := X.1
      rw [‹2 ^ n - 1 = 0›] at this
      omega
  | succ t ih =>
    intro ht
    obtain ⟨i1, i2, i3⟩ := ih (by omega)
    have j := i3 (by omega)
    have u := n_val_up j.1.1 i1
    have e : V (n_dsq f (t + 1)) = V 0 - ((t + 1 : Nat) : Int) := by
      show V (n_dsq f t ||| f (n_dsq f t)) = _
      have := j.1.2
      omega
    refine ⟨u.2, e, fun lt => hf _ ?_ (by omega)⟩
    by_cases c : n_dsq f (t + 1) < 2 ^ n - 1
    · exact c
    · have l2 : n_dsq f (t + 1) < 2 ^ n := u.2
      have : n_dsq f (t + 1) = 2 ^ n - 1 := by omega
      rw [this, X.1] at e
      omega
theorem n_dsq_keep (f : Nat → Nat) {j : Nat} : ∀ (q t : Nat), (n_dsq f t).testBit j = true → (n_dsq f (t + q)).testBit j = true
  | 0, t, h => h
  | q + 1, t, h => by
    show (n_dsq f (t + q) ||| f (n_dsq f (t + q))).testBit j = true
    rw [Nat.testBit_or, n_dsq_keep f q t h, Bool.true_or]
/-- each step is done in one turn only -/
theorem n_tr_one {n : Nat} {nd : Nat → Nat} {fit : Nat → Bool} {V : Nat → Int} {f : Nat → Nat} (X : n_tr (n_val n nd fit) n V f) {j t u : Nat} (t1 : (t : Int) < V 0) (u1 : (u : Int) < V 0) (bt : (f (n_dsq f t)).testBit j = true) (bu : (f (n_dsq f u)).testBit j = true) : t = u := by
  have key : ∀ t u : Nat, t < u → (u : Int) < V 0 → (f (n_dsq f t)).testBit j = true → (f (n_dsq f u)).testBit j = true → False := fun t u lt u1 bt bu => by
    have a := (X u (by omega)).2.2 u1
    have b := (a.1.1.2.1 j bu).2.1
    have c : (n_dsq f (t + 1)).testBit j = true := by
      show (n_dsq f t ||| f (n_dsq f t)).testBit j = true
      rw [Nat.testBit_or, bt, Bool.or_true]
    have d := n_dsq_keep f (u - (t + 1)) (t + 1) c
    rw [show t + 1 + (u - (t + 1)) = u by omega, b] at d
    cases d
  rcases Nat.lt_trichotomy t u with c | c | c
  · exact absurd (key t u c u1 bt bu) id
  · exact c
  · exact absurd (key u t c t1 bu bt) id
/-- a bit of the plan's last heap comes in some turn -/
theorem n_dsq_in (f : Nat → Nat) {j : Nat} : ∀ t : Nat, (n_dsq f t).testBit j = true → ∃ u, u < t ∧ (f (n_dsq f u)).testBit j = true
  | 0, h => by rw [show n_dsq f 0 = 0 from rfl, Nat.zero_testBit] at h; cases h
  | t + 1, h => by
    rw [show n_dsq f (t + 1) = n_dsq f t ||| f (n_dsq f t) from rfl, Nat.testBit_or, Bool.or_eq_true] at h
    rcases h with h | h
    · obtain ⟨u, u1, u2⟩ := n_dsq_in f t h
      exact ⟨u, by omega, u2⟩
    · exact ⟨t, by omega, h⟩
/-- the component's least turns -/
theorem n_leastW {h : m_H} {k a : Int} (I : n_I h) (C : n_scc h h k a) (M : 0 ≤ m_g h 127 23 ∧ m_g h 127 23 ≤ 4) : ∃ x r, t9_leastTurns 114 a (m_g h 127 23) h = some (r, x) ∧ n_wF h x ∧ (¬ (1 ≤ n_cn h k (m_g h 151 k).toNat ∧ n_cn h k (m_g h 151 k).toNat ≤ 9) → r = -1) ∧ (1 ≤ n_cn h k (m_g h 151 k).toNat ∧ n_cn h k (m_g h 151 k).toNat ≤ 9 → n_wG h x k a (m_g h 151 k).toNat ∧ n_Vs 1000000 (n_vP h k (m_g h 151 k).toNat) (2 ^ n_cn h k (m_g h 151 k).toNat - 1) (fun i => m_g x 118 i) ∧ (0 ≤ m_g x 118 ((0 : Nat) : Int) ∧ m_g x 118 ((0 : Nat) : Int) ≤ 1000000) ∧ r = if m_g x 118 ((0 : Nat) : Int) < 1000000 then m_g x 118 ((0 : Nat) : Int) else -1) := by
  have C3 := C.2.2.1
  have J1 : n_I (m_p h 114 4 a) := n_I_p I (by rw [n_t114 I.2]; omega) (by rw [n_t114 I.2]; omega) rfl
  have J2 : n_I (m_p (m_p h 114 4 a) 114 6 (m_g h 127 23)) := n_I_p J1 (by rw [n_t114 J1.2]; omega) (by rw [n_t114 J1.2]; omega) rfl
  have J3 : n_I (m_p (m_p (m_p h 114 4 a) 114 6 (m_g h 127 23)) 114 5 0) := n_I_p J2 (by rw [n_t114 J2.2]; omega) (by rw [n_t114 J2.2]; omega) rfl
  have G0 : n_wG h (m_p (m_p (m_p h 114 4 a) 114 6 (m_g h 127 23)) 114 5 0) k a 0 := ⟨⟨J3, rfl, fun b j hb => by rw [n_gp_n (by omega), n_gp_n (by omega), n_gp_n (by omega)]⟩, ⟨by rw [n_gp_n (by omega), n_gp_n (by omega), n_gp_y ⟨rfl, rfl⟩], by rw [n_gp_y ⟨rfl, rfl⟩]; rfl, by rw [n_gp_n (by omega), n_gp_y ⟨rfl, rfl⟩]⟩, fun q hq => by omega, fun i hi => by unfold n_cn at hi; omega⟩
  obtain ⟨x, e1, Fx, Gx⟩ := n_gathC C (m_g h 151 k).toNat 0 _ (by omega) (by unfold n_cn; omega) G0
  have pre : t9_leastTurns 114 a (m_g h 127 23) h = (if decide (1 ≤ n_cn h k (m_g h 151 k).toNat ∧ n_cn h k (m_g h 151 k).toNat ≤ 9) = true then (if m_t x 114 = 9 then t9_weigh 114 x >>= fun ⟨_, h10⟩ => if m_t h10 114 = 9 then t9_leftFrom 114 0 h10 >>= fun ⟨r14, h13⟩ => (if (m_w r14) < 1000000 then
    (if m_t h13 114 = 9 then t9_leftFrom 114 0 h13 >>= fun ⟨r18, h17⟩ => some (r18, h17) else none)
  else
    some ((-1), h13)) else none else none) else some (-1, x)) := by
    unfold t9_leastTurns t9_gather
    rw [if_pos (n_t114 I.2), n_bs, if_pos (n_t114 J1.2), n_bs, if_pos (n_t114 J2.2), if_pos (n_t114 J2.2), n_bs, show t9_gather_c7 114 0 (m_p (m_p (m_p h 114 4 a) 114 6 (m_g h 127 23)) 114 5 0) = _ from e1, n_bs]
  by_cases c : 1 ≤ n_cn h k (m_g h 151 k).toNat ∧ n_cn h k (m_g h 151 k).toNat ≤ 9
  · have G := Gx c.2
    have p9 := n_pow9 c.2
    obtain ⟨x', e2, G2, V2⟩ := n_weighC C M c.2 c.1 G
    have I2 := G2.1.1
    have f0 := n_Vs_fin V2 p9.2 (2 ^ n_cn h k (m_g h 151 k).toNat) 0 (by omega) (by omega)
    have rg : 0 ≤ m_g x' 118 ((0 : Nat) : Int) ∧ m_g x' 118 ((0 : Nat) : Int) ≤ 1000000 := by omega
    refine ⟨x', if m_g x' 118 ((0 : Nat) : Int) < 1000000 then m_g x' 118 ((0 : Nat) : Int) else -1, ?_, G2.1, fun w => absurd c w, fun _ => ⟨G2, V2, rg, rfl⟩⟩
    rw [pre, decide_eq_true c, if_pos rfl, if_pos (n_t114 Fx.1.2), e2, n_bs]
    dsimp only
    have l0 : t9_leftFrom 114 0 x' = some (m_g x' 118 ((0 : Nat) : Int), x') := n_leftC I2 (D := 0) (by omega)
    rw [if_pos (n_t114 I2.2), l0, n_bs]
    dsimp only
    rw [m_w_of (x := m_g x' 118 ((0 : Nat) : Int)) (by omega) (by omega)]
    by_cases d : m_g x' 118 ((0 : Nat) : Int) < 1000000
    · rw [if_pos d, if_pos d, if_pos (n_t114 I2.2), l0, n_bs]
    · rw [if_neg d, if_neg d]
  · refine ⟨x, -1, ?_, Fx, fun _ => rfl, fun w => absurd w c⟩
    rw [pre, decide_eq_false c]
    rfl
theorem n_firstW {h x : m_H} {k a : Int} (C : n_scc h h k a) (M : 0 ≤ m_g h 127 23 ∧ m_g h 127 23 ≤ 4) (G : n_wG h x k a (m_g h 151 k).toNat) (c9 : n_cn h k (m_g h 151 k).toNat ≤ 9) (X : n_Vs 1000000 (n_vP h k (m_g h 151 k).toNat) (2 ^ n_cn h k (m_g h 151 k).toNat - 1) (fun i => m_g x 118 i)) {D v : Nat} (hD : D < 2 ^ n_cn h k (m_g h 151 k).toNat) (fs : n_fst (n_vP h k (m_g h 151 k).toNat) (fun i => m_g x 118 i) D v) : t9_firstHeap 114 D x = some ((v : Int), x) := by
  have I := G.1.1
  have p9 := n_pow9 c9
  have bO := fun o o0 (o1 : o < ((m_g h 151 k).toNat : Int)) => n_scc_b C (o := o) o0 (by omega)
  obtain ⟨R, e1, R1, hR⟩ := n_readyC bO G c9 (D := D) (by omega)
  have vR : n_sub v R := fun j hj => (hR j).mpr (fs.1.1.2.1 j hj)
  have vle := n_sub_le _ _ vR
  have v1 : 1 ≤ v := by have := fs.1.1.1; omega
  have rgD := n_Vs_fin X p9.2 (2 ^ n_cn h k (m_g h 151 k).toNat) D (by omega) hD
  have key : ∀ (m w : Nat), v = w + m → 1 ≤ w → t9_firstHeap_c8 114 D R w x = some ((v : Int), x) := by
    intro m
    induction m with
    | zero =>
      intro w em w1
      have ew : w = v := by omega
      subst ew
      have u := n_val_up fs.1.1 hD
      have q := fs.1.2
      dsimp only at q
      have bd : -2147483648 ≤ m_and (w : Int) (m_xor (R : Int) (-1)) := by rw [(n_subN (by omega) (by omega)).mpr vR]; omega
      rw [t9_firstHeap_c8, m_w_of (x := (R : Int)) (by omega) (by omega), m_w_of (x := (w : Int)) (by omega) (by omega), if_neg (by omega), (n_subN (by omega) (by omega)).mpr vR, m_w_of (x := 0) (by omega) (by omega), if_pos rfl, if_pos (n_t114 I.2), n_orN (by omega) (by omega), n_leftC I (by omega), n_bs]
      dsimp only
      rw [if_pos (n_t114 I.2), n_leftC I (by omega), n_bs]
      dsimp only
      rw [q, if_pos rfl, if_pos (n_t114 I.2), n_fitC C M G c9 (by omega), n_bs, fs.1.1.2.2]
      dsimp only
      rw [if_pos rfl]
    | succ m ih =>
      intro w em w1
      have no := fs.2 w (by omega)
      have nxt := ih (w + 1) (by omega) (by omega)
      rw [show ((w + 1 : Nat) : Int) = (w : Int) + 1 by omega] at nxt
      rw [t9_firstHeap_c8, m_w_of (x := (R : Int)) (by omega) (by omega), m_w_of (x := (w : Int)) (by omega) (by omega), if_neg (by omega)]
      have bd : 0 ≤ m_and (w : Int) (m_xor (R : Int) (-1)) ∧ m_and (w : Int) (m_xor (R : Int) (-1)) < 512 := by
        rw [n_xorN (by omega), n_andN (X := w) (Y := 2 ^ 32 - (R + 1)) (by omega) (by show (-1 - (R : Int)) % 4294967296 = ((4294967296 - (R + 1) : Nat) : Int); omega)]
        have : w &&& (2 ^ 32 - (R + 1)) ≤ w := Nat.and_le_left
        omega
      rw [m_w_of (x := m_and (w : Int) (m_xor (R : Int) (-1))) (by omega) (by omega)]
      by_cases c : n_sub w R
      · have bits : ∀ i, w.testBit i = true → i < n_cn h k (m_g h 151 k).toNat ∧ D.testBit i = false ∧ n_sub (n_nd h k (m_g h 151 k).toNat i) D := fun i hi => (hR i).mp (c i hi)
        have u : D < D ||| w ∧ D ||| w < 2 ^ n_cn h k (m_g h 151 k).toNat := n_val_up (fit := fun _ => true) (nd := n_nd h k (m_g h 151 k).toNat) ⟨by omega, bits, rfl⟩ hD
        have rgw := n_Vs_fin X p9.2 (2 ^ n_cn h k (m_g h 151 k).toNat) (D ||| w) (by omega) u.2
        rw [if_pos ((n_subN (by omega) (by omega)).mpr c), if_pos (n_t114 I.2), n_orN (by omega) (by omega), n_leftC I (by omega), n_bs]
        dsimp only
        rw [if_pos (n_t114 I.2), n_leftC I (by omega), n_bs]
        dsimp only
        rw [m_w_of (x := m_g x 118 ((D ||| w : Nat) : Int) + 1) (by omega) (by omega), m_w_of (x := m_g x 118 (D : Int)) (by omega) (by omega)]
        by_cases d : m_g x 118 ((D ||| w : Nat) : Int) + 1 = m_g x 118 (D : Int)
        · rw [if_pos d, if_pos (n_t114 I.2), n_fitC C M G c9 (by omega), n_bs]
          dsimp only
          rw [if_neg (fun z => no ⟨⟨by omega, bits, z⟩, d⟩)]
          exact nxt
        · rw [if_neg d]
          exact nxt
      · rw [if_neg (fun z => c ((n_subN (by omega) (by omega)).mp z))]
        exact nxt
  unfold t9_firstHeap
  rw [if_pos (n_t114 I.2), e1, n_bs]
  exact key (v - 1) 1 (by omega) (by omega)
