/-! CALLS: make ..: the component's player: what stands while it plays -/
def n_prows : List Int := [26, 28, 30, 32, 34, 36, 38, 40, 42, 44, 46, 48, 50, 52, 54, 56, 58, 60, 62, 64, 66, 68, 70, 72, 74, 76, 78, 80, 82, 84, 86, 88, 90, 92, 94, 96, 98, 100, 102, 104]
theorem n_prt_all : ((List.range 40).all fun i => decide (((26 + 2 * i : Nat) : Int) ∈ n_prows) && decide (((26 + 2 * i : Nat) : Int) ∈ n_rows)) = true := by decide +kernel
theorem n_prt {h : m_H} (F : n_fx h) {o : Int} (o0 : 0 ≤ o) (o1 : o < 40) : m_t h (26 + 2 * o) = 5 ∧ (26 + 2 * o) ∈ n_rows ∧ (26 + 2 * o) ∈ n_prows := by
  have A := n_prt_all
  rw [List.all_eq_true] at A
  have q := A o.toNat (List.mem_range.mpr (by omega))
  rw [Bool.and_eq_true, decide_eq_true_eq, decide_eq_true_eq, show ((26 + 2 * o.toNat : Nat) : Int) = 26 + 2 * o by omega] at q
  exact ⟨(n_rows_t F q.2).1, q.2, q.1⟩
theorem n_prows_all : n_prows.all (fun r => n_scrR r && decide (r ∈ n_rows)) = true := by decide +kernel
theorem n_prows_t {h : m_H} (F : n_fx h) {r : Int} (hr : r ∈ n_prows) : m_t h r = 5 := by
  have A := n_prows_all
  rw [List.all_eq_true] at A
  have := A r hr
  rw [Bool.and_eq_true, decide_eq_true_eq] at this
  exact (n_rows_t F this.2).1
theorem n_prows_R : n_prows.all n_scrR = true := by decide +kernel
/-- nothing but the player's rows and leads has changed -/
def n_cF (h hh : m_H) (kk : Int) : Prop := n_I hh ∧ n_kp h hh [24] n_prows ∧ n_bud hh kk
/-- rows of the orders ahead of n, leads of the orders ahead of m -/
def n_cP (h hh : m_H) (k d n m : Int) : Prop := (∀ o, 0 ≤ o → o < n → m_g h (153 + k) o ≠ 12 → m_g hh (26 + 2 * o) 1 = n_L h k d o ∧ ∀ i, 0 ≤ i → i < n_L h k d o → n_rg hh (26 + 2 * o) i = n_S h k d o i) ∧ ∀ o, 0 ≤ o → o < m → m_g hh 24 o = n_sOf h k o d
theorem n_cF_0 {h : m_H} {kk : Int} (X : n_R h kk) : n_cF h h kk := ⟨X.1, n_kp_mono n_kp_rfl n_no n_no, X.2.2.1⟩
theorem n_cF_P {h hh : m_H} {kk : Int} (X : n_R h kk) (C : n_cF h hh kk) : n_sp h hh [24] n_prows [] [] :=
  n_sp_of X.1 C.2.1 n_kr_rfl (n_in1 ⟨n_sfa X.1 (by omega) (by rw [n_t24 X.1.2]; omega) (Or.inr (by rw [n_l24 X.1.2]; omega)), Or.inl (by omega)⟩) (fun r hr => n_prows_t X.1.2 hr)
theorem n_cF_S {h hh : m_H} {kk : Int} (X : n_R h kk) (C : n_cF h hh kk) : n_Rsh hh h := by
  have P := n_cF_P X C
  have t24 := n_t24 X.1.2
  have nos : n_nos [] [] := by unfold n_nos; simp
  have R := n_prows_R
  rw [List.all_eq_true] at R
  exact n_Rsh_g (n_Rsh_sp X.1 P nos (n_in1 ⟨Or.inr (by omega), by omega, by omega⟩) (fun r hr => by have := of_decide_eq_true (R r hr); omega) X.2.2.2.2.2.1) (fun b j b1 b2 => (P.2.2.1 b b1 b2 (by simp) j (fun q => by simp at q)).symm)
theorem n_scc_P {h hh : m_H} {A R Tc Tf : List Int} {k a : Int} (I : n_I h) (P : n_sp h hh A R Tc Tf) (cA : ∀ b ∈ A, b < 312) (C : n_scc h h k a) : n_scc hh h k a := by
  obtain ⟨⟨⟨s1, s2, s3, s4, s5⟩, t2, t3, t4, t5, t6⟩, C2⟩ := C
  obtain ⟨v1, v2, v3, v4, v5, v6⟩ := n_sp_sc I P (fun b hb => Or.inl (cA b hb)) s1 s2 s3 s4
  refine ⟨⟨⟨v1, s2, by rw [v2]; exact s3, by rw [v2]; exact s4, by rw [v2, v2]; exact s5⟩, by rw [v2]; exact t2, by rw [v2, v5]; exact t3, by rw [v2]; exact t4, fun o o1 o2 => ?_, fun q o o1 o2 => by rw [v2, v4]; exact t6 q o o1 o2⟩, C2⟩
  rw [v2]
  have := t5 o o1 o2
  unfold n_ord at *
  simp only [v3]
  exact this
theorem n_cF_C {h hh : m_H} {kk k a : Int} (X : n_R h kk) (C : n_cF h hh kk) (S : n_scc h h k a) : n_scc hh h k a := n_scc_P X.1 (n_cF_P X C) (n_in1 (by omega)) S
theorem n_cF_rw {h hh h' : m_H} {kk o n : Int} {f : Int → Int} (X : n_R h kk) (C : n_cF h hh kk) (o0 : 0 ≤ o) (o1 : o < 40) (A : n_rw hh h' (26 + 2 * o) n f) : n_cF h h' kk := by
  obtain ⟨J, K, B⟩ := C
  obtain ⟨p1, p2, p3⟩ := n_prt J.2 o0 o1
  have K1 := n_kp_rw J.1 p1 A
  exact ⟨n_I_rw J p1 A, n_kp_mono (n_kp_trans K K1 X.1.1 (fun r hr => Or.inl (by simp at hr; rw [hr]; exact (n_prt X.1.2 o0 o1).1))) (fun b hb => Or.inl (by simpa using hb)) (fun r hr => Or.inl (by rcases List.mem_append.mp hr with q | q; exact q; rw [List.mem_singleton.mp q]; exact p3)), n_bud_rw J p2 A B⟩
/-- the row of order o is made -/
theorem n_cP_rw {h hh h' : m_H} {kk k d o n : Int} {f : Int → Int} (X : n_R h kk) (C : n_cF h hh kk) (D : n_cP h hh k d o (o + 1)) (o0 : 0 ≤ o) (o1 : o < 40) (A : n_rw hh h' (26 + 2 * o) n f) (en : n = n_L h k d o) (ef : ∀ j, 0 ≤ j → j < n → f j = n_S h k d o j) : n_cP h h' k d (o + 1) (o + 1) := by
  obtain ⟨J, K, B⟩ := C
  obtain ⟨p1, p2, p3⟩ := n_prt J.2 o0 o1
  refine ⟨fun q q0 q1 qv => ?_, fun q q0 q1 => ?_⟩
  · by_cases c : q = o
    · subst c
      refine ⟨by rw [A.2.2.1, en], fun i i0 i1 => ?_⟩
      rw [n_rw_rg A, if_pos (by omega), ef i i0 (by omega)]
    · have pq := n_prt J.2 q0 (show q < 40 by omega)
      have := n_oth J.1 p1 A.2.2.2.2 pq.1 (by omega)
      obtain ⟨d1, d2⟩ := D.1 q q0 (by omega) qv
      exact ⟨by rw [this.2.2.1]; exact d1, fun i i0 i1 => by rw [this.2.2.2.2]; exact d2 i i0 i1⟩
  · have s24 := n_sfa J (a := 24) (by omega) (by rw [n_t24 J.2]; omega) (Or.inr (by rw [n_l24 J.2]; omega))
    rw [(n_sf_ch J.1 p1 A.2.2.2.2 s24).2.1]
    exact D.2 q q0 q1
theorem n_rowC {h : m_H} {o : Int} (I : n_I h) (o0 : 0 ≤ o) (o1 : o < 40) : t3_row 20 o h = some (26 + 2 * o, h) := by
  have l21 := n_l21 I.2
  unfold t3_row
  rw [m_w_of (by omega) (by omega), if_neg (by omega), if_pos (n_t20 I.2), n_p20_1 I.2, if_pos (by rw [n_t21 I.2]; omega), l21, m_w_of (by omega) (by omega), if_pos o1, if_pos ⟨n_t21 I.2, o0, o1⟩, n_f21 I.2 o0 o1]
theorem n_rowN {h : m_H} (I : n_I h) : t3_row 20 (-1) h = some (22, h) := by
  unfold t3_row
  rw [m_w_of (by omega) (by omega), if_pos (by omega), if_pos (n_t20 I.2), n_p20_2 I.2]
theorem n_isLen {h : m_H} {x : Int} (x1 : -2147483648 ≤ x) (x2 : x < 2147483648) : t3_isLength x h = some (decide (1 ≤ x ∧ x ≤ 1500), h) := by
  unfold t3_isLength
  rw [m_w_of x1 x2]
  by_cases c : x < 1
  · rw [if_pos c, decide_eq_false (by omega)]
  · rw [if_neg c]
    by_cases d : 1500 < x
    · rw [if_pos d, decide_eq_false (by omega)]
    · rw [if_neg d, decide_eq_true (by omega)]
/-! what fills a row, by the verbs -/
theorem n_t3cut {h : m_H} {v w a b : Int} (W : n_wf h) (hv : m_t h v = 5) (hw : m_t h w = 5) (hn : w ≠ v) (sv : n_sv h w) (l : m_g h w 1 ≤ 1500) (a0 : 0 ≤ a) (a1 : a ≤ 1500) (b0 : 0 ≤ b) (b1 : b ≤ 1500) : (¬ (a < b ∧ b ≤ m_g h w 1) → t3_fillCut v w a b h = some (false, h)) ∧ (a < b ∧ b ≤ m_g h w 1 → ∃ h', t3_fillCut v w a b h = some (true, h') ∧ n_rwc h h' v (b - a) (fun j => n_rg h w (a + j))) := by
  have L := n_len W hw
  unfold t3_fillCut
  rw [m_w_of (x := a) (by omega) (by omega), m_w_of (x := b) (by omega) (by omega), if_neg (by omega)]
  constructor
  · intro c
    by_cases d : a < b
    · rw [if_pos d, if_pos hw, n_size hw, n_bs]
      dsimp only
      rw [m_w_of (x := m_g h w 1) (by omega) (by omega), if_pos (by omega)]
    · rw [if_neg d]
  · intro c
    obtain ⟨h', e, A⟩ := n_fillPartC (v := v) (w := w) (b := a) (n := b - a) W hv hw hn (by omega) (by omega) (by omega) (by omega) sv
    refine ⟨h', ?_, A⟩
    rw [if_pos c.1, if_pos hw, n_size hw, n_bs]
    dsimp only
    rw [m_w_of (x := m_g h w 1) (by omega) (by omega), if_neg (by omega), if_pos hv, e, n_bs]
theorem n_t3played {h : m_H} {v w p q n : Int} (W : n_wf h) (hv : m_t h v = 5) (hw : m_t h w = 5) (hn : w ≠ v) (sv : n_sv h w) (l1 : 1 ≤ m_g h w 1) (l : m_g h w 1 ≤ 1500) (p1 : 1 ≤ p) (p2 : p ≤ 1100) (q1 : 1 ≤ q) (q2 : q ≤ 1000) (en : n = Int.tdiv ((m_g h w 1 - 1) * q) p + 1) : 1 ≤ n ∧ n ≤ 2000000 ∧ (¬ n ≤ 1500 → t3_fillPlayed v w p q h = some (false, h)) ∧ (n ≤ 1500 → ∃ h', t3_fillPlayed v w p q h = some (true, h') ∧ n_rwc h h' v n (fun j => n_cl (n_play (n_rg h w) (m_g h w 1) j p q))) := by
  have m := n_mulp (a := m_g h w 1 - 1) (b := q) (A := 1500) (B := 1000) (by omega) (by omega) (by omega) q2
  have t := n_td (x := (m_g h w 1 - 1) * q) (q := p) m.1 p1
  have nb : 1 ≤ n ∧ n ≤ 2000000 := by omega
  refine ⟨nb.1, nb.2, fun c => ?_, fun c => ?_⟩
  · unfold t3_fillPlayed
    rw [if_pos hw, n_playedSize hw l1 l p1 p2 q1 q2, n_bs, ← en]
    dsimp only
    rw [n_isLen (by omega) (by omega), n_bs, decide_eq_false (by omega)]
    rfl
  · obtain ⟨h', e, A⟩ := n_fillPlayed W hv hw hn sv l1 l p1 p2 q1 q2 en (by omega)
    refine ⟨h', ?_, A⟩
    unfold t3_fillPlayed
    rw [if_pos hw, n_playedSize hw l1 l p1 p2 q1 q2, n_bs, ← en]
    dsimp only
    rw [n_isLen (by omega) (by omega), n_bs, decide_eq_true ⟨nb.1, c⟩]
    dsimp only
    rw [if_pos rfl, if_pos hv, e, n_bs]
theorem n_t3joined {h : m_H} {v w u k : Int} (W : n_wf h) (hv : m_t h v = 5) (hw : m_t h w = 5) (hu : m_t h u = 5) (hn : w ≠ v) (hn2 : u ≠ v) (sw : n_sv h w) (su : n_sv h u) (m1 : 1 ≤ m_g h w 1) (m2 : 1 ≤ m_g h u 1) (l1 : m_g h w 1 ≤ 1500) (l2 : m_g h u 1 ≤ 1500) (k0 : 0 ≤ k) (k1 : k ≤ 40) : (¬ (k ≤ m_g h w 1 ∧ k ≤ m_g h u 1 ∧ m_g h w 1 + m_g h u 1 - k ≤ 1500) → t3_fillJoined v w u k h = some (false, h)) ∧ (k ≤ m_g h w 1 ∧ k ≤ m_g h u 1 ∧ m_g h w 1 + m_g h u 1 - k ≤ 1500 → ∃ h', t3_fillJoined v w u k h = some (true, h') ∧ n_rwc h h' v (m_g h w 1 + m_g h u 1 - k) (n_jn (n_rg h w) (n_rg h u) (m_g h w 1 - k) k)) := by
  have em : m_min (m_g h w 1) (m_g h u 1) = min (m_g h w 1) (m_g h u 1) := n_min (by omega) (by omega) (by omega) (by omega)
  have ej : t5_joinedSize w u k h = some (m_g h w 1 + m_g h u 1 - k, h) := by unfold t5_joinedSize; rw [if_pos hw, if_pos hu]
  have e0 : t3_fillJoined v w u k h = if min (m_g h w 1) (m_g h u 1) < k then some (false, h) else (if decide (1 ≤ m_g h w 1 + m_g h u 1 - k ∧ m_g h w 1 + m_g h u 1 - k ≤ 1500) = true then (if m_t h v = 5 then t5_fillJoined v w u k h >>= fun ⟨_, h15⟩ => some (true, h15) else none) else some (false, h)) := by
    unfold t3_fillJoined
    rw [m_w_of (x := k) (by omega) (by omega), if_neg (by omega), if_pos hw, n_size hw, n_bs]
    dsimp only
    rw [if_pos hu, n_size hu, n_bs]
    dsimp only
    rw [em, m_w_of (x := min (m_g h w 1) (m_g h u 1)) (by omega) (by omega), ej, n_bs]
    dsimp only
    rw [n_isLen (by omega) (by omega), n_bs]
  rw [e0]
  constructor
  · intro c
    by_cases d : min (m_g h w 1) (m_g h u 1) < k
    · rw [if_pos d]
    · rw [if_neg d, decide_eq_false (by omega), if_neg (by decide)]
  · intro c
    obtain ⟨h', e, A⟩ := n_fillJoined4 W hv hw hu hn hn2 sw su l1 l2 k0 k1 c.1 c.2.1
    refine ⟨h', ?_, A⟩
    rw [if_neg (by omega), decide_eq_true (by omega), if_pos rfl, if_pos hv, e, n_bs]
theorem n_t3faded {h : m_H} {v w a b : Int} (W : n_wf h) (hv : m_t h v = 5) (hw : m_t h w = 5) (hn : w ≠ v) (sv : n_sv h w) (l1 : 1 ≤ m_g h w 1) (l : m_g h w 1 ≤ 1500) (a0 : 0 ≤ a) (a1 : a ≤ 1500) (b0 : 0 ≤ b) (b1 : b ≤ 1500) : (¬ (a ≤ m_g h w 1 ∧ b ≤ m_g h w 1) → t3_fillFaded v w a b h = some (false, h)) ∧ (a ≤ m_g h w 1 ∧ b ≤ m_g h w 1 → ∃ h', t3_fillFaded v w a b h = some (true, h') ∧ n_rw h h' v (m_g h w 1) (n_fdO (n_fdI (n_rg h w) a) (m_g h w 1) b)) := by
  have e0 : t3_fillFaded v w a b h = if m_g h w 1 < a then some (false, h) else if m_g h w 1 < b then some (false, h) else (if m_t h v = 5 then t5_fillPart v w 0 (m_g h w 1) h >>= fun ⟨_, h13⟩ => if m_t h13 v = 5 then t5_fadeIn v a h13 >>= fun ⟨_, h16⟩ => if m_t h16 v = 5 then t5_fadeOut v b h16 >>= fun ⟨_, h19⟩ => some (true, h19) else none else none else none) := by
    unfold t3_fillFaded
    rw [if_pos hw, n_size hw, n_bs]
    dsimp only
    rw [m_w_of (x := m_g h w 1) (by omega) (by omega), m_w_of (x := a) (by omega) (by omega), if_pos hw, n_size hw, n_bs]
    dsimp only
    rw [m_w_of (x := m_g h w 1) (by omega) (by omega), m_w_of (x := b) (by omega) (by omega), if_pos hw, n_size hw, n_bs]
  rw [e0]
  constructor
  · intro c
    by_cases d : m_g h w 1 < a
    · rw [if_pos d]
    · rw [if_neg d, if_pos (by omega)]
  · intro c
    obtain ⟨x1, f1, A1⟩ := n_fillPartC (v := v) (w := w) (b := 0) (n := m_g h w 1) W hv hw hn (by omega) (by omega) (by omega) (by omega) sv
    have W1 := n_rw_wf W hv A1.1
    have v1 : m_t x1 v = 5 := A1.1.1.1
    have rg1 : ∀ j, n_rg x1 v j = n_rg h w j := fun j => by
      rw [n_rw_rg A1.1]
      by_cases z : 0 ≤ j ∧ j < m_g h w 1
      · rw [if_pos z, show 0 + j = j by omega]
      · rw [if_neg z]
        unfold n_rg
        rw [if_neg z]
    have s1 : n_sv x1 v := fun j => by rw [rg1]; exact sv j
    obtain ⟨x2, f2, A2⟩ := n_fadeIn (n := a) W1 v1 s1 a0 (by rw [A1.1.2.2.1]; exact c.1) (by rw [A1.1.2.2.1]; exact l)
    have W2 := n_rw_wf W1 v1 A2.1
    have v2 : m_t x2 v = 5 := A2.1.1.1
    have n2 : m_g x2 v 1 = m_g h w 1 := A2.1.2.2.1.trans A1.1.2.2.1
    have fb := n_fdI_b (a := a) (r := n_rg h w) (N := m_g h w 1) (fun i _ _ => sv i)
    have ef : n_fdI (n_rg x1 v) a = n_fdI (n_rg h w) a := funext fun j => by unfold n_fdI; rw [rg1]
    have rg2 : ∀ j, n_rg x2 v j = if 0 ≤ j ∧ j < m_g h w 1 then n_fdI (n_rg h w) a j else 0 := fun j => by rw [n_rw_rg A2.1, A1.1.2.2.1, ef]
    have s2 : n_sv x2 v := fun j => by
      rw [rg2]
      by_cases z : 0 ≤ j ∧ j < m_g h w 1
      · rw [if_pos z]; exact fb j z.1 z.2
      · rw [if_neg z]; omega
    obtain ⟨x3, f3, A3⟩ := n_fadeOut (n := b) W2 v2 s2 b0 (by rw [n2]; exact c.2) (by rw [n2]; exact l)
    refine ⟨x3, ?_, n_rw_eq (n_rw_trans W hv A1.1 (n_rw_trans W1 v1 A2.1 A3.1)) n2 (fun j j0 j1 => ?_)⟩
    · rw [if_neg (by omega), if_neg (by omega), if_pos hv, f1, n_bs]
      dsimp only
      rw [if_pos v1, f2, n_bs]
      dsimp only
      rw [if_pos v2, f3, n_bs]
    · rw [n2] at j1 ⊢
      unfold n_fdO
      rw [rg2, if_pos (show 0 ≤ j ∧ j < m_g h w 1 from ⟨j0, j1⟩)]
