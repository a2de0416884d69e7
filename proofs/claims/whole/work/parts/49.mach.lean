/-! CALLS: machine -/
theorem n_al_I {h : m_H} {t n : Int} (I : n_I h) (t5 : t ≠ 5) (t6 : t ≠ 6) (t1 : t ≠ -1) : n_I (m_a h t n) := by
  obtain ⟨W, F⟩ := I
  have hn := F.2.2.2
  obtain ⟨w1, w2, w3, w4, w5⟩ := W
  have W : n_wf h := ⟨w1, w2, w3, w4, w5⟩
  have O : ∀ {b : Int}, b < m_n h → ∀ j, m_g (m_a h t n) b j = m_g h b j := fun hb j => by rw [m_g_a, if_neg (by omega)]
  have old : ∀ b, b < m_n h → m_t (m_a h t n) b = m_t h b ∧ m_l (m_a h t n) b = m_l h b := fun b hb => by
    rw [m_t_a, m_l_a, if_neg (by omega), if_neg (by omega)]
    exact ⟨rfl, rfl⟩
  have kk : ∀ r v, v ≠ t → v ≠ -1 → m_t (m_a h t n) r = v → r < m_n h ∧ m_t h r = v := fun r v h1 h2 hr => by
    rw [m_t_a] at hr
    by_cases c : r = m_n h
    · rw [if_pos c] at hr; exact absurd hr.symm h1
    · rw [if_neg c] at hr
      exact ⟨(w1 r (by omega)).2, hr⟩
  refine ⟨⟨fun a ha => ?_, by rw [m_n_a]; omega, fun r hr => ?_, fun r q hr hq hne => ?_, fun s hs => ?_⟩, n_fx_of F (by rw [m_n_a]; omega) (fun a h1 h2 => old a (by omega)) (fun a k hk => O (by have := (n_key_t F hk).1; omega) k)⟩
  · rw [m_n_a]
    by_cases c : a = m_n h
    · omega
    · rw [m_t_a, if_neg c] at ha
      have := w1 a ha; omega
  · obtain ⟨e1, e2⟩ := kk r 5 (fun e => t5 e.symm) (by omega) hr
    have q := w3 r e2
    have l := n_wf_lt W e2
    unfold n_row n_cap at q ⊢
    rw [O e1, O e1, (old r e1).1, (old _ l.2.1).1, (old _ l.2.1).2]
    exact q
  · obtain ⟨e1, e2⟩ := kk r 5 (fun e => t5 e.symm) (by omega) hr
    obtain ⟨f1, f2⟩ := kk q 5 (fun e => t5 e.symm) (by omega) hq
    rw [O e1, O f1]
    exact w4 r q e2 f2 hne
  · obtain ⟨e1, e2⟩ := kk s 6 (fun e => t6 e.symm) (by omega) hs
    obtain ⟨s1, s2, s3, s4, s5⟩ := w5 s e2
    have l0 := w1 (m_g h s 0) (by omega)
    have l3 := w1 (m_g h s 3) (by omega)
    rw [O e1, O e1, (old _ l0.2).1, (old _ l3.2).1, (old _ l3.2).2, (old _ l0.2).2]
    refine ⟨s1, s2, s3, s4, fun r hr => ?_⟩
    obtain ⟨f1, f2⟩ := kk r 5 (fun e => t5 e.symm) (by omega) hr
    rw [O f1]; exact s5 r f2
def n_mc (h : m_H) (d l s r : Int) : m_H := m_p (m_p (m_p (m_p (m_p (m_p (m_a h 0 4) (m_n h) 0 d) (m_n h) 1 l) (m_n h) 2 s) (m_n h) 3 r) 4 (m_g h 2 6) (m_n h)) 2 6 (m_g h 2 6 + 1)
def n_mr (g : m_H) (d l s r : Int) : m_H := m_p (m_p (m_p (m_p (m_p g 142 (m_g g 127 23) d) 143 (m_g g 127 23) l) 144 (m_g g 127 23) s) 145 (m_g g 127 23) r) 127 23 (m_g g 127 23 + 1)
theorem n_mc_I {h : m_H} {d l s r : Int} (I : n_I h) : n_I (n_mc h d l s r) := by
  have hn := I.2.2.2.2
  have J := n_al_I (t := 0) (n := 4) I (by omega) (by omega) (by omega)
  have t0 : m_t (m_a h 0 4) (m_n h) = 0 := by rw [m_t_a, if_pos rfl]
  have kb := fun (h' : m_H) (J : n_I h') k => n_key_big J.2 hn k
  have J1 : n_I (m_p (m_a h 0 4) (m_n h) 0 d) := n_I_p J (by omega) (by omega) (kb _ J 0)
  have J2 : n_I (m_p (m_p (m_a h 0 4) (m_n h) 0 d) (m_n h) 1 l) := n_I_p J1 (by rw [m_t_p]; omega) (by rw [m_t_p]; omega) (kb _ J1 1)
  have J3 : n_I (m_p (m_p (m_p (m_a h 0 4) (m_n h) 0 d) (m_n h) 1 l) (m_n h) 2 s) := n_I_p J2 (by simp only [m_t_p]; omega) (by simp only [m_t_p]; omega) (kb _ J2 2)
  have J4 : n_I (m_p (m_p (m_p (m_p (m_a h 0 4) (m_n h) 0 d) (m_n h) 1 l) (m_n h) 2 s) (m_n h) 3 r) := n_I_p J3 (by simp only [m_t_p]; omega) (by simp only [m_t_p]; omega) (kb _ J3 3)
  have t4 := n_t4 J4.2
  have k4 : n_key 4 (m_g h 2 6) = false := by
    unfold n_key
    rw [Bool.or_eq_false_iff]
    constructor
    · rw [List.any_eq_false]
      intro q hq
      have A : (n_ptr.all (fun q => decide (q.1 ≠ 4))) = true := by decide +kernel
      rw [List.all_eq_true] at A
      have := decide_eq_true_eq.mp (A q hq)
      simp [this]
    · decide +kernel
  have J5 := n_I_p (v := m_n h) J4 (by omega) (by omega) k4
  have t2 := n_t2 J5.2
  exact n_I_p J5 (by omega) (by omega) rfl
theorem n_addMachine {h : m_H} {w s r : Int} (I : n_I h) (c1 : 0 ≤ m_g h 2 6) (c2 : m_g h 2 6 < 4) (w1 : 0 ≤ w) (w2 : w < 2147483648) (w3 : w / 1000 ≤ 100) (w4 : w % 1000 ≤ 128) (s1 : 0 ≤ s ∧ s ≤ 100) (r1 : 0 ≤ r ∧ r ≤ 200) : t7_addMachine 2 w s r h = some (m_g h 2 6, n_mc h (w / 1000 - 50) (w % 1000) s r) := by
  have hn := I.2.2.2.2
  have J := n_al_I (t := 0) (n := 4) I (by omega) (by omega) (by omega)
  have t2 := n_t2 I.2
  have t4 := n_t4 I.2
  have l4 := n_l4 I.2
  have p5 := n_p2_5 I.2
  have e1 : Int.tdiv w 1000 = w / 1000 := Int.tdiv_eq_ediv_of_nonneg w1
  have e2 : Int.tmod w 1000 = w % 1000 := Int.tmod_eq_emod_of_nonneg w1
  have i0 : t0_init (m_n h) (w / 1000 - 50) (w % 1000) s r (m_a h 0 4) = some ((), m_p (m_p (m_p (m_p (m_a h 0 4) (m_n h) 0 (w / 1000 - 50)) (m_n h) 1 (w % 1000)) (m_n h) 2 s) (m_n h) 3 r) := by
    have t0 : m_t (m_a h 0 4) (m_n h) = 0 := by rw [m_t_a, if_pos rfl]
    unfold t0_init
    simp only [m_t_p, t0, Int.reduceEq, Int.reduceLT, Int.reduceLE, ↓reduceIte, true_and, and_true, and_self, false_and, and_false, eq_self, n_bs]
  have q0 : 0 ≤ m_t (m_a h 0 4) (m_n h) := by rw [m_t_a, if_pos rfl]; omega
  unfold t7_addMachine n_mc
  rw [m_w_of (x := w) (by omega) w2, e1, e2, n_bs, n_bs, if_neg (by omega), m_w_of (by omega) (by omega), if_neg (by omega), m_w_of (by omega) (by omega), if_neg (by omega), m_w_of (x := s) (by omega) (by omega), if_neg (by omega), if_neg (by omega), m_w_of (x := r) (by omega) (by omega), if_neg (by omega), if_neg (by omega), if_pos t2, p5, if_pos (by omega), l4, m_w_of (by omega) (by omega), m_w_of (by omega) (by omega), if_pos c2, n_bs, if_pos q0, i0, n_bs]
  have ta : ∀ b, b < m_n h → m_t (m_p (m_p (m_p (m_p (m_a h 0 4) (m_n h) 0 (w / 1000 - 50)) (m_n h) 1 (w % 1000)) (m_n h) 2 s) (m_n h) 3 r) b = m_t h b := fun b hb => by simp only [m_t_p, m_t_a]; rw [if_neg (by omega)]
  have la : ∀ b, b < m_n h → m_l (m_p (m_p (m_p (m_p (m_a h 0 4) (m_n h) 0 (w / 1000 - 50)) (m_n h) 1 (w % 1000)) (m_n h) 2 s) (m_n h) 3 r) b = m_l h b := fun b hb => by simp only [m_l_p, m_l_a]; rw [if_neg (by omega)]
  have tn : m_t (m_p (m_p (m_p (m_p (m_a h 0 4) (m_n h) 0 (w / 1000 - 50)) (m_n h) 1 (w % 1000)) (m_n h) 2 s) (m_n h) 3 r) (m_n h) = 0 := by simp only [m_t_p, m_t_a, ↓reduceIte]
  have g2 : ∀ j, m_g (m_p (m_p (m_p (m_p (m_a h 0 4) (m_n h) 0 (w / 1000 - 50)) (m_n h) 1 (w % 1000)) (m_n h) 2 s) (m_n h) 3 r) 2 j = m_g h 2 j := fun j => by rw [n_gp_n (by omega), n_gp_n (by omega), n_gp_n (by omega), n_gp_n (by omega), m_g_a, if_neg (by omega)]
  have a4 := ta 4 (by omega)
  have a2 := ta 2 (by omega)
  have b4 := la 4 (by omega)
  generalize m_p (m_p (m_p (m_p (m_a h 0 4) (m_n h) 0 (w / 1000 - 50)) (m_n h) 1 (w % 1000)) (m_n h) 2 s) (m_n h) 3 r = h1 at *
  have g26 := g2 6
  clear g2 ta la i0 J I e1 e2 q0
  simp (disch := omega) only [m_w_of, n_ltT, n_ltF, n_leT, n_leF, n_eqT, n_eqF, n_bs, n_bn, ↓reduceIte, true_and, and_true, and_self, false_and, and_false, or_true, true_or, or_false, false_or, not_true_eq_false, not_false_eq_true, Bool.false_eq_true, reduceCtorEq, eq_self, n_gp_n, n_gp_y, m_t_p, g26]
  congr 2
  omega
theorem n_machineR {g : m_H} {w s r : Int} (I : n_I g) (c1 : 0 ≤ m_g g 127 23) (c2 : m_g g 127 23 < 4) (w1 : 0 ≤ w) (w2 : w < 2147483648) (w3 : w / 1000 ≤ 100) (w4 : w % 1000 ≤ 128) (s1 : 0 ≤ s ∧ s ≤ 100) (r1 : 0 ≤ r ∧ r ≤ 200) : t11_machine 127 w s r g = some (m_g g 127 23, n_mr g (w / 1000 - 50) (w % 1000) s r) := by
  have tM := n_t127 I.2
  have t19 := n_t142 I.2
  have t20 := n_t143 I.2
  have t21 := n_t144 I.2
  have t22 := n_t145 I.2
  have l19 := n_l142 I.2
  have l20 := n_l143 I.2
  have l21 := n_l144 I.2
  have l22 := n_l145 I.2
  have p19 := n_p127_19 I.2
  have p20 := n_p127_20 I.2
  have p21 := n_p127_21 I.2
  have p22 := n_p127_22 I.2
  have e1 : Int.tdiv w 1000 = w / 1000 := Int.tdiv_eq_ediv_of_nonneg w1
  have e2 : Int.tmod w 1000 = w % 1000 := Int.tmod_eq_emod_of_nonneg w1
  have i1 := n_in (a := w / 1000) (b := 0) (c := 100) (h := g) (by omega) (by omega) (by omega) (by omega) (by omega) (by omega)
  rw [decide_eq_true (by omega)] at i1
  have i2 := n_in (a := s) (b := 0) (c := 100) (h := g) (by omega) (by omega) (by omega) (by omega) (by omega) (by omega)
  rw [decide_eq_true s1] at i2
  have i3 := n_in (a := r) (b := 0) (c := 200) (h := g) (by omega) (by omega) (by omega) (by omega) (by omega) (by omega)
  rw [decide_eq_true r1] at i3
  unfold t11_machine n_mr
  rw [m_w_of (x := w) (by omega) w2, e1, e2, if_neg (by omega), m_w_of (by omega) (by omega), i1, n_bs]
  show (if true = true then if 128 < m_w (w % 1000) then _ else t11_in (m_w s) 0 100 g >>= _ else _) = _
  rw [if_pos rfl, m_w_of (by omega) (by omega), if_neg (by omega), m_w_of (x := s) (by omega) (by omega), i2, n_bs]
  show (if true = true then t11_in (m_w r) 0 200 g >>= _ else _) = _
  rw [if_pos rfl, m_w_of (x := r) (by omega) (by omega), i3, n_bs]
  show (if true = true then if m_t g 127 = 11 then if m_w (m_g g 127 23) = 4 then _ else if m_t g (m_g g 127 19) = 20 ∧ 0 ≤ m_w (m_g g 127 23) ∧ m_w (m_g g 127 23) < m_l g (m_g g 127 19) then some (m_p g (m_g g 127 19) (m_w (m_g g 127 23)) (w / 1000 - 50)) >>= _ else none else none else _) = _
  have W : m_w (m_g g 127 23) = m_g g 127 23 := m_w_of (by omega) (by omega)
  have G1 : (0 ≤ m_g g 127 23) = True := eq_true c1
  have G2 : (m_g g 127 23 < 4) = True := eq_true c2
  have G3 : (m_g g 127 23 = 4) = False := eq_false (by omega)
  have G4 : m_g g 127 23 + 1 - 1 = m_g g 127 23 := by omega
  clear I i1 i2 i3 e1 e2
  simp only [tM, t19, t20, t21, t22, l19, l20, l21, l22, p19, p20, p21, p22, W, G1, G2, G3, G4, n_bs, m_g_p, m_t_p, m_l_p, Int.reduceEq, Int.reduceLT, Int.reduceLE, ↓reduceIte, true_and, and_true, and_self, false_and, and_false, eq_self]
theorem n_machineC_n {h : m_H} {w s r : Int} (I : n_I h) (c1 : 0 ≤ m_g h 2 6) (c2 : m_g h 2 6 ≤ 4) (w1 : -2147483648 ≤ w) (w2 : w < 2147483648) (s1 : -2147483648 ≤ s) (s2 : s < 2147483648) (r1 : -2147483648 ≤ r) (r2 : r < 2147483648) (c : ¬ (0 ≤ w ∧ w / 1000 ≤ 100 ∧ w % 1000 ≤ 128 ∧ (0 ≤ s ∧ s ≤ 100) ∧ (0 ≤ r ∧ r ≤ 200) ∧ m_g h 2 6 < 4)) : t7_addMachine 2 w s r h = some (-1, h) := by
  have t2 := n_t2 I.2
  have t4 := n_t4 I.2
  have l4 := n_l4 I.2
  have p5 := n_p2_5 I.2
  unfold t7_addMachine
  rw [n_bs, n_bs, m_w_of (x := w) w1 w2]
  by_cases d1 : w < 0
  · rw [if_pos d1]
  have e1 : Int.tdiv w 1000 = w / 1000 := Int.tdiv_eq_ediv_of_nonneg (by omega)
  have e2 : Int.tmod w 1000 = w % 1000 := Int.tmod_eq_emod_of_nonneg (by omega)
  rw [if_neg d1, e1, e2, m_w_of (by omega) (by omega)]
  by_cases d2 : 50 < w / 1000 - 50
  · rw [if_pos d2]
  rw [if_neg d2, m_w_of (by omega) (by omega)]
  by_cases d3 : 128 < w % 1000
  · rw [if_pos d3]
  rw [if_neg d3, m_w_of s1 s2]
  by_cases d4 : s < 0
  · rw [if_pos d4]
  rw [if_neg d4]
  by_cases d5 : 100 < s
  · rw [if_pos d5]
  rw [if_neg d5, m_w_of r1 r2]
  by_cases d6 : r < 0
  · rw [if_pos d6]
  rw [if_neg d6]
  by_cases d7 : 200 < r
  · rw [if_pos d7]
  rw [if_neg d7, if_pos t2, p5, if_pos (by omega), l4, m_w_of (by omega) (by omega), m_w_of (by omega) (by omega), if_neg (by omega)]
theorem n_machineR_n {g : m_H} {w s r : Int} (I : n_I g) (c1 : 0 ≤ m_g g 127 23) (c2 : m_g g 127 23 ≤ 4) (w1 : -2147483648 ≤ w) (w2 : w < 2147483648) (s1 : -2147483648 ≤ s) (s2 : s < 2147483648) (r1 : -2147483648 ≤ r) (r2 : r < 2147483648) (c : ¬ (0 ≤ w ∧ w / 1000 ≤ 100 ∧ w % 1000 ≤ 128 ∧ (0 ≤ s ∧ s ≤ 100) ∧ (0 ≤ r ∧ r ≤ 200) ∧ m_g g 127 23 < 4)) : t11_machine 127 w s r g = some (-1, g) := by
  unfold t11_machine
  rw [m_w_of (x := w) w1 w2]
  by_cases d1 : w < 0
  · rw [if_pos d1]
  have e1 : Int.tdiv w 1000 = w / 1000 := Int.tdiv_eq_ediv_of_nonneg (by omega)
  have e2 : Int.tmod w 1000 = w % 1000 := Int.tmod_eq_emod_of_nonneg (by omega)
  rw [if_neg d1, e1, e2, m_w_of (by omega) (by omega), n_in (by omega) (by omega) (by omega) (by omega) (by omega) (by omega), n_bs]
  by_cases d2 : 0 ≤ w / 1000 ∧ w / 1000 ≤ 100
  · rw [decide_eq_true d2]
    show (if true = true then if 128 < m_w (w % 1000) then _ else t11_in (m_w s) 0 100 g >>= _ else _) = _
    rw [if_pos rfl, m_w_of (by omega) (by omega)]
    by_cases d3 : 128 < w % 1000
    · rw [if_pos d3]
    rw [if_neg d3, m_w_of s1 s2, n_in (by omega) (by omega) (by omega) (by omega) (by omega) (by omega), n_bs]
    by_cases d4 : 0 ≤ s ∧ s ≤ 100
    · rw [decide_eq_true d4]
      show (if true = true then t11_in (m_w r) 0 200 g >>= _ else _) = _
      rw [if_pos rfl, m_w_of r1 r2, n_in (by omega) (by omega) (by omega) (by omega) (by omega) (by omega), n_bs]
      by_cases d5 : 0 ≤ r ∧ r ≤ 200
      · rw [decide_eq_true d5]
        show (if true = true then if m_t g 127 = 11 then if m_w (m_g g 127 23) = 4 then _ else _ else none else _) = _
        rw [if_pos rfl, if_pos (n_t127 I.2), m_w_of (by omega) (by omega), if_pos (by omega)]
      · rw [decide_eq_false d5]
        rfl
    · rw [decide_eq_false d4]
      rfl
  · rw [decide_eq_false d2]
    rfl
theorem n_s_machine {h : m_H} {k : Int} (X : n_R h k) (w s r : Int) (w1 : -2147483648 ≤ w) (w2 : w < 2147483648) (s1 : -2147483648 ≤ s) (s2 : s < 2147483648) (r1 : -2147483648 ≤ r) (r2 : r < 2147483648) : n_step h k (t10_machine 1 w s r) (t11_machine 127 w s r) := by
  have X' := X
  obtain ⟨I, gs, bud, x1, x2, x3, x4, x5, x6, x7⟩ := X'
  have B := gs.1
  unfold n_shB at B
  have N := x3.1
  unfold n_shN at N
  unfold n_step t10_machine
  rw [if_pos (n_t1 I.2), n_p1_0 I.2, if_pos (n_t2 I.2)]
  by_cases c : 0 ≤ w ∧ w / 1000 ≤ 100 ∧ w % 1000 ≤ 128 ∧ (0 ≤ s ∧ s ≤ 100) ∧ (0 ≤ r ∧ r ≤ 200) ∧ m_g h 127 23 < 4
  · have hn := I.2.2.2.2
    have eC := n_addMachine (w := w) (s := s) (r := r) I (by omega) (by omega) c.1 w2 c.2.1 c.2.2.1 c.2.2.2.1 c.2.2.2.2.1
    generalize hd : w / 1000 - 50 = d at eC
    generalize hl : w % 1000 = l at eC
    have J := n_mc_I (d := d) (l := l) (s := s) (r := r) I
    have E : ∀ b j, b < m_n h → b ≠ 4 → ¬ (b = 2 ∧ j = 6) → m_g (n_mc h d l s r) b j = m_g h b j := fun b j q1 q2 q3 => by
      unfold n_mc
      rw [n_gp_n q3, n_gp_n (fun p => q2 p.1), n_gp_n (by omega), n_gp_n (by omega), n_gp_n (by omega), n_gp_n (by omega), m_g_a, if_neg (by omega)]
    have kd : ∀ b, b < m_n h → m_t (n_mc h d l s r) b = m_t h b ∧ m_l (n_mc h d l s r) b = m_l h b := fun b hb => by
      unfold n_mc
      simp only [m_t_p, m_l_p, m_t_a, m_l_a]
      rw [if_neg (by omega), if_neg (by omega)]
      exact ⟨rfl, rfl⟩
    have en : m_n (n_mc h d l s r) = m_n h + 1 := by unfold n_mc; simp only [m_n_p, m_n_a]
    have es : m_s (n_mc h d l s r) = m_s h + 4 := by unfold n_mc; simp only [m_s_p, m_s_a]
    have na : m_t (n_mc h d l s r) (m_n h) = 0 := by unfold n_mc; simp only [m_t_p, m_t_a, ↓reduceIte]
    have ne4 : ∀ j, m_g (n_mc h d l s r) 4 j = if j = m_g h 2 6 then m_n h else m_g h 4 j := fun j => by
      unfold n_mc
      rw [n_gp_n (by omega), m_g_p]
      by_cases q : j = m_g h 2 6
      · rw [if_pos ⟨rfl, q⟩, if_pos q]
      · rw [if_neg (fun p => q p.2), if_neg q, n_gp_n (by omega), n_gp_n (by omega), n_gp_n (by omega), n_gp_n (by omega), m_g_a, if_neg (by omega)]
    have ne2 : m_g (n_mc h d l s r) 2 6 = m_g h 2 6 + 1 := by unfold n_mc; rw [n_gp_y ⟨rfl, rfl⟩]
    have fa : m_g (n_mc h d l s r) (m_n h) 0 = d ∧ m_g (n_mc h d l s r) (m_n h) 1 = l ∧ m_g (n_mc h d l s r) (m_n h) 2 = s ∧ m_g (n_mc h d l s r) (m_n h) 3 = r := by
      unfold n_mc
      refine ⟨?_, ?_, ?_, ?_⟩
      · rw [n_gp_n (by omega), n_gp_n (by omega), n_gp_n (by omega), n_gp_n (by omega), n_gp_n (by omega), n_gp_y ⟨rfl, rfl⟩]
      · rw [n_gp_n (by omega), n_gp_n (by omega), n_gp_n (by omega), n_gp_n (by omega), n_gp_y ⟨rfl, rfl⟩]
      · rw [n_gp_n (by omega), n_gp_n (by omega), n_gp_n (by omega), n_gp_y ⟨rfl, rfl⟩]
      · rw [n_gp_n (by omega), n_gp_n (by omega), n_gp_y ⟨rfl, rfl⟩]
    have KP : n_kp h (n_mc h d l s r) [4, 2] [] := ⟨kd, by omega, fun b hb q1 _ _ j => by simp at q1; exact E b j hb q1.1 (fun p => q1.2 p.1), fun q hq => Or.inl (E q 0 (n_wf_lt I.1 hq).1 (fun e => by rw [e, n_t4 I.2] at hq; omega) (fun e => by omega))⟩
    have hA : ∀ b ∈ [(4 : Int), 2], n_sf h b ∧ (b < 127 ∨ 312 ≤ b) := n_in2 ⟨n_sfa I (by omega) (by rw [n_t4 I.2]; omega) (Or.inl (by rw [n_t4 I.2]; omega)), by omega⟩ ⟨n_sf2 I, by omega⟩
    have ref := fun b j (b1 : 127 ≤ b) (b2 : b < 312) => n_kp_ref I KP (fun b hb => (hA b hb).2) n_no b1 b2 j
    have G0 := n_gs_g (g' := n_mc h d l s r) gs (fun b j => ref b j)
    have e23 := ref 127 23 (by omega) (by omega)
    have eR := n_machineR (w := w) (s := s) (r := r) J (by omega) (by omega) c.1 w2 c.2.1 c.2.2.1 c.2.2.2.1 c.2.2.2.2.1
    rw [hd, hl] at eR
    generalize n_mc h d l s r = ha at *
    have KR : n_kr ha (n_mr ha d l s r) [142, 143, 144, 145] [23] := n_kr_mono (n_kr_trans (n_kr_trans (n_kr_trans (n_kr_trans (n_kr_p (by omega) (by omega)) (n_kr_p (by omega) (by omega))) (n_kr_p (by omega) (by omega))) (n_kr_p (by omega) (by omega))) n_kr_f) (by decide) (by decide) (by decide)
    have P := n_sp_of I KP KR hA n_no
    have J2 : n_I (n_mr ha d l s r) := n_kr_I J KR (fun b hb => by
      simp at hb
      rcases hb with e | e | e | e <;> rw [e]
      · exact Or.inl (n_t142 J.2)
      · exact Or.inl (n_t143 J.2)
      · exact Or.inl (n_t144 J.2)
      · exact Or.inl (n_t145 J.2)) rfl
    have Gn : ∀ b j, b ≠ 142 → b ≠ 143 → b ≠ 144 → b ≠ 145 → ¬ (b = 127 ∧ j = 23) → m_g (n_mr ha d l s r) b j = m_g ha b j := fun b j q1 q2 q3 q4 q5 => by
      unfold n_mr
      rw [n_gp_n q5, n_gp_n (fun p => q4 p.1), n_gp_n (fun p => q3 p.1), n_gp_n (fun p => q2 p.1), n_gp_n (fun p => q1 p.1)]
    have Gi : ∀ b j, j ≠ m_g ha 127 23 → b ≠ 127 → m_g (n_mr ha d l s r) b j = m_g ha b j := fun b j q1 q2 => by
      unfold n_mr
      rw [n_gp_n (fun p => q2 p.1), n_gp_n (fun p => q1 p.2), n_gp_n (fun p => q1 p.2), n_gp_n (fun p => q1 p.2), n_gp_n (fun p => q1 p.2)]
    have G23 : m_g (n_mr ha d l s r) 127 23 = m_g ha 127 23 + 1 := by unfold n_mr; rw [n_gp_y ⟨rfl, rfl⟩]
    have gnew : m_g (n_mr ha d l s r) 142 (m_g ha 127 23) = d ∧ m_g (n_mr ha d l s r) 143 (m_g ha 127 23) = l ∧ m_g (n_mr ha d l s r) 144 (m_g ha 127 23) = s ∧ m_g (n_mr ha d l s r) 145 (m_g ha 127 23) = r := by
      unfold n_mr
      refine ⟨?_, ?_, ?_, ?_⟩
      · rw [n_gp_n (by omega), n_gp_n (by omega), n_gp_n (by omega), n_gp_n (by omega), n_gp_y ⟨rfl, rfl⟩]
      · rw [n_gp_n (by omega), n_gp_n (by omega), n_gp_n (by omega), n_gp_y ⟨rfl, rfl⟩]
      · rw [n_gp_n (by omega), n_gp_n (by omega), n_gp_y ⟨rfl, rfl⟩]
      · rw [n_gp_n (by omega), n_gp_y ⟨rfl, rfl⟩]
    have C := fun b j (hb : b < 127 ∨ 312 ≤ b) => n_kr_comp KR hb j
    have T2 := n_e2t KR.1
    generalize n_mr ha d l s r = hb at *
    obtain ⟨g0, g1, g2, g3, g4, g5, g6, g7⟩ := n_fr X P
    have HB : ∀ b j, 127 ≤ b → b < 312 → b ≠ 142 → b ≠ 143 → b ≠ 144 → b ≠ 145 → ¬ (b = 127 ∧ j = 23) → m_g hb b j = m_g h b j := fun b j b1 b2 q1 q2 q3 q4 q5 => (Gn b j q1 q2 q3 q4 q5).trans (ref b j b1 b2)
    have HI : ∀ b j, 127 < b → b < 312 → j ≠ m_g h 127 23 → m_g hb b j = m_g h b j := fun b j b1 b2 q1 => (Gi b j (by omega) (by omega)).trans (ref b j (by omega) b2)
    have HC : ∀ b j, (b < 127 ∨ 312 ≤ b) → b < m_n h → b ≠ 4 → ¬ (b = 2 ∧ j = 6) → m_g hb b j = m_g h b j := fun b j b0 b1 b2 b3 => (C b j b0).trans (E b j b1 b2 b3)
    have GS : n_gs hb := by
      obtain ⟨q1, q2, q3, q4, q5, q6⟩ := gs
      refine ⟨?_, fun i i1 i2 => ?_, fun i i1 i2 => ?_, fun j j1 j2 => ?_, fun i j i1 ij j2 => ?_, fun j j1 j2 => ?_⟩
      · unfold n_shB
        rw [HB 127 14 (by omega) (by omega) (by omega) (by omega) (by omega) (by omega) (by omega), HB 127 15 (by omega) (by omega) (by omega) (by omega) (by omega) (by omega) (by omega), HB 127 18 (by omega) (by omega) (by omega) (by omega) (by omega) (by omega) (by omega), HB 127 17 (by omega) (by omega) (by omega) (by omega) (by omega) (by omega) (by omega), HB 127 27 (by omega) (by omega) (by omega) (by omega) (by omega) (by omega) (by omega)]
        omega
      · rw [HB 127 14 (by decide) (by decide) (by decide) (by decide) (by decide) (by decide) (by decide)] at i2
        have := q2 i i1 i2
        unfold n_strB at this ⊢
        simp (disch := decide) only [HB]
        have h2 := fun b (b1 : 127 < b) (b2 : b ≤ 141) => HB b i (by omega) (by omega) (by omega) (by omega) (by omega) (by omega) (by omega)
        rw [h2 130 (by decide) (by decide), h2 131 (by decide) (by decide), h2 132 (by decide) (by decide), h2 133 (by decide) (by decide), h2 134 (by decide) (by decide), h2 135 (by decide) (by decide), h2 136 (by decide) (by decide), h2 137 (by decide) (by decide), h2 138 (by decide) (by decide), h2 139 (by decide) (by decide), h2 140 (by decide) (by decide), h2 141 (by decide) (by decide)]
        exact this
      · by_cases ci : i = m_g h 127 23
        · rw [e23] at gnew
          unfold n_macB
          rw [ci]
          omega
        · have := q3 i i1 (by omega)
          unfold n_macB at this ⊢
          rw [HI 142 i (by decide) (by decide) ci, HI 143 i (by decide) (by decide) ci, HI 144 i (by decide) (by decide) ci, HI 145 i (by decide) (by decide) ci]
          exact this
      · rw [HB 127 15 (by decide) (by decide) (by decide) (by decide) (by decide) (by decide) (by decide)] at j2
        rw [HB 128 j (by decide) (by decide) (by decide) (by decide) (by decide) (by decide) (fun q => absurd q.1 (by decide))]
        exact q4 j j1 j2
      · rw [HB 127 14 (by decide) (by decide) (by decide) (by decide) (by decide) (by decide) (by decide)] at j2
        rw [HB 137 i (by decide) (by decide) (by decide) (by decide) (by decide) (by decide) (fun q => absurd q.1 (by decide)), HB 137 j (by decide) (by decide) (by decide) (by decide) (by decide) (by decide) (fun q => absurd q.1 (by decide))]
        exact q5 i j i1 ij j2
      · rw [HB 127 27 (by decide) (by decide) (by decide) (by decide) (by decide) (by decide) (by decide)] at j2
        rw [HB 127 14 (by decide) (by decide) (by decide) (by decide) (by decide) (by decide) (by decide), HB 146 j (by decide) (by decide) (by decide) (by decide) (by decide) (by decide) (fun q => absurd q.1 (by decide)), HB 147 j (by decide) (by decide) (by decide) (by decide) (by decide) (by decide) (fun q => absurd q.1 (by decide)), HB 148 j (by decide) (by decide) (by decide) (by decide) (by decide) (by decide) (fun q => absurd q.1 (by decide))]
        exact q6 j j1 j2
    have h2 := fun b (b1 : 127 < b) (b2 : b ≤ 141 ∨ (146 ≤ b ∧ b < 312)) j => HB b j (by omega) (by omega) (by omega) (by omega) (by omega) (by omega) (by omega)
    have H14 := HB 127 14 (by decide) (by decide) (by decide) (by decide) (by decide) (by decide) (by decide)
    have H85 := HB 127 85 (by decide) (by decide) (by decide) (by decide) (by decide) (by decide) (by decide)
    have H23 : m_g hb 127 23 = m_g h 127 23 + 1 := by rw [G23, e23]
    have RS : n_Rsh hb hb := by
      obtain ⟨S1, S2, S3, S4⟩ := x3
      refine ⟨?_, fun i i1 i2 => ?_, fun i i1 i2 => ?_, fun j j1 j2 => ?_⟩
      · unfold n_shN
        rw [HC 2 1 (by omega) (by omega) (by decide) (by decide), HC 2 2 (by omega) (by omega) (by decide) (by decide), HC 2 3 (by omega) (by omega) (by decide) (by decide), HC 2 4 (by omega) (by omega) (by decide) (by decide), HC 2 10 (by omega) (by omega) (by decide) (by decide), H14, HB 127 15 (by decide) (by decide) (by decide) (by decide) (by decide) (by decide) (by decide), HB 127 18 (by decide) (by decide) (by decide) (by decide) (by decide) (by decide) (by decide), HB 127 17 (by decide) (by decide) (by decide) (by decide) (by decide) (by decide) (by decide), HB 127 27 (by decide) (by decide) (by decide) (by decide) (by decide) (by decide) (by decide), H23, C 2 6 (by omega), ne2, N.2.2.2.2.1]
        exact ⟨N.1, N.2.1, N.2.2.1, N.2.2.2.1, rfl, N.2.2.2.2.2⟩
      · rw [H14] at i2
        have X := S2 i i1 i2
        rw [HC 3 i (by omega) (by omega) (by decide) (fun q => absurd q.1 (by decide))]
        generalize m_g h 3 i = q at *
        unfold n_strip at X ⊢
        have lq := I.1.1 q (by omega)
        have lr := n_wf_lt I.1 X.1.2.2.1
        have k20 := (n_wf_row I.1 X.1.2.2.1).2.1
        have rr := n_ref_row I X.1.2.2.1
        have t4' := n_t4 I.2
        have t2' := n_t2 I.2
        have Hq := fun j => HC q j (Or.inr X.1.2.1) lq.2 (by omega) (by omega)
        have Hr := fun j => HC (m_g h q 3) j (Or.inr X.1.2.2.2) lr.1 (by omega) (by omega)
        have Ha := fun j => HC (m_g h (m_g h q 3) 0) j rr.2 lr.2.1 (fun e => by rw [e] at k20; omega) (fun e => by rw [e.1] at k20; omega)
        have hrg : ∀ j, n_rg hb (m_g h q 3) j = n_rg h (m_g h q 3) j := fun j => by unfold n_rg; rw [Hr, Hr, Ha]
        simp only [Hq, Hr, hrg, T2, (kd q lq.2).1, (kd _ lr.1).1, h2 128 (by decide) (by decide), h2 130 (by decide) (by decide), h2 131 (by decide) (by decide), h2 132 (by decide) (by decide), h2 133 (by decide) (by decide), h2 134 (by decide) (by decide), h2 135 (by decide) (by decide), h2 136 (by decide) (by decide), h2 137 (by decide) (by decide), h2 138 (by decide) (by decide), h2 139 (by decide) (by decide), h2 140 (by decide) (by decide), h2 141 (by decide) (by decide)]
        exact X
      · by_cases ci : i = m_g h 127 23
        · rw [C 4 i (by omega), ne4, if_pos (by omega), ci]
          unfold n_mach
          rw [C _ _ (Or.inr hn), C _ _ (Or.inr hn), C _ _ (Or.inr hn), C _ _ (Or.inr hn), T2]
          rw [e23] at gnew
          refine ⟨⟨na, hn⟩, by omega, by omega, by omega, by omega⟩
        · have X := S3 i i1 (by omega)
          rw [C 4 i (by omega), ne4, if_neg (by omega)]
          generalize m_g h 4 i = q at *
          unfold n_mach at X ⊢
          have lq := I.1.1 q (by omega)
          have Hq := fun j => HC q j (Or.inr X.1.2) lq.2 (by omega) (by omega)
          rw [Hq, Hq, Hq, Hq, T2, (kd q lq.2).1, HI 142 i (by decide) (by decide) ci, HI 143 i (by decide) (by decide) ci, HI 144 i (by decide) (by decide) ci, HI 145 i (by decide) (by decide) ci]
          exact X
      · rw [HB 127 27 (by decide) (by decide) (by decide) (by decide) (by decide) (by decide) (by decide)] at j2
        rw [HC 5 j (by omega) (by omega) (by decide) (fun q => absurd q.1 (by decide)), HC 6 j (by omega) (by omega) (by decide) (fun q => absurd q.1 (by decide)), HC 7 j (by omega) (by omega) (by decide) (fun q => absurd q.1 (by decide)), h2 146 (by decide) (by decide), h2 147 (by decide) (by decide), h2 148 (by decide) (by decide)]
        exact S4 j j1 j2
    have Ph : n_phi ha = n_phi h := n_phi_eq (fun q hq => by
      have t := n_rows_t I.2 hq
      have l := n_wf_lt I.1 t.1
      unfold n_cap
      rw [E q 0 l.1 (fun e => by rw [e, n_t4 I.2] at t; omega) (fun e => by omega), (kd _ l.2.1).2])
    have Ba : n_bud ha (k + 1) := by unfold n_bud at *; omega
    have Bb : n_bud hb (k + 1) := n_bud_same J KR.1 (fun r hr => C r 0 (n_ref_row J hr).1) Ba
    have Rm := n_Rm_old (h := h) (h' := hb) (k := k) (HC 121 11 (by omega) (by omega) (by decide) (by decide)) (HC 121 12 (by omega) (by omega) (by decide) (by decide)) (HC 2 11 (by omega) (by omega) (by decide) (by decide)) (fun t => HC 124 t (by omega) (by omega) (by decide) (fun q => absurd q.1 (by decide))) H14 H85 (h2 308 (by decide) (by decide)) (h2 128 (by decide) (by decide)) (h2 130 (by decide) (by decide)) (h2 131 (by decide) (by decide)) (h2 133 (by decide) (by decide)) x7
    have PC : n_Rpc hb hb := n_Rpc_sp I P (fun q q1 q2 => ⟨n_nosc_S P (by decide) q1 (by have := x5.2.2.1; omega), HC 19 q (by omega) (by omega) (by decide) (fun q => absurd q.1 (by decide))⟩) (by rw [n_sp_f P (by decide)]; exact Int.le_refl _) (by omega) (fun j j1 j2 => HI 142 j (by decide) (by decide) (by omega)) (by decide) (by decide) (by decide) (by decide) (fun q o q1 q2 o1 o2 => (x5.2.2.2.1 q q1 q2).2.2.2.2.2 o o1 o2) x6
    refine ⟨m_g h 2 6, ha, m_g ha 127 23, hb, by rw [eC, n_bs], eR, by rw [e23, N.2.2.2.2.1], J2, GS, Bb, g1 (by decide) (by decide) (by decide), g2 (by decide) (by decide) (by decide), RS, g4 (by decide) (by decide) (by decide) (by decide), g5 (by decide) (by decide) (n_in2 ⟨by decide, by decide, Or.inl (by decide)⟩ ⟨by decide, by decide, Or.inl (by decide)⟩), PC, Rm⟩
  · refine ⟨-1, h, -1, h, ?_, n_machineR_n I (by omega) (by omega) w1 w2 s1 s2 r1 r2 c, rfl, n_R_more X⟩
    rw [n_machineC_n I (by omega) (by omega) w1 w2 s1 s2 r1 r2 (by rw [N.2.2.2.2.1]; exact c), n_bs]
