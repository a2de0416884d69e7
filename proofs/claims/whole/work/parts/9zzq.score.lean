/-! CALLS: score: the component writes a score -/
theorem n_copyC {x : m_H} (I : n_I x) {o : Int} (o0 : 0 ≤ o) (o1 : o ≤ 40) : ∃ y, tJ7_copyOf_59c91 16 (o * 8) (m_a x 6 4) = some (m_n x + 1, y) ∧ m_n y = m_n x + 2 ∧ m_s y = m_s x + 4 + 8 * o ∧ (∀ b, m_t y b = if b = m_n x + 1 then 20 else if b = m_n x then 6 else m_t x b) ∧ (∀ b, m_l y b = if b = m_n x + 1 then 8 * o else if b = m_n x then 4 else m_l x b) ∧ (∀ b j, b ≠ m_n x → b ≠ m_n x + 1 → m_g y b j = m_g x b j) ∧ (∀ j, m_g y (m_n x) j = 0) ∧ ∀ j, 0 ≤ j → j < 8 * o → m_g y (m_n x + 1) j = m_g x 16 j := by
  have hn := I.2.2.2.2
  have t16 : m_t (m_a x 6 4) 16 = 20 := by rw [m_t_a, if_neg (by omega)]; exact n_t16 I.2
  have l16 : m_l (m_a x 6 4) 16 = 320 := by rw [m_l_a, if_neg (by omega)]; exact n_l16 I.2
  have g16 : ∀ j, m_g (m_a x 6 4) 16 j = m_g x 16 j := fun j => by rw [m_g_a, if_neg (by omega)]
  have en : m_n (m_a x 6 4) = m_n x + 1 := m_n_a _ _ _
  unfold tJ7_copyOf_59c91
  rw [if_pos (by omega), l16, m_w_of (x := o * 8) (by omega) (by omega), m_w_of (x := 320) (by omega) (by omega)]
  by_cases c : o = 40
  · rw [if_pos (by omega), if_pos (by omega), n_bs, if_pos (by rw [m_t_dp, if_pos rfl]), en]
    refine ⟨_, rfl, by rw [m_n_dp, en]; omega, ?_, fun b => ?_, fun b => ?_, fun b j h1 h2 => ?_, fun j => ?_, fun j j0 j1 => ?_⟩
    · show m_s (m_a x 6 4) + m_l (m_a x 6 4) 16 = _
      rw [l16, m_s_a]; omega
    · rw [m_t_dp, en, m_t_a]
    · rw [m_l_dp, en, l16, m_l_a, show (320 : Int) = 8 * o by omega]
    · rw [m_g_dp, en, if_neg h2, m_g_a, if_neg h1]
    · rw [m_g_dp, en, if_neg (by omega), m_g_a, if_pos rfl]
    · rw [m_g_dp, en, if_pos rfl, g16]
  · have t16' : m_t (m_a (m_a x 6 4) 20 (o * 8)) 16 = 20 := by rw [m_t_a, if_neg (by omega)]; exact t16
    have l16' : m_l (m_a (m_a x 6 4) 20 (o * 8)) 16 = 320 := by rw [m_l_a, if_neg (by omega)]; exact l16
    have tn : m_t (m_a (m_a x 6 4) 20 (o * 8)) (m_n x + 1) = 20 := by rw [m_t_a, en, if_pos rfl]
    have ln : m_l (m_a (m_a x 6 4) 20 (o * 8)) (m_n x + 1) = o * 8 := by rw [m_l_a, en, if_pos rfl]
    rw [if_neg (by omega), if_pos (by omega), n_bs, n_bs, en, if_pos (by omega), l16', n_min (by omega) (by omega) (by omega) (by omega), m_w_of (x := 0) (by omega) (by omega), m_w_of (x := min 320 (o * 8)) (by omega) (by omega), tn, ln, if_pos ⟨t16', rfl, by omega, by omega, by omega, by omega, by omega⟩, n_bs]
    refine ⟨_, rfl, ?_, ?_, fun b => ?_, fun b => ?_, fun b j h1 h2 => ?_, fun j => ?_, fun j j0 j1 => ?_⟩
    · rw [m_n_cp, m_n_a, en]; omega
    · rw [m_s_cp, m_s_a, m_s_a]; omega
    · rw [m_t_cp, m_t_a, en, m_t_a]
    · rw [m_l_cp, m_l_a, en, m_l_a, show o * 8 = 8 * o by omega]
    · rw [m_g_cp, if_neg (by omega), m_g_a, en, if_neg h2, m_g_a, if_neg h1]
    · rw [m_g_cp, if_neg (by omega), m_g_a, en, if_neg (by omega), m_g_a, if_pos rfl]
    · rw [m_g_cp, if_pos ⟨rfl, by omega, by omega⟩, m_g_a, en, if_neg (by omega), show 0 + (j - 0) = j by omega]
      exact g16 j
/-- what the component's heap is when a score of o orders has been written -/
def n_wrt (x z : m_H) (o : Int) : Prop := m_n z = m_n x + 3 ∧ m_s z = m_s x + 44 + 8 * o ∧ (∀ b, m_t z b = if b = m_n x + 2 then 20 else if b = m_n x + 1 then 20 else if b = m_n x then 6 else m_t x b) ∧ (∀ b, m_l z b = if b = m_n x + 2 then 40 else if b = m_n x + 1 then 8 * o else if b = m_n x then 4 else m_l x b) ∧ (∀ b j, b < m_n x → m_g z b j = m_g x b j) ∧ (m_g z (m_n x) 0 = m_n x + 1 ∧ m_g z (m_n x) 1 = o ∧ m_g z (m_n x) 2 = 0 ∧ m_g z (m_n x) 3 = m_n x + 2) ∧ ∀ j, 0 ≤ j → j < 8 * o → m_g z (m_n x + 1) j = m_g x 16 j
theorem n_writtenC {x : m_H} (I : n_I x) {o : Int} (eo : m_g x 15 1 = o) (o0 : 0 ≤ o) (o1 : o ≤ 40) : ∃ z, t4_written 10 x = some (m_n x, z) ∧ n_wrt x z o := by
  have hn := I.2.2.2.2
  obtain ⟨y, e1, yn, ys, yt, yl, yo, ya, yc⟩ := n_copyC I o0 o1
  have a10 : m_t (m_a x 6 4) 10 = 4 := by rw [m_t_a, if_neg (by omega)]; exact n_t10 I.2
  have a15 : m_t (m_a x 6 4) 15 = 6 := by rw [m_t_a, if_neg (by omega)]; exact n_t15 I.2
  have ag : ∀ b j, b < m_n x → m_g (m_a x 6 4) b j = m_g x b j := fun b j hb => by rw [m_g_a, if_neg (by omega)]
  have y10 : m_t y 10 = 4 := by rw [yt, if_neg (by omega), if_neg (by omega)]; exact n_t10 I.2
  have y15 : m_t y 15 = 6 := by rw [yt, if_neg (by omega), if_neg (by omega)]; exact n_t15 I.2
  have yn6 : m_t y (m_n x) = 6 := by rw [yt, if_neg (by omega), if_pos rfl]
  have z6 : ∀ h : m_H, m_t h (m_n x) = 6 → m_t h (m_n x) = 6 := fun _ q => q
  have tz : m_t (m_a y 20 40) (m_n x) = 6 := by rw [m_t_a, if_neg (by omega)]; exact yn6
  refine ⟨m_p (m_p (m_p (m_a y 20 40) (m_n x) 3 (m_n y)) (m_n x) 0 (m_n x + 1)) (m_n x) 1 o, ?_, by rw [m_n_p, m_n_p, m_n_p, m_n_a]; omega, by rw [m_s_p, m_s_p, m_s_p, m_s_a]; omega, fun b => ?_, fun b => ?_, fun b j hb => ?_, ?_, fun j j0 j1 => ?_⟩
  · unfold t4_written
    rw [n_bs, if_pos a10, ag 10 8 (by omega), n_p10_8 I.2, if_pos a15, ag 15 0 (by omega), n_p15_0 I.2, ag 15 1 (by omega), eo, e1, n_bs]
    dsimp only
    rw [if_pos y10, yo 10 8 (by omega) (by omega), n_p10_8 I.2, if_pos y15, if_pos (by omega), yo 15 1 (by omega) (by omega), eo]
    unfold t6_init
    rw [if_pos (by omega), n_bs, if_pos tz, n_bs, if_pos (by rw [m_t_p]; exact tz), n_bs, if_pos (by rw [m_t_p, m_t_p]; exact tz), n_bs, n_bs]
  · rw [m_t_p, m_t_p, m_t_p, m_t_a, yn, yt]
  · rw [m_l_p, m_l_p, m_l_p, m_l_a, yn, yl]
  · rw [n_gp_n (by omega), n_gp_n (by omega), n_gp_n (by omega), m_g_a, if_neg (by omega)]
    exact yo b j (by omega) (by omega)
  · refine ⟨by rw [n_gp_n (by omega), n_gp_y ⟨rfl, rfl⟩], n_gp_y ⟨rfl, rfl⟩, ?_, by rw [n_gp_n (by omega), n_gp_n (by omega), n_gp_y ⟨rfl, rfl⟩, yn]⟩
    rw [n_gp_n (by omega), n_gp_n (by omega), n_gp_n (by omega), m_g_a, if_neg (by omega)]
    exact ya 2
  · rw [n_gp_n (by omega), n_gp_n (by omega), n_gp_n (by omega), m_g_a, if_neg (by omega)]
    exact yc j j0 j1
theorem n_wrt_I {x z : m_H} {o : Int} (I : n_I x) (Z : n_wrt x z o) (o0 : 0 ≤ o) (o1 : o ≤ 40) : n_I z := by
  obtain ⟨zn, zs, T, L, O, ⟨z0, z1, z2, z3⟩, zc⟩ := Z
  obtain ⟨W, F⟩ := I
  have hn := F.2.2.2
  have W' := W
  obtain ⟨w1, w2, w3, w4, w5⟩ := W'
  have fresh : ∀ b, m_n x ≤ b → m_t x b = -1 := fun b hb => by
    by_cases c : m_t x b = -1
    · exact c
    · have := w1 b c; omega
  have old : ∀ b, b < m_n x → m_t z b = m_t x b ∧ m_l z b = m_l x b := fun b hb => by
    rw [T, L, if_neg (by omega), if_neg (by omega), if_neg (by omega), if_neg (by omega), if_neg (by omega), if_neg (by omega)]
    exact ⟨rfl, rfl⟩
  have t0 : m_t z (m_n x) = 6 := by rw [T, if_neg (by omega), if_neg (by omega), if_pos rfl]
  have t1 : m_t z (m_n x + 1) = 20 := by rw [T, if_neg (by omega), if_pos rfl]
  have t2 : m_t z (m_n x + 2) = 20 := by rw [T, if_pos rfl]
  have l1 : m_l z (m_n x + 1) = 8 * o := by rw [L, if_neg (by omega), if_pos rfl]
  have l2 : m_l z (m_n x + 2) = 40 := by rw [L, if_pos rfl]
  have kd : ∀ r, m_t z r = 5 → r < m_n x ∧ m_t x r = 5 := fun r hr => by
    by_cases c : r < m_n x
    · exact ⟨c, by rw [← (old r c).1]; exact hr⟩
    · by_cases c1 : r = m_n x
      · rw [c1] at hr; omega
      · by_cases c2 : r = m_n x + 1
        · rw [c2] at hr; omega
        · by_cases c3 : r = m_n x + 2
          · rw [c3] at hr; omega
          · rw [T, if_neg c3, if_neg c2, if_neg c1] at hr
            have := fresh r (by omega)
            omega
  refine ⟨⟨fun a ha => ?_, by omega, fun r hr => ?_, fun r q hr hq hne => ?_, fun s hs => ?_⟩, n_fx_of F (by omega) (fun a h1 h2 => old a (by omega)) (fun a k hk => O a k (by have := (n_key_t F hk).1; omega))⟩
  · by_cases c : a < m_n x
    · have := w1 a (by rw [← (old a c).1]; exact ha); omega
    · by_cases c1 : a ≤ m_n x + 2
      · omega
      · rw [T, if_neg (by omega), if_neg (by omega), if_neg (by omega)] at ha
        exact absurd (fresh a (by omega)) ha
  · obtain ⟨e1, e2⟩ := kd r hr
    have q := w3 r e2
    have l := n_wf_lt W e2
    unfold n_row n_cap at q ⊢
    rw [O r 0 e1, O r 1 e1, (old r e1).1, (old _ l.2.1).1, (old _ l.2.1).2]
    exact q
  · obtain ⟨e1, e2⟩ := kd r hr
    obtain ⟨f1, f2⟩ := kd q hq
    rw [O r 0 e1, O q 0 f1]
    exact w4 r q e2 f2 hne
  · by_cases c : s = m_n x
    · rw [c, z0, z3]
      refine ⟨t1, t2, l2, by omega, fun r hr => ?_⟩
      obtain ⟨e1, e2⟩ := kd r hr
      have l := n_wf_lt W e2
      rw [O r 0 e1]
      omega
    · have s1 : s < m_n x := by
        by_cases c1 : s < m_n x
        · exact c1
        · by_cases c2 : s = m_n x + 1
          · rw [c2] at hs; omega
          · by_cases c3 : s = m_n x + 2
            · rw [c3] at hs; omega
            · rw [T, if_neg c3, if_neg c2, if_neg c] at hs
              have := fresh s (by omega)
              omega
      have e2 : m_t x s = 6 := by rw [← (old s s1).1]; exact hs
      obtain ⟨q1, q2, q3, q4, q5⟩ := w5 s e2
      have l0 := w1 (m_g x s 0) (by omega)
      have l3 := w1 (m_g x s 3) (by omega)
      rw [O s 0 s1, O s 3 s1, (old _ l0.2).1, (old _ l3.2).1, (old _ l3.2).2, (old _ l0.2).2]
      refine ⟨q1, q2, q3, q4, fun r hr => ?_⟩
      obtain ⟨f1, f2⟩ := kd r hr
      rw [O r 0 f1]; exact q5 r f2
theorem n_key19 (k : Int) : n_key 19 k = false := by
  unfold n_key
  rw [Bool.or_eq_false_iff]
  constructor
  · rw [List.any_eq_false]
    intro q hq
    have A : (n_ptr.all (fun q => decide (q.1 ≠ 19))) = true := by decide +kernel
    rw [List.all_eq_true] at A
    have := decide_eq_true_eq.mp (A q hq)
    simp [this]
  · decide +kernel
