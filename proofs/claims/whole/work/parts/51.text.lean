/-! CALLS: feed, end -/
theorem n_and255 (a : Int) : m_and a 255 = m_w a % 256 := by
  have e1 := n_tN (Int32.ofInt a &&& Int32.ofInt 255)
  have e2 := n_tN (Int32.ofInt a)
  rw [m_w_i] at e2
  unfold m_and
  have h : (Int32.ofInt a &&& Int32.ofInt 255).toBitVec.toNat = (Int32.ofInt a).toBitVec.toNat % 256 := by
    have : (Int32.ofInt a &&& Int32.ofInt 255).toBitVec = (Int32.ofInt a).toBitVec &&& (Int32.ofInt 255).toBitVec := rfl
    rw [this, BitVec.toNat_and]
    have e : (Int32.ofInt 255).toBitVec.toNat = 2 ^ 8 - 1 := by decide +kernel
    rw [e, Nat.and_two_pow_sub_one_eq_mod]
  rw [e1, h]
  have hb := (Int32.ofInt a).toBitVec.isLt
  generalize (Int32.ofInt a).toBitVec.toNat = n at *
  rw [if_pos (by omega)]
  split at e2 <;> omega
theorem n_ushr0 (a : Int) : m_ushr a 0 = m_w a := by
  unfold m_ushr
  have : ((Int32.ofInt a).toUInt32 >>> ((Int32.ofInt 0).toUInt32 &&& Int32.toUInt32 31)).toInt32 = Int32.ofInt a := by
    have e : ((Int32.ofInt 0).toUInt32 &&& Int32.toUInt32 31) = 0 := by decide +kernel
    rw [e]
    have e2 : (Int32.ofInt a).toUInt32 >>> (0 : UInt32) = (Int32.ofInt a).toUInt32 := by
      apply UInt32.toBitVec_inj.mp
      rw [UInt32.toBitVec_shiftRight]
      simp
    rw [e2]
    rfl
  rw [this, m_w_i]
theorem n_ush24 (a : Int) : m_ushr a 24 = (m_w a % 4294967296) / 16777216 := by rw [n_ushr a 24 24 (by decide +kernel) (by omega)]; rfl
theorem n_ush16 (a : Int) : m_ushr a 16 = (m_w a % 4294967296) / 65536 := by rw [n_ushr a 16 16 (by decide +kernel) (by omega)]; rfl
theorem n_ush8 (a : Int) : m_ushr a 8 = (m_w a % 4294967296) / 256 := by rw [n_ushr a 8 8 (by decide +kernel) (by omega)]; rfl
/-- byte k of a number -/
def n_by (a : Int) (k : Int) : Int := if k = 3 then (m_w a % 4294967296) / 16777216 else if k = 2 then (m_w a % 4294967296) / 65536 % 256 else if k = 1 then (m_w a % 4294967296) / 256 % 256 else m_w a % 256
theorem n_by_b (a k : Int) : 0 ≤ n_by a k ∧ n_by a k ≤ 255 := by
  have := m_w_lo a
  have := m_w_hi a
  unfold n_by
  split
  · omega
  · split
    · omega
    · split <;> omega
theorem n_byC (a : Int) : m_ushr a 24 = n_by a 3 ∧ m_and (m_ushr a 16) 255 = n_by a 2 ∧ m_and (m_ushr a 8) 255 = n_by a 1 ∧ m_and a 255 = n_by a 0 := by
  have := m_w_lo a
  have := m_w_hi a
  unfold n_by
  rw [n_and255, n_and255, n_and255, n_ush24, n_ush16, n_ush8]
  refine ⟨rfl, ?_, ?_, rfl⟩
  · rw [m_w_of (by omega) (by omega)]; rfl
  · rw [m_w_of (by omega) (by omega)]; rfl
theorem n_byR (a k : Int) (hk : k = 3 ∨ k = 2 ∨ k = 1 ∨ k = 0) : m_i2b (m_i2b (m_ushr a (8 * k))) = if n_by a k < 128 then n_by a k else n_by a k - 256 := by
  have := m_w_lo a
  have := m_w_hi a
  rw [n_i2b, n_i2b]
  unfold n_by
  rcases hk with e | e | e | e <;> subst e
  · rw [show (8 : Int) * 3 = 24 from rfl, n_ush24]
    simp only [Int.reduceEq, ↓reduceIte]
    split <;> omega
  · rw [show (8 : Int) * 2 = 16 from rfl, n_ush16]
    simp only [Int.reduceEq, ↓reduceIte]
    split <;> omega
  · rw [show (8 : Int) * 1 = 8 from rfl, n_ush8]
    simp only [Int.reduceEq, ↓reduceIte]
    split <;> omega
  · rw [show (8 : Int) * 0 = 0 from rfl, n_ushr0]
    simp only [Int.reduceEq, ↓reduceIte]
    split <;> omega
def n_ab (h : m_H) (b : Int) : m_H := m_p (m_p h 11 (m_g h 10 1) b) 10 1 (m_g h 10 1 + 1)
def n_fb (g : m_H) (b : Int) : m_H := m_p (m_p g 150 (m_g g 127 30) (if b < 128 then b else b - 256)) 127 30 (m_g g 127 30 + 1)
theorem n_ab_I {h : m_H} {b : Int} (I : n_I h) : n_I (n_ab h b) := n_I_p (n_I_pa I (Or.inl (n_t11 I.2))) (by rw [m_t_p, n_t10 I.2]; omega) (fun e => by rw [m_t_p, n_t10 I.2] at e; omega) rfl
theorem n_fb_I {g : m_H} {b : Int} (I : n_I g) : n_I (n_fb g b) := n_I_p (n_I_pa I (Or.inr (Or.inr (Or.inl (n_t150 I.2))))) (by rw [m_t_p, n_t127 I.2]; omega) (fun e => by rw [m_t_p, n_t127 I.2] at e; omega) rfl
theorem n_ab_e {h : m_H} {b : Int} (I : n_I h) (h1 : 0 ≤ m_g h 10 1) (h2 : m_g h 10 1 < 1200) : t4_addByte 10 b h = some ((), n_ab h b) := by
  have t := n_t10 I.2
  have ta := n_t11 I.2
  have l := n_l11 I.2
  have p := n_p10_0 I.2
  clear I
  unfold t4_addByte n_ab
  simp (disch := omega) only [m_w_of, n_ltT, n_ltF, n_leT, n_leF, n_eqT, n_eqF, n_bs, n_bn, ↓reduceIte, true_and, and_true, and_self, false_and, and_false, or_true, true_or, or_false, false_or, not_true_eq_false, not_false_eq_true, Bool.false_eq_true, reduceCtorEq, eq_self, m_g_p, m_t_p, m_l_p, m_n_p, m_s_p, n_g_fl, n_t_fl, n_l_fl, n_n_fl, n_s_fl, p]
theorem n_ab_kp {h : m_H} {b : Int} (I : n_I h) : n_kp h (n_ab h b) [11, 10] [] := n_kp_trans (n_kp_p (by rw [n_t11 I.2]; omega)) (n_kp_p (by rw [m_t_p, n_t10 I.2]; omega)) I.1 n_no
theorem n_fb_kr (g : m_H) (b : Int) : n_kr g (n_fb g b) [150] [30] := n_kr_trans (n_kr_p (by omega) (by omega)) n_kr_f
theorem n_byte {h g : m_H} {b : Int} (X : n_Rread h g) (hl : m_g g 127 30 < 1200) (hb : 0 ≤ b ∧ b ≤ 255) : n_Rread (n_ab h b) (n_fb g b) := by
  obtain ⟨x1, x2, x3, x4⟩ := X
  have e1 : m_g (n_ab h b) 10 1 = m_g h 10 1 + 1 := by unfold n_ab; rw [n_gp_y ⟨rfl, rfl⟩]
  have e2 : m_g (n_fb g b) 127 30 = m_g g 127 30 + 1 := by unfold n_fb; rw [n_gp_y ⟨rfl, rfl⟩]
  have e3 : ∀ j, m_g (n_ab h b) 11 j = if j = m_g h 10 1 then b else m_g h 11 j := fun j => by
    unfold n_ab
    rw [n_gp_n (by omega), m_g_p]
    by_cases c : j = m_g h 10 1
    · rw [if_pos ⟨rfl, c⟩, if_pos c]
    · rw [if_neg (fun q => c q.2), if_neg c]
  have e4 : ∀ j, m_g (n_fb g b) 150 j = if j = m_g g 127 30 then (if b < 128 then b else b - 256) else m_g g 150 j := fun j => by
    unfold n_fb
    rw [n_gp_n (by omega), m_g_p]
    by_cases c : j = m_g g 127 30
    · rw [if_pos ⟨rfl, c⟩, if_pos c]
    · rw [if_neg (fun q => c q.2), if_neg c]
  refine ⟨by omega, by omega, by omega, fun j j1 j2 => ?_⟩
  rw [e3, e4, x1]
  by_cases c : j = m_g g 127 30
  · rw [if_pos c, if_pos c]
    exact ⟨hb.1, hb.2, rfl⟩
  · rw [if_neg c, if_neg c]
    exact x4 j j1 (by omega)
def n_af (h : m_H) (a : Int) : m_H := n_ab (n_ab (n_ab (n_ab h (n_by a 3)) (n_by a 2)) (n_by a 1)) (n_by a 0)
def n_fd (g : m_H) (a : Int) : m_H := n_fb (n_fb (n_fb (n_fb g (n_by a 3)) (n_by a 2)) (n_by a 1)) (n_by a 0)
theorem n_ab_n (h : m_H) (b : Int) : m_g (n_ab h b) 10 1 = m_g h 10 1 + 1 := by unfold n_ab; rw [n_gp_y ⟨rfl, rfl⟩]
theorem n_fb_n (g : m_H) (b : Int) : m_g (n_fb g b) 127 30 = m_g g 127 30 + 1 := by unfold n_fb; rw [n_gp_y ⟨rfl, rfl⟩]
theorem n_af_e {h : m_H} {a : Int} (I : n_I h) (h1 : 0 ≤ m_g h 10 1) (h2 : m_g h 10 1 ≤ 1196) : t4_addFour 10 a h = some ((), n_af h a) ∧ n_I (n_af h a) ∧ n_kp h (n_af h a) [11, 10] [] ∧ m_g (n_af h a) 10 1 = m_g h 10 1 + 4 := by
  obtain ⟨b3, b2, b1, b0⟩ := n_byC a
  have I1 := n_ab_I (b := n_by a 3) I
  have I2 := n_ab_I (b := n_by a 2) I1
  have I3 := n_ab_I (b := n_by a 1) I2
  have I4 := n_ab_I (b := n_by a 0) I3
  have m1 := n_ab_n h (n_by a 3)
  have m2 := n_ab_n (n_ab h (n_by a 3)) (n_by a 2)
  have m3 := n_ab_n (n_ab (n_ab h (n_by a 3)) (n_by a 2)) (n_by a 1)
  have m4 := n_ab_n (n_ab (n_ab (n_ab h (n_by a 3)) (n_by a 2)) (n_by a 1)) (n_by a 0)
  refine ⟨?_, I4, n_kp_mono (n_kp_trans (n_kp_trans (n_kp_trans (n_ab_kp I) (n_ab_kp I1) I.1 n_no) (n_ab_kp I2) I.1 n_no) (n_ab_kp I3) I.1 n_no) (fun b hb => Or.inl (by simp at hb ⊢; omega)) n_no, by unfold n_af; omega⟩
  unfold t4_addFour n_af
  rw [b3, b2, b1, b0, if_pos (n_t10 I.2), n_ab_e I h1 (by omega), n_bs]
  show (if m_t (n_ab h (n_by a 3)) 10 = 4 then t4_addByte 10 (n_by a 2) (n_ab h (n_by a 3)) >>= _ else none) = _
  rw [if_pos (n_t10 I1.2), n_ab_e I1 (by omega) (by omega), n_bs]
  show (if m_t (n_ab (n_ab h (n_by a 3)) (n_by a 2)) 10 = 4 then t4_addByte 10 (n_by a 1) (n_ab (n_ab h (n_by a 3)) (n_by a 2)) >>= _ else none) = _
  rw [if_pos (n_t10 I2.2), n_ab_e I2 (by omega) (by omega), n_bs]
  show (if m_t (n_ab (n_ab (n_ab h (n_by a 3)) (n_by a 2)) (n_by a 1)) 10 = 4 then t4_addByte 10 (n_by a 0) (n_ab (n_ab (n_ab h (n_by a 3)) (n_by a 2)) (n_by a 1)) >>= _ else none) = _
  rw [if_pos (n_t10 I3.2), n_ab_e I3 (by omega) (by omega), n_bs]
theorem n_feeds_s {g : m_H} {a k : Int} (I : n_I g) (hk : k = 3 ∨ k = 2 ∨ k = 1 ∨ k = 0) (h1 : 0 ≤ m_g g 127 30) (h2 : m_g g 127 30 < 1200) : t11_feeds_c2 127 a k g = t11_feeds_c2 127 a (k + (-1)) (n_fb g (n_by a k)) := by
  have t := n_t127 I.2
  have ta := n_t150 I.2
  have l := n_l150 I.2
  have p := n_p127_29 I.2
  have e := n_byR a k hk
  rw [t11_feeds_c2]
  unfold n_fb
  rw [m_w_of (by omega) (by omega), if_neg (by omega), if_pos t, p, m_w_of (by omega) (by omega), if_pos ⟨ta, by omega, by omega⟩, n_bs, if_pos (by rw [m_t_p]; exact t), n_bs, e, n_gp_n (by omega)]
theorem n_fd_e {g : m_H} {a : Int} (I : n_I g) (h1 : 0 ≤ m_g g 127 30) (h2 : m_g g 127 30 ≤ 1196) : t11_feeds 127 a g = some ((), n_fd g a) ∧ n_I (n_fd g a) ∧ n_kr g (n_fd g a) [150] [30] ∧ m_g (n_fd g a) 127 30 = m_g g 127 30 + 4 := by
  have I1 := n_fb_I (b := n_by a 3) I
  have I2 := n_fb_I (b := n_by a 2) I1
  have I3 := n_fb_I (b := n_by a 1) I2
  have I4 := n_fb_I (b := n_by a 0) I3
  have m1 := n_fb_n g (n_by a 3)
  have m2 := n_fb_n (n_fb g (n_by a 3)) (n_by a 2)
  have m3 := n_fb_n (n_fb (n_fb g (n_by a 3)) (n_by a 2)) (n_by a 1)
  have m4 := n_fb_n (n_fb (n_fb (n_fb g (n_by a 3)) (n_by a 2)) (n_by a 1)) (n_by a 0)
  refine ⟨?_, I4, n_kr_mono (n_kr_trans (n_kr_trans (n_kr_trans (n_fb_kr _ _) (n_fb_kr _ _)) (n_fb_kr _ _)) (n_fb_kr _ _)) (by decide) (by decide) (by decide), by unfold n_fd; omega⟩
  unfold t11_feeds n_fd
  rw [n_feeds_s I (by omega) h1 (by omega), show (3 : Int) + (-1) = 2 from rfl, n_feeds_s I1 (by omega) (by omega) (by omega), show (2 : Int) + (-1) = 1 from rfl, n_feeds_s I2 (by omega) (by omega) (by omega), show (1 : Int) + (-1) = 0 from rfl, n_feeds_s I3 (by omega) (by omega) (by omega), show (0 : Int) + (-1) = -1 from rfl, t11_feeds_c2, m_w_of (by omega) (by omega), if_pos (by omega)]
theorem n_four {h g : m_H} {a : Int} (X : n_Rread h g) (hl : m_g g 127 30 ≤ 1196) : n_Rread (n_af h a) (n_fd g a) := by
  have m1 := n_fb_n g (n_by a 3)
  have m2 := n_fb_n (n_fb g (n_by a 3)) (n_by a 2)
  have m3 := n_fb_n (n_fb (n_fb g (n_by a 3)) (n_by a 2)) (n_by a 1)
  exact n_byte (n_byte (n_byte (n_byte X (by omega) (n_by_b a 3)) (by omega) (n_by_b a 2)) (by omega) (n_by_b a 1)) (by omega) (n_by_b a 0)
/-- a call that touches the text alone -/
theorem n_finX {h ha hb : m_H} {A Tc Tf : List Int} {k : Int} (X : n_R h k) (KP : n_kp h ha A []) (KR : n_kr ha hb Tc Tf) (hA : ∀ b ∈ A, b = 10 ∨ b = 11) (hTc : ∀ b ∈ Tc, b = 150) (hTf : ∀ k ∈ Tf, k = 30) (Ia : n_I ha) (Ba : n_bud ha (k + 1)) (T : n_Rread ha hb) : n_R hb (k + 1) := by
  have X' := X
  obtain ⟨I, gs, bud, x1, x2, x3, x4, x5, x6, x7⟩ := X'
  have t10 := n_t10 I.2
  have t11 := n_t11 I.2
  have l11 := n_l11 I.2
  have hA1 : ∀ b ∈ A, n_sf h b ∧ (b < 127 ∨ 312 ≤ b) := fun b q => by
    rcases hA b q with e | e <;> rw [e]
    · exact ⟨n_sfa I (by omega) (by omega) (Or.inl (by omega)), by omega⟩
    · exact ⟨n_sfa I (by omega) (by omega) (Or.inr (by omega)), by omega⟩
  have P := n_sp_of I KP KR hA1 n_no
  obtain ⟨g0, g1, g2, g3, g4, g5, g6, g7⟩ := n_fr X P
  have nos : n_nos Tc Tf := ⟨fun b q => by have := hTc b q; omega, fun q hq => by have := hTf q hq; omega⟩
  have nosc : n_nosc Tc := fun b q => by have := hTc b q; omega
  have nT : ∀ x : Int, x ≠ 150 → x ∉ Tc := fun x q1 q => by have := hTc x q; omega
  have nF : ∀ x : Int, x ≠ 30 → x ∉ Tf := fun x q1 q => by have := hTf x q; omega
  have nA : ∀ x : Int, x ≠ 10 → x ≠ 11 → x ∉ A := fun x q1 q2 q => by have := hA x q; omega
  have I2 : n_I hb := n_kr_I Ia KR (fun b q => by rw [hTc b q]; exact Or.inr (Or.inr (Or.inl (n_t150 Ia.2)))) (by
    rw [List.all_eq_true]
    intro q hq
    rw [hTf q hq]; rfl)
  have C := fun b j (hb : b < 127 ∨ 312 ≤ b) => n_kr_comp KR hb j
  have T1 : n_Rread hb hb := by
    unfold n_Rread at *
    simp only [C 10 _ (show (10 : Int) < 127 ∨ 312 ≤ (10 : Int) by omega), C 11 _ (show (11 : Int) < 127 ∨ 312 ≤ (11 : Int) by omega)]
    exact T
  refine ⟨I2, g0 nos, n_bud_same Ia KR.1 (fun r hr => n_kr_comp KR (n_ref_row Ia hr).1 0) Ba, g1 List.not_mem_nil (nT _ (by omega)) (nF _ (by omega)), g2 List.not_mem_nil (nT _ (by omega)) (nF _ (by omega)), g3 nos (fun b q => ?_) n_no, T1, g5 nosc (nF _ (by omega)) (fun b q => by have := hA b q; omega), g6 nosc (nF _ (by omega)) (nF _ (by omega)) (nT _ (by omega)) (fun b q => by have := hTc b q; omega) (fun q hq => by have := hTf q hq; omega) (fun b q => by have := hA b q; omega) List.not_mem_nil, g7 nos (nT _ (by omega)) (nF _ (by omega)) ?_ (nA _ (by omega) (by omega)) (nA _ (by omega) (by omega))⟩
  · rcases hA b q with e | e <;> rw [e]
    · omega
    · omega
  · rw [C 2 _ (by omega), KP.2.2.1 2 (by have := I.2.2.2.2; omega) (nA 2 (by omega) (by omega)) List.not_mem_nil n_no]
theorem n_s_end {h : m_H} {k : Int} (X : n_R h k) (n : Int) (i1 : -2147483648 ≤ n) (i2 : n < 2147483648) : n_stepb h k (t10_end 1 n) (t11_end 127 n) := by
  have X' := X
  obtain ⟨I, gs, bud, x1, x2, x3, x4, x5, x6, x7⟩ := X'
  have x4' := x4
  obtain ⟨y1, y2, y3, y4⟩ := x4'
  have t1 := n_t1 I.2
  have t10 := n_t10 I.2
  unfold n_stepb t10_end
  by_cases c : 0 ≤ n ∧ n ≤ m_g h 127 30
  · have I1 : n_I (m_p h 10 1 n) := n_I_p I (by omega) (by omega) rfl
    have KP := n_kp_p (h := h) (a := 10) (k := 1) (v := n) (by omega)
    have ref : ∀ b j, b ≠ 10 → m_g (m_p h 10 1 n) b j = m_g h b j := fun b j q => n_gp_n (fun p => q p.1)
    have KR : n_kr (m_p h 10 1 n) (m_p (m_p h 10 1 n) 127 30 n) [] [30] := n_kr_f
    refine ⟨true, m_p h 10 1 n, true, m_p (m_p h 10 1 n) 127 30 n, ?_, ?_, rfl, n_finX X KP KR (n_in1 (by omega)) n_no (n_in1 rfl) I1 (n_bud_same I rfl (fun r hr => ref r 0 (fun e => by rw [e, t10] at hr; omega)) (n_bud_more bud)) ?_⟩
    · rw [m_w_of i1 i2, if_neg (by omega), if_pos t1, n_p1_2 I.2, if_pos t10, m_w_of (by omega) (by omega), if_neg (by omega), n_bs]
    · have ei := n_in (a := n) (b := 0) (c := m_g h 127 30) (h := m_p h 10 1 n) (by omega) (by omega) (by omega) (by omega) (by omega) (by omega)
      rw [decide_eq_true c] at ei
      unfold t11_end
      rw [if_pos (n_t127 I1.2), ref 127 30 (by omega), m_w_of i1 i2, m_w_of (by omega) (by omega), ei, n_bs]
      show (if true = true then if m_t (m_p h 10 1 n) 127 = 11 then _ else none else _) = _
      rw [if_pos rfl, if_pos (n_t127 I1.2), n_bs]
    · refine ⟨by rw [n_gp_y ⟨rfl, rfl⟩, n_gp_y ⟨rfl, rfl⟩], by rw [n_gp_y ⟨rfl, rfl⟩]; omega, by rw [n_gp_y ⟨rfl, rfl⟩]; omega, fun j j1 j2 => ?_⟩
      rw [n_gp_y ⟨rfl, rfl⟩] at j2
      rw [ref 11 j (by omega), n_gp_n (by omega), ref 150 j (by omega)]
      exact y4 j j1 (by omega)
  · refine ⟨false, h, false, h, ?_, ?_, rfl, n_R_more X⟩
    · rw [m_w_of i1 i2]
      by_cases d : n < 0
      · rw [if_pos d]
      · rw [if_neg d, if_pos t1, n_p1_2 I.2, if_pos t10, m_w_of (by omega) (by omega), if_pos (by omega)]
    · have ei := n_in (a := n) (b := 0) (c := m_g h 127 30) (h := h) (by omega) (by omega) (by omega) (by omega) (by omega) (by omega)
      rw [decide_eq_false c] at ei
      unfold t11_end
      rw [if_pos (n_t127 I.2), m_w_of i1 i2, m_w_of (by omega) (by omega), ei, n_bs]
      rfl
theorem n_Rread_kp {h h1 : m_H} (I : n_I h) (KP : n_kp h h1 [11, 10] []) (X : n_Rread h h) : n_Rread h h1 := by
  have ref := fun b j (b1 : 127 ≤ b) (b2 : b < 312) => n_kp_ref I KP (n_in2 (by omega) (by omega)) n_no b1 b2 j
  unfold n_Rread at *
  simp only [ref 127 _ (by omega) (by omega), ref 150 _ (show (127 : Int) ≤ 150 by omega) (by omega)]
  exact X
theorem n_s_feed {h : m_H} {k : Int} (X : n_R h k) (a b c d e : Int) : n_step h k (t10_feed 1 a b c d e) (t11_feed 127 a b c d e) := by
  have X' := X
  obtain ⟨I, gs, bud, x1, x2, x3, x4, x5, x6, x7⟩ := X'
  have y1 := x4.1
  have y2 := x4.2.1
  have y3 := x4.2.2.1
  have t1 := n_t1 I.2
  have t10 := n_t10 I.2
  unfold n_step t10_feed
  rw [if_pos t1, n_p1_2 I.2, if_pos t10]
  by_cases cc : 1200 < m_g h 127 30 + 20
  · refine ⟨-1, h, -1, h, ?_, ?_, rfl, n_R_more X⟩
    · rw [m_w_of (by omega) (by omega), if_pos (by omega)]
    · unfold t11_feed
      rw [if_pos (n_t127 I.2), m_w_of (by omega) (by omega), if_pos cc]
  · obtain ⟨e1, I1, K1, l1⟩ := n_af_e (a := a) I (by omega) (by omega)
    obtain ⟨e2, I2, K2, l2⟩ := n_af_e (a := b) I1 (by omega) (by omega)
    obtain ⟨e3, I3, K3, l3⟩ := n_af_e (a := c) I2 (by omega) (by omega)
    obtain ⟨e4, I4, K4, l4⟩ := n_af_e (a := d) I3 (by omega) (by omega)
    obtain ⟨e5, I5, K5, l5⟩ := n_af_e (a := e) I4 (by omega) (by omega)
    have KP : n_kp h (n_af (n_af (n_af (n_af (n_af h a) b) c) d) e) [11, 10] [] := n_kp_mono (n_kp_trans (n_kp_trans (n_kp_trans (n_kp_trans K1 K2 I.1 n_no) K3 I.1 n_no) K4 I.1 n_no) K5 I.1 n_no) (fun b hb => Or.inl (by simp at hb ⊢; omega)) n_no
    have z0 := n_Rread_kp I KP x4
    have e30 := z0.1
    have Bu : n_bud (n_af (n_af (n_af (n_af (n_af h a) b) c) d) e) (k + 1) := n_bud_same I rfl (fun r hr => KP.2.2.1 r (n_wf_lt I.1 hr).1 (fun q => by
      simp at q
      rcases q with q | q
      · rw [q, n_t11 I.2] at hr; omega
      · rw [q, t10] at hr; omega) List.not_mem_nil n_no 0) (n_bud_more bud)
    obtain ⟨f1, J1, L1, m1⟩ := n_fd_e (a := a) I5 (by omega) (by omega)
    obtain ⟨f2, J2, L2, m2⟩ := n_fd_e (a := b) J1 (by omega) (by omega)
    obtain ⟨f3, J3, L3, m3⟩ := n_fd_e (a := c) J2 (by omega) (by omega)
    obtain ⟨f4, J4, L4, m4⟩ := n_fd_e (a := d) J3 (by omega) (by omega)
    obtain ⟨f5, J5, L5, m5⟩ := n_fd_e (a := e) J4 (by omega) (by omega)
    have z1 := n_four (a := a) z0 (by omega)
    have z2 := n_four (a := b) z1 (by omega)
    have z3 := n_four (a := c) z2 (by omega)
    have z4 := n_four (a := d) z3 (by omega)
    have z5 := n_four (a := e) z4 (by omega)
    have KR := n_kr_trans (n_kr_trans (n_kr_trans (n_kr_trans L1 L2) L3) L4) L5
    have R := n_finX X KP KR (by simp) (by simp) (by simp) I5 Bu z5
    refine ⟨m_g (n_af (n_af (n_af (n_af (n_af h a) b) c) d) e) 10 1, n_af (n_af (n_af (n_af (n_af h a) b) c) d) e, m_g (n_fd (n_fd (n_fd (n_fd (n_fd (n_af (n_af (n_af (n_af (n_af h a) b) c) d) e) a) b) c) d) e) 127 30, n_fd (n_fd (n_fd (n_fd (n_fd (n_af (n_af (n_af (n_af (n_af h a) b) c) d) e) a) b) c) d) e, ?_, ?_, ?_, R⟩
    · rw [m_w_of (by omega) (by omega), if_neg (by omega), e1, n_bs]
      show (if m_t (n_af h a) 1 = 10 then if m_t (n_af h a) (m_g (n_af h a) 1 2) = 4 then t4_addFour (m_g (n_af h a) 1 2) b (n_af h a) >>= _ else none else none) = _
      rw [if_pos (n_t1 I1.2), n_p1_2 I1.2, if_pos (n_t10 I1.2), e2, n_bs]
      generalize n_af (n_af h a) b = h2 at *
      show (if m_t h2 1 = 10 then if m_t h2 (m_g h2 1 2) = 4 then t4_addFour (m_g h2 1 2) c h2 >>= _ else none else none) = _
      rw [if_pos (n_t1 I2.2), n_p1_2 I2.2, if_pos (n_t10 I2.2), e3, n_bs]
      generalize n_af h2 c = h3 at *
      show (if m_t h3 1 = 10 then if m_t h3 (m_g h3 1 2) = 4 then t4_addFour (m_g h3 1 2) d h3 >>= _ else none else none) = _
      rw [if_pos (n_t1 I3.2), n_p1_2 I3.2, if_pos (n_t10 I3.2), e4, n_bs]
      generalize n_af h3 d = h4 at *
      show (if m_t h4 1 = 10 then if m_t h4 (m_g h4 1 2) = 4 then t4_addFour (m_g h4 1 2) e h4 >>= _ else none else none) = _
      rw [if_pos (n_t1 I4.2), n_p1_2 I4.2, if_pos (n_t10 I4.2), e5, n_bs]
      generalize n_af h4 e = h5 at *
      show (if m_t h5 1 = 10 then if m_t h5 (m_g h5 1 2) = 4 then some (m_g h5 (m_g h5 1 2) 1, h5) else none else none) = _
      rw [if_pos (n_t1 I5.2), n_p1_2 I5.2, if_pos (n_t10 I5.2)]
    · unfold t11_feed
      rw [if_pos (n_t127 I5.2), m_w_of (by omega) (by omega), if_neg (by omega), f1, n_bs]
      generalize n_fd (n_af (n_af (n_af (n_af (n_af h a) b) c) d) e) a = g1 at *
      show (if m_t g1 127 = 11 then t11_feeds 127 b g1 >>= _ else none) = _
      rw [if_pos (n_t127 J1.2), f2, n_bs]
      generalize n_fd g1 b = g2 at *
      show (if m_t g2 127 = 11 then t11_feeds 127 c g2 >>= _ else none) = _
      rw [if_pos (n_t127 J2.2), f3, n_bs]
      generalize n_fd g2 c = g3 at *
      show (if m_t g3 127 = 11 then t11_feeds 127 d g3 >>= _ else none) = _
      rw [if_pos (n_t127 J3.2), f4, n_bs]
      generalize n_fd g3 d = g4 at *
      show (if m_t g4 127 = 11 then t11_feeds 127 e g4 >>= _ else none) = _
      rw [if_pos (n_t127 J4.2), f5, n_bs]
      show (if m_t (n_fd g4 e) 127 = 11 then _ else none) = _
      rw [if_pos (n_t127 J5.2)]
    · rw [z5.1]
