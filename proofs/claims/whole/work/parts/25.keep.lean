/-! WHAT KEEPS the heap's shape -/
theorem n_e2t {h h' : m_H} (e : h'.2 = h.2) (x : Int) : m_t h' x = m_t h x := by unfold m_t; rw [e]
theorem n_e2l {h h' : m_H} (e : h'.2 = h.2) (x : Int) : m_l h' x = m_l h x := by unfold m_l; rw [e]
theorem n_e2n {h h' : m_H} (e : h'.2 = h.2) : m_n h' = m_n h := by unfold m_n; rw [e]
theorem n_e2s {h h' : m_H} (e : h'.2 = h.2) : m_s h' = m_s h := by unfold m_s; rw [e]
theorem n_wf_same {h h' : m_H} (W : n_wf h) (e : h'.2 = h.2) (h5 : ∀ r, m_t h r = 5 → ∀ j, m_g h' r j = m_g h r j) (h6 : ∀ s, m_t h s = 6 → m_g h' s 0 = m_g h s 0 ∧ m_g h' s 3 = m_g h s 3) : n_wf h' := by
  obtain ⟨w1, w2, w3, w4, w5⟩ := W
  have et := n_e2t e
  have el := n_e2l e
  have en := n_e2n e
  refine ⟨fun a ha => by rw [en]; exact w1 a (by rw [← et]; exact ha), by omega, fun r hr => ?_, fun r q hr hq hn => ?_, fun s hs => ?_⟩
  · rw [et] at hr
    have := w3 r hr
    unfold n_row n_cap at *
    rw [h5 r hr, h5 r hr, et, et, el]
    exact this
  · rw [et] at hr hq
    rw [h5 r hr, h5 q hq]
    exact w4 r q hr hq hn
  · rw [et] at hs
    rw [(h6 s hs).1, (h6 s hs).2, et, et, el, el]
    obtain ⟨s1, s2, s3, s4, s5⟩ := w5 s hs
    refine ⟨s1, s2, s3, s4, fun r hr => ?_⟩
    rw [et] at hr
    rw [h5 r hr]
    exact s5 r hr
/-- a final field of a fixed cell -/
def n_key (a k : Int) : Bool := n_ptr.any (fun q => q.1 == a && q.2.1 == k) || n_fam.any (fun q => q.1 == a)
theorem n_fx_of {h h' : m_H} (F : n_fx h) (hn : m_n h ≤ m_n h') (et : ∀ a, 1 ≤ a → a < 312 → m_t h' a = m_t h a ∧ m_l h' a = m_l h a) (hk : ∀ a k, n_key a k = true → m_g h' a k = m_g h a k) : n_fx h' := by
  obtain ⟨f1, f2, f3, f4⟩ := F
  refine ⟨fun a h1 h2 => ?_, fun q hq => ?_, fun q hq i h1 h2 => ?_, by omega⟩
  · rw [(et a h1 h2).1, (et a h1 h2).2]; exact f1 a h1 h2
  · rw [hk q.1 q.2.1 ?_]
    · exact f2 q hq
    · unfold n_key
      rw [Bool.or_eq_true]
      left
      rw [List.any_eq_true]
      exact ⟨q, hq, by simp⟩
  · rw [hk q.1 i ?_]
    · exact f3 q hq i h1 h2
    · unfold n_key
      rw [Bool.or_eq_true]
      right
      rw [List.any_eq_true]
      exact ⟨q, hq, by simp⟩
theorem n_key_all : (n_ptr.all (fun q => decide (1 ≤ q.1 ∧ q.1 < 312) && (let t := n_kT.getD (q.1.toNat - 1) 0; decide (t ≠ 5 ∧ t ≠ 20 ∧ t ≠ 21 ∧ t ≠ 22 ∧ t ≠ 23))) && n_fam.all (fun q => decide (1 ≤ q.1 ∧ q.1 < 312) && (let t := n_kT.getD (q.1.toNat - 1) 0; decide (t ≠ 5 ∧ t ≠ 20 ∧ t ≠ 21 ∧ t ≠ 22 ∧ t ≠ 23)))) = true := by decide +kernel
theorem n_key_t {h : m_H} (F : n_fx h) {a k : Int} (hk : n_key a k = true) : (1 ≤ a ∧ a < 312) ∧ m_t h a ≠ 5 ∧ m_t h a ≠ 20 ∧ m_t h a ≠ 21 ∧ m_t h a ≠ 22 ∧ m_t h a ≠ 23 := by
  have A := n_key_all
  rw [Bool.and_eq_true, List.all_eq_true, List.all_eq_true] at A
  unfold n_key at hk
  rw [Bool.or_eq_true, List.any_eq_true, List.any_eq_true] at hk
  rcases hk with ⟨q, hq, e⟩ | ⟨q, hq, e⟩
  · rw [Bool.and_eq_true, beq_iff_eq, beq_iff_eq] at e
    have := A.1 q hq
    rw [Bool.and_eq_true, decide_eq_true_eq, decide_eq_true_eq, e.1] at this
    rw [(F.1 a this.1.1 this.1.2).1]
    exact this
  · rw [beq_iff_eq] at e
    have := A.2 q hq
    rw [Bool.and_eq_true, decide_eq_true_eq, decide_eq_true_eq, e] at this
    rw [(F.1 a this.1.1 this.1.2).1]
    exact this
def n_I (h : m_H) : Prop := n_wf h ∧ n_fx h
theorem n_I_p {h : m_H} {a k v : Int} (I : n_I h) (h5 : m_t h a ≠ 5) (h6 : m_t h a = 6 → k ≠ 0 ∧ k ≠ 3) (hk : n_key a k = false) : n_I (m_p h a k v) := by
  refine ⟨n_wf_same I.1 rfl (fun r hr j => ?_) (fun s hs => ?_), n_fx_of I.2 (Int.le_refl _) (fun _ _ _ => ⟨rfl, rfl⟩) (fun b j hb => ?_)⟩
  · rw [m_g_p, if_neg (fun q => h5 (by rw [← q.1]; exact hr))]
  · rw [m_g_p, m_g_p, if_neg (fun q => (h6 (by rw [← q.1]; exact hs)).1 q.2.symm), if_neg (fun q => (h6 (by rw [← q.1]; exact hs)).2 q.2.symm)]
    exact ⟨rfl, rfl⟩
  · rw [m_g_p, if_neg (fun q => by rw [q.1, q.2, hk] at hb; cases hb)]
/-- an array of numbers -/
def n_ar (h : m_H) (a : Int) : Prop := m_t h a = 20 ∨ m_t h a = 21 ∨ m_t h a = 22 ∨ m_t h a = 23
theorem n_key_ar {h : m_H} (F : n_fx h) {a : Int} (k : Int) (ha : n_ar h a) : n_key a k = false := by
  cases e : n_key a k
  · rfl
  · have := n_key_t F e
    unfold n_ar at ha
    omega
theorem n_I_pa {h : m_H} {a k v : Int} (I : n_I h) (ha : n_ar h a) : n_I (m_p h a k v) := by
  have := n_key_ar I.2 k ha
  unfold n_ar at ha
  exact n_I_p I (by omega) (fun e => by omega) this
theorem n_I_fl {h : m_H} {a lo hi : Int} {f : Int → Int} (I : n_I h) (ha : n_ar h a) : n_I (n_fl h a lo hi f) := by
  have hk := fun k => n_key_ar I.2 k ha
  unfold n_ar at ha
  refine ⟨n_wf_same I.1 rfl (fun r hr j => ?_) (fun s hs => ?_), n_fx_of I.2 (Int.le_refl _) (fun _ _ _ => ⟨rfl, rfl⟩) (fun b j hb => ?_)⟩
  · rw [n_g_fl, if_neg (fun q => by rw [q.1] at hr; omega)]
  · rw [n_g_fl, n_g_fl, if_neg (fun q => by rw [q.1] at hs; omega), if_neg (fun q => by rw [q.1] at hs; omega)]
    exact ⟨rfl, rfl⟩
  · rw [n_g_fl, if_neg (fun q => by rw [q.1, hk] at hb; cases hb)]
theorem n_key_sf {h : m_H} (I : n_I h) {a k : Int} (hk : n_key a k = true) : n_sf h a := by
  have := n_key_t I.2 hk
  refine ⟨by have := I.2.2.2.2; omega, this.2.1, fun r hr e => ?_⟩
  have kr := (n_wf_row I.1 hr).2.1
  rw [e] at kr
  omega
theorem n_I_rw {h h' : m_H} {v n : Int} {f : Int → Int} (I : n_I h) (hv : m_t h v = 5) (A : n_rw h h' v n f) : n_I h' := by
  have B := A.2.2.2.2
  refine ⟨n_rw_wf I.1 hv A, n_fx_of I.2 B.2.2.2.2.2.1 (fun a h1 h2 => B.1 a (by have := I.2.2.2.2; omega)) (fun a k hk => (n_sf_ch I.1 hv B (n_key_sf I hk)).2.1 k)⟩
/-- a fixed array that has places is no row's -/
theorem n_sfa {h : m_H} (I : n_I h) {a : Int} (h1 : a < 312) (h5 : m_t h a ≠ 5) (hl : m_t h a ≠ 20 ∨ 0 < m_l h a) : n_sf h a := by
  refine ⟨by have := I.2.2.2.2; omega, h5, fun r hr e => ?_⟩
  have kr := (n_wf_row I.1 hr).2.1
  have := (I.1.2.2.1 r hr).2.2 (by omega)
  unfold n_cap at this
  rw [e] at kr this
  omega
theorem n_ref_all : ((List.range 185).all (fun i => let t := n_kT.getD (i + 126) 0; decide (t ≠ 5) && decide (0 < n_kL.getD (i + 126) 0))) = true := by decide +kernel
/-- all cells of the reference are safe -/
theorem n_sfr {h : m_H} (I : n_I h) {b : Int} (h1 : 127 ≤ b) (h2 : b < 312) : n_sf h b := by
  have A := n_ref_all
  rw [List.all_eq_true] at A
  have := A (b.toNat - 127) (List.mem_range.mpr (by omega))
  rw [Bool.and_eq_true, decide_eq_true_eq, decide_eq_true_eq] at this
  have e := I.2.1 b (by omega) h2
  rw [show b.toNat - 127 + 126 = b.toNat - 1 by omega] at this
  exact n_sfa I h2 (by rw [e.1]; exact this.1) (Or.inr (by rw [e.2]; exact this.2))
