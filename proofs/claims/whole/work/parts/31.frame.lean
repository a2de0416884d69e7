/-! WHAT A CALL LEAVES ALONE: cells A and rows Rw of the component, arrays Tc and fields Tf of the reference are touched -/
def n_kp (h h' : m_H) (A Rw : List Int) : Prop :=
  (∀ b, b < m_n h → m_t h' b = m_t h b ∧ m_l h' b = m_l h b) ∧ m_n h ≤ m_n h' ∧
  (∀ b, b < m_n h → b ∉ A → b ∉ Rw → (∀ r ∈ Rw, b ≠ m_g h r 0) → ∀ j, m_g h' b j = m_g h b j) ∧
  (∀ r, m_t h r = 5 → m_g h' r 0 = m_g h r 0 ∨ m_n h ≤ m_g h' r 0)
def n_kr (h h' : m_H) (Tc Tf : List Int) : Prop := h'.2 = h.2 ∧ (∀ b ∈ Tc, 127 < b ∧ b < 312) ∧ ∀ b j, b ∉ Tc → ¬ (b = 127 ∧ j ∈ Tf) → m_g h' b j = m_g h b j
def n_sp (h h' : m_H) (A Rw Tc Tf : List Int) : Prop :=
  ((∀ b, b < m_n h → m_t h' b = m_t h b ∧ m_l h' b = m_l h b) ∧ m_n h ≤ m_n h') ∧
  (∀ b, b < m_n h → (b < 127 ∨ 312 ≤ b) → b ∉ A → b ∉ Rw → (∀ r ∈ Rw, b ≠ m_g h r 0) → ∀ j, m_g h' b j = m_g h b j) ∧
  (∀ b, 127 ≤ b → b < 312 → b ∉ Tc → ∀ j, ¬ (b = 127 ∧ j ∈ Tf) → m_g h' b j = m_g h b j) ∧
  (∀ b ∈ A, n_sf h b ∧ (b < 127 ∨ 312 ≤ b)) ∧ (∀ r ∈ Rw, m_t h r = 5) ∧ ∀ b ∈ Tc, 127 < b ∧ b < 312
theorem n_ref_row {h : m_H} (I : n_I h) {r : Int} (hr : m_t h r = 5) : (r < 127 ∨ 312 ≤ r) ∧ (m_g h r 0 < 127 ∨ 312 ≤ m_g h r 0) := by
  constructor
  · by_cases c : 127 ≤ r ∧ r < 312
    · exact absurd hr (n_sfr I c.1 c.2).2.1
    · omega
  · by_cases c : 127 ≤ m_g h r 0 ∧ m_g h r 0 < 312
    · exact absurd rfl ((n_sfr I c.1 c.2).2.2 r hr)
    · omega
theorem n_kp_rfl {h : m_H} : n_kp h h [] [] := ⟨fun _ _ => ⟨rfl, rfl⟩, Int.le_refl _, fun _ _ _ _ _ _ => rfl, fun _ _ => Or.inl rfl⟩
theorem n_kp_rw {h h' : m_H} {v n : Int} {f : Int → Int} (W : n_wf h) (hv : m_t h v = 5) (B : n_rw h h' v n f) : n_kp h h' [] [v] := by
  have C := B.2.2.2.2
  refine ⟨C.1, C.2.2.2.2.2.1, fun b hb _ h1 h2 j => C.2.1 b hb (by simpa using h1) (h2 v (by simp)) j, fun r hr => ?_⟩
  by_cases c : r = v
  · subst c; exact C.2.2.2.1
  · exact Or.inl (n_oth W hv C hr c).2.1
theorem n_kp_p {h : m_H} {a k v : Int} (ha : m_t h a ≠ 5) : n_kp h (m_p h a k v) [a] [] := by
  refine ⟨fun _ _ => ⟨rfl, rfl⟩, Int.le_refl _, fun b hb h1 _ _ j => ?_, fun r hr => Or.inl ?_⟩
  · rw [m_g_p, if_neg (fun q => h1 (by simp [q.1]))]
  · rw [m_g_p, if_neg (fun q => ha (by rw [← q.1]; exact hr))]
theorem n_kp_fl {h : m_H} {a lo hi : Int} {f : Int → Int} (ha : m_t h a ≠ 5) : n_kp h (n_fl h a lo hi f) [a] [] := by
  refine ⟨fun _ _ => ⟨rfl, rfl⟩, Int.le_refl _, fun b hb h1 _ _ j => ?_, fun r hr => Or.inl ?_⟩
  · rw [n_g_fl, if_neg (fun q => h1 (by simp [q.1]))]
  · rw [n_g_fl, if_neg (fun q => ha (by rw [← q.1]; exact hr))]
theorem n_kp_trans {h h1 h2 : m_H} {A A2 R R2 : List Int} (K : n_kp h h1 A R) (L : n_kp h1 h2 A2 R2) (W : n_wf h) (hR : ∀ r ∈ R2, m_t h r = 5 ∨ m_n h ≤ m_g h1 r 0) : n_kp h h2 (A ++ A2) (R ++ R2) := by
  obtain ⟨k1, k2, k3, k4⟩ := K
  obtain ⟨l1, l2, l3, l4⟩ := L
  refine ⟨fun b hb => ?_, by omega, fun b hb c1 c2 c3 j => ?_, fun r hr => ?_⟩
  · have := k1 b hb
    have := l1 b (by omega)
    omega
  · rw [List.mem_append, not_or] at c1 c2
    rw [l3 b (by omega) c1.2 c2.2 (fun r hr e => ?_) j, k3 b hb c1.1 c2.1 (fun r hr => c3 r (List.mem_append.mpr (Or.inl hr))) j]
    rcases hR r hr with q | q
    · have := c3 r (List.mem_append.mpr (Or.inr hr))
      rcases k4 r q with q2 | q2
      · exact this (e.trans q2)
      · omega
    · omega
  · have := (n_wf_lt W hr).1
    have h5 : m_t h1 r = 5 := by rw [(k1 r this).1]; exact hr
    rcases l4 r h5 with q | q
    · rw [q]; exact k4 r hr
    · right; omega
theorem n_kp_mono {h h' : m_H} {A A2 R R2 : List Int} (K : n_kp h h' A R) (hA : ∀ b ∈ A, b ∈ A2 ∨ m_n h ≤ b) (hR : ∀ r ∈ R, r ∈ R2 ∨ (m_n h ≤ r ∧ m_n h ≤ m_g h r 0)) : n_kp h h' A2 R2 := by
  obtain ⟨k1, k2, k3, k4⟩ := K
  refine ⟨k1, k2, fun b hb c1 c2 c3 j => k3 b hb (fun q => ?_) (fun q => ?_) (fun r hr e => ?_) j, k4⟩
  · rcases hA b q with q | q
    · exact c1 q
    · omega
  · rcases hR b q with q | q
    · exact c2 q
    · omega
  · rcases hR r hr with q | q
    · exact c3 r q e
    · omega
theorem n_kr_rfl {h : m_H} : n_kr h h [] [] := ⟨rfl, fun _ hb => absurd hb List.not_mem_nil, fun _ _ _ _ => rfl⟩
theorem n_kr_f {h : m_H} {k v : Int} : n_kr h (m_p h 127 k v) [] [k] := ⟨rfl, fun _ hb => absurd hb List.not_mem_nil, fun b j _ h2 => by rw [m_g_p, if_neg (fun q => h2 ⟨q.1, by simp [q.2]⟩)]⟩
theorem n_kr_p {h : m_H} {a k v : Int} (h1 : 127 < a) (h2 : a < 312) : n_kr h (m_p h a k v) [a] [] := ⟨rfl, fun b hb => by rw [List.mem_singleton.mp hb]; exact ⟨h1, h2⟩, fun b j c _ => by rw [m_g_p, if_neg (fun q => c (by simp [q.1]))]⟩
theorem n_kr_fl {h : m_H} {a lo hi : Int} {f : Int → Int} (h1 : 127 < a) (h2 : a < 312) : n_kr h (n_fl h a lo hi f) [a] [] := ⟨rfl, fun b hb => by rw [List.mem_singleton.mp hb]; exact ⟨h1, h2⟩, fun b j c _ => by rw [n_g_fl, if_neg (fun q => c (by simp [q.1]))]⟩
theorem n_kr_trans {h h1 h2 : m_H} {A A2 F F2 : List Int} (K : n_kr h h1 A F) (L : n_kr h1 h2 A2 F2) : n_kr h h2 (A ++ A2) (F ++ F2) := by
  refine ⟨L.1.trans K.1, fun b hb => ?_, fun b j c1 c2 => ?_⟩
  · rcases List.mem_append.mp hb with q | q
    · exact K.2.1 b q
    · exact L.2.1 b q
  · rw [List.mem_append, not_or] at c1
    rw [L.2.2 b j c1.2 (fun q => c2 ⟨q.1, List.mem_append.mpr (Or.inr q.2)⟩), K.2.2 b j c1.1 (fun q => c2 ⟨q.1, List.mem_append.mpr (Or.inl q.2)⟩)]
theorem n_kr_mono {h h' : m_H} {A A2 F F2 : List Int} (K : n_kr h h' A F) (hA : ∀ b ∈ A, b ∈ A2) (hF : ∀ b ∈ F, b ∈ F2) (hA2 : ∀ b ∈ A2, 127 < b ∧ b < 312) : n_kr h h' A2 F2 := ⟨K.1, hA2, fun b j c1 c2 => K.2.2 b j (fun q => c1 (hA b q)) (fun q => c2 ⟨q.1, hF j q.2⟩)⟩
theorem n_kr_I {h h' : m_H} {A F : List Int} (I : n_I h) (K : n_kr h h' A F) (hA : ∀ b ∈ A, n_ar h b) (hF : (F.all (fun k => !n_key 127 k)) = true) : n_I h' := by
  rw [List.all_eq_true] at hF
  have old : ∀ b, (b < 127 ∨ 312 ≤ b) → ∀ j, m_g h' b j = m_g h b j := fun b hb j => K.2.2 b j (fun q => by have := K.2.1 b q; omega) (fun q => by omega)
  have ne : ∀ b, m_t h b = 5 ∨ m_t h b = 6 → ∀ j, m_g h' b j = m_g h b j := fun b hb j => by
    refine K.2.2 b j (fun q => ?_) (fun q => ?_)
    · have := hA b q; unfold n_ar at this; omega
    · have := n_t127 I.2; rw [← q.1] at this; omega
  refine ⟨n_wf_same I.1 K.1 (fun r hr j => ne r (Or.inl hr) j) (fun s hs => ⟨ne s (Or.inr hs) 0, ne s (Or.inr hs) 3⟩), n_fx_of I.2 (by rw [n_e2n K.1]; exact Int.le_refl _) (fun a _ _ => ⟨n_e2t K.1 a, n_e2l K.1 a⟩) (fun a k hk => ?_)⟩
  refine K.2.2 a k (fun q => ?_) (fun q => ?_)
  · rw [n_key_ar I.2 k (hA a q)] at hk; cases hk
  · have := hF k q.2
    rw [q.1] at hk
    rw [hk] at this; cases this
theorem n_sp_of {h h1 h2 : m_H} {A R Tc Tf : List Int} (I : n_I h) (K : n_kp h h1 A R) (L : n_kr h1 h2 Tc Tf) (hA : ∀ b ∈ A, n_sf h b ∧ (b < 127 ∨ 312 ≤ b)) (hR : ∀ r ∈ R, m_t h r = 5) : n_sp h h2 A R Tc Tf := by
  obtain ⟨k1, k2, k3, k4⟩ := K
  refine ⟨⟨fun b hb => ?_, by rw [n_e2n L.1]; exact k2⟩, fun b hb hr c1 c2 c3 j => ?_, fun b b1 b2 c j c2 => ?_, hA, hR, L.2.1⟩
  · rw [n_e2t L.1, n_e2l L.1]; exact k1 b hb
  · rw [L.2.2 b j (fun q => by have := L.2.1 b q; omega) (fun q => by omega), k3 b hb c1 c2 c3 j]
  · rw [L.2.2 b j c c2, k3 b (by have := I.2.2.2.2; omega) (fun q => by have := (hA b q).2; omega) (fun q => by have := (n_ref_row I (hR b q)).1; omega) (fun r hr => by have := (n_ref_row I (hR r hr)).2; omega) j]
/-- the rows of the component, seen from behind a call -/
theorem n_sp_row {h h' : m_H} {A R Tc Tf : List Int} (I : n_I h) (P : n_sp h h' A R Tc Tf) {r : Int} (hr : m_t h r = 5) (hn : r ∉ R) : m_t h' r = 5 ∧ m_g h' r 0 = m_g h r 0 ∧ m_g h' r 1 = m_g h r 1 ∧ (∀ j, m_g h' (m_g h r 0) j = m_g h (m_g h r 0) j) ∧ ∀ j, n_rg h' r j = n_rg h r j := by
  obtain ⟨p1, p2, p3, p4, p5, p6⟩ := P
  have l := n_wf_lt I.1 hr
  have rr := n_ref_row I hr
  have ka := (n_wf_row I.1 hr).2.1
  have e : ∀ j, m_g h' r j = m_g h r j := fun j => p2 r l.1 rr.1 (fun q => (p4 r q).1.2.1 hr) hn (fun s hs e => by have := (n_wf_row I.1 (p5 s hs)).2.1; rw [← e] at this; omega) j
  have e2 : ∀ j, m_g h' (m_g h r 0) j = m_g h (m_g h r 0) j := fun j => p2 _ l.2.1 rr.2 (fun q => (p4 _ q).1.2.2 r hr rfl) (fun q => by have := p5 _ q; omega) (fun s hs e => by
    by_cases c : s = r
    · subst c; exact hn hs
    · exact I.1.2.2.2.1 s r (p5 s hs) hr c e.symm) j
  refine ⟨by rw [(p1.1 r l.1).1]; exact hr, e 0, e 1, e2, fun j => ?_⟩
  unfold n_rg
  rw [e, e, e2]
/-- a safe cell that isn't touched -/
theorem n_sp_cell {h h' : m_H} {A R Tc Tf : List Int} (P : n_sp h h' A R Tc Tf) {b : Int} (hb : n_sf h b) (hr : b < 127 ∨ 312 ≤ b) (hA : b ∉ A) : (∀ j, m_g h' b j = m_g h b j) ∧ m_t h' b = m_t h b ∧ m_l h' b = m_l h b := by
  obtain ⟨p1, p2, p3, p4, p5, p6⟩ := P
  exact ⟨p2 b hb.1 hr hA (fun q => hb.2.1 (p5 b q)) (fun r hr e => hb.2.2 r (p5 r hr) e.symm), p1.1 b hb.1⟩
/-- a field of the reference that isn't touched; an array of it -/
theorem n_sp_f {h h' : m_H} {A R Tc Tf : List Int} (P : n_sp h h' A R Tc Tf) {k : Int} (hk : k ∉ Tf) : m_g h' 127 k = m_g h 127 k :=
  P.2.2.1 127 (by omega) (by omega) (fun q => by have := P.2.2.2.2.2 127 q; omega) k (fun q => hk q.2)
theorem n_sp_a {h h' : m_H} {A R Tc Tf : List Int} (P : n_sp h h' A R Tc Tf) {b : Int} (b1 : 127 < b) (b2 : b < 312) (hb : b ∉ Tc) (j : Int) : m_g h' b j = m_g h b j :=
  P.2.2.1 b (by omega) b2 hb j (fun q => by omega)
theorem n_Rhand_sp {h h' : m_H} {A R Tc Tf : List Int} (I : n_I h) (P : n_sp h h' A R Tc Tf) (c1 : 8 ∉ R) (c2 : 129 ∉ Tc) (c3 : 16 ∉ Tf) (X : n_Rhand h h) : n_Rhand h' h' := by
  have r := n_sp_row I P (n_t8 I.2) c1
  have f := n_sp_f P c3
  have a := n_sp_a P (by omega) (by omega) c2
  unfold n_Rhand at *
  rw [r.2.2.1, f]
  refine ⟨X.1, X.2.1, X.2.2.1, fun j j1 j2 => ?_⟩
  rw [r.2.2.2.2, a]
  exact X.2.2.2 j j1 j2
theorem n_Rtape_sp {h h' : m_H} {A R Tc Tf : List Int} (I : n_I h) (P : n_sp h h' A R Tc Tf) (c1 : 119 ∉ R) (c2 : 308 ∉ Tc) (c3 : 85 ∉ Tf) (X : n_Rtape h h) : n_Rtape h' h' := by
  have r := n_sp_row I P (n_t119 I.2) c1
  have f := n_sp_f P c3
  have a := n_sp_a P (by omega) (by omega) c2
  unfold n_Rtape at *
  rw [r.2.2.1, f]
  refine ⟨X.1, X.2.1, X.2.2.1, fun j j1 j2 => ?_⟩
  rw [r.2.2.2.2, a]
  exact X.2.2.2 j j1 j2
/-- no array of the strips, no field of theirs is touched -/
abbrev n_nos (Tc Tf : List Int) : Prop := (∀ b ∈ Tc, b ≠ 128 ∧ (b < 130 ∨ 148 < b)) ∧ ∀ k ∈ Tf, k ≠ 14 ∧ k ≠ 15 ∧ k ≠ 17 ∧ k ≠ 18 ∧ k ≠ 23 ∧ k ≠ 27
theorem n_nos_f {h h' : m_H} {A R Tc Tf : List Int} (P : n_sp h h' A R Tc Tf) (c : n_nos Tc Tf) : m_g h' 127 14 = m_g h 127 14 ∧ m_g h' 127 15 = m_g h 127 15 ∧ m_g h' 127 17 = m_g h 127 17 ∧ m_g h' 127 18 = m_g h 127 18 ∧ m_g h' 127 23 = m_g h 127 23 ∧ m_g h' 127 27 = m_g h 127 27 :=
  ⟨n_sp_f P (fun q => (c.2 _ q).1 rfl), n_sp_f P (fun q => (c.2 _ q).2.1 rfl), n_sp_f P (fun q => (c.2 _ q).2.2.1 rfl), n_sp_f P (fun q => (c.2 _ q).2.2.2.1 rfl), n_sp_f P (fun q => (c.2 _ q).2.2.2.2.1 rfl), n_sp_f P (fun q => (c.2 _ q).2.2.2.2.2 rfl)⟩
theorem n_nos_a {h h' : m_H} {A R Tc Tf : List Int} (P : n_sp h h' A R Tc Tf) (c : n_nos Tc Tf) {b : Int} (hb : b = 128 ∨ (130 ≤ b ∧ b ≤ 148)) (j : Int) : m_g h' b j = m_g h b j :=
  n_sp_a P (by omega) (by omega) (fun q => by have := c.1 b q; omega) j
theorem n_gs_sp {h h' : m_H} {A R Tc Tf : List Int} (P : n_sp h h' A R Tc Tf) (c : n_nos Tc Tf) (X : n_gs h) : n_gs h' := by
  obtain ⟨f1, f2, f3, f4, f5, f6⟩ := n_nos_f P c
  have a := fun b hb j => n_nos_a P c (b := b) hb j
  unfold n_gs n_shB n_strB n_macB at *
  simp only [f1, f2, f3, f4, f5, f6, a 128 (by omega), a 130 (by omega), a 131 (by omega), a 132 (by omega), a 133 (by omega), a 134 (by omega), a 135 (by omega), a 136 (by omega), a 137 (by omega), a 138 (by omega), a 139 (by omega), a 140 (by omega), a 141 (by omega), a 142 (by omega), a 143 (by omega), a 144 (by omega), a 145 (by omega), a 146 (by omega), a 147 (by omega), a 148 (by omega)]
  exact X
theorem n_Rsh_sp {h h' : m_H} {A R Tc Tf : List Int} (I : n_I h) (P : n_sp h h' A R Tc Tf) (c : n_nos Tc Tf) (cA : ∀ b ∈ A, (b < 2 ∨ 7 < b) ∧ m_t h b ≠ 8 ∧ m_t h b ≠ 0) (cR : ∀ r ∈ R, r < 312) (X : n_Rsh h h) : n_Rsh h' h' := by
  obtain ⟨f1, f2, f3, f4, f5, f6⟩ := n_nos_f P c
  have a := fun b hb j => n_nos_a P c (b := b) hb j
  have cl := fun b (hb : 2 ≤ b ∧ b ≤ 7) (hs : n_sf h b) => (n_sp_cell P hs (by omega) (fun q => by have := cA b q; omega)).1
  have e2 := cl 2 (by omega) (n_sfa I (by omega) (by rw [n_t2 I.2]; omega) (Or.inl (by rw [n_t2 I.2]; omega)))
  have e3 := cl 3 (by omega) (n_sfa I (by omega) (by rw [n_t3 I.2]; omega) (Or.inl (by rw [n_t3 I.2]; omega)))
  have e4 := cl 4 (by omega) (n_sfa I (by omega) (by rw [n_t4 I.2]; omega) (Or.inl (by rw [n_t4 I.2]; omega)))
  have e5 := cl 5 (by omega) (n_sfa I (by omega) (by rw [n_t5 I.2]; omega) (Or.inr (by rw [n_l5 I.2]; omega)))
  have e6 := cl 6 (by omega) (n_sfa I (by omega) (by rw [n_t6 I.2]; omega) (Or.inr (by rw [n_l6 I.2]; omega)))
  have e7 := cl 7 (by omega) (n_sfa I (by omega) (by rw [n_t7 I.2]; omega) (Or.inr (by rw [n_l7 I.2]; omega)))
  obtain ⟨x1, x2, x3, x4⟩ := X
  refine ⟨?_, fun i i1 i2 => ?_, fun i i1 i2 => ?_, fun j j1 j2 => ?_⟩
  · unfold n_shN at *
    rw [e2, e2, e2, e2, e2, e2, f1, f2, f3, f4, f5, f6]
    exact x1
  · rw [f1] at i2
    have S := x2 i i1 i2
    rw [e3]
    generalize m_g h 3 i = q at S ⊢
    unfold n_strip at S
    obtain ⟨⟨s1, s2, s3, s4⟩, S2⟩ := S
    have hq : n_sf h q := ⟨(I.1.1 q (by omega)).2, by omega, fun r hr e => by have := (n_wf_row I.1 hr).2.1; rw [e] at this; omega⟩
    have C := n_sp_cell P hq (by omega) (fun p => (cA q p).2.1 s1)
    have Rr := n_sp_row I P s3 (fun p => by have := cR _ p; omega)
    unfold n_strip
    rw [C.2.1, C.1, C.1, C.1, C.1, C.1, C.1, C.1, C.1, C.1, C.1, C.1, C.1, Rr.1, Rr.2.2.1]
    simp only [Rr.2.2.2.2, a 128 (by omega), a 130 (by omega), a 131 (by omega), a 132 (by omega), a 133 (by omega), a 134 (by omega), a 135 (by omega), a 136 (by omega), a 137 (by omega), a 138 (by omega), a 139 (by omega), a 140 (by omega), a 141 (by omega)]
    exact ⟨⟨s1, s2, trivial, s4⟩, S2⟩
  · rw [f5] at i2
    have S := x3 i i1 i2
    rw [e4]
    generalize m_g h 4 i = q at S ⊢
    unfold n_mach at S
    obtain ⟨⟨s1, s2⟩, S2⟩ := S
    have hq : n_sf h q := ⟨(I.1.1 q (by omega)).2, by omega, fun r hr e => by have := (n_wf_row I.1 hr).2.1; rw [e] at this; omega⟩
    have C := n_sp_cell P hq (by omega) (fun p => (cA q p).2.2 s1)
    unfold n_mach
    rw [C.2.1, C.1, C.1, C.1, C.1, a 142 (by omega), a 143 (by omega), a 144 (by omega), a 145 (by omega)]
    exact ⟨⟨s1, s2⟩, S2⟩
  · rw [f6] at j2
    rw [e5, e6, e7, a 146 (by omega), a 147 (by omega), a 148 (by omega)]
    exact x4 j j1 j2
theorem n_Rread_sp {h h' : m_H} {A R Tc Tf : List Int} (I : n_I h) (P : n_sp h h' A R Tc Tf) (c1 : 150 ∉ Tc) (c2 : 30 ∉ Tf) (cA : 10 ∉ A) (cA2 : 11 ∉ A) (X : n_Rread h h) : n_Rread h' h' := by
  have f := n_sp_f P c2
  have a := n_sp_a P (by omega) (by omega) c1
  have e1 := (n_sp_cell P (n_sfa I (a := 10) (by omega) (by rw [n_t10 I.2]; omega) (Or.inl (by rw [n_t10 I.2]; omega))) (by omega) cA).1
  have e2 := (n_sp_cell P (n_sfa I (a := 11) (by omega) (by rw [n_t11 I.2]; omega) (Or.inr (by rw [n_l11 I.2]; omega))) (by omega) cA2).1
  unfold n_Rread at *
  simp only [e1, e2, f, a]
  exact X
/-- score k of the reference, its orders and all that is known of it, is the same -/
def n_scS (h h' : m_H) (k : Int) : Prop := m_g h' 151 k = m_g h 151 k ∧ m_g h' 292 k = m_g h 292 k ∧ ∀ o, m_g h' (153 + k) o = m_g h (153 + k) o ∧ m_g h' (163 + k) o = m_g h (163 + k) o ∧ m_g h' (173 + k) o = m_g h (173 + k) o ∧ m_g h' (183 + k) o = m_g h (183 + k) o ∧ m_g h' (193 + k) o = m_g h (193 + k) o ∧ m_g h' (203 + k) o = m_g h (203 + k) o ∧ m_g h' (213 + k) o = m_g h (213 + k) o ∧ m_g h' (223 + k) o = m_g h (223 + k) o ∧ m_g h' (294 + k) o = m_g h (294 + k) o
/-- no array of the scores 0 .. 7 is touched -/
abbrev n_nosc (Tc : List Int) : Prop := ∀ b ∈ Tc, (b < 151 ∨ 231 < b ∨ b = 161 ∨ b = 171 ∨ b = 181 ∨ b = 191 ∨ b = 201 ∨ b = 211 ∨ b = 221 ∨ b = 231) ∧ b ≠ 292 ∧ (b < 294 ∨ 301 < b)
theorem n_nosc_S {h h' : m_H} {A R Tc Tf : List Int} (P : n_sp h h' A R Tc Tf) (c : n_nosc Tc) {k : Int} (h1 : 0 ≤ k) (h2 : k < 8) : n_scS h h' k := by
  have a := fun b (b1 : 127 < b) (b2 : b < 312) (hb : b ∉ Tc) j => n_sp_a P b1 b2 hb j
  refine ⟨a 151 (by omega) (by omega) (fun q => by have := c 151 q; omega) k, a 292 (by omega) (by omega) (fun q => by have := c 292 q; omega) k, fun o => ⟨?_, ?_, ?_, ?_, ?_, ?_, ?_, ?_, ?_⟩⟩ <;> exact a _ (by omega) (by omega) (fun q => by have := c _ q; omega) o
theorem n_ord_S {h h' : m_H} {k c o : Int} (S : n_scS h h' k) (e : ∀ j, m_g h' c j = m_g h c j) (X : n_ord h h k c o) : n_ord h' h' k c o := by
  unfold n_ord at *
  obtain ⟨s1, s2, s3⟩ := S
  simp only [e, (s3 o).1, (s3 o).2.1, (s3 o).2.2.1, (s3 o).2.2.2.1, (s3 o).2.2.2.2.1, (s3 o).2.2.2.2.2.1, (s3 o).2.2.2.2.2.2.1, (s3 o).2.2.2.2.2.2.2.1]
  exact X
theorem n_ordB_S {h h' : m_H} {k o : Int} (S : n_scS h h' k) (X : n_ordB h k o) : n_ordB h' k o := by
  obtain ⟨s1, s2, s3⟩ := S
  have e1 := fun o => (s3 o).1
  have e2 := fun o => (s3 o).2.1
  have e3 := fun o => (s3 o).2.2.1
  have e4 := fun o => (s3 o).2.2.2.1
  have e5 := fun o => (s3 o).2.2.2.2.1
  have e6 := fun o => (s3 o).2.2.2.2.2.1
  have e7 := fun o => (s3 o).2.2.2.2.2.2.1
  have e8 := fun o => (s3 o).2.2.2.2.2.2.2.1
  unfold n_ordB at *
  simp only [e1, e2, e3, e4, e5, e6, e7, e8]
  exact X
/-- a score of the component behind a call that touches none -/
theorem n_sp_sc {h h' : m_H} {A R Tc Tf : List Int} (I : n_I h) (P : n_sp h h' A R Tc Tf) (cA : ∀ b ∈ A, b < 312 ∨ m_t h b = 8 ∨ m_t h b = 0) {a : Int} (ha : m_t h a = 6) (l1 : 312 ≤ a) (l2 : 312 ≤ m_g h a 0) (l3 : 312 ≤ m_g h a 3) : m_t h' a = 6 ∧ (∀ j, m_g h' a j = m_g h a j) ∧ (∀ j, m_g h' (m_g h a 0) j = m_g h (m_g h a 0) j) ∧ (∀ j, m_g h' (m_g h a 3) j = m_g h (m_g h a 3) j) ∧ m_l h' (m_g h a 0) = m_l h (m_g h a 0) ∧ m_l h' (m_g h a 3) = m_l h (m_g h a 3) := by
  obtain ⟨q1, q2, q3, q4, q5⟩ := I.1.2.2.2.2 a ha
  have C0 := n_sp_cell P (b := a) ⟨(I.1.1 a (by omega)).2, by omega, fun r hr e => by have := (n_wf_row I.1 hr).2.1; rw [e] at this; omega⟩ (by omega) (fun q => by have := cA a q; omega)
  have C1 := n_sp_cell P (b := m_g h a 0) ⟨(I.1.1 _ (by omega)).2, by omega, fun r hr => (q5 r hr).1⟩ (by omega) (fun q => by have := cA _ q; omega)
  have C2 := n_sp_cell P (b := m_g h a 3) ⟨(I.1.1 _ (by omega)).2, by omega, fun r hr => (q5 r hr).2⟩ (by omega) (fun q => by have := cA _ q; omega)
  exact ⟨by rw [C0.2.1]; exact ha, C0.1, C1.1, C2.1, C1.2.2, C2.2.2⟩
theorem n_Rsc_sp {h h' : m_H} {A R Tc Tf : List Int} (I : n_I h) (P : n_sp h h' A R Tc Tf) (c : n_nosc Tc) (c2 : 43 ∉ Tf) (cA : ∀ b ∈ A, b ≠ 1 ∧ b ≠ 19 ∧ (b < 312 ∨ m_t h b = 8 ∨ m_t h b = 0)) (X : n_Rsc h h) : n_Rsc h' h' := by
  have f := n_sp_f P c2
  have e1 := (n_sp_cell P (n_sfa I (a := 1) (by omega) (by rw [n_t1 I.2]; omega) (Or.inl (by rw [n_t1 I.2]; omega))) (by omega) (fun q => (cA 1 q).1 rfl)).1
  have e19 := (n_sp_cell P (n_sfa I (a := 19) (by omega) (by rw [n_t19 I.2]; omega) (Or.inl (by rw [n_t19 I.2]; omega))) (by omega) (fun q => (cA 19 q).2.1 rfl)).1
  obtain ⟨x1, x2, x3, x4, x5, x6⟩ := X
  have T := fun k (k1 : 0 ≤ k) (k2 : k < m_g h 127 43) => by
    obtain ⟨⟨⟨s1, s2, s3, s4, s5⟩, S2⟩, S3⟩ := x4 k k1 k2
    exact n_sp_sc I P (fun b hb => (cA b hb).2.2) s1 s2 s3 s4
  refine ⟨by rw [e1, f]; exact x1, by rw [f]; exact x2, by rw [f]; exact x3, fun k k1 k2 => ?_, fun k q k1 k2 q1 q2 hn => ?_, fun q q0 q1 => ?_⟩
  · rw [f] at k2
    have S := n_nosc_S P c k1 (by omega)
    obtain ⟨⟨⟨s1, s2, s3, s4, s5⟩, t2, t3, t4, t5, t6⟩, u1, u2, u3, u4, u5⟩ := x4 k k1 k2
    obtain ⟨v1, v2, v3, v4, v5, v6⟩ := T k k1 k2
    rw [e19, S.1, S.2.1]
    refine ⟨?_, u1, u2, u3, u4, fun o o1 o2 => n_ordB_S S (u5 o o1 o2)⟩
    unfold n_score
    rw [v2, v2, v2, v2, v1, v5, S.1, S.2.1]
    refine ⟨⟨rfl, s2, s3, s4, s5⟩, t2, t3, t4, fun o o1 o2 => n_ord_S S v3 (t5 o o1 o2), fun m o o1 o2 => ?_⟩
    rw [v4, (S.2.2 o).2.2.2.2.2.2.2.2]
    exact t6 m o o1 o2
  · rw [f] at k2 q2
    rw [e19, e19, (T k k1 k2).2.1, (T q q1 q2).2.1, (T q q1 q2).2.1]
    exact x5 k q k1 k2 q1 q2 hn
  · rw [f] at q0
    rw [n_sp_a P (by omega) (by omega) (fun w => (c 292 w).2.1 rfl)]
    exact x6 q q0 q1
theorem n_off_S {h h' : m_H} {k : Int} (S : n_scS h h' k) : ∀ n, n_off h' k n = n_off h k n
  | 0 => rfl
  | n + 1 => by rw [n_off, n_off, n_off_S S n, (S.2.2 n).1, (S.2.2 n).2.2.2.2.2.2.1]
/-- nothing of the piece that was made last is touched -/
theorem n_Rpc_sp {h h' : m_H} {A R Tc Tf : List Int} (I : n_I h) (P : n_sp h h' A R Tc Tf) (S : ∀ k, 0 ≤ k → k < m_g h 127 43 → n_scS h h' k ∧ m_g h' 19 k = m_g h 19 k) (h43 : m_g h 127 43 ≤ m_g h' 127 43) (h23 : m_g h 127 23 ≤ m_g h' 127 23) (h142 : ∀ j, 0 ≤ j → j < m_g h 127 23 → m_g h' 142 j = m_g h 142 j)
    (c : ∀ b ∈ Tc, b < 285 ∨ 291 < b) (c2 : ∀ k ∈ Tf, k ≠ 60 ∧ k ≠ 61 ∧ k ≠ 62) (cA : ∀ b ∈ A, b ≠ 106 ∧ b ≠ 109 ∧ b ≠ 112 ∧ b ≠ 113) (cR : 107 ∉ R)
    (hB : ∀ k o, 0 ≤ k → k < m_g h 127 43 → 0 ≤ o → o < m_g h 151 k → n_ordB h k o) (X : n_Rpc h h) : n_Rpc h' h' := by
  have f := fun k (hk : k = 60 ∨ k = 61 ∨ k = 62) => n_sp_f P (k := k) (fun q => by have := c2 k q; omega)
  have a := fun b (b1 : 285 ≤ b) (b2 : b ≤ 291) j => n_sp_a P (b := b) (by omega) (by omega) (fun q => by have := c b q; omega) j
  have e106 := (n_sp_cell P (n_sfa I (a := 106) (by omega) (by rw [n_t106 I.2]; omega) (Or.inl (by rw [n_t106 I.2]; omega))) (by omega) (fun q => (cA _ q).1 rfl)).1
  have e109 := (n_sp_cell P (n_sfa I (a := 109) (by omega) (by rw [n_t109 I.2]; omega) (Or.inl (by rw [n_t109 I.2]; omega))) (by omega) (fun q => (cA _ q).2.1 rfl)).1
  have e112 := (n_sp_cell P (n_sfa I (a := 112) (by omega) (by rw [n_t112 I.2]; omega) (Or.inr (by rw [n_l112 I.2]; omega))) (by omega) (fun q => (cA _ q).2.2.1 rfl)).1
  have e113 := (n_sp_cell P (n_sfa I (a := 113) (by omega) (by rw [n_t113 I.2]; omega) (Or.inr (by rw [n_l113 I.2]; omega))) (by omega) (fun q => (cA _ q).2.2.2 rfl)).1
  have r := n_sp_row I P (n_t107 I.2) cR
  obtain ⟨x1, x2, x3, x4, x5⟩ := X
  refine ⟨by rw [e106, f 60 (by omega)]; exact x1, by rw [f 60 (by omega)]; exact x2, by rw [f 60 (by omega)]; omega, fun q => ?_, fun q => ?_⟩
  · rw [f 60 (by omega)] at q
    rw [e106, e109, r.2.2.1]
    exact x4 q
  · rw [f 60 (by omega)] at q ⊢
    have Y := x5 q
    obtain ⟨Sk, e19⟩ := S _ q x3
    have hBk := fun o o1 o2 => hB _ o q x3 o1 o2
    generalize m_g h 127 60 = k at Y Sk e19 q hBk ⊢
    have hoff := n_off_S Sk
    obtain ⟨s1, s2, s3⟩ := Sk
    have E1 := fun o => (s3 o).1
    have E2 := fun o => (s3 o).2.1
    have E3 := fun o => (s3 o).2.2.1
    have E4 := fun o => (s3 o).2.2.2.1
    have E5 := fun o => (s3 o).2.2.2.2.1
    have E7 := fun o => (s3 o).2.2.2.2.2.2.1
    have E8 := fun o => (s3 o).2.2.2.2.2.2.2.1
    unfold n_piece n_lenR at *
    simp only [e106, e112, e113, e19, s1, E1, E2, E3, E4, E5, E7, E8, hoff, r.2.2.1, r.2.2.2.2, f 61 (by omega), f 62 (by omega), a 285 (by omega) (by omega), a 286 (by omega) (by omega), a 287 (by omega) (by omega), a 288 (by omega) (by omega), a 289 (by omega) (by omega), a 290 (by omega) (by omega), a 291 (by omega) (by omega)]
    obtain ⟨y1, y2, y3, y4, y5, y6, y7, y8, y9⟩ := Y
    refine ⟨y1, y2, y3, y4, y5, y6, y7, y8, fun o o1 o2 => ?_⟩
    obtain ⟨z1, z2, z3, z4, z5⟩ := y9 o o1 o2
    refine ⟨z1, z2, z3, z4, fun v => ?_⟩
    obtain ⟨w1, w2⟩ := z5 v
    have hb := hBk o o1 o2
    unfold n_ordB at hb
    rw [h142 _ (by omega) w1]
    exact ⟨by omega, w2⟩
theorem n_isL_S {h h' : m_H} (e1 : m_g h' 127 14 = m_g h 127 14) (e2 : m_g h' 127 85 = m_g h 127 85) (e3 : ∀ j, m_g h' 308 j = m_g h 308 j) (e4 : ∀ j, m_g h' 128 j = m_g h 128 j) (e5 : ∀ j, m_g h' 130 j = m_g h 130 j) (e6 : ∀ j, m_g h' 131 j = m_g h 131 j) (e7 : ∀ j, m_g h' 133 j = m_g h 133 j) {m t L : Int} (X : n_isL h m t L) : n_isL h' m t L := by
  have wl : ∀ s w, n_wl h' s w = n_wl h s w := fun s w => by unfold n_wl; rw [e6]
  have v0 : ∀ s, n_smp h' s = n_smp h s := fun s => funext fun j => by unfold n_smp; rw [e4, e5]
  have v : ∀ s w i, n_wv h' s w i = n_wv h s w i := fun s w i => by unfold n_wv; rw [v0, e6]
  have ft : ∀ m s w, n_fit h' m s w = n_fit h m s w := fun m s w => funext fun t => funext fun p => by unfold n_fit; rw [e2, e3, wl, v]
  unfold n_isL n_run n_lay at *
  simp only [ft, e1, e2, e7, wl]
  exact X
theorem n_Rm_sp {h h' : m_H} {A R Tc Tf : List Int} {k : Int} (I : n_I h) (P : n_sp h h' A R Tc Tf) (c : n_nos Tc Tf) (c2 : 308 ∉ Tc) (c3 : 85 ∉ Tf) (e : m_g h' 2 11 = m_g h 2 11) (cA : 121 ∉ A) (cA2 : 124 ∉ A) (X : n_Rm h h k) : n_Rm h' h' (k + 1) := by
  have e121 := (n_sp_cell P (n_sfa I (a := 121) (by omega) (by rw [n_t121 I.2]; omega) (Or.inl (by rw [n_t121 I.2]; omega))) (by omega) cA).1
  have e124 := (n_sp_cell P (n_sfa I (a := 124) (by omega) (by rw [n_t124 I.2]; omega) (Or.inr (by rw [n_l124 I.2]; omega))) (by omega) cA2).1
  obtain ⟨f1, f2, f3, f4, f5, f6⟩ := n_nos_f P c
  have a := fun b hb j => n_nos_a P c (b := b) hb j
  have f85 := n_sp_f P c3
  unfold n_Rm at *
  rw [e121, e121, e, f85]
  obtain ⟨x1, x2, x3, x4, x5, x6⟩ := X
  refine ⟨x1, x2, x3, x4, by omega, fun q1 q2 t t1 t2 => ?_⟩
  rw [e124]
  exact n_isL_S f1 f85 (n_sp_a P (by omega) (by omega) c2) (a 128 (by omega)) (a 130 (by omega)) (a 131 (by omega)) (a 133 (by omega)) (x6 q1 q2 t t1 t2)
/-- all that a call leaves alone, by what it touches -/
theorem n_fr {h h' : m_H} {A R Tc Tf : List Int} {k : Int} (X : n_R h k) (P : n_sp h h' A R Tc Tf) :
    (n_nos Tc Tf → n_gs h') ∧ (8 ∉ R → 129 ∉ Tc → 16 ∉ Tf → n_Rhand h' h') ∧ (119 ∉ R → 308 ∉ Tc → 85 ∉ Tf → n_Rtape h' h') ∧
    (n_nos Tc Tf → (∀ b ∈ A, (b < 2 ∨ 7 < b) ∧ m_t h b ≠ 8 ∧ m_t h b ≠ 0) → (∀ r ∈ R, r < 312) → n_Rsh h' h') ∧
    (150 ∉ Tc → 30 ∉ Tf → 10 ∉ A → 11 ∉ A → n_Rread h' h') ∧
    (n_nosc Tc → 43 ∉ Tf → (∀ b ∈ A, b ≠ 1 ∧ b ≠ 19 ∧ (b < 312 ∨ m_t h b = 8 ∨ m_t h b = 0)) → n_Rsc h' h') ∧
    (n_nosc Tc → 43 ∉ Tf → 23 ∉ Tf → 142 ∉ Tc → (∀ b ∈ Tc, b < 285 ∨ 291 < b) → (∀ k ∈ Tf, k ≠ 60 ∧ k ≠ 61 ∧ k ≠ 62) → (∀ b ∈ A, b ≠ 19 ∧ b ≠ 106 ∧ b ≠ 109 ∧ b ≠ 112 ∧ b ≠ 113) → 107 ∉ R → n_Rpc h' h') ∧
    (n_nos Tc Tf → 308 ∉ Tc → 85 ∉ Tf → m_g h' 2 11 = m_g h 2 11 → 121 ∉ A → 124 ∉ A → n_Rm h' h' (k + 1)) := by
  obtain ⟨I, gs, bud, x1, x2, x3, x4, x5, x6, x7⟩ := X
  refine ⟨fun c => n_gs_sp P c gs, fun c1 c2 c3 => n_Rhand_sp I P c1 c2 c3 x1, fun c1 c2 c3 => n_Rtape_sp I P c1 c2 c3 x2, fun c1 c2 c3 => n_Rsh_sp I P c1 c2 c3 x3, fun c1 c2 c3 c4 => n_Rread_sp I P c1 c2 c3 c4 x4, fun c1 c2 c3 => n_Rsc_sp I P c1 c2 c3 x5, fun c1 c2 c3 c4 c5 c6 c7 c8 => ?_, fun c1 c2 c3 c4 c5 c6 => n_Rm_sp I P c1 c2 c3 c4 c5 c6 x7⟩
  have e19 := (n_sp_cell P (n_sfa I (a := 19) (by omega) (by rw [n_t19 I.2]; omega) (Or.inl (by rw [n_t19 I.2]; omega))) (by omega) (fun q => (c7 19 q).1 rfl)).1
  exact n_Rpc_sp I P (fun q q1 q2 => ⟨n_nosc_S P c1 q1 (by have := x5.2.2.1; omega), e19 q⟩) (by rw [n_sp_f P c2]; exact Int.le_refl _) (by rw [n_sp_f P c3]; exact Int.le_refl _) (fun j _ _ => n_sp_a P (by omega) (by omega) c4 j) c5 c6 (fun b hb => (c7 b hb).2) c8 (fun q o q1 q2 o1 o2 => (x5.2.2.2.1 q q1 q2).2.2.2.2.2 o o1 o2) x6
theorem n_R_more {h : m_H} {k : Int} (X : n_R h k) : n_R h (k + 1) := by
  obtain ⟨I, gs, bud, x1, x2, x3, x4, x5, x6, x7⟩ := X
  refine ⟨I, gs, n_bud_more bud, x1, x2, x3, x4, x5, x6, ?_⟩
  unfold n_Rm at *
  exact ⟨x7.1, x7.2.1, x7.2.2.1, x7.2.2.2.1, by have := x7.2.2.2.2.1; omega, x7.2.2.2.2.2⟩
/-- a call on both -/
def n_step (h : m_H) (k : Int) (tc tr : m_H → Option (Int × m_H)) : Prop := ∃ a h1 b h2, tc h = some (a, h1) ∧ tr h1 = some (b, h2) ∧ m_w a = m_w b ∧ n_R h2 (k + 1)
def n_stepb (h : m_H) (k : Int) (tc tr : m_H → Option (Bool × m_H)) : Prop := ∃ a h1 b h2, tc h = some (a, h1) ∧ tr h1 = some (b, h2) ∧ a = b ∧ n_R h2 (k + 1)
