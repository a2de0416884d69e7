/-! CALLS: near, rivals: the end -/
theorem n_finN {h hh g2 : m_H} {k : Int} {st : Int × Int × Int × Int × Int} (X : n_R h k) (C : n_cI h hh k st) (KR : n_kr hh g2 [149, 309] [86, 87, 88, 89, 90, 91]) : n_R g2 (k + 1) := by
  have X' := X
  obtain ⟨I, gs, bud, x1, x2, x3, x4, x5, x6, x7⟩ := X'
  obtain ⟨J, K, Bu, F, Q⟩ := C
  have t121 := n_t121 I.2
  have t122 := n_t122 I.2
  have s121 : n_sf h 121 := n_sfa I (by omega) (by omega) (Or.inl (by omega))
  have P : n_sp h g2 [121] [122] [149, 309] [86, 87, 88, 89, 90, 91] := n_sp_of I K KR (n_in1 ⟨s121, Or.inl (by omega)⟩) (n_in1 t122)
  have nos : n_nos [149, 309] [86, 87, 88, 89, 90, 91] := ⟨by decide, by decide⟩
  obtain ⟨g0, g1, g2', g3, g4, g5, g6, g7⟩ := n_fr X P
  have e2 := (n_sp_cell P (n_sf2 I) (by omega) (by decide)).1
  have e124 := (n_sp_cell P (n_sfa I (a := 124) (by omega) (by rw [n_t124 I.2]; omega) (Or.inr (by rw [n_l124 I.2]; omega))) (by omega) (by decide)).1
  have e121 : ∀ j, j < 3 ∨ 7 < j → m_g g2 121 j = m_g h 121 j := fun j hj => by rw [n_kr_comp KR (by omega), F j hj]
  have a := fun b hb j => n_nos_a P nos (b := b) hb j
  have I2 : n_I g2 := n_kr_I J KR (fun b hb => by
    simp at hb
    rcases hb with e | e <;> rw [e]
    · exact Or.inl (n_t149 J.2)
    · exact Or.inl (n_t309 J.2)) rfl
  exact ⟨I2, g0 nos, n_bud_more (n_bud_same J KR.1 (fun r hr => n_kr_comp KR (n_ref_row J hr).1 0) Bu), g1 (by decide) (by decide) (by decide), g2' (by decide) (by decide) (by decide), g3 nos (n_in1 ⟨Or.inr (by omega), by omega, by omega⟩) (n_in1 (by omega)), g4 (by decide) (by decide) (by decide) (by decide), g5 (by decide) (by decide) (n_in1 ⟨by omega, by omega, Or.inl (by omega)⟩), g6 (by decide) (by decide) (by decide) (by decide) (by decide) (by decide) (n_in1 (by omega)) (by decide), n_Rm_old (e121 11 (by omega)) (e121 12 (by omega)) (e2 11) e124 (n_sp_f P (by decide)) (n_sp_f P (by decide)) (n_sp_a P (by omega) (by omega) (by decide)) (a 128 (by omega)) (a 130 (by omega)) (a 131 (by omega)) (a 133 (by omega)) x7⟩
/-- both searches, one behind the other -/
theorem n_both {h : m_H} {k t n m : Int} (X : n_R h k) (t1 : -2147483648 ≤ t) (t2 : t < 2147483648) (a1 : -2147483648 ≤ n) (a2 : n < 2147483648) (b1 : -2147483648 ≤ m) (b2 : m < 2147483648) : ∃ b h2 g2 st, t1_search 121 t n m h = some (b, h2) ∧ t11_nears 127 t n m h2 = some (b, g2) ∧ n_I h2 ∧ n_I g2 ∧ n_R g2 (k + 1) ∧ n_R h2 (k + 1) ∧ (b = true → 0 < st.1 ∧ n_stC h2 st ∧ n_stR g2 st) := by
  have X' := X
  obtain ⟨I, gs, bud, x1, x2, x3, x4, x5, x6, x7⟩ := X'
  obtain ⟨cy, cn, C0⟩ := n_searchC I x3 gs x2 bud t1 t2 a1 a2 b1 b2
  have KR0 : ∀ x : m_H, n_kr x x [149, 309] [86, 87, 88, 89, 90, 91] := fun x => n_kr_mono n_kr_rfl n_no n_no (by decide)
  by_cases q : n_asked h t n m
  · obtain ⟨h2, e1, C⟩ := cy q
    have R2 := n_finN X C (KR0 h2)
    have R2' := R2
    obtain ⟨I2, gs2, -, -, T2, -⟩ := R2'
    obtain ⟨-, -, ref, -⟩ := n_cI_sh I x3 gs C
    have q2 : n_asked h2 t n m := by unfold n_asked at *; rw [ref 127 85 (by omega) (by omega)]; exact q
    obtain ⟨g2, e2, Cr⟩ := (n_searchR I2 gs2 T2 t1 t2 a1 a2 b1 b2).1 q2
    have ef : n_found h2 t n m = n_found h t n m := by
      unfold n_found
      rw [ref 127 14 (by omega) (by omega), n_stsF_S (fun b j h1 h2' => ref b j (by omega) h2')]
    rw [ef] at e2 Cr
    exact ⟨_, h2, g2, n_found h t n m, e1, e2, C.1, Cr.1, n_finN X C Cr.2.1, R2, fun hb => ⟨of_decide_eq_true hb, C.2.2.2.2, Cr.2.2⟩⟩
  · have e1 := cn q
    have R2 := n_finN X C0 (KR0 _)
    have R2' := R2
    obtain ⟨I2, gs2, -, -, T2, -⟩ := R2'
    have q2 : ¬ n_asked (m_p h 121 7 0) t n m := by unfold n_asked at *; rw [n_gp_n (by omega)]; exact q
    have e2 := (n_searchR I2 gs2 T2 t1 t2 a1 a2 b1 b2).2 q2
    exact ⟨false, _, _, (0, 0, 0, 0, 0), e1, e2, I2, I2, R2, R2, fun hb => absurd hb (by decide)⟩
