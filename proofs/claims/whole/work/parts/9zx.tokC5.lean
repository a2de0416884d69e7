/-! CALLS: fault, score: the component reads all tokens -/
theorem n_rec_e {b : Int → Int} {n : Int} {x y : m_H} {i : Nat} (R : n_rec b n x i) (e : m_g y 12 i = m_g x 12 i ∧ m_g y 13 i = m_g x 13 i ∧ m_g y 14 i = m_g x 14 i) : n_rec b n y i := by
  unfold n_rec at *
  rw [e.1, e.2.1, e.2.2]
  exact R
theorem n_sk_n {b : Int → Int} {n p : Int} (h : p < n) (c : n_bl (b p) = false) : n_sk b n p = p := by
  unfold n_sk
  rw [n_past_s h, c]
  rfl
theorem n_sk_y {b : Int → Int} {n p : Int} (h : p < n) (c : n_bl (b p) = true) : n_sk b n p = n_sk b n (p + 1) := by
  unfold n_sk
  rw [n_past_s h, if_pos c]
theorem n_toksC {h : m_H} (X : n_txC h) : ∀ (m : Nat) (e : Int) (c : Nat) (x : m_H), m_g h 10 1 - e ≤ m → 0 ≤ e → e ≤ m_g h 10 1 → n_tkC h x → m_g x 10 6 = e → m_g x 10 5 = c → (c : Int) ≤ e → n_sk (m_g h 11) (m_g h 10 1) e = n_ps (m_g h 11) (m_g h 10 1) c → (∀ i : Nat, i < c → n_ps (m_g h 11) (m_g h 10 1) i < m_g h 10 1 ∧ n_rec (m_g h 11) (m_g h 10 1) x i) → ∃ x' c', t4_readTokens_c10 10 x = some ((), x') ∧ n_tkC h x' ∧ n_ps (m_g h 11) (m_g h 10 1) c' = m_g h 10 1 ∧ (∀ i : Nat, i < c' → n_ps (m_g h 11) (m_g h 10 1) i < m_g h 10 1) ∧ ∀ i : Nat, i ≤ c' → n_rec (m_g h 11) (m_g h 10 1) x' i := by
  have X' := X
  obtain ⟨x0, x1, x2⟩ := X'
  have done : ∀ (c : Nat) (x : m_H), n_tkC h x → m_g x 10 6 = m_g h 10 1 → m_g x 10 5 = c → (c : Int) ≤ m_g h 10 1 → n_sk (m_g h 11) (m_g h 10 1) (m_g h 10 1) = n_ps (m_g h 11) (m_g h 10 1) c → (∀ i : Nat, i < c → n_ps (m_g h 11) (m_g h 10 1) i < m_g h 10 1 ∧ n_rec (m_g h 11) (m_g h 10 1) x i) → ∃ x' c', t4_readTokens_c10 10 x = some ((), x') ∧ n_tkC h x' ∧ n_ps (m_g h 11) (m_g h 10 1) c' = m_g h 10 1 ∧ (∀ i : Nat, i < c' → n_ps (m_g h 11) (m_g h 10 1) i < m_g h 10 1) ∧ ∀ i : Nat, i ≤ c' → n_rec (m_g h 11) (m_g h 10 1) x' i := fun c x S e6 e5 ce es rc => by
    have sn : n_sk (m_g h 11) (m_g h 10 1) (m_g h 10 1) = m_g h 10 1 := n_past_e (Int.le_refl _)
    rw [sn] at es
    obtain ⟨x', f1, S', f2, f3, ⟨f4, f5, f6⟩, f7⟩ := n_addC (p := m_g h 10 1) (kd := 27) (v := -1) S e5 (by omega) (by omega)
    refine ⟨x', c, ?_, S', es.symm, fun i hi => (rc i hi).1, fun i hi => ?_⟩
    · have e1 := S.2.2 10 1 (by omega) (by omega)
      rw [t4_readTokens_c10, if_pos (n_t10 S.1.2), e6, e1, if_neg (by omega), f1, n_bs]
    · by_cases z : i = c
      · rw [z]
        unfold n_rec n_kT9
        rw [← es, f4, f5, if_pos (Int.le_refl _)]
        exact ⟨rfl, rfl, fun w => by omega⟩
      · exact n_rec_e (rc i (by omega)).2 (f7 i (by omega))
  intro m
  induction m with
  | zero =>
    intro e c x hm e0 e1 S e6 e5 ce es rc
    have ee : e = m_g h 10 1 := by omega
    subst ee
    exact done c x S e6 e5 ce es rc
  | succ m ih =>
    intro e c x hm e0 e1 S e6 e5 ce es rc
    by_cases z : e = m_g h 10 1
    · subst z
      exact done c x S e6 e5 ce es rc
    · have b := x2 e e0 (by omega)
      have r1 := S.2.2 10 1 (by omega) (by omega)
      obtain ⟨S6, a1, a2, a3⟩ := n_tkC_6 S (e + 1)
      -- a token has come
      have go : ∀ (x1 y : m_H) (kd v e2 : Int), n_came h y x1 c e kd v e2 → (∀ i, m_g y 12 i = m_g x 12 i ∧ m_g y 13 i = m_g x 13 i ∧ m_g y 14 i = m_g x 14 i) → n_bl (m_g h 11 e) = false → e2 = n_eK (m_g h 11) (m_g h 10 1) e → e < e2 → e2 ≤ m_g h 10 1 → kd = n_kT9 (m_g h 11) (m_g h 10 1) e → ((n_lt (m_g h 11 e) = true ∧ e2 - e ≤ 6) ∨ (n_lt (m_g h 11 e) = false ∧ n_dg (m_g h 11 e) = true) → v = n_vT9 (m_g h 11) (m_g h 10 1) e) → ∃ x' c', t4_readTokens_c10 10 x1 = some ((), x') ∧ n_tkC h x' ∧ n_ps (m_g h 11) (m_g h 10 1) c' = m_g h 10 1 ∧ (∀ i : Nat, i < c' → n_ps (m_g h 11) (m_g h 10 1) i < m_g h 10 1) ∧ ∀ i : Nat, i ≤ c' → n_rec (m_g h 11) (m_g h 10 1) x' i := fun x1 y kd v e2 Cm ey nb he lt le hk hv => by
        obtain ⟨S1, w1, w2, ⟨w3, w4, w5⟩, w6⟩ := Cm
        have pe : n_ps (m_g h 11) (m_g h 10 1) c = e := by rw [← es, n_sk_n (by omega) nb]
        refine ih e2 (c + 1) x1 (by omega) (by omega) le S1 w2 (by rw [w1]; omega) (by omega) ?_ (fun i hi => ?_)
        · show _ = n_sk (m_g h 11) (m_g h 10 1) (n_eK (m_g h 11) (m_g h 10 1) (n_ps (m_g h 11) (m_g h 10 1) c))
          rw [pe, he]
        · by_cases q : i = c
          · rw [q, pe]
            refine ⟨by omega, ?_⟩
            unfold n_rec
            rw [pe, w3, w4, w5]
            exact ⟨rfl, hk, fun _ hw => hv (by rw [he]; exact hw)⟩
          · have old := rc i (by omega)
            obtain ⟨u1, u2, u3⟩ := w6 i (by omega)
            obtain ⟨t1, t2, t3⟩ := ey i
            exact ⟨old.1, n_rec_e old.2 ⟨u1.trans t1, u2.trans t2, u3.trans t3⟩⟩
      have ey : ∀ i, m_g (m_p x 10 6 (e + 1)) 12 i = m_g x 12 i ∧ m_g (m_p x 10 6 (e + 1)) 13 i = m_g x 13 i ∧ m_g (m_p x 10 6 (e + 1)) 14 i = m_g x 14 i := fun i => ⟨a3 _ _ (by omega), a3 _ _ (by omega), a3 _ _ (by omega)⟩
      have pl := n_past_b n_lt (m_g h 11) (m_g h 10 1 - (e + 1)).toNat (e + 1)
      have pd := n_past_b n_dg (m_g h 11) (m_g h 10 1 - (e + 1)).toNat (e + 1)
      rw [t4_readTokens_c10, if_pos (n_t10 S.1.2), e6, r1, m_w_of (x := e) (by omega) (by omega), m_w_of (x := m_g h 10 1) (by omega) (by omega), if_pos (by omega), n_bs, n_byteC X S e0 (by omega), n_bs]
      dsimp only
      rw [if_pos (n_t10 S.1.2), n_bs, e6, n_isLetterC _ _ (by omega) (by omega), n_bs]
      dsimp only
      by_cases cl : n_lt (m_g h 11 e) = true
      · have dl := of_decide_eq_true cl
        have nb : n_bl (m_g h 11 e) = false := decide_eq_false (by omega)
        obtain ⟨x1, v, f1, Cm, fv⟩ := n_readWordC X S6 (c := c) (p := e) (a2.trans e5) (by omega) (by omega) e0 (by omega) a1
        rw [if_pos cl, if_pos (n_t10 S6.1.2), f1, n_bs]
        have he : n_eK (m_g h 11) (m_g h 10 1) e = n_past n_lt (m_g h 11) (m_g h 10 1 - (e + 1)).toNat (e + 1) := by unfold n_eK; rw [if_pos cl]
        refine go x1 _ _ v _ Cm ey nb he.symm (by omega) (by omega) ?_ (fun hw => ?_)
        · unfold n_kT9
          rw [if_neg (by omega), if_pos cl, he]
        · unfold n_vT9
          rw [if_pos cl]
          rcases hw with w | w
          · exact fv w.2
          · rw [cl] at w; cases w.1
      · rw [if_neg cl, n_isDigitC _ _ (by omega) (by omega), n_bs]
        dsimp only
        by_cases cd : n_dg (m_g h 11 e) = true
        · have dl := of_decide_eq_true cd
          have nb : n_bl (m_g h 11 e) = false := decide_eq_false (by omega)
          obtain ⟨x1, f1, Cm⟩ := n_readNumC X S6 (c := c) (p := e) (a2.trans e5) (by omega) (by omega) e0 (by omega) a1 cd
          have he : n_eK (m_g h 11) (m_g h 10 1) e = n_past n_dg (m_g h 11) (m_g h 10 1 - (e + 1)).toNat (e + 1) := by unfold n_eK; rw [if_neg cl, if_pos cd]
          rw [if_pos cd, if_pos (n_t10 S6.1.2), f1, n_bs]
          refine go x1 _ _ _ _ Cm ey nb he.symm (by omega) (by omega) ?_ (fun _ => ?_)
          · unfold n_kT9
            rw [if_neg (by omega), if_neg cl, if_pos cd]
          · unfold n_vT9
            rw [if_neg cl]
        · have he : n_eK (m_g h 11) (m_g h 10 1) e = e + 1 := by unfold n_eK; rw [if_neg cl, if_neg cd]
          have blank : n_bl (m_g h 11 e) = true → ∃ x' c', t4_readTokens_c10 10 (m_p x 10 6 (e + 1)) = some ((), x') ∧ n_tkC h x' ∧ n_ps (m_g h 11) (m_g h 10 1) c' = m_g h 10 1 ∧ (∀ i : Nat, i < c' → n_ps (m_g h 11) (m_g h 10 1) i < m_g h 10 1) ∧ ∀ i : Nat, i ≤ c' → n_rec (m_g h 11) (m_g h 10 1) x' i := fun bl => ih (e + 1) c _ (by omega) (by omega) (by omega) S6 a1 (a2.trans e5) (by omega) (by rw [← n_sk_y (by omega) bl]; exact es) (fun i hi => ⟨(rc i hi).1, n_rec_e (rc i hi).2 (ey i)⟩)
          rw [if_neg cd, m_w_of (x := m_g h 11 e) (by omega) (by omega)]
          by_cases c32 : m_g h 11 e = 32
          · rw [if_pos c32]
            exact blank (decide_eq_true (Or.inl c32))
          · rw [if_neg c32]
            by_cases c10 : m_g h 11 e = 10
            · rw [if_pos c10]
              exact blank (decide_eq_true (Or.inr c10))
            · have nb : n_bl (m_g h 11 e) = false := decide_eq_false (by omega)
              rw [if_neg c10, n_isSignC _ _ (by omega) (by omega), n_bs]
              dsimp only
              by_cases cs : n_sgn (m_g h 11 e) = true
              · obtain ⟨x1, f1, Cm⟩ := n_cameC (p := e) (kd := m_g h 11 e) (v := -1) (e := e + 1) S e5 (by omega) (by omega)
                rw [if_pos cs, if_pos (n_t10 S6.1.2), f1, n_bs]
                refine go x1 x _ _ _ Cm (fun _ => ⟨rfl, rfl, rfl⟩) nb he.symm (by omega) (by omega) ?_ (fun hw => ?_)
                · unfold n_kT9
                  rw [if_neg (by omega), if_neg cl, if_neg cd, if_pos cs]
                · rcases hw with w | w
                  · exact absurd w.1 cl
                  · exact absurd w.2 cd
              · obtain ⟨x1, f1, Cm⟩ := n_cameC (p := e) (kd := 26) (v := -1) (e := e + 1) S e5 (by omega) (by omega)
                rw [if_neg cs, if_pos (n_t10 S6.1.2), f1, n_bs]
                refine go x1 x _ _ _ Cm (fun _ => ⟨rfl, rfl, rfl⟩) nb he.symm (by omega) (by omega) ?_ (fun hw => ?_)
                · unfold n_kT9
                  rw [if_neg (by omega), if_neg cl, if_neg cd, if_neg cs]
                · rcases hw with w | w
                  · exact absurd w.1 cl
                  · exact absurd w.2 cd
