/-! CALLS: turns, turnOf: the reference's least turns -/
def n_vM (g gg : m_H) (k : Int) (V : Nat → Int) : Prop := n_vT g gg k (m_g g 151 k).toNat ∧ ∀ D : Nat, D < 2 ^ n_cn g k (m_g g 151 k).toNat - 1 → m_g gg 305 D = 0 ∨ m_g gg 305 D = V D
theorem n_vM_305 {g gg : m_H} {k v : Int} {V : Nat → Int} {D : Nat} (X : n_vM g gg k V) (hv : v = 0 ∨ v = V D) : n_vM g (m_p gg 305 D v) k V ∧ ∀ j, m_g (m_p gg 305 D v) 306 j = m_g gg 306 j := by
  obtain ⟨⟨⟨⟨I, g2, e⟩, s1, s2⟩, s3⟩, s4⟩ := X
  refine ⟨⟨⟨⟨⟨n_I_pa I (Or.inl (n_t305 I.2)), g2, fun b j h1 h2 => by rw [n_gp_n (by omega)]; exact e b j h1 h2⟩, by rw [n_gp_n (by omega)]; exact s1, fun i hi => by rw [n_gp_n (by omega)]; exact s2 i hi⟩, fun i hi => by rw [n_gp_n (by omega)]; exact s3 i hi⟩, fun E hE => ?_⟩, fun j => n_gp_n (by omega)⟩
  by_cases c : E = D
  · rw [c, n_gp_y ⟨rfl, rfl⟩]
    exact hv
  · rw [n_gp_n (by omega)]
    exact s4 E hE
theorem n_leastR {g hq : m_H} {k a : Int} (C : n_scc hq g k a) (M : 0 ≤ m_g g 127 23 ∧ m_g g 127 23 ≤ 4) (c9 : n_cn g k (m_g g 151 k).toNat ≤ 9) {V : Nat → Int} (X : n_Vs 1000 (n_vP g k (m_g g 151 k).toNat) (2 ^ n_cn g k (m_g g 151 k).toNat - 1) V) : ∀ (q D : Nat) (gg : m_H), D < 2 ^ n_cn g k (m_g g 151 k).toNat → n_rk D (n_cn g k (m_g g 151 k).toNat) < q → n_vM g gg k V → ∃ g', t11_least_D q 127 k D gg = some (V D, g') ∧ n_vM g g' k V ∧ ∀ j, m_g g' 306 j = m_g gg 306 j := by
  have p9 := n_pow9 c9
  intro q
  induction q with
  | zero => intro D gg hD hr; omega
  | succ q IH =>
    intro D gg hD hr S0
    have fn := n_Vs_fin X p9.2 (2 ^ n_cn g k (m_g g 151 k).toNat) D (by omega) hD
    have fnAll := fun (E : Nat) (hE : E < 2 ^ n_cn g k (m_g g 151 k).toNat) => n_Vs_fin X p9.2 (2 ^ n_cn g k (m_g g 151 k).toNat) E (by omega) hE
    have I := S0.1.1.1.1
    have s1 := S0.1.1.2.1
    have l5 := n_l305 I.2
    have eF : ((2 ^ n_cn g k (m_g g 151 k).toNat : Nat) : Int) - 1 = ((2 ^ n_cn g k (m_g g 151 k).toNat - 1 : Nat) : Int) := by omega
    show ∃ g', t11_least_b (t11_least_D q) 127 k D gg = some (V D, g') ∧ _
    unfold t11_least_b
    rw [if_pos (n_t127 I.2), s1, n_shlN (by omega), eF]
    generalize hp : 2 ^ n_cn g k (m_g g 151 k).toNat = p at *
    rw [m_w_of (x := (D : Int)) (by omega) (by omega), m_w_of (x := ((p - 1 : Nat) : Int)) (by omega) (by omega)]
    by_cases cF : D = p - 1
    · refine ⟨gg, ?_, S0, fun _ => rfl⟩
      rw [if_pos (by omega), cF, X.1]
    · rw [if_neg (by omega), n_p127_77 I.2, if_pos ⟨n_t305 I.2, by omega, by omega⟩]
      have memo := S0.2 D (by omega)
      have pos : 1 ≤ V D ∧ V D ≤ 1000 := by omega
      rw [m_w_of (x := m_g gg 305 D) (by omega) (by omega)]
      by_cases cm : m_g gg 305 D = 0
      · rw [if_pos cm]
        -- what is left
        have eLf : m_and ((p - 1 : Nat) : Int) (m_xor (D : Int) (-1)) = (((p - 1) &&& (2 ^ 32 - (D + 1)) : Nat) : Int) := by
          rw [n_xorN (by omega), n_andN (X := p - 1) (Y := 2 ^ 32 - (D + 1)) (by omega) (by show (-1 - (D : Int)) % 4294967296 = ((4294967296 - (D + 1) : Nat) : Int); omega)]
        have bLf : ∀ i, ((p - 1) &&& (2 ^ 32 - (D + 1))).testBit i = true ↔ (i < n_cn g k (m_g g 151 k).toNat ∧ D.testBit i = false) := fun i => by
          rw [Nat.testBit_and, ← hp, Nat.testBit_two_pow_sub_one, Nat.testBit_two_pow_sub_succ (show D < 2 ^ 32 by omega), Bool.and_eq_true, Bool.and_eq_true, decide_eq_true_eq, decide_eq_true_eq, Bool.not_eq_true']
          constructor
          · exact fun z => ⟨z.1, z.2.2⟩
          · exact fun z => ⟨z.1, by omega, z.2⟩
        have lLf : (p - 1) &&& (2 ^ 32 - (D + 1)) ≤ p - 1 := Nat.and_le_left
        rw [eLf, n_bs]
        generalize (p - 1) &&& (2 ^ 32 - (D + 1)) = Lf at *
        have toR : ∀ T, n_vP g k (m_g g 151 k).toNat D T → n_sub T Lf := fun T hT j hj => (bLf j).mpr ⟨(hT.2.1 j hj).1, (hT.2.1 j hj).2.1⟩
        have loop : ∀ (m S : Nat) (L : Int) (x : m_H), S ≤ m → n_sub S Lf → 0 ≤ L → L ≤ 1000 → (∀ T, n_vP g k (m_g g 151 k).toNat D T → S < T → L ≤ V (D ||| T) + 1) → (L = 1000 ∨ ∃ T, n_vP g k (m_g g 151 k).toNat D T ∧ L = V (D ||| T) + 1) → n_vM g x k V → ∃ g', t11_least_x52 (t11_least_D q) 52 127 k D L Lf S x = some (V D, g') ∧ n_vM g g' k V ∧ ∀ j, m_g g' 306 j = m_g x 306 j := by
          intro m
          induction m with
          | zero =>
            intro S L x hm hS L0 L1 lo at' Sx
            have eS : S = 0 := by omega
            subst eS
            have Ix := Sx.1.1.1.1
            have eL : L = V D := n_mn_u ⟨L1, fun T hT => lo T hT (by have := hT.1; omega), at'⟩ (X.2 D (by omega))
            have := n_l305 Ix.2
            refine ⟨m_p x 305 D L, ?_, n_vM_305 Sx (Or.inr eL)⟩
            rw [t11_least_x52, if_pos rfl, if_neg (by rw [m_w_of (by omega) (by omega)]; omega), if_pos (n_t127 Ix.2), n_p127_77 Ix.2, m_w_of (x := (D : Int)) (by omega) (by omega), if_pos ⟨n_t305 Ix.2, by omega, by omega⟩, n_bs, eL]
          | succ m ih =>
            intro S L x hm hS L0 L1 lo at' Sx
            have Ix := Sx.1.1.1.1
            by_cases z : S = 0
            · subst z
              have eL : L = V D := n_mn_u ⟨L1, fun T hT => lo T hT (by have := hT.1; omega), at'⟩ (X.2 D (by omega))
              have := n_l305 Ix.2
              refine ⟨m_p x 305 D L, ?_, n_vM_305 Sx (Or.inr eL)⟩
              rw [t11_least_x52, if_pos rfl, if_neg (by rw [m_w_of (by omega) (by omega)]; omega), if_pos (n_t127 Ix.2), n_p127_77 Ix.2, m_w_of (x := (D : Int)) (by omega) (by omega), if_pos ⟨n_t305 Ix.2, by omega, by omega⟩, n_bs, eL]
            · have Sle := n_sub_le _ _ hS
              have S2 : n_sub ((S - 1) &&& Lf) Lf := fun j hj => by
                rw [Nat.testBit_and, Bool.and_eq_true] at hj
                exact hj.2
              have S3 : (S - 1) &&& Lf ≤ S - 1 := Nat.and_le_left
              have below : ∀ T, n_vP g k (m_g g 151 k).toNat D T → (S - 1) &&& Lf < T → T = S ∨ S < T := fun T hT lt => by
                by_cases w : T < S
                · have := n_next Lf S T hS (toR T hT) w
                  omega
                · omega
              have e95 : ∀ L' y, t11_least_x52 (t11_least_D q) 95 127 k D L' Lf S y = t11_least_x52 (t11_least_D q) 52 127 k D L' Lf ((S - 1) &&& Lf : Nat) y := fun L' y => by
                rw [t11_least_x52, if_neg (by omega), if_pos rfl, show (S : Int) - 1 = ((S - 1 : Nat) : Int) by omega, n_andN (Y := Lf) (by omega) (by omega), n_bs]
              obtain ⟨r, er, hr2⟩ := n_canR C M Sx.1 c9 (S := S) (D := D) (by omega) (by omega)
              rw [t11_least_x52, if_pos rfl, m_w_of (x := (S : Int)) (by omega) (by omega), if_pos (by omega), if_pos (n_t127 Ix.2), er, n_bs]
              dsimp only
              by_cases cr : r = true
              · have v := hr2.mp cr
                have PS : n_vP g k (m_g g 151 k).toNat D S := ⟨z, fun i hi => ⟨((bLf i).mp (hS i hi)).1, ((bLf i).mp (hS i hi)).2, v.2 i ((bLf i).mp (hS i hi)).1 hi⟩, v.1⟩
                have u := n_val_up PS (by rw [hp]; omega)
                rw [hp] at u
                have rk := (n_rk_or D S (n_cn g k (m_g g 151 k).toNat)).2 (by
                  by_cases ex : ∃ i, S.testBit i = true
                  · obtain ⟨i, hi⟩ := ex
                    exact ⟨i, ((bLf i).mp (hS i hi)).1, hi, ((bLf i).mp (hS i hi)).2⟩
                  · exfalso
                    apply z
                    apply Nat.eq_of_testBit_eq
                    intro i
                    rw [Nat.zero_testBit]
                    cases hx : S.testBit i
                    · rfl
                    · exact absurd ⟨i, hx⟩ ex)
                have f2 := fnAll (D ||| S) u.2
                obtain ⟨y1, e1, Y1, w1⟩ := IH (D ||| S) x u.2 (by omega) Sx
                rw [if_pos cr, if_pos (n_t127 Ix.2), n_orN (by omega) (by omega), e1, n_bs]
                dsimp only
                rw [m_w_of (x := V (D ||| S) + 1) (by omega) (by omega), m_w_of (x := L) (by omega) (by omega)]
                by_cases cl : V (D ||| S) + 1 < L
                · obtain ⟨y2, e2, Y2, w2⟩ := IH (D ||| S) y1 u.2 (by omega) Y1
                  rw [if_pos cl, if_pos (n_t127 Y1.1.1.1.1.2), e2, n_bs]
                  dsimp only
                  rw [n_bs, e95]
                  obtain ⟨g', f1, f3, f4⟩ := ih ((S - 1) &&& Lf) (V (D ||| S) + 1) y2 (by omega) S2 (by omega) (by omega) (fun T hT lt => by
                    rcases below T hT lt with w | w
                    · rw [w]; omega
                    · have := lo T hT w
                      omega) (Or.inr ⟨S, PS, rfl⟩) Y2
                  exact ⟨g', f1, f3, fun j => by rw [f4, w2, w1]⟩
                · rw [if_neg cl, e95]
                  obtain ⟨g', f1, f3, f4⟩ := ih ((S - 1) &&& Lf) L y1 (by omega) S2 L0 L1 (fun T hT lt => by
                    rcases below T hT lt with w | w
                    · rw [w]; omega
                    · exact lo T hT w) at' Y1
                  exact ⟨g', f1, f3, fun j => by rw [f4, w1]⟩
              · rw [if_neg cr, e95]
                exact ih ((S - 1) &&& Lf) L x (by omega) S2 L0 L1 (fun T hT lt => by
                  rcases below T hT lt with w | w
                  · rw [w] at hT
                    exact absurd (hr2.mpr ⟨hT.2.2, fun i _ hi => (hT.2.1 i hi).2.2⟩) cr
                  · exact lo T hT w) at' Sx
        exact loop Lf Lf 1000 gg (Nat.le_refl _) (fun j hj => hj) (by omega) (by omega) (fun T hT lt => by
          have := n_sub_le _ _ (toR T hT)
          omega) (Or.inl rfl) S0
      · rw [if_neg cm]
        exact ⟨gg, by rw [memo.resolve_left cm], S0, fun _ => rfl⟩
