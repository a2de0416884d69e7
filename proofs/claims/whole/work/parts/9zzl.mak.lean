/-! CALLS: fault, score: both parse: a making, its end -/
theorem n_bas {α β γ : Type} (m : Option α) (f : α → Option β) (g : β → Option γ) : ((m >>= f) >>= g) = (m >>= fun a => f a >>= g) := by cases m <;> rfl
theorem n_bif {α β : Type} {p : Prop} [Decidable p] (hp : p) (m : Option α) (f : α → Option β) : ((if p then m else none) >>= f) = (m >>= f) := by rw [if_pos hp]
theorem n_qk_bind {k : m_H} {f : Int} {R : Option (Unit × m_H)} {FR : Unit × m_H → Option (Unit × m_H)} (K : n_qk k f R) (h : ∀ y, n_qF k y f → n_qk k f (FR ((), y))) : n_qk k f (R >>= FR) := by
  obtain ⟨u, g, e, F⟩ := K
  rw [e, n_bs]
  exact h g F
def n_mW (o v2 v3 : Int) (h7 : m_H) : Option (Unit × m_H) := if m_t h7 127 = 11 then (if (m_w (m_g h7 127 33)) = (-1) then
  (if m_t h7 (m_g h7 127 44) = 20 ∧ 0 ≤ (m_w (m_g h7 127 47)) ∧ (m_w (m_g h7 127 47)) < m_l h7 (m_g h7 127 44) then some (m_p h7 (m_g h7 127 44) (m_w (m_g h7 127 47)) v2) >>= fun h12 => if m_t h12 127 = 11 then if m_t h12 (m_g h12 127 45) = 20 ∧ 0 ≤ (m_w (m_g h12 127 47)) ∧ (m_w (m_g h12 127 47)) < m_l h12 (m_g h12 127 45) then some (m_p h12 (m_g h12 127 45) (m_w (m_g h12 127 47)) v3) >>= fun h15 => if m_t h15 127 = 11 then if m_t h15 (m_g h15 127 46) = 20 ∧ 0 ≤ (m_w (m_g h15 127 47)) ∧ (m_w (m_g h15 127 47)) < m_l h15 (m_g h15 127 46) then some (m_p h15 (m_g h15 127 46) (m_w (m_g h15 127 47)) o) >>= fun h18 => if m_t h18 127 = 11 then some (m_p h18 127 47 ((m_g h18 127 47) + 1)) >>= fun h20 => if m_t h20 127 = 11 then if m_t h20 (m_g h20 127 34) = 20 ∧ (0 : Int) ≤ 8 ∧ 8 < m_l h20 (m_g h20 127 34) then some (m_p h20 (m_g h20 127 34) 8 ((m_g h20 (m_g h20 127 34) 8) + 1)) >>= fun h23 => some ((), h23) else none else none else none else none else none else none else none else none)
else
  some ((), h7)) else none
def n_mT (o v2 v3 : Int) (h4 : m_H) : Option (Unit × m_H) := if m_t h4 127 = 11 then t11_sign 127 59 h4 >>= fun z => n_mW o v2 v3 z.2 else none
theorem n_mW_F {k y : m_H} {f o v2 v3 : Int} (F : n_qF k y f) : n_qk k f (n_mW o v2 v3 y) := by
  unfold n_mW
  rw [if_pos (n_qF_t F), if_neg (n_qF_33 F)]
  exact n_qk_end F
theorem n_mT_F {k y : m_H} {f o v2 v3 : Int} (F : n_qF k y f) : n_qk k f (n_mT o v2 v3 y) := by
  unfold n_mT
  rw [if_pos (n_qF_t F), n_qF_sign F, n_bs]
  exact n_mW_F F
theorem n_c176 {o v2 v3 v s0 s1 s2 : Int} {h : m_H} : t11_makes_c176 127 o v2 v3 v s0 s1 s2 h = if m_t h s0 = 20 ∧ 0 ≤ (m_w s1) ∧ (m_w s1) < m_l h s0 then some (m_p h s0 (m_w s1) s2) >>= fun h2 => if m_t h2 127 = 11 then t11_numbers 127 o v h2 >>= fun z => n_mT o v2 v3 z.2 else none else none := rfl
theorem n_c176F {k y : m_H} {f o v2 v3 v r : Int} (F : n_qF k y f) (o0 : 0 ≤ o) (o1 : o < 40) (v0 : 0 ≤ v) (v1 : v < 12) : n_qk k f (t11_makes_c176 127 o v2 v3 v (173 + 8) o r y) := by
  have F2 := n_qF_scr F (b := 173 + 8) (by unfold n_scr; omega) o r
  rw [n_c176, m_w_of (x := o) (by omega) (by omega), if_pos (n_d37 F.1.1.2 (k := 8) (by omega) (by omega) o0 o1), n_bs, if_pos (n_qF_t F2)]
  exact n_qk_bind (n_numsF F2 o0 o1 v0 v1) (fun z G => n_mT_F G)
theorem n_c153 {o v2 v3 v r : Int} {g : m_H} (F : n_fx g) (F2 : n_fx (m_p g (163 + 8) o r)) (o0 : 0 ≤ o) (o1 : o < 40) (v0 : 0 ≤ v) (v1 : v < 12) : t11_makes_c153 127 o v2 v3 v (163 + 8) o r g = if v = 5 then t11_made 127 (m_p g (163 + 8) o r) >>= fun z => t11_makes_c176 127 o v2 v3 v (173 + 8) o z.1 z.2 else t11_makes_c176 127 o v2 v3 v (173 + 8) o (-1) (m_p g (163 + 8) o r) := by
  unfold t11_makes_c153
  rw [m_w_of (x := o) (by omega) (by omega), if_pos (n_d36 F (k := 8) (by omega) (by omega) o0 o1), n_bs, if_pos (n_t127 F2), if_pos (n_c37 F2 (k := 8) (by omega) (by omega)), n_a37 F2 (by omega) (by omega), m_w_of (x := v) (by omega) (by omega)]
theorem n_c153F {k y : m_H} {f o v2 v3 v r : Int} (F : n_qF k y f) (o0 : 0 ≤ o) (o1 : o < 40) (v0 : 0 ≤ v) (v1 : v < 12) : n_qk k f (t11_makes_c153 127 o v2 v3 v (163 + 8) o r y) := by
  have F2 := n_qF_scr F (b := 163 + 8) (by unfold n_scr; omega) o r
  rw [n_c153 F.1.1.2 F2.1.1.2 o0 o1 v0 v1]
  by_cases c : v = 5
  · rw [if_pos c, n_qF_made F2, n_bs]
    exact n_c176F F2 o0 o1 v0 v1
  · rw [if_neg c]
    exact n_c176F F2 o0 o1 v0 v1
/-- a making has come -/
theorem n_qS_mak {h k x g : m_H} {c' i i0 : Nat} {o nm W : Int} {c d : Int → Int} (B : n_qB h k c') (P : n_qP h k c' x g i o nm c d) (o1 : o < 40) (C : n_cd c d) (D : n_db o d) (d0 : d 0 ≠ 12) (h0 : i0 ≤ c') (k0 : n_kq h i0 = 24) (c8 : c 8 = n_vq h i0) (hn : ∀ q, 0 ≤ q → q < o → c (9 + q) ≠ n_vq h i0) (eW : m_g g 127 47 = W) : n_qS h k c' (m_p x 15 1 (o + 1)) (m_p (m_p (m_p (m_p (m_p g 232 W (n_pq h i0)) 233 W (n_we (m_g h 150) (m_g h 127 30) (n_pq h i0) - n_pq h i0)) 234 W o) 127 47 (W + 1)) 151 8 (o + 1)) i (o + 1) := by
  obtain ⟨⟨Cc, R, hi2, e7⟩, RR, ⟨f1, f2, f3⟩, ⟨s1, s2, s3, s4, s5⟩, N, O, K⟩ := P
  have pb := n_qB_p B h0
  have R5 : n_qR k (m_p (m_p (m_p (m_p (m_p g 232 W (n_pq h i0)) 233 W (n_we (m_g h 150) (m_g h 127 30) (n_pq h i0) - n_pq h i0)) 234 W o) 127 47 (W + 1)) 151 8 (o + 1)) := n_qR_p (n_qR_p (n_qR_p (n_qR_p (n_qR_p RR (by omega)) (by omega)) (by omega)) (by omega)) (by omega)
  have g232 : ∀ j, m_g (m_p (m_p (m_p (m_p (m_p g 232 W (n_pq h i0)) 233 W (n_we (m_g h 150) (m_g h 127 30) (n_pq h i0) - n_pq h i0)) 234 W o) 127 47 (W + 1)) 151 8 (o + 1)) 232 j = if j = W then n_pq h i0 else m_g g 232 j := fun j => by
    rw [n_gp_n (by omega), n_gp_n (by omega), n_gp_n (by omega), n_gp_n (by omega), m_g_p]
    by_cases z : j = W
    · rw [if_pos ⟨rfl, z⟩, if_pos z]
    · rw [if_neg (by omega), if_neg z]
  have g233 : ∀ j, m_g (m_p (m_p (m_p (m_p (m_p g 232 W (n_pq h i0)) 233 W (n_we (m_g h 150) (m_g h 127 30) (n_pq h i0) - n_pq h i0)) 234 W o) 127 47 (W + 1)) 151 8 (o + 1)) 233 j = if j = W then n_we (m_g h 150) (m_g h 127 30) (n_pq h i0) - n_pq h i0 else m_g g 233 j := fun j => by
    rw [n_gp_n (by omega), n_gp_n (by omega), n_gp_n (by omega), m_g_p]
    by_cases z : j = W
    · rw [if_pos ⟨rfl, z⟩, if_pos z]
    · rw [if_neg (by omega), if_neg z, n_gp_n (by omega)]
  have g234 : ∀ j, m_g (m_p (m_p (m_p (m_p (m_p g 232 W (n_pq h i0)) 233 W (n_we (m_g h 150) (m_g h 127 30) (n_pq h i0) - n_pq h i0)) 234 W o) 127 47 (W + 1)) 151 8 (o + 1)) 234 j = if j = W then o else m_g g 234 j := fun j => by
    rw [n_gp_n (by omega), n_gp_n (by omega), m_g_p]
    by_cases z : j = W
    · rw [if_pos ⟨rfl, z⟩, if_pos z]
    · rw [if_neg (by omega), if_neg z, n_gp_n (by omega), n_gp_n (by omega)]
  have ge : ∀ b j, b ≠ 232 → b ≠ 233 → b ≠ 234 → ¬ (b = 127 ∧ j = 47) → ¬ (b = 151 ∧ j = 8) → m_g (m_p (m_p (m_p (m_p (m_p g 232 W (n_pq h i0)) 233 W (n_we (m_g h 150) (m_g h 127 30) (n_pq h i0) - n_pq h i0)) 234 W o) 127 47 (W + 1)) 151 8 (o + 1)) b j = m_g g b j := fun b j q1 q2 q3 q4 q5 => by
    rw [n_gp_n (by omega), n_gp_n (by omega), n_gp_n (by omega), n_gp_n (by omega), n_gp_n (by omega)]
  have g47 : m_g (m_p (m_p (m_p (m_p (m_p g 232 W (n_pq h i0)) 233 W (n_we (m_g h 150) (m_g h 127 30) (n_pq h i0) - n_pq h i0)) 234 W o) 127 47 (W + 1)) 151 8 (o + 1)) 127 47 = W + 1 := by rw [n_gp_n (by omega), n_gp_y ⟨rfl, rfl⟩]
  have g151 : m_g (m_p (m_p (m_p (m_p (m_p g 232 W (n_pq h i0)) 233 W (n_we (m_g h 150) (m_g h 127 30) (n_pq h i0) - n_pq h i0)) 234 W o) 127 47 (W + 1)) 151 8 (o + 1)) 151 8 = o + 1 := n_gp_y ⟨rfl, rfl⟩
  generalize m_p (m_p (m_p (m_p (m_p g 232 W (n_pq h i0)) 233 W (n_we (m_g h 150) (m_g h 127 30) (n_pq h i0) - n_pq h i0)) 234 W o) 127 47 (W + 1)) 151 8 (o + 1) = g' at *
  have x18 : ∀ j, m_g (m_p x 15 1 (o + 1)) 18 j = m_g x 18 j := fun j => n_gp_n (by omega)
  refine n_qS_of (nm := nm) ⟨n_qC_p Cc (Or.inr (Or.inl ⟨rfl, rfl⟩)), n_rec_p R (by omega), hi2, by rw [n_gp_n (by omega)]; exact e7⟩ R5 ⟨by rw [ge 127 31 (by omega) (by omega) (by omega) (by omega) (by omega)]; exact f1, by rw [ge 127 32 (by omega) (by omega) (by omega) (by omega) (by omega)]; exact f2, by rw [ge 127 33 (by omega) (by omega) (by omega) (by omega) (by omega)]; exact f3⟩ ⟨n_gp_y ⟨rfl, rfl⟩, g151, by rw [n_gp_n (by omega)]; exact s3, by omega, by omega⟩ ?_ ?_
  · obtain ⟨n1, n2, n3, n4⟩ := N
    rw [eW] at n1 n2 n3
    obtain ⟨k1, k2, k3, k4, k5⟩ := K
    have dz : m_g g 161 o = d 0 := k2 0 (by omega) (by omega)
    have ga : ∀ j, m_g g' 161 j = m_g g 161 j := fun j => ge 161 j (by omega) (by omega) (by omega) (by omega) (by omega)
    unfold n_qN
    simp only [x18, g47, g232, g233, g234, ga]
    refine ⟨by omega, fun w w0 w1 => ?_, fun q q0 q1 => ?_, fun q q' q0 q1 q2 q3 => ?_⟩
    · by_cases z : w = W
      · rw [if_pos z, if_pos z, if_pos z, k3, dz]
        exact ⟨⟨by omega, pb.2.1⟩, k0, rfl, ⟨by omega, by omega⟩, c8, d0⟩
      · rw [if_neg z, if_neg z, if_neg z]
        obtain ⟨a1, a2, a3, a4, a5, a6⟩ := n2 w w0 (by omega)
        exact ⟨a1, a2, a3, by omega, a5, a6⟩
    · by_cases z : q = o
      · refine Or.inr ⟨W, by omega, ?_⟩
        rw [if_pos rfl, z]
      · rcases n3 q q0 (by omega) with e | ⟨w, w1, w2⟩
        · exact Or.inl e
        · refine Or.inr ⟨w, by omega, ?_⟩
          rw [if_neg (by omega)]
          exact w2
    · intro e1 e2
      by_cases z : q = o
      · by_cases z2 : q' = o
        · omega
        · exfalso
          rw [z, k3, c8, k4 q' q2 (by omega)] at e1
          exact hn q' q2 (by omega) e1.symm
      · by_cases z2 : q' = o
        · exfalso
          rw [z2, k3, c8, k4 q q0 (by omega)] at e1
          exact hn q q0 (by omega) e1
        · exact n4 q q' q0 (by omega) q2 (by omega) e1 e2
  · exact n_qO_S (n_qO_end O K C D) (fun j _ => n_gp_n (by omega)) (fun b j sb _ => by unfold n_scr at sb; exact ge b j (by omega) (by omega) (by omega) (by omega) (by omega))
/-- the end of a making -/
theorem n_endMakJ {h k x g : m_H} {c' i i0 : Nat} {o nm : Int} {c d : Int → Int} (B : n_qB h k c') (P : n_qP h k c' x g i o nm c d) (o1 : o < 40) (C : n_cd c d) (D : n_db o d) (d0 : d 0 ≠ 12) (h0 : i0 ≤ c') (k0 : n_kq h i0 = 24) (c8 : c 8 = n_vq h i0) (hn : ∀ q, 0 ≤ q → q < o → c (9 + q) ≠ n_vq h i0) {FC : Bool × m_H → Option (Bool × m_H)} {Q : m_H → m_H → Prop} (h1 : ∀ b y, FC (b, y) = some (b, y)) (h3 : ∀ x' g', n_qS h k c' x' g' (i + 1) (o + 1) → Q x' g') : n_qJ h k c' (t4_endOrder 10 x >>= FC) (n_mT o (n_pq h i0) (n_we (m_g h 150) (m_g h 127 30) (n_pq h i0) - n_pq h i0) g) Q := by
  unfold t4_endOrder n_mT
  rw [n_bif (n_qP_tC P), n_bas, if_pos (n_qP_tR P)]
  refine n_qJ_sign B P (s := 59) (by omega) (fun y => h1 false y) (fun y F => n_mW_F F) (fun x1 g1 P1 => ?_)
  have n1 := P1.2.2.2.2.1.1
  obtain ⟨W, eW⟩ : ∃ W, W = m_g g1 127 47 := ⟨_, rfl⟩
  have S := n_qS_mak B P1 o1 C D d0 h0 k0 c8 hn eW.symm
  have R1 := P1.2.1
  have RA : n_qR k (m_p g1 232 W (n_pq h i0)) := n_qR_p R1 (by omega)
  have RB : n_qR k (m_p (m_p g1 232 W (n_pq h i0)) 233 W (n_we (m_g h 150) (m_g h 127 30) (n_pq h i0) - n_pq h i0)) := n_qR_p RA (by omega)
  have RC : n_qR k (m_p (m_p (m_p g1 232 W (n_pq h i0)) 233 W (n_we (m_g h 150) (m_g h 127 30) (n_pq h i0) - n_pq h i0)) 234 W o) := n_qR_p RB (by omega)
  have RD : n_qR k (m_p (m_p (m_p (m_p g1 232 W (n_pq h i0)) 233 W (n_we (m_g h 150) (m_g h 127 30) (n_pq h i0) - n_pq h i0)) 234 W o) 127 47 (W + 1)) := n_qR_p RC (by omega)
  have l2 := n_l232 R1.1.2
  have l3 := n_l233 RA.1.2
  have l4 := n_l234 RB.1.2
  have l5 := n_l151 RD.1.2
  have s2 := P1.2.2.2.1.2.1
  have w1 : m_g (m_p g1 232 W (n_pq h i0)) 127 47 = W := by rw [n_gp_n (by omega)]; exact eW.symm
  have w2 : m_g (m_p (m_p g1 232 W (n_pq h i0)) 233 W (n_we (m_g h 150) (m_g h 127 30) (n_pq h i0) - n_pq h i0)) 127 47 = W := by rw [n_gp_n (by omega)]; exact w1
  have w3 : m_g (m_p (m_p (m_p g1 232 W (n_pq h i0)) 233 W (n_we (m_g h 150) (m_g h 127 30) (n_pq h i0) - n_pq h i0)) 234 W o) 127 47 = W := by rw [n_gp_n (by omega)]; exact w2
  have w4 : m_g (m_p (m_p (m_p (m_p g1 232 W (n_pq h i0)) 233 W (n_we (m_g h 150) (m_g h 127 30) (n_pq h i0) - n_pq h i0)) 234 W o) 127 47 (W + 1)) 151 8 = o := by rw [n_gp_n (by omega), n_gp_n (by omega), n_gp_n (by omega), n_gp_n (by omega)]; exact s2
  dsimp only
  unfold n_mW
  rw [if_pos (show true = true from rfl), if_pos (n_qP_tC P1), n_p10_8 P1.1.1.1.2, if_pos (n_t15 P1.1.1.1.2), P1.2.2.2.1.1, n_bs, n_bs, h1]
  rw [if_pos (n_qP_tR P1), P1.2.2.1.2.2, m_w_of (x := -1) (by omega) (by omega), if_pos rfl, ← eW, m_w_of (x := W) (by omega) (by omega), n_p127_44 R1.1.2, if_pos ⟨n_t232 R1.1.2, by omega, by omega⟩, n_bs]
  rw [if_pos (n_t127 RA.1.2), w1, m_w_of (x := W) (by omega) (by omega), n_p127_45 RA.1.2, if_pos ⟨n_t233 RA.1.2, by omega, by omega⟩, n_bs]
  rw [if_pos (n_t127 RB.1.2), w2, m_w_of (x := W) (by omega) (by omega), n_p127_46 RB.1.2, if_pos ⟨n_t234 RB.1.2, by omega, by omega⟩, n_bs]
  rw [if_pos (n_t127 RC.1.2), w3, n_bs, if_pos (n_t127 RD.1.2), n_p127_34 RD.1.2, if_pos ⟨n_t151 RD.1.2, by omega, by omega⟩, w4, n_bs]
  exact ⟨true, _, _, _, rfl, rfl, fun _ => h3 _ _ S, fun z => by cases z⟩
theorem n_partsJ0 {h k x g : m_H} {c' i : Nat} {o v2 v3 : Int} {c d : Int → Int} (B : n_qB h k c') (P : n_qP h k c' x g i o 0 c d) (o1 : o < 40) {FC : Bool × m_H → Option (Bool × m_H)} {Q : m_H → m_H → Prop} (h1 : ∀ y, FC (false, y) = some (false, y)) (h3 : ∀ x' g' i' nm' c2 d2, i ≤ i' → n_qP h k c' x' g' i' o nm' c2 d2 → n_nOK 0 c (n_up (n_up d 1 (-1)) 2 (-1)) c2 d2 → n_qJ h k c' (FC (true, x')) (n_mT o v2 v3 g') Q) : n_qJ h k c' (t4_readParts 10 0 x >>= FC) (t11_makes_c153 127 o v2 v3 0 (163 + 8) o (-1) g) Q := by
  have o0 := P.2.2.2.1.2.2.2.1
  have P1 : n_qP h k c' x (m_p g (163 + 8) o (-1)) i o 0 c _ := n_qP_scr P (w := 1) (by omega) (by omega) (-1)
  have P2 : n_qP h k c' x (m_p (m_p g (163 + 8) o (-1)) (173 + 8) o (-1)) i o 0 c _ := n_qP_scr P1 (w := 2) (by omega) (by omega) (-1)
  have e : t4_readParts 10 0 x = n_nC0 x := by
    unfold t4_readParts n_nC0
    rw [m_w_of (x := 0) (by omega) (by omega), if_pos (show (0 : Int) = 0 from rfl)]
  rw [e, n_c153 P.2.1.1.2 P1.2.1.1.2 o0 o1 (by omega) (by omega), if_neg (show ¬ (0 : Int) = 5 by decide), n_c176, m_w_of (x := o) (by omega) (by omega), if_pos (n_d37 P1.2.1.1.2 (k := 8) (by omega) (by omega) o0 o1), n_bs, if_pos (n_qP_tR P2)]
  refine n_qJ_seq (n_numsJ0 B P2 o0 o1) h1 (fun y f F => n_mT_F F) (fun x' g' q => ?_)
  obtain ⟨i', nm', c2, d2, le, P', ok⟩ := q
  exact h3 x' g' i' nm' c2 d2 le P' ok
theorem n_partsJ1 {h k x g : m_H} {c' i : Nat} {o v2 v3 : Int} {c d : Int → Int} (B : n_qB h k c') (P : n_qP h k c' x g i o 0 c d) (o1 : o < 40) {FC : Bool × m_H → Option (Bool × m_H)} {Q : m_H → m_H → Prop} (h1 : ∀ y, FC (false, y) = some (false, y)) (h3 : ∀ x' g' i' nm' c2 d2, i ≤ i' → n_qP h k c' x' g' i' o nm' c2 d2 → n_nOK 1 c (n_up (n_up d 1 (-1)) 2 (-1)) c2 d2 → n_qJ h k c' (FC (true, x')) (n_mT o v2 v3 g') Q) : n_qJ h k c' (t4_readParts 10 1 x >>= FC) (t11_makes_c153 127 o v2 v3 1 (163 + 8) o (-1) g) Q := by
  have o0 := P.2.2.2.1.2.2.2.1
  have P1 : n_qP h k c' x (m_p g (163 + 8) o (-1)) i o 0 c _ := n_qP_scr P (w := 1) (by omega) (by omega) (-1)
  have P2 : n_qP h k c' x (m_p (m_p g (163 + 8) o (-1)) (173 + 8) o (-1)) i o 0 c _ := n_qP_scr P1 (w := 2) (by omega) (by omega) (-1)
  have e : t4_readParts 10 1 x = n_nC1 x := by
    unfold t4_readParts n_nC1
    rw [m_w_of (x := 1) (by omega) (by omega), if_neg (show ¬ (1 : Int) = 0 by decide), if_pos (show (1 : Int) = 1 from rfl)]
  rw [e, n_c153 P.2.1.1.2 P1.2.1.1.2 o0 o1 (by omega) (by omega), if_neg (show ¬ (1 : Int) = 5 by decide), n_c176, m_w_of (x := o) (by omega) (by omega), if_pos (n_d37 P1.2.1.1.2 (k := 8) (by omega) (by omega) o0 o1), n_bs, if_pos (n_qP_tR P2)]
  refine n_qJ_seq (n_numsJ1 B P2 o0 o1) h1 (fun y f F => n_mT_F F) (fun x' g' q => ?_)
  obtain ⟨i', nm', c2, d2, le, P', ok⟩ := q
  exact h3 x' g' i' nm' c2 d2 le P' ok
theorem n_partsJ2 {h k x g : m_H} {c' i : Nat} {o v2 v3 : Int} {c d : Int → Int} (B : n_qB h k c') (P : n_qP h k c' x g i o 0 c d) (o1 : o < 40) {FC : Bool × m_H → Option (Bool × m_H)} {Q : m_H → m_H → Prop} (h1 : ∀ y, FC (false, y) = some (false, y)) (h3 : ∀ r x' g' i' nm' c2 d2, 0 ≤ r → r < o → d (9 + r) ≠ 12 → i ≤ i' → n_qP h k c' x' g' i' o nm' c2 d2 → n_nOK 2 (n_up c 1 r) (n_up (n_up d 1 r) 2 (-1)) c2 d2 → n_qJ h k c' (FC (true, x')) (n_mT o v2 v3 g') Q) : n_qJ h k c' (t4_readParts 10 2 x >>= FC) (t11_made 127 g >>= fun z => t11_makes_c153 127 o v2 v3 2 (163 + 8) o z.1 z.2) Q := by
  have o0 := P.2.2.2.1.2.2.2.1
  unfold t4_readParts
  rw [m_w_of (x := 2) (by omega) (by omega), if_neg (show ¬ (2 : Int) = 0 by decide), if_neg (show ¬ (2 : Int) = 1 by decide), n_bif (n_qP_tC P), n_bas]
  refine n_qJ_row B P o1 (w := 1) (by omega) (by omega) (fun y => h1 y) (fun y F => n_c153F F o0 o1 (by omega) (by omega)) (fun r x1 g1 rb r2 PA => ?_)
  have P1 : n_qP h k c' x1 (m_p g1 (163 + 8) o r) (i + 1) o 0 _ _ := n_qP_scr PA (w := 1) (by omega) (by omega) r
  dsimp only
  rw [if_pos (show true = true from rfl), if_pos (show (2 : Int) = 2 from rfl), n_c153 PA.2.1.1.2 P1.2.1.1.2 o0 o1 (by omega) (by omega)]
  have P2 : n_qP h k c' x1 (m_p (m_p g1 (163 + 8) o r) (173 + 8) o (-1)) (i + 1) o 0 _ _ := n_qP_scr P1 (w := 2) (by omega) (by omega) (-1)
  rw [if_neg (show ¬ (2 : Int) = 5 by decide), n_c176, m_w_of (x := o) (by omega) (by omega), if_pos (n_d37 P1.2.1.1.2 (k := 8) (by omega) (by omega) o0 o1), n_bs, if_pos (n_qP_tR P2)]
  skip
  refine n_qJ_seq (n_numsJ2 B P2 o0 o1) h1 (fun y f F => n_mT_F F) (fun x' g' q => ?_)
  obtain ⟨i', nm', c2, d2, le, P', ok⟩ := q
  exact h3 r x' g' i' nm' c2 d2 rb.1 rb.2 r2 (by omega) P' ok
theorem n_partsJ3 {h k x g : m_H} {c' i : Nat} {o v2 v3 : Int} {c d : Int → Int} (B : n_qB h k c') (P : n_qP h k c' x g i o 0 c d) (o1 : o < 40) {FC : Bool × m_H → Option (Bool × m_H)} {Q : m_H → m_H → Prop} (h1 : ∀ y, FC (false, y) = some (false, y)) (h3 : ∀ r x' g' i' nm' c2 d2, 0 ≤ r → r < o → d (9 + r) ≠ 12 → i ≤ i' → n_qP h k c' x' g' i' o nm' c2 d2 → n_nOK 3 (n_up c 1 r) (n_up (n_up d 1 r) 2 (-1)) c2 d2 → n_qJ h k c' (FC (true, x')) (n_mT o v2 v3 g') Q) : n_qJ h k c' (t4_readParts 10 3 x >>= FC) (t11_made 127 g >>= fun z => t11_makes_c153 127 o v2 v3 3 (163 + 8) o z.1 z.2) Q := by
  have o0 := P.2.2.2.1.2.2.2.1
  unfold t4_readParts
  rw [m_w_of (x := 3) (by omega) (by omega), if_neg (show ¬ (3 : Int) = 0 by decide), if_neg (show ¬ (3 : Int) = 1 by decide), n_bif (n_qP_tC P), n_bas]
  refine n_qJ_row B P o1 (w := 1) (by omega) (by omega) (fun y => h1 y) (fun y F => n_c153F F o0 o1 (by omega) (by omega)) (fun r x1 g1 rb r2 PA => ?_)
  have P1 : n_qP h k c' x1 (m_p g1 (163 + 8) o r) (i + 1) o 0 _ _ := n_qP_scr PA (w := 1) (by omega) (by omega) r
  dsimp only
  rw [if_pos (show true = true from rfl), if_neg (show ¬ (3 : Int) = 2 by decide), if_pos (show (3 : Int) = 3 from rfl), n_c153 PA.2.1.1.2 P1.2.1.1.2 o0 o1 (by omega) (by omega)]
  have P2 : n_qP h k c' x1 (m_p (m_p g1 (163 + 8) o r) (173 + 8) o (-1)) (i + 1) o 0 _ _ := n_qP_scr P1 (w := 2) (by omega) (by omega) (-1)
  rw [if_neg (show ¬ (3 : Int) = 5 by decide), n_c176, m_w_of (x := o) (by omega) (by omega), if_pos (n_d37 P1.2.1.1.2 (k := 8) (by omega) (by omega) o0 o1), n_bs, n_bs, if_pos (n_qP_tR P2)]
  show n_qJ h k c' (n_nC3 x1 >>= FC) _ Q
  refine n_qJ_seq (n_numsJ3 B P2 o0 o1) h1 (fun y f F => n_mT_F F) (fun x' g' q => ?_)
  obtain ⟨i', nm', c2, d2, le, P', ok⟩ := q
  exact h3 r x' g' i' nm' c2 d2 rb.1 rb.2 r2 (by omega) P' ok
theorem n_partsJ4 {h k x g : m_H} {c' i : Nat} {o v2 v3 : Int} {c d : Int → Int} (B : n_qB h k c') (P : n_qP h k c' x g i o 0 c d) (o1 : o < 40) {FC : Bool × m_H → Option (Bool × m_H)} {Q : m_H → m_H → Prop} (h1 : ∀ y, FC (false, y) = some (false, y)) (h3 : ∀ r x' g' i' nm' c2 d2, 0 ≤ r → r < o → d (9 + r) ≠ 12 → i ≤ i' → n_qP h k c' x' g' i' o nm' c2 d2 → n_nOK 4 (n_up c 1 r) (n_up (n_up d 1 r) 2 (-1)) c2 d2 → n_qJ h k c' (FC (true, x')) (n_mT o v2 v3 g') Q) : n_qJ h k c' (t4_readParts 10 4 x >>= FC) (t11_made 127 g >>= fun z => t11_makes_c153 127 o v2 v3 4 (163 + 8) o z.1 z.2) Q := by
  have o0 := P.2.2.2.1.2.2.2.1
  unfold t4_readParts
  rw [m_w_of (x := 4) (by omega) (by omega), if_neg (show ¬ (4 : Int) = 0 by decide), if_neg (show ¬ (4 : Int) = 1 by decide), n_bif (n_qP_tC P), n_bas]
  refine n_qJ_row B P o1 (w := 1) (by omega) (by omega) (fun y => h1 y) (fun y F => n_c153F F o0 o1 (by omega) (by omega)) (fun r x1 g1 rb r2 PA => ?_)
  have P1 : n_qP h k c' x1 (m_p g1 (163 + 8) o r) (i + 1) o 0 _ _ := n_qP_scr PA (w := 1) (by omega) (by omega) r
  dsimp only
  rw [if_pos (show true = true from rfl), if_neg (show ¬ (4 : Int) = 2 by decide), if_neg (show ¬ (4 : Int) = 3 by decide), if_pos (show (4 : Int) = 4 from rfl), n_c153 PA.2.1.1.2 P1.2.1.1.2 o0 o1 (by omega) (by omega)]
  have P2 : n_qP h k c' x1 (m_p (m_p g1 (163 + 8) o r) (173 + 8) o (-1)) (i + 1) o 0 _ _ := n_qP_scr P1 (w := 2) (by omega) (by omega) (-1)
  rw [if_neg (show ¬ (4 : Int) = 5 by decide), n_c176, m_w_of (x := o) (by omega) (by omega), if_pos (n_d37 P1.2.1.1.2 (k := 8) (by omega) (by omega) o0 o1), n_bs, if_pos (n_qP_tR P2)]
  skip
  refine n_qJ_seq (n_numsJ4 B P2 o0 o1) h1 (fun y f F => n_mT_F F) (fun x' g' q => ?_)
  obtain ⟨i', nm', c2, d2, le, P', ok⟩ := q
  exact h3 r x' g' i' nm' c2 d2 rb.1 rb.2 r2 (by omega) P' ok
theorem n_partsJ5 {h k x g : m_H} {c' i : Nat} {o v2 v3 : Int} {c d : Int → Int} (B : n_qB h k c') (P : n_qP h k c' x g i o 0 c d) (o1 : o < 40) {FC : Bool × m_H → Option (Bool × m_H)} {Q : m_H → m_H → Prop} (h1 : ∀ y, FC (false, y) = some (false, y)) (h3 : ∀ r r2 x' g' i' nm' c2 d2, 0 ≤ r → r < o → d (9 + r) ≠ 12 → 0 ≤ r2 → r2 < o → d (9 + r2) ≠ 12 → i ≤ i' → n_qP h k c' x' g' i' o nm' c2 d2 → n_nOK 5 (n_up (n_up c 1 r) 2 r2) (n_up (n_up d 1 r) 2 r2) c2 d2 → n_qJ h k c' (FC (true, x')) (n_mT o v2 v3 g') Q) : n_qJ h k c' (t4_readParts 10 5 x >>= FC) (t11_made 127 g >>= fun z => t11_makes_c153 127 o v2 v3 5 (163 + 8) o z.1 z.2) Q := by
  have o0 := P.2.2.2.1.2.2.2.1
  unfold t4_readParts
  rw [m_w_of (x := 5) (by omega) (by omega), if_neg (show ¬ (5 : Int) = 0 by decide), if_neg (show ¬ (5 : Int) = 1 by decide), n_bif (n_qP_tC P), n_bas]
  refine n_qJ_row B P o1 (w := 1) (by omega) (by omega) (fun y => h1 y) (fun y F => n_c153F F o0 o1 (by omega) (by omega)) (fun r x1 g1 rb r2 PA => ?_)
  have P1 : n_qP h k c' x1 (m_p g1 (163 + 8) o r) (i + 1) o 0 _ _ := n_qP_scr PA (w := 1) (by omega) (by omega) r
  dsimp only
  rw [if_pos (show true = true from rfl), if_neg (show ¬ (5 : Int) = 2 by decide), if_neg (show ¬ (5 : Int) = 3 by decide), if_neg (show ¬ (5 : Int) = 4 by decide), if_pos (show (5 : Int) = 5 from rfl), n_c153 PA.2.1.1.2 P1.2.1.1.2 o0 o1 (by omega) (by omega)]
  rw [if_pos (show (5 : Int) = 5 from rfl), n_bif (n_qP_tC P1), n_bas]
  refine n_qJ_row B P1 o1 (w := 2) (by omega) (by omega) (fun y => h1 y) (fun y F => n_c176F F o0 o1 (by omega) (by omega)) (fun s x3 g3 sb s2 PB => ?_)
  have P2 : n_qP h k c' x3 (m_p g3 (173 + 8) o s) (i + 1 + 1) o 0 _ _ := n_qP_scr PB (w := 2) (by omega) (by omega) s
  dsimp only
  rw [if_pos (show true = true from rfl), n_c176, m_w_of (x := o) (by omega) (by omega), if_pos (n_d37 PB.2.1.1.2 (k := 8) (by omega) (by omega) o0 o1), n_bs, if_pos (n_qP_tR P2)]
  refine n_qJ_seq (n_numsJ5 B P2 o0 o1) h1 (fun y f F => n_mT_F F) (fun x' g' q => ?_)
  obtain ⟨i', nm', c2, d2, le, P', ok⟩ := q
  refine h3 r s x' g' i' nm' c2 d2 rb.1 rb.2 r2 sb.1 sb.2 ?_ (by omega) P' ok
  have e := n_upE d 1 r (9 + s)
  rw [if_neg (by omega)] at e
  rw [← e]; exact s2
theorem n_partsJ6 {h k x g : m_H} {c' i : Nat} {o v2 v3 : Int} {c d : Int → Int} (B : n_qB h k c') (P : n_qP h k c' x g i o 0 c d) (o1 : o < 40) {FC : Bool × m_H → Option (Bool × m_H)} {Q : m_H → m_H → Prop} (h1 : ∀ y, FC (false, y) = some (false, y)) (h3 : ∀ r x' g' i' nm' c2 d2, 0 ≤ r → r < o → d (9 + r) ≠ 12 → i ≤ i' → n_qP h k c' x' g' i' o nm' c2 d2 → n_nOK 6 (n_up c 1 r) (n_up (n_up d 1 r) 2 (-1)) c2 d2 → n_qJ h k c' (FC (true, x')) (n_mT o v2 v3 g') Q) : n_qJ h k c' (t4_readParts 10 6 x >>= FC) (t11_made 127 g >>= fun z => t11_makes_c153 127 o v2 v3 6 (163 + 8) o z.1 z.2) Q := by
  have o0 := P.2.2.2.1.2.2.2.1
  unfold t4_readParts
  rw [m_w_of (x := 6) (by omega) (by omega), if_neg (show ¬ (6 : Int) = 0 by decide), if_neg (show ¬ (6 : Int) = 1 by decide), n_bif (n_qP_tC P), n_bas]
  refine n_qJ_row B P o1 (w := 1) (by omega) (by omega) (fun y => h1 y) (fun y F => n_c153F F o0 o1 (by omega) (by omega)) (fun r x1 g1 rb r2 PA => ?_)
  have P1 : n_qP h k c' x1 (m_p g1 (163 + 8) o r) (i + 1) o 0 _ _ := n_qP_scr PA (w := 1) (by omega) (by omega) r
  dsimp only
  rw [if_pos (show true = true from rfl), if_neg (show ¬ (6 : Int) = 2 by decide), if_neg (show ¬ (6 : Int) = 3 by decide), if_neg (show ¬ (6 : Int) = 4 by decide), if_neg (show ¬ (6 : Int) = 5 by decide), if_pos (show (6 : Int) = 6 from rfl), n_c153 PA.2.1.1.2 P1.2.1.1.2 o0 o1 (by omega) (by omega)]
  have P2 : n_qP h k c' x1 (m_p (m_p g1 (163 + 8) o r) (173 + 8) o (-1)) (i + 1) o 0 _ _ := n_qP_scr P1 (w := 2) (by omega) (by omega) (-1)
  rw [if_neg (show ¬ (6 : Int) = 5 by decide), n_c176, m_w_of (x := o) (by omega) (by omega), if_pos (n_d37 P1.2.1.1.2 (k := 8) (by omega) (by omega) o0 o1), n_bs, if_pos (n_qP_tR P2)]
  skip
  refine n_qJ_seq (n_numsJ6 B P2 o0 o1) h1 (fun y f F => n_mT_F F) (fun x' g' q => ?_)
  obtain ⟨i', nm', c2, d2, le, P', ok⟩ := q
  exact h3 r x' g' i' nm' c2 d2 rb.1 rb.2 r2 (by omega) P' ok
theorem n_partsJ7 {h k x g : m_H} {c' i : Nat} {o v2 v3 : Int} {c d : Int → Int} (B : n_qB h k c') (P : n_qP h k c' x g i o 0 c d) (o1 : o < 40) {FC : Bool × m_H → Option (Bool × m_H)} {Q : m_H → m_H → Prop} (h1 : ∀ y, FC (false, y) = some (false, y)) (h3 : ∀ r x' g' i' nm' c2 d2, 0 ≤ r → r < o → d (9 + r) ≠ 12 → i ≤ i' → n_qP h k c' x' g' i' o nm' c2 d2 → n_nOK 7 (n_up c 1 r) (n_up (n_up d 1 r) 2 (-1)) c2 d2 → n_qJ h k c' (FC (true, x')) (n_mT o v2 v3 g') Q) : n_qJ h k c' (t4_readParts 10 7 x >>= FC) (t11_made 127 g >>= fun z => t11_makes_c153 127 o v2 v3 7 (163 + 8) o z.1 z.2) Q := by
  have o0 := P.2.2.2.1.2.2.2.1
  unfold t4_readParts
  rw [m_w_of (x := 7) (by omega) (by omega), if_neg (show ¬ (7 : Int) = 0 by decide), if_neg (show ¬ (7 : Int) = 1 by decide), n_bif (n_qP_tC P), n_bas]
  refine n_qJ_row B P o1 (w := 1) (by omega) (by omega) (fun y => h1 y) (fun y F => n_c153F F o0 o1 (by omega) (by omega)) (fun r x1 g1 rb r2 PA => ?_)
  have P1 : n_qP h k c' x1 (m_p g1 (163 + 8) o r) (i + 1) o 0 _ _ := n_qP_scr PA (w := 1) (by omega) (by omega) r
  dsimp only
  rw [if_pos (show true = true from rfl), if_neg (show ¬ (7 : Int) = 2 by decide), if_neg (show ¬ (7 : Int) = 3 by decide), if_neg (show ¬ (7 : Int) = 4 by decide), if_neg (show ¬ (7 : Int) = 5 by decide), if_neg (show ¬ (7 : Int) = 6 by decide), if_pos (show (7 : Int) = 7 from rfl), n_c153 PA.2.1.1.2 P1.2.1.1.2 o0 o1 (by omega) (by omega)]
  have P2 : n_qP h k c' x1 (m_p (m_p g1 (163 + 8) o r) (173 + 8) o (-1)) (i + 1) o 0 _ _ := n_qP_scr P1 (w := 2) (by omega) (by omega) (-1)
  rw [if_neg (show ¬ (7 : Int) = 5 by decide), n_c176, m_w_of (x := o) (by omega) (by omega), if_pos (n_d37 P1.2.1.1.2 (k := 8) (by omega) (by omega) o0 o1), n_bs, if_pos (n_qP_tR P2)]
  skip
  refine n_qJ_seq (n_numsJ7 B P2 o0 o1) h1 (fun y f F => n_mT_F F) (fun x' g' q => ?_)
  obtain ⟨i', nm', c2, d2, le, P', ok⟩ := q
  exact h3 r x' g' i' nm' c2 d2 rb.1 rb.2 r2 (by omega) P' ok
theorem n_partsJ8 {h k x g : m_H} {c' i : Nat} {o v2 v3 : Int} {c d : Int → Int} (B : n_qB h k c') (P : n_qP h k c' x g i o 0 c d) (o1 : o < 40) {FC : Bool × m_H → Option (Bool × m_H)} {Q : m_H → m_H → Prop} (h1 : ∀ y, FC (false, y) = some (false, y)) (h3 : ∀ r x' g' i' nm' c2 d2, 0 ≤ r → r < o → d (9 + r) ≠ 12 → i ≤ i' → n_qP h k c' x' g' i' o nm' c2 d2 → n_nOK 8 (n_up c 1 r) (n_up (n_up d 1 r) 2 (-1)) c2 d2 → n_qJ h k c' (FC (true, x')) (n_mT o v2 v3 g') Q) : n_qJ h k c' (t4_readParts 10 8 x >>= FC) (t11_made 127 g >>= fun z => t11_makes_c153 127 o v2 v3 8 (163 + 8) o z.1 z.2) Q := by
  have o0 := P.2.2.2.1.2.2.2.1
  unfold t4_readParts
  rw [m_w_of (x := 8) (by omega) (by omega), if_neg (show ¬ (8 : Int) = 0 by decide), if_neg (show ¬ (8 : Int) = 1 by decide), n_bif (n_qP_tC P), n_bas]
  refine n_qJ_row B P o1 (w := 1) (by omega) (by omega) (fun y => h1 y) (fun y F => n_c153F F o0 o1 (by omega) (by omega)) (fun r x1 g1 rb r2 PA => ?_)
  have P1 : n_qP h k c' x1 (m_p g1 (163 + 8) o r) (i + 1) o 0 _ _ := n_qP_scr PA (w := 1) (by omega) (by omega) r
  dsimp only
  rw [if_pos (show true = true from rfl), if_neg (show ¬ (8 : Int) = 2 by decide), if_neg (show ¬ (8 : Int) = 3 by decide), if_neg (show ¬ (8 : Int) = 4 by decide), if_neg (show ¬ (8 : Int) = 5 by decide), if_neg (show ¬ (8 : Int) = 6 by decide), if_neg (show ¬ (8 : Int) = 7 by decide), if_pos (show (8 : Int) = 8 from rfl), n_c153 PA.2.1.1.2 P1.2.1.1.2 o0 o1 (by omega) (by omega)]
  have P2 : n_qP h k c' x1 (m_p (m_p g1 (163 + 8) o r) (173 + 8) o (-1)) (i + 1) o 0 _ _ := n_qP_scr P1 (w := 2) (by omega) (by omega) (-1)
  rw [if_neg (show ¬ (8 : Int) = 5 by decide), n_c176, m_w_of (x := o) (by omega) (by omega), if_pos (n_d37 P1.2.1.1.2 (k := 8) (by omega) (by omega) o0 o1), n_bs, if_pos (n_qP_tR P2)]
  skip
  refine n_qJ_seq (n_numsJ8 B P2 o0 o1) h1 (fun y f F => n_mT_F F) (fun x' g' q => ?_)
  obtain ⟨i', nm', c2, d2, le, P', ok⟩ := q
  exact h3 r x' g' i' nm' c2 d2 rb.1 rb.2 r2 (by omega) P' ok
theorem n_partsJ9 {h k x g : m_H} {c' i : Nat} {o v2 v3 : Int} {c d : Int → Int} (B : n_qB h k c') (P : n_qP h k c' x g i o 0 c d) (o1 : o < 40) {FC : Bool × m_H → Option (Bool × m_H)} {Q : m_H → m_H → Prop} (h1 : ∀ y, FC (false, y) = some (false, y)) (h3 : ∀ r x' g' i' nm' c2 d2, 0 ≤ r → r < o → d (9 + r) ≠ 12 → i ≤ i' → n_qP h k c' x' g' i' o nm' c2 d2 → n_nOK 9 (n_up c 1 r) (n_up (n_up d 1 r) 2 (-1)) c2 d2 → n_qJ h k c' (FC (true, x')) (n_mT o v2 v3 g') Q) : n_qJ h k c' (t4_readParts 10 9 x >>= FC) (t11_made 127 g >>= fun z => t11_makes_c153 127 o v2 v3 9 (163 + 8) o z.1 z.2) Q := by
  have o0 := P.2.2.2.1.2.2.2.1
  unfold t4_readParts
  rw [m_w_of (x := 9) (by omega) (by omega), if_neg (show ¬ (9 : Int) = 0 by decide), if_neg (show ¬ (9 : Int) = 1 by decide), n_bif (n_qP_tC P), n_bas]
  refine n_qJ_row B P o1 (w := 1) (by omega) (by omega) (fun y => h1 y) (fun y F => n_c153F F o0 o1 (by omega) (by omega)) (fun r x1 g1 rb r2 PA => ?_)
  have P1 : n_qP h k c' x1 (m_p g1 (163 + 8) o r) (i + 1) o 0 _ _ := n_qP_scr PA (w := 1) (by omega) (by omega) r
  dsimp only
  rw [if_pos (show true = true from rfl), if_neg (show ¬ (9 : Int) = 2 by decide), if_neg (show ¬ (9 : Int) = 3 by decide), if_neg (show ¬ (9 : Int) = 4 by decide), if_neg (show ¬ (9 : Int) = 5 by decide), if_neg (show ¬ (9 : Int) = 6 by decide), if_neg (show ¬ (9 : Int) = 7 by decide), if_neg (show ¬ (9 : Int) = 8 by decide), if_pos (show (9 : Int) = 9 from rfl), n_c153 PA.2.1.1.2 P1.2.1.1.2 o0 o1 (by omega) (by omega)]
  have P2 : n_qP h k c' x1 (m_p (m_p g1 (163 + 8) o r) (173 + 8) o (-1)) (i + 1) o 0 _ _ := n_qP_scr P1 (w := 2) (by omega) (by omega) (-1)
  rw [if_neg (show ¬ (9 : Int) = 5 by decide), n_c176, m_w_of (x := o) (by omega) (by omega), if_pos (n_d37 P1.2.1.1.2 (k := 8) (by omega) (by omega) o0 o1), n_bs, if_pos (n_qP_tR P2)]
  skip
  refine n_qJ_seq (n_numsJ9 B P2 o0 o1) h1 (fun y f F => n_mT_F F) (fun x' g' q => ?_)
  obtain ⟨i', nm', c2, d2, le, P', ok⟩ := q
  exact h3 r x' g' i' nm' c2 d2 rb.1 rb.2 r2 (by omega) P' ok
theorem n_partsJ10 {h k x g : m_H} {c' i : Nat} {o v2 v3 : Int} {c d : Int → Int} (B : n_qB h k c') (P : n_qP h k c' x g i o 0 c d) (o1 : o < 40) {FC : Bool × m_H → Option (Bool × m_H)} {Q : m_H → m_H → Prop} (h1 : ∀ y, FC (false, y) = some (false, y)) (h3 : ∀ r x' g' i' nm' c2 d2, 0 ≤ r → r < o → d (9 + r) ≠ 12 → i ≤ i' → n_qP h k c' x' g' i' o nm' c2 d2 → n_nOK 10 (n_up c 1 r) (n_up (n_up d 1 r) 2 (-1)) c2 d2 → n_qJ h k c' (FC (true, x')) (n_mT o v2 v3 g') Q) : n_qJ h k c' (t4_readParts 10 10 x >>= FC) (t11_made 127 g >>= fun z => t11_makes_c153 127 o v2 v3 10 (163 + 8) o z.1 z.2) Q := by
  have o0 := P.2.2.2.1.2.2.2.1
  unfold t4_readParts
  rw [m_w_of (x := 10) (by omega) (by omega), if_neg (show ¬ (10 : Int) = 0 by decide), if_neg (show ¬ (10 : Int) = 1 by decide), n_bif (n_qP_tC P), n_bas]
  refine n_qJ_row B P o1 (w := 1) (by omega) (by omega) (fun y => h1 y) (fun y F => n_c153F F o0 o1 (by omega) (by omega)) (fun r x1 g1 rb r2 PA => ?_)
  have P1 : n_qP h k c' x1 (m_p g1 (163 + 8) o r) (i + 1) o 0 _ _ := n_qP_scr PA (w := 1) (by omega) (by omega) r
  dsimp only
  rw [if_pos (show true = true from rfl), if_neg (show ¬ (10 : Int) = 2 by decide), if_neg (show ¬ (10 : Int) = 3 by decide), if_neg (show ¬ (10 : Int) = 4 by decide), if_neg (show ¬ (10 : Int) = 5 by decide), if_neg (show ¬ (10 : Int) = 6 by decide), if_neg (show ¬ (10 : Int) = 7 by decide), if_neg (show ¬ (10 : Int) = 8 by decide), if_neg (show ¬ (10 : Int) = 9 by decide), if_pos (show (10 : Int) = 10 from rfl), n_c153 PA.2.1.1.2 P1.2.1.1.2 o0 o1 (by omega) (by omega)]
  have P2 : n_qP h k c' x1 (m_p (m_p g1 (163 + 8) o r) (173 + 8) o (-1)) (i + 1) o 0 _ _ := n_qP_scr P1 (w := 2) (by omega) (by omega) (-1)
  rw [if_neg (show ¬ (10 : Int) = 5 by decide), n_c176, m_w_of (x := o) (by omega) (by omega), if_pos (n_d37 P1.2.1.1.2 (k := 8) (by omega) (by omega) o0 o1), n_bs, if_pos (n_qP_tR P2)]
  skip
  refine n_qJ_seq (n_numsJ10 B P2 o0 o1) h1 (fun y f F => n_mT_F F) (fun x' g' q => ?_)
  obtain ⟨i', nm', c2, d2, le, P', ok⟩ := q
  exact h3 r x' g' i' nm' c2 d2 rb.1 rb.2 r2 (by omega) P' ok
theorem n_partsJ11 {h k x g : m_H} {c' i : Nat} {o v2 v3 : Int} {c d : Int → Int} (B : n_qB h k c') (P : n_qP h k c' x g i o 0 c d) (o1 : o < 40) {FC : Bool × m_H → Option (Bool × m_H)} {Q : m_H → m_H → Prop} (h1 : ∀ y, FC (false, y) = some (false, y)) (h3 : ∀ r x' g' i' nm' c2 d2, 0 ≤ r → r < o → d (9 + r) ≠ 12 → i ≤ i' → n_qP h k c' x' g' i' o nm' c2 d2 → n_nOK 11 (n_up c 1 r) (n_up (n_up d 1 r) 2 (-1)) c2 d2 → n_qJ h k c' (FC (true, x')) (n_mT o v2 v3 g') Q) : n_qJ h k c' (t4_readParts 10 11 x >>= FC) (t11_made 127 g >>= fun z => t11_makes_c153 127 o v2 v3 11 (163 + 8) o z.1 z.2) Q := by
  have o0 := P.2.2.2.1.2.2.2.1
  unfold t4_readParts
  rw [m_w_of (x := 11) (by omega) (by omega), if_neg (show ¬ (11 : Int) = 0 by decide), if_neg (show ¬ (11 : Int) = 1 by decide), n_bif (n_qP_tC P), n_bas]
  refine n_qJ_row B P o1 (w := 1) (by omega) (by omega) (fun y => h1 y) (fun y F => n_c153F F o0 o1 (by omega) (by omega)) (fun r x1 g1 rb r2 PA => ?_)
  have P1 : n_qP h k c' x1 (m_p g1 (163 + 8) o r) (i + 1) o 0 _ _ := n_qP_scr PA (w := 1) (by omega) (by omega) r
  dsimp only
  rw [if_pos (show true = true from rfl), if_neg (show ¬ (11 : Int) = 2 by decide), if_neg (show ¬ (11 : Int) = 3 by decide), if_neg (show ¬ (11 : Int) = 4 by decide), if_neg (show ¬ (11 : Int) = 5 by decide), if_neg (show ¬ (11 : Int) = 6 by decide), if_neg (show ¬ (11 : Int) = 7 by decide), if_neg (show ¬ (11 : Int) = 8 by decide), if_neg (show ¬ (11 : Int) = 9 by decide), if_neg (show ¬ (11 : Int) = 10 by decide), if_pos (show (11 : Int) = 11 from rfl), n_c153 PA.2.1.1.2 P1.2.1.1.2 o0 o1 (by omega) (by omega)]
  have P2 : n_qP h k c' x1 (m_p (m_p g1 (163 + 8) o r) (173 + 8) o (-1)) (i + 1) o 0 _ _ := n_qP_scr P1 (w := 2) (by omega) (by omega) (-1)
  rw [if_neg (show ¬ (11 : Int) = 5 by decide), n_c176, m_w_of (x := o) (by omega) (by omega), if_pos (n_d37 P1.2.1.1.2 (k := 8) (by omega) (by omega) o0 o1), n_bs, if_pos (n_qP_tR P2)]
  skip
  refine n_qJ_seq (n_numsJ11 B P2 o0 o1) h1 (fun y f F => n_mT_F F) (fun x' g' q => ?_)
  obtain ⟨i', nm', c2, d2, le, P', ok⟩ := q
  exact h3 r x' g' i' nm' c2 d2 rb.1 rb.2 r2 (by omega) P' ok
