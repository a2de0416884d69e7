/-! CALLS: fault, score: both parse: a making -/
theorem n_qP_T {h k x g : m_H} {c' i : Nat} {o nm : Int} {c d : Int → Int} (B : n_qB h k c') (P : n_qP h k c' x g i o nm c d) : m_g x 13 i = n_kq h i ∧ (0 : Int) ≤ i ∧ (i : Int) ≤ 1200 ∧ m_g x 10 7 = i ∧ (n_kq h i = 24 → m_g x 14 i = n_vq h i ∧ 0 ≤ n_vq h i ∧ n_vq h i ≤ 1073741824) := by
  obtain ⟨X, e1, e2, e3, p0, p1⟩ := n_qP_g B P
  obtain ⟨tk, ts, tv⟩ := n_qT_k B P.1
  have hcn : i ≤ c' := P.1.2.2.1
  have cn := (n_qB_p B hcn).1
  have N := n_qB_n B
  exact ⟨tk, by omega, by omega, P.1.2.2.2, fun q => ⟨tv (Or.inl q), n_nmV B.1 p0 p1 q⟩⟩
/-- the reference goes on behind a word -/
theorem n_goesP {h k x g : m_H} {c' i : Nat} {o nm : Int} {c d : Int → Int} (B : n_qB h k c') (P : n_qP h k c' x g i o nm c d) (q : n_kq h i ≤ 24) : t11_goesOn 127 g = some ((), n_atR g (n_pq h (i + 1))) ∧ i < c' := by
  obtain ⟨X, e1, e2, e3, p0, p1⟩ := n_qP_g B P
  have hcn : i ≤ c' := P.1.2.2.1
  have lt := n_kT_lt (b := m_g h 11) (n := m_g h 10 1) (p := n_pq h i) q
  have eb := n_eK_b (b := m_g h 11) lt.1
  have N := n_qB_n B
  have sk := n_al_sk B.1 p0
  have go := n_goesR X (p := n_pq h i) (e := n_we (m_g h 150) (m_g h 127 30) (n_pq h i)) (by rw [sk.2.1, n_we_y lt.1 lt.2]; omega) (by rw [sk.2.1, n_we_y lt.1 lt.2]; omega)
  have ea : n_h2 g 127 31 32 (n_pq h i) (n_we (m_g h 150) (m_g h 127 30) (n_pq h i)) = g := by
    have := e3
    unfold n_atR at this
    rw [e1, e2] at this
    exact this
  rw [ea, e1, e2, sk.2.1, n_we_y lt.1 lt.2, (n_al_sk B.1 (p := n_eK (m_g h 11) (m_g h 10 1) (n_pq h i)) (by omega)).1, ← n_pq_s] at go
  refine ⟨go, ?_⟩
  by_cases z : i = c'
  · have := (n_kq_27 B hcn).mpr z; omega
  · omega
theorem n_isK {h k x g : m_H} {c' i : Nat} {o nm : Int} {c d : Int → Int} (B : n_qB h k c') (P : n_qP h k c' x g i o nm c d) : ∀ q, 0 ≤ q → q < 24 → n_isW (m_g g 150) (m_g g 127 30) (n_pq h i) (n_cst q) = decide (n_kq h i = q) := by
  obtain ⟨X, e1, e2, e3, p0, p1⟩ := n_qP_g B P
  intro q q0 q1
  have K := n_K1 B.1 p0 p1 q0 q1
  rw [e1, e2]
  by_cases c : n_kq h i = q
  · rw [decide_eq_true c, K.mp c]
  · rw [decide_eq_false c]
    exact Bool.eq_false_iff.mpr (fun w => c (K.mpr w))
/-- what begins a making -/
theorem n_qMakR {h k x g : m_H} {c' i : Nat} {o nm r : Int} {c d : Int → Int} (B : n_qB h k c') (P : n_qP h k c' x g i o nm c d) (er : t11_wordKnown 127 g = some (r, g)) (r0 : -1 ≤ r) (r1 : r ≤ 40) : t11_makes 127 g = if o < 40 ∧ n_kq h i = 24 ∧ r = -1 then t11_makes_c60 127 o (n_pq h i) (n_we (m_g h 150) (m_g h 127 30) (n_pq h i) - n_pq h i) g else t11_makes_c56 127 o (n_pq h i) (n_we (m_g h 150) (m_g h 127 30) (n_pq h i) - n_pq h i) g := by
  obtain ⟨X, e1, e2, e3, p0, p1⟩ := n_qP_g B P
  obtain ⟨v1, v2, v3⟩ := P.2.2.1
  obtain ⟨s1, s2, s3, s4, s5⟩ := P.2.2.2.1
  have N := n_qB_n B
  have wb := n_we_b (b := m_g h 150) p1
  have ba := n_barR X (p := n_pq h i) (K := n_kq h i) p0 (by rw [e2]; exact p1) (n_isK B P)
  rw [e3] at ba
  have K4 := n_K4 B.1 p0 p1
  have s2' : m_g g (m_g g 127 34) 8 = o := by rw [n_p127_34 P.2.1.1.2]; exact s2
  have ei := n_in (a := n_we (m_g h 150) (m_g h 127 30) (n_pq h i) - n_pq h i) (b := 1) (c := 6) (h := g) (by omega) (by omega) (by omega) (by omega) (by omega) (by omega)
  unfold t11_makes
  rw [if_pos (n_qP_tR P), if_pos (n_qP_34 P), n_bs, n_bs, n_bs, s2', v1, v2, m_w_of (x := o) (by omega) (by omega), m_w_of (x := n_we (m_g h 150) (m_g h 127 30) (n_pq h i) - n_pq h i) (by omega) (by omega)]
  by_cases o40 : o = 40
  · rw [if_pos o40, if_neg (fun z => by omega)]
  · rw [if_neg o40, ei, n_bs]
    try dsimp only
    by_cases c1 : 1 ≤ n_we (m_g h 150) (m_g h 127 30) (n_pq h i) - n_pq h i ∧ n_we (m_g h 150) (m_g h 127 30) (n_pq h i) - n_pq h i ≤ 6
    · rw [decide_eq_true c1, if_pos rfl, if_pos (n_qP_tR P), ba, n_bs]
      try dsimp only
      by_cases c2 : 0 ≤ n_kq h i ∧ n_kq h i < 24
      · rw [decide_eq_true c2, if_pos rfl, if_neg (fun z => by omega)]
      · have k24 : n_kq h i = 24 := K4.mpr ⟨c1.1, c1.2, fun q q0 q1 => Bool.eq_false_iff.mpr (fun w => by
          have := (n_K1 B.1 p0 p1 q0 q1).mpr w
          unfold n_kq at c2
          omega)⟩
        rw [decide_eq_false c2, if_neg (by decide), if_pos (n_qP_tR P), er, n_bs]
        try dsimp only
        rw [m_w_of (x := r) (by omega) (by omega)]
        by_cases c3 : r = -1
        · rw [if_pos c3, if_pos ⟨by omega, k24, c3⟩]
        · rw [if_neg c3, if_neg (fun z => c3 z.2.2)]
    · rw [decide_eq_false c1, if_neg (by decide), if_neg (fun z => c1 (by have := K4.mp z.2.1; omega))]
theorem n_c60F {k y : m_H} {f o v2 v3 : Int} (F : n_qF k y f) : t11_makes_c60 127 o v2 v3 y = some ((), y) := by
  unfold t11_makes_c60
  rw [if_pos (n_qF_t F), if_neg (n_qF_33 F)]
theorem n_c95F {k y : m_H} {f o v2 v3 : Int} (F : n_qF k y f) : t11_makes_c95 127 o v2 v3 (-1) y = some ((), y) := by
  unfold t11_makes_c95
  rw [m_w_of (by omega) (by omega), if_pos rfl, if_pos (n_qF_t F), n_qF_fails F, n_bs]
  try dsimp only
  unfold t11_makes_c107
  rw [if_pos (n_qF_t F), if_neg (n_qF_33 F)]
/-- cells and bounds of a making -/
theorem n_makCD {v o r r2 : Int} {c d c2 d2 : Int → Int} (v0 : 0 ≤ v) (v1 : v < 12) (e0 : c 0 = v) (e1 : c 1 = (if 1 < v then r else -1)) (e2 : c 2 = (if v = 5 then r2 else -1)) (e6 : c 6 = 0) (e7 : c 7 = 0) (f0 : d 0 = v) (f1 : d 1 = (if 1 < v then r else -1)) (f2 : d 2 = (if v = 5 then r2 else -1)) (f9 : ∀ q, 0 ≤ q → q < o → d (9 + q) = d2 (9 + q)) (hr : 1 < v → (0 ≤ r ∧ r < o) ∧ d (9 + r) ≠ 12) (hr2 : v = 5 → (0 ≤ r2 ∧ r2 < o) ∧ d (9 + r2) ≠ 12) (ok : n_nOK v c d c2 d2) : n_cd c2 d2 ∧ n_db o d2 ∧ d2 0 ≠ 12 := by
  obtain ⟨k1, k2, k3, k4, k5, k6, k7, k8, k9, k10, k11, k12, k13⟩ := ok
  have a0 := k1 0 (by omega)
  have a1 := k1 1 (by omega)
  have a2 := k1 2 (by omega)
  have a6 := k1 6 (by omega)
  have a7 := k1 7 (by omega)
  have z0 : d2 0 = v := by omega
  have y0 : c2 0 = v := by omega
  unfold n_cd n_db
  rw [z0, y0, a1.1, a1.2, a2.1, a2.2, a6.1, a7.1, e1, e2, f1, f2, e6, e7]
  refine ⟨⟨⟨rfl, rfl, rfl⟩, fun q => (k2 q).1, fun q => k3 (by omega), k4, fun q => by omega, fun _ => ⟨rfl, rfl⟩⟩, ⟨v0, by omega, fun q => if_neg (by omega), fun q => ?_, fun q => if_neg q, fun q => ?_, fun q => (k2 q).2, k5, k6, k7, k8, k9, k10, k11, k12, k13, fun q => by omega⟩, by omega⟩
  · rw [if_pos (by omega)]
    have := hr (by omega)
    rw [← f9 r this.1.1 this.1.2]
    exact ⟨this.1.1, this.1.2, this.2⟩
  · rw [if_pos q]
    have := hr2 q
    rw [← f9 r2 this.1.1 this.1.2]
    exact ⟨this.1.1, this.1.2, this.2⟩

theorem n_makJ {h k x g : m_H} {c' i : Nat} {o : Int} (B : n_qB h k c') (S : n_qS h k c' x g i o) : n_qJ h k c' (t4_readMaking 10 x) (t11_makes 127 g) (fun x' g' => ∃ i', i < i' ∧ o < 40 ∧ n_qS h k c' x' g' i' (o + 1)) := by
  obtain ⟨nm, c, d, P⟩ := S
  obtain ⟨s1, s2, s3, s4, s5⟩ := P.2.2.2.1
  obtain ⟨tk, i0, i1, t7, tv⟩ := n_qP_T B P
  have kb := n_kq_b (h := h) (i := i)
  obtain ⟨r, nC, nR, r1, r2⟩ := n_qKnown B P
  obtain ⟨fl, F⟩ := n_qP_F B P
  have rb : -1 ≤ r ∧ r ≤ 40 := by rcases r1 with w | w <;> omega
  have mC : t4_readMaking 10 x = if o < 40 then (if n_kq h i = 24 then (if r = -1 then (if m_t x 10 = 4 then t4_value 10 x >>= fun ⟨r13, h12⟩ => if m_t h12 10 = 4 then some (m_p h12 10 7 ((m_g h12 10 7) + 1)) >>= fun h15 => if m_t h15 10 = 4 then t4_pass 10 61 h15 >>= fun ⟨r18, h17⟩ => (if r18 = true then
        (if m_t h17 10 = 4 then t4_kind 10 h17 >>= fun ⟨r22, h21⟩ => (if (m_w r22) < 0 then
          some (false, h21)
        else
          (if 11 < (m_w r22) then
            some (false, h21)
          else
            (if m_t h21 10 = 4 then some (m_p h21 10 7 ((m_g h21 10 7) + 1)) >>= fun h26 => if m_t h26 10 = 4 then t4_beginOrder 10 r22 r13 h26 >>= fun ⟨_, h28⟩ => if m_t h28 10 = 4 then t4_readParts 10 r22 h28 >>= fun ⟨r32, h31⟩ => (if r32 = true then
              (if m_t h31 10 = 4 then t4_endOrder 10 h31 >>= fun ⟨r36, h35⟩ => (if r36 = true then
                some (true, h35)
              else
                some (false, h35)) else none)
            else
              some (false, h31)) else none else none else none))) else none)
      else
        some (false, h17)) else none else none else none) else some (false, x)) else some (false, x)) else some (false, x) := by
    unfold t4_readMaking
    rw [if_pos (n_qP_tC P), n_p10_8 P.1.1.1.2, if_pos (n_t15 P.1.1.1.2), s1, m_w_of (x := o) (by omega) (by omega), n_kindC P.1.1.1 t7 i0 i1, n_bs, tk]
    try dsimp only
    rw [m_w_of (x := n_kq h i) (by omega) (by omega), if_pos (n_qP_tC P), nC, n_bs]
    try dsimp only
    rw [m_w_of (x := r) (by omega) (by omega)]
  have bad : t11_makes_c56 127 o (n_pq h i) (n_we (m_g h 150) (m_g h 127 30) (n_pq h i) - n_pq h i) g = some ((), m_p g 127 33 (n_pq h i)) := by
    unfold t11_makes_c56
    rw [if_pos (n_qP_tR P), fl, n_bs]
    exact n_c60F F
  rw [mC, n_qMakR B P nR rb.1 rb.2]
  by_cases c0 : o < 40 ∧ n_kq h i = 24 ∧ r = -1
  · obtain ⟨o1, k24, rm⟩ := c0
    obtain ⟨go, hi⟩ := n_goesP B P (by omega)
    have P1 := n_qP_next B P hi
    rw [if_pos o1, if_pos k24, if_pos rm, if_pos (show o < 40 ∧ n_kq h i = 24 ∧ r = -1 from ⟨o1, k24, rm⟩), if_pos (n_qP_tC P), n_valueC P.1.1.1 t7 i0 i1, n_bs, (tv k24).1]
    try dsimp only
    rw [if_pos (n_qP_tC P), t7, n_bs, if_pos (n_qP_tC P1)]
    unfold t11_makes_c60
    rw [if_pos (n_qP_tR P), P.2.2.1.2.2, m_w_of (x := -1) (by omega) (by omega), if_pos rfl, go, n_bs]
    try dsimp only
    rw [if_pos (n_qP_tR P1)]
    refine n_qJ_sign B P1 (s := 61) (by omega) (fun _ => rfl) (fun y G => ?_) (fun x2 g2 P2 => ?_)
    · try dsimp only
      rw [if_pos (n_qF_t G), if_neg (n_qF_33 G), n_c95F G]
      exact n_qk_end G
    · obtain ⟨tk2, j0, j1, t72, tv2⟩ := n_qP_T B P2
      have kb2 := n_kq_b (h := h) (i := i + 1 + 1)
      obtain ⟨X2, e12, e22, e32, p02, p12⟩ := n_qP_g B P2
      have vb := n_verbR X2 (p := n_pq h (i + 1 + 1)) (K := n_kq h (i + 1 + 1)) p02 (by rw [e22]; exact p12) (n_isK B P2)
      rw [e32] at vb
      try dsimp only
      rw [if_pos (show true = true from rfl), if_pos (n_qP_tC P2), n_kindC P2.1.1.1 t72 j0 j1, n_bs, tk2]
      try dsimp only
      rw [m_w_of (x := n_kq h (i + 1 + 1)) (by omega) (by omega), if_neg (show ¬ n_kq h (i + 1 + 1) < 0 by omega), if_pos (n_qP_tR P2), P2.2.2.1.2.2, m_w_of (x := -1) (by omega) (by omega), if_pos rfl, vb, n_bs]
      try dsimp only
      by_cases c11 : n_kq h (i + 1 + 1) ≤ 11
      · obtain ⟨go2, hi2⟩ := n_goesP B P2 (by omega)
        have P3 := n_qP_next B P2 hi2
        rw [if_neg (show ¬ 11 < n_kq h (i + 1 + 1) by omega), if_pos (show 0 ≤ n_kq h (i + 1 + 1) ∧ n_kq h (i + 1 + 1) ≤ 11 from ⟨kb2.1, c11⟩), if_pos (n_qP_tC P2), t72, n_bs, if_pos (n_qP_tC P3)]
        obtain ⟨v, ev⟩ : ∃ v, v = n_kq h (i + 1 + 1) := ⟨_, rfl⟩
        rw [← ev] at c11 kb2 ⊢
        obtain ⟨x4, be, P4'⟩ := n_qBeg P3 o1 v (n_vq h i)
        have P4 : n_qP h k c' x4 (m_p (n_atR g2 (n_pq h (i + 1 + 1 + 1))) (153 + 8) o v) _ _ _ _ _ := n_qP_scr P4' (w := 0) (by omega) (by omega) v
        have F3 := P3.2.1.1.2
        unfold t11_makes_c95 t11_makes_c107
        rw [be, n_bs, m_w_of (x := v) (by omega) (by omega), if_neg (show ¬ v = -1 by omega), if_pos (n_qP_tR P2), P2.2.2.1.2.2, m_w_of (x := -1) (by omega) (by omega), if_pos rfl, go2, n_bs]
        try dsimp only
        rw [if_pos (n_qP_tC P4), if_pos (n_qP_tR P3), m_w_of (x := o) (by omega) (by omega), if_pos (n_c35 F3 (k := 8) (by omega) (by omega)), n_a35 F3 (by omega) (by omega), if_pos (n_d35 F3 (k := 8) (by omega) (by omega) s4 o1), n_bs, if_pos (n_qP_tR P4), if_pos (n_c36 P4.2.1.1.2 (k := 8) (by omega) (by omega)), n_a36 P4.2.1.1.2 (by omega) (by omega)]
        -- the end, for every verb
        have nmq : ∀ q, 0 ≤ q → q < o → c (9 + q) ≠ n_vq h i := fun q q0 q1 => by rw [← P.2.2.2.2.2.2.2.2.2.1 q q0 q1]; exact r2 rm k24 q q0 q1
        have fin : ∀ (x' g' : m_H) (i' : Nat) (nm' r r2 : Int) (c3 d3 c2 d2 : Int → Int), i < i' → n_qP h k c' x' g' i' o nm' c2 d2 → (c3 = (fun w => if w = 0 then v else if w = 1 then (if 1 < v then r else -1) else if w = 2 then (if v = 5 then r2 else -1) else if w = 6 then 0 else if w = 7 then 0 else if w = 8 then n_vq h i else c w)) → (d3 = (fun w => if w = 0 then v else if w = 1 then (if 1 < v then r else -1) else if w = 2 then (if v = 5 then r2 else -1) else d w)) → (1 < v → (0 ≤ r ∧ r < o) ∧ d (9 + r) ≠ 12) → (v = 5 → (0 ≤ r2 ∧ r2 < o) ∧ d (9 + r2) ≠ 12) → n_nOK v c3 d3 c2 d2 → n_qJ h k c' (if m_t x' 10 = 4 then t4_endOrder 10 x' >>= fun ⟨r36, h35⟩ => (if r36 = true then some (true, h35) else some (false, h35)) else none) (n_mT o (n_pq h i) (n_we (m_g h 150) (m_g h 127 30) (n_pq h i) - n_pq h i) g') (fun x' g' => ∃ i', i < i' ∧ o < 40 ∧ n_qS h k c' x' g' i' (o + 1)) := fun x' g' i' nm' r r2 c3 d3 c2 d2 lt P' hc hd hr hr2 ok => by
          have d9 : ∀ q, 0 ≤ q → d3 (9 + q) = d (9 + q) := fun q q0 => by
            rw [hd]
            show (if 9 + q = 0 then _ else if 9 + q = 1 then _ else if 9 + q = 2 then _ else d (9 + q)) = _
            rw [if_neg (by omega), if_neg (by omega), if_neg (by omega)]
          have c9 : ∀ q, 0 ≤ q → c3 (9 + q) = c (9 + q) := fun q q0 => by
            rw [hc]
            show (if 9 + q = 0 then _ else if 9 + q = 1 then _ else if 9 + q = 2 then _ else if 9 + q = 6 then _ else if 9 + q = 7 then _ else if 9 + q = 8 then _ else c (9 + q)) = _
            rw [if_neg (by omega), if_neg (by omega), if_neg (by omega), if_neg (by omega), if_neg (by omega), if_neg (by omega)]
          have CD := n_makCD (r := r) (r2 := r2) (o := o) (c := c3) (d := d3) kb2.1 (by omega) (by rw [hc]; rfl) (by rw [hc]; rfl) (by rw [hc]; rfl) (by rw [hc]; rfl) (by rw [hc]; rfl) (by rw [hd]; rfl) (by rw [hd]; rfl) (by rw [hd]; rfl) (fun q q0 q1 => (ok.1 (9 + q) (by omega)).2.symm) (fun q => ⟨(hr q).1, by rw [d9 r (hr q).1.1]; exact (hr q).2⟩) (fun q => ⟨(hr2 q).1, by rw [d9 r2 (hr2 q).1.1]; exact (hr2 q).2⟩) ok
          rw [if_pos (n_qP_tC P')]
          refine n_endMakJ B P' o1 CD.1 CD.2.1 CD.2.2 (i0 := i) P.1.2.2.1 k24 ?_ (fun q q0 q1 => ?_) (fun b y => by cases b <;> rfl) (fun x5 g5 S5 => ⟨_, by omega, o1, S5⟩)
          · rw [(ok.1 8 (by omega)).1, hc]; rfl
          · rw [(ok.1 (9 + q) (by omega)).1, c9 q q0]; exact nmq q q0 q1
        clear mC bad fl F
        have cs : v = 0 ∨ v = 1 ∨ v = 2 ∨ v = 3 ∨ v = 4 ∨ v = 5 ∨ v = 6 ∨ v = 7 ∨ v = 8 ∨ v = 9 ∨ v = 10 ∨ v = 11 := by omega
        clear ev
        rcases cs with e | e | e | e | e | e | e | e | e | e | e | e <;> subst e
        · rw [if_neg (show ¬ (1 : Int) < 0 by decide)]
          refine n_partsJ0 B P4 o1 (fun _ => rfl) (fun x' g' i' nm' c2 d2 le P' ok => fin x' g' i' nm' 0 0 _ _ c2 d2 (by omega) P' ?_ ?_ (fun q => by omega) (fun q => by omega) ok)
          · funext w; simp only [n_upE]; (repeat split) <;> first | rfl | omega
          · funext w; simp only [n_upE]; (repeat split) <;> first | rfl | omega
        · rw [if_neg (show ¬ (1 : Int) < 1 by decide)]
          refine n_partsJ1 B P4 o1 (fun _ => rfl) (fun x' g' i' nm' c2 d2 le P' ok => fin x' g' i' nm' 0 0 _ _ c2 d2 (by omega) P' ?_ ?_ (fun q => by omega) (fun q => by omega) ok)
          · funext w; simp only [n_upE]; (repeat split) <;> first | rfl | omega
          · funext w; simp only [n_upE]; (repeat split) <;> first | rfl | omega
        · rw [if_pos (show (1 : Int) < 2 by decide)]
          refine n_partsJ2 B P4 o1 (fun _ => rfl) (fun r x' g' i' nm' c2 d2 ra rb rc le P' ok => fin x' g' i' nm' r 0 _ _ c2 d2 (by omega) P' ?_ ?_ (fun q => ⟨⟨ra, rb⟩, ?_⟩) (fun q => by omega) ok)
          · funext w; simp only [n_upE]; (repeat split) <;> first | rfl | omega
          · funext w; simp only [n_upE]; (repeat split) <;> first | rfl | omega
          · simp only [n_upE] at rc; rw [if_neg (by omega)] at rc; exact rc
        · rw [if_pos (show (1 : Int) < 3 by decide)]
          refine n_partsJ3 B P4 o1 (fun _ => rfl) (fun r x' g' i' nm' c2 d2 ra rb rc le P' ok => fin x' g' i' nm' r 0 _ _ c2 d2 (by omega) P' ?_ ?_ (fun q => ⟨⟨ra, rb⟩, ?_⟩) (fun q => by omega) ok)
          · funext w; simp only [n_upE]; (repeat split) <;> first | rfl | omega
          · funext w; simp only [n_upE]; (repeat split) <;> first | rfl | omega
          · simp only [n_upE] at rc; rw [if_neg (by omega)] at rc; exact rc
        · rw [if_pos (show (1 : Int) < 4 by decide)]
          refine n_partsJ4 B P4 o1 (fun _ => rfl) (fun r x' g' i' nm' c2 d2 ra rb rc le P' ok => fin x' g' i' nm' r 0 _ _ c2 d2 (by omega) P' ?_ ?_ (fun q => ⟨⟨ra, rb⟩, ?_⟩) (fun q => by omega) ok)
          · funext w; simp only [n_upE]; (repeat split) <;> first | rfl | omega
          · funext w; simp only [n_upE]; (repeat split) <;> first | rfl | omega
          · simp only [n_upE] at rc; rw [if_neg (by omega)] at rc; exact rc
        · rw [if_pos (show (1 : Int) < 5 by decide)]
          refine n_partsJ5 B P4 o1 (fun _ => rfl) (fun r r2 x' g' i' nm' c2 d2 ra rb rc ra2 rb2 rc2 le P' ok => fin x' g' i' nm' r r2 _ _ c2 d2 (by omega) P' ?_ ?_ (fun q => ⟨⟨ra, rb⟩, ?_⟩) (fun q => ⟨⟨ra2, rb2⟩, ?_⟩) ok)
          · funext w; simp only [n_upE, ↓reduceIte]; (repeat split) <;> first | rfl | omega
          · funext w; simp only [n_upE, ↓reduceIte]; (repeat split) <;> first | rfl | omega
          · simp only [n_upE] at rc; rw [if_neg (by omega)] at rc; exact rc
          · simp only [n_upE] at rc2; rw [if_neg (by omega)] at rc2; exact rc2
        · rw [if_pos (show (1 : Int) < 6 by decide)]
          refine n_partsJ6 B P4 o1 (fun _ => rfl) (fun r x' g' i' nm' c2 d2 ra rb rc le P' ok => fin x' g' i' nm' r 0 _ _ c2 d2 (by omega) P' ?_ ?_ (fun q => ⟨⟨ra, rb⟩, ?_⟩) (fun q => by omega) ok)
          · funext w; simp only [n_upE]; (repeat split) <;> first | rfl | omega
          · funext w; simp only [n_upE]; (repeat split) <;> first | rfl | omega
          · simp only [n_upE] at rc; rw [if_neg (by omega)] at rc; exact rc
        · rw [if_pos (show (1 : Int) < 7 by decide)]
          refine n_partsJ7 B P4 o1 (fun _ => rfl) (fun r x' g' i' nm' c2 d2 ra rb rc le P' ok => fin x' g' i' nm' r 0 _ _ c2 d2 (by omega) P' ?_ ?_ (fun q => ⟨⟨ra, rb⟩, ?_⟩) (fun q => by omega) ok)
          · funext w; simp only [n_upE]; (repeat split) <;> first | rfl | omega
          · funext w; simp only [n_upE]; (repeat split) <;> first | rfl | omega
          · simp only [n_upE] at rc; rw [if_neg (by omega)] at rc; exact rc
        · rw [if_pos (show (1 : Int) < 8 by decide)]
          refine n_partsJ8 B P4 o1 (fun _ => rfl) (fun r x' g' i' nm' c2 d2 ra rb rc le P' ok => fin x' g' i' nm' r 0 _ _ c2 d2 (by omega) P' ?_ ?_ (fun q => ⟨⟨ra, rb⟩, ?_⟩) (fun q => by omega) ok)
          · funext w; simp only [n_upE]; (repeat split) <;> first | rfl | omega
          · funext w; simp only [n_upE]; (repeat split) <;> first | rfl | omega
          · simp only [n_upE] at rc; rw [if_neg (by omega)] at rc; exact rc
        · rw [if_pos (show (1 : Int) < 9 by decide)]
          refine n_partsJ9 B P4 o1 (fun _ => rfl) (fun r x' g' i' nm' c2 d2 ra rb rc le P' ok => fin x' g' i' nm' r 0 _ _ c2 d2 (by omega) P' ?_ ?_ (fun q => ⟨⟨ra, rb⟩, ?_⟩) (fun q => by omega) ok)
          · funext w; simp only [n_upE]; (repeat split) <;> first | rfl | omega
          · funext w; simp only [n_upE]; (repeat split) <;> first | rfl | omega
          · simp only [n_upE] at rc; rw [if_neg (by omega)] at rc; exact rc
        · rw [if_pos (show (1 : Int) < 10 by decide)]
          refine n_partsJ10 B P4 o1 (fun _ => rfl) (fun r x' g' i' nm' c2 d2 ra rb rc le P' ok => fin x' g' i' nm' r 0 _ _ c2 d2 (by omega) P' ?_ ?_ (fun q => ⟨⟨ra, rb⟩, ?_⟩) (fun q => by omega) ok)
          · funext w; simp only [n_upE]; (repeat split) <;> first | rfl | omega
          · funext w; simp only [n_upE]; (repeat split) <;> first | rfl | omega
          · simp only [n_upE] at rc; rw [if_neg (by omega)] at rc; exact rc
        · rw [if_pos (show (1 : Int) < 11 by decide)]
          refine n_partsJ11 B P4 o1 (fun _ => rfl) (fun r x' g' i' nm' c2 d2 ra rb rc le P' ok => fin x' g' i' nm' r 0 _ _ c2 d2 (by omega) P' ?_ ?_ (fun q => ⟨⟨ra, rb⟩, ?_⟩) (fun q => by omega) ok)
          · funext w; simp only [n_upE]; (repeat split) <;> first | rfl | omega
          · funext w; simp only [n_upE]; (repeat split) <;> first | rfl | omega
          · simp only [n_upE] at rc; rw [if_neg (by omega)] at rc; exact rc
      · obtain ⟨fl2, F2⟩ := n_qP_F B P2
        rw [if_pos (show 11 < n_kq h (i + 1 + 1) by omega), if_neg (show ¬ (0 ≤ n_kq h (i + 1 + 1) ∧ n_kq h (i + 1 + 1) ≤ 11) by omega)]
        have q : t11_makes_c95 127 o (n_pq h i) (n_we (m_g h 150) (m_g h 127 30) (n_pq h i) - n_pq h i) (-1) g2 = some ((), m_p g2 127 33 (n_pq h (i + 1 + 1))) := by
          unfold t11_makes_c95
          rw [m_w_of (by omega) (by omega), if_pos rfl, if_pos (n_qP_tR P2), fl2, n_bs]
          try dsimp only
          unfold t11_makes_c107
          rw [if_pos (n_qF_t F2), if_neg (n_qF_33 F2)]
        rw [n_bs]
        try dsimp only
        rw [q]
        exact n_qJ_bad P2.1 (n_qk_end F2)
  · rw [if_neg c0, bad]
    have e : (if o < 40 then (if n_kq h i = 24 then (if r = -1 then (none : Option (Bool × m_H)) else some (false, x)) else some (false, x)) else some (false, x)) = some (false, x) := by
      by_cases a : o < 40
      · by_cases b : n_kq h i = 24
        · by_cases c : r = -1
          · exact absurd ⟨a, b, c⟩ c0
          · rw [if_pos a, if_pos b, if_neg c]
        · rw [if_pos a, if_neg b]
      · rw [if_neg a]
    by_cases a : o < 40
    · by_cases b : n_kq h i = 24
      · by_cases c : r = -1
        · exact absurd ⟨a, b, c⟩ c0
        · rw [if_pos a, if_pos b, if_neg c]
          exact n_qJ_bad P.1 (n_qk_end F)
      · rw [if_pos a, if_neg b]
        exact n_qJ_bad P.1 (n_qk_end F)
    · rw [if_neg a]
      exact n_qJ_bad P.1 (n_qk_end F)
