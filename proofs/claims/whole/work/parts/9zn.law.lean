/-! THE LAW'S LOOP (written by gen9zn.py) -/
theorem n_inS (a b c : Int) (h : m_H) : ∃ r, t11_in a b c h = some (r, h) := by
  unfold t11_in
  split
  · exact ⟨_, rfl⟩
  · split
    · exact ⟨_, rfl⟩
    · exact ⟨_, rfl⟩
theorem n_guard {α : Type} {q : Prop} [Decidable q] {f : Option (α × m_H)} {b : α} {x y : m_H} (n : ¬ q) (e : (if q then f else none) = some (b, y)) : y = x := by
  rw [if_neg n] at e
  cases e
theorem n_g_sliver (v : Int) (x : m_H) (b : Bool) (y : m_H) (q : m_t x 127 ≠ 11) (e : t11_sliver 127 v x = some (b, y)) : y = x := by
  unfold t11_sliver at e
  obtain ⟨r, hr⟩ := n_inS (m_w v) 0 9 x
  rw [hr, n_bs] at e
  cases r
  · cases e; rfl
  · exact n_guard q e
theorem n_g_go (v : Int) (x : m_H) (b : Int) (y : m_H) (q : m_t x 127 ≠ 11) (e : t11_go 127 v x = some (b, y)) : y = x := by
  unfold t11_go at e
  obtain ⟨r, hr⟩ := n_inS (m_w v) 0 100 x
  rw [hr, n_bs] at e
  cases r
  · cases e; rfl
  · exact n_guard q e
theorem n_g_near (v1 v2 v3 v4 : Int) (x : m_H) (b : Int) (y : m_H) (q : m_t x 127 ≠ 11) (e : t11_near 127 v1 v2 v3 v4 x = some (b, y)) : y = x := by
  unfold t11_near at e
  obtain ⟨r, hr⟩ := n_inS (m_w v4) 0 3 x
  rw [hr, n_bs] at e
  cases r
  · cases e; rfl
  · exact n_guard q e
theorem n_g_speed (v1 v2 v3 v4 : Int) (x : m_H) (b : Int) (y : m_H) (q : m_t x 127 ≠ 11) (e : t11_speed 127 v1 v2 v3 v4 x = some (b, y)) : y = x := by
  unfold t11_speed at e
  obtain ⟨r, hr⟩ := n_inS (m_w v3) 1 8 x
  obtain ⟨r2, hr2⟩ := n_inS (m_w v4) 1 8 x
  rw [hr, n_bs] at e
  cases r
  · cases e; rfl
  · dsimp only at e
    rw [if_pos rfl, hr2, n_bs] at e
    cases r2
    · cases e; rfl
    · exact n_guard q e
theorem n_g_machine (v1 v2 v3 : Int) (x : m_H) (b : Int) (y : m_H) (q : m_t x 127 ≠ 11) (e : t11_machine 127 v1 v2 v3 x = some (b, y)) : y = x := by
  unfold t11_machine at e
  by_cases c : m_w v1 < 0
  · rw [if_pos c] at e
    cases e; rfl
  · rw [if_neg c] at e
    obtain ⟨r, hr⟩ := n_inS (m_w (Int.tdiv (m_w v1) 1000)) 0 100 x
    obtain ⟨r2, hr2⟩ := n_inS (m_w v2) 0 100 x
    obtain ⟨r3, hr3⟩ := n_inS (m_w v3) 0 200 x
    rw [hr, n_bs] at e
    cases r
    · cases e; rfl
    · dsimp only at e
      rw [if_pos rfl] at e
      by_cases c2 : 128 < m_w (Int.tmod (m_w v1) 1000)
      · rw [if_pos c2] at e
        cases e; rfl
      · rw [if_neg c2, hr2, n_bs] at e
        cases r2
        · cases e; rfl
        · dsimp only at e
          rw [if_pos rfl, hr3, n_bs] at e
          cases r3
          · cases e; rfl
          · exact n_guard q e
theorem n_g_nail (v : Int) (x : m_H) (b : Int) (y : m_H) (q : m_t x 127 ≠ 11) (e : t11_nail 127 v x = some (b, y)) : y = x := by
  unfold t11_nail at e
  rw [t11_nail_c2] at e
  exact n_guard q e
theorem n_g_unfound (v1 v2 : Int) (x : m_H) (b : Int) (y : m_H) (q : m_t x 127 ≠ 11) (e : t11_unfound 127 v1 v2 x = some (b, y)) : y = x := by
  unfold t11_unfound at e
  obtain ⟨r, hr⟩ : ∃ r, t11_canAsk v1 v2 x = some (r, x) := by
    unfold t11_canAsk
    obtain ⟨r, hr⟩ := n_inS (m_w v1) 1 100 x
    obtain ⟨r2, hr2⟩ := n_inS (m_w v2) 0 65535 x
    rw [hr, n_bs]
    cases r
    · exact ⟨_, rfl⟩
    · dsimp only
      rw [if_pos rfl, hr2, n_bs]
      cases r2
      · exact ⟨_, rfl⟩
      · exact ⟨_, rfl⟩
  rw [hr, n_bs] at e
  cases r
  · cases e; rfl
  · exact n_guard q e
theorem n_lawI {h : m_H} {k : Int} {tc tr : m_H → Option (Int × m_H)} (S : n_step h k tc tr) (g : ∀ x b y, m_t x 127 ≠ 11 → tr x = some (b, y) → y = x) (K : m_H → Option (Bool × m_H)) : ∃ h2, n_R h2 (k + 1) ∧ (tc h >>= fun ⟨r1, h1⟩ => if m_t h1 127 = 11 then tr h1 >>= fun ⟨r2, h2⟩ => (if (m_w r1) = (m_w r2) then K h2 else some (false, h2)) else none) = K h2 := by
  obtain ⟨a, h1, b, h2, e1, e2, e3, R⟩ := S
  have t : m_t h1 127 = 11 := by
    by_cases q : m_t h1 127 = 11
    · exact q
    · have e := g h1 b h2 q e2
      rw [e] at R
      exact absurd (n_t127 R.1.2) q
  refine ⟨h2, R, ?_⟩
  rw [e1, n_bs]
  dsimp only
  rw [if_pos t, e2, n_bs]
  dsimp only
  rw [if_pos e3]
theorem n_lawB {h : m_H} {k : Int} {tc tr : m_H → Option (Bool × m_H)} (S : n_stepb h k tc tr) (g : ∀ x b y, m_t x 127 ≠ 11 → tr x = some (b, y) → y = x) (K : m_H → Option (Bool × m_H)) : ∃ h2, n_R h2 (k + 1) ∧ (tc h >>= fun ⟨r1, h1⟩ => if m_t h1 127 = 11 then tr h1 >>= fun ⟨r2, h2⟩ => (if (m_w (m_b2i r1)) = (m_w (m_b2i r2)) then K h2 else some (false, h2)) else none) = K h2 := by
  obtain ⟨a, h1, b, h2, e1, e2, e3, R⟩ := S
  have t : m_t h1 127 = 11 := by
    by_cases q : m_t h1 127 = 11
    · exact q
    · have e := g h1 b h2 q e2
      rw [e] at R
      exact absurd (n_t127 R.1.2) q
  refine ⟨h2, R, ?_⟩
  rw [e1, n_bs]
  dsimp only
  rw [if_pos t, e2, n_bs]
  dsimp only
  rw [if_pos (by rw [e3])]
set_option maxRecDepth 100000 in
theorem n_law {xn : Int} {xs : Int → Int} (hx : ∀ j, -2147483648 ≤ xs j ∧ xs j < 2147483648) (x1 : 0 ≤ xn) (x2 : xn ≤ 3072) (HF : ∀ h k, n_R h k → n_step h k (t10_fault 1) (t11_fault 127)) (HS : ∀ h k, n_R h k → n_step h k (t10_score 1) (t11_score 127)) : ∀ (m : Nat) (k i : Int) (h : m_H), i = 6 * k → 0 ≤ k → k ≤ 512 → xn < i + 6 * m → n_R h k → ∃ h' k', tL_law_c18 xn xs (-1) 1 127 i h = some (true, h') ∧ n_R h' k' ∧ k' ≤ 512 := by
  intro m
  induction m with
  | zero =>
    intro k i h ei k0 k5 lt X
    refine ⟨h, k, ?_, X, k5⟩
    rw [tL_law_c18, if_pos rfl, m_w_of (x := i) (by omega) (by omega)]
    rw [m_w_of (x := xn - 6) (by omega) (by omega), if_pos (by omega)]
  | succ m ih =>
    intro k i h ei k0 k5 lt X
    by_cases c : xn - 6 < i
    · refine ⟨h, k, ?_, X, k5⟩
      rw [tL_law_c18, if_pos rfl, m_w_of (x := i) (by omega) (by omega), m_w_of (x := xn - 6) (by omega) (by omega), if_pos c]
    · have t1 := n_t1 X.1.2
      have nx : ∀ h2, n_R h2 (k + 1) → ∃ h' k', tL_law_c18 xn xs (-1) 1 127 (i + 6) h2 = some (true, h') ∧ n_R h' k' ∧ k' ≤ 512 := fun h2 R2 => ih (k + 1) (i + 6) h2 (by omega) (by omega) (by omega) (by omega) R2
      rw [tL_law_c18, if_pos rfl, m_w_of (x := i) (by omega) (by omega), m_w_of (x := xn - 6) (by omega) (by omega), if_neg c, if_pos ⟨by omega, by omega⟩, m_w_of (x := i + 1) (by omega) (by omega), m_w_of (x := i + 2) (by omega) (by omega), m_w_of (x := i + 3) (by omega) (by omega), m_w_of (x := i + 4) (by omega) (by omega), m_w_of (x := i + 5) (by omega) (by omega)]
      generalize m_w (m_and (xs i) 63) = w
      have b1 : 0 ≤ i + 1 ∧ i + 1 < xn := ⟨by omega, by omega⟩
      have b2 : 0 ≤ i + 2 ∧ i + 2 < xn := ⟨by omega, by omega⟩
      have b3 : 0 ≤ i + 3 ∧ i + 3 < xn := ⟨by omega, by omega⟩
      have b4 : 0 ≤ i + 4 ∧ i + 4 < xn := ⟨by omega, by omega⟩
      have b5 : 0 ≤ i + 5 ∧ i + 5 < xn := ⟨by omega, by omega⟩
      have tL := t1
      by_cases c0 : w = 0
      · obtain ⟨h2, R2, e⟩ := n_lawI (n_s_hand X (xs (i + 1)) (xs (i + 2)) (xs (i + 3)) (xs (i + 4)) (xs (i + 5))) (fun x b y q e => by unfold t11_hand at e; rw [if_neg q] at e; cases e) (fun x => tL_law_c18 xn xs (-1) 1 127 (i + 6) x)
        obtain ⟨h', k', e', r⟩ := nx h2 R2
        rw [if_pos c0, if_pos b1, if_pos b2, if_pos b3, if_pos b4, if_pos b5, if_pos tL]
        exact ⟨h', k', e.trans e', r⟩
      rw [if_neg c0]
      by_cases c1 : w = 1
      · obtain ⟨h2, R2, e⟩ := n_lawI (n_s_drop X ) (fun x b y q e => by unfold t11_drop at e; rw [if_neg q] at e; cases e) (fun x => tL_law_c18 xn xs (-1) 1 127 (i + 6) x)
        obtain ⟨h', k', e', r⟩ := nx h2 R2
        rw [if_pos c1, if_pos tL]
        exact ⟨h', k', e.trans e', r⟩
      rw [if_neg c1]
      by_cases c2 : w = 2
      · obtain ⟨h2, R2, e⟩ := n_lawI (n_s_strip X (xs (i + 1)) (hx _).1 (hx _).2) (fun x b y q e => by unfold t11_strip at e; rw [if_neg q] at e; cases e) (fun x => tL_law_c18 xn xs (-1) 1 127 (i + 6) x)
        obtain ⟨h', k', e', r⟩ := nx h2 R2
        rw [if_pos c2, if_pos b1, if_pos tL]
        exact ⟨h', k', e.trans e', r⟩
      rw [if_neg c2]
      by_cases c3 : w = 3
      · obtain ⟨h2, R2, e⟩ := n_lawB (n_s_sliver X (xs (i + 1)) (hx _).1 (hx _).2) (n_g_sliver _ ) (fun x => tL_law_c18 xn xs (-1) 1 127 (i + 6) x)
        obtain ⟨h', k', e', r⟩ := nx h2 R2
        rw [if_pos c3, if_pos b1, if_pos tL]
        exact ⟨h', k', e.trans e', r⟩
      rw [if_neg c3]
      by_cases c4 : w = 4
      · obtain ⟨h2, R2, e⟩ := n_lawI (n_s_cut X (xs (i + 1)) (xs (i + 2)) (hx _).1 (hx _).2 (hx _).1 (hx _).2) (fun x b y q e => by unfold t11_cut at e; rw [if_neg q] at e; cases e) (fun x => tL_law_c18 xn xs (-1) 1 127 (i + 6) x)
        obtain ⟨h', k', e', r⟩ := nx h2 R2
        rw [if_pos c4, if_pos b1, if_pos b2, if_pos tL]
        exact ⟨h', k', e.trans e', r⟩
      rw [if_neg c4]
      by_cases c5 : w = 5
      · obtain ⟨h2, R2, e⟩ := n_lawI (n_s_turn X (xs (i + 1)) (hx _).1 (hx _).2) (fun x b y q e => by unfold t11_turn at e; rw [if_neg q] at e; cases e) (fun x => tL_law_c18 xn xs (-1) 1 127 (i + 6) x)
        obtain ⟨h', k', e', r⟩ := nx h2 R2
        rw [if_pos c5, if_pos b1, if_pos tL]
        exact ⟨h', k', e.trans e', r⟩
      rw [if_neg c5]
      by_cases c6 : w = 6
      · obtain ⟨h2, R2, e⟩ := n_lawI (n_s_loop X (xs (i + 1)) (hx _).1 (hx _).2) (fun x b y q e => by unfold t11_loop at e; rw [if_neg q] at e; cases e) (fun x => tL_law_c18 xn xs (-1) 1 127 (i + 6) x)
        obtain ⟨h', k', e', r⟩ := nx h2 R2
        rw [if_pos c6, if_pos b1, if_pos tL]
        exact ⟨h', k', e.trans e', r⟩
      rw [if_neg c6]
      by_cases c7 : w = 7
      · obtain ⟨h2, R2, e⟩ := n_lawI (n_s_seam X (xs (i + 1)) (hx _).1 (hx _).2) (fun x b y q e => by unfold t11_seam at e; rw [if_neg q] at e; cases e) (fun x => tL_law_c18 xn xs (-1) 1 127 (i + 6) x)
        obtain ⟨h', k', e', r⟩ := nx h2 R2
        rw [if_pos c7, if_pos b1, if_pos tL]
        exact ⟨h', k', e.trans e', r⟩
      rw [if_neg c7]
      by_cases c8 : w = 8
      · obtain ⟨h2, R2, e⟩ := n_lawI (n_s_splice X (xs (i + 1)) (xs (i + 2)) (xs (i + 3)) (hx _).1 (hx _).2 (hx _).1 (hx _).2 (hx _).1 (hx _).2) (fun x b y q e => by unfold t11_splice at e; rw [if_neg q] at e; cases e) (fun x => tL_law_c18 xn xs (-1) 1 127 (i + 6) x)
        obtain ⟨h', k', e', r⟩ := nx h2 R2
        rw [if_pos c8, if_pos b1, if_pos b2, if_pos b3, if_pos tL]
        exact ⟨h', k', e.trans e', r⟩
      rw [if_neg c8]
      by_cases c9 : w = 9
      · obtain ⟨h2, R2, e⟩ := n_lawI (n_s_machine X (xs (i + 1)) (xs (i + 2)) (xs (i + 3)) (hx _).1 (hx _).2 (hx _).1 (hx _).2 (hx _).1 (hx _).2) (n_g_machine _ _ _ ) (fun x => tL_law_c18 xn xs (-1) 1 127 (i + 6) x)
        obtain ⟨h', k', e', r⟩ := nx h2 R2
        rw [if_pos c9, if_pos b1, if_pos b2, if_pos b3, if_pos tL]
        exact ⟨h', k', e.trans e', r⟩
      rw [if_neg c9]
      by_cases c10 : w = 10
      · obtain ⟨h2, R2, e⟩ := n_lawI (n_s_copy X (xs (i + 1)) (xs (i + 2)) (hx _).1 (hx _).2 (hx _).1 (hx _).2) (fun x b y q e => by unfold t11_copy at e; rw [if_neg q] at e; cases e) (fun x => tL_law_c18 xn xs (-1) 1 127 (i + 6) x)
        obtain ⟨h', k', e', r⟩ := nx h2 R2
        rw [if_pos c10, if_pos b1, if_pos b2, if_pos tL]
        exact ⟨h', k', e.trans e', r⟩
      rw [if_neg c10]
      by_cases c11 : w = 11
      · obtain ⟨h2, R2, e⟩ := n_lawI (n_s_speed X (xs (i + 1)) (xs (i + 2)) (xs (i + 3)) (xs (i + 4)) (hx _).1 (hx _).2 (hx _).1 (hx _).2 (hx _).1 (hx _).2 (hx _).1 (hx _).2) (n_g_speed _ _ _ _ ) (fun x => tL_law_c18 xn xs (-1) 1 127 (i + 6) x)
        obtain ⟨h', k', e', r⟩ := nx h2 R2
        rw [if_pos c11, if_pos b1, if_pos b2, if_pos b3, if_pos b4, if_pos tL]
        exact ⟨h', k', e.trans e', r⟩
      rw [if_neg c11]
      by_cases c12 : w = 12
      · obtain ⟨h2, R2, e⟩ := n_lawB (n_s_lose X (xs (i + 1)) (hx _).1 (hx _).2) (fun x b y q e => by unfold t11_lose at e; rw [if_neg q] at e; cases e) (fun x => tL_law_c18 xn xs (-1) 1 127 (i + 6) x)
        obtain ⟨h', k', e', r⟩ := nx h2 R2
        rw [if_pos c12, if_pos b1, if_pos tL]
        exact ⟨h', k', e.trans e', r⟩
      rw [if_neg c12]
      by_cases c13 : w = 13
      · obtain ⟨h2, R2, e⟩ := n_lawB (n_s_hang X (xs (i + 1)) (xs (i + 2)) (hx _).1 (hx _).2 (hx _).1 (hx _).2) (fun x b y q e => by unfold t11_hang at e; rw [if_neg q] at e; cases e) (fun x => tL_law_c18 xn xs (-1) 1 127 (i + 6) x)
        obtain ⟨h', k', e', r⟩ := nx h2 R2
        rw [if_pos c13, if_pos b1, if_pos b2, if_pos tL]
        exact ⟨h', k', e.trans e', r⟩
      rw [if_neg c13]
      by_cases c14 : w = 14
      · obtain ⟨h2, R2, e⟩ := n_lawI (n_s_nail X (xs (i + 1)) (hx _).1 (hx _).2) (n_g_nail _ ) (fun x => tL_law_c18 xn xs (-1) 1 127 (i + 6) x)
        obtain ⟨h', k', e', r⟩ := nx h2 R2
        rw [if_pos c14, if_pos b1, if_pos tL]
        exact ⟨h', k', e.trans e', r⟩
      rw [if_neg c14]
      by_cases c15 : w = 15
      · obtain ⟨h2, R2, e⟩ := n_lawB (n_s_read X (xs (i + 1)) (xs (i + 2)) (hx _).1 (hx _).2 (hx _).1 (hx _).2) (fun x b y q e => by unfold t11_read at e; rw [if_neg q] at e; cases e) (fun x => tL_law_c18 xn xs (-1) 1 127 (i + 6) x)
        obtain ⟨h', k', e', r⟩ := nx h2 R2
        rw [if_pos c15, if_pos b1, if_pos b2, if_pos tL]
        exact ⟨h', k', e.trans e', r⟩
      rw [if_neg c15]
      by_cases c16 : w = 16
      · obtain ⟨h2, R2, e⟩ := n_lawI (n_s_marked X (xs (i + 1)) (xs (i + 2)) (hx _).1 (hx _).2 (hx _).1 (hx _).2) (fun x b y q e => by unfold t11_marked at e; rw [if_neg q] at e; cases e) (fun x => tL_law_c18 xn xs (-1) 1 127 (i + 6) x)
        obtain ⟨h', k', e', r⟩ := nx h2 R2
        rw [if_pos c16, if_pos b1, if_pos b2, if_pos tL]
        exact ⟨h', k', e.trans e', r⟩
      rw [if_neg c16]
      by_cases c17 : w = 17
      · obtain ⟨h2, R2, e⟩ := n_lawI (n_s_go X (xs (i + 1)) (hx _).1 (hx _).2) (n_g_go _ ) (fun x => tL_law_c18 xn xs (-1) 1 127 (i + 6) x)
        obtain ⟨h', k', e', r⟩ := nx h2 R2
        rw [if_pos c17, if_pos b1, if_pos tL]
        exact ⟨h', k', e.trans e', r⟩
      rw [if_neg c17]
      by_cases c18 : w = 18
      · obtain ⟨h2, R2, e⟩ := n_lawI (n_s_sample X (xs (i + 1)) (xs (i + 2)) (hx _).1 (hx _).2 (hx _).1 (hx _).2) (fun x b y q e => by unfold t11_sample at e; rw [if_neg q] at e; cases e) (fun x => tL_law_c18 xn xs (-1) 1 127 (i + 6) x)
        obtain ⟨h', k', e', r⟩ := nx h2 R2
        rw [if_pos c18, if_pos b1, if_pos b2, if_pos tL]
        exact ⟨h', k', e.trans e', r⟩
      rw [if_neg c18]
      by_cases c19 : w = 19
      · obtain ⟨h2, R2, e⟩ := n_lawI (n_s_told X (xs (i + 1)) (xs (i + 2)) (hx _).1 (hx _).2 (hx _).1 (hx _).2) (fun x b y q e => by unfold t11_told at e; rw [if_neg q] at e; cases e) (fun x => tL_law_c18 xn xs (-1) 1 127 (i + 6) x)
        obtain ⟨h', k', e', r⟩ := nx h2 R2
        rw [if_pos c19, if_pos b1, if_pos b2, if_pos tL]
        exact ⟨h', k', e.trans e', r⟩
      rw [if_neg c19]
      by_cases c20 : w = 20
      · obtain ⟨h2, R2, e⟩ := n_lawI (n_s_feed X (xs (i + 1)) (xs (i + 2)) (xs (i + 3)) (xs (i + 4)) (xs (i + 5))) (fun x b y q e => by unfold t11_feed at e; rw [if_neg q] at e; cases e) (fun x => tL_law_c18 xn xs (-1) 1 127 (i + 6) x)
        obtain ⟨h', k', e', r⟩ := nx h2 R2
        rw [if_pos c20, if_pos b1, if_pos b2, if_pos b3, if_pos b4, if_pos b5, if_pos tL]
        exact ⟨h', k', e.trans e', r⟩
      rw [if_neg c20]
      by_cases c21 : w = 21
      · obtain ⟨h2, R2, e⟩ := n_lawB (n_s_end X (xs (i + 1)) (hx _).1 (hx _).2) (fun x b y q e => by unfold t11_end at e; rw [if_neg q] at e; cases e) (fun x => tL_law_c18 xn xs (-1) 1 127 (i + 6) x)
        obtain ⟨h', k', e', r⟩ := nx h2 R2
        rw [if_pos c21, if_pos b1, if_pos tL]
        exact ⟨h', k', e.trans e', r⟩
      rw [if_neg c21]
      by_cases c22 : w = 22
      · obtain ⟨h2, R2, e⟩ := n_lawI (HF h k X) (fun x b y q e => by unfold t11_fault at e; rw [if_neg q] at e; cases e) (fun x => tL_law_c18 xn xs (-1) 1 127 (i + 6) x)
        obtain ⟨h', k', e', r⟩ := nx h2 R2
        rw [if_pos c22, if_pos tL]
        exact ⟨h', k', e.trans e', r⟩
      rw [if_neg c22]
      by_cases c23 : w = 23
      · obtain ⟨h2, R2, e⟩ := n_lawI (HS h k X) (fun x b y q e => by unfold t11_score at e; rw [if_neg q] at e; cases e) (fun x => tL_law_c18 xn xs (-1) 1 127 (i + 6) x)
        obtain ⟨h', k', e', r⟩ := nx h2 R2
        rw [if_pos c23, if_pos tL]
        exact ⟨h', k', e.trans e', r⟩
      rw [if_neg c23]
      by_cases c24 : w = 24
      · obtain ⟨h2, R2, e⟩ := n_lawI (n_s_make X (xs (i + 1)) (xs (i + 2)) (hx _).1 (hx _).2 (hx _).1 (hx _).2) (fun x b y q e => by unfold t11_make at e; rw [if_neg q] at e; cases e) (fun x => tL_law_c18 xn xs (-1) 1 127 (i + 6) x)
        obtain ⟨h', k', e', r⟩ := nx h2 R2
        rw [if_pos c24, if_pos b1, if_pos b2, if_pos tL]
        exact ⟨h', k', e.trans e', r⟩
      rw [if_neg c24]
      by_cases c25 : w = 25
      · obtain ⟨h2, R2, e⟩ := n_lawI (n_s_fails X (xs (i + 1)) (xs (i + 2)) (hx _).1 (hx _).2 (hx _).1 (hx _).2) (fun x b y q e => by unfold t11_fails_ at e; rw [if_neg q] at e; cases e) (fun x => tL_law_c18 xn xs (-1) 1 127 (i + 6) x)
        obtain ⟨h', k', e', r⟩ := nx h2 R2
        rw [if_pos c25, if_pos b1, if_pos b2, if_pos tL]
        exact ⟨h', k', e.trans e', r⟩
      rw [if_neg c25]
      by_cases c26 : w = 26
      · obtain ⟨h2, R2, e⟩ := n_lawI (n_s_out X (xs (i + 1)) (hx _).1 (hx _).2) (fun x b y q e => by unfold t11_out at e; rw [if_neg q] at e; cases e) (fun x => tL_law_c18 xn xs (-1) 1 127 (i + 6) x)
        obtain ⟨h', k', e', r⟩ := nx h2 R2
        rw [if_pos c26, if_pos b1, if_pos tL]
        exact ⟨h', k', e.trans e', r⟩
      rw [if_neg c26]
      by_cases c27 : w = 27
      · obtain ⟨h2, R2, e⟩ := n_lawI (n_s_why X (xs (i + 1)) (xs (i + 2)) (hx _).1 (hx _).2 (hx _).1 (hx _).2) (fun x b y q e => by unfold t11_why at e; rw [if_neg q] at e; cases e) (fun x => tL_law_c18 xn xs (-1) 1 127 (i + 6) x)
        obtain ⟨h', k', e', r⟩ := nx h2 R2
        rw [if_pos c27, if_pos b1, if_pos b2, if_pos tL]
        exact ⟨h', k', e.trans e', r⟩
      rw [if_neg c27]
      by_cases c28 : w = 28
      · obtain ⟨h2, R2, e⟩ := n_lawI (n_s_lead X (xs (i + 1)) (xs (i + 2)) (xs (i + 3)) (hx _).1 (hx _).2 (hx _).1 (hx _).2 (hx _).1 (hx _).2) (fun x b y q e => by unfold t11_lead at e; rw [if_neg q] at e; cases e) (fun x => tL_law_c18 xn xs (-1) 1 127 (i + 6) x)
        obtain ⟨h', k', e', r⟩ := nx h2 R2
        rw [if_pos c28, if_pos b1, if_pos b2, if_pos b3, if_pos tL]
        exact ⟨h', k', e.trans e', r⟩
      rw [if_neg c28]
      by_cases c29 : w = 29
      · obtain ⟨h2, R2, e⟩ := n_lawI (n_s_quarrel X (xs (i + 1)) (hx _).1 (hx _).2) (fun x b y q e => by unfold t11_quarrel at e; rw [if_neg q] at e; cases e) (fun x => tL_law_c18 xn xs (-1) 1 127 (i + 6) x)
        obtain ⟨h', k', e', r⟩ := nx h2 R2
        rw [if_pos c29, if_pos b1, if_pos tL]
        exact ⟨h', k', e.trans e', r⟩
      rw [if_neg c29]
      by_cases c30 : w = 30
      · obtain ⟨h2, R2, e⟩ := n_lawI (n_s_open X (xs (i + 1)) (hx _).1 (hx _).2) (fun x b y q e => by unfold t11_open at e; rw [if_neg q] at e; cases e) (fun x => tL_law_c18 xn xs (-1) 1 127 (i + 6) x)
        obtain ⟨h', k', e', r⟩ := nx h2 R2
        rw [if_pos c30, if_pos b1, if_pos tL]
        exact ⟨h', k', e.trans e', r⟩
      rw [if_neg c30]
      by_cases c31 : w = 31
      · obtain ⟨h2, R2, e⟩ := n_lawI (n_s_turns2 X (xs (i + 1)) (xs (i + 2)) (hx _).1 (hx _).2 (hx _).1 (hx _).2).1 (fun x b y q e => by unfold t11_turns at e; rw [if_neg q] at e; cases e) (fun x => tL_law_c18 xn xs (-1) 1 127 (i + 6) x)
        obtain ⟨h', k', e', r⟩ := nx h2 R2
        rw [if_pos c31, if_pos b1, if_pos tL]
        exact ⟨h', k', e.trans e', r⟩
      rw [if_neg c31]
      by_cases c32 : w = 32
      · obtain ⟨h2, R2, e⟩ := n_lawI (n_s_turns2 X (xs (i + 1)) (xs (i + 2)) (hx _).1 (hx _).2 (hx _).1 (hx _).2).2 (fun x b y q e => by unfold t11_turnOf at e; rw [if_neg q] at e; cases e) (fun x => tL_law_c18 xn xs (-1) 1 127 (i + 6) x)
        obtain ⟨h', k', e', r⟩ := nx h2 R2
        rw [if_pos c32, if_pos b1, if_pos b2, if_pos tL]
        exact ⟨h', k', e.trans e', r⟩
      rw [if_neg c32]
      by_cases c33 : w = 33
      · obtain ⟨h2, R2, e⟩ := n_lawI (n_s_deep X (xs (i + 1)) (hx _).1 (hx _).2) (fun x b y q e => by unfold t11_deep at e; rw [if_neg q] at e; cases e) (fun x => tL_law_c18 xn xs (-1) 1 127 (i + 6) x)
        obtain ⟨h', k', e', r⟩ := nx h2 R2
        rw [if_pos c33, if_pos b1, if_pos tL]
        exact ⟨h', k', e.trans e', r⟩
      rw [if_neg c33]
      by_cases c34 : w = 34
      · obtain ⟨h2, R2, e⟩ := n_lawI (n_s_tape X (xs (i + 1)) (hx _).1 (hx _).2) (fun x b y q e => by unfold t11_tape at e; rw [if_neg q] at e; cases e) (fun x => tL_law_c18 xn xs (-1) 1 127 (i + 6) x)
        obtain ⟨h', k', e', r⟩ := nx h2 R2
        rw [if_pos c34, if_pos b1, if_pos tL]
        exact ⟨h', k', e.trans e', r⟩
      rw [if_neg c34]
      by_cases c35 : w = 35
      · obtain ⟨h2, R2, e⟩ := n_lawI (n_s_wipe X ) (fun x b y q e => by unfold t11_wipe at e; rw [if_neg q] at e; cases e) (fun x => tL_law_c18 xn xs (-1) 1 127 (i + 6) x)
        obtain ⟨h', k', e', r⟩ := nx h2 R2
        rw [if_pos c35, if_pos tL]
        exact ⟨h', k', e.trans e', r⟩
      rw [if_neg c35]
      by_cases c36 : w = 36
      · obtain ⟨h2, R2, e⟩ := n_lawI (n_s_near X (xs (i + 1)) (xs (i + 2)) (xs (i + 3)) (xs (i + 4)) (hx _).1 (hx _).2 (hx _).1 (hx _).2 (hx _).1 (hx _).2 (hx _).1 (hx _).2) (n_g_near _ _ _ _ ) (fun x => tL_law_c18 xn xs (-1) 1 127 (i + 6) x)
        obtain ⟨h', k', e', r⟩ := nx h2 R2
        rw [if_pos c36, if_pos b1, if_pos b2, if_pos b3, if_pos b4, if_pos tL]
        exact ⟨h', k', e.trans e', r⟩
      rw [if_neg c36]
      by_cases c37 : w = 37
      · obtain ⟨h2, R2, e⟩ := n_lawI (n_s_rivals X (xs (i + 1)) (xs (i + 2)) (xs (i + 3)) (hx _).1 (hx _).2 (hx _).1 (hx _).2 (hx _).1 (hx _).2) (fun x b y q e => by unfold t11_rivals at e; rw [if_neg q] at e; cases e) (fun x => tL_law_c18 xn xs (-1) 1 127 (i + 6) x)
        obtain ⟨h', k', e', r⟩ := nx h2 R2
        rw [if_pos c37, if_pos b1, if_pos b2, if_pos b3, if_pos tL]
        exact ⟨h', k', e.trans e', r⟩
      rw [if_neg c37]
      by_cases c38 : w = 38
      · obtain ⟨h2, R2, e⟩ := n_lawI (n_s_remade X (by omega) (xs (i + 1)) (xs (i + 2)) (hx _).1 (hx _).2 (hx _).1 (hx _).2) (fun x b y q e => by unfold t11_remade at e; rw [if_neg q] at e; cases e) (fun x => tL_law_c18 xn xs (-1) 1 127 (i + 6) x)
        obtain ⟨h', k', e', r⟩ := nx h2 R2
        rw [if_pos c38, if_pos b1, if_pos b2, if_pos tL]
        exact ⟨h', k', e.trans e', r⟩
      rw [if_neg c38]
      by_cases c39 : w = 39
      · obtain ⟨h2, R2, e⟩ := n_lawI (n_s_stretch X (by omega) (xs (i + 1)) (xs (i + 2)) (xs (i + 3)) (hx _).1 (hx _).2 (hx _).1 (hx _).2 (hx _).1 (hx _).2) (fun x b y q e => by unfold t11_stretch at e; rw [if_neg q] at e; cases e) (fun x => tL_law_c18 xn xs (-1) 1 127 (i + 6) x)
        obtain ⟨h', k', e', r⟩ := nx h2 R2
        rw [if_pos c39, if_pos b1, if_pos b2, if_pos b3, if_pos tL]
        exact ⟨h', k', e.trans e', r⟩
      rw [if_neg c39]
      by_cases c40 : w = 40
      · obtain ⟨h2, R2, e⟩ := n_lawI (n_s_unfound X (by omega) (xs (i + 1)) (xs (i + 2)) (hx _).1 (hx _).2 (hx _).1 (hx _).2) (n_g_unfound _ _ ) (fun x => tL_law_c18 xn xs (-1) 1 127 (i + 6) x)
        obtain ⟨h', k', e', r⟩ := nx h2 R2
        rw [if_pos c40, if_pos b1, if_pos b2, if_pos tL]
        exact ⟨h', k', e.trans e', r⟩
      rw [if_neg c40]
      by_cases c41 : w = 41
      · obtain ⟨h2, R2, e⟩ := n_lawI (n_s_count X (xs (i + 1)) (hx _).1 (hx _).2) (fun x b y q e => by unfold t11_count at e; rw [if_neg q] at e; cases e) (fun x => tL_law_c18 xn xs (-1) 1 127 (i + 6) x)
        obtain ⟨h', k', e', r⟩ := nx h2 R2
        rw [if_pos c41, if_pos b1, if_pos tL]
        exact ⟨h', k', e.trans e', r⟩
      rw [if_neg c41]
      exact nx h (n_R_more X)
