/-! WHAT FILLS A ROW -/
def n_rwc (h h' : m_H) (v n : Int) (f : Int → Int) : Prop := n_rw h h' v n f ∧ (n ≤ n_cap h v → n_cap h' v = n_cap h v)
theorem n_after {h : m_H} {v x : Int} (W : n_wf h) (hv : m_t h v = 5) (h0 : 0 ≤ x) (h3 : x ≤ 3000) : ∃ h1, t5_resize v x h = some ((), h1) ∧ n_wf h1 ∧ n_row h1 v ∧ m_g h1 v 1 = x ∧ n_ch h h1 v ∧ n_cap h1 v ≤ 6000 ∧ (x ≤ n_cap h v → n_cap h1 v = n_cap h v) := by
  have l := n_wf_lt W hv
  obtain ⟨s1, s2, s3, s4, s5⟩ := n_rsz_ch W hv h0 h3
  refine ⟨n_rsz h v x, ?_, n_wf_ch W hv s3 s1 s4, s1, s2, s3, s4, fun c => ?_⟩
  · rw [n_resize (n_wf_row W hv) l.1 l.2.1 (by omega) (by omega) (by omega), show max x 0 = x by omega]
  · have hva : v ≠ m_g h v 0 := fun e => by have r2 := (n_wf_row W hv).2.1; rw [← e] at r2; omega
    unfold n_rsz
    rw [if_neg (by omega)]
    unfold n_cap
    rw [m_g_p, if_neg (by omega)]
    rfl
theorem n_done {h h1 : m_H} {v n lo hi : Int} {f : Int → Int} (A : n_ch h h1 v) (R : n_row h1 v) (hc : n_cap h1 v ≤ 6000) (hcc : n ≤ n_cap h v → n_cap h1 v = n_cap h v) (hv : v < m_n h) (en : m_g h1 v 1 = n) (g : Int → Int) (hg : ∀ j, 0 ≤ j → j < n → (if lo ≤ j ∧ j < hi then f j else m_g h1 (m_g h1 v 0) j) = g j) : n_rwc h (n_fl h1 (m_g h1 v 0) lo hi f) v n g := by
  have B := n_rw_fl (lo := lo) (n := hi) (f := f) A R hc hv g (fun j j1 j2 => hg j j1 (by omega))
  rw [en] at B
  refine ⟨B, fun q => ?_⟩
  have e0 : m_g (n_fl h1 (m_g h1 v 0) lo hi f) v 0 = m_g h1 v 0 := by
    rw [n_g_fl, if_neg (fun p => by have := R.2.1; have := R.1; rw [← p.1] at *; omega)]
  rw [← hcc q]
  unfold n_cap
  rw [e0]
  rfl
theorem n_same {h : m_H} {v n : Int} {f : Int → Int} (W : n_wf h) (hv : m_t h v = 5) (lo hi : Int) (en : m_g h v 1 = n) (g : Int → Int) (hg : ∀ j, 0 ≤ j → j < n → (if lo ≤ j ∧ j < hi then f j else m_g h (m_g h v 0) j) = g j) : n_rwc h (n_fl h (m_g h v 0) lo hi f) v n g :=
  n_done (n_ch_rfl W hv) (n_wf_row W hv) (n_wf_lt W hv).2.2.1 (fun _ => rfl) (n_wf_lt W hv).1 en g hg
theorem n_len {h : m_H} {v : Int} (W : n_wf h) (hv : m_t h v = 5) : 0 ≤ m_g h v 1 ∧ m_g h v 1 ≤ 6000 := by
  have a := (n_wf_row W hv).2.2.1
  have b := (n_wf_row W hv).2.2.2.1
  have c := (n_wf_lt W hv).2.2.1
  unfold n_cap at c
  omega
theorem n_fillPart_c {h : m_H} {v w b n : Int} (W : n_wf h) (hv : m_t h v = 5) (hw : m_t h w = 5) (hn : w ≠ v) (en : m_g h v 1 = n) (hb : -1000000 ≤ b) (hb2 : b ≤ 1000000) (hs : n_sv h w) : t5_fillPart_c8 v w b n 0 h = some ((), n_fl h (m_g h v 0) 0 n (fun j => n_rg h w (b + j))) := by
  have L := n_len W hv
  have key := n_fill (fun i h => t5_fillPart_c8 v w b n i h) (h := h) (a := m_g h v 0) (lo := 0) (n := n) (fun j => n_rg h w (b + j)) (by omega) (fun i i1 i2 => by
    obtain ⟨p1, p2, p3, p4, p5⟩ := n_lf W hv 0 i (fun j => n_rg h w (b + j))
    obtain ⟨p6, p7, p8⟩ := p5 w hw hn
    have hsv := hs (b + i)
    show t5_fillPart_c8 v w b n i _ = t5_fillPart_c8 v w b n (i + 1) _
    rw [t5_fillPart_c8]
    generalize n_fl h (m_g h v 0) 0 i (fun j => n_rg h w (b + j)) = hi at *
    have e := p8 (b + i)
    rw [m_w_of (by omega) (by omega), m_w_of (by omega) (by omega), if_pos i2, if_pos p6.1, n_get p6 (by omega) (by omega), n_bs, e]
    show (if m_t hi v = 5 then _ else _) = _
    rw [if_pos p1.1, n_set p1 i1 (by omega) (by omega) (by omega), n_bs, p2, n_cl_of hsv.1 hsv.2])
  refine key.trans ?_
  show t5_fillPart_c8 v w b n n _ = _
  rw [t5_fillPart_c8, m_w_of (by omega) (by omega), if_neg (by omega)]
theorem n_fillPartC {h : m_H} {v w b n : Int} (W : n_wf h) (hv : m_t h v = 5) (hw : m_t h w = 5) (hn : w ≠ v) (h0 : 0 ≤ n) (h3 : n ≤ 3000) (hb : -1000000 ≤ b) (hb2 : b ≤ 1000000) (hs : n_sv h w) : ∃ h', t5_fillPart v w b n h = some ((), h') ∧ n_rwc h h' v n (fun j => n_rg h w (b + j)) := by
  obtain ⟨h1, e1, W1, R1, en, C1, hc, hcc⟩ := n_after W hv h0 h3
  obtain ⟨q1, q2, q3, q4, q5⟩ := n_oth W hv C1 hw hn
  have e2 := n_fillPart_c W1 R1.1 q1.1 hn en hb hb2 (fun j => by rw [q5]; exact hs j)
  refine ⟨n_fl h1 (m_g h1 v 0) 0 n (fun j => n_rg h1 w (b + j)), ?_, n_done C1 R1 hc hcc (n_wf_lt W hv).1 en _ (fun j j1 j2 => ?_)⟩
  · unfold t5_fillPart
    rw [if_pos hv, e1, n_bs]
    exact e2
  · rw [if_pos ⟨j1, j2⟩, q5]
theorem n_fillTurned {h : m_H} {v w : Int} (W : n_wf h) (hv : m_t h v = 5) (hw : m_t h w = 5) (hn : w ≠ v) (h3 : m_g h w 1 ≤ 3000) (hs : n_sv h w) : ∃ h', t5_fillTurned v w h = some ((), h') ∧ n_rwc h h' v (m_g h w 1) (fun j => n_rg h w (m_g h w 1 - 1 - j)) := by
  have Lw := n_len W hw
  obtain ⟨h1, e1, W1, R1, en, C1, hc, hcc⟩ := n_after W hv Lw.1 h3
  obtain ⟨q1, q2, q3, q4, q5⟩ := n_oth W hv C1 hw hn
  have key := n_fill (fun i h => t5_fillTurned_c10 v w i h) (h := h1) (a := m_g h1 v 0) (lo := 0) (n := m_g h w 1) (fun j => n_rg h w (m_g h w 1 - 1 - j)) (by omega) (fun i i1 i2 => by
    obtain ⟨p1, p2, p3, p4, p5⟩ := n_lf W1 R1.1 0 i (fun j => n_rg h w (m_g h w 1 - 1 - j))
    obtain ⟨p6, p7, p8⟩ := p5 w q1.1 hn
    have hsv := hs (m_g h w 1 - 1 - i)
    show t5_fillTurned_c10 v w i _ = t5_fillTurned_c10 v w (i + 1) _
    rw [t5_fillTurned_c10]
    generalize n_fl h1 (m_g h1 v 0) 0 i (fun j => n_rg h w (m_g h w 1 - 1 - j)) = hi at *
    have e := (p8 (m_g h w 1 - 1 - i)).trans (q5 _)
    rw [if_pos p1.1, p3, en, m_w_of (by omega) (by omega), m_w_of (by omega) (by omega), if_pos i2, if_pos p6.1, n_get p6 (by omega) (by omega), n_bs, e]
    show (if m_t hi v = 5 then _ else _) = _
    rw [if_pos p1.1, n_set p1 i1 (by omega) (by omega) (by omega), n_bs, p2, n_cl_of hsv.1 hsv.2])
  refine ⟨n_fl h1 (m_g h1 v 0) 0 (m_g h w 1) (fun j => n_rg h w (m_g h w 1 - 1 - j)), ?_, n_done C1 R1 hc hcc (n_wf_lt W hv).1 en _ (fun j j1 j2 => ?_)⟩
  · unfold t5_fillTurned
    rw [if_pos hw, if_pos hv, e1, n_bs]
    refine key.trans ?_
    obtain ⟨p1, p2, p3, p4, p5⟩ := n_lf W1 R1.1 0 (m_g h w 1) (fun j => n_rg h w (m_g h w 1 - 1 - j))
    show t5_fillTurned_c10 v w (m_g h w 1) _ = _
    rw [t5_fillTurned_c10, if_pos p1.1, p3, en, if_neg (by omega)]
  · rw [if_pos ⟨j1, j2⟩]
theorem n_dropFirst {h : m_H} {v n : Int} (W : n_wf h) (hv : m_t h v = 5) (h0 : 0 ≤ n) (h1 : n ≤ m_g h v 1) (h3 : m_g h v 1 ≤ 3000) (hs : n_sv h v) : ∃ h', t5_dropFirst v n h = some ((), h') ∧ n_rw h h' v (m_g h v 1 - n) (fun j => n_rg h v (j + n)) := by
  have L := n_len W hv
  have key := n_iter (fun i => t5_dropFirst_c2 v n i (n_fl h (m_g h v 0) 0 (i - n) (fun j => n_rg h v (j + n)))) n (m_g h v 1) h1 (fun i i1 i2 => by
    obtain ⟨p1, p2, p3, p4, p5⟩ := n_lf W hv 0 (i - n) (fun j => n_rg h v (j + n))
    have hsv := hs i
    have e : n_rg (n_fl h (m_g h v 0) 0 (i - n) (fun j => n_rg h v (j + n))) v i = n_rg h v i := by rw [p4, if_neg (by omega)]
    have ef : m_p (n_fl h (m_g h v 0) 0 (i - n) (fun j => n_rg h v (j + n))) (m_g h v 0) (i - n) (n_rg h v i) = n_fl h (m_g h v 0) 0 (i + 1 - n) (fun j => n_rg h v (j + n)) := by
      rw [n_p_fl (by omega) (by show n_rg h v i = n_rg h v (i - n + n); congr 1; omega)]
      congr 1; omega
    show t5_dropFirst_c2 v n i _ = t5_dropFirst_c2 v n (i + 1) _
    rw [t5_dropFirst_c2, ← ef]
    generalize n_fl h (m_g h v 0) 0 (i - n) (fun j => n_rg h v (j + n)) = hi at *
    rw [if_pos p1.1, p3, m_w_of (by omega) (by omega), m_w_of (by omega) (by omega), if_pos i2, n_get p1 (by omega) (by omega), n_bs, e]
    show (if m_t hi v = 5 then _ else _) = _
    rw [if_pos p1.1, n_set p1 (by omega) (by omega) (by omega) (by omega), n_bs, p2, n_cl_of hsv.1 hsv.2])
  rw [show n - n = 0 by omega] at key
  have S := (n_same (f := fun j => n_rg h v (j + n)) W hv 0 (m_g h v 1 - n) rfl (fun j => if j < m_g h v 1 - n then n_rg h v (j + n) else n_rg h v j) (fun j j1 j2 => by
    by_cases c : j < m_g h v 1 - n
    · rw [if_pos ⟨j1, c⟩, if_pos c]
    · rw [if_neg (fun q => c q.2), if_neg c]
      unfold n_rg
      rw [if_pos ⟨j1, j2⟩])).1
  obtain ⟨p1, p2, p3, p4, p5⟩ := n_lf W hv 0 (m_g h v 1 - n) (fun j => n_rg h v (j + n))
  have W1 := n_rw_wf W hv S
  obtain ⟨h2, e2, A2⟩ := n_shrink (n := m_g h v 1 - n) W1 p1.1 (by omega) (by omega) (by omega)
  refine ⟨h2, ?_, n_rw_eq (n_rw_trans W hv S A2) rfl (fun j j1 j2 => ?_)⟩
  · unfold t5_dropFirst
    have k2 : t5_dropFirst_c2 v n n h = t5_dropFirst_c2 v n (m_g h v 1) (n_fl h (m_g h v 0) 0 (m_g h v 1 - n) (fun j => n_rg h v (j + n))) := by
      have := key
      simp only [n_fl_0 h (m_g h v 0) 0 0 _ (Int.le_refl _)] at this
      exact this
    rw [k2, t5_dropFirst_c2, if_pos p1.1, p3, if_neg (by omega), e2, n_bs]
  · rw [n_rw_rg S, if_pos (by omega), if_pos (by omega)]
