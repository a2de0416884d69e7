/-! ROWS: what an operation on one row leaves -/
def n_rw (h h' : m_H) (v n : Int) (f : Int → Int) : Prop := n_row h' v ∧ n_cap h' v ≤ 6000 ∧ m_g h' v 1 = n ∧ (∀ j, 0 ≤ j → j < n → m_g h' (m_g h' v 0) j = f j) ∧ n_ch h h' v
theorem n_oth {h h' : m_H} {v w : Int} (W : n_wf h) (hv : m_t h v = 5) (A : n_ch h h' v) (hw : m_t h w = 5) (hn : w ≠ v) : n_row h' w ∧ m_g h' w 0 = m_g h w 0 ∧ m_g h' w 1 = m_g h w 1 ∧ (∀ j, m_g h' (m_g h w 0) j = m_g h (m_g h w 0) j) ∧ ∀ j, n_rg h' w j = n_rg h w j := by
  obtain ⟨a1, a2, a3, a4, a5, a6, a7, a8, a9⟩ := A
  have lw := n_wf_lt W hw
  have kv := (n_wf_row W hv).2.1
  have kw := (n_wf_row W hw).2.1
  have e : ∀ j, m_g h' w j = m_g h w j := fun j => a2 w lw.1 hn (fun e => by rw [← e] at kv; omega) j
  have e2 : ∀ j, m_g h' (m_g h w 0) j = m_g h (m_g h w 0) j := fun j => a2 _ lw.2.1 (fun e => by rw [e] at kw; omega) (W.2.2.2.1 w v hw hv hn) j
  have R := n_wf_row W hw
  refine ⟨?_, e 0, e 1, e2, fun j => ?_⟩
  · unfold n_row at *
    rw [e, e, (a1 w lw.1).1, (a1 _ lw.2.1).1, (a1 _ lw.2.1).2]
    exact R
  · unfold n_rg
    rw [e, e, e2]
theorem n_sf_ch {h h' : m_H} {v b : Int} (W : n_wf h) (hv : m_t h v = 5) (A : n_ch h h' v) (S : n_sf h b) : n_sf h' b ∧ (∀ j, m_g h' b j = m_g h b j) ∧ m_t h' b = m_t h b ∧ m_l h' b = m_l h b := by
  obtain ⟨s1, s2, s3⟩ := S
  have A' := A
  obtain ⟨a1, a2, a3, a4, a5, a6, a7, a8, a9⟩ := A
  refine ⟨⟨by omega, by rw [(a1 b s1).1]; exact s2, fun r hr e => ?_⟩, a2 b s1 (fun e => s2 (by rw [e]; exact hv)) (fun e => s3 v hv e.symm), a1 b s1⟩
  have hr5 : m_t h r = 5 := by
    by_cases c : r < m_n h
    · rw [← (a1 r c).1]; exact hr
    · rcases a3 r (by omega) with q | q <;> omega
  by_cases c : r = v
  · subst c
    have := s3 r hr5
    omega
  · have := n_oth W hv A' hr5 c
    exact s3 r hr5 (by rw [← this.2.1]; exact e)
/-- the heap in a loop that writes a row -/
theorem n_lf {h : m_H} {v : Int} (W : n_wf h) (hv : m_t h v = 5) (lo i : Int) (f : Int → Int) : n_row (n_fl h (m_g h v 0) lo i f) v ∧ m_g (n_fl h (m_g h v 0) lo i f) v 0 = m_g h v 0 ∧ m_g (n_fl h (m_g h v 0) lo i f) v 1 = m_g h v 1 ∧
    (∀ j, n_rg (n_fl h (m_g h v 0) lo i f) v j = if lo ≤ j ∧ j < i ∧ 0 ≤ j ∧ j < m_g h v 1 then f j else n_rg h v j) ∧
    ∀ w, m_t h w = 5 → w ≠ v → n_row (n_fl h (m_g h v 0) lo i f) w ∧ m_g (n_fl h (m_g h v 0) lo i f) w 1 = m_g h w 1 ∧ ∀ j, n_rg (n_fl h (m_g h v 0) lo i f) w j = n_rg h w j := by
  have R := n_wf_row W hv
  have ka := R.2.1
  have e : ∀ w, m_t h w = 5 → ∀ j, m_g (n_fl h (m_g h v 0) lo i f) w j = m_g h w j := fun w hw j => by
    rw [n_g_fl, if_neg (fun q => by have := q.1; rw [← this] at ka; omega)]
  refine ⟨n_row_fl R ka, e v hv 0, e v hv 1, fun j => ?_, fun w hw hn => ⟨n_row_fl (n_wf_row W hw) ka, e w hw 1, fun j => n_rg_fl (n_wf_row W hw) ka (W.2.2.2.1 w v hw hv hn)⟩⟩
  rw [n_rg_fls R rfl]
  unfold n_rg
  by_cases c : 0 ≤ j ∧ j < m_g h v 1
  · rw [if_pos c]
    by_cases c2 : lo ≤ j ∧ j < i
    · rw [if_pos c2, if_pos ⟨c2.1, c2.2, c⟩]
    · rw [if_neg c2, if_neg (fun q => c2 ⟨q.1, q.2.1⟩), if_pos c]
  · rw [if_neg c, if_neg (fun q => c q.2.2), if_neg c]
theorem n_rw_fl {h h1 : m_H} {v n lo : Int} {f : Int → Int} (A : n_ch h h1 v) (R : n_row h1 v) (hc : n_cap h1 v ≤ 6000) (hv : v < m_n h) (g : Int → Int) (hg : ∀ j, 0 ≤ j → j < m_g h1 v 1 → (if lo ≤ j ∧ j < n then f j else m_g h1 (m_g h1 v 0) j) = g j) : n_rw h (n_fl h1 (m_g h1 v 0) lo n f) v (m_g h1 v 1) g := by
  have ka := R.2.1
  have e : ∀ j, m_g (n_fl h1 (m_g h1 v 0) lo n f) v j = m_g h1 v j := fun j => by
    rw [n_g_fl, if_neg (fun q => by have := q.1; have := R.1; rw [← q.1] at ka; omega)]
  refine ⟨n_row_fl R ka, by unfold n_cap at *; rw [e]; exact hc, e 1, fun j j1 j2 => ?_, n_ch_fl A R hv⟩
  rw [e, n_g_fl, ← hg j j1 j2]
  by_cases c : lo ≤ j ∧ j < n
  · rw [if_pos ⟨rfl, c⟩, if_pos c]
  · rw [if_neg (fun q => c q.2), if_neg c]
theorem n_rw_wf {h h' : m_H} {v n : Int} {f : Int → Int} (W : n_wf h) (hv : m_t h v = 5) (A : n_rw h h' v n f) : n_wf h' := n_wf_ch W hv A.2.2.2.2 A.1 A.2.1
theorem n_rw_rg {h h' : m_H} {v n : Int} {f : Int → Int} (A : n_rw h h' v n f) (j : Int) : n_rg h' v j = if 0 ≤ j ∧ j < n then f j else 0 := by
  unfold n_rg
  rw [A.2.2.1]
  by_cases c : 0 ≤ j ∧ j < n
  · rw [if_pos c, if_pos c, A.2.2.2.1 j c.1 c.2]
  · rw [if_neg c, if_neg c]
theorem n_rw_trans {h h1 h2 : m_H} {v n n2 : Int} {f g : Int → Int} (W : n_wf h) (hv : m_t h v = 5) (A : n_rw h h1 v n f) (B : n_rw h1 h2 v n2 g) : n_rw h h2 v n2 g :=
  ⟨B.1, B.2.1, B.2.2.1, B.2.2.2.1, n_ch_trans A.2.2.2.2 B.2.2.2.2 (n_wf_lt W hv).1 (n_wf_lt W hv).2.1⟩
theorem n_rw_eq {h h' : m_H} {v n n2 : Int} {f g : Int → Int} (A : n_rw h h' v n f) (hn : n = n2) (hf : ∀ j, 0 ≤ j → j < n → f j = g j) : n_rw h h' v n2 g := by
  subst hn
  exact ⟨A.1, A.2.1, A.2.2.1, fun j a b => (A.2.2.2.1 j a b).trans (hf j a b), A.2.2.2.2⟩
/-- all samples are in their bounds -/
def n_sv (h : m_H) (w : Int) : Prop := ∀ j, -32768 ≤ n_rg h w j ∧ n_rg h w j ≤ 32767
theorem n_fillPart {h : m_H} {v w b n : Int} (W : n_wf h) (hv : m_t h v = 5) (hw : m_t h w = 5) (hn : w ≠ v) (h0 : 0 ≤ n) (h3 : n ≤ 3000) (hb : -1000000 ≤ b) (hb2 : b ≤ 1000000) (hs : n_sv h w) : ∃ h', t5_fillPart v w b n h = some ((), h') ∧ n_rw h h' v n (fun j => n_rg h w (b + j)) := by
  have l := n_wf_lt W hv
  unfold t5_fillPart
  rw [if_pos hv, n_resize (n_wf_row W hv) l.1 l.2.1 (by omega) (by omega) (by omega), n_bs, show max n 0 = n by omega]
  obtain ⟨s1, s2, s3, s4, s5⟩ := n_rsz_ch W hv h0 h3
  have W1 := n_wf_ch W hv s3 s1 s4
  have hw1 := n_oth W hv s3 hw hn
  generalize n_rsz h v n = h1 at *
  have key := n_fill (fun i h => t5_fillPart_c8 v w b n i h) (h := h1) (a := m_g h1 v 0) (lo := 0) (n := n) (fun j => n_rg h w (b + j)) h0 (fun i i1 i2 => by
    obtain ⟨p1, p2, p3, p4, p5⟩ := n_lf W1 s1.1 0 i (fun j => n_rg h w (b + j))
    obtain ⟨p6, p7, p8⟩ := p5 w hw1.1.1 hn
    have hsv := hs (b + i)
    show t5_fillPart_c8 v w b n i _ = t5_fillPart_c8 v w b n (i + 1) _
    rw [t5_fillPart_c8]
    generalize n_fl h1 (m_g h1 v 0) 0 i (fun j => n_rg h w (b + j)) = hi at *
    have e := (p8 (b + i)).trans (hw1.2.2.2.2 (b + i))
    rw [m_w_of (by omega) (by omega), m_w_of (by omega) (by omega), if_pos i2, if_pos p6.1, n_get p6 (by omega) (by omega), n_bs, e]
    show (if m_t hi v = 5 then _ else _) = _
    rw [if_pos p1.1, n_set p1 i1 (by omega) (by omega) (by omega), n_bs, p2, n_cl_of hsv.1 hsv.2])
  refine ⟨n_fl h1 (m_g h1 v 0) 0 n (fun j => n_rg h w (b + j)), key.trans ?_, ?_⟩
  · show t5_fillPart_c8 v w b n n _ = _
    rw [t5_fillPart_c8, m_w_of (by omega) (by omega), if_neg (by omega)]
  · have := n_rw_fl (lo := 0) (n := n) (f := fun j => n_rg h w (b + j)) s3 s1 s4 l.1 (fun j => n_rg h w (b + j)) (fun j j1 j2 => by rw [if_pos (by omega)])
    rw [s2] at this
    exact this
theorem n_p_as {h : m_H} {a i x : Int} : m_p h a i x = n_fl h a i (i + 1) (fun _ => x) := by
  refine n_ext rfl fun b j => ?_
  rw [m_g_p, n_g_fl]
  by_cases c : b = a ∧ j = i
  · rw [if_pos c, if_pos (by omega)]
  · rw [if_neg c, if_neg (by omega)]
theorem n_add {h : m_H} {v x : Int} (W : n_wf h) (hv : m_t h v = 5) (hl : m_g h v 1 < 3000) (x1 : -2147483648 ≤ x) (x2 : x < 2147483648) : ∃ h', t5_add v x h = some ((), h') ∧ n_rw h h' v (m_g h v 1 + 1) (fun j => if j = m_g h v 1 then n_cl x else n_rg h v j) := by
  have l := n_wf_lt W hv
  have R := n_wf_row W hv
  have r3 := R.2.2.1
  unfold t5_add
  rw [if_pos hv, n_resize R l.1 l.2.1 (by omega) (by omega) (by omega), n_bs, show max (m_g h v 1 + 1) 0 = m_g h v 1 + 1 by omega]
  obtain ⟨s1, s2, s3, s4, s5⟩ := n_rsz_ch W hv (n := m_g h v 1 + 1) (by omega) (by omega)
  generalize n_rsz h v (m_g h v 1 + 1) = h1 at *
  show ∃ h', (if m_t h1 v = 5 then t5_set v (m_g h1 v 1 - 1) x h1 >>= _ else none) = _ ∧ _
  rw [if_pos s1.1, n_set s1 (by omega) (by omega) x1 x2, n_bs]
  refine ⟨_, rfl, ?_⟩
  rw [n_p_as]
  have := n_rw_fl (lo := m_g h1 v 1 - 1) (n := m_g h1 v 1 - 1 + 1) (f := fun _ => n_cl x) s3 s1 s4 l.1 (fun j => if j = m_g h v 1 then n_cl x else n_rg h v j) (fun j j1 j2 => by
    by_cases c : j = m_g h v 1
    · rw [if_pos (by omega), if_pos c]
    · rw [if_neg (by omega), if_neg c, s5 j j1 (by omega) (by omega)]
      unfold n_rg
      rw [if_pos (by omega)])
  rw [s2] at this ⊢
  exact this
theorem n_i32 (x : Int32) : -2147483648 ≤ x.toInt ∧ x.toInt < 2147483648 := ⟨Int32.le_toInt x, Int32.toInt_lt x⟩
