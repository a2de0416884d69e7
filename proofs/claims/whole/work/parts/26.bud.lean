/-! THE ROOM: cells and slots against the rows' caps -/
def n_rows : List Int := [8, 22, 107, 119, 122, 26, 28, 30, 32, 34, 36, 38, 40, 42, 44, 46, 48, 50, 52, 54, 56, 58, 60, 62, 64, 66, 68, 70, 72, 74, 76, 78, 80, 82, 84, 86, 88, 90, 92, 94, 96, 98, 100, 102, 104]
def n_phi (h : m_H) : Int := (n_rows.map (n_cap h)).sum
theorem n_rows_nd : n_rows.Nodup := by decide +kernel
theorem n_rows_all : (n_rows.all (fun r => decide (1 ≤ r ∧ r < 312) && decide (n_kT.getD (r.toNat - 1) 0 = 5))) = true := by decide +kernel
theorem n_rows_t {h : m_H} (F : n_fx h) {r : Int} (hr : r ∈ n_rows) : m_t h r = 5 ∧ r < 127 := by
  have A := n_rows_all
  rw [List.all_eq_true] at A
  have := A r hr
  rw [Bool.and_eq_true, decide_eq_true_eq, decide_eq_true_eq] at this
  refine ⟨by rw [(F.1 r this.1.1 this.1.2).1]; exact this.2, ?_⟩
  have B : (n_rows.all (fun r => decide (r < 127))) = true := by decide +kernel
  rw [List.all_eq_true] at B
  exact decide_eq_true_eq.mp (B r hr)
theorem n_sum_ch {f g : Int → Int} {v : Int} : ∀ {l : List Int}, l.Nodup → v ∈ l → (∀ r ∈ l, r ≠ v → g r = f r) → (l.map g).sum + f v = (l.map f).sum + g v
  | [], _, hv, _ => absurd hv List.not_mem_nil
  | a :: l, hn, hv, he => by
    rw [List.nodup_cons] at hn
    rw [List.map_cons, List.map_cons, List.sum_cons, List.sum_cons]
    by_cases c : v = a
    · subst c
      have : l.map g = l.map f := List.map_congr_left fun r hr => he r (List.mem_cons_of_mem _ hr) (fun e => hn.1 (by rw [← e]; exact hr))
      rw [this]; omega
    · have hv2 : v ∈ l := (List.mem_cons.mp hv).resolve_left c
      have := n_sum_ch hn.2 hv2 (fun r hr => he r (List.mem_cons_of_mem _ hr))
      have ea : g a = f a := he a List.mem_cons_self (fun e => c e.symm)
      omega
theorem n_sum_le {f : Int → Int} {B : Int} : ∀ {l : List Int}, (∀ r ∈ l, f r ≤ B) → (l.map f).sum ≤ B * l.length
  | [], _ => by simp
  | a :: l, h => by
    have h1 := h a List.mem_cons_self
    have h2 := n_sum_le (fun r hr => h r (List.mem_cons_of_mem _ hr))
    rw [List.map_cons, List.sum_cons, List.length_cons]
    have : B * ((l.length + 1 : Nat) : Int) = B * (l.length : Int) + B := by rw [Int.natCast_add, Int.mul_add]; simp
    omega
theorem n_phi_le {h : m_H} (I : n_I h) : n_phi h ≤ 270000 := by
  have := n_sum_le (f := n_cap h) (B := 6000) (l := n_rows) (fun r hr => (n_wf_lt I.1 (n_rows_t I.2 hr).1).2.2.1)
  have e : n_rows.length = 45 := by decide +kernel
  rw [e] at this
  unfold n_phi
  omega
theorem n_phi_rw {h h' : m_H} {v n : Int} {f : Int → Int} (I : n_I h) (hv : v ∈ n_rows) (A : n_rw h h' v n f) : n_phi h' + n_cap h v = n_phi h + n_cap h' v := by
  have tv := (n_rows_t I.2 hv).1
  refine n_sum_ch n_rows_nd hv (fun r hr hn => ?_)
  have tr := (n_rows_t I.2 hr).1
  have := n_oth I.1 tv A.2.2.2.2 tr hn
  have l := n_wf_lt I.1 tr
  unfold n_cap
  rw [this.2.1, (A.2.2.2.2.1 _ l.2.1).2]
theorem n_phi_eq {h h' : m_H} (e : ∀ r ∈ n_rows, n_cap h' r = n_cap h r) : n_phi h' = n_phi h := by
  unfold n_phi
  rw [List.map_congr_left e]
def n_bud (h : m_H) (k : Int) : Prop := m_n h ≤ 312 + n_phi h + 100 * k ∧ m_s h ≤ 110860 + 2 * n_phi h + 700 * k
theorem n_bud_rw {h h' : m_H} {v n k : Int} {f : Int → Int} (I : n_I h) (hv : v ∈ n_rows) (A : n_rw h h' v n f) (B : n_bud h k) : n_bud h' k := by
  have := n_phi_rw I hv A
  have h1 := A.2.2.2.2.2.2.2.2.2.2.1
  have h2 := A.2.2.2.2.2.2.2.2.2.2.2.1
  unfold n_bud at *
  omega
theorem n_bud_more {h : m_H} {k : Int} (B : n_bud h k) : n_bud h (k + 1) := by
  unfold n_bud at *
  omega
theorem n_bud_same {h h' : m_H} {k : Int} (I : n_I h) (e : h'.2 = h.2) (e2 : ∀ r, m_t h r = 5 → m_g h' r 0 = m_g h r 0) (B : n_bud h k) : n_bud h' k := by
  have := n_phi_eq (h := h) (h' := h') (fun r hr => by
    unfold n_cap
    rw [e2 r (n_rows_t I.2 hr).1, n_e2l e])
  unfold n_bud at *
  rw [this, n_e2n e, n_e2s e]
  exact B
