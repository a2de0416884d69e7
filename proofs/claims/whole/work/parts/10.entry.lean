/-! the arguments at a method's entry; what a step of a loop gives -/
def m_args : Nat → List m_V → List (Nat × m_V)
  | _, [] => []
  | i, v :: l => (i, v) :: m_args (if (v.1 == 1) = true then i + 2 else i + 1) l
def m_argw : List m_V → Nat
  | [] => 0
  | v :: l => (if (v.1 == 1) = true then 2 else 1) + m_argw l
theorem m_lv_args (d : m_D) : ∀ (vals : List m_V) (i : Nat), lv_args i (vals.map (m_tr d)) = m_lv d (m_args i vals)
  | [], _ => rfl
  | v :: l, i => by
    have hc := m_cat d v
    rw [List.map_cons, lv_args, m_args]
    show _ = (i, m_tr d v) :: m_lv d _
    rw [← m_lv_args d l]
    rcases lv_cat (m_tr d v) with q | q
    · rw [q] at hc ⊢
      rw [← hc]; rfl
    · rw [q] at hc ⊢
      rw [← hc]; rfl
theorem m_lg_sl (d : m_D) : ∀ (vals : List m_V), (lg_sl (vals.map (m_tr d))).length = m_argw vals
  | [] => rfl
  | v :: l => by
    have hc := m_cat d v
    have ih := m_lg_sl d l
    unfold lg_sl at ih ⊢
    rw [List.map_cons, List.flatMap_cons, List.length_append, ih, m_argw]
    congr 1
    rcases lv_cat (m_tr d v) with q | q
    · rw [q] at hc ⊢
      rw [← hc]; rfl
    · rw [q] at hc ⊢
      rw [← hc]; rfl
theorem m_con2 {ρ : Type} {l : Launch} {d : m_D} {y : MethodName} {cc : ByteArray} {nL : Nat} {ret : Option FieldType} {fr : Nat} {rv : ρ → List m_V} {vals : List m_V} {h : m_H} {T : Option (ρ × m_H)} (hy : plainName y.cls = true) (hn : m_argw vals ≤ nL)
    (k : ∀ Y : m_Y ρ, Y.2.2.2.1 = nL → m_Rm Y fr → (Y.2.2.2.2.2 → Y.2.1.2.2.2.2.2.2.2.2.1.sig.returnType = ret ∧ Y.2.1.2.2.2.2.2.2.2.2.1.locks = false) → (Y.2.2.2.2.2 → Y.2.1.2.2.2.2.2.2.2.2.1.name = y.name) → m_Std Y y.cls cc →
      (Y.2.2.2.2.1 = fun r h cells slots => MQ Y.2.1.2.2.2.2.2.2.2.1 (fun _ _ o t => o = .returned ((rv r).map (m_tr Y.1)).head? ∧ m_R Y.1 h t.heap) Y.2.1.2.2.2.2.2.2.1 Y.2.1.2.2.2.2.1 cells slots (fun q => Y.1.1 ≤ q)) → m_Sim Y 0 (m_args 0 vals) [] h T) : m_Con l d y cc nL ret fr rv vals h T :=
  m_con hy (L := m_args 0 vals) (fun d => m_lv_args d vals 0) (fun d => by rw [m_lg_sl]; exact hn) (fun Y hd hn h1 S hfin => k Y hn (fun hf => ⟨Nat.le_of_eq (h1 hf).1.symm, Nat.le_of_eq (h1 hf).2.1.symm⟩) (fun hf => ⟨(h1 hf).2.2.2.1, (h1 hf).2.2.2.2.1⟩) (fun hf => (h1 hf).2.2.2.2.2) S hfin)
theorem ms_use {ρ : Type} {Y : m_Y ρ} {pc : Nat} {L : List (Nat × m_V)} {st : List m_V} {h : m_H} {T : Option (ρ × m_H)} {r : ρ × m_H} (k : m_Sim Y pc L st h T) (e : T = some r) : m_Sim Y pc L st h (some r) := e ▸ k
theorem ms_all {ρ : Type} {Y : m_Y ρ} {pc : Nat} {L : List (Nat × m_V)} {st : List m_V} {h : m_H} {T : Option (ρ × m_H)} (k : ∀ r, T = some r → m_Sim Y pc L st h (some r)) : m_Sim Y pc L st h T := fun r h' e => k (r, h') e r h' rfl
theorem m_lt {a n i : Nat} (h : a = n) (hi : Nat.blt i n = true) : i < a := by rw [h]; exact Nat.le_of_ble_eq_true hi
theorem m_sub {ws : List Cond} (ps : List Nat) (h : ws = ps.filterMap (fun i => lw_tbl[i]?)) (hg : ws.all goodWord = true) : ∀ w ∈ ws, w ∈ m_big := fun w hw => by
  refine List.mem_filter.mpr ⟨?_, List.all_eq_true.mp hg w hw⟩
  rw [h] at hw
  obtain ⟨i, -, hi⟩ := List.mem_filterMap.mp hw
  exact List.mem_of_getElem? hi
theorem ms_idivN {ρ : Type} {Y : m_Y ρ} {own : String} {cc : ByteArray} (S : m_Std Y own cc) {pc : Nat} {L : List (Nat × m_V)} {st : List m_V} {h : m_H} {a b : Int} {T : Option (ρ × m_H)} (hb : m_w b ≠ 0) (hd : decode cc pc = .ok (.idiv, 1)) (k : m_Sim Y (pc + 1) L (m_i ((m_w a).tdiv (m_w b)) :: st) h T) : m_Sim Y pc L (m_i b :: m_i a :: st) h T := by
  have := ms_idiv S hd k
  rw [if_neg hb] at this
  exact this
theorem ms_iremN {ρ : Type} {Y : m_Y ρ} {own : String} {cc : ByteArray} (S : m_Std Y own cc) {pc : Nat} {L : List (Nat × m_V)} {st : List m_V} {h : m_H} {a b : Int} {T : Option (ρ × m_H)} (hb : m_w b ≠ 0) (hd : decode cc pc = .ok (.irem, 1)) (k : m_Sim Y (pc + 1) L (m_i ((m_w a).tmod (m_w b)) :: st) h T) : m_Sim Y pc L (m_i b :: m_i a :: st) h T := by
  have := ms_irem S hd k
  rw [if_neg hb] at this
  exact this
theorem ms_ldivN {ρ : Type} {Y : m_Y ρ} {own : String} {cc : ByteArray} (S : m_Std Y own cc) {pc : Nat} {L : List (Nat × m_V)} {st : List m_V} {h : m_H} {a b : Int} {T : Option (ρ × m_H)} (hb : m_v b ≠ 0) (hd : decode cc pc = .ok (.ldiv, 1)) (k : m_Sim Y (pc + 1) L (m_j ((m_v a).tdiv (m_v b)) :: st) h T) : m_Sim Y pc L (m_j b :: m_j a :: st) h T := by
  have := ms_ldiv S hd k
  rw [if_neg hb] at this
  exact this
