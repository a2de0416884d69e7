/-! THE END OF A METHOD, ITS CONTRACT, AND CALLS -/
def m_End {ρ : Type} (Y : m_Y ρ) (cc : ByteArray) (i : Instr) (rv : ρ → List m_V) : Prop := Y.2.2.2.2.2 → ∀ (r : ρ) (h : m_H) (H : Heap) (locs : List Loc) (cells slots pc : Nat) (ls : Array Slot), m_R Y.1 h H → (∀ q ∈ locs, Y.1.1 ≤ q.base) → cells ≤ Y.2.1.2.2.2.1.cells → slots ≤ Y.2.1.2.2.2.1.slots → (slots : Int) + Y.2.2.1.2 = m_s h → decode cc pc = .ok (i, 1) → m_WY Y H locs cells slots (Y.2.2.2.2.1 r h cells slots) pc ls ((rv r).map (m_tr Y.1))
theorem ms_ret {ρ : Type} {Y : m_Y ρ} {cc : ByteArray} {i : Instr} {rv : ρ → List m_V} (E : m_End Y cc i rv) {pc : Nat} {L : List (Nat × m_V)} {st : List m_V} {h : m_H} {r : ρ} (hd : decode cc pc = .ok (i, 1)) (hr : rv r = st) : m_Sim Y pc L st h (some (r, h)) := by
  intro r' h' e
  cases e
  refine ⟨Int.le_refl _, Int.le_refl _, fun hf H locs cells slots cE sE ls hR hl h1 h2 h3 h4 h5 h6 h7 => ?_⟩
  have e1 : cE = cells := by omega
  have e2 : sE = slots := by omega
  subst e1; subst e2; subst hr
  exact E hf r h H locs _ _ pc ls hR h1 h6 h7 h3 hd
/-- what a method does: at every launch, from every state that holds these values and this heap, where T says a result the method comes to it; 'fr': the frames that it may need -/
def m_Con {ρ : Type} (l : Launch) (d : m_D) (y : MethodName) (cc : ByteArray) (nL : Nat) (ret : Option FieldType) (fr : Nat) (rv : ρ → List m_V) (vals : List m_V) (h : m_H) (T : Option (ρ × m_H)) : Prop :=
  m_X → ∀ r h', T = some (r, h') → (m_n h ≤ m_n h' ∧ m_s h ≤ m_s h') ∧ Met l y (Cond.code y cc nL ret :: m_big) { frames := fr, cells := (m_n h' - m_n h).toNat, slots := (m_s h' - m_s h).toNat, locals := 100 * fr }
    (fun a U => a = (vals.map (m_tr d)).toArray ∧ m_glob d U ∧ (∀ q, q < d.1 → U.heap[q]? = d.2.1[q]?) ∧ m_R d h U.heap) (fun _ _ o t => o = .returned ((rv r).map (m_tr d)).head? ∧ m_R d h' t.heap) (m_n h' - m_n h).toNat (m_s h' - m_s h).toNat (fun q => d.1 ≤ q)
theorem m_nest_warm {w : Cond} {s U : State} (hW : s.WarmedH U.vm) (hw : w ∈ m_nest) (h : va_Nw w s) : va_Nw w U := by
  have hn := (List.mem_filter.mp hw).2
  unfold m_isNest at hn
  split at hn
  · exact va_Nw.warmF hW h
  · exact va_Nw.warmM hW h
  · rename_i ty
    have h2 : (Cond.arrayOver ty).before #[] (s.setVm U.vm) = true := by rw [Cond.arrayOver_setVmC hW.alike]; exact h
    unfold va_Nw Cond.before Cond.holds Cond.value at *
    exact h2
  · exact va_tabs rfl (rfl : (s.setVm U.vm).vm = U.vm) (by rw [Cond.constant_setVm hW.alike]; exact h)
  · exact va_tabs rfl (rfl : (s.setVm U.vm).vm = U.vm) (by rw [Cond.constantLong_setVm hW.alike]; exact h)
  · exact va_Nw.warmC hW h
  · rename_i r _ _ _
    have e : r = "[I" := by simpa using hn
    subst e
    exact va_tabs rfl (rfl : (s.setVm U.vm).vm = U.vm) (Cond.sameMethod_setVm hW.alike ⟨by decide +kernel, by decide +kernel⟩ h)
  · cases hn
theorem m_nest_same {w : Cond} {s U : State} (hv : U.vm = s.vm) (hw : w ∈ m_nest) (h : va_Nw w s) : va_Nw w U := by
  have hn := (List.mem_filter.mp hw).2
  unfold m_isNest at hn
  split at hn
  all_goals first
    | exact va_Nw.same rfl hv.symm h
    | exact absurd hn (by decide)
    | (unfold va_Nw Cond.before Cond.holds Cond.value at *
       rw [hv]
       exact h)
theorem m_glob.warm {d : m_D} {s U : State} (hW : s.WarmedH U.vm) (h : m_glob d s) : m_glob d U := by
  obtain ⟨h1, h2, h3, h4, h5, h6, h7, h8, h9⟩ := h
  exact ⟨va_K.moved hW.alike h1, h2.moved hW.alike, h3.moved hW.alike, fun k q hq => (h4 k q hq).warm hW, h5.moved hW.alike, h6.imp (va_Z.moved hW.alike) (va_Z.moved hW.alike), h7, h8, fun w hw => m_nest_warm hW hw (h9 w hw)⟩
theorem m_glob.same {d : m_D} {s U : State} (hv : U.vm = s.vm) (h : m_glob d s) : m_glob d U := by
  obtain ⟨h1, h2, h3, h4, h5, h6, h7, h8, h9⟩ := h
  have hA : s.vm.Alike U.vm := by rw [hv]; exact Vm.Alike.refl _
  exact ⟨va_K.moved hA h1, h2.moved hA, h3.moved hA, fun k q hq => (h4 k q hq).same hv, h5.moved hA, h6.imp (va_Z.moved hA) (va_Z.moved hA), h7, h8, fun w hw => m_nest_same hv hw (h9 w hw)⟩
/-- the ends by the kind of answer -/
theorem m_end_v {Y : m_Y Unit} {own : String} {cc : ByteArray} (S : m_Std Y own cc) (hr : Y.2.2.2.2.2 → Y.2.1.2.2.2.2.2.2.2.2.1.sig.returnType = none ∧ Y.2.1.2.2.2.2.2.2.2.2.1.locks = false)
    (hfin : Y.2.2.2.2.1 = fun _ h cells slots => MQ Y.2.1.2.2.2.2.2.2.2.1 (fun _ _ o t => o = .returned none ∧ m_R Y.1 h t.heap) Y.2.1.2.2.2.2.2.2.1 Y.2.1.2.2.2.2.1 cells slots (fun q => Y.1.1 ≤ q)) : m_End Y cc .return_ (fun _ => []) := by
  intro hf r h H locs cells slots pc ls hR hL _ _ _ hd
  rw [hfin]
  exact W.vret (S hf).1 (S hf).2.1 (hr hf).1 (fun t ht _ => ⟨rfl, by rw [ht]; exact hR⟩) hL hd (hlocks := (hr hf).2)
theorem m_end_i {Y : m_Y Int} {own : String} {cc : ByteArray} (S : m_Std Y own cc) (hr : Y.2.2.2.2.2 → Y.2.1.2.2.2.2.2.2.2.2.1.sig.returnType = some .int ∧ Y.2.1.2.2.2.2.2.2.2.2.1.locks = false)
    (hfin : Y.2.2.2.2.1 = fun r h cells slots => MQ Y.2.1.2.2.2.2.2.2.2.1 (fun _ _ o t => o = .returned (some (m_tr Y.1 (m_i r))) ∧ m_R Y.1 h t.heap) Y.2.1.2.2.2.2.2.2.1 Y.2.1.2.2.2.2.1 cells slots (fun q => Y.1.1 ≤ q)) : m_End Y cc .ireturn (fun r => [m_i r]) := by
  intro hf r h H locs cells slots pc ls hR hL _ _ _ hd
  rw [hfin]
  exact W.iret (S hf).1 (S hf).2.1 (hr hf).1 (fun t ht _ => ⟨rfl, by rw [ht]; exact hR⟩) hL hd (hlocks := (hr hf).2)
theorem m_end_l {Y : m_Y Int} {own : String} {cc : ByteArray} (S : m_Std Y own cc) (hr : Y.2.2.2.2.2 → Y.2.1.2.2.2.2.2.2.2.2.1.sig.returnType = some .long ∧ Y.2.1.2.2.2.2.2.2.2.2.1.locks = false)
    (hfin : Y.2.2.2.2.1 = fun r h cells slots => MQ Y.2.1.2.2.2.2.2.2.2.1 (fun _ _ o t => o = .returned (some (m_tr Y.1 (m_j r))) ∧ m_R Y.1 h t.heap) Y.2.1.2.2.2.2.2.2.1 Y.2.1.2.2.2.2.1 cells slots (fun q => Y.1.1 ≤ q)) : m_End Y cc .lreturn (fun r => [m_j r]) := by
  intro hf r h H locs cells slots pc ls hR hL _ _ _ hd
  rw [hfin]
  exact W.lret (S hf).1 (S hf).2.1 (hr hf).1 (fun t ht _ => ⟨rfl, by rw [ht]; exact hR⟩) hL hd (hlocks := (hr hf).2)
theorem m_end_z {Y : m_Y Bool} {own : String} {cc : ByteArray} (S : m_Std Y own cc) (hr : Y.2.2.2.2.2 → Y.2.1.2.2.2.2.2.2.2.2.1.sig.returnType = some .boolean ∧ Y.2.1.2.2.2.2.2.2.2.2.1.locks = false)
    (hfin : Y.2.2.2.2.1 = fun r h cells slots => MQ Y.2.1.2.2.2.2.2.2.2.1 (fun _ _ o t => o = .returned (some (m_tr Y.1 (m_i (m_b2i r)))) ∧ m_R Y.1 h t.heap) Y.2.1.2.2.2.2.2.2.1 Y.2.1.2.2.2.2.1 cells slots (fun q => Y.1.1 ≤ q)) : m_End Y cc .ireturn (fun r => [m_i (m_b2i r)]) := by
  intro hf r h H locs cells slots pc ls hR hL _ _ _ hd
  rw [hfin]
  exact W.zret (S hf).1 (S hf).2.1 (hr hf).1 (by cases r <;> rfl) (fun t ht _ => ⟨rfl, by rw [ht]; exact hR⟩) hL hd (hlocks := (hr hf).2)
theorem m_end_a {Y : m_Y Int} {own : String} {cc : ByteArray} {rt : FieldType} (S : m_Std Y own cc) (hrt : (∃ n, rt = .object n) ∨ ∃ t, rt = .array t) (hr : Y.2.2.2.2.2 → Y.2.1.2.2.2.2.2.2.2.2.1.sig.returnType = some rt ∧ Y.2.1.2.2.2.2.2.2.2.2.1.locks = false)
    (hfin : Y.2.2.2.2.1 = fun r h cells slots => MQ Y.2.1.2.2.2.2.2.2.2.1 (fun _ _ o t => o = .returned (some (m_tr Y.1 (m_r r))) ∧ m_R Y.1 h t.heap) Y.2.1.2.2.2.2.2.2.1 Y.2.1.2.2.2.2.1 cells slots (fun q => Y.1.1 ≤ q)) : m_End Y cc .areturn (fun r => [m_r r]) := by
  intro hf r h H locs cells slots pc ls hR hL _ _ _ hd
  rw [hfin]
  refine W.aret (S hf).1 (S hf).2.1 (hr hf).1 hrt ?_ (fun t ht _ => ⟨rfl, by rw [ht]; exact hR⟩) hL hd (hlocks := (hr hf).2)
  by_cases e : r = 0
  · subst e; exact Or.inl rfl
  · exact Or.inr ⟨_, m_tr_r e⟩
/-- a contract out of the walk from the entry -/
theorem m_con {ρ : Type} {l : Launch} {d : m_D} {y : MethodName} {cc : ByteArray} {nL : Nat} {ret : Option FieldType} {fr : Nat} {rv : ρ → List m_V} {vals : List m_V} {h : m_H} {T : Option (ρ × m_H)} (hy : plainName y.cls = true) {L : List (Nat × m_V)} (hL : ∀ d : m_D, lv_args 0 (vals.map (m_tr d)) = m_lv d L) (hn : ∀ d : m_D, (lg_sl (vals.map (m_tr d))).length ≤ nL)
    (k : ∀ Y : m_Y ρ, Y.1 = d → Y.2.2.2.1 = nL → (Y.2.2.2.2.2 → Y.2.1.2.2.2.1.frames = fr ∧ Y.2.1.2.2.2.1.locals = 100 * fr ∧ Y.2.1.2.1 = l ∧ Y.2.1.2.2.2.2.2.2.2.2.1.sig.returnType = ret ∧ Y.2.1.2.2.2.2.2.2.2.2.1.locks = false ∧ Y.2.1.2.2.2.2.2.2.2.2.1.name = y.name) → m_Std Y y.cls cc →
      (Y.2.2.2.2.1 = fun r h cells slots => MQ Y.2.1.2.2.2.2.2.2.2.1 (fun _ _ o t => o = .returned ((rv r).map (m_tr Y.1)).head? ∧ m_R Y.1 h t.heap) Y.2.1.2.2.2.2.2.2.1 Y.2.1.2.2.2.2.1 cells slots (fun q => Y.1.1 ≤ q)) → m_Sim Y 0 L [] h T) : m_Con l d y cc nL ret fr rv vals h T := by
  intro X r h' hT
  have hm : m_n h ≤ m_n h' ∧ m_s h ≤ m_s h' := by
    obtain ⟨a, b, -⟩ := k (d, X, (0, 0), nL, fun r h cells slots => MQ X.2.2.2.2.2.2.2.1 (fun _ _ o t => o = .returned ((rv r).map (m_tr d)).head? ∧ m_R d h t.heap) X.2.2.2.2.2.2.1 X.2.2.2.2.1 cells slots (fun q => d.1 ≤ q), False) rfl rfl (fun z => z.elim) (fun z => z.elim) rfl r h' hT
    exact ⟨a, b⟩
  refine ⟨hm, Met.ofW (cc := cc) (maxL := nL) (ret := ret) hy rfl ?_⟩
  intro p e s m args below meth c s₁ B hml hv
  obtain ⟨rfl, hg, hH, hR⟩ := hv
  have hts := atoms_spec (ws := Cond.code y cc nL ret :: m_big) B.pre
  obtain ⟨-, -, K⟩ := k (d, (p, l, e, (headSpec (Cond.code y cc nL ret :: m_big) { frames := fr, cells := (m_n h' - m_n h).toNat, slots := (m_s h' - m_s h).toNat, locals := 100 * fr }).room, s, m, (vals.map (m_tr d)).toArray, below, meth, c), (m_n h, m_s h), nL, fun r h cells slots => MQ below (fun _ _ o t => o = .returned ((rv r).map (m_tr d)).head? ∧ m_R d h t.heap) (vals.map (m_tr d)).toArray s cells slots (fun q => d.1 ≤ q), True) rfl rfl
    (fun _ => ⟨rfl, rfl, rfl, B.returns, B.notSynchronized, (name_of_methodNamed B.named B.method).1⟩) (fun _ => ⟨B.exec, B.bytes, hml, findClass_of_methodNamed B.named, fun w hw => hts w (List.mem_cons_of_mem _ hw), hg, hH, by have := hR.1; have := hR.2.1; show d.1 ≤ s.heap.size; omega⟩) rfl r h' hT
  have hl := lv_entry (vals.map (m_tr d)) (hn d)
  rw [hL d] at hl
  rw [lg_entry_eq]
  exact K trivial s.heap [] 0 0 (m_n h' - m_n h).toNat (m_s h' - m_s h).toNat _ hR hl (fun _ h => by cases h) (by show ((0 : Nat) : Int) + m_n h = m_n h; omega) (by show ((0 : Nat) : Int) + m_s h = m_s h; omega) (by show (((m_n h' - m_n h).toNat : Nat) : Int) + m_n h = m_n h'; omega) (by show (((m_s h' - m_s h).toNat : Nat) : Int) + m_s h = m_s h'; omega) (Nat.le_refl _) (Nat.le_refl _)
