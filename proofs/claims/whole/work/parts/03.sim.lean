/-! WHAT THE TABLES AND THE OLD HEAP SAY, the same in every method -/
def m_strs : List (String × Nat × String) := [("TapeStudio$Reader", 118, "take  mark  cut   turn  speed spliceloop  echo  copy  filterfade  gain  put   again from  to    angle for   after by    on    in    out   at    "), ("TapeStudioModel", 124, "take"), ("TapeStudioModel", 126, "mark"), ("TapeStudioModel", 128, "cut"), ("TapeStudioModel", 130, "turn"), ("TapeStudioModel", 132, "speed"), ("TapeStudioModel", 134, "splice"), ("TapeStudioModel", 136, "loop"), ("TapeStudioModel", 138, "echo"), ("TapeStudioModel", 140, "copy"), ("TapeStudioModel", 142, "filter"), ("TapeStudioModel", 144, "fade"), ("TapeStudioModel", 146, "gain"), ("TapeStudioModel", 152, "from"), ("TapeStudioModel", 153, "to"), ("TapeStudioModel", 155, "angle"), ("TapeStudioModel", 157, "for"), ("TapeStudioModel", 159, "after"), ("TapeStudioModel", 161, "by"), ("TapeStudioModel", 163, "on"), ("TapeStudioModel", 165, "in"), ("TapeStudioModel", 167, "out"), ("TapeStudioModel", 169, "put"), ("TapeStudioModel", 171, "at"), ("TapeStudioModel", 173, "again")]
def m_slen : List Nat := m_strs.map (fun q => q.2.2.length)
def m_sbyt : List (List Int32) := m_strs.map (fun q => q.2.2.toList.map (fun c => Int32.ofNat c.toNat))
def m_isNest : Cond → Bool
  | .fieldLinkNest _ _ _ _ _ _ => true
  | .methodLinkNest _ _ _ _ => true
  | .arrayOver _ => true
  | .constant _ _ _ => true
  | .constantLong _ _ _ => true
  | .castable _ _ => true
  | .sameMethod r _ _ _ => r == "[I"
  | _ => false
def m_nest : List Cond := lw_tbl.filter m_isNest
theorem m_nest_mem {i : Nat} {w : Cond} (h : lw_tbl[i]? = some w) (hg : m_isNest w = true) : w ∈ m_nest := List.mem_filter.mpr ⟨List.mem_of_getElem? h, hg⟩
def m_glob (d : m_D) (U : State) : Prop :=
  va_K d.2.2.1 vwCl (m_tys d.2.2.2.1) U ∧ va_X (d.2.2.2.2.1 1) d.2.2.2.2.2.2.1 d.2.2.2.2.2.2.2 U d.2.1 ∧
  vk_S 25 m_slen m_sbyt (fun k => d.2.2.2.2.1 (k + 2)) (fun k => d.2.2.2.2.1 (k + 40)) (fun q => d.1 ≤ q) U d.2.1 ∧
  (∀ (k : Nat) (q : String × Nat × String), m_strs[k]? = some q → vk_R q.1 q.2.1 q.2.2 (d.2.2.2.2.1 (k + 2)) U) ∧
  va_Z "java/lang/String" "COMPACT_STRINGS" "Z" (.int 1) (fun q => d.1 ≤ q) U d.2.1 ∧
  (va_Z "jdk/internal/util/Preconditions" "SIOOBE_FORMATTER" "Ljava/util/function/BiFunction;" .null (fun q => d.1 ≤ q) U d.2.1 ∨ va_Z "jdk/internal/util/Preconditions" "SIOOBE_FORMATTER" "Ljava/util/function/BiFunction;" (.ref (d.2.2.2.2.1 30)) (fun q => d.1 ≤ q) U d.2.1) ∧
  d.2.1.size = d.1 ∧ (∀ k, 1 ≤ k → k ≤ 26 → d.2.2.2.2.1 k < d.1) ∧ ∀ w ∈ m_nest, va_Nw w U
abbrev m_X : Type := Program × Launch × Env × Room × State × MethodId × Array Value × List Frame × Method × Code
/-- what stays fixed while a method runs: the data, the machine, the counts at its entry, its locals, its end; and whether the machine is meant at all (if not, only the counts are) -/
abbrev m_Y (ρ : Type) : Type := m_D × m_X × (Int × Int) × Nat × (ρ → m_H → Nat → Nat → State → Prop) × Prop
def m_Fct {ρ : Type} (Y : m_Y ρ) (own : String) (cc : ByteArray) : Prop :=
  Y.2.1.1.tables.exec = Jvm.exec ∧ Y.2.1.2.2.2.2.2.2.2.2.2.code = cc ∧ Y.2.1.2.2.2.2.2.2.2.2.2.maxLocals = Y.2.2.2.1 ∧ Y.2.1.2.2.2.2.1.vm.findClass own = some Y.2.1.2.2.2.2.2.1.cls ∧
  (∀ w ∈ m_big, w.before Y.2.1.2.2.2.2.2.2.1 Y.2.1.2.2.2.2.1 = true) ∧ m_glob Y.1 Y.2.1.2.2.2.2.1 ∧ (∀ q, q < Y.1.1 → Y.2.1.2.2.2.2.1.heap[q]? = Y.1.2.1[q]?) ∧ Y.1.1 ≤ Y.2.1.2.2.2.2.1.heap.size
def m_Std {ρ : Type} (Y : m_Y ρ) (own : String) (cc : ByteArray) : Prop := Y.2.2.2.2.2 → m_Fct Y own cc
def m_WY {ρ : Type} (Y : m_Y ρ) (H : Heap) (locs : List Loc) (cells slots : Nat) (Q : State → Prop) (pc : Nat) (ls : Array Slot) (st : List Value) : Prop :=
  W Y.2.1.1 Y.2.1.2.1 Y.2.1.2.2.1 Y.2.1.2.2.2.1 Y.2.1.2.2.2.2.1 Y.2.1.2.2.2.2.2.1 Y.2.1.2.2.2.2.2.2.1 Y.2.1.2.2.2.2.2.2.2.1 Y.2.1.2.2.2.2.2.2.2.2.1 Y.2.1.2.2.2.2.2.2.2.2.2 H locs cells slots Q (F0 Y.2.1.2.2.2.2.2.1 pc ls st)
def m_lv (d : m_D) (L : List (Nat × m_V)) : List (Nat × Value) := L.map (fun q => (q.1, m_tr d q.2))
/-- from this place, with these locals, this stack and a heap that holds h, the method comes to its end with what T says -/
def m_Sim {ρ : Type} (Y : m_Y ρ) (pc : Nat) (L : List (Nat × m_V)) (st : List m_V) (h : m_H) (T : Option (ρ × m_H)) : Prop :=
  ∀ r h', T = some (r, h') → m_n h ≤ m_n h' ∧ m_s h ≤ m_s h' ∧ (Y.2.2.2.2.2 → ∀ (H : Heap) (locs : List Loc) (cells slots cE sE : Nat) (ls : Array Slot), m_R Y.1 h H → lv_has ls Y.2.2.2.1 (m_lv Y.1 L) → (∀ q ∈ locs, Y.1.1 ≤ q.base) →
    (cells : Int) + Y.2.2.1.1 = m_n h → (slots : Int) + Y.2.2.1.2 = m_s h → (cE : Int) + Y.2.2.1.1 = m_n h' → (sE : Int) + Y.2.2.1.2 = m_s h' → cE ≤ Y.2.1.2.2.2.1.cells → sE ≤ Y.2.1.2.2.2.1.slots →
    m_WY Y H locs cells slots (Y.2.2.2.2.1 r h' cE sE) pc ls (st.map (m_tr Y.1)))
theorem m_pu {ρ : Type} {Y : m_Y ρ} {own : String} {cc : ByteArray} (S : m_Std Y own cc) {pc pc' : Nat} {L L' : List (Nat × m_V)} {st st' : List m_V} {h : m_H} {T : Option (ρ × m_H)} (k : m_Sim Y pc' L' st' h T)
    (hw : m_Fct Y own cc → ∀ (H : Heap) (locs : List Loc) (cells slots : Nat) (Q : State → Prop) (ls : Array Slot), lv_has ls Y.2.2.2.1 (m_lv Y.1 L) → (∀ ls', lv_has ls' Y.2.2.2.1 (m_lv Y.1 L') → m_WY Y H locs cells slots Q pc' ls' (st'.map (m_tr Y.1))) → m_WY Y H locs cells slots Q pc ls (st.map (m_tr Y.1))) : m_Sim Y pc L st h T := by
  intro r h' hT
  obtain ⟨a, b, c⟩ := k r h' hT
  exact ⟨a, b, fun hf H locs cells slots cE sE ls hR hl h1 h2 h3 h4 h5 h6 h7 => hw (S hf) H locs cells slots _ ls hl fun ls' hl' => c hf H locs cells slots cE sE ls' hR hl' h1 h2 h3 h4 h5 h6 h7⟩
/-! T that is nothing says nothing; a guard gives its fact; a case splits -/
theorem ms_none {ρ : Type} {Y : m_Y ρ} {pc : Nat} {L : List (Nat × m_V)} {st : List m_V} {h : m_H} : m_Sim Y pc L st h none := fun r h' e => by cases e
theorem ms_grd {ρ : Type} {Y : m_Y ρ} {pc : Nat} {L : List (Nat × m_V)} {st : List m_V} {h : m_H} {c : Prop} [Decidable c] {T : Option (ρ × m_H)} (k : c → m_Sim Y pc L st h T) : m_Sim Y pc L st h (if c then T else none) := by
  by_cases hc : c
  · rw [if_pos hc]; exact k hc
  · rw [if_neg hc]; exact ms_none
theorem ms_ite {ρ : Type} {Y : m_Y ρ} {pc : Nat} {L : List (Nat × m_V)} {st : List m_V} {h : m_H} {c : Prop} [Decidable c] {T T2 : Option (ρ × m_H)} (k : c → m_Sim Y pc L st h T) (k2 : ¬ c → m_Sim Y pc L st h T2) : m_Sim Y pc L st h (if c then T else T2) := by
  by_cases hc : c
  · rw [if_pos hc]; exact k hc
  · rw [if_neg hc]; exact k2 hc
/-- a value gets a name -/
theorem ms_nm {ρ α : Type} {Y : m_Y ρ} {pc : Nat} {L : List (Nat × m_V)} {st : α → List m_V} {h : m_H} {v : α} {f : α → Option (ρ × m_H)} (k : ∀ x, m_Sim Y pc L (st x) h (f x)) : m_Sim Y pc L (st v) h (some v >>= f) := k v
theorem ms_sub {ρ : Type} {Y : m_Y ρ} {pc : Nat} {L L' : List (Nat × m_V)} {st : List m_V} {h : m_H} {T : Option (ρ × m_H)} (ks : List Nat) (hL : ks.filterMap (fun k => L[k]?) = L') (k : m_Sim Y pc L' st h T) : m_Sim Y pc L st h T := by
  intro r h' hT
  obtain ⟨a, b, c⟩ := k r h' hT
  refine ⟨a, b, fun hf H locs cells slots cE sE ls hR hl h1 h2 h3 h4 h5 h6 h7 => c hf H locs cells slots cE sE ls hR ⟨hl.1, hl.2.1, fun q hq => hl.2.2 q ?_⟩ h1 h2 h3 h4 h5 h6 h7⟩
  obtain ⟨q', hq', rfl⟩ := List.mem_map.mp hq
  rw [← hL] at hq'
  obtain ⟨i, -, hi⟩ := List.mem_filterMap.mp hq'
  exact List.mem_map.mpr ⟨q', List.mem_of_getElem? hi, rfl⟩
/-- rows that decode a method's code, by their places -/
theorem m_dec {cc : ByteArray} {l : List (Nat × Instr × Nat)} (h : ∀ q ∈ l, decode cc q.1 = .ok q.2) (k : Nat) {pc : Nat} {i : Instr × Nat} (hk : l[k]? = some (pc, i)) : decode cc pc = .ok i := h (pc, i) (List.mem_of_getElem? hk)
theorem m_lat {d : m_D} {ls : Array Slot} {nL : Nat} {L : List (Nat × m_V)} (h : lv_has ls nL (m_lv d L)) (k : Nat) {i : Nat} {v : m_V} (hk : L[k]? = some (i, v)) : ls[i]? = some (.val (m_tr d v)) := by
  refine h.2.2 (i, m_tr d v) (List.mem_map.mpr ⟨(i, v), List.mem_of_getElem? hk, rfl⟩)
def m_set (i : Nat) (v : m_V) (L : List (Nat × m_V)) : List (Nat × m_V) := (i, v) :: L.filter (fun q => !(q.1 == i) && !(q.1 + 1 == i && q.2.1 == 1))
def m_set2 (i : Nat) (v : m_V) (L : List (Nat × m_V)) : List (Nat × m_V) := (i, v) :: L.filter (fun q => !(q.1 == i) && (!(q.1 == i + 1) && !(q.1 + 1 == i && q.2.1 == 1)))
theorem m_cat (d : m_D) (v : m_V) : ((m_tr d v).category == 2) = (v.1 == 1) := by
  obtain ⟨k, x⟩ := v
  unfold m_tr
  split
  · rename_i q; simp only at q; subst q; rfl
  · split
    · rename_i q; simp only at q; subst q; rfl
    · rename_i q1 q2
      have : (k == 1) = false := by simpa using q2
      simp only [this]
      split <;> rfl
theorem m_lv_set (d : m_D) (i : Nat) (v : m_V) (L : List (Nat × m_V)) : (i, m_tr d v) :: (m_lv d L).filter (fun q => !(q.1 == i) && !(q.1 + 1 == i && q.2.category == 2)) = m_lv d (m_set i v L) := by
  simp only [m_lv, m_set, List.map_cons, List.filter_map, Function.comp_def, m_cat]
theorem m_lv_set2 (d : m_D) (i : Nat) (v : m_V) (L : List (Nat × m_V)) : (i, m_tr d v) :: (m_lv d L).filter (fun q => !(q.1 == i) && (!(q.1 == i + 1) && !(q.1 + 1 == i && q.2.category == 2))) = m_lv d (m_set2 i v L) := by
  simp only [m_lv, m_set2, List.map_cons, List.filter_map, Function.comp_def, m_cat]
theorem m_lv_pick {d : m_D} {ls : Array Slot} {nL : Nat} {L L' : List (Nat × m_V)} (h : lv_has ls nL (m_lv d L)) (ks : List Nat) (hL : ks.filterMap (fun k => L[k]?) = L') : lv_has ls nL (m_lv d L') := by
  refine ⟨h.1, h.2.1, fun q hq => h.2.2 q ?_⟩
  obtain ⟨q', hq', rfl⟩ := List.mem_map.mp hq
  rw [← hL] at hq'
  obtain ⟨i, -, hi⟩ := List.mem_filterMap.mp hq'
  exact List.mem_map.mpr ⟨q', List.mem_of_getElem? hi, rfl⟩
