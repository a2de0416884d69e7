/-! FURTHER ROWS: texts' length and letters, texts into arrays, copies and rows of rows -/
section m_xtra
variable {ρ : Type} {Y : m_Y ρ} {own : String} {cc : ByteArray} {pc : Nat} {L : List (Nat × m_V)} {st : List m_V} {h : m_H} {T : Option (ρ × m_H)} {f : m_H → Option (ρ × m_H)} {a i x n k : Int}
theorem ms_strlen (S : m_Std Y own cc) {F index : Nat} (hF : m_Rm Y F) (hF1 : 2 ≤ F) (hM : m_MV own index yJ0_length_8abf5 cJ0_length_8abf5 1 (some .int) 0) (ht : -26 ≤ a ∧ a ≤ -2) (hcat : (st.map (fun v => if (v.1 == 1) = true then 2 else 1)).sum ≤ 8) (hd : decode cc pc = .ok (.invokevirtual index, 3)) (k1 : m_Sim Y (pc + 3) L (m_i (m_sl a) :: st) h T) : m_Sim Y pc L (m_r a :: st) h T := by
  refine ms_kn (v := (m_sl a, h)) ?_
  refine ms_callTi (pc := pc) S hF (vals := []) (st := st) (hcy := rfl) (ht := ht) (hC := kJ0_length_8abf5 _ _ a ht h) (hM := hM) (hfr := hF1) (hstk := rfl) (hcat := hcat) (hd := hd) (k1 := fun r h1 => ?_)
  refine ms_k2 (v := (m_sl a, h)) fun e1 e2 => ?_
  subst e1; subst e2
  exact k1
theorem ms_strat (S : m_Std Y own cc) {F index : Nat} (hF : m_Rm Y F) (hF1 : 4 ≤ F) (hM : m_MV own index yJ0_charAt_5068e cJ0_charAt_5068e 2 (some .char) 1) (ht : (-26 ≤ a ∧ a ≤ -2) ∧ 0 ≤ m_w i ∧ m_w i < m_sl a) (hcat : (st.map (fun v => if (v.1 == 1) = true then 2 else 1)).sum ≤ 8) (hd : decode cc pc = .ok (.invokevirtual index, 3)) (k1 : m_Sim Y (pc + 3) L (m_i (m_sc a (m_w i)) :: st) h T) : m_Sim Y pc L (m_i i :: m_r a :: st) h T := by
  refine ms_kn (v := (m_sc a (m_w i), h)) ?_
  refine ms_callTi (pc := pc) S hF (vals := [m_i i]) (st := st) (hcy := rfl) (ht := ht.1) (hC := kJ0_charAt_5068e _ _ a i ht.1 ht.2 h) (hM := hM) (hfr := hF1) (hstk := rfl) (hcat := hcat) (hd := hd) (k1 := fun r h1 => ?_)
  refine ms_k2 (v := (m_sc a (m_w i), h)) fun e1 e2 => ?_
  subst e1; subst e2
  exact k1
theorem ms_sast (S : m_Std Y own cc) (hx : -26 ≤ x ∧ x ≤ -2) (hgd : m_t h a = 28 ∧ 0 ≤ m_w i ∧ m_w i < m_l h a) (hd : decode cc pc = .ok (.aastore, 1)) (k1 : ∀ h1, m_Sim Y (pc + 1) L st h1 (f h1)) : m_Sim Y pc L (m_r x :: m_i i :: m_r a :: st) h (some (m_p h a (m_w i) x) >>= f) := by
  obtain ⟨ht, h0, h1⟩ := hgd
  refine m_hp S (k1 (m_p h a (m_w i) x)) (Int.le_refl _) (Int.le_refl _) (fun hf S H locs cells slots cells1 slots1 Q ls hR hL hl hc1 hs1 hc2 hs2 kk => ?_)
  have ec : cells1 = cells := by rw [m_n_p] at hc1; omega
  have es : slots1 = slots := by rw [m_s_p] at hs1; omega
  subst ec; subst es
  obtain ⟨-, -, q1⟩ := m_arr hR (t := 28) (by omega) ht
  have hlt := m_ad_lt hR (a := a) (by omega)
  obtain ⟨⟨cellV, g1, g2, g3, -⟩, -⟩ := m_text S.2.2.2.2.2.1 hR hx
  obtain ⟨kA, comp, z1, z2, z3, -⟩ := (m_acl S.2.2.2.2.2.1 8 rfl).2
  have hcomp : comp = cellV.cls := Option.some.inj (z3.symm.trans g3)
  subst hcomp
  obtain ⟨kC, hkC, -⟩ := Vm.findClass_spec g3
  simp only [List.map_cons]
  rw [m_tr_x _ (show x < 0 by omega), m_tr_r (show a ≠ 0 by omega)]
  refine W.aast S.1 S.2.1 q1 (fun q h => by cases h) (fun h => by cases h) z1 z2 rfl hkC ⟨fun q => absurd ((m_neg i).mp q) (by omega), by rw [arrV_size, m_cl]; omega⟩ g1 (fun q h => by rw [h] at g2; cases g2) hkC (va_asg _ _) rfl rfl hd fun H1 e z oq => ?_
  refine kk H1 _ ls (m_ast hR (t := 28) (by omega) ht h0 (by rw [show m_ek ((28 : Nat) : Int) = 2 from rfl, m_tr_x _ (show x < 0 by omega)]) e z oq) (fun q hq => ?_) hl
  rcases List.mem_append.mp hq with h9 | h9
  · exact hL q h9
  · rw [List.mem_singleton.mp h9]; exact hlt.1
end m_xtra
/-- an int array is copied as a whole -/
def m_dp (h : m_H) (a : Int) : m_H := (fun b j => if b = m_n h then m_g h a j else m_g h b j, fun b => if b = m_n h then 20 else m_t h b, fun b => if b = m_n h then m_l h a else m_l h b, m_n h + 1, m_s h + m_l h a)
theorem m_g_dp (h : m_H) (a b j : Int) : m_g (m_dp h a) b j = if b = m_n h then m_g h a j else m_g h b j := rfl
theorem m_t_dp (h : m_H) (a b : Int) : m_t (m_dp h a) b = if b = m_n h then 20 else m_t h b := rfl
theorem m_l_dp (h : m_H) (a b : Int) : m_l (m_dp h a) b = if b = m_n h then m_l h a else m_l h b := rfl
theorem m_n_dp (h : m_H) (a : Int) : m_n (m_dp h a) = m_n h + 1 := rfl
theorem m_s_dp (h : m_H) (a : Int) : m_s (m_dp h a) = m_s h + m_l h a := rfl
theorem m_g_a2 (h : m_H) (n k b j : Int) : m_g (m_a2 h n k) b j = if b = m_n h then (if 0 ≤ j ∧ j < n then m_n h + 1 + j else 0) else if m_n h < b ∧ b ≤ m_n h + n then 0 else m_g h b j := rfl
theorem m_t_a2 (h : m_H) (n k b : Int) : m_t (m_a2 h n k) b = if b = m_n h then 29 else if m_n h < b ∧ b ≤ m_n h + n then 20 else m_t h b := rfl
theorem m_l_a2 (h : m_H) (n k b : Int) : m_l (m_a2 h n k) b = if b = m_n h then n else if m_n h < b ∧ b ≤ m_n h + n then k else m_l h b := rfl
theorem m_n_a2 (h : m_H) (n k : Int) : m_n (m_a2 h n k) = m_n h + 1 + n := rfl
theorem m_s_a2 (h : m_H) (n k : Int) : m_s (m_a2 h n k) = m_s h + n + n * k := rfl
theorem m_wcl : (Cond.methodLink RJ7 316 ⟨"[I", "clone", "()Ljava/lang/Object;"⟩ ∈ m_big ∧ Cond.native ⟨"java/lang/Object", "clone", "()Ljava/lang/Object;"⟩ ∈ m_big ∧ Cond.instanceMethod ⟨"java/lang/Object", "clone", "()Ljava/lang/Object;"⟩ ∈ m_big ∧ Cond.selects "[I" ⟨"[I", "clone", "()Ljava/lang/Object;"⟩ ⟨"java/lang/Object", "clone", "()Ljava/lang/Object;"⟩ ∈ m_big) ∧ (Cond.sameMethod "[I" "java/lang/Object" "clone" "()Ljava/lang/Object;" ∈ m_nest ∧ Cond.castable "[I" "java/lang/Cloneable" ∈ m_nest) ∧ Cond.classLink RJ7 317 "[I" ∈ m_big :=
  ⟨⟨m_big_mem (i := 1007) (by decide +kernel) (by decide +kernel), m_big_mem (i := 1009) (by decide +kernel) (by decide +kernel), m_big_mem (i := 1010) (by decide +kernel) (by decide +kernel), m_big_mem (i := 1011) (by decide +kernel) (by decide +kernel)⟩, ⟨m_nest_mem (i := 1008) (by decide +kernel) (by decide +kernel), m_nest_mem (i := 1012) (by decide +kernel) (by decide +kernel)⟩, m_big_mem (i := 1013) (by decide +kernel) (by decide +kernel)⟩
section m_xtra2
variable {ρ : Type} {Y : m_Y ρ} {own : String} {cc : ByteArray} {pc : Nat} {L : List (Nat × m_V)} {st : List m_V} {h : m_H} {T : Option (ρ × m_H)} {f : m_H → Option (ρ × m_H)} {a i x n k : Int}
theorem ms_clone (S : m_Std Y RJ7 cc) {F : Nat} (hF : m_Rm Y F) (hF1 : 1 ≤ F) (hcat : (st.map (fun v => if (v.1 == 1) = true then 2 else 1)).sum ≤ 8) (ht : m_t h a = 20 ∧ 0 ≤ m_l h a) (hd : decode cc pc = .ok (.invokevirtual 316, 3)) (k1 : ∀ h1, m_Sim Y (pc + 3) L (m_r (m_n h) :: st) h1 (f h1)) : m_Sim Y pc L (m_r a :: st) h (some (m_dp h a) >>= f) := by
  obtain ⟨ht, hl0⟩ := ht
  refine m_hp S (k1 (m_dp h a)) (by rw [m_n_dp]; omega) (by rw [m_s_dp]; omega) (fun hf S H locs cells slots cells1 slots1 Q ls hR hL hl hc1 hs1 hc2 hs2 kk => ?_)
  rw [m_n_dp] at hc1
  rw [m_s_dp] at hs1
  obtain ⟨l1, l2, c1⟩ := m_arr hR (t := 20) (by omega) ht
  have hlt := m_ad_lt hR (a := a) (by omega)
  have hN := m_ad_n hR
  have r2 := hR.2.1
  obtain ⟨hF1, hF2⟩ := hF hf
  have ec : cells1 = cells + 1 := by omega
  have es : slots1 = slots + (m_l h a).toNat := by omega
  subst ec; subst es
  obtain ⟨c0, t0', f1, f2, f3⟩ := Cond.castable_spec (va_Nw.use (A := Y.2.1.2.2.2.2.2.2.1) rfl (S.2.2.2.2.2.1.2.2.2.2.2.2.2.2 _ m_wcl.2.1.2))
  have hcls : Y.2.1.2.2.2.2.1.vm.findClass "[I" = some (Y.1.2.2.2.1 20) := (m_acl S.2.2.2.2.2.1 0 rfl).2
  cases hcls.symm.trans f1
  generalize hg0 : (fun j : Nat => m_tr Y.1 (m_ek 20, m_g h a j)) = g0 at c1
  unfold m_WY
  simp only [List.map_cons, m_tr_r (show a ≠ 0 by omega)]
  intro Tt hTt X
  obtain ⟨-, kA, hkA, comp, hkind⟩ := State.isArrayOf_alike X.warmed.alike ((m_acl S.2.2.2.2.2.1 0 rfl).1 0 (fun _ => .null))
  obtain ⟨-, kS, hkS, compS, hkindS⟩ := (m_acl S.2.2.2.2.2.1 0 rfl).1 0 (fun _ => .null)
  obtain ⟨vm', X', st1⟩ := X.cloneArray S.1 S.2.2.2.1 (S.2.2.2.2.1 _ m_wcl.1.1) (va_Nw.use rfl (S.2.2.2.2.2.1.2.2.2.2.2.2.2.2 _ m_wcl.2.1.1)) (S.2.2.2.2.1 _ m_wcl.1.2.1) (S.2.2.2.2.1 _ m_wcl.1.2.2.1) (S.2.2.2.2.1 _ m_wcl.1.2.2.2) (a := m_ad Y.1 a) (cell := arrV (Y.1.2.2.2.1 20) (m_l h a).toNat g0) (by rw [hTt]; exact c1) (fun k h => by cases h) (fun h => by cases h) hcls f2 f3
    (fun i v hv => by
      have hk' : Tt.vm.classes[(arrV (Y.1.2.2.2.1 20) (m_l h a).toNat g0).cls]? = some kA := hkA
      have hfv : fits .int v = true := va_fit (fun j hj => by rw [← hg0]; rfl) i v hv
      simpa [State.fitsSlot, State.slotType?, hk', hkind] using hfv)
    (g := F0 _ pc ls _) rfl (hl.1.trans S.2.2.1.symm) (rest := st.map (m_tr Y.1)) rfl (by rw [S.2.1]; exact hd) (by omega) (by rw [m_catsum]; show 2 * 0 + _ + 14 ≤ _; omega) hc2 (by rw [arrV_size]; exact hs2) (hloader := Vm.clonesLoader_of_array hkS hkindS)
  rw [arrV_size] at X'
  have k2 := kk (H.push (arrV (Y.1.2.2.2.1 20) (m_l h a).toNat g0)) locs ls ?_ hL hl
  · unfold m_WY at k2
    simp only [List.map_cons, m_tr_r (show m_n h ≠ 0 by omega), hN] at k2
    obtain ⟨t, b1, b2⟩ := k2 _ (by rw [← hTt]; rfl) X'
    refine ⟨t, st1 t ?_, b2⟩
    rw [hTt]
    exact b1
  · have z1 : (H.push (arrV (Y.1.2.2.2.1 20) (m_l h a).toNat g0)).size = H.size + 1 := Array.size_push _
    obtain ⟨p1, p2, p3, p4⟩ := hR
    refine ⟨by rw [z1, m_n_dp]; omega, by rw [m_n_dp]; omega, fun b hb => ?_, fun q hq => ?_⟩
    · by_cases hba : b = m_n h
      · subst hba
        rw [m_t_dp, if_pos rfl]
        refine ⟨r2, by rw [m_n_dp]; omega, by omega, by omega, ?_⟩
        unfold m_at
        rw [m_t_dp, if_pos rfl, if_neg (by omega), m_l_dp, if_pos rfl, hN]
        refine ⟨l1, l2, ?_⟩
        rw [Array.getElem?_push_size, ← hg0]
        show some (arrV (Y.1.2.2.2.1 20) _ _) = some (arrV (Y.1.2.2.2.1 20) _ _)
        congr 2
        funext j
        rw [m_g_dp, if_pos rfl]
      · rw [m_t_dp, if_neg hba] at hb ⊢
        obtain ⟨b1, b2, b3, b4, b5⟩ := p3 b hb
        have hlb := m_ad_lt (h := h) ⟨p1, p2, p3, p4⟩ hb
        refine ⟨b1, by rw [m_n_dp]; omega, b3, b4, b5.congr (by rw [m_t_dp, if_neg hba]) (by rw [m_l_dp, if_neg hba]) (fun k => by rw [m_g_dp, if_neg hba]) (by rw [Array.getElem?_push, if_neg (by omega)])⟩
    · rw [Array.getElem?_push, if_neg (by omega)]
      exact p4 q hq
theorem ms_castI (S : m_Std Y RJ7 cc) (ht : m_t h a = 20) (hd : decode cc pc = .ok (.checkcast 317, 3)) (k1 : m_Sim Y (pc + 3) L (m_r a :: st) h T) : m_Sim Y pc L (m_r a :: st) h T := by
  refine m_pr S k1 (fun S H locs cells slots Q ls hR hl kk => ?_)
  have hlt := m_ad_lt hR (a := a) (by omega)
  obtain ⟨-, -, c1⟩ := m_arr hR (t := 20) (by omega) ht
  have k2 := kk ls hl
  simp only [List.map_cons, m_tr_r (show a ≠ 0 by omega)] at k2 ⊢
  have hcls : Y.2.1.2.2.2.2.1.vm.findClass "[I" = some (Y.1.2.2.2.1 20) := (m_acl S.2.2.2.2.2.1 0 rfl).2
  exact va_castE S.1 S.2.1 S.2.2.2.1 (S.2.2.2.2.1 _ m_wcl.2.2) ⟨_, c1, rfl, hcls⟩ hd k2
theorem m_outer (c : ClassId) (N h0 : Nat) : ∀ i : Nat, Jvm.Free.Multi.outerC c N h0 i = arrV c N (fun j => if j < i then .ref (h0 + 1 + j) else .null)
  | 0 => by
    show ({ cls := c, slots := Array.replicate N .null, vm := .none } : Cell) = _
    rw [arrV_new]
    refine congrArg (arrV c N) (funext fun j => ?_)
    rw [if_neg (by omega)]
  | i + 1 => by
    show (Jvm.Free.Multi.outerC c N h0 i).setSlot i (.ref (h0 + 1 + i)) = _
    rw [m_outer c N h0 i, arrV_store]
    refine congrArg (arrV c N) (funext fun j => ?_)
    unfold updV
    by_cases e : j = i
    · subst e
      rw [if_pos rfl, if_pos (by omega)]
    · rw [if_neg e]
      show (if j < i then Value.ref (h0 + 1 + j) else Value.null) = _
      by_cases h : j < i
      · rw [if_pos h, if_pos (by omega)]
      · rw [if_neg h, if_neg (by omega)]
theorem ms_mna (S : m_Std Y own cc) {index : Nat} (hw : Cond.classLink own index "[[I" ∈ m_big ∧ Cond.arrayOver (.array .int) ∈ m_nest ∧ Cond.arrayClass .int ∈ m_big) (hb : (0 ≤ m_w n ∧ m_w n < 100000) ∧ 0 ≤ m_w k ∧ m_w k < 10000000) (hd : decode cc pc = .ok (.multianewarray index 2, 4)) (k1 : ∀ h1, m_Sim Y (pc + 4) L (m_r (m_n h) :: st) h1 (f h1)) : m_Sim Y pc L (m_i k :: m_i n :: st) h (some (m_a2 h (m_w n) (m_w k)) >>= f) := by
  have hm : 0 ≤ m_w n * m_w k := Int.mul_nonneg hb.1.1 hb.2.1
  refine m_hp S (k1 (m_a2 h (m_w n) (m_w k))) (by rw [m_n_a2]; omega) (by rw [m_s_a2]; omega) (fun hf S H locs cells slots cells1 slots1 Q ls hR hL hl hc1 hs1 hc2 hs2 kk => ?_)
  rw [m_n_a2] at hc1
  rw [m_s_a2] at hs1
  have hN := m_ad_n hR
  have r2 := hR.2.1
  have em : (((m_w n).toNat * (m_w k).toNat : Nat) : Int) = m_w n * m_w k := by
    rw [Int.natCast_mul, Int.toNat_of_nonneg hb.1.1, Int.toNat_of_nonneg hb.2.1]
  have ec : cells1 = cells + 1 + (m_w n).toNat := by omega
  have es : slots1 = slots + (m_w n).toNat + (m_w n).toNat * (m_w k).toNat := by omega
  subst ec; subst es
  have e0 : "[" ++ (FieldType.array .int).toString = "[[I" := by decide +kernel
  unfold m_WY
  simp only [List.map_cons]
  intro Tt hTt X
  obtain ⟨vm₁, cA, comp, -, fA, fC, hO, -, X', step⟩ := X.multianewarray2F S.1 S.2.2.2.1 (ty := .int) (by rw [e0]; exact S.2.2.2.2.1 _ hw.1) (S.2.2.2.2.2.1.2.2.2.2.2.2.2.2 _ hw.2.1 : va_Nw _ _) (S.2.2.2.2.1 _ hw.2.2) (n := Int32.ofInt n) (k := Int32.ofInt k) (g := F0 _ pc ls _) rfl (by rw [S.2.1]; exact hd) rfl
    (fun q => absurd ((m_neg n).mp q) (by omega)) (fun q => absurd ((m_neg k).mp q) (by omega)) (by rw [m_cl]; omega) (by rw [m_cl]; show _ * 4 ≤ _; omega) (by rw [m_cl]; omega) rfl rfl (by rw [m_cl]; omega) (by rw [m_cl, m_cl]; omega)
  rw [m_cl, m_cl] at X' step
  have ecA : cA = Y.1.2.2.2.1 29 := Option.some.inj (fA.symm.trans (m_acl S.2.2.2.2.2.1 9 rfl).2)
  have ecC : comp = Y.1.2.2.2.1 20 := Option.some.inj (fC.symm.trans (m_acl S.2.2.2.2.2.1 0 rfl).2)
  subst ecA
  subst ecC
  obtain ⟨f1, f2, -, -⟩ := Jvm.Free.Multi.fill_facts (Tt.setVm vm₁) (Y.1.2.2.2.1 29) (Y.1.2.2.2.1 20) (m_w n).toNat (m_w k).toNat (defaultValue .int) (m_w n).toNat
  have hold : ∀ x : Nat, x < H.size → (Jvm.Free.Multi.fill (Tt.setVm vm₁) (Y.1.2.2.2.1 29) (Y.1.2.2.2.1 20) (m_w n).toNat (m_w k).toNat (defaultValue .int) (m_w n).toNat).heap[x]? = H[x]? := fun x hx => by
    have := Jvm.Free.Multi.fill_old (Tt.setVm vm₁) (Y.1.2.2.2.1 29) (Y.1.2.2.2.1 20) (m_w n).toNat (m_w k).toNat (defaultValue .int) (a := x) (by show x < Tt.heap.size; rw [hTt]; exact hx) (m_w n).toNat
    rw [this]
    show Tt.heap[x]? = _
    rw [hTt]
  have hrow : ∀ j : Nat, j < (m_w n).toNat → (Jvm.Free.Multi.fill (Tt.setVm vm₁) (Y.1.2.2.2.1 29) (Y.1.2.2.2.1 20) (m_w n).toNat (m_w k).toNat (defaultValue .int) (m_w n).toNat).heap[H.size + 1 + j]? = some (Jvm.Free.Multi.innerC (Y.1.2.2.2.1 20) (m_w k).toNat (defaultValue .int)) := fun j hj => by
    have := Jvm.Free.Multi.fill_inner (Tt.setVm vm₁) (Y.1.2.2.2.1 29) (Y.1.2.2.2.1 20) (m_w n).toNat (m_w k).toNat (defaultValue .int) (m_w n).toNat j hj
    rw [show (Tt.setVm vm₁).heap.size = H.size from congrArg Array.size hTt] at this
    exact this
  rw [show (Tt.setVm vm₁).heap.size = H.size from congrArg Array.size hTt] at f1 f2
  rw [m_outer] at f2
  generalize hFF : (Jvm.Free.Multi.fill (Tt.setVm vm₁) (Y.1.2.2.2.1 29) (Y.1.2.2.2.1 20) (m_w n).toNat (m_w k).toNat (defaultValue .int) (m_w n).toNat) = FF at X' step f1 f2 hold hrow
  have k2 := kk FF.heap locs ls ?_ hL hl
  · unfold m_WY at k2
    simp only [List.map_cons, m_tr_r (show m_n h ≠ 0 by omega), hN] at k2
    obtain ⟨t, b1, b2⟩ := k2 FF rfl X'
    refine ⟨t, step t ?_, b2⟩
    rw [hTt]
    exact b1
  · obtain ⟨p1, p2, p3, p4⟩ := hR
    have had : ∀ j : Int, 0 ≤ j → m_ad Y.1 (m_n h + j) = H.size + j.toNat := fun j hj => by
      rw [m_ad_pos _ (by omega)]; omega
    refine ⟨by rw [f1, m_n_a2]; omega, by rw [m_n_a2]; omega, fun b hb => ?_, fun q hq => ?_⟩
    · by_cases hba : b = m_n h
      · subst hba
        rw [m_t_a2, if_pos rfl]
        refine ⟨r2, by rw [m_n_a2]; omega, by omega, by omega, ?_⟩
        unfold m_at
        rw [m_t_a2, if_pos rfl, if_neg (by omega), m_l_a2, if_pos rfl, hN]
        refine ⟨by omega, by omega, ?_⟩
        rw [f2]
        show some (arrV (Y.1.2.2.2.1 29) _ _) = some (arrV (Y.1.2.2.2.1 29) _ _)
        congr 2
        funext j
        rw [m_g_a2, if_pos rfl, show m_ek 29 = 2 from rfl]
        by_cases hj : j < (m_w n).toNat
        · rw [if_pos hj, if_pos (by omega), m_tr_r (by omega), show m_n h + 1 + (j : Int) = m_n h + (1 + (j : Int)) by omega, had _ (by omega), show H.size + 1 + j = H.size + (1 + (j : Int)).toNat by omega]
        · rw [if_neg hj, if_neg (by omega)]; rfl
      · by_cases hbb : m_n h < b ∧ b ≤ m_n h + m_w n
        · rw [m_t_a2, if_neg hba, if_pos hbb]
          refine ⟨by omega, by rw [m_n_a2]; omega, by omega, by omega, ?_⟩
          unfold m_at
          rw [m_t_a2, if_neg hba, if_pos hbb, if_neg (by omega), m_l_a2, if_neg hba, if_pos hbb, show b = m_n h + (b - m_n h) by omega, had _ (by omega)]
          refine ⟨by omega, by omega, ?_⟩
          have hr := hrow (b - m_n h - 1).toNat (by omega)
          rw [show H.size + 1 + (b - m_n h - 1).toNat = H.size + (b - m_n h).toNat by omega] at hr
          rw [hr]
          show some ({ cls := _, slots := Array.replicate _ _, vm := .none } : Cell) = some (arrV (Y.1.2.2.2.1 20) _ _)
          rw [arrV_new]
          congr 2
          funext j
          rw [m_g_a2, show m_n h + (b - m_n h) = b by omega, if_neg hba, if_pos hbb]; rfl
        · rw [m_t_a2, if_neg hba, if_neg hbb] at hb ⊢
          obtain ⟨b1, b2, b3, b4, b5⟩ := p3 b hb
          have hlb := m_ad_lt (h := h) ⟨p1, p2, p3, p4⟩ hb
          refine ⟨b1, by rw [m_n_a2]; omega, b3, b4, b5.congr (by rw [m_t_a2, if_neg hba, if_neg hbb]) (by rw [m_l_a2, if_neg hba, if_neg hbb]) (fun k => by rw [m_g_a2, if_neg hba, if_neg hbb]) (hold _ (by omega))⟩
    · rw [hold _ (by omega)]
      exact p4 q hq
end m_xtra2
