/-! FURTHER ROWS: Object's constructor, new arrays, copies, texts, the script -/
section m_more
variable {ρ : Type} {Y : m_Y ρ} {own : String} {cc : ByteArray} {pc : Nat} {L : List (Nat × m_V)} {st : List m_V} {h : m_H} {T : Option (ρ × m_H)} {f : m_H → Option (ρ × m_H)} {a i x n : Int}
theorem ms_obj (S : m_Std Y own cc) {F index : Nat} (hF : m_Rm Y F) (hF1 : 1 ≤ F) (hw : Cond.methodLink own index objectInit ∈ m_big ∧ Cond.instanceMethod objectInit ∈ m_big ∧ Cond.code objectInit ⟨#[0xb1]⟩ 1 none ∈ m_big) (ht : 0 ≤ m_t h a) (hcat : (st.map (fun v => if (v.1 == 1) = true then 2 else 1)).sum ≤ 8) (hd : decode cc pc = .ok (.invokespecial index, 3)) (k1 : m_Sim Y (pc + 3) L st h T) : m_Sim Y pc L (m_r a :: st) h T := by
  intro r h' hT
  obtain ⟨a1, b1, c1⟩ := k1 r h' hT
  refine ⟨a1, b1, fun hf H locs cells slots cE sE ls hR hl hL hcc hcs hcE hsE hcR hsR => ?_⟩
  have S := S hf
  obtain ⟨hF1, hF2⟩ := hF hf
  have hlt := m_ad_lt hR ht
  have kk := c1 hf H locs cells slots cE sE ls hR hl hL hcc hcs hcE hsE hcR hsR
  unfold m_WY
  rw [List.map_cons, m_tr_r (show a ≠ 0 by omega)]
  refine W.objInit S.1 S.2.1 S.2.2.2.1 (S.2.2.2.2.1 _ hw.1) (S.2.2.2.2.1 _ hw.2.1) (S.2.2.2.2.1 _ hw.2.2) rfl (hl.1.trans S.2.2.1.symm) rfl hd (by omega) ?_ kk
  rw [m_catsum]
  show 2 * 0 + _ + 12 ≤ _
  omega
theorem ms_newa (S : m_Std Y own cc) (t : Nat) {at' : ArrayType} {ty : FieldType} (hty : newarray.typeOf at' = ty) (ht2 : 20 ≤ t ∧ t < 24) (hk : ∀ cA, (m_tys cA)[t - 20]? = some (cA t, ty)) (hdf : ∀ d : m_D, defaultValue ty = m_tr d (m_ek t, 0)) (hby : componentBytes ty ≤ 8) (hra : ∀ U cA, va_RA U cA ty → U.vm.findClass ("[" ++ ty.toString) = some cA) (hw : Cond.arrayClass ty ∈ m_big) (hn : 0 ≤ m_w n ∧ m_w n < 60000000) (hd : decode cc pc = .ok (.newarray at', 2)) (k1 : ∀ h1, m_Sim Y (pc + 2) L (m_r (m_n h) :: st) h1 (f h1)) : m_Sim Y pc L (m_i n :: st) h (some (m_a h t (m_w n)) >>= f) := by
  subst hty
  refine m_hp S (k1 (m_a h t (m_w n))) (by rw [m_n_a]; omega) (by rw [m_s_a]; omega) (fun hf S H locs cells slots cells1 slots1 Q ls hR hL hl hc1 hs1 hc2 hs2 kk => ?_)
  rw [m_n_a] at hc1
  rw [m_s_a] at hs1
  have ec : cells1 = cells + 1 := by omega
  have es : slots1 = slots + (m_w n).toNat := by omega
  subst ec; subst es
  have r2 := hR.2.1
  refine va_newaK S.1 S.2.1 (S.2.2.2.2.1 _ hw) rfl hd rfl (fun q => absurd ((m_neg n).mp q) (by omega)) (m_cl n) (by have : (m_w n).toNat * componentBytes (newarray.typeOf at') ≤ (m_w n).toNat * 8 := Nat.mul_le_mul_left _ hby; omega) hc2 hs2 rfl fun H1 cA e1 z1 o1 hAr hNm => ?_
  have ecA : cA = Y.1.2.2.2.1 t := by
    have h9 := hra _ _ (m_acl S.2.2.2.2.2.1 (t - 20) (hk _)).2
    exact Option.some.inj (hNm.symm.trans h9)
  subst ecA
  have k2 := kk H1 locs ls (hR.new (t := t) (n := m_w n) (Or.inr (by omega)) (by omega) z1 o1 ?_) hL hl
  · simp only [List.map_cons, m_tr_r (show m_n h ≠ 0 by omega), m_ad_n hR] at k2
    exact k2
  · unfold m_at
    rw [m_t_a, if_pos rfl, if_neg (by omega), m_l_a, if_pos rfl, m_ad_n hR]
    refine ⟨by omega, by omega, ?_⟩
    rw [e1]
    show some (arrV (Y.1.2.2.2.1 t) _ _) = some (arrV (Y.1.2.2.2.1 t) _ _)
    congr 2
    funext j
    rw [m_g_a, if_pos rfl]
    exact hdf _
theorem ms_anew (S : m_Std Y own cc) (t : Nat) {index : Nat} {C : String} (ht2 : 24 ≤ t ∧ t < 29) (hk : ∀ cA, (m_tys cA)[t - 20]? = some (cA t, .object C)) (hw : Cond.classLink own index C ∈ m_big ∧ Cond.arrayOver (.object C) ∈ m_nest) (hn : 0 ≤ m_w n ∧ m_w n < 60000000) (hd : decode cc pc = .ok (.anewarray index, 3)) (k1 : ∀ h1, m_Sim Y (pc + 3) L (m_r (m_n h) :: st) h1 (f h1)) : m_Sim Y pc L (m_i n :: st) h (some (m_a h t (m_w n)) >>= f) := by
  refine m_hp S (k1 (m_a h t (m_w n))) (by rw [m_n_a]; omega) (by rw [m_s_a]; omega) (fun hf S H locs cells slots cells1 slots1 Q ls hR hL hl hc1 hs1 hc2 hs2 kk => ?_)
  rw [m_n_a] at hc1
  rw [m_s_a] at hs1
  have ec : cells1 = cells + 1 := by omega
  have es : slots1 = slots + (Int32.ofInt n).toNatClampNeg := by rw [m_cl]; omega
  subst ec; subst es
  have r2 := hR.2.1
  refine W.anew S.1 S.2.1 S.2.2.2.1 (S.2.2.2.2.1 _ hw.1) (va_AO.use (S.2.2.2.2.2.1.2.2.2.2.2.2.2.2 _ hw.2)) rfl hd rfl (fun q => absurd ((m_neg n).mp q) (by omega)) (by show (Int32.ofInt n).toNatClampNeg * 4 ≤ _; rw [m_cl]; omega) hc2 hs2 fun cA kA comp g1 g2 g3 g4 => ?_
  have ecA : cA = Y.1.2.2.2.1 t := by
    obtain ⟨kA', comp', z1, z2, z3, z4⟩ := (m_acl S.2.2.2.2.2.1 (t - 20) (hk _)).2
    exact Option.some.inj (g1.symm.trans z4)
  subst ecA
  have z1 : (H.push { cls := Y.1.2.2.2.1 t, slots := Array.replicate (Int32.ofInt n).toNatClampNeg .null, vm := .none }).size = H.size + 1 := Array.size_push _
  have k2 := kk _ locs ls (hR.new (t := t) (n := m_w n) (Or.inr (by omega)) (by omega) z1 (fun q hq => by rw [Array.getElem?_push, if_neg (by omega)]) ?_) hL hl
  · simp only [List.map_cons, m_tr_r (show m_n h ≠ 0 by omega), m_ad_n hR] at k2
    exact k2
  · unfold m_at
    rw [m_t_a, if_pos rfl, if_neg (by omega), m_l_a, if_pos rfl, m_ad_n hR]
    refine ⟨by omega, by omega, ?_⟩
    rw [Array.getElem?_push, if_pos rfl, arrV_new, m_cl]
    show some (arrV (Y.1.2.2.2.1 t) _ _) = some (arrV (Y.1.2.2.2.1 t) _ _)
    congr 2
    funext j
    rw [m_g_a, if_pos rfl, show m_ek ((t : Nat) : Int) = 2 by unfold m_ek; rw [if_neg (by omega), if_neg (by omega)]]
    rfl
/-- System.arraycopy between two int arrays -/
theorem ms_copy (S : m_Std Y own cc) {F index : Nat} (hF : m_Rm Y F) (hF1 : 1 ≤ F) {b s1 e1 : Int} (hw : Cond.methodLink own index arraycopyName ∈ m_big ∧ Cond.native arraycopyName ∈ m_big ∧ Cond.static arraycopyName ∈ m_big ∧ Cond.initialized "java/lang/System" ∈ m_big) (hcat : (st.map (fun v => if (v.1 == 1) = true then 2 else 1)).sum ≤ 8)
    (hc : m_t h a = 20 ∧ m_t h b = 20 ∧ 0 ≤ m_w s1 ∧ 0 ≤ m_w e1 ∧ 0 ≤ m_w n ∧ m_w s1 + m_w n ≤ m_l h a ∧ m_w e1 + m_w n ≤ m_l h b) (hd : decode cc pc = .ok (.invokestatic index, 3)) (k1 : ∀ h1, m_Sim Y (pc + 3) L st h1 (f h1)) : m_Sim Y pc L (m_i n :: m_i e1 :: m_r b :: m_i s1 :: m_r a :: st) h (some (m_cp h a (m_w s1) b (m_w e1) (m_w n)) >>= f) := by
  obtain ⟨ha, hb, h1, h2, h3, h4, h5⟩ := hc
  intro r h' hT
  obtain ⟨a1, b1, c1⟩ := k1 (m_cp h a (m_w s1) b (m_w e1) (m_w n)) r h' hT
  rw [m_n_cp] at a1
  rw [m_s_cp] at b1
  refine ⟨a1, b1, fun hf H locs cells slots cE sE ls hR hl hL hcc hcs hcE hsE hcR hsR => ?_⟩
  have S := S hf
  obtain ⟨hF1, hF2⟩ := hF hf
  obtain ⟨-, -, q0⟩ := m_arr hR (t := 20) (by omega) ha
  obtain ⟨l1, l2, q1⟩ := m_arr hR (t := 20) (by omega) hb
  have hla := m_ad_lt hR (a := a) (by omega)
  have hlb := m_ad_lt hR (a := b) (by omega)
  unfold m_WY
  simp only [List.map_cons, m_tr_r (show a ≠ 0 by omega), m_tr_r (show b ≠ 0 by omega)]
  have nn : ∀ z : Int, 0 ≤ m_w z → (Int32.ofInt z).toInt = ((Int32.ofInt z).toNatClampNeg : Int) := fun z hz => by rw [m_cl, m_w_i]; omega
  have hz : ∀ z : Int, 0 ≤ m_w z → ¬ Int32.ofInt z < 0 := fun z hz q => absurd ((m_neg z).mp q) (by omega)
  obtain ⟨-, k0, hk0, cm0, hkk0⟩ := (m_acl S.2.2.2.2.2.1 0 rfl).1 0 (fun _ => .null)
  intro Tt hTt X
  generalize hg0 : (fun j : Nat => m_tr Y.1 (m_ek 20, m_g h a j)) = g0 at q0
  generalize hg1 : (fun j : Nat => m_tr Y.1 (m_ek 20, m_g h b j)) = g1 at q1
  have hi : ∀ j : Nat, g0 j = .int (Int32.ofInt (m_g h a j)) := fun j => by rw [← hg0]; rfl
  obtain ⟨vm', X', step⟩ := X.arraycopy S.1 S.2.2.2.1 (S.2.2.2.2.1 _ hw.1) (S.2.2.2.2.1 _ hw.2.1) (S.2.2.2.2.1 _ hw.2.2.1) (S.2.2.2.2.1 _ hw.2.2.2) (src := m_ad Y.1 a) (dst := m_ad Y.1 b) (cs := arrV (Y.1.2.2.2.1 20) (m_l h a).toNat g0) (cd := arrV (Y.1.2.2.2.1 20) (m_l h b).toNat g1) (srcPos := Int32.ofInt s1) (destPos := Int32.ofInt e1) (n := Int32.ofInt n) (by rw [hTt]; exact q0) (by rw [hTt]; exact q1)
    (fun _ h => by cases h) (fun _ h => by cases h) (fun h => by cases h) (fun h => by cases h) hk0 hk0 hkk0 hkk0 (by simp [refKind]) (hz _ h1) (hz _ h2) (hz _ h3)
    (by rw [m_w_i, m_w_i, arrV_size]; omega)
    (by rw [m_w_i, m_w_i, arrV_size]; omega)
    (fun vm₁ _ j hj => by
      rw [m_cl] at hj ⊢
      have e : (arrV (Y.1.2.2.2.1 20) (m_l h a).toNat g0).slots.getD ((m_w s1).toNat + j) .null = .int (Int32.ofInt (m_g h a ((m_w s1).toNat + j : Nat))) := by
        rw [Array.getD_eq_getD_getElem?, arrV_read _ _ (by omega)]
        exact hi _
      refine ⟨?_, ?_⟩
      · rw [e]; rfl
      · rw [e]; exact trivial)
    (g := F0 _ pc ls _) rfl (hl.1.trans S.2.2.1.symm) (rest := st.map (m_tr Y.1)) rfl (by rw [S.2.1]; exact hd) (by omega) (by
      rw [m_catsum]
      show 2 * 0 + _ + (nativeFrameWords "java/lang/System" "arraycopy" 5 + 11) ≤ _
      have : nativeFrameWords "java/lang/System" "arraycopy" 5 + 11 ≤ 80 := by decide +kernel
      omega)
  have e1' : copied (arrV (Y.1.2.2.2.1 20) (m_l h a).toNat g0) (arrV (Y.1.2.2.2.1 20) (m_l h b).toNat g1) (Int32.ofInt s1) (Int32.ofInt e1) (Int32.ofInt n) = arrV (Y.1.2.2.2.1 20) (m_l h b).toNat (va_cpy g0 g1 (m_w s1).toNat (m_w e1).toNat (m_w n).toNat) := by
    rw [← m_cl s1, ← m_cl e1, ← m_cl n]
    exact va_copied (fun z : Value => z) (Y.1.2.2.2.1 20) (Y.1.2.2.2.1 20) (n0 := (m_l h a).toNat) (n1 := (m_l h b).toNat) g0 g1 (by rw [m_cl, m_cl]; omega)
  rw [e1'] at X' step
  have hheap : ((Tt.setVm vm').setCell (m_ad Y.1 b) (arrV (Y.1.2.2.2.1 20) (m_l h b).toNat (va_cpy g0 g1 (m_w s1).toNat (m_w e1).toNat (m_w n).toNat))).heap = H.setIfInBounds (m_ad Y.1 b) (arrV (Y.1.2.2.2.1 20) (m_l h b).toNat (va_cpy g0 g1 (m_w s1).toNat (m_w e1).toNat (m_w n).toNat)) := by rw [← hTt]; rfl
  have hR1 : m_R Y.1 (m_cp h a (m_w s1) b (m_w e1) (m_w n)) (H.setIfInBounds (m_ad Y.1 b) (arrV (Y.1.2.2.2.1 20) (m_l h b).toNat (va_cpy g0 g1 (m_w s1).toNat (m_w e1).toNat (m_w n).toNat))) := by
    refine hR.put (a := b) (by omega) (fun _ => rfl) (fun _ => rfl) (fun b' j hb' => by rw [m_g_cp, if_neg (fun q => hb' q.1)]) rfl (by simp) (fun q hq => by simp [Array.getElem?_setIfInBounds, Ne.symm hq]) ?_
    unfold m_at
    rw [m_t_cp, hb, if_neg (by omega), m_l_cp]
    refine ⟨l1, l2, ?_⟩
    rw [Array.getElem?_setIfInBounds, if_pos rfl, if_pos hlb.2.1]
    show some (arrV (Y.1.2.2.2.1 20) _ _) = some (arrV (Y.1.2.2.2.1 20) _ _)
    congr 2
    funext j
    unfold va_cpy
    rw [m_g_cp]
    by_cases hj : (m_w e1).toNat ≤ j ∧ j < (m_w e1).toNat + (m_w n).toNat
    · rw [if_pos hj, if_pos ⟨rfl, by omega, by omega⟩, ← hg0]
      show m_tr Y.1 (m_ek 20, m_g h a _) = m_tr Y.1 (m_ek 20, m_g h a _)
      rw [show (((m_w s1).toNat + (j - (m_w e1).toNat) : Nat) : Int) = m_w s1 + ((j : Int) - m_w e1) by omega]
    · rw [if_neg hj, if_neg (fun q => hj (by omega)), ← hg1]
  obtain ⟨t, x1, x2⟩ := c1 hf _ (locs ++ _) cells slots cE sE ls hR1 hl (fun q hq => by
    rcases List.mem_append.mp hq with h9 | h9
    · exact hL q h9
    · obtain ⟨z, -, hz⟩ := List.mem_map.mp h9
      rw [← hz]
      exact hlb.1) (by rw [m_n_cp]; exact hcc) (by rw [m_s_cp]; exact hcs) hcE hsE hcR hsR _ hheap X'
  exact ⟨t, step t x1, x2⟩
/-- a text constant -/
theorem ms_ldcS (S : m_Std Y own cc) {index : Nat} {tx : String} (k : Nat) (hk : m_strs[k]? = some (own, index, tx)) (hd : decode cc pc = .ok (.ldc index, 2)) (k1 : m_Sim Y (pc + 2) L (m_r (-((k : Int) + 2)) :: st) h T) : m_Sim Y pc L st h T := by
  refine m_pu S k1 (fun S H locs cells slots Q ls hl kk => ?_)
  have hZ := S.2.2.2.2.2.1.2.2.2.1 k _ hk
  have k2 := kk ls hl
  simp only [List.map_cons, m_tr_r (show -((k : Int) + 2) ≠ 0 by omega)] at k2
  have e : m_ad Y.1 (-((k : Int) + 2)) = Y.1.2.2.2.2.1 (k + 2) := by
    unfold m_ad
    rw [if_neg (by omega)]
    exact congrArg _ (by omega)
  rw [e] at k2
  exact va_ldcS S.1 S.2.1 S.2.2.2.1 hZ hd k2
/-- one and the same object -/
theorem ms_acmp_eq {T1 T2 : Option (ρ × m_H)} {b : Int} (S : m_Std Y own cc) (hc : 0 ≤ a ∧ 0 ≤ b) {off : Int} {tgt : Nat} (hd : decode cc pc = .ok (.if_acmp .eq off, 3)) (ht : (pc : Int) + off = (tgt : Int)) (k1 : a = b → m_Sim Y tgt L st h T1) (k2 : ¬ a = b → m_Sim Y (pc + 3) L st h T2) : m_Sim Y pc L (m_r b :: m_r a :: st) h (if a = b then T1 else T2) := by
  have key : ∀ (d : m_D) (x : Int), 0 ≤ x → m_tr d (m_r x) = va_rf (if x = 0 then none else some (m_ad d x)) := fun d x _ => by
    by_cases e : x = 0
    · subst e; rfl
    · rw [if_neg e, m_tr_r e]; rfl
  have inj : ∀ d : m_D, (if a = 0 then none else some (m_ad d a)) = (if b = 0 then none else some (m_ad d b)) ↔ a = b := fun d => by
    by_cases e1 : a = 0 <;> by_cases e2 : b = 0
    · simp [e1, e2]
    · simp [e1, e2]; omega
    · simp [e1, e2]
    · simp only [e1, e2, if_false, Option.some.injEq]
      refine ⟨fun q => ?_, fun q => by rw [q]⟩
      by_cases e3 : a = b
      · exact e3
      · exact absurd q (m_ad_ne d (by omega) (by omega) e3)
  by_cases e : a = b
  · rw [if_pos e]
    refine m_pu S (k1 e) (fun S H locs cells slots Q ls hl kk => ?_)
    simp only [List.map_cons, key _ _ hc.1, key _ _ hc.2]
    exact lv_acmp_eq S.1 S.2.1 hd ht (fun _ => kk ls hl) (fun q => absurd ((inj _).mpr e) q)
  · rw [if_neg e]
    refine m_pu S (k2 e) (fun S H locs cells slots Q ls hl kk => ?_)
    simp only [List.map_cons, key _ _ hc.1, key _ _ hc.2]
    exact lv_acmp_eq S.1 S.2.1 hd ht (fun q => absurd ((inj _).mp q) e) (fun _ => kk ls hl)
end m_more
/-! Math.min, max, abs of ints -/
def m_max (a b : Int) : Int := if m_w a < m_w b then b else a
def m_min (a b : Int) : Int := if m_w b < m_w a then b else a
def m_abs (a : Int) : Int := if m_w a < 0 then -a else a
section m_math
variable {ρ : Type} {Y : m_Y ρ} {own : String} {cc : ByteArray} {pc : Nat} {L : List (Nat × m_V)} {st : List m_V} {h : m_H} {T : Option (ρ × m_H)} {a b : Int}
theorem ms_mmax (S : m_Std Y own cc) {F index : Nat} (hF : m_Rm Y F) (hF1 : 1 ≤ F) (hw : Cond.methodLink own index Lib.Math.max.name ∈ m_big ∧ Cond.static Lib.Math.max.name ∈ m_big ∧ Cond.initialized "java/lang/Math" ∈ m_big ∧ Cond.code Lib.Math.max.name Lib.Math.max.code 2 (some .int) ∈ m_big) (hcat : (st.map (fun v => if (v.1 == 1) = true then 2 else 1)).sum ≤ 8) (hd : decode cc pc = .ok (.invokestatic index, 3)) (k1 : m_Sim Y (pc + 3) L (m_i (m_max a b) :: st) h T) : m_Sim Y pc L (m_i b :: m_i a :: st) h T := by
  refine m_hp S k1 (Int.le_refl _) (Int.le_refl _) (fun hf S H locs cells slots cells1 slots1 Q ls hR hL hl hc1 hs1 hc2 hs2 kk => ?_)
  have ec : cells1 = cells := by omega
  have es : slots1 = slots := by omega
  subst ec; subst es
  have k2 := kk H locs ls hR hL hl
  obtain ⟨hF1, hF2⟩ := hF hf
  have e : m_tr Y.1 (m_i (m_max a b)) = .int (if Int32.ofInt a < Int32.ofInt b then Int32.ofInt b else Int32.ofInt a) := by
    unfold m_max
    by_cases q : m_w a < m_w b
    · rw [if_pos q, if_pos ((m_lt_iff a b).mpr q)]; rfl
    · rw [if_neg q, if_neg (fun z => q ((m_lt_iff a b).mp z))]; rfl
  simp only [List.map_cons] at k2 ⊢
  rw [e] at k2
  exact va_mmax S.1 S.2.1 (S.2.2.1.trans hl.1.symm) S.2.2.2.1 (S.2.2.2.2.1 _ hw.1) (S.2.2.2.2.1 _ hw.2.1) (S.2.2.2.2.1 _ hw.2.2.1) (S.2.2.2.2.1 _ hw.2.2.2) (by omega) (by rw [m_catsum]; omega) hc2 hs2 hd k2
theorem ms_mmin (S : m_Std Y own cc) {F index : Nat} (hF : m_Rm Y F) (hF1 : 1 ≤ F) (hw : Cond.methodLink own index Lib.Math.min.name ∈ m_big ∧ Cond.static Lib.Math.min.name ∈ m_big ∧ Cond.initialized "java/lang/Math" ∈ m_big ∧ Cond.code Lib.Math.min.name Lib.Math.min.code 2 (some .int) ∈ m_big) (hcat : (st.map (fun v => if (v.1 == 1) = true then 2 else 1)).sum ≤ 8) (hd : decode cc pc = .ok (.invokestatic index, 3)) (k1 : m_Sim Y (pc + 3) L (m_i (m_min a b) :: st) h T) : m_Sim Y pc L (m_i b :: m_i a :: st) h T := by
  refine m_hp S k1 (Int.le_refl _) (Int.le_refl _) (fun hf S H locs cells slots cells1 slots1 Q ls hR hL hl hc1 hs1 hc2 hs2 kk => ?_)
  have ec : cells1 = cells := by omega
  have es : slots1 = slots := by omega
  subst ec; subst es
  have k2 := kk H locs ls hR hL hl
  obtain ⟨hF1, hF2⟩ := hF hf
  have e : m_tr Y.1 (m_i (m_min a b)) = .int (if Int32.ofInt b < Int32.ofInt a then Int32.ofInt b else Int32.ofInt a) := by
    unfold m_min
    by_cases q : m_w b < m_w a
    · rw [if_pos q, if_pos ((m_lt_iff b a).mpr q)]; rfl
    · rw [if_neg q, if_neg (fun z => q ((m_lt_iff b a).mp z))]; rfl
  simp only [List.map_cons] at k2 ⊢
  rw [e] at k2
  exact va_mmin S.1 S.2.1 (S.2.2.1.trans hl.1.symm) S.2.2.2.1 (S.2.2.2.2.1 _ hw.1) (S.2.2.2.2.1 _ hw.2.1) (S.2.2.2.2.1 _ hw.2.2.1) (S.2.2.2.2.1 _ hw.2.2.2) (by omega) (by rw [m_catsum]; omega) hc2 hs2 hd k2
theorem ms_mabs (S : m_Std Y own cc) {F index : Nat} (hF : m_Rm Y F) (hF1 : 1 ≤ F) (hw : Cond.methodLink own index Lib.Math.abs.name ∈ m_big ∧ Cond.static Lib.Math.abs.name ∈ m_big ∧ Cond.initialized "java/lang/Math" ∈ m_big ∧ Cond.code Lib.Math.abs.name Lib.Math.abs.code 1 (some .int) ∈ m_big) (hcat : (st.map (fun v => if (v.1 == 1) = true then 2 else 1)).sum ≤ 8) (hd : decode cc pc = .ok (.invokestatic index, 3)) (k1 : m_Sim Y (pc + 3) L (m_i (m_abs a) :: st) h T) : m_Sim Y pc L (m_i a :: st) h T := by
  refine m_hp S k1 (Int.le_refl _) (Int.le_refl _) (fun hf S H locs cells slots cells1 slots1 Q ls hR hL hl hc1 hs1 hc2 hs2 kk => ?_)
  have ec : cells1 = cells := by omega
  have es : slots1 = slots := by omega
  subst ec; subst es
  have k2 := kk H locs ls hR hL hl
  obtain ⟨hF1, hF2⟩ := hF hf
  have e : m_tr Y.1 (m_i (m_abs a)) = .int (if (0 : Int32) ≤ Int32.ofInt a then Int32.ofInt a else 0 - Int32.ofInt a) := by
    unfold m_abs
    have z0 : (0 : Int32) ≤ Int32.ofInt a ↔ ¬ m_w a < 0 := m_le_iff 0 a
    by_cases q : m_w a < 0
    · rw [if_pos q, if_neg (fun z => z0.mp z q)]
      show Value.int (Int32.ofInt (-a)) = _
      rw [Int32.ofInt_neg, Int32.zero_sub]
    · rw [if_neg q, if_pos (z0.mpr q)]
      rfl
  simp only [List.map_cons] at k2 ⊢
  rw [e] at k2
  exact va_mabs S.1 S.2.1 (S.2.2.1.trans hl.1.symm) S.2.2.2.1 (S.2.2.2.2.1 _ hw.1) (S.2.2.2.2.1 _ hw.2.1) (S.2.2.2.2.1 _ hw.2.2.1) (S.2.2.2.2.1 _ hw.2.2.2) (by omega) (by rw [m_catsum]; omega) hc2 hs2 hd k2
end m_math
