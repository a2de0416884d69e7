/-! THE JDK's TEXTS: length and charAt of the constants -/
def m_sl (a : Int) : Int := ((m_slen.getD (-a - 2).toNat 0 : Nat) : Int)
def m_sc (a i : Int) : Int := ((m_sbyt.getD (-a - 2).toNat []).getD i.toNat 0).toInt
section m_texts
variable {ρ : Type} {Y : m_Y ρ} {own : String} {cc : ByteArray} {pc : Nat} {L : List (Nat × m_V)} {st : List m_V} {h : m_H} {T : Option (ρ × m_H)} {a i : Int}
theorem ms_tcod (S : m_Std Y own cc) {index : Nat} (hw : Cond.fieldLink own index "java/lang/String" "coder" "B" ∈ m_big) (ht : -26 ≤ a ∧ a ≤ -2) (hd : decode cc pc = .ok (.getfield index, 3)) (k1 : m_Sim Y (pc + 3) L (m_i 0 :: st) h T) : m_Sim Y pc L (m_r a :: st) h T := by
  refine m_pr S k1 (fun S H locs cells slots Q ls hR hl kk => ?_)
  obtain ⟨-, ⟨cf, kf, fi, f, cell, h1, h2, h3, h4, h5, h6⟩, -, -⟩ := m_text S.2.2.2.2.2.1 hR ht
  have k2 := kk ls hl
  simp only [List.map_cons] at k2 ⊢
  rw [m_tr_x _ (show a < 0 by omega)]
  exact W.getf S.1 S.2.1 S.2.2.2.1 (S.2.2.2.2.1 _ hw) h1 h2 h3 h4 (v := .int 0) h5 rfl rfl hd k2
theorem ms_tval (S : m_Std Y own cc) {index : Nat} (hw : Cond.fieldLink own index "java/lang/String" "value" "[B" ∈ m_big) (ht : -26 ≤ a ∧ a ≤ -2) (hd : decode cc pc = .ok (.getfield index, 3)) (k1 : m_Sim Y (pc + 3) L (m_r (a - 38) :: st) h T) : m_Sim Y pc L (m_r a :: st) h T := by
  refine m_pr S k1 (fun S H locs cells slots Q ls hR hl kk => ?_)
  obtain ⟨-, -, ⟨cf, kf, fi, f, cell, h1, h2, h3, h4, h5, h6⟩, -⟩ := m_text S.2.2.2.2.2.1 hR ht
  have k2 := kk ls hl
  simp only [List.map_cons] at k2 ⊢
  rw [m_tr_x _ (show a - 38 < 0 by omega)] at k2
  rw [m_tr_x _ (show a < 0 by omega)]
  exact W.getf S.1 S.2.1 S.2.2.2.1 (S.2.2.2.2.1 _ hw) h1 h2 h3 h4 h5 rfl rfl hd k2
theorem ms_tlen (S : m_Std Y own cc) (ht : -26 ≤ a ∧ a ≤ -2) (hd : decode cc pc = .ok (.arraylength, 1)) (k1 : m_Sim Y (pc + 1) L (m_i (m_sl a) :: st) h T) : m_Sim Y pc L (m_r (a - 38) :: st) h T := by
  refine m_pr S k1 (fun S H locs cells slots Q ls hR hl kk => ?_)
  obtain ⟨-, -, -, ⟨cell, h1, h2, h3, h4, h5, h6, h7⟩⟩ := m_text S.2.2.2.2.2.1 hR ht
  have k2 := kk ls hl
  simp only [List.map_cons] at k2 ⊢
  rw [m_tr_x _ (show a - 38 < 0 by omega)]
  rw [m_tr_i, show Int32.ofInt (m_sl a) = Int32.ofNat (m_slen.getD (-a - 2).toNat 0) from Int32.ofInt_eq_ofNat] at k2
  exact W.alen (n := Int32.ofNat _) S.1 S.2.1 h1 h2 h5 rfl rfl hd k2
theorem ms_tat (S : m_Std Y own cc) (ht : -26 ≤ a ∧ a ≤ -2) (hi : 0 ≤ m_w i ∧ m_w i < m_sl a) (hd : decode cc pc = .ok (.baload, 1)) (k1 : m_Sim Y (pc + 1) L (m_i (m_sc a (m_w i)) :: st) h T) : m_Sim Y pc L (m_i i :: m_r (a - 38) :: st) h T := by
  refine m_pr S k1 (fun S H locs cells slots Q ls hR hl kk => ?_)
  obtain ⟨-, -, -, ⟨cell, h1, h2, h3, h4, h5, h6, h7⟩⟩ := m_text S.2.2.2.2.2.1 hR ht
  have k2 := kk ls hl
  simp only [List.map_cons] at k2 ⊢
  rw [m_tr_x _ (show a - 38 < 0 by omega)]
  unfold m_sl at hi
  have e : m_tr Y.1 (m_i (m_sc a (m_w i))) = .int ((m_sbyt.getD (-a - 2).toNat []).getD (Int32.ofInt i).toNatClampNeg 0) := by
    rw [m_tr_i, m_cl]
    show Value.int (Int32.ofInt (Int32.toInt _)) = _
    rw [Int32.ofInt_toInt]
  rw [e] at k2
  have hin : ¬ (Int32.ofInt i < 0 ∨ cell.slots.size ≤ (Int32.ofInt i).toNatClampNeg) := by
    rintro (q | q)
    · exact absurd ((m_neg i).mp q) (by omega)
    · rw [m_cl] at q; omega
  exact W.bald S.1 S.2.1 h1 h2 h3 hin (by rw [h6 _ (by rw [m_cl]; omega)]) rfl rfl hd k2
theorem ms_gcs (S : m_Std Y own cc) {index : Nat} (hw : Cond.fieldLink own index "java/lang/String" "COMPACT_STRINGS" "Z" ∈ m_big) (hd : decode cc pc = .ok (.getstatic index, 3)) (k1 : m_Sim Y (pc + 3) L (m_i 1 :: st) h T) : m_Sim Y pc L st h T := by
  refine m_pr S k1 (fun S H locs cells slots Q ls hR hl kk => ?_)
  obtain ⟨cf, kf, fi, f, a, cell, h1, h2, h3, h4, h5, h6, h7, h8⟩ := S.2.2.2.2.2.1.2.2.2.2.1
  have k2 := kk ls hl
  exact W.gets S.1 S.2.1 S.2.2.2.1 (S.2.2.2.2.1 _ hw) h1 h2 h3 h4 (by rw [hR.2.2.2 a (by omega)]; exact h5) (fun e => by rw [e] at h6; cases h6) h7 rfl hd k2
theorem ms_gsi (S : m_Std Y own cc) {index : Nat} (hw : Cond.fieldLink own index "jdk/internal/util/Preconditions" "SIOOBE_FORMATTER" "Ljava/util/function/BiFunction;" ∈ m_big) (hd : decode cc pc = .ok (.getstatic index, 3)) (k1 : ∀ x, m_Sim Y (pc + 3) L (m_r x :: st) h T) : m_Sim Y pc L st h T := by
  intro r h' hT
  obtain ⟨a1, b1, c1⟩ := k1 0 r h' hT
  obtain ⟨a2, b2, c2⟩ := k1 (-30) r h' hT
  refine ⟨a1, b1, fun hf H locs cells slots cE sE ls hR hl hL hcc hcs hcE hsE hcR hsR => ?_⟩
  have S := S hf
  rcases S.2.2.2.2.2.1.2.2.2.2.2.1 with ⟨cf, kf, fi, f, a, cell, h1, h2, h3, h4, h5, h6, h7, h8⟩ | ⟨cf, kf, fi, f, a, cell, h1, h2, h3, h4, h5, h6, h7, h8⟩
  · exact W.gets S.1 S.2.1 S.2.2.2.1 (S.2.2.2.2.1 _ hw) h1 h2 h3 h4 (by rw [hR.2.2.2 a (by omega)]; exact h5) (fun e => by rw [e] at h6; cases h6) h7 rfl hd (c1 hf H locs cells slots cE sE ls hR hl hL hcc hcs hcE hsE hcR hsR)
  · exact W.gets S.1 S.2.1 S.2.2.2.1 (S.2.2.2.2.1 _ hw) h1 h2 h3 h4 (by rw [hR.2.2.2 a (by omega)]; exact h5) (fun e => by rw [e] at h6; cases h6) h7 rfl hd (c2 hf H locs cells slots cE sE ls hR hl hL hcc hcs hcE hsE hcR hsR)
/-- one answer, of whatever kind of int -/
theorem ms_retn {Y : m_Y Int} (S : m_Std Y own cc) {ty : FieldType} (hr : Y.2.2.2.2.2 → Y.2.1.2.2.2.2.2.2.2.2.1.sig.returnType = some ty ∧ Y.2.1.2.2.2.2.2.2.2.2.1.locks = false)
    (hfin : Y.2.2.2.2.1 = fun r h cells slots => MQ Y.2.1.2.2.2.2.2.2.2.1 (fun _ _ o t => o = .returned (some (m_tr Y.1 (m_i r))) ∧ m_R Y.1 h t.heap) Y.2.1.2.2.2.2.2.2.1 Y.2.1.2.2.2.2.1 cells slots (fun q => Y.1.1 ≤ q)) {x : Int} (hn : narrow ty (.int (Int32.ofInt x)) = .int (Int32.ofInt x)) (hd : decode cc pc = .ok (.ireturn, 1)) : m_Sim Y pc L [m_i x] h (some (x, h)) := by
  intro r' h' e
  cases e
  refine ⟨Int.le_refl _, Int.le_refl _, fun hf H locs cells slots cE sE ls hR hl h1 h2 h3 h4 h5 h6 h7 => ?_⟩
  have e1 : cE = cells := by omega
  have e2 : sE = slots := by omega
  subst e1; subst e2
  rw [hfin]
  exact W.zret (S hf).1 (S hf).2.1 (hr hf).1 hn (fun t ht _ => ⟨rfl, by rw [ht]; exact hR⟩) h1 hd (hlocks := (hr hf).2)
/-- a call whose answer is known; the heap stays -/
theorem ms_kn {α : Type} {v : α × m_H} (k : m_Sim Y pc L st h (some v >>= fun q => @ite _ (q = v) (Classical.propDecidable _) T none)) : m_Sim Y pc L st h T := by
  have e : (some v >>= fun q => @ite _ (q = v) (Classical.propDecidable _) T none) = T := by
    show @ite _ (v = v) (Classical.propDecidable _) T none = T
    exact if_pos rfl
  rw [e] at k
  exact k
theorem ms_k2 {α : Type} {v : α × m_H} {r : α} {h1 : m_H} (k : v.1 = r → v.2 = h1 → m_Sim Y pc L st h1 T) : m_Sim Y pc L st h1 (@ite _ ((r, h1) = v) (Classical.propDecidable _) T none) := by
  by_cases e : (r, h1) = v
  · have e2 : @ite _ ((r, h1) = v) (Classical.propDecidable _) T none = T := if_pos e
    rw [e2]
    exact k (by rw [← e]) (by rw [← e])
  · have e2 : @ite _ ((r, h1) = v) (Classical.propDecidable _) T none = none := if_neg e
    rw [e2]
    exact ms_none
end m_texts
set_option maxRecDepth 100000 in
theorem eJ0_coder_7d493 : ∀ q ∈ ([(0, .getstatic 38, 3), (3, .ifCond .eq 10, 3), (6, .aload_n 0, 1), (7, .getfield 15, 3), (10, .goto 4, 3), (13, .iconst 1, 1), (14, .ireturn, 1)] : List (Nat × Instr × Nat)), decode cJ0_coder_7d493 q.1 = .ok q.2 := by decide +kernel
set_option maxRecDepth 100000 in
theorem eJ0_isLatin1_aae02 : ∀ q ∈ ([(0, .getstatic 38, 3), (3, .ifCond .eq 14, 3), (6, .aload_n 0, 1), (7, .getfield 15, 3), (10, .ifCond .ne 7, 3), (13, .iconst 1, 1), (14, .goto 4, 3), (17, .iconst 0, 1), (18, .ireturn, 1)] : List (Nat × Instr × Nat)), decode cJ0_isLatin1_aae02 q.1 = .ok q.2 := by decide +kernel
set_option maxRecDepth 100000 in
theorem eJ0_length_8abf5 : ∀ q ∈ ([(0, .aload_n 0, 1), (1, .getfield 9, 3), (4, .arraylength, 1), (5, .aload_n 0, 1), (6, .invokevirtual 335, 3), (9, .ishr, 1), (10, .ireturn, 1)] : List (Nat × Instr × Nat)), decode cJ0_length_8abf5 q.1 = .ok q.2 := by decide +kernel
set_option maxRecDepth 100000 in
theorem eJ3_checkIndex_8e157 : ∀ q ∈ ([(0, .iload_n 0, 1), (1, .ifCond .lt 8, 3), (4, .iload_n 0, 1), (5, .iload_n 1, 1), (6, .if_icmp .lt 10, 3), (9, .aload_n 2, 1), (10, .iload_n 0, 1), (11, .iload_n 1, 1), (12, .invokestatic 95, 3), (15, .athrow, 1), (16, .iload_n 0, 1), (17, .ireturn, 1)] : List (Nat × Instr × Nat)), decode cJ3_checkIndex_8e157 q.1 = .ok q.2 := by decide +kernel
set_option maxRecDepth 100000 in
theorem eJ0_checkIndex_df160 : ∀ q ∈ ([(0, .iload_n 0, 1), (1, .iload_n 1, 1), (2, .getstatic 1053, 3), (5, .invokestatic 1059, 3), (8, .pop, 1), (9, .return_, 1)] : List (Nat × Instr × Nat)), decode cJ0_checkIndex_df160 q.1 = .ok q.2 := by decide +kernel
set_option maxRecDepth 100000 in
theorem eJ1_charAt_3b067 : ∀ q ∈ ([(0, .iload_n 1, 1), (1, .aload_n 0, 1), (2, .arraylength, 1), (3, .invokestatic 9, 3), (6, .aload_n 0, 1), (7, .iload_n 1, 1), (8, .baload, 1), (9, .sipush 255, 3), (12, .iand, 1), (13, .i2c, 1), (14, .ireturn, 1)] : List (Nat × Instr × Nat)), decode cJ1_charAt_3b067 q.1 = .ok q.2 := by decide +kernel
set_option maxRecDepth 100000 in
theorem eJ0_charAt_5068e : ∀ q ∈ ([(0, .aload_n 0, 1), (1, .invokevirtual 492, 3), (4, .ifCond .eq 12, 3), (7, .aload_n 0, 1), (8, .getfield 9, 3), (11, .iload_n 1, 1), (12, .invokestatic 495, 3), (15, .ireturn, 1), (16, .aload_n 0, 1), (17, .getfield 9, 3), (20, .iload_n 1, 1), (21, .invokestatic 498, 3), (24, .ireturn, 1)] : List (Nat × Instr × Nat)), decode cJ0_charAt_5068e q.1 = .ok q.2 := by decide +kernel
theorem m_i_w1 {d : m_D} {x y : Int} (h : m_w x = m_w y) : m_tr d (m_i x) = m_tr d (m_i y) := by
  rw [m_tr_i, m_tr_i, ← m_i_w x, h, m_i_w]
theorem m_scb {a i : Int} (ht : -26 ≤ a ∧ a ≤ -2) (hi : 0 ≤ i ∧ i < m_sl a) : 0 ≤ m_sc a i ∧ m_sc a i < 128 := by
  have key : ∀ k, k < 25 → ∀ j, j < m_slen.getD k 0 → 0 ≤ ((m_sbyt.getD k []).getD j 0).toInt ∧ ((m_sbyt.getD k []).getD j 0).toInt < 128 := by decide +kernel
  unfold m_sl at hi
  exact key _ (by omega) _ (by omega)
theorem m_slb (a : Int) : 0 ≤ m_sl a ∧ m_sl a < 200 := by
  have key : ∀ k, k < 26 → m_slen.getD k 0 < 200 := by decide +kernel
  unfold m_sl
  by_cases q : (-a - 2).toNat < 26
  · have := key _ q
    omega
  · have e : m_slen.getD (-a - 2).toNat 0 = 0 := by
      have z : m_slen.length = 25 := by decide +kernel
      rw [List.getD_eq_getElem?_getD, List.getElem?_eq_none (by omega)]; rfl
    rw [e]; omega

theorem kJ0_coder_7d493 (l : Launch) (d : m_D) (a : Int) (ht : -26 ≤ a ∧ a ≤ -2) (h : m_H) : m_Con l d yJ0_coder_7d493 cJ0_coder_7d493 1 (some .byte) 0 (fun r => [m_i r]) [m_r a] h (some ((0 : Int), h)) := by
  refine m_con2 (by decide +kernel) (Nat.le_of_ble_eq_true rfl) (fun Y hN hRm hr hI S hfin => ?_)
  refine ms_gcs (own := RJ0) (cc := cJ0_coder_7d493) (pc := 0) S (m_big_mem (i := 886) (by decide +kernel) (by decide +kernel)) (m_dec eJ0_coder_7d493 0 rfl) ?_
  have k1 : m_Sim Y (0 + 3 + 3) (m_args 0 [m_r a]) [] h (some ((0 : Int), h)) := by
    refine ms_aload_n (pc := 6) S 0 rfl rfl (m_dec eJ0_coder_7d493 2 rfl) ?_
    refine ms_tcod (pc := 7) S (m_big_mem (i := 2232) (by decide +kernel) (by decide +kernel)) ht (m_dec eJ0_coder_7d493 3 rfl) ?_
    refine ms_goto (pc := 10) S (m_dec eJ0_coder_7d493 4 rfl) rfl ?_
    exact ms_retn (pc := 14) S hr hfin rfl (m_dec eJ0_coder_7d493 6 rfl)
  have := ms_if_eq (own := RJ0) (pc := 3) (a := 1) (tgt := 13) (T1 := none) S (m_dec eJ0_coder_7d493 1 rfl) rfl (fun _ => ms_none) (fun _ => k1)
  rw [if_neg (by decide)] at this
  exact this
theorem kJ0_isLatin1_aae02 (l : Launch) (d : m_D) (a : Int) (ht : -26 ≤ a ∧ a ≤ -2) (h : m_H) : m_Con l d yJ0_isLatin1_aae02 cJ0_isLatin1_aae02 1 (some .boolean) 0 (fun r => [m_i (m_b2i r)]) [m_r a] h (some (true, h)) := by
  refine m_con2 (by decide +kernel) (Nat.le_of_ble_eq_true rfl) (fun Y hN hRm hr hI S hfin => ?_)
  refine ms_gcs (own := RJ0) (cc := cJ0_isLatin1_aae02) (pc := 0) S (m_big_mem (i := 886) (by decide +kernel) (by decide +kernel)) (m_dec eJ0_isLatin1_aae02 0 rfl) ?_
  have k1 : m_Sim Y (0 + 3 + 3) (m_args 0 [m_r a]) [] h (some (true, h)) := by
    refine ms_aload_n (pc := 6) S 0 rfl rfl (m_dec eJ0_isLatin1_aae02 2 rfl) ?_
    refine ms_tcod (pc := 7) S (m_big_mem (i := 2232) (by decide +kernel) (by decide +kernel)) ht (m_dec eJ0_isLatin1_aae02 3 rfl) ?_
    have k2 : m_Sim Y (10 + 3) (m_args 0 [m_r a]) [] h (some (true, h)) := by
      refine ms_iconst (pc := 13) S (m_dec eJ0_isLatin1_aae02 5 rfl) ?_
      refine ms_goto (pc := 14) S (m_dec eJ0_isLatin1_aae02 6 rfl) rfl ?_
      exact ms_ret (pc := 18) (m_end_z S hr hfin) (m_dec eJ0_isLatin1_aae02 8 rfl) rfl
    have := ms_if_ne (own := RJ0) (pc := 10) (a := 0) (tgt := 17) (T2 := none) S (m_dec eJ0_isLatin1_aae02 4 rfl) rfl (fun _ => k2) (fun _ => ms_none)
    rw [if_pos (by decide)] at this
    exact this
  have := ms_if_eq (own := RJ0) (pc := 3) (a := 1) (tgt := 17) (T1 := none) S (m_dec eJ0_isLatin1_aae02 1 rfl) rfl (fun _ => ms_none) (fun _ => k1)
  rw [if_neg (by decide)] at this
  exact this
theorem m_shr0 {x : Int} : Int32.ofInt (m_shr x 0) = Int32.ofInt x := by
  unfold m_shr
  rw [show Int32.ofInt 0 &&& 31 = 0 by decide, Int32.ofInt_toInt, Int32.shiftRight_zero]
theorem lm_t1 : m_MV RJ0 335 yJ0_coder_7d493 cJ0_coder_7d493 1 (some .byte) 0 := ⟨⟨Or.inl (m_big_mem (i := 882) (by decide +kernel) (by decide +kernel)), (m_big_mem (i := 140) (by decide +kernel) (by decide +kernel)), (m_big_mem (i := 885) (by decide +kernel) (by decide +kernel)), by decide +kernel, by decide⟩, (m_big_mem (i := 883) (by decide +kernel) (by decide +kernel)), (m_big_mem (i := 884) (by decide +kernel) (by decide +kernel))⟩
theorem kJ0_length_8abf5 (l : Launch) (d : m_D) (a : Int) (ht : -26 ≤ a ∧ a ≤ -2) (h : m_H) : m_Con l d yJ0_length_8abf5 cJ0_length_8abf5 1 (some .int) 1 (fun r => [m_i r]) [m_r a] h (some (m_sl a, h)) := by
  refine m_con2 (by decide +kernel) (Nat.le_of_ble_eq_true rfl) (fun Y hN hRm hr hI S hfin => ?_)
  refine ms_aload_n (own := RJ0) (cc := cJ0_length_8abf5) (pc := 0) S 0 rfl rfl (m_dec eJ0_length_8abf5 0 rfl) ?_
  refine ms_tval (pc := 1) S (m_big_mem (i := 2231) (by decide +kernel) (by decide +kernel)) ht (m_dec eJ0_length_8abf5 1 rfl) ?_
  refine ms_tlen (pc := 4) S ht (m_dec eJ0_length_8abf5 2 rfl) ?_
  refine ms_aload_n (pc := 5) S 0 rfl rfl (m_dec eJ0_length_8abf5 3 rfl) ?_
  refine ms_kn (v := ((0 : Int), h)) ?_
  refine ms_callTi (pc := 6) S hRm (vals := []) (st := [m_i (m_sl a)]) (hcy := rfl) (ht := ht) (hC := kJ0_coder_7d493 _ _ a ht h) (hM := lm_t1) (hfr := Nat.le_refl _) (hstk := rfl) (hcat := Nat.le_of_ble_eq_true rfl) (hd := (m_dec eJ0_length_8abf5 4 rfl)) (k1 := fun r h1 => ?_)
  refine ms_k2 (v := ((0 : Int), h)) fun e1 e2 => ?_
  subst e1; subst e2
  refine ms_ishr (pc := 9) S (m_dec eJ0_length_8abf5 5 rfl) ?_
  have E := ms_ret (pc := 10) (L := m_args 0 [m_r a]) (h := h) (m_end_i S hr hfin) (m_dec eJ0_length_8abf5 6 rfl) (rfl : _ = [m_i (m_sl a)])
  unfold m_Sim at E ⊢
  simp only [List.map_cons, List.map_nil, m_tr_i, m_shr0] at E ⊢
  exact E
theorem kJ3_checkIndex_8e157 (l : Launch) (d : m_D) (i n x : Int) (hi : 0 ≤ m_w i ∧ m_w i < m_w n) (h : m_H) : m_Con l d yJ3_checkIndex_8e157 cJ3_checkIndex_8e157 3 (some .int) 0 (fun r => [m_i r]) [m_i i, m_i n, m_r x] h (some (i, h)) := by
  refine m_con2 (by decide +kernel) (Nat.le_of_ble_eq_true rfl) (fun Y hN hRm hr hI S hfin => ?_)
  refine ms_iload_n (own := RJ3) (cc := cJ3_checkIndex_8e157) (pc := 0) S 0 rfl rfl (m_dec eJ3_checkIndex_8e157 0 rfl) ?_
  have k1 : m_Sim Y (1 + 3) (m_args 0 [m_i i, m_i n, m_r x]) [] h (some (i, h)) := by
    refine ms_iload_n (pc := 4) S 0 rfl rfl (m_dec eJ3_checkIndex_8e157 2 rfl) ?_
    refine ms_iload_n (pc := 5) S 1 rfl rfl (m_dec eJ3_checkIndex_8e157 3 rfl) ?_
    have k2 : m_Sim Y 16 (m_args 0 [m_i i, m_i n, m_r x]) [] h (some (i, h)) := by
      refine ms_iload_n (pc := 16) S 0 rfl rfl (m_dec eJ3_checkIndex_8e157 10 rfl) ?_
      exact ms_ret (pc := 17) (m_end_i S hr hfin) (m_dec eJ3_checkIndex_8e157 11 rfl) rfl
    have := ms_icmp_lt (own := RJ3) (pc := 6) (a := i) (b := n) (tgt := 16) (T2 := none) S (m_dec eJ3_checkIndex_8e157 4 rfl) rfl (fun _ => k2) (fun _ => ms_none)
    rw [if_pos hi.2] at this
    exact this
  have := ms_if_lt (own := RJ3) (pc := 1) (a := i) (tgt := 9) (T1 := none) S (m_dec eJ3_checkIndex_8e157 1 rfl) rfl (fun _ => ms_none) (fun _ => k1)
  rw [if_neg (by omega)] at this
  exact this
theorem lm_t2 : m_MS RJ0 1059 yJ3_checkIndex_8e157 cJ3_checkIndex_8e157 3 (some .int) 3 := ⟨⟨Or.inl (m_big_mem (i := 904) (by decide +kernel) (by decide +kernel)), (m_big_mem (i := 142) (by decide +kernel) (by decide +kernel)), (m_big_mem (i := 906) (by decide +kernel) (by decide +kernel)), by decide +kernel, by decide⟩, (m_big_mem (i := 905) (by decide +kernel) (by decide +kernel))⟩
theorem kJ0_checkIndex_df160 (l : Launch) (d : m_D) (i n : Int) (hi : 0 ≤ m_w i ∧ m_w i < m_w n) (h : m_H) : m_Con l d yJ0_checkIndex_df160 cJ0_checkIndex_df160 2 none 1 (fun _ => []) [m_i i, m_i n] h (some ((), h)) := by
  refine m_con2 (by decide +kernel) (Nat.le_of_ble_eq_true rfl) (fun Y hN hRm hr hI S hfin => ?_)
  refine ms_iload_n (own := RJ0) (cc := cJ0_checkIndex_df160) (pc := 0) S 0 rfl rfl (m_dec eJ0_checkIndex_df160 0 rfl) ?_
  refine ms_iload_n (pc := 1) S 1 rfl rfl (m_dec eJ0_checkIndex_df160 1 rfl) ?_
  refine ms_gsi (pc := 2) S (m_big_mem (i := 902) (by decide +kernel) (by decide +kernel)) (m_dec eJ0_checkIndex_df160 2 rfl) fun x => ?_
  refine ms_kn (v := (i, h)) ?_
  refine ms_callSi (pc := 5) S hRm (vals := [m_i i, m_i n, m_r x]) (st := []) (hC := kJ3_checkIndex_8e157 _ _ i n x hi h) (hM := lm_t2) (hfr := Nat.le_refl _) (hstk := rfl) (hcat := Nat.le_of_ble_eq_true rfl) (hd := (m_dec eJ0_checkIndex_df160 3 rfl)) (k1 := fun r h1 => ?_)
  refine ms_k2 (v := (i, h)) fun e1 e2 => ?_
  subst e1; subst e2
  refine ms_pop (pc := 8) S rfl (m_dec eJ0_checkIndex_df160 4 rfl) ?_
  exact ms_ret (pc := 9) (m_end_v S hr hfin) (m_dec eJ0_checkIndex_df160 5 rfl) rfl
def m_i2c (x : Int) : Int := ((Int32.ofInt x).toUInt32 % 65536).toInt32.toInt
theorem ms_i2c {ρ : Type} {Y : m_Y ρ} {own : String} {cc : ByteArray} (S : m_Std Y own cc) {pc : Nat} {L : List (Nat × m_V)} {st : List m_V} {h : m_H} {T : Option (ρ × m_H)} {a : Int} (hd : decode cc pc = .ok (.i2c, 1)) (k : m_Sim Y (pc + 1) L (m_i (m_i2c a) :: st) h T) : m_Sim Y pc L (m_i a :: st) h T := by
  refine m_pu S k (fun S H locs cells slots Q ls hl kk => ?_)
  have k2 := kk ls hl
  simp only [List.map_cons, m_tr_i] at k2 ⊢
  rw [show Int32.ofInt (m_i2c a) = ((Int32.ofInt a).toUInt32 % 65536).toInt32 from Int32.ofInt_toInt _] at k2
  exact lv_i2c S.1 S.2.1 hd rfl k2
theorem m_ch {x : Int} (hx : 0 ≤ x ∧ x < 128) : Int32.ofInt (m_i2c (m_and x 255)) = Int32.ofInt x ∧ narrow .char (.int (Int32.ofInt x)) = .int (Int32.ofInt x) := by
  have key : ∀ k : Nat, k < 128 → Int32.ofInt (m_i2c (m_and (k : Int) 255)) = Int32.ofInt (k : Int) ∧ narrow .char (.int (Int32.ofInt (k : Int))) = .int (Int32.ofInt (k : Int)) := by decide +kernel
  have := key x.toNat (by omega)
  rw [show ((x.toNat : Nat) : Int) = x by omega] at this
  exact this
theorem lm_t3 : m_MS RJ1 9 yJ0_checkIndex_df160 cJ0_checkIndex_df160 2 none 2 := ⟨⟨Or.inl (m_big_mem (i := 899) (by decide +kernel) (by decide +kernel)), (m_big_mem (i := 140) (by decide +kernel) (by decide +kernel)), (m_big_mem (i := 901) (by decide +kernel) (by decide +kernel)), by decide +kernel, by decide⟩, (m_big_mem (i := 900) (by decide +kernel) (by decide +kernel))⟩
theorem kJ1_charAt_3b067 (l : Launch) (d : m_D) (a i : Int) (ht : -26 ≤ a ∧ a ≤ -2) (hi : 0 ≤ m_w i ∧ m_w i < m_sl a) (h : m_H) : m_Con l d yJ1_charAt_3b067 cJ1_charAt_3b067 2 (some .char) 2 (fun r => [m_i r]) [m_r (a - 38), m_i i] h (some (m_sc a (m_w i), h)) := by
  have hb := m_slb a
  have hw : m_w (m_sl a) = m_sl a := m_w_of (by omega) (by omega)
  refine m_con2 (by decide +kernel) (Nat.le_of_ble_eq_true rfl) (fun Y hN hRm hr hI S hfin => ?_)
  refine ms_iload_n (own := RJ1) (cc := cJ1_charAt_3b067) (pc := 0) S 1 rfl rfl (m_dec eJ1_charAt_3b067 0 rfl) ?_
  refine ms_aload_n (pc := 1) S 0 rfl rfl (m_dec eJ1_charAt_3b067 1 rfl) ?_
  refine ms_tlen (pc := 2) S ht (m_dec eJ1_charAt_3b067 2 rfl) ?_
  refine ms_kn (v := ((), h)) ?_
  refine ms_callSv (pc := 3) S hRm (vals := [m_i i, m_i (m_sl a)]) (st := []) (hC := kJ0_checkIndex_df160 _ _ i (m_sl a) (by rw [hw]; exact hi) h) (hM := lm_t3) (hfr := Nat.le_refl _) (hstk := rfl) (hcat := Nat.le_of_ble_eq_true rfl) (hd := (m_dec eJ1_charAt_3b067 3 rfl)) (k1 := fun h1 => ?_)
  refine ms_k2 (v := ((), h)) fun e1 e2 => ?_
  subst e2
  refine ms_aload_n (pc := 6) S 0 rfl rfl (m_dec eJ1_charAt_3b067 4 rfl) ?_
  refine ms_iload_n (pc := 7) S 1 rfl rfl (m_dec eJ1_charAt_3b067 5 rfl) ?_
  refine ms_tat (pc := 8) S ht hi (m_dec eJ1_charAt_3b067 6 rfl) ?_
  refine ms_sipush (pc := 9) S (m_dec eJ1_charAt_3b067 7 rfl) rfl ?_
  refine ms_iand (pc := 12) S (m_dec eJ1_charAt_3b067 8 rfl) ?_
  refine ms_i2c (pc := 13) S (m_dec eJ1_charAt_3b067 9 rfl) ?_
  have hch := m_ch (m_scb ht hi)
  have E := ms_retn (pc := 14) (L := m_args 0 [m_r (a - 38), m_i i]) (h := h) (own := RJ1) S hr hfin hch.2 (m_dec eJ1_charAt_3b067 10 rfl)
  unfold m_Sim at E ⊢
  simp only [List.map_cons, List.map_nil, m_tr_i] at E ⊢
  rw [show Int32.ofInt (m_i2c (m_and (m_sc a (m_w i)) 255)) = Int32.ofInt (m_sc a (m_w i)) from hch.1]
  exact E
theorem lm_t4 : m_MV RJ0 492 yJ0_isLatin1_aae02 cJ0_isLatin1_aae02 1 (some .boolean) 0 := ⟨⟨Or.inl (m_big_mem (i := 892) (by decide +kernel) (by decide +kernel)), (m_big_mem (i := 140) (by decide +kernel) (by decide +kernel)), (m_big_mem (i := 895) (by decide +kernel) (by decide +kernel)), by decide +kernel, by decide⟩, (m_big_mem (i := 893) (by decide +kernel) (by decide +kernel)), (m_big_mem (i := 894) (by decide +kernel) (by decide +kernel))⟩
theorem lm_t5 : m_MS RJ0 495 yJ1_charAt_3b067 cJ1_charAt_3b067 2 (some .char) 2 := ⟨⟨Or.inl (m_big_mem (i := 896) (by decide +kernel) (by decide +kernel)), (m_big_mem (i := 141) (by decide +kernel) (by decide +kernel)), (m_big_mem (i := 898) (by decide +kernel) (by decide +kernel)), by decide +kernel, by decide⟩, (m_big_mem (i := 897) (by decide +kernel) (by decide +kernel))⟩
theorem kJ0_charAt_5068e (l : Launch) (d : m_D) (a i : Int) (ht : -26 ≤ a ∧ a ≤ -2) (hi : 0 ≤ m_w i ∧ m_w i < m_sl a) (h : m_H) : m_Con l d yJ0_charAt_5068e cJ0_charAt_5068e 2 (some .char) 3 (fun r => [m_i r]) [m_r a, m_i i] h (some (m_sc a (m_w i), h)) := by
  refine m_con2 (by decide +kernel) (Nat.le_of_ble_eq_true rfl) (fun Y hN hRm hr hI S hfin => ?_)
  refine ms_aload_n (own := RJ0) (cc := cJ0_charAt_5068e) (pc := 0) S 0 rfl rfl (m_dec eJ0_charAt_5068e 0 rfl) ?_
  refine ms_kn (v := (true, h)) ?_
  refine ms_callTz (pc := 1) S hRm (vals := []) (st := []) (hcy := rfl) (ht := ht) (hC := kJ0_isLatin1_aae02 _ _ a ht h) (hM := lm_t4) (hfr := by decide) (hstk := rfl) (hcat := Nat.le_of_ble_eq_true rfl) (hd := (m_dec eJ0_charAt_5068e 1 rfl)) (k1 := fun r h1 => ?_)
  refine ms_k2 (v := (true, h)) fun e1 e2 => ?_
  subst e1; subst e2
  have k1 : m_Sim Y (4 + 3) (m_args 0 [m_r a, m_i i]) [] h (some (m_sc a (m_w i), h)) := by
    refine ms_aload_n (pc := 7) S 0 rfl rfl (m_dec eJ0_charAt_5068e 3 rfl) ?_
    refine ms_tval (pc := 8) S (m_big_mem (i := 2231) (by decide +kernel) (by decide +kernel)) ht (m_dec eJ0_charAt_5068e 4 rfl) ?_
    refine ms_iload_n (pc := 11) S 1 rfl rfl (m_dec eJ0_charAt_5068e 5 rfl) ?_
    refine ms_kn (v := (m_sc a (m_w i), h)) ?_
    refine ms_callSi (pc := 12) S hRm (vals := [m_r (a - 38), m_i i]) (st := []) (hC := kJ1_charAt_3b067 _ _ a i ht hi h) (hM := lm_t5) (hfr := by decide) (hstk := rfl) (hcat := Nat.le_of_ble_eq_true rfl) (hd := (m_dec eJ0_charAt_5068e 6 rfl)) (k1 := fun r h1 => ?_)
    refine ms_k2 (v := (m_sc a (m_w i), h)) fun e1 e2 => ?_
    subst e1; subst e2
    exact ms_retn (pc := 15) (own := RJ0) S hr hfin (m_ch (m_scb ht hi)).2 (m_dec eJ0_charAt_5068e 7 rfl)
  have := ms_if_eq (own := RJ0) (pc := 4) (a := m_b2i true) (tgt := 16) (T1 := none) S (m_dec eJ0_charAt_5068e 2 rfl) rfl (fun _ => ms_none) (fun _ => k1)
  rw [if_neg (by decide)] at this
  exact this
