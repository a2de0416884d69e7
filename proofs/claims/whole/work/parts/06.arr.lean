/-! ROWS, ONE AN INSTRUCTION: arrays, and the ends -/
theorem m_cl (i : Int) : (Int32.ofInt i).toNatClampNeg = (m_w i).toNat := by
  show (Int32.ofInt i).toInt.toNat = _
  rw [m_w_i]
theorem m_neg (i : Int) : Int32.ofInt i < 0 ↔ m_w i < 0 := by
  rw [show (0 : Int32) = Int32.ofInt 0 from rfl, m_lt_iff]; rfl
theorem m_inx {i n : Int} (h0 : 0 ≤ m_w i) (h1 : m_w i < n) (cA : ClassId) (f : Nat → Value) : ¬ (Int32.ofInt i < 0 ∨ (arrV cA n.toNat f).slots.size ≤ (Int32.ofInt i).toNatClampNeg) := by
  rw [arrV_size, m_cl, m_neg]
  omega
theorem m_rd {i n : Int} (h0 : 0 ≤ m_w i) (h1 : m_w i < n) (cA : ClassId) (f : Nat → Value) : (arrV cA n.toNat f).slots[(Int32.ofInt i).toNatClampNeg]? = some (f (m_w i).toNat) := by
  rw [m_cl, arrV_read]
  omega
/-- the class of an array -/
theorem m_acl {d : m_D} {U : State} (hg : m_glob d U) (k : Nat) {c : ClassId} {ty : FieldType} (hk : (m_tys d.2.2.2.1)[k]? = some (c, ty)) : ArrOfT U c ty ∧ va_RA U c ty := hg.1.2 k (c, ty) hk
section m_arrays
variable {ρ : Type} {Y : m_Y ρ} {own : String} {cc : ByteArray} {pc : Nat} {L : List (Nat × m_V)} {st : List m_V} {h : m_H} {T : Option (ρ × m_H)} {f : m_H → Option (ρ × m_H)} {a i x n : Int}
theorem ms_iald (S : m_Std Y own cc) (hc : m_t h a = 20 ∧ 0 ≤ m_w i ∧ m_w i < m_l h a) (hd : decode cc pc = .ok (.iaload, 1)) (k1 : m_Sim Y (pc + 1) L (m_i (m_g h a (m_w i)) :: st) h T) : m_Sim Y pc L (m_i i :: m_r a :: st) h T := by
  obtain ⟨ht, h0, h1⟩ := hc
  refine m_pr S k1 (fun S H locs cells slots Q ls hR hl kk => ?_)
  obtain ⟨-, -, q1⟩ := m_arr hR (t := 20) (by omega) ht
  have hlt := m_ad_lt hR (a := a) (by omega)
  have k2 := kk ls hl
  simp only [List.map_cons, m_tr_r (show a ≠ 0 by omega)] at k2 ⊢
  refine W.iald S.1 S.2.1 q1 ((m_acl S.2.2.2.2.2.1 0 rfl).1 _ _) (fun q => by cases q) (m_inx h0 h1 _ _) (m_rd h0 h1 _ _) rfl rfl hd ?_
  rw [show (((m_w i).toNat : Nat) : Int) = m_w i by omega]
  exact k2
theorem ms_lald (S : m_Std Y own cc) (hc : m_t h a = 21 ∧ 0 ≤ m_w i ∧ m_w i < m_l h a) (hd : decode cc pc = .ok (.laload, 1)) (k1 : m_Sim Y (pc + 1) L (m_j (m_g h a (m_w i)) :: st) h T) : m_Sim Y pc L (m_i i :: m_r a :: st) h T := by
  obtain ⟨ht, h0, h1⟩ := hc
  refine m_pr S k1 (fun S H locs cells slots Q ls hR hl kk => ?_)
  obtain ⟨-, -, q1⟩ := m_arr hR (t := 21) (by omega) ht
  have hlt := m_ad_lt hR (a := a) (by omega)
  have k2 := kk ls hl
  simp only [List.map_cons, m_tr_r (show a ≠ 0 by omega)] at k2 ⊢
  refine W.lald S.1 S.2.1 q1 ((m_acl S.2.2.2.2.2.1 1 rfl).1 _ _) (fun q => by cases q) (m_inx h0 h1 _ _) (m_rd h0 h1 _ _) rfl rfl hd ?_
  rw [show (((m_w i).toNat : Nat) : Int) = m_w i by omega]
  exact k2
theorem ms_bald (S : m_Std Y own cc) (hc : m_t h a = 22 ∧ 0 ≤ m_w i ∧ m_w i < m_l h a) (hd : decode cc pc = .ok (.baload, 1)) (k1 : m_Sim Y (pc + 1) L (m_i (m_g h a (m_w i)) :: st) h T) : m_Sim Y pc L (m_i i :: m_r a :: st) h T := by
  obtain ⟨ht, h0, h1⟩ := hc
  refine m_pr S k1 (fun S H locs cells slots Q ls hR hl kk => ?_)
  obtain ⟨-, -, q1⟩ := m_arr hR (t := 22) (by omega) ht
  have hlt := m_ad_lt hR (a := a) (by omega)
  have k2 := kk ls hl
  simp only [List.map_cons, m_tr_r (show a ≠ 0 by omega)] at k2 ⊢
  refine W.bald S.1 S.2.1 q1 ((m_acl S.2.2.2.2.2.1 2 rfl).1 _ _) (fun q => by cases q) (m_inx h0 h1 _ _) (m_rd h0 h1 _ _) rfl rfl hd ?_
  rw [show (((m_w i).toNat : Nat) : Int) = m_w i by omega]
  exact k2
theorem ms_zald (S : m_Std Y own cc) (hc : m_t h a = 23 ∧ 0 ≤ m_w i ∧ m_w i < m_l h a) (hd : decode cc pc = .ok (.baload, 1)) (k1 : m_Sim Y (pc + 1) L (m_i (m_g h a (m_w i)) :: st) h T) : m_Sim Y pc L (m_i i :: m_r a :: st) h T := by
  obtain ⟨ht, h0, h1⟩ := hc
  refine m_pr S k1 (fun S H locs cells slots Q ls hR hl kk => ?_)
  obtain ⟨-, -, q1⟩ := m_arr hR (t := 23) (by omega) ht
  have hlt := m_ad_lt hR (a := a) (by omega)
  have k2 := kk ls hl
  simp only [List.map_cons, m_tr_r (show a ≠ 0 by omega)] at k2 ⊢
  refine W.zald S.1 S.2.1 q1 ((m_acl S.2.2.2.2.2.1 3 rfl).1 _ _) (fun q => by cases q) (m_inx h0 h1 _ _) (m_rd h0 h1 _ _) rfl rfl hd ?_
  rw [show (((m_w i).toNat : Nat) : Int) = m_w i by omega]
  exact k2
theorem ms_aald (S : m_Std Y own cc) (t : Nat) (ht2 : 24 ≤ t ∧ t < 30) {ty : FieldType} (hk : ∀ cA, (m_tys cA)[t - 20]? = some (cA t, ty)) (hty : ty.isReference = true) (hc : m_t h a = t ∧ 0 ≤ m_w i ∧ m_w i < m_l h a) (hd : decode cc pc = .ok (.aaload, 1)) (k1 : m_Sim Y (pc + 1) L (m_r (m_g h a (m_w i)) :: st) h T) : m_Sim Y pc L (m_i i :: m_r a :: st) h T := by
  obtain ⟨ht, h0, h1⟩ := hc
  refine m_pr S k1 (fun S H locs cells slots Q ls hR hl kk => ?_)
  obtain ⟨-, -, q1⟩ := m_arr hR (t := t) (by omega) ht
  have hlt := m_ad_lt hR (a := a) (by omega)
  have k2 := kk ls hl
  simp only [List.map_cons, m_tr_r (show a ≠ 0 by omega)] at k2 ⊢
  refine W.aald S.1 S.2.1 q1 ((m_acl S.2.2.2.2.2.1 (t - 20) (hk _)).1 _ _) hty (fun q => by cases q) (m_inx h0 h1 _ _) (m_rd h0 h1 _ _) rfl rfl hd ?_
  rw [show (((m_w i).toNat : Nat) : Int) = m_w i by omega, show m_ek ((t : Nat) : Int) = 2 by unfold m_ek; rw [if_neg (by omega), if_neg (by omega)]]
  exact k2
theorem ms_alen (S : m_Std Y own cc) (ht : 20 ≤ m_t h a) (hd : decode cc pc = .ok (.arraylength, 1)) (k1 : m_Sim Y (pc + 1) L (m_i (m_l h a) :: st) h T) : m_Sim Y pc L (m_r a :: st) h T := by
  refine m_pr S k1 (fun S H locs cells slots Q ls hR hl kk => ?_)
  obtain ⟨t, ht2⟩ : ∃ t : Nat, m_t h a = t := ⟨(m_t h a).toNat, by omega⟩
  obtain ⟨l1, l2, q1⟩ := m_arr hR (t := t) (by omega) ht2
  have hlt := m_ad_lt hR (a := a) (by omega)
  have h30 := (hR.2.2.1 a (by omega)).2.2.2.1
  have k2 := kk ls hl
  simp only [List.map_cons, m_tr_r (show a ≠ 0 by omega)] at k2 ⊢
  have hz : ∀ c f, (arrV c (m_l h a).toNat f).slots.size.toInt32 = Int32.ofInt (m_l h a) := fun c f => by
    rw [arrV_size]
    exact (Int32.ofInt_eq_ofNat (n := (m_l h a).toNat)).symm.trans (congrArg Int32.ofInt (by omega))
  obtain ⟨ty, hty⟩ : ∃ ty, (m_tys Y.1.2.2.2.1)[t - 20]? = some (Y.1.2.2.2.1 t, ty) := by
    rcases (show t = 20 ∨ t = 21 ∨ t = 22 ∨ t = 23 ∨ t = 24 ∨ t = 25 ∨ t = 26 ∨ t = 27 ∨ t = 28 ∨ t = 29 by omega) with e | e | e | e | e | e | e | e | e | e <;> subst e <;> exact ⟨_, rfl⟩
  exact W.alen S.1 S.2.1 q1 ((m_acl S.2.2.2.2.2.1 (t - 20) hty).1 _ _) (hz _ _) rfl rfl hd k2
/-- what a store leaves -/
theorem m_ast {d : m_D} {H H1 : Heap} (hR : m_R d h H) {t : Nat} (h20 : 20 ≤ t) (ht : m_t h a = t) (h0 : 0 ≤ m_w i) {v : Value} (hv : v = m_tr d (m_ek t, x)) (e : H1[m_ad d a]? = some ((arrV (d.2.2.2.1 t) (m_l h a).toNat (fun j => m_tr d (m_ek t, m_g h a j))).setSlot (Int32.ofInt i).toNatClampNeg v)) (hz : H1.size = H.size) (ho : ∀ q, q ≠ m_ad d a → H1[q]? = H[q]?) : m_R d (m_p h a (m_w i) x) H1 := by
  obtain ⟨l1, l2, q1⟩ := m_arr hR (t := t) (by omega) ht
  refine hR.put (a := a) (by omega) (fun b => rfl) (fun b => rfl) (fun b j hb => by rw [m_g_p, if_neg (fun q => hb q.1)]) rfl hz ho ?_
  unfold m_at
  rw [m_t_p, m_l_p, ht, if_neg (by omega)]
  refine ⟨l1, l2, ?_⟩
  rw [e, arrV_store, m_cl]
  show some (arrV (d.2.2.2.1 t) _ _) = some (arrV (d.2.2.2.1 t) _ _)
  congr 2
  funext j
  unfold updV
  rw [m_g_p]
  by_cases hj : j = (m_w i).toNat
  · rw [if_pos hj, if_pos ⟨rfl, by omega⟩, hv]
  · rw [if_neg hj, if_neg (fun q => hj (by omega))]
theorem ms_iast (S : m_Std Y own cc) (hc : m_t h a = 20 ∧ 0 ≤ m_w i ∧ m_w i < m_l h a) (hd : decode cc pc = .ok (.iastore, 1)) (k1 : ∀ h1, m_Sim Y (pc + 1) L st h1 (f h1)) : m_Sim Y pc L (m_i x :: m_i i :: m_r a :: st) h (some (m_p h a (m_w i) x) >>= f) := by
  obtain ⟨ht, h0, h1⟩ := hc
  refine m_hp S (k1 (m_p h a (m_w i) x)) (Int.le_refl _) (Int.le_refl _) (fun hf S H locs cells slots cells1 slots1 Q ls hR hL hl hc1 hs1 hc2 hs2 kk => ?_)
  have ec : cells1 = cells := by rw [m_n_p] at hc1; omega
  have es : slots1 = slots := by rw [m_s_p] at hs1; omega
  subst ec; subst es
  obtain ⟨-, -, q1⟩ := m_arr hR (t := 20) (by omega) ht
  have hlt := m_ad_lt hR (a := a) (by omega)
  simp only [List.map_cons, m_tr_r (show a ≠ 0 by omega)]
  refine W.iast S.1 S.2.1 q1 ((m_acl S.2.2.2.2.2.1 0 rfl).1 _ _) (fun q => by cases q) (m_inx h0 h1 _ _) rfl rfl hd fun H1 e z oq => ?_
  refine kk H1 _ ls (m_ast hR (t := 20) (by omega) ht h0 rfl e z oq) (fun q hq => ?_) hl
  rcases List.mem_append.mp hq with h9 | h9
  · exact hL q h9
  · rw [List.mem_singleton.mp h9]; exact hlt.1
theorem ms_last (S : m_Std Y own cc) (hc : m_t h a = 21 ∧ 0 ≤ m_w i ∧ m_w i < m_l h a) (hd : decode cc pc = .ok (.lastore, 1)) (k1 : ∀ h1, m_Sim Y (pc + 1) L st h1 (f h1)) : m_Sim Y pc L (m_j x :: m_i i :: m_r a :: st) h (some (m_p h a (m_w i) x) >>= f) := by
  obtain ⟨ht, h0, h1⟩ := hc
  refine m_hp S (k1 (m_p h a (m_w i) x)) (Int.le_refl _) (Int.le_refl _) (fun hf S H locs cells slots cells1 slots1 Q ls hR hL hl hc1 hs1 hc2 hs2 kk => ?_)
  have ec : cells1 = cells := by rw [m_n_p] at hc1; omega
  have es : slots1 = slots := by rw [m_s_p] at hs1; omega
  subst ec; subst es
  obtain ⟨-, -, q1⟩ := m_arr hR (t := 21) (by omega) ht
  have hlt := m_ad_lt hR (a := a) (by omega)
  simp only [List.map_cons, m_tr_r (show a ≠ 0 by omega)]
  refine W.last S.1 S.2.1 q1 ((m_acl S.2.2.2.2.2.1 1 rfl).1 _ _) (fun q => by cases q) (m_inx h0 h1 _ _) rfl rfl hd fun H1 e z oq => ?_
  refine kk H1 _ ls (m_ast hR (t := 21) (by omega) ht h0 rfl e z oq) (fun q hq => ?_) hl
  rcases List.mem_append.mp hq with h9 | h9
  · exact hL q h9
  · rw [List.mem_singleton.mp h9]; exact hlt.1
theorem ms_bast (S : m_Std Y own cc) (hc : m_t h a = 22 ∧ 0 ≤ m_w i ∧ m_w i < m_l h a) (hd : decode cc pc = .ok (.bastore, 1)) (k1 : ∀ h1, m_Sim Y (pc + 1) L st h1 (f h1)) : m_Sim Y pc L (m_i x :: m_i i :: m_r a :: st) h (some (m_p h a (m_w i) (m_i2b x)) >>= f) := by
  obtain ⟨ht, h0, h1⟩ := hc
  refine m_hp S (k1 (m_p h a (m_w i) (m_i2b x))) (Int.le_refl _) (Int.le_refl _) (fun hf S H locs cells slots cells1 slots1 Q ls hR hL hl hc1 hs1 hc2 hs2 kk => ?_)
  have ec : cells1 = cells := by rw [m_n_p] at hc1; omega
  have es : slots1 = slots := by rw [m_s_p] at hs1; omega
  subst ec; subst es
  obtain ⟨-, -, q1⟩ := m_arr hR (t := 22) (by omega) ht
  have hlt := m_ad_lt hR (a := a) (by omega)
  simp only [List.map_cons, m_tr_r (show a ≠ 0 by omega)]
  refine W.bast S.1 S.2.1 q1 ((m_acl S.2.2.2.2.2.1 2 rfl).1 _ _) (fun q => by cases q) (m_inx h0 h1 _ _) rfl rfl hd fun H1 e z oq => ?_
  refine kk H1 _ ls (m_ast hR (t := 22) (by omega) ht h0 (by show Value.int (Int32.ofInt x).toInt8.toInt32 = .int (Int32.ofInt (m_i2b x)); rw [m_i2b, Int32.ofInt_toInt]) e z oq) (fun q hq => ?_) hl
  rcases List.mem_append.mp hq with h9 | h9
  · exact hL q h9
  · rw [List.mem_singleton.mp h9]; exact hlt.1
theorem ms_zast (S : m_Std Y own cc) (hx : x = 0 ∨ x = 1) (hc : m_t h a = 23 ∧ 0 ≤ m_w i ∧ m_w i < m_l h a) (hd : decode cc pc = .ok (.bastore, 1)) (k1 : ∀ h1, m_Sim Y (pc + 1) L st h1 (f h1)) : m_Sim Y pc L (m_i x :: m_i i :: m_r a :: st) h (some (m_p h a (m_w i) x) >>= f) := by
  obtain ⟨ht, h0, h1⟩ := hc
  refine m_hp S (k1 (m_p h a (m_w i) x)) (Int.le_refl _) (Int.le_refl _) (fun hf S H locs cells slots cells1 slots1 Q ls hR hL hl hc1 hs1 hc2 hs2 kk => ?_)
  have ec : cells1 = cells := by rw [m_n_p] at hc1; omega
  have es : slots1 = slots := by rw [m_s_p] at hs1; omega
  subst ec; subst es
  obtain ⟨-, -, q1⟩ := m_arr hR (t := 23) (by omega) ht
  have hlt := m_ad_lt hR (a := a) (by omega)
  simp only [List.map_cons, m_tr_r (show a ≠ 0 by omega)]
  refine W.zast S.1 S.2.1 q1 ((m_acl S.2.2.2.2.2.1 3 rfl).1 _ _) (fun q => by cases q) (m_inx h0 h1 _ _) rfl rfl hd fun H1 e z oq => ?_
  refine kk H1 _ ls (m_ast hR (t := 23) (by omega) ht h0 (by rcases hx with e9 | e9 <;> subst e9 <;> rfl) e z oq) (fun q hq => ?_) hl
  rcases List.mem_append.mp hq with h9 | h9
  · exact hL q h9
  · rw [List.mem_singleton.mp h9]; exact hlt.1
/-- an object of class ci (or a text, ci = 12 and x below -1) goes into an array of its class -/
theorem ms_aast (S : m_Std Y own cc) (t ci : Nat) (ht2 : 24 ≤ t ∧ t < 28) {r : vw_C} (hc : vwCl[ci]? = some r) (hci : ci < 12) (hk : ∀ cA, (m_tys cA)[t - 20]? = some (cA t, .object r.1)) (hgd : (m_t h a = t ∧ 0 ≤ m_w i ∧ m_w i < m_l h a) ∧ m_t h x = ci) (hd : decode cc pc = .ok (.aastore, 1)) (k1 : ∀ h1, m_Sim Y (pc + 1) L st h1 (f h1)) : m_Sim Y pc L (m_r x :: m_i i :: m_r a :: st) h (some (m_p h a (m_w i) x) >>= f) := by
  obtain ⟨⟨ht, h0, h1⟩, hx⟩ := hgd
  refine m_hp S (k1 (m_p h a (m_w i) x)) (Int.le_refl _) (Int.le_refl _) (fun hf S H locs cells slots cells1 slots1 Q ls hR hL hl hc1 hs1 hc2 hs2 kk => ?_)
  have ec : cells1 = cells := by rw [m_n_p] at hc1; omega
  have es : slots1 = slots := by rw [m_s_p] at hs1; omega
  subst ec; subst es
  obtain ⟨-, -, q1⟩ := m_arr hR (t := t) (by omega) ht
  have hlt := m_ad_lt hR (a := a) (by omega)
  have hlx := m_ad_lt hR (a := x) (by omega)
  obtain ⟨cellV, g1, g2, g3, -⟩ := m_obj hR hci hx
  obtain ⟨kA, comp, z1, z2, z3, -⟩ := (m_acl S.2.2.2.2.2.1 (t - 20) (hk _)).2
  have hcls := (S.2.2.2.2.2.1.1.1 ci r hc).2
  have hcomp : comp = Y.1.2.2.1.1 ci := Option.some.inj (z3.symm.trans hcls.1)
  subst hcomp
  obtain ⟨kC, hkC, -⟩ := hcls.2
  simp only [List.map_cons, m_tr_r (show a ≠ 0 by omega), m_tr_r (show x ≠ 0 by omega)]
  refine W.aast S.1 S.2.1 q1 (fun q h => by cases h) (fun h => by cases h) z1 z2 rfl hkC ⟨fun q => absurd ((m_neg i).mp q) (by omega), by rw [arrV_size, m_cl]; omega⟩ g1 (fun q h => by rw [g3] at h; cases h) (by rw [g2]; exact hkC) (by rw [g2]; exact va_assign hcls) rfl rfl hd fun H1 e z oq => ?_
  refine kk H1 _ ls (m_ast hR (t := t) (by omega) ht h0 (by rw [show m_ek ((t : Nat) : Int) = 2 by unfold m_ek; rw [if_neg (by omega), if_neg (by omega)], m_tr_r (show x ≠ 0 by omega)]) e z oq) (fun q hq => ?_) hl
  rcases List.mem_append.mp hq with h9 | h9
  · exact hL q h9
  · rw [List.mem_singleton.mp h9]; exact hlt.1
end m_arrays
