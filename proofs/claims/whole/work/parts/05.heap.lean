/-! ROWS, ONE AN INSTRUCTION: the heap -/
theorem m_ad_pos (d : m_D) {a : Int} (h : 0 < a) : m_ad d a = d.1 + (a.toNat - 1) := by
  unfold m_ad
  rw [if_pos h]
theorem m_ad_ne (d : m_D) {a b : Int} (h : 0 < a) (h2 : 0 < b) (h3 : a ≠ b) : m_ad d a ≠ m_ad d b := by
  rw [m_ad_pos d h, m_ad_pos d h2]
  omega
theorem m_ad_lt {d : m_D} {h : m_H} {H : Heap} (hR : m_R d h H) {a : Int} (ha : 0 ≤ m_t h a) : d.1 ≤ m_ad d a ∧ m_ad d a < H.size ∧ 0 < a := by
  obtain ⟨h1, h2, h3, -⟩ := hR
  obtain ⟨a1, a2, -⟩ := h3 a ha
  rw [m_ad_pos d (by omega)]
  omega
theorem m_ad_n {d : m_D} {h : m_H} {H : Heap} (hR : m_R d h H) : m_ad d (m_n h) = H.size := by
  obtain ⟨h1, h2, -⟩ := hR
  rw [m_ad_pos d (by omega)]
  omega
theorem m_at.congr {d : m_D} {h h1 : m_H} {a : Int} {H H1 : Heap} (hat : m_at d h a H) (e1 : m_t h1 a = m_t h a) (e2 : m_l h1 a = m_l h a) (e3 : ∀ k, m_g h1 a k = m_g h a k) (e4 : H1[m_ad d a]? = H[m_ad d a]?) : m_at d h1 a H1 := by
  unfold m_at at hat ⊢
  rw [e1]
  split
  · rename_i q
    rw [if_pos q] at hat
    exact (t_OB.kept hat e4).to (fun k _ => by rw [e3])
  · rename_i q
    rw [if_neg q] at hat
    rw [e2, e4]
    simp only [e3]
    exact hat
theorem m_obj {d : m_D} {h : m_H} {a : Int} {H : Heap} (hR : m_R d h H) {ci : Nat} (hci : ci < 12) (ht : m_t h a = ci) : t_OB (m_ad d a) (d.2.2.1.1 ci) (m_nf ci) (d.2.2.1.2 ci) H (fun k => m_tr d (m_fk ci k, m_g h a k)) := by
  have hat := (hR.2.2.1 a (by omega)).2.2.2.2
  unfold m_at at hat
  rw [ht, if_pos (by omega)] at hat
  exact hat
theorem m_arr {d : m_D} {h : m_H} {a : Int} {H : Heap} (hR : m_R d h H) {t : Nat} (h2 : 20 ≤ t) (ht : m_t h a = t) : 0 ≤ m_l h a ∧ m_l h a < 2147483648 ∧ H[m_ad d a]? = some (arrV (d.2.2.2.1 t) (m_l h a).toNat (fun j => m_tr d (m_ek t, m_g h a j))) := by
  have hat := (hR.2.2.1 a (by omega)).2.2.2.2
  unfold m_at at hat
  rw [ht, if_neg (by omega)] at hat
  exact hat
/-- one old cell changes -/
theorem m_R.put {d : m_D} {h h1 : m_H} {H H1 : Heap} (hR : m_R d h H) {a : Int} (ha : 0 ≤ m_t h a) (e1 : ∀ b, m_t h1 b = m_t h b) (e2 : ∀ b, m_l h1 b = m_l h b) (e3 : ∀ b k, b ≠ a → m_g h1 b k = m_g h b k) (e4 : m_n h1 = m_n h)
    (hz : H1.size = H.size) (ho : ∀ q, q ≠ m_ad d a → H1[q]? = H[q]?) (hat : m_at d h1 a H1) : m_R d h1 H1 := by
  have hlt := m_ad_lt hR ha
  obtain ⟨r1, r2, r3, r4⟩ := hR
  refine ⟨by rw [hz, e4]; exact r1, by rw [e4]; exact r2, fun b hb => ?_, fun q hq => ?_⟩
  · rw [e1] at hb
    obtain ⟨b1, b2, b3, b4, b5⟩ := r3 b hb
    refine ⟨b1, by rw [e4]; exact b2, by rw [e1]; exact b3, by rw [e1]; exact b4, ?_⟩
    by_cases hba : b = a
    · subst hba; exact hat
    · exact b5.congr (e1 b) (e2 b) (fun k => e3 b k hba) (ho _ (m_ad_ne d (by omega) hlt.2.2 hba))
  · rw [ho q (by omega)]
    exact r4 q hq
/-- one new cell comes -/
theorem m_R.new {d : m_D} {h : m_H} {H H1 : Heap} (hR : m_R d h H) {t n : Int} (ht : t < 12 ∨ 20 ≤ t) (ht2 : t < 30) (hz : H1.size = H.size + 1) (ho : ∀ q, q < H.size → H1[q]? = H[q]?) (hat : m_at d (m_a h t n) (m_n h) H1) : m_R d (m_a h t n) H1 := by
  have hN := m_ad_n hR
  have hR' := hR
  obtain ⟨r1, r2, r3, r4⟩ := hR
  refine ⟨by rw [hz, m_n_a]; omega, by rw [m_n_a]; omega, fun b hb => ?_, fun q hq => ?_⟩
  · by_cases hba : b = m_n h
    · subst hba
      refine ⟨r2, by rw [m_n_a]; omega, by rw [m_t_a, if_pos rfl]; exact ht, by rw [m_t_a, if_pos rfl]; exact ht2, hat⟩
    · rw [m_t_a, if_neg hba] at hb ⊢
      obtain ⟨b1, b2, b3, b4, b5⟩ := r3 b hb
      refine ⟨b1, by rw [m_n_a]; omega, b3, b4, b5.congr (by rw [m_t_a, if_neg hba]) (by rw [m_l_a, if_neg hba]) (fun k => by rw [m_g_a, if_neg hba]) (ho _ (m_ad_lt hR' hb).2.1)⟩
  · rw [ho q (by omega)]
    exact r4 q hq
theorem m_pr {ρ : Type} {Y : m_Y ρ} {own : String} {cc : ByteArray} (S : m_Std Y own cc) {pc pc' : Nat} {L L' : List (Nat × m_V)} {st st' : List m_V} {h : m_H} {T : Option (ρ × m_H)} (k : m_Sim Y pc' L' st' h T)
    (hw : m_Fct Y own cc → ∀ (H : Heap) (locs : List Loc) (cells slots : Nat) (Q : State → Prop) (ls : Array Slot), m_R Y.1 h H → lv_has ls Y.2.2.2.1 (m_lv Y.1 L) → (∀ ls', lv_has ls' Y.2.2.2.1 (m_lv Y.1 L') → m_WY Y H locs cells slots Q pc' ls' (st'.map (m_tr Y.1))) → m_WY Y H locs cells slots Q pc ls (st.map (m_tr Y.1))) : m_Sim Y pc L st h T := by
  intro r h' hT
  obtain ⟨a, b, c⟩ := k r h' hT
  exact ⟨a, b, fun hf H locs cells slots cE sE ls hR hl h1 h2 h3 h4 h5 h6 h7 => hw (S hf) H locs cells slots _ ls hR hl fun ls' hl' => c hf H locs cells slots cE sE ls' hR hl' h1 h2 h3 h4 h5 h6 h7⟩
theorem m_hp {ρ : Type} {Y : m_Y ρ} {own : String} {cc : ByteArray} (S : m_Std Y own cc) {pc pc' : Nat} {L L' : List (Nat × m_V)} {st st' : List m_V} {h h1 : m_H} {T : Option (ρ × m_H)} (k : m_Sim Y pc' L' st' h1 T) (hn : m_n h ≤ m_n h1) (hs : m_s h ≤ m_s h1)
    (hw : Y.2.2.2.2.2 → m_Fct Y own cc → ∀ (H : Heap) (locs : List Loc) (cells slots cells1 slots1 : Nat) (Q : State → Prop) (ls : Array Slot), m_R Y.1 h H → (∀ q ∈ locs, Y.1.1 ≤ q.base) → lv_has ls Y.2.2.2.1 (m_lv Y.1 L) → (cells1 : Int) = cells + (m_n h1 - m_n h) → (slots1 : Int) = slots + (m_s h1 - m_s h) → cells1 ≤ Y.2.1.2.2.2.1.cells → slots1 ≤ Y.2.1.2.2.2.1.slots →
      (∀ H1 locs1 ls', m_R Y.1 h1 H1 → (∀ q ∈ locs1, Y.1.1 ≤ q.base) → lv_has ls' Y.2.2.2.1 (m_lv Y.1 L') → m_WY Y H1 locs1 cells1 slots1 Q pc' ls' (st'.map (m_tr Y.1))) → m_WY Y H locs cells slots Q pc ls (st.map (m_tr Y.1))) : m_Sim Y pc L st h T := by
  intro r h' hT
  obtain ⟨a, b, c⟩ := k r h' hT
  refine ⟨by omega, by omega, fun hf H locs cells slots cE sE ls hR hl h0 h2 h3 h4 h5 h6 h7 => ?_⟩
  refine hw hf (S hf) H locs cells slots (cells + (m_n h1 - m_n h).toNat) (slots + (m_s h1 - m_s h).toNat) _ ls hR h0 hl (by omega) (by omega) (by omega) (by omega) fun H1 locs1 ls' hR1 hl1 hl' => ?_
  exact c hf H1 locs1 _ _ cE sE ls' hR1 hl' hl1 (by omega) (by omega) h4 h5 h6 h7
/-! fields -/
def m_FL (own : String) (index ci k : Nat) : Prop := ∃ (C : String) (T : u_T) (N : Nat), vwCl[ci]? = some (C, T, N) ∧ m_nf ci = N ∧ ci < 12 ∧ k < N ∧ (∀ w ∈ u_ws C T N, w ∈ m_big) ∧ (Cond.fieldLink own index (T k).1 (T k).2.1 (T k).2.2.1 ∈ m_big ∨ ∃ host, Cond.fieldLinkNest own index (T k).1 (T k).2.1 (T k).2.2.1 host ∈ m_nest)
theorem ms_getf {ρ : Type} {Y : m_Y ρ} {own : String} {cc : ByteArray} (S : m_Std Y own cc) {pc : Nat} {L : List (Nat × m_V)} {st : List m_V} {h : m_H} {T : Option (ρ × m_H)} {a : Int} {index ci k kd : Nat} (hF : m_FL own index ci k) (hkd : m_fk ci k = kd) (hd : decode cc pc = .ok (.getfield index, 3)) (ht : m_t h a = ci) (k1 : m_Sim Y (pc + 3) L ((kd, m_g h a k) :: st) h T) : m_Sim Y pc L (m_r a :: st) h T := by
  obtain ⟨C, Tb, N, hc, hN, hci, hk, hin, hlink⟩ := hF
  refine m_pr S k1 (fun S H locs cells slots Q ls hR hl kk => ?_)
  have hlt := m_ad_lt hR (a := a) (by omega)
  obtain ⟨cell, q1, q2, q3, q4⟩ := m_obj hR hci ht
  obtain ⟨hK, -⟩ := S.2.2.2.2.2.1
  obtain ⟨hS, hfc, kC, hkC, hkind⟩ := hK.1 ci _ hc
  obtain ⟨cf, kf, fi, f, hi, hsl⟩ := hS k hk
  have hv : cell.slots[f.slot]? = some (m_tr Y.1 (kd, m_g h a k)) := by rw [hsl, q4 k (by omega)]; show some (m_tr Y.1 (m_fk ci k, m_g h a k)) = _; rw [hkd]
  have hst := (u_facts hfc hkC (u_lays S.2.2.2.2.1 hin hk) hi).1
  have k2 := kk ls hl
  simp only [List.map_cons, m_tr_r (show a ≠ 0 by omega)] at k2 ⊢
  rcases hlink with hlink | ⟨host, hlink⟩
  · exact W.getf S.1 S.2.1 S.2.2.2.1 (S.2.2.2.2.1 _ hlink) hi hst q1 (by rw [q3]; exact fun h => by cases h) hv rfl rfl hd k2
  · exact va_Wgetf S.1 S.2.1 S.2.2.2.1 (va_Nw.use rfl (S.2.2.2.2.2.1.2.2.2.2.2.2.2.2 _ hlink)) hi hst q1 (by rw [q3]; exact fun h => by cases h) hv rfl rfl hd k2
def m_PL (own : String) (index ci k : Nat) (ty : FieldType) (fin : Bool) : Prop := ∃ (C : String) (T : u_T) (N : Nat) (tys : Nat → FieldType), vwCl[ci]? = some (C, T, N) ∧ m_nf ci = N ∧ ci < 12 ∧ k < N ∧ (∀ w ∈ u_ws C T N, w ∈ m_big) ∧ (Cond.fieldLink own index (T k).1 (T k).2.1 (T k).2.2.1 ∈ m_big ∨ (fin = false ∧ ∃ host, Cond.fieldLinkNest own index (T k).1 (T k).2.1 (T k).2.2.1 host ∈ m_nest)) ∧
  (T k).2.2.2 = fin ∧ (fin = true → (T k).1 = own) ∧ parseFieldDescriptor (T k).2.2.1 = some ty ∧ (∀ k, k < N → parseFieldDescriptor (T k).2.2.1 = some (tys k)) ∧ ∀ a, a < N → ∀ b, b < N → a ≠ b → (T a).2.1 ≠ (T b).2.1
theorem m_fitI (d : m_D) (x : Int) : narrow .int (m_tr d (0, x)) = m_tr d (0, x) ∧ fits .int (m_tr d (0, x)) = true := ⟨rfl, rfl⟩
theorem m_fitZ0 (d : m_D) : narrow .boolean (m_tr d (0, 0)) = m_tr d (0, 0) ∧ fits .boolean (m_tr d (0, 0)) = true := ⟨rfl, rfl⟩
theorem m_fitZ1 (d : m_D) : narrow .boolean (m_tr d (0, 1)) = m_tr d (0, 1) ∧ fits .boolean (m_tr d (0, 1)) = true := ⟨rfl, rfl⟩
theorem m_fitO (C : String) (d : m_D) (x : Int) : narrow (.object C) (m_tr d (2, x)) = m_tr d (2, x) ∧ fits (.object C) (m_tr d (2, x)) = true := by
  by_cases e : x = 0
  · subst e; exact ⟨rfl, rfl⟩
  · rw [m_tr_r e]; exact ⟨rfl, rfl⟩
theorem m_fitA (t : FieldType) (d : m_D) (x : Int) : narrow (.array t) (m_tr d (2, x)) = m_tr d (2, x) ∧ fits (.array t) (m_tr d (2, x)) = true := by
  by_cases e : x = 0
  · subst e; exact ⟨rfl, rfl⟩
  · rw [m_tr_r e]; exact ⟨rfl, rfl⟩
theorem ms_putf {ρ : Type} {Y : m_Y ρ} {own : String} {cc : ByteArray} (S : m_Std Y own cc) {pc : Nat} {L : List (Nat × m_V)} {st : List m_V} {h : m_H} {f : m_H → Option (ρ × m_H)} {a x : Int} {index ci k kd : Nat} {ty : FieldType} {fin : Bool} (hF : m_PL own index ci k ty fin) (hI : fin = true → Y.2.2.2.2.2 → Y.2.1.2.2.2.2.2.2.2.2.1.name = "<init>") (hkd : m_fk ci k = kd) (hfit : ∀ d : m_D, narrow ty (m_tr d (kd, x)) = m_tr d (kd, x) ∧ fits ty (m_tr d (kd, x)) = true) (hd : decode cc pc = .ok (.putfield index, 3)) (ht : m_t h a = ci) (k1 : ∀ h1, m_Sim Y (pc + 3) L st h1 (f h1)) : m_Sim Y pc L ((kd, x) :: m_r a :: st) h (some (m_p h a k x) >>= f) := by
  obtain ⟨C, Tb, N, tys, hc, hN, hci, hk, hin, hlink, hfin, hown, hty, htys, hnm⟩ := hF
  refine m_hp S (k1 (m_p h a k x)) (Int.le_refl _) (Int.le_refl _) (fun hf S H locs cells slots cells1 slots1 Q ls hR hL hl hc1 hs1 hc2 hs2 kk => ?_)
  have ec : cells1 = cells := by rw [m_n_p] at hc1; omega
  have es : slots1 = slots := by rw [m_s_p] at hs1; omega
  subst ec; subst es
  have hlt := m_ad_lt hR (a := a) (by omega)
  obtain ⟨cell, q1, q2, q3, q4⟩ := m_obj hR hci ht
  obtain ⟨hK, -⟩ := S.2.2.2.2.2.1
  obtain ⟨hS, hfc, kC, hkC, hkind⟩ := hK.1 ci _ hc
  have hap : ∀ x y, x < N → y < N → x ≠ y → (Y.1.2.2.1.2 ci) x ≠ (Y.1.2.2.1.2 ci) y := va_apart (own := own) S.2.2.2.2.1 hin tys htys hnm hK hc
  obtain ⟨cf, kf, fi, fd, hi, hsl⟩ := hS k hk
  have hlay := S.2.2.2.2.1 _ (hin _ (u_in_lay hk))
  unfold u_lay at hlay
  have hst := (u_facts hfc hkC (u_lays S.2.2.2.2.1 hin hk) hi).1
  have hsz : fd.slot < cell.slots.size := by rw [hsl]; exact k2_hasslot (q4 k (by omega))
  have fin1 : ∀ H1 : Heap, H1[m_ad Y.1 a]? = some (cell.setSlot fd.slot (m_tr Y.1 (kd, x))) → H1.size = H.size → (∀ q, q ≠ m_ad Y.1 a → H1[q]? = H[q]?) → m_WY Y H1 (locs ++ [⟨m_ad Y.1 a, fd.slot⟩]) cells1 slots1 Q (pc + 3) ls (st.map (m_tr Y.1)) := by
    intro H1 e1 e2 e3
    refine kk H1 _ ls (hR.put (a := a) (by omega) (fun b => rfl) (fun b => rfl) (fun b j hb => by rw [m_g_p, if_neg (fun q => hb q.1)]) rfl e2 e3 ?_) ?_ hl
    · unfold m_at
      rw [m_t_p, ht, if_pos (by omega)]
      refine ⟨_, e1, q2, q3, ?_⟩
      rw [hsl]
      intro j hj
      refine (t_set q4 (fun x y hx hy => hap x y (by omega) (by omega)) (k := k) (by omega) _ j hj).trans ?_
      show some (updV _ k _ j) = some (m_tr Y.1 (m_fk ci j, m_g (m_p h a k x) a j))
      rw [m_g_p]
      unfold updV
      by_cases hjk : j = k
      · rw [if_pos hjk, if_pos ⟨rfl, by omega⟩]
        subst hjk
        show _ = some (m_tr Y.1 (m_fk ci j, x))
        rw [hkd]
      · rw [if_neg hjk, if_neg (fun q => hjk (by omega))]
    · intro q hq
      rcases List.mem_append.mp hq with h9 | h9
      · exact hL q h9
      · rw [List.mem_singleton.mp h9]
        exact hlt.1
  simp only [List.map_cons, m_tr_r (show a ≠ 0 by omega)]
  have hfit := hfit Y.1
  cases fin with
  | false =>
    rw [if_neg (by rw [hfin]; decide)] at hlay
    have h6 := u_store hfc hkC hkind hlay hi hty hfit.1 hfit.2
    rcases hlink with hlink | ⟨-, host, hlink⟩
    · exact W.putK S.1 S.2.1 (f := fd) ⟨S.2.2.2.1, S.2.2.2.2.1 _ hlink, ⟨_, _, _, hi⟩, hst⟩ (by rw [q2]; exact h6) q1 q3 hsz rfl rfl hd fin1
    · exact va_WputK S.1 S.2.1 (f := fd) S.2.2.2.1 (va_Nw.use rfl (S.2.2.2.2.2.1.2.2.2.2.2.2.2.2 _ hlink)) hi hst (by rw [q2]; exact h6) q1 q3 hsz rfl rfl hd fin1
  | true =>
    rw [if_pos hfin] at hlay
    have hcf : Y.2.1.2.2.2.2.2.1.cls = cf := by
      obtain ⟨_, _, c', _, _, _, -, -, hf', -, -, -, hown2, -⟩ := Cond.laysFinal_spec hlay
      have e1 : c' = cf := by have := hi.symm.trans hf'; simp at this; exact this.1.symm
      rw [hown rfl] at hown2
      rw [← e1]; exact Option.some.inj (S.2.2.2.1.symm.trans hown2)
    have h6 := u_fits hfc hkC hkind (Or.inr hlay) hi hty hfit.1 hfit.2
    rcases hlink with hlink | ⟨q, -⟩
    · exact W.putFinK S.1 S.2.1 S.2.2.2.1 (S.2.2.2.2.1 _ hlink) hi hst hcf (hI rfl hf) (by rw [q2]; exact h6) q1 q3 hsz rfl rfl hd fin1
    · cases q
/-- new -/
def m_NL (own : String) (index ci : Nat) : Prop := ∃ (C : String) (T : u_T) (N : Nat) (tys : Nat → FieldType), vwCl[ci]? = some (C, T, N) ∧ m_nf ci = N ∧ ci < 12 ∧ (∀ w ∈ u_ws C T N, w ∈ m_big) ∧ Cond.classLink own index C ∈ m_big ∧ Cond.instantiable C N ∈ m_big ∧ Cond.initialized C ∈ m_big ∧ (∀ k, k < N → parseFieldDescriptor (T k).2.2.1 = some (tys k)) ∧ ∀ k, k < N → (m_fk ci k = 0 ∧ defaultValue (tys k) = .int 0) ∨ (m_fk ci k = 2 ∧ defaultValue (tys k) = .null)
theorem ms_new {ρ : Type} {Y : m_Y ρ} {own : String} {cc : ByteArray} (S : m_Std Y own cc) {pc : Nat} {L : List (Nat × m_V)} {st : List m_V} {h : m_H} {f : m_H → Option (ρ × m_H)} {index ci n : Nat} (hF : m_NL own index ci) (hn : m_nf ci = n) (hd : decode cc pc = .ok (.new index, 3)) (k1 : ∀ h1, m_Sim Y (pc + 3) L (m_r (m_n h) :: st) h1 (f h1)) : m_Sim Y pc L st h (some (m_a h ci n) >>= f) := by
  obtain ⟨C, Tb, N, tys, hc, hN, hci, hin, hcl, hins, hini, htys, hdf⟩ := hF
  refine m_hp S (k1 (m_a h ci n)) (by rw [m_n_a]; omega) (by rw [m_s_a]; omega) (fun hf S H locs cells slots cells1 slots1 Q ls hR hL hl hc1 hs1 hc2 hs2 kk => ?_)
  rw [m_n_a] at hc1
  rw [m_s_a] at hs1
  have ec : cells1 = cells + 1 := by omega
  have es : slots1 = slots + N := by omega
  subst ec; subst es
  obtain ⟨hK, -⟩ := S.2.2.2.2.2.1
  have hKn := hK.1 ci _ hc
  have r2 := hR.2.1
  refine W.newcK S.1 S.2.1 S.2.2.2.1 (S.2.2.2.2.1 _ hcl) (S.2.2.2.2.1 _ hins) (S.2.2.2.2.1 _ hini) rfl hd hc2 hs2 hKn.2.1 rfl fun H1 kC hkC e1 z1 o1 => ?_
  have k2 := kk H1 locs ls (hR.new (t := ci) (n := n) (Or.inl (by omega)) (by omega) z1 o1 ?_) hL hl
  · simp only [List.map_cons, m_tr_r (show m_n h ≠ 0 by omega), m_ad_n hR] at k2
    exact k2
  · unfold m_at
    rw [m_t_a, if_pos rfl, if_pos (by omega), m_ad_n hR]
    have h9 := u_born tys S.2.2.2.2.1 hin hKn hkC e1 htys
    rw [show m_nf ((ci : Nat) : Int) = N from hN]
    refine h9.to (fun k hk => ?_)
    rw [m_g_a, if_pos rfl]
    rcases hdf k hk with ⟨a1, a2⟩ | ⟨a1, a2⟩
    · rw [a2]; show _ = m_tr Y.1 (m_fk ci k, 0); rw [a1]; rfl
    · rw [a2]; show _ = m_tr Y.1 (m_fk ci k, 0); rw [a1]; rfl
