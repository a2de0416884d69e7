/-! the script -/
def m_scr {ρ : Type} (Y : m_Y ρ) (xn : Int) (xs : Int → Int) : Prop := Y.2.2.2.2.2 → xn = (Y.1.2.2.2.2.2.2.1 : Int) ∧ ∀ j, xs j = (Y.1.2.2.2.2.2.2.2 j.toNat).toInt
section m_script
variable {ρ : Type} {Y : m_Y ρ} {own : String} {cc : ByteArray} {pc : Nat} {L : List (Nat × m_V)} {st : List m_V} {h : m_H} {T : Option (ρ × m_H)} {a i xn : Int} {xs : Int → Int}
theorem m_scrat {d : m_D} {h : m_H} {H : Heap} {s : State} (hg : m_glob d s) (hR : m_R d h H) : va_X (d.2.2.2.2.1 1) d.2.2.2.2.2.2.1 d.2.2.2.2.2.2.2 s H := hg.2.1.kept (hR.2.2.2 _ (hg.2.2.2.2.2.2.2.1 1 (by omega) (by omega)))
theorem ms_slen (S : m_Std Y own cc) (hX : m_scr Y xn xs) (ha : a = -1) (hd : decode cc pc = .ok (.arraylength, 1)) (k1 : m_Sim Y (pc + 1) L (m_i xn :: st) h T) : m_Sim Y pc L (m_r a :: st) h T := by
  subst ha
  refine m_hp S k1 (Int.le_refl _) (Int.le_refl _) (fun hf S H locs cells slots cells1 slots1 Q ls hR hL hl hc1 hs1 hc2 hs2 kk => ?_)
  have ec : cells1 = cells := by omega
  have es : slots1 = slots := by omega
  subst ec; subst es
  obtain ⟨hn, -⟩ := hX hf
  obtain ⟨scr, q1, q2, q3, q4, q5⟩ := m_scrat S.2.2.2.2.2.1 hR
  have k2 := kk H locs ls hR hL hl
  simp only [List.map_cons] at k2 ⊢
  rw [m_tr_x _ (show (-1 : Int) < 0 by omega), show (-(-1 : Int)).toNat = 1 from rfl]
  rw [m_tr_i, hn, Int32.ofInt_eq_ofNat] at k2
  exact W.alen (n := Int32.ofNat _) S.1 S.2.1 q1 q2 (by rw [q4]) rfl rfl hd k2
theorem ms_sld (S : m_Std Y own cc) (hX : m_scr Y xn xs) (ha : a = -1) (hi : 0 ≤ m_w i ∧ m_w i < xn) (hd : decode cc pc = .ok (.iaload, 1)) (k1 : m_Sim Y (pc + 1) L (m_i (xs (m_w i)) :: st) h T) : m_Sim Y pc L (m_i i :: m_r a :: st) h T := by
  subst ha
  refine m_hp S k1 (Int.le_refl _) (Int.le_refl _) (fun hf S H locs cells slots cells1 slots1 Q ls hR hL hl hc1 hs1 hc2 hs2 kk => ?_)
  have ec : cells1 = cells := by omega
  have es : slots1 = slots := by omega
  subst ec; subst es
  obtain ⟨hn, hx⟩ := hX hf
  obtain ⟨scr, q1, q2, q3, q4, q5⟩ := m_scrat S.2.2.2.2.2.1 hR
  have k2 := kk H locs ls hR hL hl
  simp only [List.map_cons] at k2 ⊢
  rw [m_tr_x _ (show (-1 : Int) < 0 by omega), show (-(-1 : Int)).toNat = 1 from rfl]
  rw [m_tr_i, hx, Int32.ofInt_toInt, ← m_cl] at k2
  exact W.iald S.1 S.2.1 q1 q2 q3 (fun q => by
    rcases q with q | q
    · exact absurd ((m_neg i).mp q) (by omega)
    · have q : scr.slots.size ≤ (Int32.ofInt i).toNatClampNeg := q
      rw [m_cl, q4] at q; omega) (q5 _ (show (Int32.ofInt i).toNatClampNeg < _ by rw [m_cl]; omega)) rfl rfl hd k2
end m_script
