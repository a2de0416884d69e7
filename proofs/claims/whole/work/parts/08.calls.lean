/-! CALLS: 'V' of an object's method, 'S' of a static one, 'I' of a constructor; the answer's kind: v none, i int, z boolean, l long, a reference -/
def m_Rm {ρ : Type} (Y : m_Y ρ) (F : Nat) : Prop := Y.2.2.2.2.2 → F ≤ Y.2.1.2.2.2.1.frames ∧ 100 * F ≤ Y.2.1.2.2.2.1.locals
def m_ML (own : String) (index : Nat) (y : MethodName) (cc : ByteArray) (nL : Nat) (ret : Option FieldType) (n : Nat) : Prop := (Cond.methodLink own index y ∈ m_big ∨ ∃ host, Cond.methodLinkNest own index y host ∈ m_nest) ∧ Cond.initialized y.cls ∈ m_big ∧ Cond.code y cc nL ret ∈ m_big ∧ (y.cls ≠ "java/lang/invoke/MethodHandle" ∧ y.cls ≠ "java/lang/invoke/VarHandle" ∧ (parseMethodDescriptor y.desc).map (fun d => d.parameters.length) = some n) ∧ nL ≤ 81
def m_MV (own : String) (index : Nat) (y : MethodName) (cc : ByteArray) (nL : Nat) (ret : Option FieldType) (n : Nat) : Prop := m_ML own index y cc nL ret n ∧ Cond.instanceMethod y ∈ m_big ∧ Cond.selects y.cls y y ∈ m_big
def m_MS (own : String) (index : Nat) (y : MethodName) (cc : ByteArray) (nL : Nat) (ret : Option FieldType) (n : Nat) : Prop := m_ML own index y cc nL ret n ∧ Cond.static y ∈ m_big
def m_MI (own : String) (index : Nat) (y : MethodName) (cc : ByteArray) (nL : Nat) (n : Nat) : Prop := m_ML own index y cc nL none n ∧ Cond.instanceMethod y ∈ m_big ∧ y.name = "<init>"
theorem m_goodc {y : MethodName} {cc : ByteArray} {nL : Nat} {ret : Option FieldType} (h : Cond.code y cc nL ret ∈ m_big) : GoodIn m_big (Cond.code y cc nL ret :: m_big) := fun w hw => by
  rcases List.mem_cons.mp hw with rfl | hw
  · exact ⟨h, m_big_good _ h⟩
  · exact ⟨hw, m_big_good _ hw⟩
theorem m_good1 {w : Cond} {ws : List Cond} (h : w ∈ m_big) (hG : GoodIn m_big ws) : GoodIn m_big (w :: ws) := fun x hx => by
  rcases List.mem_cons.mp hx with rfl | hx
  · exact ⟨h, m_big_good _ h⟩
  · exact hG x hx
/-- the texts -/
theorem m_tr_x (d : m_D) {a : Int} (h : a < 0) : m_tr d (m_r a) = .ref (d.2.2.2.2.1 (-a).toNat) := by
  rw [m_tr_r (by omega)]
  unfold m_ad
  rw [if_neg (by omega)]
theorem m_text {d : m_D} {h : m_H} {a : Int} {H : Heap} {s : State} (hg : m_glob d s) (hR : m_R d h H) (ht : -26 ≤ a ∧ a ≤ -2) : va_O "java/lang/String" (d.2.2.2.2.1 (-a).toNat) (fun q => d.1 ≤ q) s H ∧ va_OF "java/lang/String" "coder" "B" (.int 0) (d.2.2.2.2.1 (-a).toNat) (fun q => d.1 ≤ q) s H ∧ va_OF "java/lang/String" "value" "[B" (.ref (d.2.2.2.2.1 (-(a - 38)).toNat)) (d.2.2.2.2.1 (-a).toNat) (fun q => d.1 ≤ q) s H ∧ va_T .byte (d.2.2.2.2.1 (-(a - 38)).toNat) (m_slen.getD (-a - 2).toNat 0) (fun j => .int ((m_sbyt.getD (-a - 2).toNat []).getD j 0)) (fun q => d.1 ≤ q) s H := by
  obtain ⟨h1, h2, h3, h4⟩ := hg.2.2.1.1 (-a - 2).toNat (by omega)
  rw [show (-a).toNat = (-a - 2).toNat + 2 by omega, show (-(a - 38)).toNat = (-a - 2).toNat + 40 by omega]
  have hq : ∀ q : Nat, q < d.2.1.size → ¬ d.1 ≤ q → H[q]? = d.2.1[q]? := fun q _ hn => hR.2.2.2 q (by omega)
  exact ⟨h1.kept hq, h2.kept hq, h3.kept hq, h4.kept hq⟩
theorem m_recvT {d : m_D} {h : m_H} {a : Int} {H : Heap} {s : State} (hg : m_glob d s) (hR : m_R d h H) (ht : -26 ≤ a ∧ a ≤ -2) : ∃ cell : Cell, H[m_ad d a]? = some cell ∧ cell.vm.isStatics = false ∧ s.vm.findClass RJ0 = some cell.cls := by
  obtain ⟨⟨cell, h1, h2, h3, -⟩, -⟩ := m_text hg hR ht
  unfold m_ad
  rw [if_neg (by omega)]
  exact ⟨cell, h1, h2, h3⟩
def m_Pc (d : m_D) (vals : List m_V) (h : m_H) : Array Value → State → Prop := fun a U => a = (vals.map (m_tr d)).toArray ∧ m_glob d U ∧ (∀ q, q < d.1 → U.heap[q]? = d.2.1[q]?) ∧ m_R d h U.heap
theorem m_blind (d : m_D) (vals : List m_V) (h : m_H) : FrameBlind (m_Pc d vals h) := fun a U g mk q => ⟨q.1, q.2.1.same (s := U) (U := U.calling g mk a) rfl, q.2.2.1, q.2.2.2⟩
theorem m_pre {d : m_D} {vals : List m_V} {h : m_H} {s U : State} {H : Heap} {a : Array Value} (ha : a = (vals.map (m_tr d)).toArray) (hg : m_glob d s) (hR : m_R d h H) (hU : U.heap = H) (hW : s.WarmedH U.vm) : m_Pc d vals h a U := ⟨ha, hg.warm hW, fun q hq => by rw [hU]; exact hR.2.2.2 q hq, by rw [hU]; exact hR⟩
theorem m_catsum (d : m_D) (st : List m_V) : ((st.map (m_tr d)).map fun v => v.category).sum = (st.map (fun v => if (v.1 == 1) = true then 2 else 1)).sum := by
  rw [List.map_map]
  congr 1
  apply List.map_congr_left
  intro v _
  have := m_cat d v
  show (m_tr d v).category = _
  rcases lv_cat (m_tr d v) with q | q
  · rw [q] at this ⊢
    rw [← this]; rfl
  · rw [q] at this ⊢
    rw [← this]; rfl
theorem m_cont {p : Program} {l : Launch} {e : Env} {R : Room} {s : State} {m : MethodId} {args : Array Value} {below : List Frame} {meth : Method} {c : Code} {H : Heap} {locs : List Loc} {cells slots mc ms : Nat} {Q : State → Prop} {pc : Nat} {ls : Array Slot} {st0 rest : List Value} {d : m_D} {h1 : m_H} {v0 : Option Value}
    (hr : va_Run p l e R s m args below meth c H locs cells slots mc ms (F0 m pc ls st0) rest (fun _ o t => o = .returned v0 ∧ m_R d h1 t.heap) (fun q => d.1 ≤ q)) (hL : ∀ q ∈ locs, d.1 ≤ q.base)
    (kk : ∀ (H1 : Heap) (locs1 : List Loc), m_R d h1 H1 → (∀ q ∈ locs1, d.1 ≤ q.base) → W p l e R s m args below meth c H1 locs1 (cells + mc) (slots + ms) Q (F0 m (pc + 3) ls (v0.toList ++ rest))) : W p l e R s m args below meth c H locs cells slots Q (F0 m pc ls st0) := by
  intro T hT X
  obtain ⟨v, st₀, t, T', L, h0, X', hL2, e1, e2, ⟨hv, hq⟩, st⟩ := hr T hT X
  cases hv
  obtain ⟨t2, a1, b1⟩ := kk T'.heap (locs ++ L) (by rw [e1]; exact hq) (fun q hq => by
      rcases List.mem_append.mp hq with h | h
      · exact hL q h
      · exact hL2 q h) T' rfl X'
  exact ⟨t2, st t2 a1, b1⟩
theorem m_recv {d : m_D} {h : m_H} {a : Int} {H : Heap} {s : State} (hg : m_glob d s) (hR : m_R d h H) {ci : Nat} (hci : ci < 12) (ht : m_t h a = ci) {r : vw_C} (hc : vwCl[ci]? = some r) : ∃ cell : Cell, H[m_ad d a]? = some cell ∧ cell.vm.isStatics = false ∧ s.vm.findClass r.1 = some cell.cls := by
  obtain ⟨cell, g1, g2, g3, -⟩ := m_obj hR hci ht
  exact ⟨cell, g1, by rw [g3]; rfl, by rw [g2]; exact (hg.1.1 ci r hc).2.1⟩

theorem ms_callVv {ρ : Type} {Y : m_Y ρ} {own : String} {cc : ByteArray} (S : m_Std Y own cc) {F : Nat} (hF : m_Rm Y F) {pc : Nat} {L : List (Nat × m_V)} {h : m_H} {f : Unit × m_H → Option (ρ × m_H)} {y : MethodName} {cc2 : ByteArray} {nL2 fr index : Nat} {ret : Option FieldType} {a : Int} {ci : Nat} {r0 : vw_C} (hc : vwCl[ci]? = some r0) (hci : ci < 12) (hcy : y.cls = r0.1) (ht : m_t h a = ci) {vals st stk : List m_V} {T1 : Option (Unit × m_H)} (hC : m_Con Y.2.1.2.1 Y.1 y cc2 nL2 ret fr (fun _ => []) (m_r a :: vals) h T1) (hM : m_MV own index y cc2 nL2 ret vals.length) (hfr : fr + 1 ≤ F) (hstk : vals.reverse ++ m_r a :: st = stk) (hcat : (st.map (fun v => if (v.1 == 1) = true then 2 else 1)).sum ≤ 8) (hd : decode cc pc = .ok (.invokevirtual index, 3)) (k1 : ∀ h1, m_Sim Y (pc + 3) L (st) h1 (f ((), h1))) : m_Sim Y pc L stk h (T1 >>= f) := by
  subst hstk
  intro r h' hT
  obtain ⟨⟨r1, h1⟩, hT1, hT2⟩ := Option.bind_eq_some_iff.mp hT
  obtain ⟨⟨m1, m2⟩, hMet⟩ := hC Y.2.1 r1 h1 hT1
  obtain ⟨a1, b1, c1⟩ := k1 h1 r h' hT2
  refine ⟨by omega, by omega, fun hf H locs cells slots cE sE ls hR hl hL hcc hcs hcE hsE hcR hsR => ?_⟩
  have S := S hf
  obtain ⟨hF1, hF2⟩ := hF hf
  obtain ⟨⟨hlink, hini, hcode, hy, hnL⟩, hx⟩ := hM
  have hts := S.2.2.2.2.1
  have hG := m_goodc hcode
  have kk := fun (H1 : Heap) (locs1 : List Loc) (hR1 : m_R Y.1 h1 H1) (hL1 : ∀ q ∈ locs1, Y.1.1 ≤ q.base) => c1 hf H1 locs1 (cells + (m_n h1 - m_n h).toNat) (slots + (m_s h1 - m_s h).toNat) cE sE ls hR1 hl hL1 (by omega) (by omega) hcE hsE hcR hsR
  have hlt := m_ad_lt hR (a := a) (by omega)
  have hst : (vals.reverse ++ m_r a :: st).map (m_tr Y.1) = (vals.map (m_tr Y.1)).reverse ++ .ref (m_ad Y.1 a) :: st.map (m_tr Y.1) := by
    rw [List.map_append, List.map_cons, m_tr_r (show a ≠ 0 by omega), List.map_reverse]
  unfold m_WY
  rw [hst]
  have hrec := m_recv S.2.2.2.2.2.1 hR hci ht hc
  rw [← hcy] at hrec
  have hpre : PreV Y.2.1.2.2.2.2.1 H y.cls (m_ad Y.1 a) (m_Pc Y.1 (m_r a :: vals) h) (vals.map (m_tr Y.1)) := ⟨m_blind _ _ _, hrec, fun U hU hW => m_pre (by rw [List.map_cons, m_tr_r (show a ≠ 0 by omega)]) S.2.2.2.2.2.1 hR hU hW⟩
  rcases hlink with hlink | ⟨host, hlink⟩
  · exact m_cont (va_runV (As := vals.map (m_tr Y.1)) (rest := st.map (m_tr Y.1)) ⟨S.1, S.2.1, S.2.2.1, S.2.2.2.1, hts⟩ hMet (cwV vals.length hts (m_good1 hlink (m_good1 hx.1 (m_good1 hx.2 (m_good1 hini hG)))) rfl rfl rfl ⟨rfl, hy⟩ ⟨by show fr + 1 ≤ _; omega, by show 8 + (nL2 + 11) + 100 * fr ≤ _; omega⟩) hpre rfl (by rw [List.length_map]) hl.1 rfl (lv_room (by rw [m_catsum]; exact hcat)) hd ⟨by omega, by omega⟩) hL kk
  · exact m_cont (va_runVN (As := vals.map (m_tr Y.1)) (rest := st.map (m_tr Y.1)) ⟨S.1, S.2.1, S.2.2.1, S.2.2.2.1, hts⟩ hMet ⟨va_cnB vals.length hts hG rfl rfl rfl (S.2.2.2.2.2.1.2.2.2.2.2.2.2.2 _ hlink) (hts _ hini) hy ⟨by show fr + 1 ≤ _; omega, by show 8 + (nL2 + 11) + 100 * fr ≤ _; omega⟩, hts _ hx.1, hts _ hx.2⟩ hpre rfl (by rw [List.length_map]) hl.1 rfl (lv_room (by rw [m_catsum]; exact hcat)) hd ⟨by omega, by omega⟩) hL kk
theorem ms_callSv {ρ : Type} {Y : m_Y ρ} {own : String} {cc : ByteArray} (S : m_Std Y own cc) {F : Nat} (hF : m_Rm Y F) {pc : Nat} {L : List (Nat × m_V)} {h : m_H} {f : Unit × m_H → Option (ρ × m_H)} {y : MethodName} {cc2 : ByteArray} {nL2 fr index : Nat} {ret : Option FieldType} {vals st stk : List m_V} {T1 : Option (Unit × m_H)} (hC : m_Con Y.2.1.2.1 Y.1 y cc2 nL2 ret fr (fun _ => []) vals h T1) (hM : m_MS own index y cc2 nL2 ret vals.length) (hfr : fr + 1 ≤ F) (hstk : vals.reverse ++ st = stk) (hcat : (st.map (fun v => if (v.1 == 1) = true then 2 else 1)).sum ≤ 8) (hd : decode cc pc = .ok (.invokestatic index, 3)) (k1 : ∀ h1, m_Sim Y (pc + 3) L (st) h1 (f ((), h1))) : m_Sim Y pc L stk h ((T1 >>= f)) := by
  subst hstk
  intro r h' hT
  obtain ⟨⟨r1, h1⟩, hT1, hT2⟩ := Option.bind_eq_some_iff.mp hT
  obtain ⟨⟨m1, m2⟩, hMet⟩ := hC Y.2.1 r1 h1 hT1
  obtain ⟨a1, b1, c1⟩ := k1 h1 r h' hT2
  refine ⟨by omega, by omega, fun hf H locs cells slots cE sE ls hR hl hL hcc hcs hcE hsE hcR hsR => ?_⟩
  have S := S hf
  obtain ⟨hF1, hF2⟩ := hF hf
  obtain ⟨⟨hlink, hini, hcode, hy, hnL⟩, hx⟩ := hM
  have hts := S.2.2.2.2.1
  have hG := m_goodc hcode
  have kk := fun (H1 : Heap) (locs1 : List Loc) (hR1 : m_R Y.1 h1 H1) (hL1 : ∀ q ∈ locs1, Y.1.1 ≤ q.base) => c1 hf H1 locs1 (cells + (m_n h1 - m_n h).toNat) (slots + (m_s h1 - m_s h).toNat) cE sE ls hR1 hl hL1 (by omega) (by omega) hcE hsE hcR hsR
  have hst : (vals.reverse ++ st).map (m_tr Y.1) = (vals.map (m_tr Y.1)).reverse ++ st.map (m_tr Y.1) := by
    rw [List.map_append, List.map_reverse]
  unfold m_WY
  rw [hst]
  have hpre : PreS Y.2.1.2.2.2.2.1 H (m_Pc Y.1 vals h) (vals.map (m_tr Y.1)) := ⟨m_blind _ _ _, fun U hU hW => m_pre rfl S.2.2.2.2.2.1 hR hU hW⟩
  rcases hlink with hlink | ⟨host, hlink⟩
  · exact m_cont (va_runS (As := vals.map (m_tr Y.1)) (rest := st.map (m_tr Y.1)) ⟨S.1, S.2.1, S.2.2.1, S.2.2.2.1, hts⟩ hMet (va_cwS vals.length hts (m_good1 hlink (m_good1 hx (m_good1 hini hG))) rfl rfl rfl hy ⟨by show fr + 1 ≤ _; omega, by show 8 + (nL2 + 11) + 100 * fr ≤ _; omega⟩) hpre rfl (by rw [List.length_map]) hl.1 rfl (lv_room (by rw [m_catsum]; exact hcat)) hd ⟨by omega, by omega⟩) hL kk
  · exact m_cont (va_runSN (As := vals.map (m_tr Y.1)) (rest := st.map (m_tr Y.1)) ⟨S.1, S.2.1, S.2.2.1, S.2.2.2.1, hts⟩ hMet ⟨va_cnB vals.length hts hG rfl rfl rfl (S.2.2.2.2.2.1.2.2.2.2.2.2.2.2 _ hlink) (hts _ hini) hy ⟨by show fr + 1 ≤ _; omega, by show 8 + (nL2 + 11) + 100 * fr ≤ _; omega⟩, hts _ hx, trivial⟩ hpre rfl (by rw [List.length_map]) hl.1 rfl (lv_room (by rw [m_catsum]; exact hcat)) hd ⟨by omega, by omega⟩) hL kk
theorem ms_callIv {ρ : Type} {Y : m_Y ρ} {own : String} {cc : ByteArray} (S : m_Std Y own cc) {F : Nat} (hF : m_Rm Y F) {pc : Nat} {L : List (Nat × m_V)} {h : m_H} {f : Unit × m_H → Option (ρ × m_H)} {y : MethodName} {cc2 : ByteArray} {nL2 fr index : Nat} {a : Int} (ht : 0 ≤ m_t h a) {vals st stk : List m_V} {T1 : Option (Unit × m_H)} (hC : m_Con Y.2.1.2.1 Y.1 y cc2 nL2 none fr (fun _ => []) (m_r a :: vals) h T1) (hM : m_MI own index y cc2 nL2 vals.length) (hfr : fr + 1 ≤ F) (hstk : vals.reverse ++ m_r a :: st = stk) (hcat : (st.map (fun v => if (v.1 == 1) = true then 2 else 1)).sum ≤ 8) (hd : decode cc pc = .ok (.invokespecial index, 3)) (k1 : ∀ h1, m_Sim Y (pc + 3) L (st) h1 (f ((), h1))) : m_Sim Y pc L stk h (T1 >>= f) := by
  subst hstk
  intro r h' hT
  obtain ⟨⟨r1, h1⟩, hT1, hT2⟩ := Option.bind_eq_some_iff.mp hT
  obtain ⟨⟨m1, m2⟩, hMet⟩ := hC Y.2.1 r1 h1 hT1
  obtain ⟨a1, b1, c1⟩ := k1 h1 r h' hT2
  refine ⟨by omega, by omega, fun hf H locs cells slots cE sE ls hR hl hL hcc hcs hcE hsE hcR hsR => ?_⟩
  have S := S hf
  obtain ⟨hF1, hF2⟩ := hF hf
  obtain ⟨⟨hlink, hini, hcode, hy, hnL⟩, hx⟩ := hM
  have hts := S.2.2.2.2.1
  have hG := m_goodc hcode
  have kk := fun (H1 : Heap) (locs1 : List Loc) (hR1 : m_R Y.1 h1 H1) (hL1 : ∀ q ∈ locs1, Y.1.1 ≤ q.base) => c1 hf H1 locs1 (cells + (m_n h1 - m_n h).toNat) (slots + (m_s h1 - m_s h).toNat) cE sE ls hR1 hl hL1 (by omega) (by omega) hcE hsE hcR hsR
  have hlt := m_ad_lt hR (a := a) (by omega)
  have hst : (vals.reverse ++ m_r a :: st).map (m_tr Y.1) = (vals.map (m_tr Y.1)).reverse ++ .ref (m_ad Y.1 a) :: st.map (m_tr Y.1) := by
    rw [List.map_append, List.map_cons, m_tr_r (show a ≠ 0 by omega), List.map_reverse]
  unfold m_WY
  rw [hst]
  have hpre : PreS Y.2.1.2.2.2.2.1 H (m_Pc Y.1 (m_r a :: vals) h) (.ref (m_ad Y.1 a) :: vals.map (m_tr Y.1)) := ⟨m_blind _ _ _, fun U hU hW => m_pre (by rw [List.map_cons, m_tr_r (show a ≠ 0 by omega)]) S.2.2.2.2.2.1 hR hU hW⟩
  rcases hlink with hlink | ⟨host, hlink⟩
  · exact m_cont (va_runI (As := vals.map (m_tr Y.1)) (rest := st.map (m_tr Y.1)) ⟨S.1, S.2.1, S.2.2.1, S.2.2.2.1, hts⟩ hMet (cwI vals.length hts hG rfl rfl rfl (hts _ hini) (hts _ hlink) (hts _ hx.1) hx.2 hy ⟨by show fr + 1 ≤ _; omega, by show 8 + (nL2 + 11) + 100 * fr ≤ _; omega⟩) hpre rfl (by rw [List.length_map]) hl.1 rfl (lv_room (by rw [m_catsum]; exact hcat)) hd ⟨by omega, by omega⟩) hL kk
  · exact m_cont (va_runIN (As := vals.map (m_tr Y.1)) (rest := st.map (m_tr Y.1)) ⟨S.1, S.2.1, S.2.2.1, S.2.2.2.1, hts⟩ hMet ⟨va_cnB vals.length hts hG rfl rfl rfl (S.2.2.2.2.2.1.2.2.2.2.2.2.2.2 _ hlink) (hts _ hini) hy ⟨by show fr + 1 ≤ _; omega, by show 8 + (nL2 + 11) + 100 * fr ≤ _; omega⟩, hx.2, hts _ hx.1⟩ hpre rfl (by rw [List.length_map]) hl.1 rfl (lv_room (by rw [m_catsum]; exact hcat)) hd ⟨by omega, by omega⟩) hL kk
theorem ms_callVi {ρ : Type} {Y : m_Y ρ} {own : String} {cc : ByteArray} (S : m_Std Y own cc) {F : Nat} (hF : m_Rm Y F) {pc : Nat} {L : List (Nat × m_V)} {h : m_H} {f : Int × m_H → Option (ρ × m_H)} {y : MethodName} {cc2 : ByteArray} {nL2 fr index : Nat} {ret : Option FieldType} {a : Int} {ci : Nat} {r0 : vw_C} (hc : vwCl[ci]? = some r0) (hci : ci < 12) (hcy : y.cls = r0.1) (ht : m_t h a = ci) {vals st stk : List m_V} {T1 : Option (Int × m_H)} (hC : m_Con Y.2.1.2.1 Y.1 y cc2 nL2 ret fr (fun r => [m_i r]) (m_r a :: vals) h T1) (hM : m_MV own index y cc2 nL2 ret vals.length) (hfr : fr + 1 ≤ F) (hstk : vals.reverse ++ m_r a :: st = stk) (hcat : (st.map (fun v => if (v.1 == 1) = true then 2 else 1)).sum ≤ 8) (hd : decode cc pc = .ok (.invokevirtual index, 3)) (k1 : ∀ r h1, m_Sim Y (pc + 3) L (m_i r :: st) h1 (f (r, h1))) : m_Sim Y pc L stk h (T1 >>= f) := by
  subst hstk
  intro r h' hT
  obtain ⟨⟨r1, h1⟩, hT1, hT2⟩ := Option.bind_eq_some_iff.mp hT
  obtain ⟨⟨m1, m2⟩, hMet⟩ := hC Y.2.1 r1 h1 hT1
  obtain ⟨a1, b1, c1⟩ := k1 r1 h1 r h' hT2
  refine ⟨by omega, by omega, fun hf H locs cells slots cE sE ls hR hl hL hcc hcs hcE hsE hcR hsR => ?_⟩
  have S := S hf
  obtain ⟨hF1, hF2⟩ := hF hf
  obtain ⟨⟨hlink, hini, hcode, hy, hnL⟩, hx⟩ := hM
  have hts := S.2.2.2.2.1
  have hG := m_goodc hcode
  have kk := fun (H1 : Heap) (locs1 : List Loc) (hR1 : m_R Y.1 h1 H1) (hL1 : ∀ q ∈ locs1, Y.1.1 ≤ q.base) => c1 hf H1 locs1 (cells + (m_n h1 - m_n h).toNat) (slots + (m_s h1 - m_s h).toNat) cE sE ls hR1 hl hL1 (by omega) (by omega) hcE hsE hcR hsR
  have hlt := m_ad_lt hR (a := a) (by omega)
  have hst : (vals.reverse ++ m_r a :: st).map (m_tr Y.1) = (vals.map (m_tr Y.1)).reverse ++ .ref (m_ad Y.1 a) :: st.map (m_tr Y.1) := by
    rw [List.map_append, List.map_cons, m_tr_r (show a ≠ 0 by omega), List.map_reverse]
  unfold m_WY
  rw [hst]
  have hrec := m_recv S.2.2.2.2.2.1 hR hci ht hc
  rw [← hcy] at hrec
  have hpre : PreV Y.2.1.2.2.2.2.1 H y.cls (m_ad Y.1 a) (m_Pc Y.1 (m_r a :: vals) h) (vals.map (m_tr Y.1)) := ⟨m_blind _ _ _, hrec, fun U hU hW => m_pre (by rw [List.map_cons, m_tr_r (show a ≠ 0 by omega)]) S.2.2.2.2.2.1 hR hU hW⟩
  rcases hlink with hlink | ⟨host, hlink⟩
  · exact m_cont (va_runV (As := vals.map (m_tr Y.1)) (rest := st.map (m_tr Y.1)) ⟨S.1, S.2.1, S.2.2.1, S.2.2.2.1, hts⟩ hMet (cwV vals.length hts (m_good1 hlink (m_good1 hx.1 (m_good1 hx.2 (m_good1 hini hG)))) rfl rfl rfl ⟨rfl, hy⟩ ⟨by show fr + 1 ≤ _; omega, by show 8 + (nL2 + 11) + 100 * fr ≤ _; omega⟩) hpre rfl (by rw [List.length_map]) hl.1 rfl (lv_room (by rw [m_catsum]; exact hcat)) hd ⟨by omega, by omega⟩) hL kk
  · exact m_cont (va_runVN (As := vals.map (m_tr Y.1)) (rest := st.map (m_tr Y.1)) ⟨S.1, S.2.1, S.2.2.1, S.2.2.2.1, hts⟩ hMet ⟨va_cnB vals.length hts hG rfl rfl rfl (S.2.2.2.2.2.1.2.2.2.2.2.2.2.2 _ hlink) (hts _ hini) hy ⟨by show fr + 1 ≤ _; omega, by show 8 + (nL2 + 11) + 100 * fr ≤ _; omega⟩, hts _ hx.1, hts _ hx.2⟩ hpre rfl (by rw [List.length_map]) hl.1 rfl (lv_room (by rw [m_catsum]; exact hcat)) hd ⟨by omega, by omega⟩) hL kk
theorem ms_callSi {ρ : Type} {Y : m_Y ρ} {own : String} {cc : ByteArray} (S : m_Std Y own cc) {F : Nat} (hF : m_Rm Y F) {pc : Nat} {L : List (Nat × m_V)} {h : m_H} {f : Int × m_H → Option (ρ × m_H)} {y : MethodName} {cc2 : ByteArray} {nL2 fr index : Nat} {ret : Option FieldType} {vals st stk : List m_V} {T1 : Option (Int × m_H)} (hC : m_Con Y.2.1.2.1 Y.1 y cc2 nL2 ret fr (fun r => [m_i r]) vals h T1) (hM : m_MS own index y cc2 nL2 ret vals.length) (hfr : fr + 1 ≤ F) (hstk : vals.reverse ++ st = stk) (hcat : (st.map (fun v => if (v.1 == 1) = true then 2 else 1)).sum ≤ 8) (hd : decode cc pc = .ok (.invokestatic index, 3)) (k1 : ∀ r h1, m_Sim Y (pc + 3) L (m_i r :: st) h1 (f (r, h1))) : m_Sim Y pc L stk h ((T1 >>= f)) := by
  subst hstk
  intro r h' hT
  obtain ⟨⟨r1, h1⟩, hT1, hT2⟩ := Option.bind_eq_some_iff.mp hT
  obtain ⟨⟨m1, m2⟩, hMet⟩ := hC Y.2.1 r1 h1 hT1
  obtain ⟨a1, b1, c1⟩ := k1 r1 h1 r h' hT2
  refine ⟨by omega, by omega, fun hf H locs cells slots cE sE ls hR hl hL hcc hcs hcE hsE hcR hsR => ?_⟩
  have S := S hf
  obtain ⟨hF1, hF2⟩ := hF hf
  obtain ⟨⟨hlink, hini, hcode, hy, hnL⟩, hx⟩ := hM
  have hts := S.2.2.2.2.1
  have hG := m_goodc hcode
  have kk := fun (H1 : Heap) (locs1 : List Loc) (hR1 : m_R Y.1 h1 H1) (hL1 : ∀ q ∈ locs1, Y.1.1 ≤ q.base) => c1 hf H1 locs1 (cells + (m_n h1 - m_n h).toNat) (slots + (m_s h1 - m_s h).toNat) cE sE ls hR1 hl hL1 (by omega) (by omega) hcE hsE hcR hsR
  have hst : (vals.reverse ++ st).map (m_tr Y.1) = (vals.map (m_tr Y.1)).reverse ++ st.map (m_tr Y.1) := by
    rw [List.map_append, List.map_reverse]
  unfold m_WY
  rw [hst]
  have hpre : PreS Y.2.1.2.2.2.2.1 H (m_Pc Y.1 vals h) (vals.map (m_tr Y.1)) := ⟨m_blind _ _ _, fun U hU hW => m_pre rfl S.2.2.2.2.2.1 hR hU hW⟩
  rcases hlink with hlink | ⟨host, hlink⟩
  · exact m_cont (va_runS (As := vals.map (m_tr Y.1)) (rest := st.map (m_tr Y.1)) ⟨S.1, S.2.1, S.2.2.1, S.2.2.2.1, hts⟩ hMet (va_cwS vals.length hts (m_good1 hlink (m_good1 hx (m_good1 hini hG))) rfl rfl rfl hy ⟨by show fr + 1 ≤ _; omega, by show 8 + (nL2 + 11) + 100 * fr ≤ _; omega⟩) hpre rfl (by rw [List.length_map]) hl.1 rfl (lv_room (by rw [m_catsum]; exact hcat)) hd ⟨by omega, by omega⟩) hL kk
  · exact m_cont (va_runSN (As := vals.map (m_tr Y.1)) (rest := st.map (m_tr Y.1)) ⟨S.1, S.2.1, S.2.2.1, S.2.2.2.1, hts⟩ hMet ⟨va_cnB vals.length hts hG rfl rfl rfl (S.2.2.2.2.2.1.2.2.2.2.2.2.2.2 _ hlink) (hts _ hini) hy ⟨by show fr + 1 ≤ _; omega, by show 8 + (nL2 + 11) + 100 * fr ≤ _; omega⟩, hts _ hx, trivial⟩ hpre rfl (by rw [List.length_map]) hl.1 rfl (lv_room (by rw [m_catsum]; exact hcat)) hd ⟨by omega, by omega⟩) hL kk
theorem ms_callTi {ρ : Type} {Y : m_Y ρ} {own : String} {cc : ByteArray} (S : m_Std Y own cc) {F : Nat} (hF : m_Rm Y F) {pc : Nat} {L : List (Nat × m_V)} {h : m_H} {f : Int × m_H → Option (ρ × m_H)} {y : MethodName} {cc2 : ByteArray} {nL2 fr index : Nat} {ret : Option FieldType} {a : Int} (hcy : y.cls = RJ0) (ht : -26 ≤ a ∧ a ≤ -2) {vals st stk : List m_V} {T1 : Option (Int × m_H)} (hC : m_Con Y.2.1.2.1 Y.1 y cc2 nL2 ret fr (fun r => [m_i r]) (m_r a :: vals) h T1) (hM : m_MV own index y cc2 nL2 ret vals.length) (hfr : fr + 1 ≤ F) (hstk : vals.reverse ++ m_r a :: st = stk) (hcat : (st.map (fun v => if (v.1 == 1) = true then 2 else 1)).sum ≤ 8) (hd : decode cc pc = .ok (.invokevirtual index, 3)) (k1 : ∀ r h1, m_Sim Y (pc + 3) L (m_i r :: st) h1 (f (r, h1))) : m_Sim Y pc L stk h (T1 >>= f) := by
  subst hstk
  intro r h' hT
  obtain ⟨⟨r1, h1⟩, hT1, hT2⟩ := Option.bind_eq_some_iff.mp hT
  obtain ⟨⟨m1, m2⟩, hMet⟩ := hC Y.2.1 r1 h1 hT1
  obtain ⟨a1, b1, c1⟩ := k1 r1 h1 r h' hT2
  refine ⟨by omega, by omega, fun hf H locs cells slots cE sE ls hR hl hL hcc hcs hcE hsE hcR hsR => ?_⟩
  have S := S hf
  obtain ⟨hF1, hF2⟩ := hF hf
  obtain ⟨⟨hlink, hini, hcode, hy, hnL⟩, hx⟩ := hM
  have hts := S.2.2.2.2.1
  have hG := m_goodc hcode
  have kk := fun (H1 : Heap) (locs1 : List Loc) (hR1 : m_R Y.1 h1 H1) (hL1 : ∀ q ∈ locs1, Y.1.1 ≤ q.base) => c1 hf H1 locs1 (cells + (m_n h1 - m_n h).toNat) (slots + (m_s h1 - m_s h).toNat) cE sE ls hR1 hl hL1 (by omega) (by omega) hcE hsE hcR hsR
  have hlt := ht
  have hst : (vals.reverse ++ m_r a :: st).map (m_tr Y.1) = (vals.map (m_tr Y.1)).reverse ++ .ref (m_ad Y.1 a) :: st.map (m_tr Y.1) := by
    rw [List.map_append, List.map_cons, m_tr_r (show a ≠ 0 by omega), List.map_reverse]
  unfold m_WY
  rw [hst]
  have hrec := m_recvT S.2.2.2.2.2.1 hR ht
  rw [← hcy] at hrec
  have hpre : PreV Y.2.1.2.2.2.2.1 H y.cls (m_ad Y.1 a) (m_Pc Y.1 (m_r a :: vals) h) (vals.map (m_tr Y.1)) := ⟨m_blind _ _ _, hrec, fun U hU hW => m_pre (by rw [List.map_cons, m_tr_r (show a ≠ 0 by omega)]) S.2.2.2.2.2.1 hR hU hW⟩
  rcases hlink with hlink | ⟨host, hlink⟩
  · exact m_cont (va_runV (As := vals.map (m_tr Y.1)) (rest := st.map (m_tr Y.1)) ⟨S.1, S.2.1, S.2.2.1, S.2.2.2.1, hts⟩ hMet (cwV vals.length hts (m_good1 hlink (m_good1 hx.1 (m_good1 hx.2 (m_good1 hini hG)))) rfl rfl rfl ⟨rfl, hy⟩ ⟨by show fr + 1 ≤ _; omega, by show 8 + (nL2 + 11) + 100 * fr ≤ _; omega⟩) hpre rfl (by rw [List.length_map]) hl.1 rfl (lv_room (by rw [m_catsum]; exact hcat)) hd ⟨by omega, by omega⟩) hL kk
  · exact m_cont (va_runVN (As := vals.map (m_tr Y.1)) (rest := st.map (m_tr Y.1)) ⟨S.1, S.2.1, S.2.2.1, S.2.2.2.1, hts⟩ hMet ⟨va_cnB vals.length hts hG rfl rfl rfl (S.2.2.2.2.2.1.2.2.2.2.2.2.2.2 _ hlink) (hts _ hini) hy ⟨by show fr + 1 ≤ _; omega, by show 8 + (nL2 + 11) + 100 * fr ≤ _; omega⟩, hts _ hx.1, hts _ hx.2⟩ hpre rfl (by rw [List.length_map]) hl.1 rfl (lv_room (by rw [m_catsum]; exact hcat)) hd ⟨by omega, by omega⟩) hL kk
theorem ms_callVz {ρ : Type} {Y : m_Y ρ} {own : String} {cc : ByteArray} (S : m_Std Y own cc) {F : Nat} (hF : m_Rm Y F) {pc : Nat} {L : List (Nat × m_V)} {h : m_H} {f : Bool × m_H → Option (ρ × m_H)} {y : MethodName} {cc2 : ByteArray} {nL2 fr index : Nat} {ret : Option FieldType} {a : Int} {ci : Nat} {r0 : vw_C} (hc : vwCl[ci]? = some r0) (hci : ci < 12) (hcy : y.cls = r0.1) (ht : m_t h a = ci) {vals st stk : List m_V} {T1 : Option (Bool × m_H)} (hC : m_Con Y.2.1.2.1 Y.1 y cc2 nL2 ret fr (fun r => [m_i (m_b2i r)]) (m_r a :: vals) h T1) (hM : m_MV own index y cc2 nL2 ret vals.length) (hfr : fr + 1 ≤ F) (hstk : vals.reverse ++ m_r a :: st = stk) (hcat : (st.map (fun v => if (v.1 == 1) = true then 2 else 1)).sum ≤ 8) (hd : decode cc pc = .ok (.invokevirtual index, 3)) (k1 : ∀ r h1, m_Sim Y (pc + 3) L (m_i (m_b2i r) :: st) h1 (f (r, h1))) : m_Sim Y pc L stk h (T1 >>= f) := by
  subst hstk
  intro r h' hT
  obtain ⟨⟨r1, h1⟩, hT1, hT2⟩ := Option.bind_eq_some_iff.mp hT
  obtain ⟨⟨m1, m2⟩, hMet⟩ := hC Y.2.1 r1 h1 hT1
  obtain ⟨a1, b1, c1⟩ := k1 r1 h1 r h' hT2
  refine ⟨by omega, by omega, fun hf H locs cells slots cE sE ls hR hl hL hcc hcs hcE hsE hcR hsR => ?_⟩
  have S := S hf
  obtain ⟨hF1, hF2⟩ := hF hf
  obtain ⟨⟨hlink, hini, hcode, hy, hnL⟩, hx⟩ := hM
  have hts := S.2.2.2.2.1
  have hG := m_goodc hcode
  have kk := fun (H1 : Heap) (locs1 : List Loc) (hR1 : m_R Y.1 h1 H1) (hL1 : ∀ q ∈ locs1, Y.1.1 ≤ q.base) => c1 hf H1 locs1 (cells + (m_n h1 - m_n h).toNat) (slots + (m_s h1 - m_s h).toNat) cE sE ls hR1 hl hL1 (by omega) (by omega) hcE hsE hcR hsR
  have hlt := m_ad_lt hR (a := a) (by omega)
  have hst : (vals.reverse ++ m_r a :: st).map (m_tr Y.1) = (vals.map (m_tr Y.1)).reverse ++ .ref (m_ad Y.1 a) :: st.map (m_tr Y.1) := by
    rw [List.map_append, List.map_cons, m_tr_r (show a ≠ 0 by omega), List.map_reverse]
  unfold m_WY
  rw [hst]
  have hrec := m_recv S.2.2.2.2.2.1 hR hci ht hc
  rw [← hcy] at hrec
  have hpre : PreV Y.2.1.2.2.2.2.1 H y.cls (m_ad Y.1 a) (m_Pc Y.1 (m_r a :: vals) h) (vals.map (m_tr Y.1)) := ⟨m_blind _ _ _, hrec, fun U hU hW => m_pre (by rw [List.map_cons, m_tr_r (show a ≠ 0 by omega)]) S.2.2.2.2.2.1 hR hU hW⟩
  rcases hlink with hlink | ⟨host, hlink⟩
  · exact m_cont (va_runV (As := vals.map (m_tr Y.1)) (rest := st.map (m_tr Y.1)) ⟨S.1, S.2.1, S.2.2.1, S.2.2.2.1, hts⟩ hMet (cwV vals.length hts (m_good1 hlink (m_good1 hx.1 (m_good1 hx.2 (m_good1 hini hG)))) rfl rfl rfl ⟨rfl, hy⟩ ⟨by show fr + 1 ≤ _; omega, by show 8 + (nL2 + 11) + 100 * fr ≤ _; omega⟩) hpre rfl (by rw [List.length_map]) hl.1 rfl (lv_room (by rw [m_catsum]; exact hcat)) hd ⟨by omega, by omega⟩) hL kk
  · exact m_cont (va_runVN (As := vals.map (m_tr Y.1)) (rest := st.map (m_tr Y.1)) ⟨S.1, S.2.1, S.2.2.1, S.2.2.2.1, hts⟩ hMet ⟨va_cnB vals.length hts hG rfl rfl rfl (S.2.2.2.2.2.1.2.2.2.2.2.2.2.2 _ hlink) (hts _ hini) hy ⟨by show fr + 1 ≤ _; omega, by show 8 + (nL2 + 11) + 100 * fr ≤ _; omega⟩, hts _ hx.1, hts _ hx.2⟩ hpre rfl (by rw [List.length_map]) hl.1 rfl (lv_room (by rw [m_catsum]; exact hcat)) hd ⟨by omega, by omega⟩) hL kk
theorem ms_callSz {ρ : Type} {Y : m_Y ρ} {own : String} {cc : ByteArray} (S : m_Std Y own cc) {F : Nat} (hF : m_Rm Y F) {pc : Nat} {L : List (Nat × m_V)} {h : m_H} {f : Bool × m_H → Option (ρ × m_H)} {y : MethodName} {cc2 : ByteArray} {nL2 fr index : Nat} {ret : Option FieldType} {vals st stk : List m_V} {T1 : Option (Bool × m_H)} (hC : m_Con Y.2.1.2.1 Y.1 y cc2 nL2 ret fr (fun r => [m_i (m_b2i r)]) vals h T1) (hM : m_MS own index y cc2 nL2 ret vals.length) (hfr : fr + 1 ≤ F) (hstk : vals.reverse ++ st = stk) (hcat : (st.map (fun v => if (v.1 == 1) = true then 2 else 1)).sum ≤ 8) (hd : decode cc pc = .ok (.invokestatic index, 3)) (k1 : ∀ r h1, m_Sim Y (pc + 3) L (m_i (m_b2i r) :: st) h1 (f (r, h1))) : m_Sim Y pc L stk h ((T1 >>= f)) := by
  subst hstk
  intro r h' hT
  obtain ⟨⟨r1, h1⟩, hT1, hT2⟩ := Option.bind_eq_some_iff.mp hT
  obtain ⟨⟨m1, m2⟩, hMet⟩ := hC Y.2.1 r1 h1 hT1
  obtain ⟨a1, b1, c1⟩ := k1 r1 h1 r h' hT2
  refine ⟨by omega, by omega, fun hf H locs cells slots cE sE ls hR hl hL hcc hcs hcE hsE hcR hsR => ?_⟩
  have S := S hf
  obtain ⟨hF1, hF2⟩ := hF hf
  obtain ⟨⟨hlink, hini, hcode, hy, hnL⟩, hx⟩ := hM
  have hts := S.2.2.2.2.1
  have hG := m_goodc hcode
  have kk := fun (H1 : Heap) (locs1 : List Loc) (hR1 : m_R Y.1 h1 H1) (hL1 : ∀ q ∈ locs1, Y.1.1 ≤ q.base) => c1 hf H1 locs1 (cells + (m_n h1 - m_n h).toNat) (slots + (m_s h1 - m_s h).toNat) cE sE ls hR1 hl hL1 (by omega) (by omega) hcE hsE hcR hsR
  have hst : (vals.reverse ++ st).map (m_tr Y.1) = (vals.map (m_tr Y.1)).reverse ++ st.map (m_tr Y.1) := by
    rw [List.map_append, List.map_reverse]
  unfold m_WY
  rw [hst]
  have hpre : PreS Y.2.1.2.2.2.2.1 H (m_Pc Y.1 vals h) (vals.map (m_tr Y.1)) := ⟨m_blind _ _ _, fun U hU hW => m_pre rfl S.2.2.2.2.2.1 hR hU hW⟩
  rcases hlink with hlink | ⟨host, hlink⟩
  · exact m_cont (va_runS (As := vals.map (m_tr Y.1)) (rest := st.map (m_tr Y.1)) ⟨S.1, S.2.1, S.2.2.1, S.2.2.2.1, hts⟩ hMet (va_cwS vals.length hts (m_good1 hlink (m_good1 hx (m_good1 hini hG))) rfl rfl rfl hy ⟨by show fr + 1 ≤ _; omega, by show 8 + (nL2 + 11) + 100 * fr ≤ _; omega⟩) hpre rfl (by rw [List.length_map]) hl.1 rfl (lv_room (by rw [m_catsum]; exact hcat)) hd ⟨by omega, by omega⟩) hL kk
  · exact m_cont (va_runSN (As := vals.map (m_tr Y.1)) (rest := st.map (m_tr Y.1)) ⟨S.1, S.2.1, S.2.2.1, S.2.2.2.1, hts⟩ hMet ⟨va_cnB vals.length hts hG rfl rfl rfl (S.2.2.2.2.2.1.2.2.2.2.2.2.2.2 _ hlink) (hts _ hini) hy ⟨by show fr + 1 ≤ _; omega, by show 8 + (nL2 + 11) + 100 * fr ≤ _; omega⟩, hts _ hx, trivial⟩ hpre rfl (by rw [List.length_map]) hl.1 rfl (lv_room (by rw [m_catsum]; exact hcat)) hd ⟨by omega, by omega⟩) hL kk
theorem ms_callTz {ρ : Type} {Y : m_Y ρ} {own : String} {cc : ByteArray} (S : m_Std Y own cc) {F : Nat} (hF : m_Rm Y F) {pc : Nat} {L : List (Nat × m_V)} {h : m_H} {f : Bool × m_H → Option (ρ × m_H)} {y : MethodName} {cc2 : ByteArray} {nL2 fr index : Nat} {ret : Option FieldType} {a : Int} (hcy : y.cls = RJ0) (ht : -26 ≤ a ∧ a ≤ -2) {vals st stk : List m_V} {T1 : Option (Bool × m_H)} (hC : m_Con Y.2.1.2.1 Y.1 y cc2 nL2 ret fr (fun r => [m_i (m_b2i r)]) (m_r a :: vals) h T1) (hM : m_MV own index y cc2 nL2 ret vals.length) (hfr : fr + 1 ≤ F) (hstk : vals.reverse ++ m_r a :: st = stk) (hcat : (st.map (fun v => if (v.1 == 1) = true then 2 else 1)).sum ≤ 8) (hd : decode cc pc = .ok (.invokevirtual index, 3)) (k1 : ∀ r h1, m_Sim Y (pc + 3) L (m_i (m_b2i r) :: st) h1 (f (r, h1))) : m_Sim Y pc L stk h (T1 >>= f) := by
  subst hstk
  intro r h' hT
  obtain ⟨⟨r1, h1⟩, hT1, hT2⟩ := Option.bind_eq_some_iff.mp hT
  obtain ⟨⟨m1, m2⟩, hMet⟩ := hC Y.2.1 r1 h1 hT1
  obtain ⟨a1, b1, c1⟩ := k1 r1 h1 r h' hT2
  refine ⟨by omega, by omega, fun hf H locs cells slots cE sE ls hR hl hL hcc hcs hcE hsE hcR hsR => ?_⟩
  have S := S hf
  obtain ⟨hF1, hF2⟩ := hF hf
  obtain ⟨⟨hlink, hini, hcode, hy, hnL⟩, hx⟩ := hM
  have hts := S.2.2.2.2.1
  have hG := m_goodc hcode
  have kk := fun (H1 : Heap) (locs1 : List Loc) (hR1 : m_R Y.1 h1 H1) (hL1 : ∀ q ∈ locs1, Y.1.1 ≤ q.base) => c1 hf H1 locs1 (cells + (m_n h1 - m_n h).toNat) (slots + (m_s h1 - m_s h).toNat) cE sE ls hR1 hl hL1 (by omega) (by omega) hcE hsE hcR hsR
  have hlt := ht
  have hst : (vals.reverse ++ m_r a :: st).map (m_tr Y.1) = (vals.map (m_tr Y.1)).reverse ++ .ref (m_ad Y.1 a) :: st.map (m_tr Y.1) := by
    rw [List.map_append, List.map_cons, m_tr_r (show a ≠ 0 by omega), List.map_reverse]
  unfold m_WY
  rw [hst]
  have hrec := m_recvT S.2.2.2.2.2.1 hR ht
  rw [← hcy] at hrec
  have hpre : PreV Y.2.1.2.2.2.2.1 H y.cls (m_ad Y.1 a) (m_Pc Y.1 (m_r a :: vals) h) (vals.map (m_tr Y.1)) := ⟨m_blind _ _ _, hrec, fun U hU hW => m_pre (by rw [List.map_cons, m_tr_r (show a ≠ 0 by omega)]) S.2.2.2.2.2.1 hR hU hW⟩
  rcases hlink with hlink | ⟨host, hlink⟩
  · exact m_cont (va_runV (As := vals.map (m_tr Y.1)) (rest := st.map (m_tr Y.1)) ⟨S.1, S.2.1, S.2.2.1, S.2.2.2.1, hts⟩ hMet (cwV vals.length hts (m_good1 hlink (m_good1 hx.1 (m_good1 hx.2 (m_good1 hini hG)))) rfl rfl rfl ⟨rfl, hy⟩ ⟨by show fr + 1 ≤ _; omega, by show 8 + (nL2 + 11) + 100 * fr ≤ _; omega⟩) hpre rfl (by rw [List.length_map]) hl.1 rfl (lv_room (by rw [m_catsum]; exact hcat)) hd ⟨by omega, by omega⟩) hL kk
  · exact m_cont (va_runVN (As := vals.map (m_tr Y.1)) (rest := st.map (m_tr Y.1)) ⟨S.1, S.2.1, S.2.2.1, S.2.2.2.1, hts⟩ hMet ⟨va_cnB vals.length hts hG rfl rfl rfl (S.2.2.2.2.2.1.2.2.2.2.2.2.2.2 _ hlink) (hts _ hini) hy ⟨by show fr + 1 ≤ _; omega, by show 8 + (nL2 + 11) + 100 * fr ≤ _; omega⟩, hts _ hx.1, hts _ hx.2⟩ hpre rfl (by rw [List.length_map]) hl.1 rfl (lv_room (by rw [m_catsum]; exact hcat)) hd ⟨by omega, by omega⟩) hL kk
theorem ms_callVl {ρ : Type} {Y : m_Y ρ} {own : String} {cc : ByteArray} (S : m_Std Y own cc) {F : Nat} (hF : m_Rm Y F) {pc : Nat} {L : List (Nat × m_V)} {h : m_H} {f : Int × m_H → Option (ρ × m_H)} {y : MethodName} {cc2 : ByteArray} {nL2 fr index : Nat} {ret : Option FieldType} {a : Int} {ci : Nat} {r0 : vw_C} (hc : vwCl[ci]? = some r0) (hci : ci < 12) (hcy : y.cls = r0.1) (ht : m_t h a = ci) {vals st stk : List m_V} {T1 : Option (Int × m_H)} (hC : m_Con Y.2.1.2.1 Y.1 y cc2 nL2 ret fr (fun r => [m_j r]) (m_r a :: vals) h T1) (hM : m_MV own index y cc2 nL2 ret vals.length) (hfr : fr + 1 ≤ F) (hstk : vals.reverse ++ m_r a :: st = stk) (hcat : (st.map (fun v => if (v.1 == 1) = true then 2 else 1)).sum ≤ 8) (hd : decode cc pc = .ok (.invokevirtual index, 3)) (k1 : ∀ r h1, m_Sim Y (pc + 3) L (m_j r :: st) h1 (f (r, h1))) : m_Sim Y pc L stk h (T1 >>= f) := by
  subst hstk
  intro r h' hT
  obtain ⟨⟨r1, h1⟩, hT1, hT2⟩ := Option.bind_eq_some_iff.mp hT
  obtain ⟨⟨m1, m2⟩, hMet⟩ := hC Y.2.1 r1 h1 hT1
  obtain ⟨a1, b1, c1⟩ := k1 r1 h1 r h' hT2
  refine ⟨by omega, by omega, fun hf H locs cells slots cE sE ls hR hl hL hcc hcs hcE hsE hcR hsR => ?_⟩
  have S := S hf
  obtain ⟨hF1, hF2⟩ := hF hf
  obtain ⟨⟨hlink, hini, hcode, hy, hnL⟩, hx⟩ := hM
  have hts := S.2.2.2.2.1
  have hG := m_goodc hcode
  have kk := fun (H1 : Heap) (locs1 : List Loc) (hR1 : m_R Y.1 h1 H1) (hL1 : ∀ q ∈ locs1, Y.1.1 ≤ q.base) => c1 hf H1 locs1 (cells + (m_n h1 - m_n h).toNat) (slots + (m_s h1 - m_s h).toNat) cE sE ls hR1 hl hL1 (by omega) (by omega) hcE hsE hcR hsR
  have hlt := m_ad_lt hR (a := a) (by omega)
  have hst : (vals.reverse ++ m_r a :: st).map (m_tr Y.1) = (vals.map (m_tr Y.1)).reverse ++ .ref (m_ad Y.1 a) :: st.map (m_tr Y.1) := by
    rw [List.map_append, List.map_cons, m_tr_r (show a ≠ 0 by omega), List.map_reverse]
  unfold m_WY
  rw [hst]
  have hrec := m_recv S.2.2.2.2.2.1 hR hci ht hc
  rw [← hcy] at hrec
  have hpre : PreV Y.2.1.2.2.2.2.1 H y.cls (m_ad Y.1 a) (m_Pc Y.1 (m_r a :: vals) h) (vals.map (m_tr Y.1)) := ⟨m_blind _ _ _, hrec, fun U hU hW => m_pre (by rw [List.map_cons, m_tr_r (show a ≠ 0 by omega)]) S.2.2.2.2.2.1 hR hU hW⟩
  rcases hlink with hlink | ⟨host, hlink⟩
  · exact m_cont (va_runV (As := vals.map (m_tr Y.1)) (rest := st.map (m_tr Y.1)) ⟨S.1, S.2.1, S.2.2.1, S.2.2.2.1, hts⟩ hMet (cwV vals.length hts (m_good1 hlink (m_good1 hx.1 (m_good1 hx.2 (m_good1 hini hG)))) rfl rfl rfl ⟨rfl, hy⟩ ⟨by show fr + 1 ≤ _; omega, by show 8 + (nL2 + 11) + 100 * fr ≤ _; omega⟩) hpre rfl (by rw [List.length_map]) hl.1 rfl (lv_room (by rw [m_catsum]; exact hcat)) hd ⟨by omega, by omega⟩) hL kk
  · exact m_cont (va_runVN (As := vals.map (m_tr Y.1)) (rest := st.map (m_tr Y.1)) ⟨S.1, S.2.1, S.2.2.1, S.2.2.2.1, hts⟩ hMet ⟨va_cnB vals.length hts hG rfl rfl rfl (S.2.2.2.2.2.1.2.2.2.2.2.2.2.2 _ hlink) (hts _ hini) hy ⟨by show fr + 1 ≤ _; omega, by show 8 + (nL2 + 11) + 100 * fr ≤ _; omega⟩, hts _ hx.1, hts _ hx.2⟩ hpre rfl (by rw [List.length_map]) hl.1 rfl (lv_room (by rw [m_catsum]; exact hcat)) hd ⟨by omega, by omega⟩) hL kk
theorem ms_callSl {ρ : Type} {Y : m_Y ρ} {own : String} {cc : ByteArray} (S : m_Std Y own cc) {F : Nat} (hF : m_Rm Y F) {pc : Nat} {L : List (Nat × m_V)} {h : m_H} {f : Int × m_H → Option (ρ × m_H)} {y : MethodName} {cc2 : ByteArray} {nL2 fr index : Nat} {ret : Option FieldType} {vals st stk : List m_V} {T1 : Option (Int × m_H)} (hC : m_Con Y.2.1.2.1 Y.1 y cc2 nL2 ret fr (fun r => [m_j r]) vals h T1) (hM : m_MS own index y cc2 nL2 ret vals.length) (hfr : fr + 1 ≤ F) (hstk : vals.reverse ++ st = stk) (hcat : (st.map (fun v => if (v.1 == 1) = true then 2 else 1)).sum ≤ 8) (hd : decode cc pc = .ok (.invokestatic index, 3)) (k1 : ∀ r h1, m_Sim Y (pc + 3) L (m_j r :: st) h1 (f (r, h1))) : m_Sim Y pc L stk h ((T1 >>= f)) := by
  subst hstk
  intro r h' hT
  obtain ⟨⟨r1, h1⟩, hT1, hT2⟩ := Option.bind_eq_some_iff.mp hT
  obtain ⟨⟨m1, m2⟩, hMet⟩ := hC Y.2.1 r1 h1 hT1
  obtain ⟨a1, b1, c1⟩ := k1 r1 h1 r h' hT2
  refine ⟨by omega, by omega, fun hf H locs cells slots cE sE ls hR hl hL hcc hcs hcE hsE hcR hsR => ?_⟩
  have S := S hf
  obtain ⟨hF1, hF2⟩ := hF hf
  obtain ⟨⟨hlink, hini, hcode, hy, hnL⟩, hx⟩ := hM
  have hts := S.2.2.2.2.1
  have hG := m_goodc hcode
  have kk := fun (H1 : Heap) (locs1 : List Loc) (hR1 : m_R Y.1 h1 H1) (hL1 : ∀ q ∈ locs1, Y.1.1 ≤ q.base) => c1 hf H1 locs1 (cells + (m_n h1 - m_n h).toNat) (slots + (m_s h1 - m_s h).toNat) cE sE ls hR1 hl hL1 (by omega) (by omega) hcE hsE hcR hsR
  have hst : (vals.reverse ++ st).map (m_tr Y.1) = (vals.map (m_tr Y.1)).reverse ++ st.map (m_tr Y.1) := by
    rw [List.map_append, List.map_reverse]
  unfold m_WY
  rw [hst]
  have hpre : PreS Y.2.1.2.2.2.2.1 H (m_Pc Y.1 vals h) (vals.map (m_tr Y.1)) := ⟨m_blind _ _ _, fun U hU hW => m_pre rfl S.2.2.2.2.2.1 hR hU hW⟩
  rcases hlink with hlink | ⟨host, hlink⟩
  · exact m_cont (va_runS (As := vals.map (m_tr Y.1)) (rest := st.map (m_tr Y.1)) ⟨S.1, S.2.1, S.2.2.1, S.2.2.2.1, hts⟩ hMet (va_cwS vals.length hts (m_good1 hlink (m_good1 hx (m_good1 hini hG))) rfl rfl rfl hy ⟨by show fr + 1 ≤ _; omega, by show 8 + (nL2 + 11) + 100 * fr ≤ _; omega⟩) hpre rfl (by rw [List.length_map]) hl.1 rfl (lv_room (by rw [m_catsum]; exact hcat)) hd ⟨by omega, by omega⟩) hL kk
  · exact m_cont (va_runSN (As := vals.map (m_tr Y.1)) (rest := st.map (m_tr Y.1)) ⟨S.1, S.2.1, S.2.2.1, S.2.2.2.1, hts⟩ hMet ⟨va_cnB vals.length hts hG rfl rfl rfl (S.2.2.2.2.2.1.2.2.2.2.2.2.2.2 _ hlink) (hts _ hini) hy ⟨by show fr + 1 ≤ _; omega, by show 8 + (nL2 + 11) + 100 * fr ≤ _; omega⟩, hts _ hx, trivial⟩ hpre rfl (by rw [List.length_map]) hl.1 rfl (lv_room (by rw [m_catsum]; exact hcat)) hd ⟨by omega, by omega⟩) hL kk
theorem ms_callVa {ρ : Type} {Y : m_Y ρ} {own : String} {cc : ByteArray} (S : m_Std Y own cc) {F : Nat} (hF : m_Rm Y F) {pc : Nat} {L : List (Nat × m_V)} {h : m_H} {f : Int × m_H → Option (ρ × m_H)} {y : MethodName} {cc2 : ByteArray} {nL2 fr index : Nat} {ret : Option FieldType} {a : Int} {ci : Nat} {r0 : vw_C} (hc : vwCl[ci]? = some r0) (hci : ci < 12) (hcy : y.cls = r0.1) (ht : m_t h a = ci) {vals st stk : List m_V} {T1 : Option (Int × m_H)} (hC : m_Con Y.2.1.2.1 Y.1 y cc2 nL2 ret fr (fun r => [m_r r]) (m_r a :: vals) h T1) (hM : m_MV own index y cc2 nL2 ret vals.length) (hfr : fr + 1 ≤ F) (hstk : vals.reverse ++ m_r a :: st = stk) (hcat : (st.map (fun v => if (v.1 == 1) = true then 2 else 1)).sum ≤ 8) (hd : decode cc pc = .ok (.invokevirtual index, 3)) (k1 : ∀ r h1, m_Sim Y (pc + 3) L (m_r r :: st) h1 (f (r, h1))) : m_Sim Y pc L stk h (T1 >>= f) := by
  subst hstk
  intro r h' hT
  obtain ⟨⟨r1, h1⟩, hT1, hT2⟩ := Option.bind_eq_some_iff.mp hT
  obtain ⟨⟨m1, m2⟩, hMet⟩ := hC Y.2.1 r1 h1 hT1
  obtain ⟨a1, b1, c1⟩ := k1 r1 h1 r h' hT2
  refine ⟨by omega, by omega, fun hf H locs cells slots cE sE ls hR hl hL hcc hcs hcE hsE hcR hsR => ?_⟩
  have S := S hf
  obtain ⟨hF1, hF2⟩ := hF hf
  obtain ⟨⟨hlink, hini, hcode, hy, hnL⟩, hx⟩ := hM
  have hts := S.2.2.2.2.1
  have hG := m_goodc hcode
  have kk := fun (H1 : Heap) (locs1 : List Loc) (hR1 : m_R Y.1 h1 H1) (hL1 : ∀ q ∈ locs1, Y.1.1 ≤ q.base) => c1 hf H1 locs1 (cells + (m_n h1 - m_n h).toNat) (slots + (m_s h1 - m_s h).toNat) cE sE ls hR1 hl hL1 (by omega) (by omega) hcE hsE hcR hsR
  have hlt := m_ad_lt hR (a := a) (by omega)
  have hst : (vals.reverse ++ m_r a :: st).map (m_tr Y.1) = (vals.map (m_tr Y.1)).reverse ++ .ref (m_ad Y.1 a) :: st.map (m_tr Y.1) := by
    rw [List.map_append, List.map_cons, m_tr_r (show a ≠ 0 by omega), List.map_reverse]
  unfold m_WY
  rw [hst]
  have hrec := m_recv S.2.2.2.2.2.1 hR hci ht hc
  rw [← hcy] at hrec
  have hpre : PreV Y.2.1.2.2.2.2.1 H y.cls (m_ad Y.1 a) (m_Pc Y.1 (m_r a :: vals) h) (vals.map (m_tr Y.1)) := ⟨m_blind _ _ _, hrec, fun U hU hW => m_pre (by rw [List.map_cons, m_tr_r (show a ≠ 0 by omega)]) S.2.2.2.2.2.1 hR hU hW⟩
  rcases hlink with hlink | ⟨host, hlink⟩
  · exact m_cont (va_runV (As := vals.map (m_tr Y.1)) (rest := st.map (m_tr Y.1)) ⟨S.1, S.2.1, S.2.2.1, S.2.2.2.1, hts⟩ hMet (cwV vals.length hts (m_good1 hlink (m_good1 hx.1 (m_good1 hx.2 (m_good1 hini hG)))) rfl rfl rfl ⟨rfl, hy⟩ ⟨by show fr + 1 ≤ _; omega, by show 8 + (nL2 + 11) + 100 * fr ≤ _; omega⟩) hpre rfl (by rw [List.length_map]) hl.1 rfl (lv_room (by rw [m_catsum]; exact hcat)) hd ⟨by omega, by omega⟩) hL kk
  · exact m_cont (va_runVN (As := vals.map (m_tr Y.1)) (rest := st.map (m_tr Y.1)) ⟨S.1, S.2.1, S.2.2.1, S.2.2.2.1, hts⟩ hMet ⟨va_cnB vals.length hts hG rfl rfl rfl (S.2.2.2.2.2.1.2.2.2.2.2.2.2.2 _ hlink) (hts _ hini) hy ⟨by show fr + 1 ≤ _; omega, by show 8 + (nL2 + 11) + 100 * fr ≤ _; omega⟩, hts _ hx.1, hts _ hx.2⟩ hpre rfl (by rw [List.length_map]) hl.1 rfl (lv_room (by rw [m_catsum]; exact hcat)) hd ⟨by omega, by omega⟩) hL kk
theorem ms_callSa {ρ : Type} {Y : m_Y ρ} {own : String} {cc : ByteArray} (S : m_Std Y own cc) {F : Nat} (hF : m_Rm Y F) {pc : Nat} {L : List (Nat × m_V)} {h : m_H} {f : Int × m_H → Option (ρ × m_H)} {y : MethodName} {cc2 : ByteArray} {nL2 fr index : Nat} {ret : Option FieldType} {vals st stk : List m_V} {T1 : Option (Int × m_H)} (hC : m_Con Y.2.1.2.1 Y.1 y cc2 nL2 ret fr (fun r => [m_r r]) vals h T1) (hM : m_MS own index y cc2 nL2 ret vals.length) (hfr : fr + 1 ≤ F) (hstk : vals.reverse ++ st = stk) (hcat : (st.map (fun v => if (v.1 == 1) = true then 2 else 1)).sum ≤ 8) (hd : decode cc pc = .ok (.invokestatic index, 3)) (k1 : ∀ r h1, m_Sim Y (pc + 3) L (m_r r :: st) h1 (f (r, h1))) : m_Sim Y pc L stk h ((T1 >>= f)) := by
  subst hstk
  intro r h' hT
  obtain ⟨⟨r1, h1⟩, hT1, hT2⟩ := Option.bind_eq_some_iff.mp hT
  obtain ⟨⟨m1, m2⟩, hMet⟩ := hC Y.2.1 r1 h1 hT1
  obtain ⟨a1, b1, c1⟩ := k1 r1 h1 r h' hT2
  refine ⟨by omega, by omega, fun hf H locs cells slots cE sE ls hR hl hL hcc hcs hcE hsE hcR hsR => ?_⟩
  have S := S hf
  obtain ⟨hF1, hF2⟩ := hF hf
  obtain ⟨⟨hlink, hini, hcode, hy, hnL⟩, hx⟩ := hM
  have hts := S.2.2.2.2.1
  have hG := m_goodc hcode
  have kk := fun (H1 : Heap) (locs1 : List Loc) (hR1 : m_R Y.1 h1 H1) (hL1 : ∀ q ∈ locs1, Y.1.1 ≤ q.base) => c1 hf H1 locs1 (cells + (m_n h1 - m_n h).toNat) (slots + (m_s h1 - m_s h).toNat) cE sE ls hR1 hl hL1 (by omega) (by omega) hcE hsE hcR hsR
  have hst : (vals.reverse ++ st).map (m_tr Y.1) = (vals.map (m_tr Y.1)).reverse ++ st.map (m_tr Y.1) := by
    rw [List.map_append, List.map_reverse]
  unfold m_WY
  rw [hst]
  have hpre : PreS Y.2.1.2.2.2.2.1 H (m_Pc Y.1 vals h) (vals.map (m_tr Y.1)) := ⟨m_blind _ _ _, fun U hU hW => m_pre rfl S.2.2.2.2.2.1 hR hU hW⟩
  rcases hlink with hlink | ⟨host, hlink⟩
  · exact m_cont (va_runS (As := vals.map (m_tr Y.1)) (rest := st.map (m_tr Y.1)) ⟨S.1, S.2.1, S.2.2.1, S.2.2.2.1, hts⟩ hMet (va_cwS vals.length hts (m_good1 hlink (m_good1 hx (m_good1 hini hG))) rfl rfl rfl hy ⟨by show fr + 1 ≤ _; omega, by show 8 + (nL2 + 11) + 100 * fr ≤ _; omega⟩) hpre rfl (by rw [List.length_map]) hl.1 rfl (lv_room (by rw [m_catsum]; exact hcat)) hd ⟨by omega, by omega⟩) hL kk
  · exact m_cont (va_runSN (As := vals.map (m_tr Y.1)) (rest := st.map (m_tr Y.1)) ⟨S.1, S.2.1, S.2.2.1, S.2.2.2.1, hts⟩ hMet ⟨va_cnB vals.length hts hG rfl rfl rfl (S.2.2.2.2.2.1.2.2.2.2.2.2.2.2 _ hlink) (hts _ hini) hy ⟨by show fr + 1 ≤ _; omega, by show 8 + (nL2 + 11) + 100 * fr ≤ _; omega⟩, hts _ hx, trivial⟩ hpre rfl (by rw [List.length_map]) hl.1 rfl (lv_room (by rw [m_catsum]; exact hcat)) hd ⟨by omega, by omega⟩) hL kk
