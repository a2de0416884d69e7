/-! ROWS, ONE AN INSTRUCTION: numbers, locals, the stack, branches -/
theorem m_lt_iff (a b : Int) : Int32.ofInt a < Int32.ofInt b ↔ m_w a < m_w b := by rw [Int32.lt_iff_toInt_lt, m_w_i, m_w_i]
theorem m_le_iff (a b : Int) : Int32.ofInt a ≤ Int32.ofInt b ↔ ¬ m_w b < m_w a := by rw [Int32.le_iff_toInt_le, m_w_i, m_w_i]; omega
theorem m_eq_iff (a b : Int) : Int32.ofInt a = Int32.ofInt b ↔ m_w a = m_w b := by rw [← Int32.toInt_inj, m_w_i, m_w_i]
theorem m_w0 : m_w 0 = 0 := rfl
theorem m_i8 {n : Int} (h : (decide (-128 ≤ n) && decide (n < 128)) = true) : (Int8.ofInt n).toInt32 = Int32.ofInt n := by
  simp only [Bool.and_eq_true, decide_eq_true_eq] at h
  apply Int32.toInt_inj.mp
  rw [m_w_i, m_w_of (by omega) (by omega)]
  show (Int8.ofInt n).toInt32.toInt = n
  rw [Int8.toInt_toInt32, Int8.toInt_ofInt_of_le (by omega) (by omega)]
theorem m_i16 {n : Int} (h : (decide (-32768 ≤ n) && decide (n < 32768)) = true) : (Int16.ofInt n).toInt32 = Int32.ofInt n := by
  simp only [Bool.and_eq_true, decide_eq_true_eq] at h
  apply Int32.toInt_inj.mp
  rw [m_w_i, m_w_of (by omega) (by omega)]
  show (Int16.ofInt n).toInt32.toInt = n
  rw [Int16.toInt_toInt32, Int16.toInt_ofInt_of_le (by omega) (by omega)]
theorem m_cat1 (d : m_D) {v : m_V} (h : (v.1 == 1) = false) : (m_tr d v).category = 1 := by
  have := m_cat d v
  rw [h] at this
  rcases lv_cat (m_tr d v) with q | q
  · exact q
  · rw [q] at this; cases this
theorem ms_iconst {ρ : Type} {Y : m_Y ρ} {own : String} {cc : ByteArray} (S : m_Std Y own cc) {pc : Nat} {L : List (Nat × m_V)} {st : List m_V} {h : m_H} {T : Option (ρ × m_H)} {n : Int} (hd : decode cc pc = .ok (.iconst n, 1)) (k : m_Sim Y (pc + 1) L (m_i n :: st) h T) : m_Sim Y pc L st h T :=
  m_pu S k (fun S H locs cells slots Q ls hl kk => lv_iconst S.1 S.2.1 hd rfl (kk ls hl))
theorem ms_bipush {ρ : Type} {Y : m_Y ρ} {own : String} {cc : ByteArray} (S : m_Std Y own cc) {pc : Nat} {L : List (Nat × m_V)} {st : List m_V} {h : m_H} {T : Option (ρ × m_H)} {n : Int} (hd : decode cc pc = .ok (.bipush n, 2)) (hn : (decide (-128 ≤ n) && decide (n < 128)) = true) (k : m_Sim Y (pc + 2) L (m_i n :: st) h T) : m_Sim Y pc L st h T :=
  m_pu S k (fun S H locs cells slots Q ls hl kk => lv_bipush S.1 S.2.1 hd (m_i8 hn) (kk ls hl))
theorem ms_sipush {ρ : Type} {Y : m_Y ρ} {own : String} {cc : ByteArray} (S : m_Std Y own cc) {pc : Nat} {L : List (Nat × m_V)} {st : List m_V} {h : m_H} {T : Option (ρ × m_H)} {n : Int} (hd : decode cc pc = .ok (.sipush n, 3)) (hn : (decide (-32768 ≤ n) && decide (n < 32768)) = true) (k : m_Sim Y (pc + 3) L (m_i n :: st) h T) : m_Sim Y pc L st h T :=
  m_pu S k (fun S H locs cells slots Q ls hl kk => lv_sipush S.1 S.2.1 hd (m_i16 hn) (kk ls hl))
theorem ms_ldc {ρ : Type} {Y : m_Y ρ} {own : String} {cc : ByteArray} (S : m_Std Y own cc) {pc : Nat} {L : List (Nat × m_V)} {st : List m_V} {h : m_H} {T : Option (ρ × m_H)} {n : Int} {index : Nat} (hw : Cond.constant own index (Int32.ofInt n) ∈ m_nest) (hd : decode cc pc = .ok (.ldc index, 2)) (k : m_Sim Y (pc + 2) L (m_i n :: st) h T) : m_Sim Y pc L st h T :=
  m_pu S k (fun S H locs cells slots Q ls hl kk => lv_ldc S.1 S.2.1 S.2.2.2.1 (va_Nw.use rfl (S.2.2.2.2.2.1.2.2.2.2.2.2.2.2 _ hw)) hd (kk ls hl))
theorem ms_ldcw {ρ : Type} {Y : m_Y ρ} {own : String} {cc : ByteArray} (S : m_Std Y own cc) {pc : Nat} {L : List (Nat × m_V)} {st : List m_V} {h : m_H} {T : Option (ρ × m_H)} {n : Int} {index : Nat} (hw : Cond.constant own index (Int32.ofInt n) ∈ m_nest) (hd : decode cc pc = .ok (.ldc_w index, 3)) (k : m_Sim Y (pc + 3) L (m_i n :: st) h T) : m_Sim Y pc L st h T :=
  m_pu S k (fun S H locs cells slots Q ls hl kk => lv_ldcw S.1 S.2.1 S.2.2.2.1 (va_Nw.use rfl (S.2.2.2.2.2.1.2.2.2.2.2.2.2.2 _ hw)) hd (kk ls hl))
theorem ms_ldc2 {ρ : Type} {Y : m_Y ρ} {own : String} {cc : ByteArray} (S : m_Std Y own cc) {pc : Nat} {L : List (Nat × m_V)} {st : List m_V} {h : m_H} {T : Option (ρ × m_H)} {n : Int} {index : Nat} (hw : Cond.constantLong own index (Int64.ofInt n) ∈ m_nest) (hd : decode cc pc = .ok (.ldc2_w index, 3)) (k : m_Sim Y (pc + 3) L (m_j n :: st) h T) : m_Sim Y pc L st h T :=
  m_pu S k (fun S H locs cells slots Q ls hl kk => lv_ldc2 S.1 S.2.1 S.2.2.2.1 (va_Nw.use rfl (S.2.2.2.2.2.1.2.2.2.2.2.2.2.2 _ hw)) hd (kk ls hl))
theorem ms_lconst {ρ : Type} {Y : m_Y ρ} {own : String} {cc : ByteArray} (S : m_Std Y own cc) {pc : Nat} {L : List (Nat × m_V)} {st : List m_V} {h : m_H} {T : Option (ρ × m_H)} {q : Fin 2} {n : Int} (hn : Int64.ofNat (q : Nat) = Int64.ofInt n) (hd : decode cc pc = .ok (.lconst q, 1)) (k : m_Sim Y (pc + 1) L (m_j n :: st) h T) : m_Sim Y pc L st h T :=
  m_pu S k (fun S H locs cells slots Q ls hl kk => lv_lconst S.1 S.2.1 hd hn (kk ls hl))
theorem ms_null {ρ : Type} {Y : m_Y ρ} {own : String} {cc : ByteArray} (S : m_Std Y own cc) {pc : Nat} {L : List (Nat × m_V)} {st : List m_V} {h : m_H} {T : Option (ρ × m_H)} (hd : decode cc pc = .ok (.aconst_null, 1)) (k : m_Sim Y (pc + 1) L (m_r 0 :: st) h T) : m_Sim Y pc L st h T :=
  m_pu S k (fun S H locs cells slots Q ls hl kk => lv_null S.1 S.2.1 hd (kk ls hl))
theorem ms_iload_n {ρ : Type} {Y : m_Y ρ} {own : String} {cc : ByteArray} (S : m_Std Y own cc) {pc : Nat} {L : List (Nat × m_V)} {st : List m_V} {h : m_H} {T : Option (ρ × m_H)} {q : Fin 4} {i : Nat} {x : Int} (p : Nat) (hp : L[p]? = some (i, m_i x)) (hi : (q : Nat) = i) (hd : decode cc pc = .ok (.iload_n q, 1)) (k : m_Sim Y (pc + 1) L (m_i x :: st) h T) : m_Sim Y pc L st h T :=
  m_pu S k (fun S H locs cells slots Q ls hl kk => lv_iload_n S.1 S.2.1 hd hi (m_lat hl p hp) (kk ls hl))
theorem ms_iload {ρ : Type} {Y : m_Y ρ} {own : String} {cc : ByteArray} (S : m_Std Y own cc) {pc : Nat} {L : List (Nat × m_V)} {st : List m_V} {h : m_H} {T : Option (ρ × m_H)} {i : Nat} {x : Int} (p : Nat) (hp : L[p]? = some (i, m_i x)) (hd : decode cc pc = .ok (.iload i, 2)) (k : m_Sim Y (pc + 2) L (m_i x :: st) h T) : m_Sim Y pc L st h T :=
  m_pu S k (fun S H locs cells slots Q ls hl kk => lv_iload S.1 S.2.1 hd (m_lat hl p hp) (kk ls hl))
theorem ms_lload_n {ρ : Type} {Y : m_Y ρ} {own : String} {cc : ByteArray} (S : m_Std Y own cc) {pc : Nat} {L : List (Nat × m_V)} {st : List m_V} {h : m_H} {T : Option (ρ × m_H)} {q : Fin 4} {i : Nat} {x : Int} (p : Nat) (hp : L[p]? = some (i, m_j x)) (hi : (q : Nat) = i) (hd : decode cc pc = .ok (.lload_n q, 1)) (k : m_Sim Y (pc + 1) L (m_j x :: st) h T) : m_Sim Y pc L st h T :=
  m_pu S k (fun S H locs cells slots Q ls hl kk => lv_lload_n S.1 S.2.1 hd hi (m_lat hl p hp) (kk ls hl))
theorem ms_lload {ρ : Type} {Y : m_Y ρ} {own : String} {cc : ByteArray} (S : m_Std Y own cc) {pc : Nat} {L : List (Nat × m_V)} {st : List m_V} {h : m_H} {T : Option (ρ × m_H)} {i : Nat} {x : Int} (p : Nat) (hp : L[p]? = some (i, m_j x)) (hd : decode cc pc = .ok (.lload i, 2)) (k : m_Sim Y (pc + 2) L (m_j x :: st) h T) : m_Sim Y pc L st h T :=
  m_pu S k (fun S H locs cells slots Q ls hl kk => lv_lload S.1 S.2.1 hd (m_lat hl p hp) (kk ls hl))
theorem ms_aload_n {ρ : Type} {Y : m_Y ρ} {own : String} {cc : ByteArray} (S : m_Std Y own cc) {pc : Nat} {L : List (Nat × m_V)} {st : List m_V} {h : m_H} {T : Option (ρ × m_H)} {q : Fin 4} {i : Nat} {x : Int} (p : Nat) (hp : L[p]? = some (i, m_r x)) (hi : (q : Nat) = i) (hd : decode cc pc = .ok (.aload_n q, 1)) (k : m_Sim Y (pc + 1) L (m_r x :: st) h T) : m_Sim Y pc L st h T := by
  refine m_pu S k (fun S H locs cells slots Q ls hl kk => ?_)
  have hv := m_lat hl p hp
  by_cases e : x = 0
  · subst e; exact lv_aload_nN S.1 S.2.1 hd hi hv (kk ls hl)
  · have k2 := kk ls hl
    simp only [List.map_cons, m_tr_r e] at hv k2
    exact lv_aload_n S.1 S.2.1 hd hi hv k2
theorem ms_aload {ρ : Type} {Y : m_Y ρ} {own : String} {cc : ByteArray} (S : m_Std Y own cc) {pc : Nat} {L : List (Nat × m_V)} {st : List m_V} {h : m_H} {T : Option (ρ × m_H)} {i : Nat} {x : Int} (p : Nat) (hp : L[p]? = some (i, m_r x)) (hd : decode cc pc = .ok (.aload i, 2)) (k : m_Sim Y (pc + 2) L (m_r x :: st) h T) : m_Sim Y pc L st h T := by
  refine m_pu S k (fun S H locs cells slots Q ls hl kk => ?_)
  have hv := m_lat hl p hp
  by_cases e : x = 0
  · subst e; exact lv_aloadN S.1 S.2.1 hd hv (kk ls hl)
  · have k2 := kk ls hl
    simp only [List.map_cons, m_tr_r e] at hv k2
    exact lv_aload S.1 S.2.1 hd hv k2
theorem ms_istore_n {ρ : Type} {Y : m_Y ρ} {own : String} {cc : ByteArray} (S : m_Std Y own cc) {pc : Nat} {L : List (Nat × m_V)} {st : List m_V} {h : m_H} {T : Option (ρ × m_H)} {q : Fin 4} {i : Nat} {x : Int} {L' : List (Nat × m_V)} (ks : List Nat) (hL : ks.filterMap (fun k => (m_set i (m_i x) L)[k]?) = L') (hi : (q : Nat) = i) (hn : i < Y.2.2.2.1) (hd : decode cc pc = .ok (.istore_n q, 1)) (k : m_Sim Y (pc + 1) L' st h T) : m_Sim Y pc L (m_i x :: st) h T :=
  m_pu S k (fun S H locs cells slots Q ls hl kk => lv_istore_n S.1 S.2.1 hd hi hl hn (m_lv_set Y.1 i (m_i x) L) (fun ls' hl' => kk ls' (m_lv_pick hl' ks hL)))
theorem ms_istore {ρ : Type} {Y : m_Y ρ} {own : String} {cc : ByteArray} (S : m_Std Y own cc) {pc : Nat} {L : List (Nat × m_V)} {st : List m_V} {h : m_H} {T : Option (ρ × m_H)} {i : Nat} {x : Int} {L' : List (Nat × m_V)} (ks : List Nat) (hL : ks.filterMap (fun k => (m_set i (m_i x) L)[k]?) = L') (hn : i < Y.2.2.2.1) (hd : decode cc pc = .ok (.istore i, 2)) (k : m_Sim Y (pc + 2) L' st h T) : m_Sim Y pc L (m_i x :: st) h T :=
  m_pu S k (fun S H locs cells slots Q ls hl kk => lv_istore S.1 S.2.1 hd hl hn (m_lv_set Y.1 i (m_i x) L) (fun ls' hl' => kk ls' (m_lv_pick hl' ks hL)))
theorem ms_lstore_n {ρ : Type} {Y : m_Y ρ} {own : String} {cc : ByteArray} (S : m_Std Y own cc) {pc : Nat} {L : List (Nat × m_V)} {st : List m_V} {h : m_H} {T : Option (ρ × m_H)} {q : Fin 4} {i : Nat} {x : Int} {L' : List (Nat × m_V)} (ks : List Nat) (hL : ks.filterMap (fun k => (m_set2 i (m_j x) L)[k]?) = L') (hi : (q : Nat) = i) (hn : i + 1 < Y.2.2.2.1) (hd : decode cc pc = .ok (.lstore_n q, 1)) (k : m_Sim Y (pc + 1) L' st h T) : m_Sim Y pc L (m_j x :: st) h T :=
  m_pu S k (fun S H locs cells slots Q ls hl kk => lv_lstore_n S.1 S.2.1 hd hi hl hn (m_lv_set2 Y.1 i (m_j x) L) (fun ls' hl' => kk ls' (m_lv_pick hl' ks hL)))
theorem ms_lstore {ρ : Type} {Y : m_Y ρ} {own : String} {cc : ByteArray} (S : m_Std Y own cc) {pc : Nat} {L : List (Nat × m_V)} {st : List m_V} {h : m_H} {T : Option (ρ × m_H)} {i : Nat} {x : Int} {L' : List (Nat × m_V)} (ks : List Nat) (hL : ks.filterMap (fun k => (m_set2 i (m_j x) L)[k]?) = L') (hn : i + 1 < Y.2.2.2.1) (hd : decode cc pc = .ok (.lstore i, 2)) (k : m_Sim Y (pc + 2) L' st h T) : m_Sim Y pc L (m_j x :: st) h T :=
  m_pu S k (fun S H locs cells slots Q ls hl kk => lv_lstore S.1 S.2.1 hd hl hn (m_lv_set2 Y.1 i (m_j x) L) (fun ls' hl' => kk ls' (m_lv_pick hl' ks hL)))
theorem ms_astore_n {ρ : Type} {Y : m_Y ρ} {own : String} {cc : ByteArray} (S : m_Std Y own cc) {pc : Nat} {L : List (Nat × m_V)} {st : List m_V} {h : m_H} {T : Option (ρ × m_H)} {q : Fin 4} {i : Nat} {x : Int} {L' : List (Nat × m_V)} (ks : List Nat) (hL : ks.filterMap (fun k => (m_set i (m_r x) L)[k]?) = L') (hi : (q : Nat) = i) (hn : i < Y.2.2.2.1) (hd : decode cc pc = .ok (.astore_n q, 1)) (k : m_Sim Y (pc + 1) L' st h T) : m_Sim Y pc L (m_r x :: st) h T := by
  refine m_pu S k (fun S H locs cells slots Q ls hl kk => ?_)
  have e2 := m_lv_set Y.1 i (m_r x) L
  by_cases e : x = 0
  · subst e; exact lv_astore_nN S.1 S.2.1 hd hi hl hn e2 (fun ls' hl' => kk ls' (m_lv_pick hl' ks hL))
  · simp only [List.map_cons, m_tr_r e] at e2 ⊢
    exact lv_astore_n S.1 S.2.1 hd hi hl hn e2 (fun ls' hl' => kk ls' (m_lv_pick hl' ks hL))
theorem ms_astore {ρ : Type} {Y : m_Y ρ} {own : String} {cc : ByteArray} (S : m_Std Y own cc) {pc : Nat} {L : List (Nat × m_V)} {st : List m_V} {h : m_H} {T : Option (ρ × m_H)} {i : Nat} {x : Int} {L' : List (Nat × m_V)} (ks : List Nat) (hL : ks.filterMap (fun k => (m_set i (m_r x) L)[k]?) = L') (hn : i < Y.2.2.2.1) (hd : decode cc pc = .ok (.astore i, 2)) (k : m_Sim Y (pc + 2) L' st h T) : m_Sim Y pc L (m_r x :: st) h T := by
  refine m_pu S k (fun S H locs cells slots Q ls hl kk => ?_)
  have e2 := m_lv_set Y.1 i (m_r x) L
  by_cases e : x = 0
  · subst e; exact lv_astoreN S.1 S.2.1 hd hl hn e2 (fun ls' hl' => kk ls' (m_lv_pick hl' ks hL))
  · simp only [List.map_cons, m_tr_r e] at e2 ⊢
    exact lv_astore S.1 S.2.1 hd hl hn e2 (fun ls' hl' => kk ls' (m_lv_pick hl' ks hL))
theorem ms_iinc {ρ : Type} {Y : m_Y ρ} {own : String} {cc : ByteArray} (S : m_Std Y own cc) {pc : Nat} {L : List (Nat × m_V)} {st : List m_V} {h : m_H} {T : Option (ρ × m_H)} {i : Nat} {n x : Int} {L' : List (Nat × m_V)} (p : Nat) (hp : L[p]? = some (i, m_i x)) (ks : List Nat) (hL : ks.filterMap (fun k => (m_set i (m_i (x + n)) L)[k]?) = L') (hn : i < Y.2.2.2.1) (hd : decode cc pc = .ok (.iinc i n, 3)) (k : m_Sim Y (pc + 3) L' st h T) : m_Sim Y pc L st h T := by
  refine m_pu S k (fun S H locs cells slots Q ls hl kk => ?_)
  refine lv_iinc S.1 S.2.1 hd hl (k := p) (x := Int32.ofInt x) ?_ (v := Int32.ofInt (x + n)) (Int32.ofInt_add x n).symm hn (m_lv_set Y.1 i (m_i (x + n)) L) (fun ls' hl' => kk ls' (m_lv_pick hl' ks hL))
  show (L.map (fun q => (q.1, m_tr Y.1 q.2)))[p]? = _
  rw [List.getElem?_map, hp]
  rfl
theorem ms_iadd {ρ : Type} {Y : m_Y ρ} {own : String} {cc : ByteArray} (S : m_Std Y own cc) {pc : Nat} {L : List (Nat × m_V)} {st : List m_V} {h : m_H} {T : Option (ρ × m_H)} {a b : Int} (hd : decode cc pc = .ok (.iadd, 1)) (k : m_Sim Y (pc + 1) L (m_i (a + b) :: st) h T) : m_Sim Y pc L (m_i b :: m_i a :: st) h T := by
  refine m_pu S k (fun S H locs cells slots Q ls hl kk => lv_iadd S.1 S.2.1 hd ?_)
  rw [← Int32.ofInt_add]
  exact kk ls hl
theorem ms_isub {ρ : Type} {Y : m_Y ρ} {own : String} {cc : ByteArray} (S : m_Std Y own cc) {pc : Nat} {L : List (Nat × m_V)} {st : List m_V} {h : m_H} {T : Option (ρ × m_H)} {a b : Int} (hd : decode cc pc = .ok (.isub, 1)) (k : m_Sim Y (pc + 1) L (m_i (a - b) :: st) h T) : m_Sim Y pc L (m_i b :: m_i a :: st) h T := by
  refine m_pu S k (fun S H locs cells slots Q ls hl kk => lv_isub S.1 S.2.1 hd ?_)
  rw [← Int32.ofInt_sub]
  exact kk ls hl
theorem ms_imul {ρ : Type} {Y : m_Y ρ} {own : String} {cc : ByteArray} (S : m_Std Y own cc) {pc : Nat} {L : List (Nat × m_V)} {st : List m_V} {h : m_H} {T : Option (ρ × m_H)} {a b : Int} (hd : decode cc pc = .ok (.imul, 1)) (k : m_Sim Y (pc + 1) L (m_i (a * b) :: st) h T) : m_Sim Y pc L (m_i b :: m_i a :: st) h T := by
  refine m_pu S k (fun S H locs cells slots Q ls hl kk => lv_imul S.1 S.2.1 hd ?_)
  rw [← Int32.ofInt_mul]
  exact kk ls hl
theorem ms_ladd {ρ : Type} {Y : m_Y ρ} {own : String} {cc : ByteArray} (S : m_Std Y own cc) {pc : Nat} {L : List (Nat × m_V)} {st : List m_V} {h : m_H} {T : Option (ρ × m_H)} {a b : Int} (hd : decode cc pc = .ok (.ladd, 1)) (k : m_Sim Y (pc + 1) L (m_j (a + b) :: st) h T) : m_Sim Y pc L (m_j b :: m_j a :: st) h T := by
  refine m_pu S k (fun S H locs cells slots Q ls hl kk => lv_ladd S.1 S.2.1 hd ?_)
  rw [← Int64.ofInt_add]
  exact kk ls hl
theorem ms_lsub {ρ : Type} {Y : m_Y ρ} {own : String} {cc : ByteArray} (S : m_Std Y own cc) {pc : Nat} {L : List (Nat × m_V)} {st : List m_V} {h : m_H} {T : Option (ρ × m_H)} {a b : Int} (hd : decode cc pc = .ok (.lsub, 1)) (k : m_Sim Y (pc + 1) L (m_j (a - b) :: st) h T) : m_Sim Y pc L (m_j b :: m_j a :: st) h T := by
  refine m_pu S k (fun S H locs cells slots Q ls hl kk => lv_lsub S.1 S.2.1 hd ?_)
  rw [← Int64.ofInt_sub]
  exact kk ls hl
theorem ms_lmul {ρ : Type} {Y : m_Y ρ} {own : String} {cc : ByteArray} (S : m_Std Y own cc) {pc : Nat} {L : List (Nat × m_V)} {st : List m_V} {h : m_H} {T : Option (ρ × m_H)} {a b : Int} (hd : decode cc pc = .ok (.lmul, 1)) (k : m_Sim Y (pc + 1) L (m_j (a * b) :: st) h T) : m_Sim Y pc L (m_j b :: m_j a :: st) h T := by
  refine m_pu S k (fun S H locs cells slots Q ls hl kk => lv_lmul S.1 S.2.1 hd ?_)
  rw [← Int64.ofInt_mul]
  exact kk ls hl
theorem ms_iand {ρ : Type} {Y : m_Y ρ} {own : String} {cc : ByteArray} (S : m_Std Y own cc) {pc : Nat} {L : List (Nat × m_V)} {st : List m_V} {h : m_H} {T : Option (ρ × m_H)} {a b : Int} (hd : decode cc pc = .ok (.iand, 1)) (k : m_Sim Y (pc + 1) L (m_i (m_and a b) :: st) h T) : m_Sim Y pc L (m_i b :: m_i a :: st) h T := by
  refine m_pu S k (fun S H locs cells slots Q ls hl kk => lv_iand S.1 S.2.1 hd ?_)
  have k2 := kk ls hl
  simp only [List.map_cons, m_tr_i, m_and, Int32.ofInt_toInt] at k2
  exact k2
theorem ms_ior {ρ : Type} {Y : m_Y ρ} {own : String} {cc : ByteArray} (S : m_Std Y own cc) {pc : Nat} {L : List (Nat × m_V)} {st : List m_V} {h : m_H} {T : Option (ρ × m_H)} {a b : Int} (hd : decode cc pc = .ok (.ior, 1)) (k : m_Sim Y (pc + 1) L (m_i (m_or a b) :: st) h T) : m_Sim Y pc L (m_i b :: m_i a :: st) h T := by
  refine m_pu S k (fun S H locs cells slots Q ls hl kk => lv_ior S.1 S.2.1 hd ?_)
  have k2 := kk ls hl
  simp only [List.map_cons, m_tr_i, m_or, Int32.ofInt_toInt] at k2
  exact k2
theorem ms_ixor {ρ : Type} {Y : m_Y ρ} {own : String} {cc : ByteArray} (S : m_Std Y own cc) {pc : Nat} {L : List (Nat × m_V)} {st : List m_V} {h : m_H} {T : Option (ρ × m_H)} {a b : Int} (hd : decode cc pc = .ok (.ixor, 1)) (k : m_Sim Y (pc + 1) L (m_i (m_xor a b) :: st) h T) : m_Sim Y pc L (m_i b :: m_i a :: st) h T := by
  refine m_pu S k (fun S H locs cells slots Q ls hl kk => lv_ixor S.1 S.2.1 hd ?_)
  have k2 := kk ls hl
  simp only [List.map_cons, m_tr_i, m_xor, Int32.ofInt_toInt] at k2
  exact k2
theorem ms_ishl {ρ : Type} {Y : m_Y ρ} {own : String} {cc : ByteArray} (S : m_Std Y own cc) {pc : Nat} {L : List (Nat × m_V)} {st : List m_V} {h : m_H} {T : Option (ρ × m_H)} {a b : Int} (hd : decode cc pc = .ok (.ishl, 1)) (k : m_Sim Y (pc + 1) L (m_i (m_shl a b) :: st) h T) : m_Sim Y pc L (m_i b :: m_i a :: st) h T := by
  refine m_pu S k (fun S H locs cells slots Q ls hl kk => lv_ishl S.1 S.2.1 hd ?_)
  have k2 := kk ls hl
  simp only [List.map_cons, m_tr_i, m_shl, Int32.ofInt_toInt] at k2
  exact k2
theorem ms_ishr {ρ : Type} {Y : m_Y ρ} {own : String} {cc : ByteArray} (S : m_Std Y own cc) {pc : Nat} {L : List (Nat × m_V)} {st : List m_V} {h : m_H} {T : Option (ρ × m_H)} {a b : Int} (hd : decode cc pc = .ok (.ishr, 1)) (k : m_Sim Y (pc + 1) L (m_i (m_shr a b) :: st) h T) : m_Sim Y pc L (m_i b :: m_i a :: st) h T := by
  refine m_pu S k (fun S H locs cells slots Q ls hl kk => lv_ishr S.1 S.2.1 hd ?_)
  have k2 := kk ls hl
  simp only [List.map_cons, m_tr_i, m_shr, Int32.ofInt_toInt] at k2
  exact k2
theorem ms_iushr {ρ : Type} {Y : m_Y ρ} {own : String} {cc : ByteArray} (S : m_Std Y own cc) {pc : Nat} {L : List (Nat × m_V)} {st : List m_V} {h : m_H} {T : Option (ρ × m_H)} {a b : Int} (hd : decode cc pc = .ok (.iushr, 1)) (k : m_Sim Y (pc + 1) L (m_i (m_ushr a b) :: st) h T) : m_Sim Y pc L (m_i b :: m_i a :: st) h T := by
  refine m_pu S k (fun S H locs cells slots Q ls hl kk => lv_iushr S.1 S.2.1 hd (v := Int32.ofInt (m_ushr a b)) (by rw [m_ushr, Int32.ofInt_toInt]) (kk ls hl))
theorem ms_i2s {ρ : Type} {Y : m_Y ρ} {own : String} {cc : ByteArray} (S : m_Std Y own cc) {pc : Nat} {L : List (Nat × m_V)} {st : List m_V} {h : m_H} {T : Option (ρ × m_H)} {a : Int} (hd : decode cc pc = .ok (.i2s, 1)) (k : m_Sim Y (pc + 1) L (m_i (m_i2s a) :: st) h T) : m_Sim Y pc L (m_i a :: st) h T := by
  refine m_pu S k (fun S H locs cells slots Q ls hl kk => lv_i2s S.1 S.2.1 hd (v := Int32.ofInt (m_i2s a)) (by rw [m_i2s, Int32.ofInt_toInt]) (kk ls hl))
theorem ms_i2b {ρ : Type} {Y : m_Y ρ} {own : String} {cc : ByteArray} (S : m_Std Y own cc) {pc : Nat} {L : List (Nat × m_V)} {st : List m_V} {h : m_H} {T : Option (ρ × m_H)} {a : Int} (hd : decode cc pc = .ok (.i2b, 1)) (k : m_Sim Y (pc + 1) L (m_i (m_i2b a) :: st) h T) : m_Sim Y pc L (m_i a :: st) h T := by
  refine m_pu S k (fun S H locs cells slots Q ls hl kk => lv_i2b S.1 S.2.1 hd (v := Int32.ofInt (m_i2b a)) (by rw [m_i2b, Int32.ofInt_toInt]) (kk ls hl))
theorem ms_i2l {ρ : Type} {Y : m_Y ρ} {own : String} {cc : ByteArray} (S : m_Std Y own cc) {pc : Nat} {L : List (Nat × m_V)} {st : List m_V} {h : m_H} {T : Option (ρ × m_H)} {a : Int} (hd : decode cc pc = .ok (.i2l, 1)) (k : m_Sim Y (pc + 1) L (m_j (m_w a) :: st) h T) : m_Sim Y pc L (m_i a :: st) h T := by
  refine m_pu S k (fun S H locs cells slots Q ls hl kk => lv_i2l S.1 S.2.1 hd (v := Int64.ofInt (m_w a)) (by rw [← m_w_i]; exact (Int64.ofInt_int32ToInt _).symm) (kk ls hl))
theorem ms_l2i {ρ : Type} {Y : m_Y ρ} {own : String} {cc : ByteArray} (S : m_Std Y own cc) {pc : Nat} {L : List (Nat × m_V)} {st : List m_V} {h : m_H} {T : Option (ρ × m_H)} {a : Int} (hd : decode cc pc = .ok (.l2i, 1)) (k : m_Sim Y (pc + 1) L (m_i a :: st) h T) : m_Sim Y pc L (m_j a :: st) h T := by
  refine m_pu S k (fun S H locs cells slots Q ls hl kk => lv_l2i S.1 S.2.1 hd (v := Int32.ofInt a) Int64.toInt32_ofInt (kk ls hl))
theorem ms_ineg {ρ : Type} {Y : m_Y ρ} {own : String} {cc : ByteArray} (S : m_Std Y own cc) {pc : Nat} {L : List (Nat × m_V)} {st : List m_V} {h : m_H} {T : Option (ρ × m_H)} {a : Int} (hd : decode cc pc = .ok (.ineg, 1)) (k : m_Sim Y (pc + 1) L (m_i (-a) :: st) h T) : m_Sim Y pc L (m_i a :: st) h T := by
  refine m_pu S k (fun S H locs cells slots Q ls hl kk => lv_ineg S.1 S.2.1 hd ?_)
  have k2 := kk ls hl
  simp only [List.map_cons, m_tr_i, Int32.ofInt_neg] at k2
  exact k2
theorem m_div_i (a b : Int) : Int32.ofInt ((m_w a).tdiv (m_w b)) = Int32.ofInt a / Int32.ofInt b := by
  apply Int32.toInt_inj.mp
  rw [Int32.toInt_div, Int32.toInt_ofInt, m_w_i, m_w_i]
theorem m_div_j (a b : Int) : Int64.ofInt ((m_v a).tdiv (m_v b)) = Int64.ofInt a / Int64.ofInt b := by
  apply Int64.toInt_inj.mp
  rw [Int64.toInt_div, Int64.toInt_ofInt, m_v_j, m_v_j]
theorem ms_idiv {ρ : Type} {Y : m_Y ρ} {own : String} {cc : ByteArray} (S : m_Std Y own cc) {pc : Nat} {L : List (Nat × m_V)} {st : List m_V} {h : m_H} {a b : Int} {T : Option (ρ × m_H)} (hd : decode cc pc = .ok (.idiv, 1)) (k : m_Sim Y (pc + 1) L (m_i ((m_w a).tdiv (m_w b)) :: st) h T) : m_Sim Y pc L (m_i b :: m_i a :: st) h (if m_w b = 0 then none else T) := by
  by_cases hc : m_w b = 0
  · rw [if_pos hc]; exact ms_none
  rw [if_neg hc]
  refine m_pu S k (fun S H locs cells slots Q ls hl kk => lv_idiv S.1 S.2.1 hd (fun e => hc ((m_eq_iff b 0).mp e)) ?_)
  rw [← m_div_i]
  exact kk ls hl
theorem ms_irem {ρ : Type} {Y : m_Y ρ} {own : String} {cc : ByteArray} (S : m_Std Y own cc) {pc : Nat} {L : List (Nat × m_V)} {st : List m_V} {h : m_H} {a b : Int} {T : Option (ρ × m_H)} (hd : decode cc pc = .ok (.irem, 1)) (k : m_Sim Y (pc + 1) L (m_i ((m_w a).tmod (m_w b)) :: st) h T) : m_Sim Y pc L (m_i b :: m_i a :: st) h (if m_w b = 0 then none else T) := by
  by_cases hc : m_w b = 0
  · rw [if_pos hc]; exact ms_none
  rw [if_neg hc]
  refine m_pu S k (fun S H locs cells slots Q ls hl kk => lv_irem S.1 S.2.1 hd (fun e => hc ((m_eq_iff b 0).mp e)) ?_)
  have e : Int32.ofInt ((m_w a).tmod (m_w b)) = Int32.ofInt a - Int32.ofInt a / Int32.ofInt b * Int32.ofInt b := by
    rw [Int.tmod_def, Int32.ofInt_sub, Int32.ofInt_mul, m_div_i, m_i_w, m_i_w, Int32.mul_comm]
  rw [← e]
  exact kk ls hl
theorem ms_ldiv {ρ : Type} {Y : m_Y ρ} {own : String} {cc : ByteArray} (S : m_Std Y own cc) {pc : Nat} {L : List (Nat × m_V)} {st : List m_V} {h : m_H} {a b : Int} {T : Option (ρ × m_H)} (hd : decode cc pc = .ok (.ldiv, 1)) (k : m_Sim Y (pc + 1) L (m_j ((m_v a).tdiv (m_v b)) :: st) h T) : m_Sim Y pc L (m_j b :: m_j a :: st) h (if m_v b = 0 then none else T) := by
  by_cases hc : m_v b = 0
  · rw [if_pos hc]; exact ms_none
  rw [if_neg hc]
  refine m_pu S k (fun S H locs cells slots Q ls hl kk => lv_ldiv S.1 S.2.1 hd (fun e => hc (by rw [← m_v_j b, e]; rfl)) ?_)
  rw [← m_div_j]
  exact kk ls hl
theorem ms_lrem {ρ : Type} {Y : m_Y ρ} {own : String} {cc : ByteArray} (S : m_Std Y own cc) {pc : Nat} {L : List (Nat × m_V)} {st : List m_V} {h : m_H} {a b : Int} {T : Option (ρ × m_H)} (hd : decode cc pc = .ok (.lrem, 1)) (k : m_Sim Y (pc + 1) L (m_j ((m_v a).tmod (m_v b)) :: st) h T) : m_Sim Y pc L (m_j b :: m_j a :: st) h (if m_v b = 0 then none else T) := by
  by_cases hc : m_v b = 0
  · rw [if_pos hc]; exact ms_none
  rw [if_neg hc]
  refine m_pu S k (fun S H locs cells slots Q ls hl kk => lv_lrem S.1 S.2.1 hd (fun e => hc (by rw [← m_v_j b, e]; rfl)) ?_)
  have e : Int64.ofInt ((m_v a).tmod (m_v b)) = Int64.ofInt a - Int64.ofInt a / Int64.ofInt b * Int64.ofInt b := by
    rw [Int.tmod_def, Int64.ofInt_sub, Int64.ofInt_mul, m_div_j, m_j_v, m_j_v, Int64.mul_comm]
  rw [← e]
  exact kk ls hl
theorem ms_land {ρ : Type} {Y : m_Y ρ} {own : String} {cc : ByteArray} (S : m_Std Y own cc) {pc : Nat} {L : List (Nat × m_V)} {st : List m_V} {h : m_H} {T : Option (ρ × m_H)} {a b : Int} (hd : decode cc pc = .ok (.land, 1)) (k : m_Sim Y (pc + 1) L (m_j (m_land a b) :: st) h T) : m_Sim Y pc L (m_j b :: m_j a :: st) h T := by
  refine m_pu S k (fun S H locs cells slots Q ls hl kk => lv_land S.1 S.2.1 hd ?_)
  have k2 := kk ls hl
  simp only [List.map_cons, m_tr_j, m_land, Int64.ofInt_toInt] at k2
  exact k2
theorem ms_lor {ρ : Type} {Y : m_Y ρ} {own : String} {cc : ByteArray} (S : m_Std Y own cc) {pc : Nat} {L : List (Nat × m_V)} {st : List m_V} {h : m_H} {T : Option (ρ × m_H)} {a b : Int} (hd : decode cc pc = .ok (.lor, 1)) (k : m_Sim Y (pc + 1) L (m_j (m_lor a b) :: st) h T) : m_Sim Y pc L (m_j b :: m_j a :: st) h T := by
  refine m_pu S k (fun S H locs cells slots Q ls hl kk => lv_lor S.1 S.2.1 hd ?_)
  have k2 := kk ls hl
  simp only [List.map_cons, m_tr_j, m_lor, Int64.ofInt_toInt] at k2
  exact k2
theorem ms_lshl {ρ : Type} {Y : m_Y ρ} {own : String} {cc : ByteArray} (S : m_Std Y own cc) {pc : Nat} {L : List (Nat × m_V)} {st : List m_V} {h : m_H} {T : Option (ρ × m_H)} {a b : Int} (hd : decode cc pc = .ok (.lshl, 1)) (k : m_Sim Y (pc + 1) L (m_j (m_lshl a b) :: st) h T) : m_Sim Y pc L (m_i b :: m_j a :: st) h T := by
  refine m_pu S k (fun S H locs cells slots Q ls hl kk => lv_lshl S.1 S.2.1 hd (v := Int64.ofInt (m_lshl a b)) (by rw [m_lshl, Int64.ofInt_toInt]) (kk ls hl))
theorem ms_lshr {ρ : Type} {Y : m_Y ρ} {own : String} {cc : ByteArray} (S : m_Std Y own cc) {pc : Nat} {L : List (Nat × m_V)} {st : List m_V} {h : m_H} {T : Option (ρ × m_H)} {a b : Int} (hd : decode cc pc = .ok (.lshr, 1)) (k : m_Sim Y (pc + 1) L (m_j (m_lshr a b) :: st) h T) : m_Sim Y pc L (m_i b :: m_j a :: st) h T := by
  refine m_pu S k (fun S H locs cells slots Q ls hl kk => lv_lshr S.1 S.2.1 hd (v := Int64.ofInt (m_lshr a b)) (by rw [m_lshr, Int64.ofInt_toInt]) (kk ls hl))
theorem ms_lcmp {ρ : Type} {Y : m_Y ρ} {own : String} {cc : ByteArray} (S : m_Std Y own cc) {pc : Nat} {L : List (Nat × m_V)} {st : List m_V} {h : m_H} {T : Option (ρ × m_H)} {a b : Int} (hd : decode cc pc = .ok (.lcmp, 1)) (k : m_Sim Y (pc + 1) L (m_i (m_lcmp a b) :: st) h T) : m_Sim Y pc L (m_j b :: m_j a :: st) h T := by
  refine m_pu S k (fun S H locs cells slots Q ls hl kk => W.lcmp S.1 S.2.1 hd ?_)
  have k2 := kk ls hl
  have e : Int32.ofInt (m_lcmp a b) = lg_cmp (Int64.ofInt a) (Int64.ofInt b) := by
    unfold m_lcmp lg_cmp
    simp only [gt_iff_lt, Int64.lt_iff_toInt_lt, ← Int64.toInt_inj, m_v_j, beq_iff_eq]
    repeat' split
    all_goals first | rfl | omega
  simp only [List.map_cons, m_tr_i, e] at k2
  exact k2
theorem ms_dup {ρ : Type} {Y : m_Y ρ} {own : String} {cc : ByteArray} (S : m_Std Y own cc) {pc : Nat} {L : List (Nat × m_V)} {st : List m_V} {h : m_H} {T : Option (ρ × m_H)} {v : m_V} (hv : (v.1 == 1) = false) (hd : decode cc pc = .ok (.dup, 1)) (k : m_Sim Y (pc + 1) L (v :: v :: st) h T) : m_Sim Y pc L (v :: st) h T :=
  m_pu S k (fun S H locs cells slots Q ls hl kk => lv_dup S.1 S.2.1 hd (m_cat1 Y.1 hv) (kk ls hl))
theorem ms_pop {ρ : Type} {Y : m_Y ρ} {own : String} {cc : ByteArray} (S : m_Std Y own cc) {pc : Nat} {L : List (Nat × m_V)} {st : List m_V} {h : m_H} {T : Option (ρ × m_H)} {v : m_V} (hv : (v.1 == 1) = false) (hd : decode cc pc = .ok (.pop, 1)) (k : m_Sim Y (pc + 1) L st h T) : m_Sim Y pc L (v :: st) h T :=
  m_pu S k (fun S H locs cells slots Q ls hl kk => lv_pop S.1 S.2.1 hd (m_cat1 Y.1 hv) (kk ls hl))
theorem ms_dup2 {ρ : Type} {Y : m_Y ρ} {own : String} {cc : ByteArray} (S : m_Std Y own cc) {pc : Nat} {L : List (Nat × m_V)} {st : List m_V} {h : m_H} {T : Option (ρ × m_H)} {v u : m_V} (hv : (v.1 == 1) = false) (hu : (u.1 == 1) = false) (hd : decode cc pc = .ok (.dup2, 1)) (k : m_Sim Y (pc + 1) L (v :: u :: v :: u :: st) h T) : m_Sim Y pc L (v :: u :: st) h T :=
  m_pu S k (fun S H locs cells slots Q ls hl kk => lv_dup2_11 S.1 S.2.1 hd (m_cat1 Y.1 hv) (m_cat1 Y.1 hu) (kk ls hl))
theorem ms_goto {ρ : Type} {Y : m_Y ρ} {own : String} {cc : ByteArray} (S : m_Std Y own cc) {pc : Nat} {L : List (Nat × m_V)} {st : List m_V} {h : m_H} {T : Option (ρ × m_H)} {off : Int} {tgt : Nat} (hd : decode cc pc = .ok (.goto off, 3)) (ht : (pc : Int) + off = (tgt : Int)) (k : m_Sim Y tgt L st h T) : m_Sim Y pc L st h T :=
  m_pu S k (fun S H locs cells slots Q ls hl kk => lv_goto S.1 S.2.1 hd ht (kk ls hl))
theorem ms_icmp_eq {ρ : Type} {Y : m_Y ρ} {own : String} {cc : ByteArray} (S : m_Std Y own cc) {pc : Nat} {L : List (Nat × m_V)} {st : List m_V} {h : m_H} {T1 T2 : Option (ρ × m_H)} {a b : Int} {off : Int} {tgt : Nat} (hd : decode cc pc = .ok (.if_icmp .eq off, 3)) (ht : (pc : Int) + off = (tgt : Int)) (k1 : m_w a = m_w b → m_Sim Y (tgt) L st h T1) (k2 : ¬ m_w a = m_w b → m_Sim Y (pc + 3) L st h T2) : m_Sim Y pc L (m_i b :: m_i a :: st) h (if m_w a = m_w b then T1 else T2) := by
  by_cases hc : m_w a = m_w b
  · rw [if_pos hc]
    exact m_pu S (k1 hc) (fun S H locs cells slots Q ls hl kk => lv_icmp_eq S.1 S.2.1 hd ht (fun _ => kk ls hl) (fun q => absurd ((m_eq_iff a b).mpr hc) q))
  · rw [if_neg hc]
    exact m_pu S (k2 hc) (fun S H locs cells slots Q ls hl kk => lv_icmp_eq S.1 S.2.1 hd ht (fun q => absurd ((m_eq_iff a b).mp q) hc) (fun _ => kk ls hl))
theorem ms_if_eq {ρ : Type} {Y : m_Y ρ} {own : String} {cc : ByteArray} (S : m_Std Y own cc) {pc : Nat} {L : List (Nat × m_V)} {st : List m_V} {h : m_H} {T1 T2 : Option (ρ × m_H)} {a : Int} {off : Int} {tgt : Nat} (hd : decode cc pc = .ok (.ifCond .eq off, 3)) (ht : (pc : Int) + off = (tgt : Int)) (k1 : m_w a = 0 → m_Sim Y (tgt) L st h T1) (k2 : ¬ m_w a = 0 → m_Sim Y (pc + 3) L st h T2) : m_Sim Y pc L (m_i a :: st) h (if m_w a = 0 then T1 else T2) := by
  by_cases hc : m_w a = 0
  · rw [if_pos hc]
    exact m_pu S (k1 hc) (fun S H locs cells slots Q ls hl kk => lv_if_eq S.1 S.2.1 hd ht (fun _ => kk ls hl) (fun q => absurd ((m_eq_iff a 0).mpr hc) q))
  · rw [if_neg hc]
    exact m_pu S (k2 hc) (fun S H locs cells slots Q ls hl kk => lv_if_eq S.1 S.2.1 hd ht (fun q => absurd ((m_eq_iff a 0).mp q) hc) (fun _ => kk ls hl))
theorem ms_icmp_ne {ρ : Type} {Y : m_Y ρ} {own : String} {cc : ByteArray} (S : m_Std Y own cc) {pc : Nat} {L : List (Nat × m_V)} {st : List m_V} {h : m_H} {T1 T2 : Option (ρ × m_H)} {a b : Int} {off : Int} {tgt : Nat} (hd : decode cc pc = .ok (.if_icmp .ne off, 3)) (ht : (pc : Int) + off = (tgt : Int)) (k1 : m_w a = m_w b → m_Sim Y (pc + 3) L st h T1) (k2 : ¬ m_w a = m_w b → m_Sim Y (tgt) L st h T2) : m_Sim Y pc L (m_i b :: m_i a :: st) h (if m_w a = m_w b then T1 else T2) := by
  by_cases hc : m_w a = m_w b
  · rw [if_pos hc]
    exact m_pu S (k1 hc) (fun S H locs cells slots Q ls hl kk => lv_icmp_ne S.1 S.2.1 hd ht (fun q => absurd hc ((not_congr (m_eq_iff a b)).mp q)) (fun _ => kk ls hl))
  · rw [if_neg hc]
    exact m_pu S (k2 hc) (fun S H locs cells slots Q ls hl kk => lv_icmp_ne S.1 S.2.1 hd ht (fun _ => kk ls hl) (fun q => absurd q ((not_congr (m_eq_iff a b)).mpr hc)))
theorem ms_if_ne {ρ : Type} {Y : m_Y ρ} {own : String} {cc : ByteArray} (S : m_Std Y own cc) {pc : Nat} {L : List (Nat × m_V)} {st : List m_V} {h : m_H} {T1 T2 : Option (ρ × m_H)} {a : Int} {off : Int} {tgt : Nat} (hd : decode cc pc = .ok (.ifCond .ne off, 3)) (ht : (pc : Int) + off = (tgt : Int)) (k1 : m_w a = 0 → m_Sim Y (pc + 3) L st h T1) (k2 : ¬ m_w a = 0 → m_Sim Y (tgt) L st h T2) : m_Sim Y pc L (m_i a :: st) h (if m_w a = 0 then T1 else T2) := by
  by_cases hc : m_w a = 0
  · rw [if_pos hc]
    exact m_pu S (k1 hc) (fun S H locs cells slots Q ls hl kk => lv_if_ne S.1 S.2.1 hd ht (fun q => absurd hc ((not_congr (m_eq_iff a 0)).mp q)) (fun _ => kk ls hl))
  · rw [if_neg hc]
    exact m_pu S (k2 hc) (fun S H locs cells slots Q ls hl kk => lv_if_ne S.1 S.2.1 hd ht (fun _ => kk ls hl) (fun q => absurd q ((not_congr (m_eq_iff a 0)).mpr hc)))
theorem ms_icmp_lt {ρ : Type} {Y : m_Y ρ} {own : String} {cc : ByteArray} (S : m_Std Y own cc) {pc : Nat} {L : List (Nat × m_V)} {st : List m_V} {h : m_H} {T1 T2 : Option (ρ × m_H)} {a b : Int} {off : Int} {tgt : Nat} (hd : decode cc pc = .ok (.if_icmp .lt off, 3)) (ht : (pc : Int) + off = (tgt : Int)) (k1 : m_w a < m_w b → m_Sim Y (tgt) L st h T1) (k2 : ¬ m_w a < m_w b → m_Sim Y (pc + 3) L st h T2) : m_Sim Y pc L (m_i b :: m_i a :: st) h (if m_w a < m_w b then T1 else T2) := by
  by_cases hc : m_w a < m_w b
  · rw [if_pos hc]
    exact m_pu S (k1 hc) (fun S H locs cells slots Q ls hl kk => lv_icmp_lt S.1 S.2.1 hd ht (fun _ => kk ls hl) (fun q => absurd ((m_lt_iff a b).mpr hc) q))
  · rw [if_neg hc]
    exact m_pu S (k2 hc) (fun S H locs cells slots Q ls hl kk => lv_icmp_lt S.1 S.2.1 hd ht (fun q => absurd ((m_lt_iff a b).mp q) hc) (fun _ => kk ls hl))
theorem ms_if_lt {ρ : Type} {Y : m_Y ρ} {own : String} {cc : ByteArray} (S : m_Std Y own cc) {pc : Nat} {L : List (Nat × m_V)} {st : List m_V} {h : m_H} {T1 T2 : Option (ρ × m_H)} {a : Int} {off : Int} {tgt : Nat} (hd : decode cc pc = .ok (.ifCond .lt off, 3)) (ht : (pc : Int) + off = (tgt : Int)) (k1 : m_w a < 0 → m_Sim Y (tgt) L st h T1) (k2 : ¬ m_w a < 0 → m_Sim Y (pc + 3) L st h T2) : m_Sim Y pc L (m_i a :: st) h (if m_w a < 0 then T1 else T2) := by
  by_cases hc : m_w a < 0
  · rw [if_pos hc]
    exact m_pu S (k1 hc) (fun S H locs cells slots Q ls hl kk => lv_if_lt S.1 S.2.1 hd ht (fun _ => kk ls hl) (fun q => absurd ((m_lt_iff a 0).mpr hc) q))
  · rw [if_neg hc]
    exact m_pu S (k2 hc) (fun S H locs cells slots Q ls hl kk => lv_if_lt S.1 S.2.1 hd ht (fun q => absurd ((m_lt_iff a 0).mp q) hc) (fun _ => kk ls hl))
theorem ms_icmp_ge {ρ : Type} {Y : m_Y ρ} {own : String} {cc : ByteArray} (S : m_Std Y own cc) {pc : Nat} {L : List (Nat × m_V)} {st : List m_V} {h : m_H} {T1 T2 : Option (ρ × m_H)} {a b : Int} {off : Int} {tgt : Nat} (hd : decode cc pc = .ok (.if_icmp .ge off, 3)) (ht : (pc : Int) + off = (tgt : Int)) (k1 : m_w a < m_w b → m_Sim Y (pc + 3) L st h T1) (k2 : ¬ m_w a < m_w b → m_Sim Y (tgt) L st h T2) : m_Sim Y pc L (m_i b :: m_i a :: st) h (if m_w a < m_w b then T1 else T2) := by
  by_cases hc : m_w a < m_w b
  · rw [if_pos hc]
    exact m_pu S (k1 hc) (fun S H locs cells slots Q ls hl kk => lv_icmp_ge S.1 S.2.1 hd ht (fun q => absurd hc ((m_le_iff b a).mp q)) (fun _ => kk ls hl))
  · rw [if_neg hc]
    exact m_pu S (k2 hc) (fun S H locs cells slots Q ls hl kk => lv_icmp_ge S.1 S.2.1 hd ht (fun _ => kk ls hl) (fun q => absurd ((m_le_iff b a).mpr hc) q))
theorem ms_if_ge {ρ : Type} {Y : m_Y ρ} {own : String} {cc : ByteArray} (S : m_Std Y own cc) {pc : Nat} {L : List (Nat × m_V)} {st : List m_V} {h : m_H} {T1 T2 : Option (ρ × m_H)} {a : Int} {off : Int} {tgt : Nat} (hd : decode cc pc = .ok (.ifCond .ge off, 3)) (ht : (pc : Int) + off = (tgt : Int)) (k1 : m_w a < 0 → m_Sim Y (pc + 3) L st h T1) (k2 : ¬ m_w a < 0 → m_Sim Y (tgt) L st h T2) : m_Sim Y pc L (m_i a :: st) h (if m_w a < 0 then T1 else T2) := by
  by_cases hc : m_w a < 0
  · rw [if_pos hc]
    exact m_pu S (k1 hc) (fun S H locs cells slots Q ls hl kk => lv_if_ge S.1 S.2.1 hd ht (fun q => absurd hc ((m_le_iff 0 a).mp q)) (fun _ => kk ls hl))
  · rw [if_neg hc]
    exact m_pu S (k2 hc) (fun S H locs cells slots Q ls hl kk => lv_if_ge S.1 S.2.1 hd ht (fun _ => kk ls hl) (fun q => absurd ((m_le_iff 0 a).mpr hc) q))
theorem ms_icmp_gt {ρ : Type} {Y : m_Y ρ} {own : String} {cc : ByteArray} (S : m_Std Y own cc) {pc : Nat} {L : List (Nat × m_V)} {st : List m_V} {h : m_H} {T1 T2 : Option (ρ × m_H)} {a b : Int} {off : Int} {tgt : Nat} (hd : decode cc pc = .ok (.if_icmp .gt off, 3)) (ht : (pc : Int) + off = (tgt : Int)) (k1 : m_w b < m_w a → m_Sim Y (tgt) L st h T1) (k2 : ¬ m_w b < m_w a → m_Sim Y (pc + 3) L st h T2) : m_Sim Y pc L (m_i b :: m_i a :: st) h (if m_w b < m_w a then T1 else T2) := by
  by_cases hc : m_w b < m_w a
  · rw [if_pos hc]
    exact m_pu S (k1 hc) (fun S H locs cells slots Q ls hl kk => lv_icmp_gt S.1 S.2.1 hd ht (fun _ => kk ls hl) (fun q => absurd ((m_lt_iff b a).mpr hc) q))
  · rw [if_neg hc]
    exact m_pu S (k2 hc) (fun S H locs cells slots Q ls hl kk => lv_icmp_gt S.1 S.2.1 hd ht (fun q => absurd ((m_lt_iff b a).mp q) hc) (fun _ => kk ls hl))
theorem ms_if_gt {ρ : Type} {Y : m_Y ρ} {own : String} {cc : ByteArray} (S : m_Std Y own cc) {pc : Nat} {L : List (Nat × m_V)} {st : List m_V} {h : m_H} {T1 T2 : Option (ρ × m_H)} {a : Int} {off : Int} {tgt : Nat} (hd : decode cc pc = .ok (.ifCond .gt off, 3)) (ht : (pc : Int) + off = (tgt : Int)) (k1 : 0 < m_w a → m_Sim Y (tgt) L st h T1) (k2 : ¬ 0 < m_w a → m_Sim Y (pc + 3) L st h T2) : m_Sim Y pc L (m_i a :: st) h (if 0 < m_w a then T1 else T2) := by
  by_cases hc : 0 < m_w a
  · rw [if_pos hc]
    exact m_pu S (k1 hc) (fun S H locs cells slots Q ls hl kk => lv_if_gt S.1 S.2.1 hd ht (fun _ => kk ls hl) (fun q => absurd ((m_lt_iff 0 a).mpr hc) q))
  · rw [if_neg hc]
    exact m_pu S (k2 hc) (fun S H locs cells slots Q ls hl kk => lv_if_gt S.1 S.2.1 hd ht (fun q => absurd ((m_lt_iff 0 a).mp q) hc) (fun _ => kk ls hl))
theorem ms_icmp_le {ρ : Type} {Y : m_Y ρ} {own : String} {cc : ByteArray} (S : m_Std Y own cc) {pc : Nat} {L : List (Nat × m_V)} {st : List m_V} {h : m_H} {T1 T2 : Option (ρ × m_H)} {a b : Int} {off : Int} {tgt : Nat} (hd : decode cc pc = .ok (.if_icmp .le off, 3)) (ht : (pc : Int) + off = (tgt : Int)) (k1 : m_w b < m_w a → m_Sim Y (pc + 3) L st h T1) (k2 : ¬ m_w b < m_w a → m_Sim Y (tgt) L st h T2) : m_Sim Y pc L (m_i b :: m_i a :: st) h (if m_w b < m_w a then T1 else T2) := by
  by_cases hc : m_w b < m_w a
  · rw [if_pos hc]
    exact m_pu S (k1 hc) (fun S H locs cells slots Q ls hl kk => lv_icmp_le S.1 S.2.1 hd ht (fun q => absurd hc ((m_le_iff a b).mp q)) (fun _ => kk ls hl))
  · rw [if_neg hc]
    exact m_pu S (k2 hc) (fun S H locs cells slots Q ls hl kk => lv_icmp_le S.1 S.2.1 hd ht (fun _ => kk ls hl) (fun q => absurd ((m_le_iff a b).mpr hc) q))
theorem ms_if_le {ρ : Type} {Y : m_Y ρ} {own : String} {cc : ByteArray} (S : m_Std Y own cc) {pc : Nat} {L : List (Nat × m_V)} {st : List m_V} {h : m_H} {T1 T2 : Option (ρ × m_H)} {a : Int} {off : Int} {tgt : Nat} (hd : decode cc pc = .ok (.ifCond .le off, 3)) (ht : (pc : Int) + off = (tgt : Int)) (k1 : 0 < m_w a → m_Sim Y (pc + 3) L st h T1) (k2 : ¬ 0 < m_w a → m_Sim Y (tgt) L st h T2) : m_Sim Y pc L (m_i a :: st) h (if 0 < m_w a then T1 else T2) := by
  by_cases hc : 0 < m_w a
  · rw [if_pos hc]
    exact m_pu S (k1 hc) (fun S H locs cells slots Q ls hl kk => lv_if_le S.1 S.2.1 hd ht (fun q => absurd hc ((m_le_iff a 0).mp q)) (fun _ => kk ls hl))
  · rw [if_neg hc]
    exact m_pu S (k2 hc) (fun S H locs cells slots Q ls hl kk => lv_if_le S.1 S.2.1 hd ht (fun _ => kk ls hl) (fun q => absurd ((m_le_iff a 0).mpr hc) q))
theorem ms_ifb_eq {ρ : Type} {Y : m_Y ρ} {own : String} {cc : ByteArray} (S : m_Std Y own cc) {pc : Nat} {L : List (Nat × m_V)} {st : List m_V} {h : m_H} {T1 T2 : Option (ρ × m_H)} {b : Bool} {off : Int} {tgt : Nat} (hd : decode cc pc = .ok (.ifCond .eq off, 3)) (ht : (pc : Int) + off = (tgt : Int)) (k1 : b = true → m_Sim Y (pc + 3) L st h T1) (k2 : ¬ b = true → m_Sim Y (tgt) L st h T2) : m_Sim Y pc L (m_i (m_b2i b) :: st) h (if b = true then T1 else T2) := by
  cases b
  · rw [if_neg (by decide)]
    exact m_pu S (k2 (by decide)) (fun S H locs cells slots Q ls hl kk => lv_if_eq (x := Int32.ofInt 0) S.1 S.2.1 hd ht (fun _ => kk ls hl) (fun q => absurd rfl q))
  · rw [if_pos rfl]
    exact m_pu S (k1 rfl) (fun S H locs cells slots Q ls hl kk => lv_if_eq (x := Int32.ofInt 1) S.1 S.2.1 hd ht (fun q => absurd q (by decide)) (fun _ => kk ls hl))
theorem ms_ifb_ne {ρ : Type} {Y : m_Y ρ} {own : String} {cc : ByteArray} (S : m_Std Y own cc) {pc : Nat} {L : List (Nat × m_V)} {st : List m_V} {h : m_H} {T1 T2 : Option (ρ × m_H)} {b : Bool} {off : Int} {tgt : Nat} (hd : decode cc pc = .ok (.ifCond .ne off, 3)) (ht : (pc : Int) + off = (tgt : Int)) (k1 : b = true → m_Sim Y (tgt) L st h T1) (k2 : ¬ b = true → m_Sim Y (pc + 3) L st h T2) : m_Sim Y pc L (m_i (m_b2i b) :: st) h (if b = true then T1 else T2) := by
  cases b
  · rw [if_neg (by decide)]
    exact m_pu S (k2 (by decide)) (fun S H locs cells slots Q ls hl kk => lv_if_ne (x := Int32.ofInt 0) S.1 S.2.1 hd ht (fun q => absurd rfl q) (fun _ => kk ls hl))
  · rw [if_pos rfl]
    exact m_pu S (k1 rfl) (fun S H locs cells slots Q ls hl kk => lv_if_ne (x := Int32.ofInt 1) S.1 S.2.1 hd ht (fun _ => kk ls hl) (fun q => absurd q (by decide)))
theorem ms_ifnull {ρ : Type} {Y : m_Y ρ} {own : String} {cc : ByteArray} (S : m_Std Y own cc) {pc : Nat} {L : List (Nat × m_V)} {st : List m_V} {h : m_H} {T1 T2 : Option (ρ × m_H)} {a : Int} {off : Int} {tgt : Nat} (hd : decode cc pc = .ok (.ifnull off, 3)) (ht : (pc : Int) + off = (tgt : Int)) (k1 : a = 0 → m_Sim Y tgt L st h T1) (k2 : ¬ a = 0 → m_Sim Y (pc + 3) L st h T2) : m_Sim Y pc L (m_r a :: st) h (if a = 0 then T1 else T2) := by
  by_cases hc : a = 0
  · rw [if_pos hc]
    refine m_pu S (k1 hc) (fun S H locs cells slots Q ls hl kk => ?_)
    subst hc
    exact lv_ifnullN S.1 S.2.1 hd ht (kk ls hl)
  · rw [if_neg hc]
    refine m_pu S (k2 hc) (fun S H locs cells slots Q ls hl kk => ?_)
    simp only [List.map_cons, m_tr_r hc]
    exact lv_ifnull S.1 S.2.1 hd (kk ls hl)
theorem ms_ifnonnull {ρ : Type} {Y : m_Y ρ} {own : String} {cc : ByteArray} (S : m_Std Y own cc) {pc : Nat} {L : List (Nat × m_V)} {st : List m_V} {h : m_H} {T1 T2 : Option (ρ × m_H)} {a : Int} {off : Int} {tgt : Nat} (hd : decode cc pc = .ok (.ifnonnull off, 3)) (ht : (pc : Int) + off = (tgt : Int)) (k1 : a = 0 → m_Sim Y (pc + 3) L st h T1) (k2 : ¬ a = 0 → m_Sim Y tgt L st h T2) : m_Sim Y pc L (m_r a :: st) h (if a = 0 then T1 else T2) := by
  by_cases hc : a = 0
  · rw [if_pos hc]
    refine m_pu S (k1 hc) (fun S H locs cells slots Q ls hl kk => ?_)
    subst hc
    exact lv_ifnonnullN S.1 S.2.1 hd (kk ls hl)
  · rw [if_neg hc]
    refine m_pu S (k2 hc) (fun S H locs cells slots Q ls hl kk => ?_)
    simp only [List.map_cons, m_tr_r hc]
    exact lv_ifnonnull S.1 S.2.1 hd ht (kk ls hl)
/-- a tableswitch at a value within, and without -/
theorem ms_swIn {ρ : Type} {Y : m_Y ρ} {own : String} {cc : ByteArray} (S : m_Std Y own cc) {pc : Nat} {L : List (Nat × m_V)} {st : List m_V} {h : m_H} {T : Option (ρ × m_H)} {a : Int} {dflt lo hi off : Int} {offs : Array Int} {len tgt : Nat} (hd : decode cc pc = .ok (.tableswitch dflt lo hi offs, len)) (v : Int) (hv : m_w a = v) (h1 : ¬ v < lo) (h2 : ¬ hi < v) (ho : offs[(v - lo).toNat]? = some off) (ht : (pc : Int) + off = (tgt : Int)) (k : m_Sim Y tgt L st h T) : m_Sim Y pc L (m_i a :: st) h T := by
  subst hv
  exact m_pu S k (fun S H locs cells slots Q ls hl kk => lv_tableIn S.1 S.2.1 hd (by rw [m_w_i]; exact h1) (by rw [m_w_i]; exact h2) (by rw [m_w_i]; exact ho) ht (kk ls hl))
theorem ms_swOut {ρ : Type} {Y : m_Y ρ} {own : String} {cc : ByteArray} (S : m_Std Y own cc) {pc : Nat} {L : List (Nat × m_V)} {st : List m_V} {h : m_H} {T : Option (ρ × m_H)} {a : Int} {dflt lo hi : Int} {offs : Array Int} {len tgt : Nat} (hd : decode cc pc = .ok (.tableswitch dflt lo hi offs, len)) (hv : m_w a < lo ∨ hi < m_w a) (ht : (pc : Int) + dflt = (tgt : Int)) (k : m_Sim Y tgt L st h T) : m_Sim Y pc L (m_i a :: st) h T :=
  m_pu S k (fun S H locs cells slots Q ls hl kk => lv_tableOut S.1 S.2.1 hd (by rw [m_w_i]; exact hv) ht (kk ls hl))
