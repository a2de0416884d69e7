/-! THE START: what the law's entry gives -/
def m_h0 : m_H := (fun _ _ => 0, fun _ => -1, fun _ => 0, 1, 0)
def m_tm (i : Nat) : Term := .string (m_strs.getD i ("", 0, "")).1 (m_strs.getD i ("", 0, "")).2.1
theorem m_big_tbl {w : Cond} (h : w ∈ m_big) : w ∈ lw_tbl := (List.mem_filter.mp h).1
theorem m_nest_of {w : Cond} {A : Array Value} {s : State} (hw : w ∈ m_nest) (h : w.before A s = true) : va_Nw w s := by
  have hn := (List.mem_filter.mp hw).2
  unfold m_isNest at hn
  split at hn
  all_goals first
    | exact va_Nw.of rfl h
    | exact absurd hn (by decide)
    | exact h
theorem m_arrC {A : Array Value} {s : State} {ty : FieldType} (h : (Cond.arrayClass ty).before A s = true) : ∃ c, ArrOfT s c ty ∧ s.vm.findClass ("[" ++ ty.toString) = some c := by
  obtain ⟨c, k, comp, h1, h2, h3⟩ := Cond.arrayClass_spec (args := A) (first := s) (o := none) (s := s) (idx := []) h
  exact ⟨c, fun n z => ⟨(fun q hq => by cases hq), k, h2, comp, h3⟩, h1⟩
theorem m_arrO {A : Array Value} {s : State} {C : String} (h : (Cond.arrayOver (.object C)).before A s = true) : ∃ c, ArrOfT s c (.object C) ∧ va_RA s c (.object C) := by
  obtain ⟨comp, c, k, h1, -, h2, h3, h4⟩ := Cond.arrayOver_spec (args := A) (first := s) (o := none) (s := s) (idx := []) h
  exact ⟨c, fun n z => ⟨(fun q hq => by cases hq), k, h2, comp, h3⟩, k, comp, h2, h3, h1, h4⟩
theorem m_arrA {A : Array Value} {s : State} {t : FieldType} (h : (Cond.arrayOver (.array t)).before A s = true) : ∃ c, ArrOfT s c (.array t) ∧ s.vm.findClass ("[" ++ (FieldType.array t).toString) = some c := by
  obtain ⟨comp, c, k, h1, h2, h3, h4⟩ := Cond.arrayOver_specA (args := A) (first := s) (o := none) (s := s) (idx := []) h
  exact ⟨c, fun n z => ⟨(fun q hq => by cases hq), k, h2, comp, h3⟩, h4⟩
theorem m_gex : ∀ i, i < 25 → Cond.exactly (m_tm i) "java/lang/String" ∈ flatC (Jvm.Cond.and given_1 narrow_1) := by decide +kernel
theorem m_gco : ∀ i, i < 25 → Cond.eq (.field (m_tm i) "java/lang/String" "coder" "B") (.int 0) ∈ flatC (Jvm.Cond.and given_1 narrow_1) := by decide +kernel
theorem m_gar : ∀ i, i < 25 → Cond.arrayOf (.field (m_tm i) "java/lang/String" "value" "[B") .byte ∈ flatC (Jvm.Cond.and given_1 narrow_1) := by decide +kernel
theorem m_gle : ∀ i, i < 25 → Cond.eq (.length (.field (m_tm i) "java/lang/String" "value" "[B")) (.int (Int32.ofNat (m_slen.getD i 0))) ∈ flatC (Jvm.Cond.and given_1 narrow_1) := by decide +kernel
def m_ep : List Nat := [61, 209, 218, 228, 238, 250, 264, 280, 295, 311, 328, 348, 367, 387, 408, 428, 452, 475, 501, 525, 550, 576, 604, 633, 662]
def m_np : List Nat := [2, 213, 222, 231, 242, 255, 270, 284, 299, 315, 334, 352, 371, 391, 410, 433, 455, 480, 503, 527, 552, 579, 607, 635, 667]
theorem m_ge0_0 : ∀ j, j < 24 → 0 ≤ j → (flatC (Jvm.Cond.and given_1 narrow_1))[m_ep.getD 0 0 + j]? = some (Cond.eq (.elem (.field (m_tm 0) "java/lang/String" "value" "[B") (.int (Int32.ofNat j))) (.int ((m_sbyt.getD 0 []).getD j 0))) := by decide +kernel
theorem m_ge0_1 : ∀ j, j < 48 → 24 ≤ j → (flatC (Jvm.Cond.and given_1 narrow_1))[m_ep.getD 0 0 + j]? = some (Cond.eq (.elem (.field (m_tm 0) "java/lang/String" "value" "[B") (.int (Int32.ofNat j))) (.int ((m_sbyt.getD 0 []).getD j 0))) := by decide +kernel
theorem m_ge0_2 : ∀ j, j < 72 → 48 ≤ j → (flatC (Jvm.Cond.and given_1 narrow_1))[m_ep.getD 0 0 + j]? = some (Cond.eq (.elem (.field (m_tm 0) "java/lang/String" "value" "[B") (.int (Int32.ofNat j))) (.int ((m_sbyt.getD 0 []).getD j 0))) := by decide +kernel
theorem m_ge0_3 : ∀ j, j < 96 → 72 ≤ j → (flatC (Jvm.Cond.and given_1 narrow_1))[m_ep.getD 0 0 + j]? = some (Cond.eq (.elem (.field (m_tm 0) "java/lang/String" "value" "[B") (.int (Int32.ofNat j))) (.int ((m_sbyt.getD 0 []).getD j 0))) := by decide +kernel
theorem m_ge0_4 : ∀ j, j < 120 → 96 ≤ j → (flatC (Jvm.Cond.and given_1 narrow_1))[m_ep.getD 0 0 + j]? = some (Cond.eq (.elem (.field (m_tm 0) "java/lang/String" "value" "[B") (.int (Int32.ofNat j))) (.int ((m_sbyt.getD 0 []).getD j 0))) := by decide +kernel
theorem m_ge0_5 : ∀ j, j < 144 → 120 ≤ j → (flatC (Jvm.Cond.and given_1 narrow_1))[m_ep.getD 0 0 + j]? = some (Cond.eq (.elem (.field (m_tm 0) "java/lang/String" "value" "[B") (.int (Int32.ofNat j))) (.int ((m_sbyt.getD 0 []).getD j 0))) := by decide +kernel
theorem m_ge1_0 : ∀ i, i < 7 → 1 ≤ i → ∀ j, j < m_slen.getD i 0 → (flatC (Jvm.Cond.and given_1 narrow_1))[m_ep.getD i 0 + j]? = some (Cond.eq (.elem (.field (m_tm i) "java/lang/String" "value" "[B") (.int (Int32.ofNat j))) (.int ((m_sbyt.getD i []).getD j 0))) := by decide +kernel
theorem m_ge1_1 : ∀ i, i < 13 → 7 ≤ i → ∀ j, j < m_slen.getD i 0 → (flatC (Jvm.Cond.and given_1 narrow_1))[m_ep.getD i 0 + j]? = some (Cond.eq (.elem (.field (m_tm i) "java/lang/String" "value" "[B") (.int (Int32.ofNat j))) (.int ((m_sbyt.getD i []).getD j 0))) := by decide +kernel
theorem m_ge1_2 : ∀ i, i < 19 → 13 ≤ i → ∀ j, j < m_slen.getD i 0 → (flatC (Jvm.Cond.and given_1 narrow_1))[m_ep.getD i 0 + j]? = some (Cond.eq (.elem (.field (m_tm i) "java/lang/String" "value" "[B") (.int (Int32.ofNat j))) (.int ((m_sbyt.getD i []).getD j 0))) := by decide +kernel
theorem m_ge1_3 : ∀ i, i < 25 → 19 ≤ i → ∀ j, j < m_slen.getD i 0 → (flatC (Jvm.Cond.and given_1 narrow_1))[m_ep.getD i 0 + j]? = some (Cond.eq (.elem (.field (m_tm i) "java/lang/String" "value" "[B") (.int (Int32.ofNat j))) (.int ((m_sbyt.getD i []).getD j 0))) := by decide +kernel
theorem m_gel : ∀ i, i < 25 → ∀ j, j < m_slen.getD i 0 → Cond.eq (.elem (.field (m_tm i) "java/lang/String" "value" "[B") (.int (Int32.ofNat j))) (.int ((m_sbyt.getD i []).getD j 0)) ∈ flatC (Jvm.Cond.and given_1 narrow_1) := by
  intro i hi j hj
  refine List.mem_of_getElem? (i := m_ep.getD i 0 + j) ?_
  by_cases c : i = 0
  · subst c
    have : m_slen.getD 0 0 = 144 := by decide +kernel
    rcases (show j < 24 ∨ (j < 48 ∧ 24 ≤ j) ∨ (j < 72 ∧ 48 ≤ j) ∨ (j < 96 ∧ 72 ≤ j) ∨ (j < 120 ∧ 96 ≤ j) ∨ (j < 144 ∧ 120 ≤ j) by omega) with q | q | q | q | q | q
    · exact m_ge0_0 j q (Nat.zero_le _)
    · exact m_ge0_1 j q.1 q.2
    · exact m_ge0_2 j q.1 q.2
    · exact m_ge0_3 j q.1 q.2
    · exact m_ge0_4 j q.1 q.2
    · exact m_ge0_5 j q.1 q.2
  · rcases (show (i < 7 ∧ 1 ≤ i) ∨ (i < 13 ∧ 7 ≤ i) ∨ (i < 19 ∧ 13 ≤ i) ∨ (i < 25 ∧ 19 ≤ i) by omega) with q | q | q | q
    · exact m_ge1_0 i q.1 q.2 j hj
    · exact m_ge1_1 i q.1 q.2 j hj
    · exact m_ge1_2 i q.1 q.2 j hj
    · exact m_ge1_3 i q.1 q.2 j hj
theorem m_gn_1 : ∀ i, i < 1 → (flatC (Jvm.Cond.and given_1 narrow_1))[213 + i]? = some (Cond.not (Cond.eq (m_tm i) (m_tm 1))) := by decide +kernel
theorem m_gn_2 : ∀ i, i < 2 → (flatC (Jvm.Cond.and given_1 narrow_1))[222 + i]? = some (Cond.not (Cond.eq (m_tm i) (m_tm 2))) := by decide +kernel
theorem m_gn_3 : ∀ i, i < 3 → (flatC (Jvm.Cond.and given_1 narrow_1))[231 + i]? = some (Cond.not (Cond.eq (m_tm i) (m_tm 3))) := by decide +kernel
theorem m_gn_4 : ∀ i, i < 4 → (flatC (Jvm.Cond.and given_1 narrow_1))[242 + i]? = some (Cond.not (Cond.eq (m_tm i) (m_tm 4))) := by decide +kernel
theorem m_gn_5 : ∀ i, i < 5 → (flatC (Jvm.Cond.and given_1 narrow_1))[255 + i]? = some (Cond.not (Cond.eq (m_tm i) (m_tm 5))) := by decide +kernel
theorem m_gn_6 : ∀ i, i < 6 → (flatC (Jvm.Cond.and given_1 narrow_1))[270 + i]? = some (Cond.not (Cond.eq (m_tm i) (m_tm 6))) := by decide +kernel
theorem m_gn_7 : ∀ i, i < 7 → (flatC (Jvm.Cond.and given_1 narrow_1))[284 + i]? = some (Cond.not (Cond.eq (m_tm i) (m_tm 7))) := by decide +kernel
theorem m_gn_8 : ∀ i, i < 8 → (flatC (Jvm.Cond.and given_1 narrow_1))[299 + i]? = some (Cond.not (Cond.eq (m_tm i) (m_tm 8))) := by decide +kernel
theorem m_gn_9 : ∀ i, i < 9 → (flatC (Jvm.Cond.and given_1 narrow_1))[315 + i]? = some (Cond.not (Cond.eq (m_tm i) (m_tm 9))) := by decide +kernel
theorem m_gn_10 : ∀ i, i < 10 → (flatC (Jvm.Cond.and given_1 narrow_1))[334 + i]? = some (Cond.not (Cond.eq (m_tm i) (m_tm 10))) := by decide +kernel
theorem m_gn_11 : ∀ i, i < 11 → (flatC (Jvm.Cond.and given_1 narrow_1))[352 + i]? = some (Cond.not (Cond.eq (m_tm i) (m_tm 11))) := by decide +kernel
theorem m_gn_12 : ∀ i, i < 12 → (flatC (Jvm.Cond.and given_1 narrow_1))[371 + i]? = some (Cond.not (Cond.eq (m_tm i) (m_tm 12))) := by decide +kernel
theorem m_gn_13 : ∀ i, i < 13 → (flatC (Jvm.Cond.and given_1 narrow_1))[391 + i]? = some (Cond.not (Cond.eq (m_tm i) (m_tm 13))) := by decide +kernel
theorem m_gn_14 : ∀ i, i < 14 → (flatC (Jvm.Cond.and given_1 narrow_1))[410 + i]? = some (Cond.not (Cond.eq (m_tm i) (m_tm 14))) := by decide +kernel
theorem m_gn_15 : ∀ i, i < 15 → (flatC (Jvm.Cond.and given_1 narrow_1))[433 + i]? = some (Cond.not (Cond.eq (m_tm i) (m_tm 15))) := by decide +kernel
theorem m_gn_16 : ∀ i, i < 16 → (flatC (Jvm.Cond.and given_1 narrow_1))[455 + i]? = some (Cond.not (Cond.eq (m_tm i) (m_tm 16))) := by decide +kernel
theorem m_gn_17 : ∀ i, i < 17 → (flatC (Jvm.Cond.and given_1 narrow_1))[480 + i]? = some (Cond.not (Cond.eq (m_tm i) (m_tm 17))) := by decide +kernel
theorem m_gn_18 : ∀ i, i < 18 → (flatC (Jvm.Cond.and given_1 narrow_1))[503 + i]? = some (Cond.not (Cond.eq (m_tm i) (m_tm 18))) := by decide +kernel
theorem m_gn_19 : ∀ i, i < 19 → (flatC (Jvm.Cond.and given_1 narrow_1))[527 + i]? = some (Cond.not (Cond.eq (m_tm i) (m_tm 19))) := by decide +kernel
theorem m_gn_20 : ∀ i, i < 20 → (flatC (Jvm.Cond.and given_1 narrow_1))[552 + i]? = some (Cond.not (Cond.eq (m_tm i) (m_tm 20))) := by decide +kernel
theorem m_gn_21 : ∀ i, i < 21 → (flatC (Jvm.Cond.and given_1 narrow_1))[579 + i]? = some (Cond.not (Cond.eq (m_tm i) (m_tm 21))) := by decide +kernel
theorem m_gn_22 : ∀ i, i < 22 → (flatC (Jvm.Cond.and given_1 narrow_1))[607 + i]? = some (Cond.not (Cond.eq (m_tm i) (m_tm 22))) := by decide +kernel
theorem m_gn_23 : ∀ i, i < 23 → (flatC (Jvm.Cond.and given_1 narrow_1))[635 + i]? = some (Cond.not (Cond.eq (m_tm i) (m_tm 23))) := by decide +kernel
theorem m_gn_24 : ∀ i, i < 24 → (flatC (Jvm.Cond.and given_1 narrow_1))[667 + i]? = some (Cond.not (Cond.eq (m_tm i) (m_tm 24))) := by decide +kernel
theorem m_gn : ∀ i j, i < j → j < 25 → Cond.not (Cond.eq (m_tm i) (m_tm j)) ∈ flatC (Jvm.Cond.and given_1 narrow_1) := by
  intro i j hij hj
  match j, hij, hj with
  | 0, hij, _ => omega
  | 1, hij, _ => exact List.mem_of_getElem? (m_gn_1 i hij)
  | 2, hij, _ => exact List.mem_of_getElem? (m_gn_2 i hij)
  | 3, hij, _ => exact List.mem_of_getElem? (m_gn_3 i hij)
  | 4, hij, _ => exact List.mem_of_getElem? (m_gn_4 i hij)
  | 5, hij, _ => exact List.mem_of_getElem? (m_gn_5 i hij)
  | 6, hij, _ => exact List.mem_of_getElem? (m_gn_6 i hij)
  | 7, hij, _ => exact List.mem_of_getElem? (m_gn_7 i hij)
  | 8, hij, _ => exact List.mem_of_getElem? (m_gn_8 i hij)
  | 9, hij, _ => exact List.mem_of_getElem? (m_gn_9 i hij)
  | 10, hij, _ => exact List.mem_of_getElem? (m_gn_10 i hij)
  | 11, hij, _ => exact List.mem_of_getElem? (m_gn_11 i hij)
  | 12, hij, _ => exact List.mem_of_getElem? (m_gn_12 i hij)
  | 13, hij, _ => exact List.mem_of_getElem? (m_gn_13 i hij)
  | 14, hij, _ => exact List.mem_of_getElem? (m_gn_14 i hij)
  | 15, hij, _ => exact List.mem_of_getElem? (m_gn_15 i hij)
  | 16, hij, _ => exact List.mem_of_getElem? (m_gn_16 i hij)
  | 17, hij, _ => exact List.mem_of_getElem? (m_gn_17 i hij)
  | 18, hij, _ => exact List.mem_of_getElem? (m_gn_18 i hij)
  | 19, hij, _ => exact List.mem_of_getElem? (m_gn_19 i hij)
  | 20, hij, _ => exact List.mem_of_getElem? (m_gn_20 i hij)
  | 21, hij, _ => exact List.mem_of_getElem? (m_gn_21 i hij)
  | 22, hij, _ => exact List.mem_of_getElem? (m_gn_22 i hij)
  | 23, hij, _ => exact List.mem_of_getElem? (m_gn_23 i hij)
  | 24, hij, _ => exact List.mem_of_getElem? (m_gn_24 i hij)
  | k + 25, _, hj => omega
theorem m_gne : ∀ i, i < 25 → ∀ j, j < 25 → i ≠ j → Cond.not (Cond.eq (m_tm i) (m_tm j)) ∈ flatC (Jvm.Cond.and given_1 narrow_1) ∨ Cond.not (Cond.eq (m_tm j) (m_tm i)) ∈ flatC (Jvm.Cond.and given_1 narrow_1) := by
  intro i hi j hj hij
  rcases Nat.lt_or_ge i j with q | q
  · exact Or.inl (m_gn i j q hj)
  · exact Or.inr (m_gn j i (by omega) hi)
theorem m_gcs : Cond.eq (.static "java/lang/String" "COMPACT_STRINGS" "Z") (.int 1) ∈ flatC (Jvm.Cond.and given_1 narrow_1) := by decide +kernel
theorem m_gsi : Cond.isRef (.static "jdk/internal/util/Preconditions" "SIOOBE_FORMATTER" "Ljava/util/function/BiFunction;") ∈ flatC (Jvm.Cond.and given_1 narrow_1) := by decide +kernel
theorem m_gsr : ∀ k, k < 25 → Cond.stringRef (m_strs.getD k ("", 0, "")).1 (m_strs.getD k ("", 0, "")).2.1 (m_strs.getD k ("", 0, "")).2.2 ∈ lw_tbl := by decide +kernel
theorem m_glays : Cond.laysStatic "java/lang/String" "COMPACT_STRINGS" "Z" ∈ lw_tbl ∧ Cond.laysStatic "jdk/internal/util/Preconditions" "SIOOBE_FORMATTER" "Ljava/util/function/BiFunction;" ∈ lw_tbl ∧ Cond.initialized "java/lang/String" ∈ lw_tbl ∧ Cond.initialized "jdk/internal/util/Preconditions" ∈ lw_tbl := by decide +kernel
set_option maxHeartbeats 2000000 in
theorem m_start {s : State} {b L : Nat} {xs : Nat → Int32} (hts : ∀ w ∈ lw_tbl, w.before #[Value.ref b] s = true) (hX : va_X b L xs s s.heap) (hbl : b < s.heap.size) (hgv : (Jvm.Cond.and given_1 narrow_1).before #[Value.ref b] s = true) : ∃ d : m_D, d.1 = s.heap.size ∧ d.2.2.2.2.1 1 = b ∧ d.2.2.2.2.2.2.1 = L ∧ d.2.2.2.2.2.2.2 = xs ∧ m_glob d s ∧ m_R d m_h0 s.heap := by
  have hfl := flat_of_before _ hgv
  obtain ⟨c0, i0, hK0⟩ := u_known (C := RX0) (T := TX0) (N := 4) (n := 4) hts (fun w hw => m_big_tbl (uw_0 w hw)) (hts (Cond.instantiable "TapeStudio$Machine" 4) (by decide +kernel))
  obtain ⟨c1, i1, hK1⟩ := u_known (C := RX1) (T := TX1) (N := 13) (n := 13) hts (fun w hw => m_big_tbl (uw_1 w hw)) (hts (Cond.instantiable "TapeStudio$Match" 13) (by decide +kernel))
  obtain ⟨c2, i2, hK2⟩ := u_known (C := RX2) (T := TX2) (N := 8) (n := 8) hts (fun w hw => m_big_tbl (uw_2 w hw)) (hts (Cond.instantiable "TapeStudio$Piece" 8) (by decide +kernel))
  obtain ⟨c3, i3, hK3⟩ := u_known (C := RX3) (T := TX3) (N := 5) (n := 5) hts (fun w hw => m_big_tbl (uw_3 w hw)) (hts (Cond.instantiable "TapeStudio$Player" 5) (by decide +kernel))
  obtain ⟨c4, i4, hK4⟩ := u_known (C := RX4) (T := TX4) (N := 11) (n := 11) hts (fun w hw => m_big_tbl (uw_4 w hw)) (hts (Cond.instantiable "TapeStudio$Reader" 11) (by decide +kernel))
  obtain ⟨c5, i5, hK5⟩ := u_known (C := RX5) (T := TX5) (N := 2) (n := 2) hts (fun w hw => m_big_tbl (uw_5 w hw)) (hts (Cond.instantiable "TapeStudio$Row" 2) (by decide +kernel))
  obtain ⟨c6, i6, hK6⟩ := u_known (C := RX6) (T := TX6) (N := 4) (n := 4) hts (fun w hw => m_big_tbl (uw_6 w hw)) (hts (Cond.instantiable "TapeStudio$Score" 4) (by decide +kernel))
  obtain ⟨c7, i7, hK7⟩ := u_known (C := RX7) (T := TX7) (N := 12) (n := 12) hts (fun w hw => m_big_tbl (uw_7 w hw)) (hts (Cond.instantiable "TapeStudio$Shelf" 12) (by decide +kernel))
  obtain ⟨c8, i8, hK8⟩ := u_known (C := RX8) (T := TX8) (N := 12) (n := 12) hts (fun w hw => m_big_tbl (uw_8 w hw)) (hts (Cond.instantiable "TapeStudio$Strip" 12) (by decide +kernel))
  obtain ⟨c9, i9, hK9⟩ := u_known (C := RX9) (T := TX9) (N := 7) (n := 7) hts (fun w hw => m_big_tbl (uw_9 w hw)) (hts (Cond.instantiable "TapeStudio$Work" 7) (by decide +kernel))
  obtain ⟨c10, i10, hK10⟩ := u_known (C := RX10) (T := TX10) (N := 10) (n := 10) hts (fun w hw => m_big_tbl (uw_10 w hw)) (hts (Cond.instantiable "TapeStudio" 10) (by decide +kernel))
  obtain ⟨c11, i11, hK11⟩ := u_known (C := RX11) (T := TX11) (N := 92) (n := 92) hts (fun w hw => m_big_tbl (uw_11 w hw)) (hts (Cond.instantiable "TapeStudioModel" 92) (by decide +kernel))
  obtain ⟨a20, A20, B20⟩ := m_arrC (hts (.arrayClass .int) (by decide +kernel))
  obtain ⟨a21, A21, B21⟩ := m_arrC (hts (.arrayClass .long) (by decide +kernel))
  obtain ⟨a22, A22, B22⟩ := m_arrC (hts (.arrayClass .byte) (by decide +kernel))
  obtain ⟨a23, A23, B23⟩ := m_arrC (hts (.arrayClass .boolean) (by decide +kernel))
  obtain ⟨a24, A24, B24⟩ := m_arrO (hts (.arrayOver (.object RX8)) (by decide +kernel))
  obtain ⟨a25, A25, B25⟩ := m_arrO (hts (.arrayOver (.object RX0)) (by decide +kernel))
  obtain ⟨a26, A26, B26⟩ := m_arrO (hts (.arrayOver (.object RX6)) (by decide +kernel))
  obtain ⟨a27, A27, B27⟩ := m_arrO (hts (.arrayOver (.object RX5)) (by decide +kernel))
  obtain ⟨a28, A28, B28⟩ := m_arrO (hts (.arrayOver (.object "java/lang/String")) (by decide +kernel))
  obtain ⟨a29, A29, B29⟩ := m_arrA (hts (.arrayOver (.array .int)) (by decide +kernel))
  have hA : ∀ a : Nat, a < s.heap.size → ¬ (fun q : Nat => s.heap.size ≤ q) a := fun a h q => absurd q (Nat.not_le.mpr h)
  obtain ⟨adK, adV, hS, hE⟩ := vk_Sof (args := #[Value.ref b]) (s := s) (N := 25) (tm := m_tm) (len := m_slen) (byt := m_sbyt) (A := fun q : Nat => s.heap.size ≤ q) (by decide +kernel) (fun i hi => hfl _ (m_gex i hi)) (fun i hi => hfl _ (m_gco i hi)) (fun i hi => hfl _ (m_gar i hi)) (fun i hi => hfl _ (m_gle i hi)) (fun i hi j hj => hfl _ (m_gel i hi j hj)) (fun i j hi hj hij => (m_gne i hi j hj hij).imp (hfl _) (hfl _)) hA
  have hZ1 := va_Zof (A := fun q : Nat => s.heap.size ≤ q) (hts _ m_glays.1) (hts _ m_glays.2.2.1) (va_eqi (hfl _ m_gcs)) hA
  have hZ2 := va_Zqof (A := fun q : Nat => s.heap.size ≤ q) (hts _ m_glays.2.1) (hts _ m_glays.2.2.2) (hfl _ m_gsi) hA
  obtain ⟨t0, hZ3⟩ : ∃ t0 : Nat, va_Z "jdk/internal/util/Preconditions" "SIOOBE_FORMATTER" "Ljava/util/function/BiFunction;" .null (fun q : Nat => s.heap.size ≤ q) s s.heap ∨ va_Z "jdk/internal/util/Preconditions" "SIOOBE_FORMATTER" "Ljava/util/function/BiFunction;" (.ref t0) (fun q : Nat => s.heap.size ≤ q) s s.heap := by
    rcases hZ2 with h | ⟨t, h⟩
    · exact ⟨0, Or.inl h⟩
    · exact ⟨t, Or.inr h⟩
  generalize hex : (fun n : Nat => if n = 1 then b else if n < 27 then adK (n - 2) else if n = 30 then t0 else adV (n - 40)) = ext
  have e1 : ext 1 = b := by rw [← hex]; rfl
  have e2 : ∀ k, k < 25 → ext (k + 2) = adK k := fun k hk => by
    rw [← hex]
    show (if k + 2 = 1 then b else if k + 2 < 27 then adK (k + 2 - 2) else if k + 2 = 30 then t0 else adV (k + 2 - 40)) = _
    rw [if_neg (by omega), if_pos (by omega)]; rfl
  have e3 : ext 30 = t0 := by rw [← hex]; rfl
  have e4 : ∀ k, ext (k + 40) = adV k := fun k => by
    rw [← hex]
    show (if k + 40 = 1 then b else if k + 40 < 27 then adK (k + 40 - 2) else if k + 40 = 30 then t0 else adV (k + 40 - 40)) = _
    rw [if_neg (by omega), if_neg (by omega), if_neg (by omega)]; rfl
  refine ⟨(s.heap.size, s.heap, (fun k => if k = 0 then c0 else if k = 1 then c1 else if k = 2 then c2 else if k = 3 then c3 else if k = 4 then c4 else if k = 5 then c5 else if k = 6 then c6 else if k = 7 then c7 else if k = 8 then c8 else if k = 9 then c9 else if k = 10 then c10 else c11, fun k => if k = 0 then i0 else if k = 1 then i1 else if k = 2 then i2 else if k = 3 then i3 else if k = 4 then i4 else if k = 5 then i5 else if k = 6 then i6 else if k = 7 then i7 else if k = 8 then i8 else if k = 9 then i9 else if k = 10 then i10 else i11), fun t => if t = 20 then a20 else if t = 21 then a21 else if t = 22 then a22 else if t = 23 then a23 else if t = 24 then a24 else if t = 25 then a25 else if t = 26 then a26 else if t = 27 then a27 else if t = 28 then a28 else a29, ext, fun _ => 0, L, xs), rfl, e1, rfl, rfl, ⟨⟨?_, ?_⟩, ?_, ?_, ?_, hZ1, ?_, rfl, ?_, ?_⟩, ?_⟩
  · intro c q hq
    match c, hq with
    | 0, hq => cases hq; exact hK0
    | 1, hq => cases hq; exact hK1
    | 2, hq => cases hq; exact hK2
    | 3, hq => cases hq; exact hK3
    | 4, hq => cases hq; exact hK4
    | 5, hq => cases hq; exact hK5
    | 6, hq => cases hq; exact hK6
    | 7, hq => cases hq; exact hK7
    | 8, hq => cases hq; exact hK8
    | 9, hq => cases hq; exact hK9
    | 10, hq => cases hq; exact hK10
    | 11, hq => cases hq; exact hK11
    | c + 12, hq => simp [vwCl] at hq
  · intro k x hx
    match k, hx with
    | 0, hx => cases hx; exact ⟨A20, B20⟩
    | 1, hx => cases hx; exact ⟨A21, B21⟩
    | 2, hx => cases hx; exact ⟨A22, B22⟩
    | 3, hx => cases hx; exact ⟨A23, B23⟩
    | 4, hx => cases hx; exact ⟨A24, B24⟩
    | 5, hx => cases hx; exact ⟨A25, B25⟩
    | 6, hx => cases hx; exact ⟨A26, B26⟩
    | 7, hx => cases hx; exact ⟨A27, B27⟩
    | 8, hx => cases hx; exact ⟨A28, B28⟩
    | 9, hx => cases hx; exact ⟨A29, B29⟩
    | k + 10, hx => simp [m_tys] at hx
  · show va_X (ext 1) L xs s s.heap
    rw [e1]; exact hX
  · show vk_S 25 m_slen m_sbyt (fun k => ext (k + 2)) (fun k => ext (k + 40)) (fun q : Nat => s.heap.size ≤ q) s s.heap
    refine ⟨fun i hi => ?_, fun i j hi hj h => hS.2 i j hi hj ?_⟩
    · show va_O "java/lang/String" (ext (i + 2)) (fun q : Nat => s.heap.size ≤ q) s s.heap ∧ va_OF "java/lang/String" "coder" "B" (.int 0) (ext (i + 2)) (fun q : Nat => s.heap.size ≤ q) s s.heap ∧ va_OF "java/lang/String" "value" "[B" (.ref (ext (i + 40))) (ext (i + 2)) (fun q : Nat => s.heap.size ≤ q) s s.heap ∧ va_T .byte (ext (i + 40)) (m_slen.getD i 0) (fun j => .int ((m_sbyt.getD i []).getD j 0)) (fun q : Nat => s.heap.size ≤ q) s s.heap
      rw [e2 i hi, e4]
      exact hS.1 i hi
    · have h : ext (i + 2) = ext (j + 2) := h
      rw [e2 i hi, e2 j hj] at h
      exact h
  · intro k q hq
    have hk : k < 25 := by
      have h9 := (List.getElem?_eq_some_iff.mp hq).1
      exact h9
    have eq : m_strs.getD k ("", 0, "") = q := by rw [List.getD_eq_getElem?_getD, hq]; rfl
    show vk_R q.1 q.2.1 q.2.2 (ext (k + 2)) s
    rw [e2 k hk]
    have h1 := hts _ (m_gsr k hk)
    have h2 := hE k hk
    unfold m_tm at h2
    rw [eq] at h1 h2
    exact vk_R.of h1 h2
  · show _ ∨ va_Z _ _ _ (.ref (ext 30)) _ _ _
    rw [e3]
    exact hZ3
  · intro k h1 h2
    show ext k < s.heap.size
    by_cases hk : k = 1
    · rw [hk, e1]; exact hbl
    · have := e2 (k - 2) (by omega)
      rw [show k - 2 + 2 = k by omega] at this
      rw [this]
      obtain ⟨cell, g1, -⟩ := (hS.1 (k - 2) (by omega)).1
      exact (Array.getElem?_eq_some_iff.mp g1).1
  · exact fun w hw => m_nest_of hw (hts w (List.mem_filter.mp hw).1)
  · exact ⟨by show (s.heap.size : Int) + 1 = s.heap.size + 1; rfl, Int.le_refl _, fun a ha => absurd ha (by show ¬ (0 : Int) ≤ -1; decide), fun _ _ => rfl⟩
