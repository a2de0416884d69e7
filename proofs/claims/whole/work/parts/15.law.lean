/-! the law: its walk -/
set_option maxHeartbeats 8000000 in
set_option maxRecDepth 100000 in
theorem sL_law_c18 {Y : m_Y Bool} (S : m_Std Y RL cL_law) (E : m_End Y cL_law .ireturn (fun r => [m_i (m_b2i r)])) {F : Nat} (hF : m_Rm Y F) (hFn : 18 ≤ F) (hN : Y.2.2.2.1 = 4) {xn : Int} {xs : Int → Int} (hX : m_scr Y xn xs) : ∀ (v0 v1 v2 v3 : Int) (h : m_H), m_Sim Y 18 [(0, m_r v0), (1, m_r v1), (2, m_r v2), (3, m_i v3)] [] h (tL_law_c18 xn xs v0 v1 v2 v3 h) := by
  intro v0 v1 v2 v3 h
  refine ms_all fun r e => ?_
  refine tL_law_c18.partial_correctness xn xs v0 v1 v2 (motive := fun v3 h r => m_Sim Y 18 [(0, m_r v0), (1, m_r v1), (2, m_r v2), (3, m_i v3)] [] h (some r)) ?_ v3 h r e
  intro f ih v3 h r e
  have ih : ∀ (v3 : Int) (h : m_H), m_Sim Y 18 [(0, m_r v0), (1, m_r v1), (2, m_r v2), (3, m_i v3)] [] h (f v3 h ) := fun v3 h  => ms_all fun r e => ih v3 h r e
  refine ms_use ?_ e
  clear e r
  refine ms_iload_n (pc := 18) S 3 rfl rfl (m_dec eL_law_0 10 rfl) ?_
  refine ms_aload_n (pc := 19) S 0 rfl rfl (m_dec eL_law_0 11 rfl) ?_
  refine ms_grd fun g1 => ?_
  refine ms_slen (pc := 20) S hX g1 (m_dec eL_law_0 12 rfl) ?_
  refine ms_bipush (pc := 21) S (m_dec eL_law_0 13 rfl) rfl ?_
  refine ms_isub (pc := 23) S (m_dec eL_law_0 14 rfl) ?_
  refine ms_icmp_gt (pc := 24) S (m_dec eL_law_0 15 rfl) rfl (fun q2 => ?_) (fun q2 => ?_)
  · refine ms_iconst (pc := 1518) S (m_dec eL_law_5 168 rfl) ?_
    exact ms_ret (pc := 1519) E (m_dec eL_law_5 169 rfl) rfl
  · refine ms_aload_n (pc := 27) S 0 rfl rfl (m_dec eL_law_0 16 rfl) ?_
    refine ms_iload_n (pc := 28) S 3 rfl rfl (m_dec eL_law_0 17 rfl) ?_
    refine ms_grd fun g3 => ?_
    refine ms_sld (pc := 29) S hX g1 g3 (m_dec eL_law_0 18 rfl) ?_
    refine ms_bipush (pc := 30) S (m_dec eL_law_0 19 rfl) rfl ?_
    refine ms_iand (pc := 32) S (m_dec eL_law_0 20 rfl) ?_
    refine ms_ite (fun q4 => ?_) (fun q4 => ?_)
    · refine ms_swIn (pc := 33) S (m_dec eL_law_0 21 rfl) 0 q4 (by decide) (by decide) rfl rfl ?_
      refine ms_aload_n (pc := 216) S 1 rfl rfl (m_dec eL_law_0 22 rfl) ?_
      refine ms_aload_n (pc := 217) S 0 rfl rfl (m_dec eL_law_0 23 rfl) ?_
      refine ms_iload_n (pc := 218) S 3 rfl rfl (m_dec eL_law_0 24 rfl) ?_
      refine ms_iconst (pc := 219) S (m_dec eL_law_0 25 rfl) ?_
      refine ms_iadd (pc := 220) S (m_dec eL_law_0 26 rfl) ?_
      refine ms_grd fun g5 => ?_
      refine ms_sld (pc := 221) S hX g1 g5 (m_dec eL_law_0 27 rfl) ?_
      refine ms_aload_n (pc := 222) S 0 rfl rfl (m_dec eL_law_0 28 rfl) ?_
      refine ms_iload_n (pc := 223) S 3 rfl rfl (m_dec eL_law_0 29 rfl) ?_
      refine ms_iconst (pc := 224) S (m_dec eL_law_0 30 rfl) ?_
      refine ms_iadd (pc := 225) S (m_dec eL_law_0 31 rfl) ?_
      refine ms_grd fun g6 => ?_
      refine ms_sld (pc := 226) S hX g1 g6 (m_dec eL_law_0 32 rfl) ?_
      refine ms_aload_n (pc := 227) S 0 rfl rfl (m_dec eL_law_0 33 rfl) ?_
      refine ms_iload_n (pc := 228) S 3 rfl rfl (m_dec eL_law_0 34 rfl) ?_
      refine ms_iconst (pc := 229) S (m_dec eL_law_0 35 rfl) ?_
      refine ms_iadd (pc := 230) S (m_dec eL_law_0 36 rfl) ?_
      refine ms_grd fun g7 => ?_
      refine ms_sld (pc := 231) S hX g1 g7 (m_dec eL_law_0 37 rfl) ?_
      refine ms_aload_n (pc := 232) S 0 rfl rfl (m_dec eL_law_0 38 rfl) ?_
      refine ms_iload_n (pc := 233) S 3 rfl rfl (m_dec eL_law_0 39 rfl) ?_
      refine ms_iconst (pc := 234) S (m_dec eL_law_0 40 rfl) ?_
      refine ms_iadd (pc := 235) S (m_dec eL_law_0 41 rfl) ?_
      refine ms_grd fun g8 => ?_
      refine ms_sld (pc := 236) S hX g1 g8 (m_dec eL_law_0 42 rfl) ?_
      refine ms_aload_n (pc := 237) S 0 rfl rfl (m_dec eL_law_0 43 rfl) ?_
      refine ms_iload_n (pc := 238) S 3 rfl rfl (m_dec eL_law_0 44 rfl) ?_
      refine ms_iconst (pc := 239) S (m_dec eL_law_0 45 rfl) ?_
      refine ms_iadd (pc := 240) S (m_dec eL_law_0 46 rfl) ?_
      refine ms_grd fun g9 => ?_
      refine ms_sld (pc := 241) S hX g1 g9 (m_dec eL_law_0 47 rfl) ?_
      refine ms_grd fun g10 => ?_
      refine ms_callVi (pc := 242) S hF (vals := [m_i (xs (m_w (v3 + 1))), m_i (xs (m_w (v3 + 2))), m_i (xs (m_w (v3 + 3))), m_i (xs (m_w (v3 + 4))), m_i (xs (m_w (v3 + 5)))]) (st := []) (hc := vw_10) (hci := by decide) (hcy := rfl) (ht := g10) (hC := (k10_hand _ _ v1 (xs (m_w (v3 + 1))) (xs (m_w (v3 + 2))) (xs (m_w (v3 + 3))) (xs (m_w (v3 + 4))) (xs (m_w (v3 + 5))) h)) (hM := lm_L_13) (hfr := (Nat.le_trans (by decide) hFn)) (hstk := rfl) (hcat := Nat.le_of_ble_eq_true rfl) (hd := (m_dec eL_law_0 48 rfl)) (k1 := fun r12 h11 => ?_)
      refine ms_aload_n (pc := 245) S 2 rfl rfl (m_dec eL_law_0 49 rfl) ?_
      refine ms_aload_n (pc := 246) S 0 rfl rfl (m_dec eL_law_0 50 rfl) ?_
      refine ms_iload_n (pc := 247) S 3 rfl rfl (m_dec eL_law_0 51 rfl) ?_
      refine ms_iconst (pc := 248) S (m_dec eL_law_0 52 rfl) ?_
      refine ms_iadd (pc := 249) S (m_dec eL_law_0 53 rfl) ?_
      refine ms_sld (pc := 250) S hX g1 g5 (m_dec eL_law_0 54 rfl) ?_
      refine ms_aload_n (pc := 251) S 0 rfl rfl (m_dec eL_law_0 55 rfl) ?_
      refine ms_iload_n (pc := 252) S 3 rfl rfl (m_dec eL_law_0 56 rfl) ?_
      refine ms_iconst (pc := 253) S (m_dec eL_law_0 57 rfl) ?_
      refine ms_iadd (pc := 254) S (m_dec eL_law_0 58 rfl) ?_
      refine ms_sld (pc := 255) S hX g1 g6 (m_dec eL_law_0 59 rfl) ?_
      refine ms_aload_n (pc := 256) S 0 rfl rfl (m_dec eL_law_0 60 rfl) ?_
      refine ms_iload_n (pc := 257) S 3 rfl rfl (m_dec eL_law_0 61 rfl) ?_
      refine ms_iconst (pc := 258) S (m_dec eL_law_0 62 rfl) ?_
      refine ms_iadd (pc := 259) S (m_dec eL_law_0 63 rfl) ?_
      refine ms_sld (pc := 260) S hX g1 g7 (m_dec eL_law_0 64 rfl) ?_
      refine ms_aload_n (pc := 261) S 0 rfl rfl (m_dec eL_law_0 65 rfl) ?_
      refine ms_iload_n (pc := 262) S 3 rfl rfl (m_dec eL_law_0 66 rfl) ?_
      refine ms_iconst (pc := 263) S (m_dec eL_law_0 67 rfl) ?_
      refine ms_iadd (pc := 264) S (m_dec eL_law_0 68 rfl) ?_
      refine ms_sld (pc := 265) S hX g1 g8 (m_dec eL_law_0 69 rfl) ?_
      refine ms_aload_n (pc := 266) S 0 rfl rfl (m_dec eL_law_0 70 rfl) ?_
      refine ms_iload_n (pc := 267) S 3 rfl rfl (m_dec eL_law_0 71 rfl) ?_
      refine ms_iconst (pc := 268) S (m_dec eL_law_0 72 rfl) ?_
      refine ms_iadd (pc := 269) S (m_dec eL_law_0 73 rfl) ?_
      refine ms_sld (pc := 270) S hX g1 g9 (m_dec eL_law_0 74 rfl) ?_
      refine ms_grd fun g13 => ?_
      refine ms_callVi (pc := 271) S hF (vals := [m_i (xs (m_w (v3 + 1))), m_i (xs (m_w (v3 + 2))), m_i (xs (m_w (v3 + 3))), m_i (xs (m_w (v3 + 4))), m_i (xs (m_w (v3 + 5)))]) (st := [m_i r12]) (hc := vw_11) (hci := by decide) (hcy := rfl) (ht := g13) (hC := (k11_hand _ _ v2 (xs (m_w (v3 + 1))) (xs (m_w (v3 + 2))) (xs (m_w (v3 + 3))) (xs (m_w (v3 + 4))) (xs (m_w (v3 + 5))) h11)) (hM := lm_L_17) (hfr := (Nat.le_trans (by decide) hFn)) (hstk := rfl) (hcat := Nat.le_of_ble_eq_true rfl) (hd := (m_dec eL_law_0 75 rfl)) (k1 := fun r15 h14 => ?_)
      refine ms_icmp_eq (pc := 274) S (m_dec eL_law_0 76 rfl) rfl (fun q16 => ?_) (fun q16 => ?_)
      · refine ms_iinc (pc := 1512) S (L' := [(0, m_r v0), (1, m_r v1), (2, m_r v2), (3, m_i (v3 + 6))]) 3 rfl [1, 2, 3, 0] rfl (m_lt hN rfl) (m_dec eL_law_5 166 rfl) ?_
        refine ms_goto (pc := 1515) S (m_dec eL_law_5 167 rfl) rfl ?_
        exact ih (v3 + 6) h14
      · refine ms_iconst (pc := 277) S (m_dec eL_law_0 77 rfl) ?_
        exact ms_ret (pc := 278) E (m_dec eL_law_0 78 rfl) rfl
    · refine ms_ite (fun q17 => ?_) (fun q17 => ?_)
      · refine ms_swIn (pc := 33) S (m_dec eL_law_0 21 rfl) 1 q17 (by decide) (by decide) rfl rfl ?_
        refine ms_aload_n (pc := 279) S 1 rfl rfl (m_dec eL_law_0 79 rfl) ?_
        refine ms_grd fun g18 => ?_
        refine ms_callVi (pc := 280) S hF (vals := []) (st := []) (hc := vw_10) (hci := by decide) (hcy := rfl) (ht := g18) (hC := (k10_drop _ _ v1 h)) (hM := lm_L_18) (hfr := (Nat.le_trans (by decide) hFn)) (hstk := rfl) (hcat := Nat.le_of_ble_eq_true rfl) (hd := (m_dec eL_law_0 80 rfl)) (k1 := fun r20 h19 => ?_)
        refine ms_aload_n (pc := 283) S 2 rfl rfl (m_dec eL_law_0 81 rfl) ?_
        refine ms_grd fun g21 => ?_
        refine ms_callVi (pc := 284) S hF (vals := []) (st := [m_i r20]) (hc := vw_11) (hci := by decide) (hcy := rfl) (ht := g21) (hC := (k11_drop _ _ v2 h19)) (hM := lm_L_22) (hfr := (Nat.le_trans (by decide) hFn)) (hstk := rfl) (hcat := Nat.le_of_ble_eq_true rfl) (hd := (m_dec eL_law_0 82 rfl)) (k1 := fun r23 h22 => ?_)
        refine ms_icmp_eq (pc := 287) S (m_dec eL_law_0 83 rfl) rfl (fun q24 => ?_) (fun q24 => ?_)
        · refine ms_iinc (pc := 1512) S (L' := [(0, m_r v0), (1, m_r v1), (2, m_r v2), (3, m_i (v3 + 6))]) 3 rfl [1, 2, 3, 0] rfl (m_lt hN rfl) (m_dec eL_law_5 166 rfl) ?_
          refine ms_goto (pc := 1515) S (m_dec eL_law_5 167 rfl) rfl ?_
          exact ih (v3 + 6) h22
        · refine ms_iconst (pc := 290) S (m_dec eL_law_0 84 rfl) ?_
          exact ms_ret (pc := 291) E (m_dec eL_law_0 85 rfl) rfl
      · refine ms_ite (fun q25 => ?_) (fun q25 => ?_)
        · refine ms_swIn (pc := 33) S (m_dec eL_law_0 21 rfl) 2 q25 (by decide) (by decide) rfl rfl ?_
          refine ms_aload_n (pc := 292) S 1 rfl rfl (m_dec eL_law_0 86 rfl) ?_
          refine ms_aload_n (pc := 293) S 0 rfl rfl (m_dec eL_law_0 87 rfl) ?_
          refine ms_iload_n (pc := 294) S 3 rfl rfl (m_dec eL_law_0 88 rfl) ?_
          refine ms_iconst (pc := 295) S (m_dec eL_law_0 89 rfl) ?_
          refine ms_iadd (pc := 296) S (m_dec eL_law_0 90 rfl) ?_
          refine ms_grd fun g26 => ?_
          refine ms_sld (pc := 297) S hX g1 g26 (m_dec eL_law_0 91 rfl) ?_
          refine ms_grd fun g27 => ?_
          refine ms_callVi (pc := 298) S hF (vals := [m_i (xs (m_w (v3 + 1)))]) (st := []) (hc := vw_10) (hci := by decide) (hcy := rfl) (ht := g27) (hC := (k10_strip _ _ v1 (xs (m_w (v3 + 1))) h)) (hM := lm_L_23) (hfr := (Nat.le_trans (by decide) hFn)) (hstk := rfl) (hcat := Nat.le_of_ble_eq_true rfl) (hd := (m_dec eL_law_0 92 rfl)) (k1 := fun r29 h28 => ?_)
          refine ms_aload_n (pc := 301) S 2 rfl rfl (m_dec eL_law_0 93 rfl) ?_
          refine ms_aload_n (pc := 302) S 0 rfl rfl (m_dec eL_law_0 94 rfl) ?_
          refine ms_iload_n (pc := 303) S 3 rfl rfl (m_dec eL_law_0 95 rfl) ?_
          refine ms_iconst (pc := 304) S (m_dec eL_law_0 96 rfl) ?_
          refine ms_iadd (pc := 305) S (m_dec eL_law_0 97 rfl) ?_
          refine ms_sld (pc := 306) S hX g1 g26 (m_dec eL_law_0 98 rfl) ?_
          refine ms_grd fun g30 => ?_
          refine ms_callVi (pc := 307) S hF (vals := [m_i (xs (m_w (v3 + 1)))]) (st := [m_i r29]) (hc := vw_11) (hci := by decide) (hcy := rfl) (ht := g30) (hC := (k11_strip _ _ v2 (xs (m_w (v3 + 1))) h28)) (hM := lm_L_27) (hfr := (Nat.le_trans (by decide) hFn)) (hstk := rfl) (hcat := Nat.le_of_ble_eq_true rfl) (hd := (m_dec eL_law_0 99 rfl)) (k1 := fun r32 h31 => ?_)
          refine ms_icmp_eq (pc := 310) S (m_dec eL_law_0 100 rfl) rfl (fun q33 => ?_) (fun q33 => ?_)
          · refine ms_iinc (pc := 1512) S (L' := [(0, m_r v0), (1, m_r v1), (2, m_r v2), (3, m_i (v3 + 6))]) 3 rfl [1, 2, 3, 0] rfl (m_lt hN rfl) (m_dec eL_law_5 166 rfl) ?_
            refine ms_goto (pc := 1515) S (m_dec eL_law_5 167 rfl) rfl ?_
            exact ih (v3 + 6) h31
          · refine ms_iconst (pc := 313) S (m_dec eL_law_0 101 rfl) ?_
            exact ms_ret (pc := 314) E (m_dec eL_law_0 102 rfl) rfl
        · refine ms_ite (fun q34 => ?_) (fun q34 => ?_)
          · refine ms_swIn (pc := 33) S (m_dec eL_law_0 21 rfl) 3 q34 (by decide) (by decide) rfl rfl ?_
            refine ms_aload_n (pc := 315) S 1 rfl rfl (m_dec eL_law_0 103 rfl) ?_
            refine ms_aload_n (pc := 316) S 0 rfl rfl (m_dec eL_law_0 104 rfl) ?_
            refine ms_iload_n (pc := 317) S 3 rfl rfl (m_dec eL_law_0 105 rfl) ?_
            refine ms_iconst (pc := 318) S (m_dec eL_law_0 106 rfl) ?_
            refine ms_iadd (pc := 319) S (m_dec eL_law_0 107 rfl) ?_
            refine ms_grd fun g35 => ?_
            refine ms_sld (pc := 320) S hX g1 g35 (m_dec eL_law_0 108 rfl) ?_
            refine ms_grd fun g36 => ?_
            refine ms_callVz (pc := 321) S hF (vals := [m_i (xs (m_w (v3 + 1)))]) (st := []) (hc := vw_10) (hci := by decide) (hcy := rfl) (ht := g36) (hC := (k10_sliver _ _ v1 (xs (m_w (v3 + 1))) h)) (hM := lm_L_28) (hfr := (Nat.le_trans (by decide) hFn)) (hstk := rfl) (hcat := Nat.le_of_ble_eq_true rfl) (hd := (m_dec eL_law_0 109 rfl)) (k1 := fun r38 h37 => ?_)
            refine ms_aload_n (pc := 324) S 2 rfl rfl (m_dec eL_law_0 110 rfl) ?_
            refine ms_aload_n (pc := 325) S 0 rfl rfl (m_dec eL_law_0 111 rfl) ?_
            refine ms_iload_n (pc := 326) S 3 rfl rfl (m_dec eL_law_0 112 rfl) ?_
            refine ms_iconst (pc := 327) S (m_dec eL_law_0 113 rfl) ?_
            refine ms_iadd (pc := 328) S (m_dec eL_law_0 114 rfl) ?_
            refine ms_sld (pc := 329) S hX g1 g35 (m_dec eL_law_0 115 rfl) ?_
            refine ms_grd fun g39 => ?_
            refine ms_callVz (pc := 330) S hF (vals := [m_i (xs (m_w (v3 + 1)))]) (st := [m_i (m_b2i r38)]) (hc := vw_11) (hci := by decide) (hcy := rfl) (ht := g39) (hC := (k11_sliver _ _ v2 (xs (m_w (v3 + 1))) h37)) (hM := lm_L_32) (hfr := (Nat.le_trans (by decide) hFn)) (hstk := rfl) (hcat := Nat.le_of_ble_eq_true rfl) (hd := (m_dec eL_law_0 116 rfl)) (k1 := fun r41 h40 => ?_)
            refine ms_icmp_eq (pc := 333) S (m_dec eL_law_0 117 rfl) rfl (fun q42 => ?_) (fun q42 => ?_)
            · refine ms_iinc (pc := 1512) S (L' := [(0, m_r v0), (1, m_r v1), (2, m_r v2), (3, m_i (v3 + 6))]) 3 rfl [1, 2, 3, 0] rfl (m_lt hN rfl) (m_dec eL_law_5 166 rfl) ?_
              refine ms_goto (pc := 1515) S (m_dec eL_law_5 167 rfl) rfl ?_
              exact ih (v3 + 6) h40
            · refine ms_iconst (pc := 336) S (m_dec eL_law_0 118 rfl) ?_
              exact ms_ret (pc := 337) E (m_dec eL_law_0 119 rfl) rfl
          · refine ms_ite (fun q43 => ?_) (fun q43 => ?_)
            · refine ms_swIn (pc := 33) S (m_dec eL_law_0 21 rfl) 4 q43 (by decide) (by decide) rfl rfl ?_
              refine ms_aload_n (pc := 338) S 1 rfl rfl (m_dec eL_law_0 120 rfl) ?_
              refine ms_aload_n (pc := 339) S 0 rfl rfl (m_dec eL_law_0 121 rfl) ?_
              refine ms_iload_n (pc := 340) S 3 rfl rfl (m_dec eL_law_0 122 rfl) ?_
              refine ms_iconst (pc := 341) S (m_dec eL_law_0 123 rfl) ?_
              refine ms_iadd (pc := 342) S (m_dec eL_law_0 124 rfl) ?_
              refine ms_grd fun g44 => ?_
              refine ms_sld (pc := 343) S hX g1 g44 (m_dec eL_law_0 125 rfl) ?_
              refine ms_aload_n (pc := 344) S 0 rfl rfl (m_dec eL_law_0 126 rfl) ?_
              refine ms_iload_n (pc := 345) S 3 rfl rfl (m_dec eL_law_0 127 rfl) ?_
              refine ms_iconst (pc := 346) S (m_dec eL_law_0 128 rfl) ?_
              refine ms_iadd (pc := 347) S (m_dec eL_law_0 129 rfl) ?_
              refine ms_grd fun g45 => ?_
              refine ms_sld (pc := 348) S hX g1 g45 (m_dec eL_law_0 130 rfl) ?_
              refine ms_grd fun g46 => ?_
              refine ms_callVi (pc := 349) S hF (vals := [m_i (xs (m_w (v3 + 1))), m_i (xs (m_w (v3 + 2)))]) (st := []) (hc := vw_10) (hci := by decide) (hcy := rfl) (ht := g46) (hC := (k10_cut _ _ v1 (xs (m_w (v3 + 1))) (xs (m_w (v3 + 2))) h)) (hM := lm_L_33) (hfr := (Nat.le_trans (by decide) hFn)) (hstk := rfl) (hcat := Nat.le_of_ble_eq_true rfl) (hd := (m_dec eL_law_0 131 rfl)) (k1 := fun r48 h47 => ?_)
              refine ms_aload_n (pc := 352) S 2 rfl rfl (m_dec eL_law_0 132 rfl) ?_
              refine ms_aload_n (pc := 353) S 0 rfl rfl (m_dec eL_law_0 133 rfl) ?_
              refine ms_iload_n (pc := 354) S 3 rfl rfl (m_dec eL_law_0 134 rfl) ?_
              refine ms_iconst (pc := 355) S (m_dec eL_law_0 135 rfl) ?_
              refine ms_iadd (pc := 356) S (m_dec eL_law_0 136 rfl) ?_
              refine ms_sld (pc := 357) S hX g1 g44 (m_dec eL_law_0 137 rfl) ?_
              refine ms_aload_n (pc := 358) S 0 rfl rfl (m_dec eL_law_0 138 rfl) ?_
              refine ms_iload_n (pc := 359) S 3 rfl rfl (m_dec eL_law_0 139 rfl) ?_
              refine ms_iconst (pc := 360) S (m_dec eL_law_0 140 rfl) ?_
              refine ms_iadd (pc := 361) S (m_dec eL_law_0 141 rfl) ?_
              refine ms_sld (pc := 362) S hX g1 g45 (m_dec eL_law_0 142 rfl) ?_
              refine ms_grd fun g49 => ?_
              refine ms_callVi (pc := 363) S hF (vals := [m_i (xs (m_w (v3 + 1))), m_i (xs (m_w (v3 + 2)))]) (st := [m_i r48]) (hc := vw_11) (hci := by decide) (hcy := rfl) (ht := g49) (hC := (k11_cut _ _ v2 (xs (m_w (v3 + 1))) (xs (m_w (v3 + 2))) h47)) (hM := lm_L_37) (hfr := (Nat.le_trans (by decide) hFn)) (hstk := rfl) (hcat := Nat.le_of_ble_eq_true rfl) (hd := (m_dec eL_law_0 143 rfl)) (k1 := fun r51 h50 => ?_)
              refine ms_icmp_eq (pc := 366) S (m_dec eL_law_0 144 rfl) rfl (fun q52 => ?_) (fun q52 => ?_)
              · refine ms_iinc (pc := 1512) S (L' := [(0, m_r v0), (1, m_r v1), (2, m_r v2), (3, m_i (v3 + 6))]) 3 rfl [1, 2, 3, 0] rfl (m_lt hN rfl) (m_dec eL_law_5 166 rfl) ?_
                refine ms_goto (pc := 1515) S (m_dec eL_law_5 167 rfl) rfl ?_
                exact ih (v3 + 6) h50
              · refine ms_iconst (pc := 369) S (m_dec eL_law_0 145 rfl) ?_
                exact ms_ret (pc := 370) E (m_dec eL_law_0 146 rfl) rfl
            · refine ms_ite (fun q53 => ?_) (fun q53 => ?_)
              · refine ms_swIn (pc := 33) S (m_dec eL_law_0 21 rfl) 5 q53 (by decide) (by decide) rfl rfl ?_
                refine ms_aload_n (pc := 371) S 1 rfl rfl (m_dec eL_law_0 147 rfl) ?_
                refine ms_aload_n (pc := 372) S 0 rfl rfl (m_dec eL_law_0 148 rfl) ?_
                refine ms_iload_n (pc := 373) S 3 rfl rfl (m_dec eL_law_0 149 rfl) ?_
                refine ms_iconst (pc := 374) S (m_dec eL_law_0 150 rfl) ?_
                refine ms_iadd (pc := 375) S (m_dec eL_law_0 151 rfl) ?_
                refine ms_grd fun g54 => ?_
                refine ms_sld (pc := 376) S hX g1 g54 (m_dec eL_law_0 152 rfl) ?_
                refine ms_grd fun g55 => ?_
                refine ms_callVi (pc := 377) S hF (vals := [m_i (xs (m_w (v3 + 1)))]) (st := []) (hc := vw_10) (hci := by decide) (hcy := rfl) (ht := g55) (hC := (k10_turn _ _ v1 (xs (m_w (v3 + 1))) h)) (hM := lm_L_38) (hfr := (Nat.le_trans (by decide) hFn)) (hstk := rfl) (hcat := Nat.le_of_ble_eq_true rfl) (hd := (m_dec eL_law_0 153 rfl)) (k1 := fun r57 h56 => ?_)
                refine ms_aload_n (pc := 380) S 2 rfl rfl (m_dec eL_law_0 154 rfl) ?_
                refine ms_aload_n (pc := 381) S 0 rfl rfl (m_dec eL_law_0 155 rfl) ?_
                refine ms_iload_n (pc := 382) S 3 rfl rfl (m_dec eL_law_0 156 rfl) ?_
                refine ms_iconst (pc := 383) S (m_dec eL_law_0 157 rfl) ?_
                refine ms_iadd (pc := 384) S (m_dec eL_law_0 158 rfl) ?_
                refine ms_sld (pc := 385) S hX g1 g54 (m_dec eL_law_0 159 rfl) ?_
                refine ms_grd fun g58 => ?_
                refine ms_callVi (pc := 386) S hF (vals := [m_i (xs (m_w (v3 + 1)))]) (st := [m_i r57]) (hc := vw_11) (hci := by decide) (hcy := rfl) (ht := g58) (hC := (k11_turn _ _ v2 (xs (m_w (v3 + 1))) h56)) (hM := lm_L_41) (hfr := (Nat.le_trans (by decide) hFn)) (hstk := rfl) (hcat := Nat.le_of_ble_eq_true rfl) (hd := (m_dec eL_law_0 160 rfl)) (k1 := fun r60 h59 => ?_)
                refine ms_icmp_eq (pc := 389) S (m_dec eL_law_0 161 rfl) rfl (fun q61 => ?_) (fun q61 => ?_)
                · refine ms_iinc (pc := 1512) S (L' := [(0, m_r v0), (1, m_r v1), (2, m_r v2), (3, m_i (v3 + 6))]) 3 rfl [1, 2, 3, 0] rfl (m_lt hN rfl) (m_dec eL_law_5 166 rfl) ?_
                  refine ms_goto (pc := 1515) S (m_dec eL_law_5 167 rfl) rfl ?_
                  exact ih (v3 + 6) h59
                · refine ms_iconst (pc := 392) S (m_dec eL_law_0 162 rfl) ?_
                  exact ms_ret (pc := 393) E (m_dec eL_law_0 163 rfl) rfl
              · refine ms_ite (fun q62 => ?_) (fun q62 => ?_)
                · refine ms_swIn (pc := 33) S (m_dec eL_law_0 21 rfl) 6 q62 (by decide) (by decide) rfl rfl ?_
                  refine ms_aload_n (pc := 394) S 1 rfl rfl (m_dec eL_law_0 164 rfl) ?_
                  refine ms_aload_n (pc := 395) S 0 rfl rfl (m_dec eL_law_0 165 rfl) ?_
                  refine ms_iload_n (pc := 396) S 3 rfl rfl (m_dec eL_law_0 166 rfl) ?_
                  refine ms_iconst (pc := 397) S (m_dec eL_law_0 167 rfl) ?_
                  refine ms_iadd (pc := 398) S (m_dec eL_law_0 168 rfl) ?_
                  refine ms_grd fun g63 => ?_
                  refine ms_sld (pc := 399) S hX g1 g63 (m_dec eL_law_0 169 rfl) ?_
                  refine ms_grd fun g64 => ?_
                  refine ms_callVi (pc := 400) S hF (vals := [m_i (xs (m_w (v3 + 1)))]) (st := []) (hc := vw_10) (hci := by decide) (hcy := rfl) (ht := g64) (hC := (k10_loop _ _ v1 (xs (m_w (v3 + 1))) h)) (hM := lm_L_42) (hfr := (Nat.le_trans (by decide) hFn)) (hstk := rfl) (hcat := Nat.le_of_ble_eq_true rfl) (hd := (m_dec eL_law_0 170 rfl)) (k1 := fun r66 h65 => ?_)
                  refine ms_aload_n (pc := 403) S 2 rfl rfl (m_dec eL_law_0 171 rfl) ?_
                  refine ms_aload_n (pc := 404) S 0 rfl rfl (m_dec eL_law_0 172 rfl) ?_
                  refine ms_iload_n (pc := 405) S 3 rfl rfl (m_dec eL_law_0 173 rfl) ?_
                  refine ms_iconst (pc := 406) S (m_dec eL_law_0 174 rfl) ?_
                  refine ms_iadd (pc := 407) S (m_dec eL_law_0 175 rfl) ?_
                  refine ms_sld (pc := 408) S hX g1 g63 (m_dec eL_law_0 176 rfl) ?_
                  refine ms_grd fun g67 => ?_
                  refine ms_callVi (pc := 409) S hF (vals := [m_i (xs (m_w (v3 + 1)))]) (st := [m_i r66]) (hc := vw_11) (hci := by decide) (hcy := rfl) (ht := g67) (hC := (k11_loop _ _ v2 (xs (m_w (v3 + 1))) h65)) (hM := lm_L_45) (hfr := (Nat.le_trans (by decide) hFn)) (hstk := rfl) (hcat := Nat.le_of_ble_eq_true rfl) (hd := (m_dec eL_law_0 177 rfl)) (k1 := fun r69 h68 => ?_)
                  refine ms_icmp_eq (pc := 412) S (m_dec eL_law_0 178 rfl) rfl (fun q70 => ?_) (fun q70 => ?_)
                  · refine ms_iinc (pc := 1512) S (L' := [(0, m_r v0), (1, m_r v1), (2, m_r v2), (3, m_i (v3 + 6))]) 3 rfl [1, 2, 3, 0] rfl (m_lt hN rfl) (m_dec eL_law_5 166 rfl) ?_
                    refine ms_goto (pc := 1515) S (m_dec eL_law_5 167 rfl) rfl ?_
                    exact ih (v3 + 6) h68
                  · refine ms_iconst (pc := 415) S (m_dec eL_law_0 179 rfl) ?_
                    exact ms_ret (pc := 416) E (m_dec eL_law_1 0 rfl) rfl
                · refine ms_ite (fun q71 => ?_) (fun q71 => ?_)
                  · refine ms_swIn (pc := 33) S (m_dec eL_law_0 21 rfl) 7 q71 (by decide) (by decide) rfl rfl ?_
                    refine ms_aload_n (pc := 417) S 1 rfl rfl (m_dec eL_law_1 1 rfl) ?_
                    refine ms_aload_n (pc := 418) S 0 rfl rfl (m_dec eL_law_1 2 rfl) ?_
                    refine ms_iload_n (pc := 419) S 3 rfl rfl (m_dec eL_law_1 3 rfl) ?_
                    refine ms_iconst (pc := 420) S (m_dec eL_law_1 4 rfl) ?_
                    refine ms_iadd (pc := 421) S (m_dec eL_law_1 5 rfl) ?_
                    refine ms_grd fun g72 => ?_
                    refine ms_sld (pc := 422) S hX g1 g72 (m_dec eL_law_1 6 rfl) ?_
                    refine ms_grd fun g73 => ?_
                    refine ms_callVi (pc := 423) S hF (vals := [m_i (xs (m_w (v3 + 1)))]) (st := []) (hc := vw_10) (hci := by decide) (hcy := rfl) (ht := g73) (hC := (k10_seam _ _ v1 (xs (m_w (v3 + 1))) h)) (hM := lm_L_46) (hfr := (Nat.le_trans (by decide) hFn)) (hstk := rfl) (hcat := Nat.le_of_ble_eq_true rfl) (hd := (m_dec eL_law_1 7 rfl)) (k1 := fun r75 h74 => ?_)
                    refine ms_aload_n (pc := 426) S 2 rfl rfl (m_dec eL_law_1 8 rfl) ?_
                    refine ms_aload_n (pc := 427) S 0 rfl rfl (m_dec eL_law_1 9 rfl) ?_
                    refine ms_iload_n (pc := 428) S 3 rfl rfl (m_dec eL_law_1 10 rfl) ?_
                    refine ms_iconst (pc := 429) S (m_dec eL_law_1 11 rfl) ?_
                    refine ms_iadd (pc := 430) S (m_dec eL_law_1 12 rfl) ?_
                    refine ms_sld (pc := 431) S hX g1 g72 (m_dec eL_law_1 13 rfl) ?_
                    refine ms_grd fun g76 => ?_
                    refine ms_callVi (pc := 432) S hF (vals := [m_i (xs (m_w (v3 + 1)))]) (st := [m_i r75]) (hc := vw_11) (hci := by decide) (hcy := rfl) (ht := g76) (hC := (k11_seam _ _ v2 (xs (m_w (v3 + 1))) h74)) (hM := lm_L_49) (hfr := (Nat.le_trans (by decide) hFn)) (hstk := rfl) (hcat := Nat.le_of_ble_eq_true rfl) (hd := (m_dec eL_law_1 14 rfl)) (k1 := fun r78 h77 => ?_)
                    refine ms_icmp_eq (pc := 435) S (m_dec eL_law_1 15 rfl) rfl (fun q79 => ?_) (fun q79 => ?_)
                    · refine ms_iinc (pc := 1512) S (L' := [(0, m_r v0), (1, m_r v1), (2, m_r v2), (3, m_i (v3 + 6))]) 3 rfl [1, 2, 3, 0] rfl (m_lt hN rfl) (m_dec eL_law_5 166 rfl) ?_
                      refine ms_goto (pc := 1515) S (m_dec eL_law_5 167 rfl) rfl ?_
                      exact ih (v3 + 6) h77
                    · refine ms_iconst (pc := 438) S (m_dec eL_law_1 16 rfl) ?_
                      exact ms_ret (pc := 439) E (m_dec eL_law_1 17 rfl) rfl
                  · refine ms_ite (fun q80 => ?_) (fun q80 => ?_)
                    · refine ms_swIn (pc := 33) S (m_dec eL_law_0 21 rfl) 8 q80 (by decide) (by decide) rfl rfl ?_
                      refine ms_aload_n (pc := 440) S 1 rfl rfl (m_dec eL_law_1 18 rfl) ?_
                      refine ms_aload_n (pc := 441) S 0 rfl rfl (m_dec eL_law_1 19 rfl) ?_
                      refine ms_iload_n (pc := 442) S 3 rfl rfl (m_dec eL_law_1 20 rfl) ?_
                      refine ms_iconst (pc := 443) S (m_dec eL_law_1 21 rfl) ?_
                      refine ms_iadd (pc := 444) S (m_dec eL_law_1 22 rfl) ?_
                      refine ms_grd fun g81 => ?_
                      refine ms_sld (pc := 445) S hX g1 g81 (m_dec eL_law_1 23 rfl) ?_
                      refine ms_aload_n (pc := 446) S 0 rfl rfl (m_dec eL_law_1 24 rfl) ?_
                      refine ms_iload_n (pc := 447) S 3 rfl rfl (m_dec eL_law_1 25 rfl) ?_
                      refine ms_iconst (pc := 448) S (m_dec eL_law_1 26 rfl) ?_
                      refine ms_iadd (pc := 449) S (m_dec eL_law_1 27 rfl) ?_
                      refine ms_grd fun g82 => ?_
                      refine ms_sld (pc := 450) S hX g1 g82 (m_dec eL_law_1 28 rfl) ?_
                      refine ms_aload_n (pc := 451) S 0 rfl rfl (m_dec eL_law_1 29 rfl) ?_
                      refine ms_iload_n (pc := 452) S 3 rfl rfl (m_dec eL_law_1 30 rfl) ?_
                      refine ms_iconst (pc := 453) S (m_dec eL_law_1 31 rfl) ?_
                      refine ms_iadd (pc := 454) S (m_dec eL_law_1 32 rfl) ?_
                      refine ms_grd fun g83 => ?_
                      refine ms_sld (pc := 455) S hX g1 g83 (m_dec eL_law_1 33 rfl) ?_
                      refine ms_grd fun g84 => ?_
                      refine ms_callVi (pc := 456) S hF (vals := [m_i (xs (m_w (v3 + 1))), m_i (xs (m_w (v3 + 2))), m_i (xs (m_w (v3 + 3)))]) (st := []) (hc := vw_10) (hci := by decide) (hcy := rfl) (ht := g84) (hC := (k10_splice _ _ v1 (xs (m_w (v3 + 1))) (xs (m_w (v3 + 2))) (xs (m_w (v3 + 3))) h)) (hM := lm_L_50) (hfr := (Nat.le_trans (by decide) hFn)) (hstk := rfl) (hcat := Nat.le_of_ble_eq_true rfl) (hd := (m_dec eL_law_1 34 rfl)) (k1 := fun r86 h85 => ?_)
                      refine ms_aload_n (pc := 459) S 2 rfl rfl (m_dec eL_law_1 35 rfl) ?_
                      refine ms_aload_n (pc := 460) S 0 rfl rfl (m_dec eL_law_1 36 rfl) ?_
                      refine ms_iload_n (pc := 461) S 3 rfl rfl (m_dec eL_law_1 37 rfl) ?_
                      refine ms_iconst (pc := 462) S (m_dec eL_law_1 38 rfl) ?_
                      refine ms_iadd (pc := 463) S (m_dec eL_law_1 39 rfl) ?_
                      refine ms_sld (pc := 464) S hX g1 g81 (m_dec eL_law_1 40 rfl) ?_
                      refine ms_aload_n (pc := 465) S 0 rfl rfl (m_dec eL_law_1 41 rfl) ?_
                      refine ms_iload_n (pc := 466) S 3 rfl rfl (m_dec eL_law_1 42 rfl) ?_
                      refine ms_iconst (pc := 467) S (m_dec eL_law_1 43 rfl) ?_
                      refine ms_iadd (pc := 468) S (m_dec eL_law_1 44 rfl) ?_
                      refine ms_sld (pc := 469) S hX g1 g82 (m_dec eL_law_1 45 rfl) ?_
                      refine ms_aload_n (pc := 470) S 0 rfl rfl (m_dec eL_law_1 46 rfl) ?_
                      refine ms_iload_n (pc := 471) S 3 rfl rfl (m_dec eL_law_1 47 rfl) ?_
                      refine ms_iconst (pc := 472) S (m_dec eL_law_1 48 rfl) ?_
                      refine ms_iadd (pc := 473) S (m_dec eL_law_1 49 rfl) ?_
                      refine ms_sld (pc := 474) S hX g1 g83 (m_dec eL_law_1 50 rfl) ?_
                      refine ms_grd fun g87 => ?_
                      refine ms_callVi (pc := 475) S hF (vals := [m_i (xs (m_w (v3 + 1))), m_i (xs (m_w (v3 + 2))), m_i (xs (m_w (v3 + 3)))]) (st := [m_i r86]) (hc := vw_11) (hci := by decide) (hcy := rfl) (ht := g87) (hC := (k11_splice _ _ v2 (xs (m_w (v3 + 1))) (xs (m_w (v3 + 2))) (xs (m_w (v3 + 3))) h85)) (hM := lm_L_54) (hfr := (Nat.le_trans (by decide) hFn)) (hstk := rfl) (hcat := Nat.le_of_ble_eq_true rfl) (hd := (m_dec eL_law_1 51 rfl)) (k1 := fun r89 h88 => ?_)
                      refine ms_icmp_eq (pc := 478) S (m_dec eL_law_1 52 rfl) rfl (fun q90 => ?_) (fun q90 => ?_)
                      · refine ms_iinc (pc := 1512) S (L' := [(0, m_r v0), (1, m_r v1), (2, m_r v2), (3, m_i (v3 + 6))]) 3 rfl [1, 2, 3, 0] rfl (m_lt hN rfl) (m_dec eL_law_5 166 rfl) ?_
                        refine ms_goto (pc := 1515) S (m_dec eL_law_5 167 rfl) rfl ?_
                        exact ih (v3 + 6) h88
                      · refine ms_iconst (pc := 481) S (m_dec eL_law_1 53 rfl) ?_
                        exact ms_ret (pc := 482) E (m_dec eL_law_1 54 rfl) rfl
                    · refine ms_ite (fun q91 => ?_) (fun q91 => ?_)
                      · refine ms_swIn (pc := 33) S (m_dec eL_law_0 21 rfl) 9 q91 (by decide) (by decide) rfl rfl ?_
                        refine ms_aload_n (pc := 483) S 1 rfl rfl (m_dec eL_law_1 55 rfl) ?_
                        refine ms_aload_n (pc := 484) S 0 rfl rfl (m_dec eL_law_1 56 rfl) ?_
                        refine ms_iload_n (pc := 485) S 3 rfl rfl (m_dec eL_law_1 57 rfl) ?_
                        refine ms_iconst (pc := 486) S (m_dec eL_law_1 58 rfl) ?_
                        refine ms_iadd (pc := 487) S (m_dec eL_law_1 59 rfl) ?_
                        refine ms_grd fun g92 => ?_
                        refine ms_sld (pc := 488) S hX g1 g92 (m_dec eL_law_1 60 rfl) ?_
                        refine ms_aload_n (pc := 489) S 0 rfl rfl (m_dec eL_law_1 61 rfl) ?_
                        refine ms_iload_n (pc := 490) S 3 rfl rfl (m_dec eL_law_1 62 rfl) ?_
                        refine ms_iconst (pc := 491) S (m_dec eL_law_1 63 rfl) ?_
                        refine ms_iadd (pc := 492) S (m_dec eL_law_1 64 rfl) ?_
                        refine ms_grd fun g93 => ?_
                        refine ms_sld (pc := 493) S hX g1 g93 (m_dec eL_law_1 65 rfl) ?_
                        refine ms_aload_n (pc := 494) S 0 rfl rfl (m_dec eL_law_1 66 rfl) ?_
                        refine ms_iload_n (pc := 495) S 3 rfl rfl (m_dec eL_law_1 67 rfl) ?_
                        refine ms_iconst (pc := 496) S (m_dec eL_law_1 68 rfl) ?_
                        refine ms_iadd (pc := 497) S (m_dec eL_law_1 69 rfl) ?_
                        refine ms_grd fun g94 => ?_
                        refine ms_sld (pc := 498) S hX g1 g94 (m_dec eL_law_1 70 rfl) ?_
                        refine ms_grd fun g95 => ?_
                        refine ms_callVi (pc := 499) S hF (vals := [m_i (xs (m_w (v3 + 1))), m_i (xs (m_w (v3 + 2))), m_i (xs (m_w (v3 + 3)))]) (st := []) (hc := vw_10) (hci := by decide) (hcy := rfl) (ht := g95) (hC := (k10_machine _ _ v1 (xs (m_w (v3 + 1))) (xs (m_w (v3 + 2))) (xs (m_w (v3 + 3))) h)) (hM := lm_L_55) (hfr := (Nat.le_trans (by decide) hFn)) (hstk := rfl) (hcat := Nat.le_of_ble_eq_true rfl) (hd := (m_dec eL_law_1 71 rfl)) (k1 := fun r97 h96 => ?_)
                        refine ms_aload_n (pc := 502) S 2 rfl rfl (m_dec eL_law_1 72 rfl) ?_
                        refine ms_aload_n (pc := 503) S 0 rfl rfl (m_dec eL_law_1 73 rfl) ?_
                        refine ms_iload_n (pc := 504) S 3 rfl rfl (m_dec eL_law_1 74 rfl) ?_
                        refine ms_iconst (pc := 505) S (m_dec eL_law_1 75 rfl) ?_
                        refine ms_iadd (pc := 506) S (m_dec eL_law_1 76 rfl) ?_
                        refine ms_sld (pc := 507) S hX g1 g92 (m_dec eL_law_1 77 rfl) ?_
                        refine ms_aload_n (pc := 508) S 0 rfl rfl (m_dec eL_law_1 78 rfl) ?_
                        refine ms_iload_n (pc := 509) S 3 rfl rfl (m_dec eL_law_1 79 rfl) ?_
                        refine ms_iconst (pc := 510) S (m_dec eL_law_1 80 rfl) ?_
                        refine ms_iadd (pc := 511) S (m_dec eL_law_1 81 rfl) ?_
                        refine ms_sld (pc := 512) S hX g1 g93 (m_dec eL_law_1 82 rfl) ?_
                        refine ms_aload_n (pc := 513) S 0 rfl rfl (m_dec eL_law_1 83 rfl) ?_
                        refine ms_iload_n (pc := 514) S 3 rfl rfl (m_dec eL_law_1 84 rfl) ?_
                        refine ms_iconst (pc := 515) S (m_dec eL_law_1 85 rfl) ?_
                        refine ms_iadd (pc := 516) S (m_dec eL_law_1 86 rfl) ?_
                        refine ms_sld (pc := 517) S hX g1 g94 (m_dec eL_law_1 87 rfl) ?_
                        refine ms_grd fun g98 => ?_
                        refine ms_callVi (pc := 518) S hF (vals := [m_i (xs (m_w (v3 + 1))), m_i (xs (m_w (v3 + 2))), m_i (xs (m_w (v3 + 3)))]) (st := [m_i r97]) (hc := vw_11) (hci := by decide) (hcy := rfl) (ht := g98) (hC := (k11_machine _ _ v2 (xs (m_w (v3 + 1))) (xs (m_w (v3 + 2))) (xs (m_w (v3 + 3))) h96)) (hM := lm_L_58) (hfr := (Nat.le_trans (by decide) hFn)) (hstk := rfl) (hcat := Nat.le_of_ble_eq_true rfl) (hd := (m_dec eL_law_1 88 rfl)) (k1 := fun r100 h99 => ?_)
                        refine ms_icmp_eq (pc := 521) S (m_dec eL_law_1 89 rfl) rfl (fun q101 => ?_) (fun q101 => ?_)
                        · refine ms_iinc (pc := 1512) S (L' := [(0, m_r v0), (1, m_r v1), (2, m_r v2), (3, m_i (v3 + 6))]) 3 rfl [1, 2, 3, 0] rfl (m_lt hN rfl) (m_dec eL_law_5 166 rfl) ?_
                          refine ms_goto (pc := 1515) S (m_dec eL_law_5 167 rfl) rfl ?_
                          exact ih (v3 + 6) h99
                        · refine ms_iconst (pc := 524) S (m_dec eL_law_1 90 rfl) ?_
                          exact ms_ret (pc := 525) E (m_dec eL_law_1 91 rfl) rfl
                      · refine ms_ite (fun q102 => ?_) (fun q102 => ?_)
                        · refine ms_swIn (pc := 33) S (m_dec eL_law_0 21 rfl) 10 q102 (by decide) (by decide) rfl rfl ?_
                          refine ms_aload_n (pc := 526) S 1 rfl rfl (m_dec eL_law_1 92 rfl) ?_
                          refine ms_aload_n (pc := 527) S 0 rfl rfl (m_dec eL_law_1 93 rfl) ?_
                          refine ms_iload_n (pc := 528) S 3 rfl rfl (m_dec eL_law_1 94 rfl) ?_
                          refine ms_iconst (pc := 529) S (m_dec eL_law_1 95 rfl) ?_
                          refine ms_iadd (pc := 530) S (m_dec eL_law_1 96 rfl) ?_
                          refine ms_grd fun g103 => ?_
                          refine ms_sld (pc := 531) S hX g1 g103 (m_dec eL_law_1 97 rfl) ?_
                          refine ms_aload_n (pc := 532) S 0 rfl rfl (m_dec eL_law_1 98 rfl) ?_
                          refine ms_iload_n (pc := 533) S 3 rfl rfl (m_dec eL_law_1 99 rfl) ?_
                          refine ms_iconst (pc := 534) S (m_dec eL_law_1 100 rfl) ?_
                          refine ms_iadd (pc := 535) S (m_dec eL_law_1 101 rfl) ?_
                          refine ms_grd fun g104 => ?_
                          refine ms_sld (pc := 536) S hX g1 g104 (m_dec eL_law_1 102 rfl) ?_
                          refine ms_grd fun g105 => ?_
                          refine ms_callVi (pc := 537) S hF (vals := [m_i (xs (m_w (v3 + 1))), m_i (xs (m_w (v3 + 2)))]) (st := []) (hc := vw_10) (hci := by decide) (hcy := rfl) (ht := g105) (hC := (k10_copy _ _ v1 (xs (m_w (v3 + 1))) (xs (m_w (v3 + 2))) h)) (hM := lm_L_59) (hfr := (Nat.le_trans (by decide) hFn)) (hstk := rfl) (hcat := Nat.le_of_ble_eq_true rfl) (hd := (m_dec eL_law_1 103 rfl)) (k1 := fun r107 h106 => ?_)
                          refine ms_aload_n (pc := 540) S 2 rfl rfl (m_dec eL_law_1 104 rfl) ?_
                          refine ms_aload_n (pc := 541) S 0 rfl rfl (m_dec eL_law_1 105 rfl) ?_
                          refine ms_iload_n (pc := 542) S 3 rfl rfl (m_dec eL_law_1 106 rfl) ?_
                          refine ms_iconst (pc := 543) S (m_dec eL_law_1 107 rfl) ?_
                          refine ms_iadd (pc := 544) S (m_dec eL_law_1 108 rfl) ?_
                          refine ms_sld (pc := 545) S hX g1 g103 (m_dec eL_law_1 109 rfl) ?_
                          refine ms_aload_n (pc := 546) S 0 rfl rfl (m_dec eL_law_1 110 rfl) ?_
                          refine ms_iload_n (pc := 547) S 3 rfl rfl (m_dec eL_law_1 111 rfl) ?_
                          refine ms_iconst (pc := 548) S (m_dec eL_law_1 112 rfl) ?_
                          refine ms_iadd (pc := 549) S (m_dec eL_law_1 113 rfl) ?_
                          refine ms_sld (pc := 550) S hX g1 g104 (m_dec eL_law_1 114 rfl) ?_
                          refine ms_grd fun g108 => ?_
                          refine ms_callVi (pc := 551) S hF (vals := [m_i (xs (m_w (v3 + 1))), m_i (xs (m_w (v3 + 2)))]) (st := [m_i r107]) (hc := vw_11) (hci := by decide) (hcy := rfl) (ht := g108) (hC := (k11_copy _ _ v2 (xs (m_w (v3 + 1))) (xs (m_w (v3 + 2))) h106)) (hM := lm_L_62) (hfr := (Nat.le_trans (by decide) hFn)) (hstk := rfl) (hcat := Nat.le_of_ble_eq_true rfl) (hd := (m_dec eL_law_1 115 rfl)) (k1 := fun r110 h109 => ?_)
                          refine ms_icmp_eq (pc := 554) S (m_dec eL_law_1 116 rfl) rfl (fun q111 => ?_) (fun q111 => ?_)
                          · refine ms_iinc (pc := 1512) S (L' := [(0, m_r v0), (1, m_r v1), (2, m_r v2), (3, m_i (v3 + 6))]) 3 rfl [1, 2, 3, 0] rfl (m_lt hN rfl) (m_dec eL_law_5 166 rfl) ?_
                            refine ms_goto (pc := 1515) S (m_dec eL_law_5 167 rfl) rfl ?_
                            exact ih (v3 + 6) h109
                          · refine ms_iconst (pc := 557) S (m_dec eL_law_1 117 rfl) ?_
                            exact ms_ret (pc := 558) E (m_dec eL_law_1 118 rfl) rfl
                        · refine ms_ite (fun q112 => ?_) (fun q112 => ?_)
                          · refine ms_swIn (pc := 33) S (m_dec eL_law_0 21 rfl) 11 q112 (by decide) (by decide) rfl rfl ?_
                            refine ms_aload_n (pc := 559) S 1 rfl rfl (m_dec eL_law_1 119 rfl) ?_
                            refine ms_aload_n (pc := 560) S 0 rfl rfl (m_dec eL_law_1 120 rfl) ?_
                            refine ms_iload_n (pc := 561) S 3 rfl rfl (m_dec eL_law_1 121 rfl) ?_
                            refine ms_iconst (pc := 562) S (m_dec eL_law_1 122 rfl) ?_
                            refine ms_iadd (pc := 563) S (m_dec eL_law_1 123 rfl) ?_
                            refine ms_grd fun g113 => ?_
                            refine ms_sld (pc := 564) S hX g1 g113 (m_dec eL_law_1 124 rfl) ?_
                            refine ms_aload_n (pc := 565) S 0 rfl rfl (m_dec eL_law_1 125 rfl) ?_
                            refine ms_iload_n (pc := 566) S 3 rfl rfl (m_dec eL_law_1 126 rfl) ?_
                            refine ms_iconst (pc := 567) S (m_dec eL_law_1 127 rfl) ?_
                            refine ms_iadd (pc := 568) S (m_dec eL_law_1 128 rfl) ?_
                            refine ms_grd fun g114 => ?_
                            refine ms_sld (pc := 569) S hX g1 g114 (m_dec eL_law_1 129 rfl) ?_
                            refine ms_aload_n (pc := 570) S 0 rfl rfl (m_dec eL_law_1 130 rfl) ?_
                            refine ms_iload_n (pc := 571) S 3 rfl rfl (m_dec eL_law_1 131 rfl) ?_
                            refine ms_iconst (pc := 572) S (m_dec eL_law_1 132 rfl) ?_
                            refine ms_iadd (pc := 573) S (m_dec eL_law_1 133 rfl) ?_
                            refine ms_grd fun g115 => ?_
                            refine ms_sld (pc := 574) S hX g1 g115 (m_dec eL_law_1 134 rfl) ?_
                            refine ms_aload_n (pc := 575) S 0 rfl rfl (m_dec eL_law_1 135 rfl) ?_
                            refine ms_iload_n (pc := 576) S 3 rfl rfl (m_dec eL_law_1 136 rfl) ?_
                            refine ms_iconst (pc := 577) S (m_dec eL_law_1 137 rfl) ?_
                            refine ms_iadd (pc := 578) S (m_dec eL_law_1 138 rfl) ?_
                            refine ms_grd fun g116 => ?_
                            refine ms_sld (pc := 579) S hX g1 g116 (m_dec eL_law_1 139 rfl) ?_
                            refine ms_grd fun g117 => ?_
                            refine ms_callVi (pc := 580) S hF (vals := [m_i (xs (m_w (v3 + 1))), m_i (xs (m_w (v3 + 2))), m_i (xs (m_w (v3 + 3))), m_i (xs (m_w (v3 + 4)))]) (st := []) (hc := vw_10) (hci := by decide) (hcy := rfl) (ht := g117) (hC := (k10_speed _ _ v1 (xs (m_w (v3 + 1))) (xs (m_w (v3 + 2))) (xs (m_w (v3 + 3))) (xs (m_w (v3 + 4))) h)) (hM := lm_L_63) (hfr := (Nat.le_trans (by decide) hFn)) (hstk := rfl) (hcat := Nat.le_of_ble_eq_true rfl) (hd := (m_dec eL_law_1 140 rfl)) (k1 := fun r119 h118 => ?_)
                            refine ms_aload_n (pc := 583) S 2 rfl rfl (m_dec eL_law_1 141 rfl) ?_
                            refine ms_aload_n (pc := 584) S 0 rfl rfl (m_dec eL_law_1 142 rfl) ?_
                            refine ms_iload_n (pc := 585) S 3 rfl rfl (m_dec eL_law_1 143 rfl) ?_
                            refine ms_iconst (pc := 586) S (m_dec eL_law_1 144 rfl) ?_
                            refine ms_iadd (pc := 587) S (m_dec eL_law_1 145 rfl) ?_
                            refine ms_sld (pc := 588) S hX g1 g113 (m_dec eL_law_1 146 rfl) ?_
                            refine ms_aload_n (pc := 589) S 0 rfl rfl (m_dec eL_law_1 147 rfl) ?_
                            refine ms_iload_n (pc := 590) S 3 rfl rfl (m_dec eL_law_1 148 rfl) ?_
                            refine ms_iconst (pc := 591) S (m_dec eL_law_1 149 rfl) ?_
                            refine ms_iadd (pc := 592) S (m_dec eL_law_1 150 rfl) ?_
                            refine ms_sld (pc := 593) S hX g1 g114 (m_dec eL_law_1 151 rfl) ?_
                            refine ms_aload_n (pc := 594) S 0 rfl rfl (m_dec eL_law_1 152 rfl) ?_
                            refine ms_iload_n (pc := 595) S 3 rfl rfl (m_dec eL_law_1 153 rfl) ?_
                            refine ms_iconst (pc := 596) S (m_dec eL_law_1 154 rfl) ?_
                            refine ms_iadd (pc := 597) S (m_dec eL_law_1 155 rfl) ?_
                            refine ms_sld (pc := 598) S hX g1 g115 (m_dec eL_law_1 156 rfl) ?_
                            refine ms_aload_n (pc := 599) S 0 rfl rfl (m_dec eL_law_1 157 rfl) ?_
                            refine ms_iload_n (pc := 600) S 3 rfl rfl (m_dec eL_law_1 158 rfl) ?_
                            refine ms_iconst (pc := 601) S (m_dec eL_law_1 159 rfl) ?_
                            refine ms_iadd (pc := 602) S (m_dec eL_law_1 160 rfl) ?_
                            refine ms_sld (pc := 603) S hX g1 g116 (m_dec eL_law_1 161 rfl) ?_
                            refine ms_grd fun g120 => ?_
                            refine ms_callVi (pc := 604) S hF (vals := [m_i (xs (m_w (v3 + 1))), m_i (xs (m_w (v3 + 2))), m_i (xs (m_w (v3 + 3))), m_i (xs (m_w (v3 + 4)))]) (st := [m_i r119]) (hc := vw_11) (hci := by decide) (hcy := rfl) (ht := g120) (hC := (k11_speed _ _ v2 (xs (m_w (v3 + 1))) (xs (m_w (v3 + 2))) (xs (m_w (v3 + 3))) (xs (m_w (v3 + 4))) h118)) (hM := lm_L_67) (hfr := (Nat.le_trans (by decide) hFn)) (hstk := rfl) (hcat := Nat.le_of_ble_eq_true rfl) (hd := (m_dec eL_law_1 162 rfl)) (k1 := fun r122 h121 => ?_)
                            refine ms_icmp_eq (pc := 607) S (m_dec eL_law_1 163 rfl) rfl (fun q123 => ?_) (fun q123 => ?_)
                            · refine ms_iinc (pc := 1512) S (L' := [(0, m_r v0), (1, m_r v1), (2, m_r v2), (3, m_i (v3 + 6))]) 3 rfl [1, 2, 3, 0] rfl (m_lt hN rfl) (m_dec eL_law_5 166 rfl) ?_
                              refine ms_goto (pc := 1515) S (m_dec eL_law_5 167 rfl) rfl ?_
                              exact ih (v3 + 6) h121
                            · refine ms_iconst (pc := 610) S (m_dec eL_law_1 164 rfl) ?_
                              exact ms_ret (pc := 611) E (m_dec eL_law_1 165 rfl) rfl
                          · refine ms_ite (fun q124 => ?_) (fun q124 => ?_)
                            · refine ms_swIn (pc := 33) S (m_dec eL_law_0 21 rfl) 12 q124 (by decide) (by decide) rfl rfl ?_
                              refine ms_aload_n (pc := 612) S 1 rfl rfl (m_dec eL_law_1 166 rfl) ?_
                              refine ms_aload_n (pc := 613) S 0 rfl rfl (m_dec eL_law_1 167 rfl) ?_
                              refine ms_iload_n (pc := 614) S 3 rfl rfl (m_dec eL_law_1 168 rfl) ?_
                              refine ms_iconst (pc := 615) S (m_dec eL_law_1 169 rfl) ?_
                              refine ms_iadd (pc := 616) S (m_dec eL_law_1 170 rfl) ?_
                              refine ms_grd fun g125 => ?_
                              refine ms_sld (pc := 617) S hX g1 g125 (m_dec eL_law_1 171 rfl) ?_
                              refine ms_grd fun g126 => ?_
                              refine ms_callVz (pc := 618) S hF (vals := [m_i (xs (m_w (v3 + 1)))]) (st := []) (hc := vw_10) (hci := by decide) (hcy := rfl) (ht := g126) (hC := (k10_lose _ _ v1 (xs (m_w (v3 + 1))) h)) (hM := lm_L_68) (hfr := (Nat.le_trans (by decide) hFn)) (hstk := rfl) (hcat := Nat.le_of_ble_eq_true rfl) (hd := (m_dec eL_law_1 172 rfl)) (k1 := fun r128 h127 => ?_)
                              refine ms_aload_n (pc := 621) S 2 rfl rfl (m_dec eL_law_1 173 rfl) ?_
                              refine ms_aload_n (pc := 622) S 0 rfl rfl (m_dec eL_law_1 174 rfl) ?_
                              refine ms_iload_n (pc := 623) S 3 rfl rfl (m_dec eL_law_1 175 rfl) ?_
                              refine ms_iconst (pc := 624) S (m_dec eL_law_1 176 rfl) ?_
                              refine ms_iadd (pc := 625) S (m_dec eL_law_1 177 rfl) ?_
                              refine ms_sld (pc := 626) S hX g1 g125 (m_dec eL_law_1 178 rfl) ?_
                              refine ms_grd fun g129 => ?_
                              refine ms_callVz (pc := 627) S hF (vals := [m_i (xs (m_w (v3 + 1)))]) (st := [m_i (m_b2i r128)]) (hc := vw_11) (hci := by decide) (hcy := rfl) (ht := g129) (hC := (k11_lose _ _ v2 (xs (m_w (v3 + 1))) h127)) (hM := lm_L_71) (hfr := (Nat.le_trans (by decide) hFn)) (hstk := rfl) (hcat := Nat.le_of_ble_eq_true rfl) (hd := (m_dec eL_law_1 179 rfl)) (k1 := fun r131 h130 => ?_)
                              refine ms_icmp_eq (pc := 630) S (m_dec eL_law_2 0 rfl) rfl (fun q132 => ?_) (fun q132 => ?_)
                              · refine ms_iinc (pc := 1512) S (L' := [(0, m_r v0), (1, m_r v1), (2, m_r v2), (3, m_i (v3 + 6))]) 3 rfl [1, 2, 3, 0] rfl (m_lt hN rfl) (m_dec eL_law_5 166 rfl) ?_
                                refine ms_goto (pc := 1515) S (m_dec eL_law_5 167 rfl) rfl ?_
                                exact ih (v3 + 6) h130
                              · refine ms_iconst (pc := 633) S (m_dec eL_law_2 1 rfl) ?_
                                exact ms_ret (pc := 634) E (m_dec eL_law_2 2 rfl) rfl
                            · refine ms_ite (fun q133 => ?_) (fun q133 => ?_)
                              · refine ms_swIn (pc := 33) S (m_dec eL_law_0 21 rfl) 13 q133 (by decide) (by decide) rfl rfl ?_
                                refine ms_aload_n (pc := 635) S 1 rfl rfl (m_dec eL_law_2 3 rfl) ?_
                                refine ms_aload_n (pc := 636) S 0 rfl rfl (m_dec eL_law_2 4 rfl) ?_
                                refine ms_iload_n (pc := 637) S 3 rfl rfl (m_dec eL_law_2 5 rfl) ?_
                                refine ms_iconst (pc := 638) S (m_dec eL_law_2 6 rfl) ?_
                                refine ms_iadd (pc := 639) S (m_dec eL_law_2 7 rfl) ?_
                                refine ms_grd fun g134 => ?_
                                refine ms_sld (pc := 640) S hX g1 g134 (m_dec eL_law_2 8 rfl) ?_
                                refine ms_aload_n (pc := 641) S 0 rfl rfl (m_dec eL_law_2 9 rfl) ?_
                                refine ms_iload_n (pc := 642) S 3 rfl rfl (m_dec eL_law_2 10 rfl) ?_
                                refine ms_iconst (pc := 643) S (m_dec eL_law_2 11 rfl) ?_
                                refine ms_iadd (pc := 644) S (m_dec eL_law_2 12 rfl) ?_
                                refine ms_grd fun g135 => ?_
                                refine ms_sld (pc := 645) S hX g1 g135 (m_dec eL_law_2 13 rfl) ?_
                                refine ms_grd fun g136 => ?_
                                refine ms_callVz (pc := 646) S hF (vals := [m_i (xs (m_w (v3 + 1))), m_i (xs (m_w (v3 + 2)))]) (st := []) (hc := vw_10) (hci := by decide) (hcy := rfl) (ht := g136) (hC := (k10_hang _ _ v1 (xs (m_w (v3 + 1))) (xs (m_w (v3 + 2))) h)) (hM := lm_L_72) (hfr := (Nat.le_trans (by decide) hFn)) (hstk := rfl) (hcat := Nat.le_of_ble_eq_true rfl) (hd := (m_dec eL_law_2 14 rfl)) (k1 := fun r138 h137 => ?_)
                                refine ms_aload_n (pc := 649) S 2 rfl rfl (m_dec eL_law_2 15 rfl) ?_
                                refine ms_aload_n (pc := 650) S 0 rfl rfl (m_dec eL_law_2 16 rfl) ?_
                                refine ms_iload_n (pc := 651) S 3 rfl rfl (m_dec eL_law_2 17 rfl) ?_
                                refine ms_iconst (pc := 652) S (m_dec eL_law_2 18 rfl) ?_
                                refine ms_iadd (pc := 653) S (m_dec eL_law_2 19 rfl) ?_
                                refine ms_sld (pc := 654) S hX g1 g134 (m_dec eL_law_2 20 rfl) ?_
                                refine ms_aload_n (pc := 655) S 0 rfl rfl (m_dec eL_law_2 21 rfl) ?_
                                refine ms_iload_n (pc := 656) S 3 rfl rfl (m_dec eL_law_2 22 rfl) ?_
                                refine ms_iconst (pc := 657) S (m_dec eL_law_2 23 rfl) ?_
                                refine ms_iadd (pc := 658) S (m_dec eL_law_2 24 rfl) ?_
                                refine ms_sld (pc := 659) S hX g1 g135 (m_dec eL_law_2 25 rfl) ?_
                                refine ms_grd fun g139 => ?_
                                refine ms_callVz (pc := 660) S hF (vals := [m_i (xs (m_w (v3 + 1))), m_i (xs (m_w (v3 + 2)))]) (st := [m_i (m_b2i r138)]) (hc := vw_11) (hci := by decide) (hcy := rfl) (ht := g139) (hC := (k11_hang _ _ v2 (xs (m_w (v3 + 1))) (xs (m_w (v3 + 2))) h137)) (hM := lm_L_76) (hfr := (Nat.le_trans (by decide) hFn)) (hstk := rfl) (hcat := Nat.le_of_ble_eq_true rfl) (hd := (m_dec eL_law_2 26 rfl)) (k1 := fun r141 h140 => ?_)
                                refine ms_icmp_eq (pc := 663) S (m_dec eL_law_2 27 rfl) rfl (fun q142 => ?_) (fun q142 => ?_)
                                · refine ms_iinc (pc := 1512) S (L' := [(0, m_r v0), (1, m_r v1), (2, m_r v2), (3, m_i (v3 + 6))]) 3 rfl [1, 2, 3, 0] rfl (m_lt hN rfl) (m_dec eL_law_5 166 rfl) ?_
                                  refine ms_goto (pc := 1515) S (m_dec eL_law_5 167 rfl) rfl ?_
                                  exact ih (v3 + 6) h140
                                · refine ms_iconst (pc := 666) S (m_dec eL_law_2 28 rfl) ?_
                                  exact ms_ret (pc := 667) E (m_dec eL_law_2 29 rfl) rfl
                              · refine ms_ite (fun q143 => ?_) (fun q143 => ?_)
                                · refine ms_swIn (pc := 33) S (m_dec eL_law_0 21 rfl) 14 q143 (by decide) (by decide) rfl rfl ?_
                                  refine ms_aload_n (pc := 668) S 1 rfl rfl (m_dec eL_law_2 30 rfl) ?_
                                  refine ms_aload_n (pc := 669) S 0 rfl rfl (m_dec eL_law_2 31 rfl) ?_
                                  refine ms_iload_n (pc := 670) S 3 rfl rfl (m_dec eL_law_2 32 rfl) ?_
                                  refine ms_iconst (pc := 671) S (m_dec eL_law_2 33 rfl) ?_
                                  refine ms_iadd (pc := 672) S (m_dec eL_law_2 34 rfl) ?_
                                  refine ms_grd fun g144 => ?_
                                  refine ms_sld (pc := 673) S hX g1 g144 (m_dec eL_law_2 35 rfl) ?_
                                  refine ms_grd fun g145 => ?_
                                  refine ms_callVi (pc := 674) S hF (vals := [m_i (xs (m_w (v3 + 1)))]) (st := []) (hc := vw_10) (hci := by decide) (hcy := rfl) (ht := g145) (hC := (k10_nail _ _ v1 (xs (m_w (v3 + 1))) h)) (hM := lm_L_77) (hfr := (Nat.le_trans (by decide) hFn)) (hstk := rfl) (hcat := Nat.le_of_ble_eq_true rfl) (hd := (m_dec eL_law_2 36 rfl)) (k1 := fun r147 h146 => ?_)
                                  refine ms_aload_n (pc := 677) S 2 rfl rfl (m_dec eL_law_2 37 rfl) ?_
                                  refine ms_aload_n (pc := 678) S 0 rfl rfl (m_dec eL_law_2 38 rfl) ?_
                                  refine ms_iload_n (pc := 679) S 3 rfl rfl (m_dec eL_law_2 39 rfl) ?_
                                  refine ms_iconst (pc := 680) S (m_dec eL_law_2 40 rfl) ?_
                                  refine ms_iadd (pc := 681) S (m_dec eL_law_2 41 rfl) ?_
                                  refine ms_sld (pc := 682) S hX g1 g144 (m_dec eL_law_2 42 rfl) ?_
                                  refine ms_grd fun g148 => ?_
                                  refine ms_callVi (pc := 683) S hF (vals := [m_i (xs (m_w (v3 + 1)))]) (st := [m_i r147]) (hc := vw_11) (hci := by decide) (hcy := rfl) (ht := g148) (hC := (k11_nail _ _ v2 (xs (m_w (v3 + 1))) h146)) (hM := lm_L_80) (hfr := (Nat.le_trans (by decide) hFn)) (hstk := rfl) (hcat := Nat.le_of_ble_eq_true rfl) (hd := (m_dec eL_law_2 43 rfl)) (k1 := fun r150 h149 => ?_)
                                  refine ms_icmp_eq (pc := 686) S (m_dec eL_law_2 44 rfl) rfl (fun q151 => ?_) (fun q151 => ?_)
                                  · refine ms_iinc (pc := 1512) S (L' := [(0, m_r v0), (1, m_r v1), (2, m_r v2), (3, m_i (v3 + 6))]) 3 rfl [1, 2, 3, 0] rfl (m_lt hN rfl) (m_dec eL_law_5 166 rfl) ?_
                                    refine ms_goto (pc := 1515) S (m_dec eL_law_5 167 rfl) rfl ?_
                                    exact ih (v3 + 6) h149
                                  · refine ms_iconst (pc := 689) S (m_dec eL_law_2 45 rfl) ?_
                                    exact ms_ret (pc := 690) E (m_dec eL_law_2 46 rfl) rfl
                                · refine ms_ite (fun q152 => ?_) (fun q152 => ?_)
                                  · refine ms_swIn (pc := 33) S (m_dec eL_law_0 21 rfl) 15 q152 (by decide) (by decide) rfl rfl ?_
                                    refine ms_aload_n (pc := 691) S 1 rfl rfl (m_dec eL_law_2 47 rfl) ?_
                                    refine ms_aload_n (pc := 692) S 0 rfl rfl (m_dec eL_law_2 48 rfl) ?_
                                    refine ms_iload_n (pc := 693) S 3 rfl rfl (m_dec eL_law_2 49 rfl) ?_
                                    refine ms_iconst (pc := 694) S (m_dec eL_law_2 50 rfl) ?_
                                    refine ms_iadd (pc := 695) S (m_dec eL_law_2 51 rfl) ?_
                                    refine ms_grd fun g153 => ?_
                                    refine ms_sld (pc := 696) S hX g1 g153 (m_dec eL_law_2 52 rfl) ?_
                                    refine ms_aload_n (pc := 697) S 0 rfl rfl (m_dec eL_law_2 53 rfl) ?_
                                    refine ms_iload_n (pc := 698) S 3 rfl rfl (m_dec eL_law_2 54 rfl) ?_
                                    refine ms_iconst (pc := 699) S (m_dec eL_law_2 55 rfl) ?_
                                    refine ms_iadd (pc := 700) S (m_dec eL_law_2 56 rfl) ?_
                                    refine ms_grd fun g154 => ?_
                                    refine ms_sld (pc := 701) S hX g1 g154 (m_dec eL_law_2 57 rfl) ?_
                                    refine ms_grd fun g155 => ?_
                                    refine ms_callVz (pc := 702) S hF (vals := [m_i (xs (m_w (v3 + 1))), m_i (xs (m_w (v3 + 2)))]) (st := []) (hc := vw_10) (hci := by decide) (hcy := rfl) (ht := g155) (hC := (k10_read _ _ v1 (xs (m_w (v3 + 1))) (xs (m_w (v3 + 2))) h)) (hM := lm_L_81) (hfr := (Nat.le_trans (by decide) hFn)) (hstk := rfl) (hcat := Nat.le_of_ble_eq_true rfl) (hd := (m_dec eL_law_2 58 rfl)) (k1 := fun r157 h156 => ?_)
                                    refine ms_aload_n (pc := 705) S 2 rfl rfl (m_dec eL_law_2 59 rfl) ?_
                                    refine ms_aload_n (pc := 706) S 0 rfl rfl (m_dec eL_law_2 60 rfl) ?_
                                    refine ms_iload_n (pc := 707) S 3 rfl rfl (m_dec eL_law_2 61 rfl) ?_
                                    refine ms_iconst (pc := 708) S (m_dec eL_law_2 62 rfl) ?_
                                    refine ms_iadd (pc := 709) S (m_dec eL_law_2 63 rfl) ?_
                                    refine ms_sld (pc := 710) S hX g1 g153 (m_dec eL_law_2 64 rfl) ?_
                                    refine ms_aload_n (pc := 711) S 0 rfl rfl (m_dec eL_law_2 65 rfl) ?_
                                    refine ms_iload_n (pc := 712) S 3 rfl rfl (m_dec eL_law_2 66 rfl) ?_
                                    refine ms_iconst (pc := 713) S (m_dec eL_law_2 67 rfl) ?_
                                    refine ms_iadd (pc := 714) S (m_dec eL_law_2 68 rfl) ?_
                                    refine ms_sld (pc := 715) S hX g1 g154 (m_dec eL_law_2 69 rfl) ?_
                                    refine ms_grd fun g158 => ?_
                                    refine ms_callVz (pc := 716) S hF (vals := [m_i (xs (m_w (v3 + 1))), m_i (xs (m_w (v3 + 2)))]) (st := [m_i (m_b2i r157)]) (hc := vw_11) (hci := by decide) (hcy := rfl) (ht := g158) (hC := (k11_read _ _ v2 (xs (m_w (v3 + 1))) (xs (m_w (v3 + 2))) h156)) (hM := lm_L_84) (hfr := (Nat.le_trans (by decide) hFn)) (hstk := rfl) (hcat := Nat.le_of_ble_eq_true rfl) (hd := (m_dec eL_law_2 70 rfl)) (k1 := fun r160 h159 => ?_)
                                    refine ms_icmp_eq (pc := 719) S (m_dec eL_law_2 71 rfl) rfl (fun q161 => ?_) (fun q161 => ?_)
                                    · refine ms_iinc (pc := 1512) S (L' := [(0, m_r v0), (1, m_r v1), (2, m_r v2), (3, m_i (v3 + 6))]) 3 rfl [1, 2, 3, 0] rfl (m_lt hN rfl) (m_dec eL_law_5 166 rfl) ?_
                                      refine ms_goto (pc := 1515) S (m_dec eL_law_5 167 rfl) rfl ?_
                                      exact ih (v3 + 6) h159
                                    · refine ms_iconst (pc := 722) S (m_dec eL_law_2 72 rfl) ?_
                                      exact ms_ret (pc := 723) E (m_dec eL_law_2 73 rfl) rfl
                                  · refine ms_ite (fun q162 => ?_) (fun q162 => ?_)
                                    · refine ms_swIn (pc := 33) S (m_dec eL_law_0 21 rfl) 16 q162 (by decide) (by decide) rfl rfl ?_
                                      refine ms_aload_n (pc := 724) S 1 rfl rfl (m_dec eL_law_2 74 rfl) ?_
                                      refine ms_aload_n (pc := 725) S 0 rfl rfl (m_dec eL_law_2 75 rfl) ?_
                                      refine ms_iload_n (pc := 726) S 3 rfl rfl (m_dec eL_law_2 76 rfl) ?_
                                      refine ms_iconst (pc := 727) S (m_dec eL_law_2 77 rfl) ?_
                                      refine ms_iadd (pc := 728) S (m_dec eL_law_2 78 rfl) ?_
                                      refine ms_grd fun g163 => ?_
                                      refine ms_sld (pc := 729) S hX g1 g163 (m_dec eL_law_2 79 rfl) ?_
                                      refine ms_aload_n (pc := 730) S 0 rfl rfl (m_dec eL_law_2 80 rfl) ?_
                                      refine ms_iload_n (pc := 731) S 3 rfl rfl (m_dec eL_law_2 81 rfl) ?_
                                      refine ms_iconst (pc := 732) S (m_dec eL_law_2 82 rfl) ?_
                                      refine ms_iadd (pc := 733) S (m_dec eL_law_2 83 rfl) ?_
                                      refine ms_grd fun g164 => ?_
                                      refine ms_sld (pc := 734) S hX g1 g164 (m_dec eL_law_2 84 rfl) ?_
                                      refine ms_grd fun g165 => ?_
                                      refine ms_callVi (pc := 735) S hF (vals := [m_i (xs (m_w (v3 + 1))), m_i (xs (m_w (v3 + 2)))]) (st := []) (hc := vw_10) (hci := by decide) (hcy := rfl) (ht := g165) (hC := (k10_marked _ _ v1 (xs (m_w (v3 + 1))) (xs (m_w (v3 + 2))) h)) (hM := lm_L_85) (hfr := (Nat.le_trans (by decide) hFn)) (hstk := rfl) (hcat := Nat.le_of_ble_eq_true rfl) (hd := (m_dec eL_law_2 85 rfl)) (k1 := fun r167 h166 => ?_)
                                      refine ms_aload_n (pc := 738) S 2 rfl rfl (m_dec eL_law_2 86 rfl) ?_
                                      refine ms_aload_n (pc := 739) S 0 rfl rfl (m_dec eL_law_2 87 rfl) ?_
                                      refine ms_iload_n (pc := 740) S 3 rfl rfl (m_dec eL_law_2 88 rfl) ?_
                                      refine ms_iconst (pc := 741) S (m_dec eL_law_2 89 rfl) ?_
                                      refine ms_iadd (pc := 742) S (m_dec eL_law_2 90 rfl) ?_
                                      refine ms_sld (pc := 743) S hX g1 g163 (m_dec eL_law_2 91 rfl) ?_
                                      refine ms_aload_n (pc := 744) S 0 rfl rfl (m_dec eL_law_2 92 rfl) ?_
                                      refine ms_iload_n (pc := 745) S 3 rfl rfl (m_dec eL_law_2 93 rfl) ?_
                                      refine ms_iconst (pc := 746) S (m_dec eL_law_2 94 rfl) ?_
                                      refine ms_iadd (pc := 747) S (m_dec eL_law_2 95 rfl) ?_
                                      refine ms_sld (pc := 748) S hX g1 g164 (m_dec eL_law_2 96 rfl) ?_
                                      refine ms_grd fun g168 => ?_
                                      refine ms_callVi (pc := 749) S hF (vals := [m_i (xs (m_w (v3 + 1))), m_i (xs (m_w (v3 + 2)))]) (st := [m_i r167]) (hc := vw_11) (hci := by decide) (hcy := rfl) (ht := g168) (hC := (k11_marked _ _ v2 (xs (m_w (v3 + 1))) (xs (m_w (v3 + 2))) h166)) (hM := lm_L_88) (hfr := (Nat.le_trans (by decide) hFn)) (hstk := rfl) (hcat := Nat.le_of_ble_eq_true rfl) (hd := (m_dec eL_law_2 97 rfl)) (k1 := fun r170 h169 => ?_)
                                      refine ms_icmp_eq (pc := 752) S (m_dec eL_law_2 98 rfl) rfl (fun q171 => ?_) (fun q171 => ?_)
                                      · refine ms_iinc (pc := 1512) S (L' := [(0, m_r v0), (1, m_r v1), (2, m_r v2), (3, m_i (v3 + 6))]) 3 rfl [1, 2, 3, 0] rfl (m_lt hN rfl) (m_dec eL_law_5 166 rfl) ?_
                                        refine ms_goto (pc := 1515) S (m_dec eL_law_5 167 rfl) rfl ?_
                                        exact ih (v3 + 6) h169
                                      · refine ms_iconst (pc := 755) S (m_dec eL_law_2 99 rfl) ?_
                                        exact ms_ret (pc := 756) E (m_dec eL_law_2 100 rfl) rfl
                                    · refine ms_ite (fun q172 => ?_) (fun q172 => ?_)
                                      · refine ms_swIn (pc := 33) S (m_dec eL_law_0 21 rfl) 17 q172 (by decide) (by decide) rfl rfl ?_
                                        refine ms_aload_n (pc := 757) S 1 rfl rfl (m_dec eL_law_2 101 rfl) ?_
                                        refine ms_aload_n (pc := 758) S 0 rfl rfl (m_dec eL_law_2 102 rfl) ?_
                                        refine ms_iload_n (pc := 759) S 3 rfl rfl (m_dec eL_law_2 103 rfl) ?_
                                        refine ms_iconst (pc := 760) S (m_dec eL_law_2 104 rfl) ?_
                                        refine ms_iadd (pc := 761) S (m_dec eL_law_2 105 rfl) ?_
                                        refine ms_grd fun g173 => ?_
                                        refine ms_sld (pc := 762) S hX g1 g173 (m_dec eL_law_2 106 rfl) ?_
                                        refine ms_grd fun g174 => ?_
                                        refine ms_callVi (pc := 763) S hF (vals := [m_i (xs (m_w (v3 + 1)))]) (st := []) (hc := vw_10) (hci := by decide) (hcy := rfl) (ht := g174) (hC := (k10_go _ _ v1 (xs (m_w (v3 + 1))) h)) (hM := lm_L_89) (hfr := (Nat.le_trans (by decide) hFn)) (hstk := rfl) (hcat := Nat.le_of_ble_eq_true rfl) (hd := (m_dec eL_law_2 107 rfl)) (k1 := fun r176 h175 => ?_)
                                        refine ms_aload_n (pc := 766) S 2 rfl rfl (m_dec eL_law_2 108 rfl) ?_
                                        refine ms_aload_n (pc := 767) S 0 rfl rfl (m_dec eL_law_2 109 rfl) ?_
                                        refine ms_iload_n (pc := 768) S 3 rfl rfl (m_dec eL_law_2 110 rfl) ?_
                                        refine ms_iconst (pc := 769) S (m_dec eL_law_2 111 rfl) ?_
                                        refine ms_iadd (pc := 770) S (m_dec eL_law_2 112 rfl) ?_
                                        refine ms_sld (pc := 771) S hX g1 g173 (m_dec eL_law_2 113 rfl) ?_
                                        refine ms_grd fun g177 => ?_
                                        refine ms_callVi (pc := 772) S hF (vals := [m_i (xs (m_w (v3 + 1)))]) (st := [m_i r176]) (hc := vw_11) (hci := by decide) (hcy := rfl) (ht := g177) (hC := (k11_go _ _ v2 (xs (m_w (v3 + 1))) h175)) (hM := lm_L_92) (hfr := (Nat.le_trans (by decide) hFn)) (hstk := rfl) (hcat := Nat.le_of_ble_eq_true rfl) (hd := (m_dec eL_law_2 114 rfl)) (k1 := fun r179 h178 => ?_)
                                        refine ms_icmp_eq (pc := 775) S (m_dec eL_law_2 115 rfl) rfl (fun q180 => ?_) (fun q180 => ?_)
                                        · refine ms_iinc (pc := 1512) S (L' := [(0, m_r v0), (1, m_r v1), (2, m_r v2), (3, m_i (v3 + 6))]) 3 rfl [1, 2, 3, 0] rfl (m_lt hN rfl) (m_dec eL_law_5 166 rfl) ?_
                                          refine ms_goto (pc := 1515) S (m_dec eL_law_5 167 rfl) rfl ?_
                                          exact ih (v3 + 6) h178
                                        · refine ms_iconst (pc := 778) S (m_dec eL_law_2 116 rfl) ?_
                                          exact ms_ret (pc := 779) E (m_dec eL_law_2 117 rfl) rfl
                                      · refine ms_ite (fun q181 => ?_) (fun q181 => ?_)
                                        · refine ms_swIn (pc := 33) S (m_dec eL_law_0 21 rfl) 18 q181 (by decide) (by decide) rfl rfl ?_
                                          refine ms_aload_n (pc := 780) S 1 rfl rfl (m_dec eL_law_2 118 rfl) ?_
                                          refine ms_aload_n (pc := 781) S 0 rfl rfl (m_dec eL_law_2 119 rfl) ?_
                                          refine ms_iload_n (pc := 782) S 3 rfl rfl (m_dec eL_law_2 120 rfl) ?_
                                          refine ms_iconst (pc := 783) S (m_dec eL_law_2 121 rfl) ?_
                                          refine ms_iadd (pc := 784) S (m_dec eL_law_2 122 rfl) ?_
                                          refine ms_grd fun g182 => ?_
                                          refine ms_sld (pc := 785) S hX g1 g182 (m_dec eL_law_2 123 rfl) ?_
                                          refine ms_aload_n (pc := 786) S 0 rfl rfl (m_dec eL_law_2 124 rfl) ?_
                                          refine ms_iload_n (pc := 787) S 3 rfl rfl (m_dec eL_law_2 125 rfl) ?_
                                          refine ms_iconst (pc := 788) S (m_dec eL_law_2 126 rfl) ?_
                                          refine ms_iadd (pc := 789) S (m_dec eL_law_2 127 rfl) ?_
                                          refine ms_grd fun g183 => ?_
                                          refine ms_sld (pc := 790) S hX g1 g183 (m_dec eL_law_2 128 rfl) ?_
                                          refine ms_grd fun g184 => ?_
                                          refine ms_callVi (pc := 791) S hF (vals := [m_i (xs (m_w (v3 + 1))), m_i (xs (m_w (v3 + 2)))]) (st := []) (hc := vw_10) (hci := by decide) (hcy := rfl) (ht := g184) (hC := (k10_sample _ _ v1 (xs (m_w (v3 + 1))) (xs (m_w (v3 + 2))) h)) (hM := lm_L_93) (hfr := (Nat.le_trans (by decide) hFn)) (hstk := rfl) (hcat := Nat.le_of_ble_eq_true rfl) (hd := (m_dec eL_law_2 129 rfl)) (k1 := fun r186 h185 => ?_)
                                          refine ms_aload_n (pc := 794) S 2 rfl rfl (m_dec eL_law_2 130 rfl) ?_
                                          refine ms_aload_n (pc := 795) S 0 rfl rfl (m_dec eL_law_2 131 rfl) ?_
                                          refine ms_iload_n (pc := 796) S 3 rfl rfl (m_dec eL_law_2 132 rfl) ?_
                                          refine ms_iconst (pc := 797) S (m_dec eL_law_2 133 rfl) ?_
                                          refine ms_iadd (pc := 798) S (m_dec eL_law_2 134 rfl) ?_
                                          refine ms_sld (pc := 799) S hX g1 g182 (m_dec eL_law_2 135 rfl) ?_
                                          refine ms_aload_n (pc := 800) S 0 rfl rfl (m_dec eL_law_2 136 rfl) ?_
                                          refine ms_iload_n (pc := 801) S 3 rfl rfl (m_dec eL_law_2 137 rfl) ?_
                                          refine ms_iconst (pc := 802) S (m_dec eL_law_2 138 rfl) ?_
                                          refine ms_iadd (pc := 803) S (m_dec eL_law_2 139 rfl) ?_
                                          refine ms_sld (pc := 804) S hX g1 g183 (m_dec eL_law_2 140 rfl) ?_
                                          refine ms_grd fun g187 => ?_
                                          refine ms_callVi (pc := 805) S hF (vals := [m_i (xs (m_w (v3 + 1))), m_i (xs (m_w (v3 + 2)))]) (st := [m_i r186]) (hc := vw_11) (hci := by decide) (hcy := rfl) (ht := g187) (hC := (k11_sample _ _ v2 (xs (m_w (v3 + 1))) (xs (m_w (v3 + 2))) h185)) (hM := lm_L_96) (hfr := (Nat.le_trans (by decide) hFn)) (hstk := rfl) (hcat := Nat.le_of_ble_eq_true rfl) (hd := (m_dec eL_law_2 141 rfl)) (k1 := fun r189 h188 => ?_)
                                          refine ms_icmp_eq (pc := 808) S (m_dec eL_law_2 142 rfl) rfl (fun q190 => ?_) (fun q190 => ?_)
                                          · refine ms_iinc (pc := 1512) S (L' := [(0, m_r v0), (1, m_r v1), (2, m_r v2), (3, m_i (v3 + 6))]) 3 rfl [1, 2, 3, 0] rfl (m_lt hN rfl) (m_dec eL_law_5 166 rfl) ?_
                                            refine ms_goto (pc := 1515) S (m_dec eL_law_5 167 rfl) rfl ?_
                                            exact ih (v3 + 6) h188
                                          · refine ms_iconst (pc := 811) S (m_dec eL_law_2 143 rfl) ?_
                                            exact ms_ret (pc := 812) E (m_dec eL_law_2 144 rfl) rfl
                                        · refine ms_ite (fun q191 => ?_) (fun q191 => ?_)
                                          · refine ms_swIn (pc := 33) S (m_dec eL_law_0 21 rfl) 19 q191 (by decide) (by decide) rfl rfl ?_
                                            refine ms_aload_n (pc := 813) S 1 rfl rfl (m_dec eL_law_2 145 rfl) ?_
                                            refine ms_aload_n (pc := 814) S 0 rfl rfl (m_dec eL_law_2 146 rfl) ?_
                                            refine ms_iload_n (pc := 815) S 3 rfl rfl (m_dec eL_law_2 147 rfl) ?_
                                            refine ms_iconst (pc := 816) S (m_dec eL_law_2 148 rfl) ?_
                                            refine ms_iadd (pc := 817) S (m_dec eL_law_2 149 rfl) ?_
                                            refine ms_grd fun g192 => ?_
                                            refine ms_sld (pc := 818) S hX g1 g192 (m_dec eL_law_2 150 rfl) ?_
                                            refine ms_aload_n (pc := 819) S 0 rfl rfl (m_dec eL_law_2 151 rfl) ?_
                                            refine ms_iload_n (pc := 820) S 3 rfl rfl (m_dec eL_law_2 152 rfl) ?_
                                            refine ms_iconst (pc := 821) S (m_dec eL_law_2 153 rfl) ?_
                                            refine ms_iadd (pc := 822) S (m_dec eL_law_2 154 rfl) ?_
                                            refine ms_grd fun g193 => ?_
                                            refine ms_sld (pc := 823) S hX g1 g193 (m_dec eL_law_2 155 rfl) ?_
                                            refine ms_grd fun g194 => ?_
                                            refine ms_callVi (pc := 824) S hF (vals := [m_i (xs (m_w (v3 + 1))), m_i (xs (m_w (v3 + 2)))]) (st := []) (hc := vw_10) (hci := by decide) (hcy := rfl) (ht := g194) (hC := (k10_told _ _ v1 (xs (m_w (v3 + 1))) (xs (m_w (v3 + 2))) h)) (hM := lm_L_97) (hfr := (Nat.le_trans (by decide) hFn)) (hstk := rfl) (hcat := Nat.le_of_ble_eq_true rfl) (hd := (m_dec eL_law_2 156 rfl)) (k1 := fun r196 h195 => ?_)
                                            refine ms_aload_n (pc := 827) S 2 rfl rfl (m_dec eL_law_2 157 rfl) ?_
                                            refine ms_aload_n (pc := 828) S 0 rfl rfl (m_dec eL_law_2 158 rfl) ?_
                                            refine ms_iload_n (pc := 829) S 3 rfl rfl (m_dec eL_law_2 159 rfl) ?_
                                            refine ms_iconst (pc := 830) S (m_dec eL_law_2 160 rfl) ?_
                                            refine ms_iadd (pc := 831) S (m_dec eL_law_2 161 rfl) ?_
                                            refine ms_sld (pc := 832) S hX g1 g192 (m_dec eL_law_2 162 rfl) ?_
                                            refine ms_aload_n (pc := 833) S 0 rfl rfl (m_dec eL_law_2 163 rfl) ?_
                                            refine ms_iload_n (pc := 834) S 3 rfl rfl (m_dec eL_law_2 164 rfl) ?_
                                            refine ms_iconst (pc := 835) S (m_dec eL_law_2 165 rfl) ?_
                                            refine ms_iadd (pc := 836) S (m_dec eL_law_2 166 rfl) ?_
                                            refine ms_sld (pc := 837) S hX g1 g193 (m_dec eL_law_2 167 rfl) ?_
                                            refine ms_grd fun g197 => ?_
                                            refine ms_callVi (pc := 838) S hF (vals := [m_i (xs (m_w (v3 + 1))), m_i (xs (m_w (v3 + 2)))]) (st := [m_i r196]) (hc := vw_11) (hci := by decide) (hcy := rfl) (ht := g197) (hC := (k11_told _ _ v2 (xs (m_w (v3 + 1))) (xs (m_w (v3 + 2))) h195)) (hM := lm_L_100) (hfr := (Nat.le_trans (by decide) hFn)) (hstk := rfl) (hcat := Nat.le_of_ble_eq_true rfl) (hd := (m_dec eL_law_2 168 rfl)) (k1 := fun r199 h198 => ?_)
                                            refine ms_icmp_eq (pc := 841) S (m_dec eL_law_2 169 rfl) rfl (fun q200 => ?_) (fun q200 => ?_)
                                            · refine ms_iinc (pc := 1512) S (L' := [(0, m_r v0), (1, m_r v1), (2, m_r v2), (3, m_i (v3 + 6))]) 3 rfl [1, 2, 3, 0] rfl (m_lt hN rfl) (m_dec eL_law_5 166 rfl) ?_
                                              refine ms_goto (pc := 1515) S (m_dec eL_law_5 167 rfl) rfl ?_
                                              exact ih (v3 + 6) h198
                                            · refine ms_iconst (pc := 844) S (m_dec eL_law_2 170 rfl) ?_
                                              exact ms_ret (pc := 845) E (m_dec eL_law_2 171 rfl) rfl
                                          · refine ms_ite (fun q201 => ?_) (fun q201 => ?_)
                                            · refine ms_swIn (pc := 33) S (m_dec eL_law_0 21 rfl) 20 q201 (by decide) (by decide) rfl rfl ?_
                                              refine ms_aload_n (pc := 846) S 1 rfl rfl (m_dec eL_law_2 172 rfl) ?_
                                              refine ms_aload_n (pc := 847) S 0 rfl rfl (m_dec eL_law_2 173 rfl) ?_
                                              refine ms_iload_n (pc := 848) S 3 rfl rfl (m_dec eL_law_2 174 rfl) ?_
                                              refine ms_iconst (pc := 849) S (m_dec eL_law_2 175 rfl) ?_
                                              refine ms_iadd (pc := 850) S (m_dec eL_law_2 176 rfl) ?_
                                              refine ms_grd fun g202 => ?_
                                              refine ms_sld (pc := 851) S hX g1 g202 (m_dec eL_law_2 177 rfl) ?_
                                              refine ms_aload_n (pc := 852) S 0 rfl rfl (m_dec eL_law_2 178 rfl) ?_
                                              refine ms_iload_n (pc := 853) S 3 rfl rfl (m_dec eL_law_2 179 rfl) ?_
                                              refine ms_iconst (pc := 854) S (m_dec eL_law_3 0 rfl) ?_
                                              refine ms_iadd (pc := 855) S (m_dec eL_law_3 1 rfl) ?_
                                              refine ms_grd fun g203 => ?_
                                              refine ms_sld (pc := 856) S hX g1 g203 (m_dec eL_law_3 2 rfl) ?_
                                              refine ms_aload_n (pc := 857) S 0 rfl rfl (m_dec eL_law_3 3 rfl) ?_
                                              refine ms_iload_n (pc := 858) S 3 rfl rfl (m_dec eL_law_3 4 rfl) ?_
                                              refine ms_iconst (pc := 859) S (m_dec eL_law_3 5 rfl) ?_
                                              refine ms_iadd (pc := 860) S (m_dec eL_law_3 6 rfl) ?_
                                              refine ms_grd fun g204 => ?_
                                              refine ms_sld (pc := 861) S hX g1 g204 (m_dec eL_law_3 7 rfl) ?_
                                              refine ms_aload_n (pc := 862) S 0 rfl rfl (m_dec eL_law_3 8 rfl) ?_
                                              refine ms_iload_n (pc := 863) S 3 rfl rfl (m_dec eL_law_3 9 rfl) ?_
                                              refine ms_iconst (pc := 864) S (m_dec eL_law_3 10 rfl) ?_
                                              refine ms_iadd (pc := 865) S (m_dec eL_law_3 11 rfl) ?_
                                              refine ms_grd fun g205 => ?_
                                              refine ms_sld (pc := 866) S hX g1 g205 (m_dec eL_law_3 12 rfl) ?_
                                              refine ms_aload_n (pc := 867) S 0 rfl rfl (m_dec eL_law_3 13 rfl) ?_
                                              refine ms_iload_n (pc := 868) S 3 rfl rfl (m_dec eL_law_3 14 rfl) ?_
                                              refine ms_iconst (pc := 869) S (m_dec eL_law_3 15 rfl) ?_
                                              refine ms_iadd (pc := 870) S (m_dec eL_law_3 16 rfl) ?_
                                              refine ms_grd fun g206 => ?_
                                              refine ms_sld (pc := 871) S hX g1 g206 (m_dec eL_law_3 17 rfl) ?_
                                              refine ms_grd fun g207 => ?_
                                              refine ms_callVi (pc := 872) S hF (vals := [m_i (xs (m_w (v3 + 1))), m_i (xs (m_w (v3 + 2))), m_i (xs (m_w (v3 + 3))), m_i (xs (m_w (v3 + 4))), m_i (xs (m_w (v3 + 5)))]) (st := []) (hc := vw_10) (hci := by decide) (hcy := rfl) (ht := g207) (hC := (k10_feed _ _ v1 (xs (m_w (v3 + 1))) (xs (m_w (v3 + 2))) (xs (m_w (v3 + 3))) (xs (m_w (v3 + 4))) (xs (m_w (v3 + 5))) h)) (hM := lm_L_101) (hfr := (Nat.le_trans (by decide) hFn)) (hstk := rfl) (hcat := Nat.le_of_ble_eq_true rfl) (hd := (m_dec eL_law_3 18 rfl)) (k1 := fun r209 h208 => ?_)
                                              refine ms_aload_n (pc := 875) S 2 rfl rfl (m_dec eL_law_3 19 rfl) ?_
                                              refine ms_aload_n (pc := 876) S 0 rfl rfl (m_dec eL_law_3 20 rfl) ?_
                                              refine ms_iload_n (pc := 877) S 3 rfl rfl (m_dec eL_law_3 21 rfl) ?_
                                              refine ms_iconst (pc := 878) S (m_dec eL_law_3 22 rfl) ?_
                                              refine ms_iadd (pc := 879) S (m_dec eL_law_3 23 rfl) ?_
                                              refine ms_sld (pc := 880) S hX g1 g202 (m_dec eL_law_3 24 rfl) ?_
                                              refine ms_aload_n (pc := 881) S 0 rfl rfl (m_dec eL_law_3 25 rfl) ?_
                                              refine ms_iload_n (pc := 882) S 3 rfl rfl (m_dec eL_law_3 26 rfl) ?_
                                              refine ms_iconst (pc := 883) S (m_dec eL_law_3 27 rfl) ?_
                                              refine ms_iadd (pc := 884) S (m_dec eL_law_3 28 rfl) ?_
                                              refine ms_sld (pc := 885) S hX g1 g203 (m_dec eL_law_3 29 rfl) ?_
                                              refine ms_aload_n (pc := 886) S 0 rfl rfl (m_dec eL_law_3 30 rfl) ?_
                                              refine ms_iload_n (pc := 887) S 3 rfl rfl (m_dec eL_law_3 31 rfl) ?_
                                              refine ms_iconst (pc := 888) S (m_dec eL_law_3 32 rfl) ?_
                                              refine ms_iadd (pc := 889) S (m_dec eL_law_3 33 rfl) ?_
                                              refine ms_sld (pc := 890) S hX g1 g204 (m_dec eL_law_3 34 rfl) ?_
                                              refine ms_aload_n (pc := 891) S 0 rfl rfl (m_dec eL_law_3 35 rfl) ?_
                                              refine ms_iload_n (pc := 892) S 3 rfl rfl (m_dec eL_law_3 36 rfl) ?_
                                              refine ms_iconst (pc := 893) S (m_dec eL_law_3 37 rfl) ?_
                                              refine ms_iadd (pc := 894) S (m_dec eL_law_3 38 rfl) ?_
                                              refine ms_sld (pc := 895) S hX g1 g205 (m_dec eL_law_3 39 rfl) ?_
                                              refine ms_aload_n (pc := 896) S 0 rfl rfl (m_dec eL_law_3 40 rfl) ?_
                                              refine ms_iload_n (pc := 897) S 3 rfl rfl (m_dec eL_law_3 41 rfl) ?_
                                              refine ms_iconst (pc := 898) S (m_dec eL_law_3 42 rfl) ?_
                                              refine ms_iadd (pc := 899) S (m_dec eL_law_3 43 rfl) ?_
                                              refine ms_sld (pc := 900) S hX g1 g206 (m_dec eL_law_3 44 rfl) ?_
                                              refine ms_grd fun g210 => ?_
                                              refine ms_callVi (pc := 901) S hF (vals := [m_i (xs (m_w (v3 + 1))), m_i (xs (m_w (v3 + 2))), m_i (xs (m_w (v3 + 3))), m_i (xs (m_w (v3 + 4))), m_i (xs (m_w (v3 + 5)))]) (st := [m_i r209]) (hc := vw_11) (hci := by decide) (hcy := rfl) (ht := g210) (hC := (k11_feed _ _ v2 (xs (m_w (v3 + 1))) (xs (m_w (v3 + 2))) (xs (m_w (v3 + 3))) (xs (m_w (v3 + 4))) (xs (m_w (v3 + 5))) h208)) (hM := lm_L_104) (hfr := (Nat.le_trans (by decide) hFn)) (hstk := rfl) (hcat := Nat.le_of_ble_eq_true rfl) (hd := (m_dec eL_law_3 45 rfl)) (k1 := fun r212 h211 => ?_)
                                              refine ms_icmp_eq (pc := 904) S (m_dec eL_law_3 46 rfl) rfl (fun q213 => ?_) (fun q213 => ?_)
                                              · refine ms_iinc (pc := 1512) S (L' := [(0, m_r v0), (1, m_r v1), (2, m_r v2), (3, m_i (v3 + 6))]) 3 rfl [1, 2, 3, 0] rfl (m_lt hN rfl) (m_dec eL_law_5 166 rfl) ?_
                                                refine ms_goto (pc := 1515) S (m_dec eL_law_5 167 rfl) rfl ?_
                                                exact ih (v3 + 6) h211
                                              · refine ms_iconst (pc := 907) S (m_dec eL_law_3 47 rfl) ?_
                                                exact ms_ret (pc := 908) E (m_dec eL_law_3 48 rfl) rfl
                                            · refine ms_ite (fun q214 => ?_) (fun q214 => ?_)
                                              · refine ms_swIn (pc := 33) S (m_dec eL_law_0 21 rfl) 21 q214 (by decide) (by decide) rfl rfl ?_
                                                refine ms_aload_n (pc := 909) S 1 rfl rfl (m_dec eL_law_3 49 rfl) ?_
                                                refine ms_aload_n (pc := 910) S 0 rfl rfl (m_dec eL_law_3 50 rfl) ?_
                                                refine ms_iload_n (pc := 911) S 3 rfl rfl (m_dec eL_law_3 51 rfl) ?_
                                                refine ms_iconst (pc := 912) S (m_dec eL_law_3 52 rfl) ?_
                                                refine ms_iadd (pc := 913) S (m_dec eL_law_3 53 rfl) ?_
                                                refine ms_grd fun g215 => ?_
                                                refine ms_sld (pc := 914) S hX g1 g215 (m_dec eL_law_3 54 rfl) ?_
                                                refine ms_grd fun g216 => ?_
                                                refine ms_callVz (pc := 915) S hF (vals := [m_i (xs (m_w (v3 + 1)))]) (st := []) (hc := vw_10) (hci := by decide) (hcy := rfl) (ht := g216) (hC := (k10_end _ _ v1 (xs (m_w (v3 + 1))) h)) (hM := lm_L_105) (hfr := (Nat.le_trans (by decide) hFn)) (hstk := rfl) (hcat := Nat.le_of_ble_eq_true rfl) (hd := (m_dec eL_law_3 55 rfl)) (k1 := fun r218 h217 => ?_)
                                                refine ms_aload_n (pc := 918) S 2 rfl rfl (m_dec eL_law_3 56 rfl) ?_
                                                refine ms_aload_n (pc := 919) S 0 rfl rfl (m_dec eL_law_3 57 rfl) ?_
                                                refine ms_iload_n (pc := 920) S 3 rfl rfl (m_dec eL_law_3 58 rfl) ?_
                                                refine ms_iconst (pc := 921) S (m_dec eL_law_3 59 rfl) ?_
                                                refine ms_iadd (pc := 922) S (m_dec eL_law_3 60 rfl) ?_
                                                refine ms_sld (pc := 923) S hX g1 g215 (m_dec eL_law_3 61 rfl) ?_
                                                refine ms_grd fun g219 => ?_
                                                refine ms_callVz (pc := 924) S hF (vals := [m_i (xs (m_w (v3 + 1)))]) (st := [m_i (m_b2i r218)]) (hc := vw_11) (hci := by decide) (hcy := rfl) (ht := g219) (hC := (k11_end _ _ v2 (xs (m_w (v3 + 1))) h217)) (hM := lm_L_108) (hfr := (Nat.le_trans (by decide) hFn)) (hstk := rfl) (hcat := Nat.le_of_ble_eq_true rfl) (hd := (m_dec eL_law_3 62 rfl)) (k1 := fun r221 h220 => ?_)
                                                refine ms_icmp_eq (pc := 927) S (m_dec eL_law_3 63 rfl) rfl (fun q222 => ?_) (fun q222 => ?_)
                                                · refine ms_iinc (pc := 1512) S (L' := [(0, m_r v0), (1, m_r v1), (2, m_r v2), (3, m_i (v3 + 6))]) 3 rfl [1, 2, 3, 0] rfl (m_lt hN rfl) (m_dec eL_law_5 166 rfl) ?_
                                                  refine ms_goto (pc := 1515) S (m_dec eL_law_5 167 rfl) rfl ?_
                                                  exact ih (v3 + 6) h220
                                                · refine ms_iconst (pc := 930) S (m_dec eL_law_3 64 rfl) ?_
                                                  exact ms_ret (pc := 931) E (m_dec eL_law_3 65 rfl) rfl
                                              · refine ms_ite (fun q223 => ?_) (fun q223 => ?_)
                                                · refine ms_swIn (pc := 33) S (m_dec eL_law_0 21 rfl) 22 q223 (by decide) (by decide) rfl rfl ?_
                                                  refine ms_aload_n (pc := 932) S 1 rfl rfl (m_dec eL_law_3 66 rfl) ?_
                                                  refine ms_grd fun g224 => ?_
                                                  refine ms_callVi (pc := 933) S hF (vals := []) (st := []) (hc := vw_10) (hci := by decide) (hcy := rfl) (ht := g224) (hC := (k10_fault _ _ v1 h)) (hM := lm_L_109) (hfr := (Nat.le_trans (by decide) hFn)) (hstk := rfl) (hcat := Nat.le_of_ble_eq_true rfl) (hd := (m_dec eL_law_3 67 rfl)) (k1 := fun r226 h225 => ?_)
                                                  refine ms_aload_n (pc := 936) S 2 rfl rfl (m_dec eL_law_3 68 rfl) ?_
                                                  refine ms_grd fun g227 => ?_
                                                  refine ms_callVi (pc := 937) S hF (vals := []) (st := [m_i r226]) (hc := vw_11) (hci := by decide) (hcy := rfl) (ht := g227) (hC := (k11_fault _ _ v2 h225)) (hM := lm_L_112) (hfr := (Nat.le_trans (by decide) hFn)) (hstk := rfl) (hcat := Nat.le_of_ble_eq_true rfl) (hd := (m_dec eL_law_3 69 rfl)) (k1 := fun r229 h228 => ?_)
                                                  refine ms_icmp_eq (pc := 940) S (m_dec eL_law_3 70 rfl) rfl (fun q230 => ?_) (fun q230 => ?_)
                                                  · refine ms_iinc (pc := 1512) S (L' := [(0, m_r v0), (1, m_r v1), (2, m_r v2), (3, m_i (v3 + 6))]) 3 rfl [1, 2, 3, 0] rfl (m_lt hN rfl) (m_dec eL_law_5 166 rfl) ?_
                                                    refine ms_goto (pc := 1515) S (m_dec eL_law_5 167 rfl) rfl ?_
                                                    exact ih (v3 + 6) h228
                                                  · refine ms_iconst (pc := 943) S (m_dec eL_law_3 71 rfl) ?_
                                                    exact ms_ret (pc := 944) E (m_dec eL_law_3 72 rfl) rfl
                                                · refine ms_ite (fun q231 => ?_) (fun q231 => ?_)
                                                  · refine ms_swIn (pc := 33) S (m_dec eL_law_0 21 rfl) 23 q231 (by decide) (by decide) rfl rfl ?_
                                                    refine ms_aload_n (pc := 945) S 1 rfl rfl (m_dec eL_law_3 73 rfl) ?_
                                                    refine ms_grd fun g232 => ?_
                                                    refine ms_callVi (pc := 946) S hF (vals := []) (st := []) (hc := vw_10) (hci := by decide) (hcy := rfl) (ht := g232) (hC := (k10_score _ _ v1 h)) (hM := lm_L_113) (hfr := (Nat.le_trans (by decide) hFn)) (hstk := rfl) (hcat := Nat.le_of_ble_eq_true rfl) (hd := (m_dec eL_law_3 74 rfl)) (k1 := fun r234 h233 => ?_)
                                                    refine ms_aload_n (pc := 949) S 2 rfl rfl (m_dec eL_law_3 75 rfl) ?_
                                                    refine ms_grd fun g235 => ?_
                                                    refine ms_callVi (pc := 950) S hF (vals := []) (st := [m_i r234]) (hc := vw_11) (hci := by decide) (hcy := rfl) (ht := g235) (hC := (k11_score _ _ v2 h233)) (hM := lm_L_116) (hfr := (Nat.le_trans (by decide) hFn)) (hstk := rfl) (hcat := Nat.le_of_ble_eq_true rfl) (hd := (m_dec eL_law_3 76 rfl)) (k1 := fun r237 h236 => ?_)
                                                    refine ms_icmp_eq (pc := 953) S (m_dec eL_law_3 77 rfl) rfl (fun q238 => ?_) (fun q238 => ?_)
                                                    · refine ms_iinc (pc := 1512) S (L' := [(0, m_r v0), (1, m_r v1), (2, m_r v2), (3, m_i (v3 + 6))]) 3 rfl [1, 2, 3, 0] rfl (m_lt hN rfl) (m_dec eL_law_5 166 rfl) ?_
                                                      refine ms_goto (pc := 1515) S (m_dec eL_law_5 167 rfl) rfl ?_
                                                      exact ih (v3 + 6) h236
                                                    · refine ms_iconst (pc := 956) S (m_dec eL_law_3 78 rfl) ?_
                                                      exact ms_ret (pc := 957) E (m_dec eL_law_3 79 rfl) rfl
                                                  · refine ms_ite (fun q239 => ?_) (fun q239 => ?_)
                                                    · refine ms_swIn (pc := 33) S (m_dec eL_law_0 21 rfl) 24 q239 (by decide) (by decide) rfl rfl ?_
                                                      refine ms_aload_n (pc := 958) S 1 rfl rfl (m_dec eL_law_3 80 rfl) ?_
                                                      refine ms_aload_n (pc := 959) S 0 rfl rfl (m_dec eL_law_3 81 rfl) ?_
                                                      refine ms_iload_n (pc := 960) S 3 rfl rfl (m_dec eL_law_3 82 rfl) ?_
                                                      refine ms_iconst (pc := 961) S (m_dec eL_law_3 83 rfl) ?_
                                                      refine ms_iadd (pc := 962) S (m_dec eL_law_3 84 rfl) ?_
                                                      refine ms_grd fun g240 => ?_
                                                      refine ms_sld (pc := 963) S hX g1 g240 (m_dec eL_law_3 85 rfl) ?_
                                                      refine ms_aload_n (pc := 964) S 0 rfl rfl (m_dec eL_law_3 86 rfl) ?_
                                                      refine ms_iload_n (pc := 965) S 3 rfl rfl (m_dec eL_law_3 87 rfl) ?_
                                                      refine ms_iconst (pc := 966) S (m_dec eL_law_3 88 rfl) ?_
                                                      refine ms_iadd (pc := 967) S (m_dec eL_law_3 89 rfl) ?_
                                                      refine ms_grd fun g241 => ?_
                                                      refine ms_sld (pc := 968) S hX g1 g241 (m_dec eL_law_3 90 rfl) ?_
                                                      refine ms_grd fun g242 => ?_
                                                      refine ms_callVi (pc := 969) S hF (vals := [m_i (xs (m_w (v3 + 1))), m_i (xs (m_w (v3 + 2)))]) (st := []) (hc := vw_10) (hci := by decide) (hcy := rfl) (ht := g242) (hC := (k10_make _ _ v1 (xs (m_w (v3 + 1))) (xs (m_w (v3 + 2))) h)) (hM := lm_L_117) (hfr := (Nat.le_trans (by decide) hFn)) (hstk := rfl) (hcat := Nat.le_of_ble_eq_true rfl) (hd := (m_dec eL_law_3 91 rfl)) (k1 := fun r244 h243 => ?_)
                                                      refine ms_aload_n (pc := 972) S 2 rfl rfl (m_dec eL_law_3 92 rfl) ?_
                                                      refine ms_aload_n (pc := 973) S 0 rfl rfl (m_dec eL_law_3 93 rfl) ?_
                                                      refine ms_iload_n (pc := 974) S 3 rfl rfl (m_dec eL_law_3 94 rfl) ?_
                                                      refine ms_iconst (pc := 975) S (m_dec eL_law_3 95 rfl) ?_
                                                      refine ms_iadd (pc := 976) S (m_dec eL_law_3 96 rfl) ?_
                                                      refine ms_sld (pc := 977) S hX g1 g240 (m_dec eL_law_3 97 rfl) ?_
                                                      refine ms_aload_n (pc := 978) S 0 rfl rfl (m_dec eL_law_3 98 rfl) ?_
                                                      refine ms_iload_n (pc := 979) S 3 rfl rfl (m_dec eL_law_3 99 rfl) ?_
                                                      refine ms_iconst (pc := 980) S (m_dec eL_law_3 100 rfl) ?_
                                                      refine ms_iadd (pc := 981) S (m_dec eL_law_3 101 rfl) ?_
                                                      refine ms_sld (pc := 982) S hX g1 g241 (m_dec eL_law_3 102 rfl) ?_
                                                      refine ms_grd fun g245 => ?_
                                                      refine ms_callVi (pc := 983) S hF (vals := [m_i (xs (m_w (v3 + 1))), m_i (xs (m_w (v3 + 2)))]) (st := [m_i r244]) (hc := vw_11) (hci := by decide) (hcy := rfl) (ht := g245) (hC := (k11_make _ _ v2 (xs (m_w (v3 + 1))) (xs (m_w (v3 + 2))) h243)) (hM := lm_L_120) (hfr := (Nat.le_trans (by decide) hFn)) (hstk := rfl) (hcat := Nat.le_of_ble_eq_true rfl) (hd := (m_dec eL_law_3 103 rfl)) (k1 := fun r247 h246 => ?_)
                                                      refine ms_icmp_eq (pc := 986) S (m_dec eL_law_3 104 rfl) rfl (fun q248 => ?_) (fun q248 => ?_)
                                                      · refine ms_iinc (pc := 1512) S (L' := [(0, m_r v0), (1, m_r v1), (2, m_r v2), (3, m_i (v3 + 6))]) 3 rfl [1, 2, 3, 0] rfl (m_lt hN rfl) (m_dec eL_law_5 166 rfl) ?_
                                                        refine ms_goto (pc := 1515) S (m_dec eL_law_5 167 rfl) rfl ?_
                                                        exact ih (v3 + 6) h246
                                                      · refine ms_iconst (pc := 989) S (m_dec eL_law_3 105 rfl) ?_
                                                        exact ms_ret (pc := 990) E (m_dec eL_law_3 106 rfl) rfl
                                                    · refine ms_ite (fun q249 => ?_) (fun q249 => ?_)
                                                      · refine ms_swIn (pc := 33) S (m_dec eL_law_0 21 rfl) 25 q249 (by decide) (by decide) rfl rfl ?_
                                                        refine ms_aload_n (pc := 991) S 1 rfl rfl (m_dec eL_law_3 107 rfl) ?_
                                                        refine ms_aload_n (pc := 992) S 0 rfl rfl (m_dec eL_law_3 108 rfl) ?_
                                                        refine ms_iload_n (pc := 993) S 3 rfl rfl (m_dec eL_law_3 109 rfl) ?_
                                                        refine ms_iconst (pc := 994) S (m_dec eL_law_3 110 rfl) ?_
                                                        refine ms_iadd (pc := 995) S (m_dec eL_law_3 111 rfl) ?_
                                                        refine ms_grd fun g250 => ?_
                                                        refine ms_sld (pc := 996) S hX g1 g250 (m_dec eL_law_3 112 rfl) ?_
                                                        refine ms_aload_n (pc := 997) S 0 rfl rfl (m_dec eL_law_3 113 rfl) ?_
                                                        refine ms_iload_n (pc := 998) S 3 rfl rfl (m_dec eL_law_3 114 rfl) ?_
                                                        refine ms_iconst (pc := 999) S (m_dec eL_law_3 115 rfl) ?_
                                                        refine ms_iadd (pc := 1000) S (m_dec eL_law_3 116 rfl) ?_
                                                        refine ms_grd fun g251 => ?_
                                                        refine ms_sld (pc := 1001) S hX g1 g251 (m_dec eL_law_3 117 rfl) ?_
                                                        refine ms_grd fun g252 => ?_
                                                        refine ms_callVi (pc := 1002) S hF (vals := [m_i (xs (m_w (v3 + 1))), m_i (xs (m_w (v3 + 2)))]) (st := []) (hc := vw_10) (hci := by decide) (hcy := rfl) (ht := g252) (hC := (k10_fails _ _ v1 (xs (m_w (v3 + 1))) (xs (m_w (v3 + 2))) h)) (hM := lm_L_121) (hfr := (Nat.le_trans (by decide) hFn)) (hstk := rfl) (hcat := Nat.le_of_ble_eq_true rfl) (hd := (m_dec eL_law_3 118 rfl)) (k1 := fun r254 h253 => ?_)
                                                        refine ms_aload_n (pc := 1005) S 2 rfl rfl (m_dec eL_law_3 119 rfl) ?_
                                                        refine ms_aload_n (pc := 1006) S 0 rfl rfl (m_dec eL_law_3 120 rfl) ?_
                                                        refine ms_iload_n (pc := 1007) S 3 rfl rfl (m_dec eL_law_3 121 rfl) ?_
                                                        refine ms_iconst (pc := 1008) S (m_dec eL_law_3 122 rfl) ?_
                                                        refine ms_iadd (pc := 1009) S (m_dec eL_law_3 123 rfl) ?_
                                                        refine ms_sld (pc := 1010) S hX g1 g250 (m_dec eL_law_3 124 rfl) ?_
                                                        refine ms_aload_n (pc := 1011) S 0 rfl rfl (m_dec eL_law_3 125 rfl) ?_
                                                        refine ms_iload_n (pc := 1012) S 3 rfl rfl (m_dec eL_law_3 126 rfl) ?_
                                                        refine ms_iconst (pc := 1013) S (m_dec eL_law_3 127 rfl) ?_
                                                        refine ms_iadd (pc := 1014) S (m_dec eL_law_3 128 rfl) ?_
                                                        refine ms_sld (pc := 1015) S hX g1 g251 (m_dec eL_law_3 129 rfl) ?_
                                                        refine ms_grd fun g255 => ?_
                                                        refine ms_callVi (pc := 1016) S hF (vals := [m_i (xs (m_w (v3 + 1))), m_i (xs (m_w (v3 + 2)))]) (st := [m_i r254]) (hc := vw_11) (hci := by decide) (hcy := rfl) (ht := g255) (hC := (k11_fails_ _ _ v2 (xs (m_w (v3 + 1))) (xs (m_w (v3 + 2))) h253)) (hM := lm_L_124) (hfr := (Nat.le_trans (by decide) hFn)) (hstk := rfl) (hcat := Nat.le_of_ble_eq_true rfl) (hd := (m_dec eL_law_3 130 rfl)) (k1 := fun r257 h256 => ?_)
                                                        refine ms_icmp_eq (pc := 1019) S (m_dec eL_law_3 131 rfl) rfl (fun q258 => ?_) (fun q258 => ?_)
                                                        · refine ms_iinc (pc := 1512) S (L' := [(0, m_r v0), (1, m_r v1), (2, m_r v2), (3, m_i (v3 + 6))]) 3 rfl [1, 2, 3, 0] rfl (m_lt hN rfl) (m_dec eL_law_5 166 rfl) ?_
                                                          refine ms_goto (pc := 1515) S (m_dec eL_law_5 167 rfl) rfl ?_
                                                          exact ih (v3 + 6) h256
                                                        · refine ms_iconst (pc := 1022) S (m_dec eL_law_3 132 rfl) ?_
                                                          exact ms_ret (pc := 1023) E (m_dec eL_law_3 133 rfl) rfl
                                                      · refine ms_ite (fun q259 => ?_) (fun q259 => ?_)
                                                        · refine ms_swIn (pc := 33) S (m_dec eL_law_0 21 rfl) 26 q259 (by decide) (by decide) rfl rfl ?_
                                                          refine ms_aload_n (pc := 1024) S 1 rfl rfl (m_dec eL_law_3 134 rfl) ?_
                                                          refine ms_aload_n (pc := 1025) S 0 rfl rfl (m_dec eL_law_3 135 rfl) ?_
                                                          refine ms_iload_n (pc := 1026) S 3 rfl rfl (m_dec eL_law_3 136 rfl) ?_
                                                          refine ms_iconst (pc := 1027) S (m_dec eL_law_3 137 rfl) ?_
                                                          refine ms_iadd (pc := 1028) S (m_dec eL_law_3 138 rfl) ?_
                                                          refine ms_grd fun g260 => ?_
                                                          refine ms_sld (pc := 1029) S hX g1 g260 (m_dec eL_law_3 139 rfl) ?_
                                                          refine ms_grd fun g261 => ?_
                                                          refine ms_callVi (pc := 1030) S hF (vals := [m_i (xs (m_w (v3 + 1)))]) (st := []) (hc := vw_10) (hci := by decide) (hcy := rfl) (ht := g261) (hC := (k10_out _ _ v1 (xs (m_w (v3 + 1))) h)) (hM := lm_L_125) (hfr := (Nat.le_trans (by decide) hFn)) (hstk := rfl) (hcat := Nat.le_of_ble_eq_true rfl) (hd := (m_dec eL_law_3 140 rfl)) (k1 := fun r263 h262 => ?_)
                                                          refine ms_aload_n (pc := 1033) S 2 rfl rfl (m_dec eL_law_3 141 rfl) ?_
                                                          refine ms_aload_n (pc := 1034) S 0 rfl rfl (m_dec eL_law_3 142 rfl) ?_
                                                          refine ms_iload_n (pc := 1035) S 3 rfl rfl (m_dec eL_law_3 143 rfl) ?_
                                                          refine ms_iconst (pc := 1036) S (m_dec eL_law_3 144 rfl) ?_
                                                          refine ms_iadd (pc := 1037) S (m_dec eL_law_3 145 rfl) ?_
                                                          refine ms_sld (pc := 1038) S hX g1 g260 (m_dec eL_law_3 146 rfl) ?_
                                                          refine ms_grd fun g264 => ?_
                                                          refine ms_callVi (pc := 1039) S hF (vals := [m_i (xs (m_w (v3 + 1)))]) (st := [m_i r263]) (hc := vw_11) (hci := by decide) (hcy := rfl) (ht := g264) (hC := (k11_out _ _ v2 (xs (m_w (v3 + 1))) h262)) (hM := lm_L_128) (hfr := (Nat.le_trans (by decide) hFn)) (hstk := rfl) (hcat := Nat.le_of_ble_eq_true rfl) (hd := (m_dec eL_law_3 147 rfl)) (k1 := fun r266 h265 => ?_)
                                                          refine ms_icmp_eq (pc := 1042) S (m_dec eL_law_3 148 rfl) rfl (fun q267 => ?_) (fun q267 => ?_)
                                                          · refine ms_iinc (pc := 1512) S (L' := [(0, m_r v0), (1, m_r v1), (2, m_r v2), (3, m_i (v3 + 6))]) 3 rfl [1, 2, 3, 0] rfl (m_lt hN rfl) (m_dec eL_law_5 166 rfl) ?_
                                                            refine ms_goto (pc := 1515) S (m_dec eL_law_5 167 rfl) rfl ?_
                                                            exact ih (v3 + 6) h265
                                                          · refine ms_iconst (pc := 1045) S (m_dec eL_law_3 149 rfl) ?_
                                                            exact ms_ret (pc := 1046) E (m_dec eL_law_3 150 rfl) rfl
                                                        · refine ms_ite (fun q268 => ?_) (fun q268 => ?_)
                                                          · refine ms_swIn (pc := 33) S (m_dec eL_law_0 21 rfl) 27 q268 (by decide) (by decide) rfl rfl ?_
                                                            refine ms_aload_n (pc := 1047) S 1 rfl rfl (m_dec eL_law_3 151 rfl) ?_
                                                            refine ms_aload_n (pc := 1048) S 0 rfl rfl (m_dec eL_law_3 152 rfl) ?_
                                                            refine ms_iload_n (pc := 1049) S 3 rfl rfl (m_dec eL_law_3 153 rfl) ?_
                                                            refine ms_iconst (pc := 1050) S (m_dec eL_law_3 154 rfl) ?_
                                                            refine ms_iadd (pc := 1051) S (m_dec eL_law_3 155 rfl) ?_
                                                            refine ms_grd fun g269 => ?_
                                                            refine ms_sld (pc := 1052) S hX g1 g269 (m_dec eL_law_3 156 rfl) ?_
                                                            refine ms_aload_n (pc := 1053) S 0 rfl rfl (m_dec eL_law_3 157 rfl) ?_
                                                            refine ms_iload_n (pc := 1054) S 3 rfl rfl (m_dec eL_law_3 158 rfl) ?_
                                                            refine ms_iconst (pc := 1055) S (m_dec eL_law_3 159 rfl) ?_
                                                            refine ms_iadd (pc := 1056) S (m_dec eL_law_3 160 rfl) ?_
                                                            refine ms_grd fun g270 => ?_
                                                            refine ms_sld (pc := 1057) S hX g1 g270 (m_dec eL_law_3 161 rfl) ?_
                                                            refine ms_grd fun g271 => ?_
                                                            refine ms_callVi (pc := 1058) S hF (vals := [m_i (xs (m_w (v3 + 1))), m_i (xs (m_w (v3 + 2)))]) (st := []) (hc := vw_10) (hci := by decide) (hcy := rfl) (ht := g271) (hC := (k10_why _ _ v1 (xs (m_w (v3 + 1))) (xs (m_w (v3 + 2))) h)) (hM := lm_L_129) (hfr := (Nat.le_trans (by decide) hFn)) (hstk := rfl) (hcat := Nat.le_of_ble_eq_true rfl) (hd := (m_dec eL_law_3 162 rfl)) (k1 := fun r273 h272 => ?_)
                                                            refine ms_aload_n (pc := 1061) S 2 rfl rfl (m_dec eL_law_3 163 rfl) ?_
                                                            refine ms_aload_n (pc := 1062) S 0 rfl rfl (m_dec eL_law_3 164 rfl) ?_
                                                            refine ms_iload_n (pc := 1063) S 3 rfl rfl (m_dec eL_law_3 165 rfl) ?_
                                                            refine ms_iconst (pc := 1064) S (m_dec eL_law_3 166 rfl) ?_
                                                            refine ms_iadd (pc := 1065) S (m_dec eL_law_3 167 rfl) ?_
                                                            refine ms_sld (pc := 1066) S hX g1 g269 (m_dec eL_law_3 168 rfl) ?_
                                                            refine ms_aload_n (pc := 1067) S 0 rfl rfl (m_dec eL_law_3 169 rfl) ?_
                                                            refine ms_iload_n (pc := 1068) S 3 rfl rfl (m_dec eL_law_3 170 rfl) ?_
                                                            refine ms_iconst (pc := 1069) S (m_dec eL_law_3 171 rfl) ?_
                                                            refine ms_iadd (pc := 1070) S (m_dec eL_law_3 172 rfl) ?_
                                                            refine ms_sld (pc := 1071) S hX g1 g270 (m_dec eL_law_3 173 rfl) ?_
                                                            refine ms_grd fun g274 => ?_
                                                            refine ms_callVi (pc := 1072) S hF (vals := [m_i (xs (m_w (v3 + 1))), m_i (xs (m_w (v3 + 2)))]) (st := [m_i r273]) (hc := vw_11) (hci := by decide) (hcy := rfl) (ht := g274) (hC := (k11_why _ _ v2 (xs (m_w (v3 + 1))) (xs (m_w (v3 + 2))) h272)) (hM := lm_L_132) (hfr := (Nat.le_trans (by decide) hFn)) (hstk := rfl) (hcat := Nat.le_of_ble_eq_true rfl) (hd := (m_dec eL_law_3 174 rfl)) (k1 := fun r276 h275 => ?_)
                                                            refine ms_icmp_eq (pc := 1075) S (m_dec eL_law_3 175 rfl) rfl (fun q277 => ?_) (fun q277 => ?_)
                                                            · refine ms_iinc (pc := 1512) S (L' := [(0, m_r v0), (1, m_r v1), (2, m_r v2), (3, m_i (v3 + 6))]) 3 rfl [1, 2, 3, 0] rfl (m_lt hN rfl) (m_dec eL_law_5 166 rfl) ?_
                                                              refine ms_goto (pc := 1515) S (m_dec eL_law_5 167 rfl) rfl ?_
                                                              exact ih (v3 + 6) h275
                                                            · refine ms_iconst (pc := 1078) S (m_dec eL_law_3 176 rfl) ?_
                                                              exact ms_ret (pc := 1079) E (m_dec eL_law_3 177 rfl) rfl
                                                          · refine ms_ite (fun q278 => ?_) (fun q278 => ?_)
                                                            · refine ms_swIn (pc := 33) S (m_dec eL_law_0 21 rfl) 28 q278 (by decide) (by decide) rfl rfl ?_
                                                              refine ms_aload_n (pc := 1080) S 1 rfl rfl (m_dec eL_law_3 178 rfl) ?_
                                                              refine ms_aload_n (pc := 1081) S 0 rfl rfl (m_dec eL_law_3 179 rfl) ?_
                                                              refine ms_iload_n (pc := 1082) S 3 rfl rfl (m_dec eL_law_4 0 rfl) ?_
                                                              refine ms_iconst (pc := 1083) S (m_dec eL_law_4 1 rfl) ?_
                                                              refine ms_iadd (pc := 1084) S (m_dec eL_law_4 2 rfl) ?_
                                                              refine ms_grd fun g279 => ?_
                                                              refine ms_sld (pc := 1085) S hX g1 g279 (m_dec eL_law_4 3 rfl) ?_
                                                              refine ms_aload_n (pc := 1086) S 0 rfl rfl (m_dec eL_law_4 4 rfl) ?_
                                                              refine ms_iload_n (pc := 1087) S 3 rfl rfl (m_dec eL_law_4 5 rfl) ?_
                                                              refine ms_iconst (pc := 1088) S (m_dec eL_law_4 6 rfl) ?_
                                                              refine ms_iadd (pc := 1089) S (m_dec eL_law_4 7 rfl) ?_
                                                              refine ms_grd fun g280 => ?_
                                                              refine ms_sld (pc := 1090) S hX g1 g280 (m_dec eL_law_4 8 rfl) ?_
                                                              refine ms_aload_n (pc := 1091) S 0 rfl rfl (m_dec eL_law_4 9 rfl) ?_
                                                              refine ms_iload_n (pc := 1092) S 3 rfl rfl (m_dec eL_law_4 10 rfl) ?_
                                                              refine ms_iconst (pc := 1093) S (m_dec eL_law_4 11 rfl) ?_
                                                              refine ms_iadd (pc := 1094) S (m_dec eL_law_4 12 rfl) ?_
                                                              refine ms_grd fun g281 => ?_
                                                              refine ms_sld (pc := 1095) S hX g1 g281 (m_dec eL_law_4 13 rfl) ?_
                                                              refine ms_grd fun g282 => ?_
                                                              refine ms_callVi (pc := 1096) S hF (vals := [m_i (xs (m_w (v3 + 1))), m_i (xs (m_w (v3 + 2))), m_i (xs (m_w (v3 + 3)))]) (st := []) (hc := vw_10) (hci := by decide) (hcy := rfl) (ht := g282) (hC := (k10_lead _ _ v1 (xs (m_w (v3 + 1))) (xs (m_w (v3 + 2))) (xs (m_w (v3 + 3))) h)) (hM := lm_L_133) (hfr := (Nat.le_trans (by decide) hFn)) (hstk := rfl) (hcat := Nat.le_of_ble_eq_true rfl) (hd := (m_dec eL_law_4 14 rfl)) (k1 := fun r284 h283 => ?_)
                                                              refine ms_aload_n (pc := 1099) S 2 rfl rfl (m_dec eL_law_4 15 rfl) ?_
                                                              refine ms_aload_n (pc := 1100) S 0 rfl rfl (m_dec eL_law_4 16 rfl) ?_
                                                              refine ms_iload_n (pc := 1101) S 3 rfl rfl (m_dec eL_law_4 17 rfl) ?_
                                                              refine ms_iconst (pc := 1102) S (m_dec eL_law_4 18 rfl) ?_
                                                              refine ms_iadd (pc := 1103) S (m_dec eL_law_4 19 rfl) ?_
                                                              refine ms_sld (pc := 1104) S hX g1 g279 (m_dec eL_law_4 20 rfl) ?_
                                                              refine ms_aload_n (pc := 1105) S 0 rfl rfl (m_dec eL_law_4 21 rfl) ?_
                                                              refine ms_iload_n (pc := 1106) S 3 rfl rfl (m_dec eL_law_4 22 rfl) ?_
                                                              refine ms_iconst (pc := 1107) S (m_dec eL_law_4 23 rfl) ?_
                                                              refine ms_iadd (pc := 1108) S (m_dec eL_law_4 24 rfl) ?_
                                                              refine ms_sld (pc := 1109) S hX g1 g280 (m_dec eL_law_4 25 rfl) ?_
                                                              refine ms_aload_n (pc := 1110) S 0 rfl rfl (m_dec eL_law_4 26 rfl) ?_
                                                              refine ms_iload_n (pc := 1111) S 3 rfl rfl (m_dec eL_law_4 27 rfl) ?_
                                                              refine ms_iconst (pc := 1112) S (m_dec eL_law_4 28 rfl) ?_
                                                              refine ms_iadd (pc := 1113) S (m_dec eL_law_4 29 rfl) ?_
                                                              refine ms_sld (pc := 1114) S hX g1 g281 (m_dec eL_law_4 30 rfl) ?_
                                                              refine ms_grd fun g285 => ?_
                                                              refine ms_callVi (pc := 1115) S hF (vals := [m_i (xs (m_w (v3 + 1))), m_i (xs (m_w (v3 + 2))), m_i (xs (m_w (v3 + 3)))]) (st := [m_i r284]) (hc := vw_11) (hci := by decide) (hcy := rfl) (ht := g285) (hC := (k11_lead _ _ v2 (xs (m_w (v3 + 1))) (xs (m_w (v3 + 2))) (xs (m_w (v3 + 3))) h283)) (hM := lm_L_136) (hfr := (Nat.le_trans (by decide) hFn)) (hstk := rfl) (hcat := Nat.le_of_ble_eq_true rfl) (hd := (m_dec eL_law_4 31 rfl)) (k1 := fun r287 h286 => ?_)
                                                              refine ms_icmp_eq (pc := 1118) S (m_dec eL_law_4 32 rfl) rfl (fun q288 => ?_) (fun q288 => ?_)
                                                              · refine ms_iinc (pc := 1512) S (L' := [(0, m_r v0), (1, m_r v1), (2, m_r v2), (3, m_i (v3 + 6))]) 3 rfl [1, 2, 3, 0] rfl (m_lt hN rfl) (m_dec eL_law_5 166 rfl) ?_
                                                                refine ms_goto (pc := 1515) S (m_dec eL_law_5 167 rfl) rfl ?_
                                                                exact ih (v3 + 6) h286
                                                              · refine ms_iconst (pc := 1121) S (m_dec eL_law_4 33 rfl) ?_
                                                                exact ms_ret (pc := 1122) E (m_dec eL_law_4 34 rfl) rfl
                                                            · refine ms_ite (fun q289 => ?_) (fun q289 => ?_)
                                                              · refine ms_swIn (pc := 33) S (m_dec eL_law_0 21 rfl) 29 q289 (by decide) (by decide) rfl rfl ?_
                                                                refine ms_aload_n (pc := 1123) S 1 rfl rfl (m_dec eL_law_4 35 rfl) ?_
                                                                refine ms_aload_n (pc := 1124) S 0 rfl rfl (m_dec eL_law_4 36 rfl) ?_
                                                                refine ms_iload_n (pc := 1125) S 3 rfl rfl (m_dec eL_law_4 37 rfl) ?_
                                                                refine ms_iconst (pc := 1126) S (m_dec eL_law_4 38 rfl) ?_
                                                                refine ms_iadd (pc := 1127) S (m_dec eL_law_4 39 rfl) ?_
                                                                refine ms_grd fun g290 => ?_
                                                                refine ms_sld (pc := 1128) S hX g1 g290 (m_dec eL_law_4 40 rfl) ?_
                                                                refine ms_grd fun g291 => ?_
                                                                refine ms_callVi (pc := 1129) S hF (vals := [m_i (xs (m_w (v3 + 1)))]) (st := []) (hc := vw_10) (hci := by decide) (hcy := rfl) (ht := g291) (hC := (k10_quarrel _ _ v1 (xs (m_w (v3 + 1))) h)) (hM := lm_L_137) (hfr := (Nat.le_trans (by decide) hFn)) (hstk := rfl) (hcat := Nat.le_of_ble_eq_true rfl) (hd := (m_dec eL_law_4 41 rfl)) (k1 := fun r293 h292 => ?_)
                                                                refine ms_aload_n (pc := 1132) S 2 rfl rfl (m_dec eL_law_4 42 rfl) ?_
                                                                refine ms_aload_n (pc := 1133) S 0 rfl rfl (m_dec eL_law_4 43 rfl) ?_
                                                                refine ms_iload_n (pc := 1134) S 3 rfl rfl (m_dec eL_law_4 44 rfl) ?_
                                                                refine ms_iconst (pc := 1135) S (m_dec eL_law_4 45 rfl) ?_
                                                                refine ms_iadd (pc := 1136) S (m_dec eL_law_4 46 rfl) ?_
                                                                refine ms_sld (pc := 1137) S hX g1 g290 (m_dec eL_law_4 47 rfl) ?_
                                                                refine ms_grd fun g294 => ?_
                                                                refine ms_callVi (pc := 1138) S hF (vals := [m_i (xs (m_w (v3 + 1)))]) (st := [m_i r293]) (hc := vw_11) (hci := by decide) (hcy := rfl) (ht := g294) (hC := (k11_quarrel _ _ v2 (xs (m_w (v3 + 1))) h292)) (hM := lm_L_140) (hfr := (Nat.le_trans (by decide) hFn)) (hstk := rfl) (hcat := Nat.le_of_ble_eq_true rfl) (hd := (m_dec eL_law_4 48 rfl)) (k1 := fun r296 h295 => ?_)
                                                                refine ms_icmp_eq (pc := 1141) S (m_dec eL_law_4 49 rfl) rfl (fun q297 => ?_) (fun q297 => ?_)
                                                                · refine ms_iinc (pc := 1512) S (L' := [(0, m_r v0), (1, m_r v1), (2, m_r v2), (3, m_i (v3 + 6))]) 3 rfl [1, 2, 3, 0] rfl (m_lt hN rfl) (m_dec eL_law_5 166 rfl) ?_
                                                                  refine ms_goto (pc := 1515) S (m_dec eL_law_5 167 rfl) rfl ?_
                                                                  exact ih (v3 + 6) h295
                                                                · refine ms_iconst (pc := 1144) S (m_dec eL_law_4 50 rfl) ?_
                                                                  exact ms_ret (pc := 1145) E (m_dec eL_law_4 51 rfl) rfl
                                                              · refine ms_ite (fun q298 => ?_) (fun q298 => ?_)
                                                                · refine ms_swIn (pc := 33) S (m_dec eL_law_0 21 rfl) 30 q298 (by decide) (by decide) rfl rfl ?_
                                                                  refine ms_aload_n (pc := 1146) S 1 rfl rfl (m_dec eL_law_4 52 rfl) ?_
                                                                  refine ms_aload_n (pc := 1147) S 0 rfl rfl (m_dec eL_law_4 53 rfl) ?_
                                                                  refine ms_iload_n (pc := 1148) S 3 rfl rfl (m_dec eL_law_4 54 rfl) ?_
                                                                  refine ms_iconst (pc := 1149) S (m_dec eL_law_4 55 rfl) ?_
                                                                  refine ms_iadd (pc := 1150) S (m_dec eL_law_4 56 rfl) ?_
                                                                  refine ms_grd fun g299 => ?_
                                                                  refine ms_sld (pc := 1151) S hX g1 g299 (m_dec eL_law_4 57 rfl) ?_
                                                                  refine ms_grd fun g300 => ?_
                                                                  refine ms_callVi (pc := 1152) S hF (vals := [m_i (xs (m_w (v3 + 1)))]) (st := []) (hc := vw_10) (hci := by decide) (hcy := rfl) (ht := g300) (hC := (k10_open _ _ v1 (xs (m_w (v3 + 1))) h)) (hM := lm_L_141) (hfr := (Nat.le_trans (by decide) hFn)) (hstk := rfl) (hcat := Nat.le_of_ble_eq_true rfl) (hd := (m_dec eL_law_4 58 rfl)) (k1 := fun r302 h301 => ?_)
                                                                  refine ms_aload_n (pc := 1155) S 2 rfl rfl (m_dec eL_law_4 59 rfl) ?_
                                                                  refine ms_aload_n (pc := 1156) S 0 rfl rfl (m_dec eL_law_4 60 rfl) ?_
                                                                  refine ms_iload_n (pc := 1157) S 3 rfl rfl (m_dec eL_law_4 61 rfl) ?_
                                                                  refine ms_iconst (pc := 1158) S (m_dec eL_law_4 62 rfl) ?_
                                                                  refine ms_iadd (pc := 1159) S (m_dec eL_law_4 63 rfl) ?_
                                                                  refine ms_sld (pc := 1160) S hX g1 g299 (m_dec eL_law_4 64 rfl) ?_
                                                                  refine ms_grd fun g303 => ?_
                                                                  refine ms_callVi (pc := 1161) S hF (vals := [m_i (xs (m_w (v3 + 1)))]) (st := [m_i r302]) (hc := vw_11) (hci := by decide) (hcy := rfl) (ht := g303) (hC := (k11_open _ _ v2 (xs (m_w (v3 + 1))) h301)) (hM := lm_L_144) (hfr := (Nat.le_trans (by decide) hFn)) (hstk := rfl) (hcat := Nat.le_of_ble_eq_true rfl) (hd := (m_dec eL_law_4 65 rfl)) (k1 := fun r305 h304 => ?_)
                                                                  refine ms_icmp_eq (pc := 1164) S (m_dec eL_law_4 66 rfl) rfl (fun q306 => ?_) (fun q306 => ?_)
                                                                  · refine ms_iinc (pc := 1512) S (L' := [(0, m_r v0), (1, m_r v1), (2, m_r v2), (3, m_i (v3 + 6))]) 3 rfl [1, 2, 3, 0] rfl (m_lt hN rfl) (m_dec eL_law_5 166 rfl) ?_
                                                                    refine ms_goto (pc := 1515) S (m_dec eL_law_5 167 rfl) rfl ?_
                                                                    exact ih (v3 + 6) h304
                                                                  · refine ms_iconst (pc := 1167) S (m_dec eL_law_4 67 rfl) ?_
                                                                    exact ms_ret (pc := 1168) E (m_dec eL_law_4 68 rfl) rfl
                                                                · refine ms_ite (fun q307 => ?_) (fun q307 => ?_)
                                                                  · refine ms_swIn (pc := 33) S (m_dec eL_law_0 21 rfl) 31 q307 (by decide) (by decide) rfl rfl ?_
                                                                    refine ms_aload_n (pc := 1169) S 1 rfl rfl (m_dec eL_law_4 69 rfl) ?_
                                                                    refine ms_aload_n (pc := 1170) S 0 rfl rfl (m_dec eL_law_4 70 rfl) ?_
                                                                    refine ms_iload_n (pc := 1171) S 3 rfl rfl (m_dec eL_law_4 71 rfl) ?_
                                                                    refine ms_iconst (pc := 1172) S (m_dec eL_law_4 72 rfl) ?_
                                                                    refine ms_iadd (pc := 1173) S (m_dec eL_law_4 73 rfl) ?_
                                                                    refine ms_grd fun g308 => ?_
                                                                    refine ms_sld (pc := 1174) S hX g1 g308 (m_dec eL_law_4 74 rfl) ?_
                                                                    refine ms_grd fun g309 => ?_
                                                                    refine ms_callVi (pc := 1175) S hF (vals := [m_i (xs (m_w (v3 + 1)))]) (st := []) (hc := vw_10) (hci := by decide) (hcy := rfl) (ht := g309) (hC := (k10_turns _ _ v1 (xs (m_w (v3 + 1))) h)) (hM := lm_L_145) (hfr := (Nat.le_trans (by decide) hFn)) (hstk := rfl) (hcat := Nat.le_of_ble_eq_true rfl) (hd := (m_dec eL_law_4 75 rfl)) (k1 := fun r311 h310 => ?_)
                                                                    refine ms_aload_n (pc := 1178) S 2 rfl rfl (m_dec eL_law_4 76 rfl) ?_
                                                                    refine ms_aload_n (pc := 1179) S 0 rfl rfl (m_dec eL_law_4 77 rfl) ?_
                                                                    refine ms_iload_n (pc := 1180) S 3 rfl rfl (m_dec eL_law_4 78 rfl) ?_
                                                                    refine ms_iconst (pc := 1181) S (m_dec eL_law_4 79 rfl) ?_
                                                                    refine ms_iadd (pc := 1182) S (m_dec eL_law_4 80 rfl) ?_
                                                                    refine ms_sld (pc := 1183) S hX g1 g308 (m_dec eL_law_4 81 rfl) ?_
                                                                    refine ms_grd fun g312 => ?_
                                                                    refine ms_callVi (pc := 1184) S hF (vals := [m_i (xs (m_w (v3 + 1)))]) (st := [m_i r311]) (hc := vw_11) (hci := by decide) (hcy := rfl) (ht := g312) (hC := (k11_turns _ _ v2 (xs (m_w (v3 + 1))) h310)) (hM := lm_L_148) (hfr := (Nat.le_trans (by decide) hFn)) (hstk := rfl) (hcat := Nat.le_of_ble_eq_true rfl) (hd := (m_dec eL_law_4 82 rfl)) (k1 := fun r314 h313 => ?_)
                                                                    refine ms_icmp_eq (pc := 1187) S (m_dec eL_law_4 83 rfl) rfl (fun q315 => ?_) (fun q315 => ?_)
                                                                    · refine ms_iinc (pc := 1512) S (L' := [(0, m_r v0), (1, m_r v1), (2, m_r v2), (3, m_i (v3 + 6))]) 3 rfl [1, 2, 3, 0] rfl (m_lt hN rfl) (m_dec eL_law_5 166 rfl) ?_
                                                                      refine ms_goto (pc := 1515) S (m_dec eL_law_5 167 rfl) rfl ?_
                                                                      exact ih (v3 + 6) h313
                                                                    · refine ms_iconst (pc := 1190) S (m_dec eL_law_4 84 rfl) ?_
                                                                      exact ms_ret (pc := 1191) E (m_dec eL_law_4 85 rfl) rfl
                                                                  · refine ms_ite (fun q316 => ?_) (fun q316 => ?_)
                                                                    · refine ms_swIn (pc := 33) S (m_dec eL_law_0 21 rfl) 32 q316 (by decide) (by decide) rfl rfl ?_
                                                                      refine ms_aload_n (pc := 1192) S 1 rfl rfl (m_dec eL_law_4 86 rfl) ?_
                                                                      refine ms_aload_n (pc := 1193) S 0 rfl rfl (m_dec eL_law_4 87 rfl) ?_
                                                                      refine ms_iload_n (pc := 1194) S 3 rfl rfl (m_dec eL_law_4 88 rfl) ?_
                                                                      refine ms_iconst (pc := 1195) S (m_dec eL_law_4 89 rfl) ?_
                                                                      refine ms_iadd (pc := 1196) S (m_dec eL_law_4 90 rfl) ?_
                                                                      refine ms_grd fun g317 => ?_
                                                                      refine ms_sld (pc := 1197) S hX g1 g317 (m_dec eL_law_4 91 rfl) ?_
                                                                      refine ms_aload_n (pc := 1198) S 0 rfl rfl (m_dec eL_law_4 92 rfl) ?_
                                                                      refine ms_iload_n (pc := 1199) S 3 rfl rfl (m_dec eL_law_4 93 rfl) ?_
                                                                      refine ms_iconst (pc := 1200) S (m_dec eL_law_4 94 rfl) ?_
                                                                      refine ms_iadd (pc := 1201) S (m_dec eL_law_4 95 rfl) ?_
                                                                      refine ms_grd fun g318 => ?_
                                                                      refine ms_sld (pc := 1202) S hX g1 g318 (m_dec eL_law_4 96 rfl) ?_
                                                                      refine ms_grd fun g319 => ?_
                                                                      refine ms_callVi (pc := 1203) S hF (vals := [m_i (xs (m_w (v3 + 1))), m_i (xs (m_w (v3 + 2)))]) (st := []) (hc := vw_10) (hci := by decide) (hcy := rfl) (ht := g319) (hC := (k10_turnOf _ _ v1 (xs (m_w (v3 + 1))) (xs (m_w (v3 + 2))) h)) (hM := lm_L_149) (hfr := (Nat.le_trans (by decide) hFn)) (hstk := rfl) (hcat := Nat.le_of_ble_eq_true rfl) (hd := (m_dec eL_law_4 97 rfl)) (k1 := fun r321 h320 => ?_)
                                                                      refine ms_aload_n (pc := 1206) S 2 rfl rfl (m_dec eL_law_4 98 rfl) ?_
                                                                      refine ms_aload_n (pc := 1207) S 0 rfl rfl (m_dec eL_law_4 99 rfl) ?_
                                                                      refine ms_iload_n (pc := 1208) S 3 rfl rfl (m_dec eL_law_4 100 rfl) ?_
                                                                      refine ms_iconst (pc := 1209) S (m_dec eL_law_4 101 rfl) ?_
                                                                      refine ms_iadd (pc := 1210) S (m_dec eL_law_4 102 rfl) ?_
                                                                      refine ms_sld (pc := 1211) S hX g1 g317 (m_dec eL_law_4 103 rfl) ?_
                                                                      refine ms_aload_n (pc := 1212) S 0 rfl rfl (m_dec eL_law_4 104 rfl) ?_
                                                                      refine ms_iload_n (pc := 1213) S 3 rfl rfl (m_dec eL_law_4 105 rfl) ?_
                                                                      refine ms_iconst (pc := 1214) S (m_dec eL_law_4 106 rfl) ?_
                                                                      refine ms_iadd (pc := 1215) S (m_dec eL_law_4 107 rfl) ?_
                                                                      refine ms_sld (pc := 1216) S hX g1 g318 (m_dec eL_law_4 108 rfl) ?_
                                                                      refine ms_grd fun g322 => ?_
                                                                      refine ms_callVi (pc := 1217) S hF (vals := [m_i (xs (m_w (v3 + 1))), m_i (xs (m_w (v3 + 2)))]) (st := [m_i r321]) (hc := vw_11) (hci := by decide) (hcy := rfl) (ht := g322) (hC := (k11_turnOf _ _ v2 (xs (m_w (v3 + 1))) (xs (m_w (v3 + 2))) h320)) (hM := lm_L_152) (hfr := (Nat.le_trans (by decide) hFn)) (hstk := rfl) (hcat := Nat.le_of_ble_eq_true rfl) (hd := (m_dec eL_law_4 109 rfl)) (k1 := fun r324 h323 => ?_)
                                                                      refine ms_icmp_eq (pc := 1220) S (m_dec eL_law_4 110 rfl) rfl (fun q325 => ?_) (fun q325 => ?_)
                                                                      · refine ms_iinc (pc := 1512) S (L' := [(0, m_r v0), (1, m_r v1), (2, m_r v2), (3, m_i (v3 + 6))]) 3 rfl [1, 2, 3, 0] rfl (m_lt hN rfl) (m_dec eL_law_5 166 rfl) ?_
                                                                        refine ms_goto (pc := 1515) S (m_dec eL_law_5 167 rfl) rfl ?_
                                                                        exact ih (v3 + 6) h323
                                                                      · refine ms_iconst (pc := 1223) S (m_dec eL_law_4 111 rfl) ?_
                                                                        exact ms_ret (pc := 1224) E (m_dec eL_law_4 112 rfl) rfl
                                                                    · refine ms_ite (fun q326 => ?_) (fun q326 => ?_)
                                                                      · refine ms_swIn (pc := 33) S (m_dec eL_law_0 21 rfl) 33 q326 (by decide) (by decide) rfl rfl ?_
                                                                        refine ms_aload_n (pc := 1225) S 1 rfl rfl (m_dec eL_law_4 113 rfl) ?_
                                                                        refine ms_aload_n (pc := 1226) S 0 rfl rfl (m_dec eL_law_4 114 rfl) ?_
                                                                        refine ms_iload_n (pc := 1227) S 3 rfl rfl (m_dec eL_law_4 115 rfl) ?_
                                                                        refine ms_iconst (pc := 1228) S (m_dec eL_law_4 116 rfl) ?_
                                                                        refine ms_iadd (pc := 1229) S (m_dec eL_law_4 117 rfl) ?_
                                                                        refine ms_grd fun g327 => ?_
                                                                        refine ms_sld (pc := 1230) S hX g1 g327 (m_dec eL_law_4 118 rfl) ?_
                                                                        refine ms_grd fun g328 => ?_
                                                                        refine ms_callVi (pc := 1231) S hF (vals := [m_i (xs (m_w (v3 + 1)))]) (st := []) (hc := vw_10) (hci := by decide) (hcy := rfl) (ht := g328) (hC := (k10_deep _ _ v1 (xs (m_w (v3 + 1))) h)) (hM := lm_L_153) (hfr := (Nat.le_trans (by decide) hFn)) (hstk := rfl) (hcat := Nat.le_of_ble_eq_true rfl) (hd := (m_dec eL_law_4 119 rfl)) (k1 := fun r330 h329 => ?_)
                                                                        refine ms_aload_n (pc := 1234) S 2 rfl rfl (m_dec eL_law_4 120 rfl) ?_
                                                                        refine ms_aload_n (pc := 1235) S 0 rfl rfl (m_dec eL_law_4 121 rfl) ?_
                                                                        refine ms_iload_n (pc := 1236) S 3 rfl rfl (m_dec eL_law_4 122 rfl) ?_
                                                                        refine ms_iconst (pc := 1237) S (m_dec eL_law_4 123 rfl) ?_
                                                                        refine ms_iadd (pc := 1238) S (m_dec eL_law_4 124 rfl) ?_
                                                                        refine ms_sld (pc := 1239) S hX g1 g327 (m_dec eL_law_4 125 rfl) ?_
                                                                        refine ms_grd fun g331 => ?_
                                                                        refine ms_callVi (pc := 1240) S hF (vals := [m_i (xs (m_w (v3 + 1)))]) (st := [m_i r330]) (hc := vw_11) (hci := by decide) (hcy := rfl) (ht := g331) (hC := (k11_deep _ _ v2 (xs (m_w (v3 + 1))) h329)) (hM := lm_L_156) (hfr := (Nat.le_trans (by decide) hFn)) (hstk := rfl) (hcat := Nat.le_of_ble_eq_true rfl) (hd := (m_dec eL_law_4 126 rfl)) (k1 := fun r333 h332 => ?_)
                                                                        refine ms_icmp_eq (pc := 1243) S (m_dec eL_law_4 127 rfl) rfl (fun q334 => ?_) (fun q334 => ?_)
                                                                        · refine ms_iinc (pc := 1512) S (L' := [(0, m_r v0), (1, m_r v1), (2, m_r v2), (3, m_i (v3 + 6))]) 3 rfl [1, 2, 3, 0] rfl (m_lt hN rfl) (m_dec eL_law_5 166 rfl) ?_
                                                                          refine ms_goto (pc := 1515) S (m_dec eL_law_5 167 rfl) rfl ?_
                                                                          exact ih (v3 + 6) h332
                                                                        · refine ms_iconst (pc := 1246) S (m_dec eL_law_4 128 rfl) ?_
                                                                          exact ms_ret (pc := 1247) E (m_dec eL_law_4 129 rfl) rfl
                                                                      · refine ms_ite (fun q335 => ?_) (fun q335 => ?_)
                                                                        · refine ms_swIn (pc := 33) S (m_dec eL_law_0 21 rfl) 34 q335 (by decide) (by decide) rfl rfl ?_
                                                                          refine ms_aload_n (pc := 1248) S 1 rfl rfl (m_dec eL_law_4 130 rfl) ?_
                                                                          refine ms_aload_n (pc := 1249) S 0 rfl rfl (m_dec eL_law_4 131 rfl) ?_
                                                                          refine ms_iload_n (pc := 1250) S 3 rfl rfl (m_dec eL_law_4 132 rfl) ?_
                                                                          refine ms_iconst (pc := 1251) S (m_dec eL_law_4 133 rfl) ?_
                                                                          refine ms_iadd (pc := 1252) S (m_dec eL_law_4 134 rfl) ?_
                                                                          refine ms_grd fun g336 => ?_
                                                                          refine ms_sld (pc := 1253) S hX g1 g336 (m_dec eL_law_4 135 rfl) ?_
                                                                          refine ms_grd fun g337 => ?_
                                                                          refine ms_callVi (pc := 1254) S hF (vals := [m_i (xs (m_w (v3 + 1)))]) (st := []) (hc := vw_10) (hci := by decide) (hcy := rfl) (ht := g337) (hC := (k10_tape _ _ v1 (xs (m_w (v3 + 1))) h)) (hM := lm_L_157) (hfr := (Nat.le_trans (by decide) hFn)) (hstk := rfl) (hcat := Nat.le_of_ble_eq_true rfl) (hd := (m_dec eL_law_4 136 rfl)) (k1 := fun r339 h338 => ?_)
                                                                          refine ms_aload_n (pc := 1257) S 2 rfl rfl (m_dec eL_law_4 137 rfl) ?_
                                                                          refine ms_aload_n (pc := 1258) S 0 rfl rfl (m_dec eL_law_4 138 rfl) ?_
                                                                          refine ms_iload_n (pc := 1259) S 3 rfl rfl (m_dec eL_law_4 139 rfl) ?_
                                                                          refine ms_iconst (pc := 1260) S (m_dec eL_law_4 140 rfl) ?_
                                                                          refine ms_iadd (pc := 1261) S (m_dec eL_law_4 141 rfl) ?_
                                                                          refine ms_sld (pc := 1262) S hX g1 g336 (m_dec eL_law_4 142 rfl) ?_
                                                                          refine ms_grd fun g340 => ?_
                                                                          refine ms_callVi (pc := 1263) S hF (vals := [m_i (xs (m_w (v3 + 1)))]) (st := [m_i r339]) (hc := vw_11) (hci := by decide) (hcy := rfl) (ht := g340) (hC := (k11_tape _ _ v2 (xs (m_w (v3 + 1))) h338)) (hM := lm_L_160) (hfr := (Nat.le_trans (by decide) hFn)) (hstk := rfl) (hcat := Nat.le_of_ble_eq_true rfl) (hd := (m_dec eL_law_4 143 rfl)) (k1 := fun r342 h341 => ?_)
                                                                          refine ms_icmp_eq (pc := 1266) S (m_dec eL_law_4 144 rfl) rfl (fun q343 => ?_) (fun q343 => ?_)
                                                                          · refine ms_iinc (pc := 1512) S (L' := [(0, m_r v0), (1, m_r v1), (2, m_r v2), (3, m_i (v3 + 6))]) 3 rfl [1, 2, 3, 0] rfl (m_lt hN rfl) (m_dec eL_law_5 166 rfl) ?_
                                                                            refine ms_goto (pc := 1515) S (m_dec eL_law_5 167 rfl) rfl ?_
                                                                            exact ih (v3 + 6) h341
                                                                          · refine ms_iconst (pc := 1269) S (m_dec eL_law_4 145 rfl) ?_
                                                                            exact ms_ret (pc := 1270) E (m_dec eL_law_4 146 rfl) rfl
                                                                        · refine ms_ite (fun q344 => ?_) (fun q344 => ?_)
                                                                          · refine ms_swIn (pc := 33) S (m_dec eL_law_0 21 rfl) 35 q344 (by decide) (by decide) rfl rfl ?_
                                                                            refine ms_aload_n (pc := 1271) S 1 rfl rfl (m_dec eL_law_4 147 rfl) ?_
                                                                            refine ms_grd fun g345 => ?_
                                                                            refine ms_callVi (pc := 1272) S hF (vals := []) (st := []) (hc := vw_10) (hci := by decide) (hcy := rfl) (ht := g345) (hC := (k10_wipe _ _ v1 h)) (hM := lm_L_161) (hfr := (Nat.le_trans (by decide) hFn)) (hstk := rfl) (hcat := Nat.le_of_ble_eq_true rfl) (hd := (m_dec eL_law_4 148 rfl)) (k1 := fun r347 h346 => ?_)
                                                                            refine ms_aload_n (pc := 1275) S 2 rfl rfl (m_dec eL_law_4 149 rfl) ?_
                                                                            refine ms_grd fun g348 => ?_
                                                                            refine ms_callVi (pc := 1276) S hF (vals := []) (st := [m_i r347]) (hc := vw_11) (hci := by decide) (hcy := rfl) (ht := g348) (hC := (k11_wipe _ _ v2 h346)) (hM := lm_L_164) (hfr := (Nat.le_trans (by decide) hFn)) (hstk := rfl) (hcat := Nat.le_of_ble_eq_true rfl) (hd := (m_dec eL_law_4 150 rfl)) (k1 := fun r350 h349 => ?_)
                                                                            refine ms_icmp_eq (pc := 1279) S (m_dec eL_law_4 151 rfl) rfl (fun q351 => ?_) (fun q351 => ?_)
                                                                            · refine ms_iinc (pc := 1512) S (L' := [(0, m_r v0), (1, m_r v1), (2, m_r v2), (3, m_i (v3 + 6))]) 3 rfl [1, 2, 3, 0] rfl (m_lt hN rfl) (m_dec eL_law_5 166 rfl) ?_
                                                                              refine ms_goto (pc := 1515) S (m_dec eL_law_5 167 rfl) rfl ?_
                                                                              exact ih (v3 + 6) h349
                                                                            · refine ms_iconst (pc := 1282) S (m_dec eL_law_4 152 rfl) ?_
                                                                              exact ms_ret (pc := 1283) E (m_dec eL_law_4 153 rfl) rfl
                                                                          · refine ms_ite (fun q352 => ?_) (fun q352 => ?_)
                                                                            · refine ms_swIn (pc := 33) S (m_dec eL_law_0 21 rfl) 36 q352 (by decide) (by decide) rfl rfl ?_
                                                                              refine ms_aload_n (pc := 1284) S 1 rfl rfl (m_dec eL_law_4 154 rfl) ?_
                                                                              refine ms_aload_n (pc := 1285) S 0 rfl rfl (m_dec eL_law_4 155 rfl) ?_
                                                                              refine ms_iload_n (pc := 1286) S 3 rfl rfl (m_dec eL_law_4 156 rfl) ?_
                                                                              refine ms_iconst (pc := 1287) S (m_dec eL_law_4 157 rfl) ?_
                                                                              refine ms_iadd (pc := 1288) S (m_dec eL_law_4 158 rfl) ?_
                                                                              refine ms_grd fun g353 => ?_
                                                                              refine ms_sld (pc := 1289) S hX g1 g353 (m_dec eL_law_4 159 rfl) ?_
                                                                              refine ms_aload_n (pc := 1290) S 0 rfl rfl (m_dec eL_law_4 160 rfl) ?_
                                                                              refine ms_iload_n (pc := 1291) S 3 rfl rfl (m_dec eL_law_4 161 rfl) ?_
                                                                              refine ms_iconst (pc := 1292) S (m_dec eL_law_4 162 rfl) ?_
                                                                              refine ms_iadd (pc := 1293) S (m_dec eL_law_4 163 rfl) ?_
                                                                              refine ms_grd fun g354 => ?_
                                                                              refine ms_sld (pc := 1294) S hX g1 g354 (m_dec eL_law_4 164 rfl) ?_
                                                                              refine ms_aload_n (pc := 1295) S 0 rfl rfl (m_dec eL_law_4 165 rfl) ?_
                                                                              refine ms_iload_n (pc := 1296) S 3 rfl rfl (m_dec eL_law_4 166 rfl) ?_
                                                                              refine ms_iconst (pc := 1297) S (m_dec eL_law_4 167 rfl) ?_
                                                                              refine ms_iadd (pc := 1298) S (m_dec eL_law_4 168 rfl) ?_
                                                                              refine ms_grd fun g355 => ?_
                                                                              refine ms_sld (pc := 1299) S hX g1 g355 (m_dec eL_law_4 169 rfl) ?_
                                                                              refine ms_aload_n (pc := 1300) S 0 rfl rfl (m_dec eL_law_4 170 rfl) ?_
                                                                              refine ms_iload_n (pc := 1301) S 3 rfl rfl (m_dec eL_law_4 171 rfl) ?_
                                                                              refine ms_iconst (pc := 1302) S (m_dec eL_law_4 172 rfl) ?_
                                                                              refine ms_iadd (pc := 1303) S (m_dec eL_law_4 173 rfl) ?_
                                                                              refine ms_grd fun g356 => ?_
                                                                              refine ms_sld (pc := 1304) S hX g1 g356 (m_dec eL_law_4 174 rfl) ?_
                                                                              refine ms_grd fun g357 => ?_
                                                                              refine ms_callVi (pc := 1305) S hF (vals := [m_i (xs (m_w (v3 + 1))), m_i (xs (m_w (v3 + 2))), m_i (xs (m_w (v3 + 3))), m_i (xs (m_w (v3 + 4)))]) (st := []) (hc := vw_10) (hci := by decide) (hcy := rfl) (ht := g357) (hC := (k10_near _ _ v1 (xs (m_w (v3 + 1))) (xs (m_w (v3 + 2))) (xs (m_w (v3 + 3))) (xs (m_w (v3 + 4))) h)) (hM := lm_L_165) (hfr := (Nat.le_trans (by decide) hFn)) (hstk := rfl) (hcat := Nat.le_of_ble_eq_true rfl) (hd := (m_dec eL_law_4 175 rfl)) (k1 := fun r359 h358 => ?_)
                                                                              refine ms_aload_n (pc := 1308) S 2 rfl rfl (m_dec eL_law_4 176 rfl) ?_
                                                                              refine ms_aload_n (pc := 1309) S 0 rfl rfl (m_dec eL_law_4 177 rfl) ?_
                                                                              refine ms_iload_n (pc := 1310) S 3 rfl rfl (m_dec eL_law_4 178 rfl) ?_
                                                                              refine ms_iconst (pc := 1311) S (m_dec eL_law_4 179 rfl) ?_
                                                                              refine ms_iadd (pc := 1312) S (m_dec eL_law_5 0 rfl) ?_
                                                                              refine ms_sld (pc := 1313) S hX g1 g353 (m_dec eL_law_5 1 rfl) ?_
                                                                              refine ms_aload_n (pc := 1314) S 0 rfl rfl (m_dec eL_law_5 2 rfl) ?_
                                                                              refine ms_iload_n (pc := 1315) S 3 rfl rfl (m_dec eL_law_5 3 rfl) ?_
                                                                              refine ms_iconst (pc := 1316) S (m_dec eL_law_5 4 rfl) ?_
                                                                              refine ms_iadd (pc := 1317) S (m_dec eL_law_5 5 rfl) ?_
                                                                              refine ms_sld (pc := 1318) S hX g1 g354 (m_dec eL_law_5 6 rfl) ?_
                                                                              refine ms_aload_n (pc := 1319) S 0 rfl rfl (m_dec eL_law_5 7 rfl) ?_
                                                                              refine ms_iload_n (pc := 1320) S 3 rfl rfl (m_dec eL_law_5 8 rfl) ?_
                                                                              refine ms_iconst (pc := 1321) S (m_dec eL_law_5 9 rfl) ?_
                                                                              refine ms_iadd (pc := 1322) S (m_dec eL_law_5 10 rfl) ?_
                                                                              refine ms_sld (pc := 1323) S hX g1 g355 (m_dec eL_law_5 11 rfl) ?_
                                                                              refine ms_aload_n (pc := 1324) S 0 rfl rfl (m_dec eL_law_5 12 rfl) ?_
                                                                              refine ms_iload_n (pc := 1325) S 3 rfl rfl (m_dec eL_law_5 13 rfl) ?_
                                                                              refine ms_iconst (pc := 1326) S (m_dec eL_law_5 14 rfl) ?_
                                                                              refine ms_iadd (pc := 1327) S (m_dec eL_law_5 15 rfl) ?_
                                                                              refine ms_sld (pc := 1328) S hX g1 g356 (m_dec eL_law_5 16 rfl) ?_
                                                                              refine ms_grd fun g360 => ?_
                                                                              refine ms_callVi (pc := 1329) S hF (vals := [m_i (xs (m_w (v3 + 1))), m_i (xs (m_w (v3 + 2))), m_i (xs (m_w (v3 + 3))), m_i (xs (m_w (v3 + 4)))]) (st := [m_i r359]) (hc := vw_11) (hci := by decide) (hcy := rfl) (ht := g360) (hC := (k11_near _ _ v2 (xs (m_w (v3 + 1))) (xs (m_w (v3 + 2))) (xs (m_w (v3 + 3))) (xs (m_w (v3 + 4))) h358)) (hM := lm_L_168) (hfr := (Nat.le_trans (by decide) hFn)) (hstk := rfl) (hcat := Nat.le_of_ble_eq_true rfl) (hd := (m_dec eL_law_5 17 rfl)) (k1 := fun r362 h361 => ?_)
                                                                              refine ms_icmp_eq (pc := 1332) S (m_dec eL_law_5 18 rfl) rfl (fun q363 => ?_) (fun q363 => ?_)
                                                                              · refine ms_iinc (pc := 1512) S (L' := [(0, m_r v0), (1, m_r v1), (2, m_r v2), (3, m_i (v3 + 6))]) 3 rfl [1, 2, 3, 0] rfl (m_lt hN rfl) (m_dec eL_law_5 166 rfl) ?_
                                                                                refine ms_goto (pc := 1515) S (m_dec eL_law_5 167 rfl) rfl ?_
                                                                                exact ih (v3 + 6) h361
                                                                              · refine ms_iconst (pc := 1335) S (m_dec eL_law_5 19 rfl) ?_
                                                                                exact ms_ret (pc := 1336) E (m_dec eL_law_5 20 rfl) rfl
                                                                            · refine ms_ite (fun q364 => ?_) (fun q364 => ?_)
                                                                              · refine ms_swIn (pc := 33) S (m_dec eL_law_0 21 rfl) 37 q364 (by decide) (by decide) rfl rfl ?_
                                                                                refine ms_aload_n (pc := 1337) S 1 rfl rfl (m_dec eL_law_5 21 rfl) ?_
                                                                                refine ms_aload_n (pc := 1338) S 0 rfl rfl (m_dec eL_law_5 22 rfl) ?_
                                                                                refine ms_iload_n (pc := 1339) S 3 rfl rfl (m_dec eL_law_5 23 rfl) ?_
                                                                                refine ms_iconst (pc := 1340) S (m_dec eL_law_5 24 rfl) ?_
                                                                                refine ms_iadd (pc := 1341) S (m_dec eL_law_5 25 rfl) ?_
                                                                                refine ms_grd fun g365 => ?_
                                                                                refine ms_sld (pc := 1342) S hX g1 g365 (m_dec eL_law_5 26 rfl) ?_
                                                                                refine ms_aload_n (pc := 1343) S 0 rfl rfl (m_dec eL_law_5 27 rfl) ?_
                                                                                refine ms_iload_n (pc := 1344) S 3 rfl rfl (m_dec eL_law_5 28 rfl) ?_
                                                                                refine ms_iconst (pc := 1345) S (m_dec eL_law_5 29 rfl) ?_
                                                                                refine ms_iadd (pc := 1346) S (m_dec eL_law_5 30 rfl) ?_
                                                                                refine ms_grd fun g366 => ?_
                                                                                refine ms_sld (pc := 1347) S hX g1 g366 (m_dec eL_law_5 31 rfl) ?_
                                                                                refine ms_aload_n (pc := 1348) S 0 rfl rfl (m_dec eL_law_5 32 rfl) ?_
                                                                                refine ms_iload_n (pc := 1349) S 3 rfl rfl (m_dec eL_law_5 33 rfl) ?_
                                                                                refine ms_iconst (pc := 1350) S (m_dec eL_law_5 34 rfl) ?_
                                                                                refine ms_iadd (pc := 1351) S (m_dec eL_law_5 35 rfl) ?_
                                                                                refine ms_grd fun g367 => ?_
                                                                                refine ms_sld (pc := 1352) S hX g1 g367 (m_dec eL_law_5 36 rfl) ?_
                                                                                refine ms_grd fun g368 => ?_
                                                                                refine ms_callVi (pc := 1353) S hF (vals := [m_i (xs (m_w (v3 + 1))), m_i (xs (m_w (v3 + 2))), m_i (xs (m_w (v3 + 3)))]) (st := []) (hc := vw_10) (hci := by decide) (hcy := rfl) (ht := g368) (hC := (k10_rivals _ _ v1 (xs (m_w (v3 + 1))) (xs (m_w (v3 + 2))) (xs (m_w (v3 + 3))) h)) (hM := lm_L_169) (hfr := (Nat.le_trans (by decide) hFn)) (hstk := rfl) (hcat := Nat.le_of_ble_eq_true rfl) (hd := (m_dec eL_law_5 37 rfl)) (k1 := fun r370 h369 => ?_)
                                                                                refine ms_aload_n (pc := 1356) S 2 rfl rfl (m_dec eL_law_5 38 rfl) ?_
                                                                                refine ms_aload_n (pc := 1357) S 0 rfl rfl (m_dec eL_law_5 39 rfl) ?_
                                                                                refine ms_iload_n (pc := 1358) S 3 rfl rfl (m_dec eL_law_5 40 rfl) ?_
                                                                                refine ms_iconst (pc := 1359) S (m_dec eL_law_5 41 rfl) ?_
                                                                                refine ms_iadd (pc := 1360) S (m_dec eL_law_5 42 rfl) ?_
                                                                                refine ms_sld (pc := 1361) S hX g1 g365 (m_dec eL_law_5 43 rfl) ?_
                                                                                refine ms_aload_n (pc := 1362) S 0 rfl rfl (m_dec eL_law_5 44 rfl) ?_
                                                                                refine ms_iload_n (pc := 1363) S 3 rfl rfl (m_dec eL_law_5 45 rfl) ?_
                                                                                refine ms_iconst (pc := 1364) S (m_dec eL_law_5 46 rfl) ?_
                                                                                refine ms_iadd (pc := 1365) S (m_dec eL_law_5 47 rfl) ?_
                                                                                refine ms_sld (pc := 1366) S hX g1 g366 (m_dec eL_law_5 48 rfl) ?_
                                                                                refine ms_aload_n (pc := 1367) S 0 rfl rfl (m_dec eL_law_5 49 rfl) ?_
                                                                                refine ms_iload_n (pc := 1368) S 3 rfl rfl (m_dec eL_law_5 50 rfl) ?_
                                                                                refine ms_iconst (pc := 1369) S (m_dec eL_law_5 51 rfl) ?_
                                                                                refine ms_iadd (pc := 1370) S (m_dec eL_law_5 52 rfl) ?_
                                                                                refine ms_sld (pc := 1371) S hX g1 g367 (m_dec eL_law_5 53 rfl) ?_
                                                                                refine ms_grd fun g371 => ?_
                                                                                refine ms_callVi (pc := 1372) S hF (vals := [m_i (xs (m_w (v3 + 1))), m_i (xs (m_w (v3 + 2))), m_i (xs (m_w (v3 + 3)))]) (st := [m_i r370]) (hc := vw_11) (hci := by decide) (hcy := rfl) (ht := g371) (hC := (k11_rivals _ _ v2 (xs (m_w (v3 + 1))) (xs (m_w (v3 + 2))) (xs (m_w (v3 + 3))) h369)) (hM := lm_L_172) (hfr := (Nat.le_trans (by decide) hFn)) (hstk := rfl) (hcat := Nat.le_of_ble_eq_true rfl) (hd := (m_dec eL_law_5 54 rfl)) (k1 := fun r373 h372 => ?_)
                                                                                refine ms_icmp_eq (pc := 1375) S (m_dec eL_law_5 55 rfl) rfl (fun q374 => ?_) (fun q374 => ?_)
                                                                                · refine ms_iinc (pc := 1512) S (L' := [(0, m_r v0), (1, m_r v1), (2, m_r v2), (3, m_i (v3 + 6))]) 3 rfl [1, 2, 3, 0] rfl (m_lt hN rfl) (m_dec eL_law_5 166 rfl) ?_
                                                                                  refine ms_goto (pc := 1515) S (m_dec eL_law_5 167 rfl) rfl ?_
                                                                                  exact ih (v3 + 6) h372
                                                                                · refine ms_iconst (pc := 1378) S (m_dec eL_law_5 56 rfl) ?_
                                                                                  exact ms_ret (pc := 1379) E (m_dec eL_law_5 57 rfl) rfl
                                                                              · refine ms_ite (fun q375 => ?_) (fun q375 => ?_)
                                                                                · refine ms_swIn (pc := 33) S (m_dec eL_law_0 21 rfl) 38 q375 (by decide) (by decide) rfl rfl ?_
                                                                                  refine ms_aload_n (pc := 1380) S 1 rfl rfl (m_dec eL_law_5 58 rfl) ?_
                                                                                  refine ms_aload_n (pc := 1381) S 0 rfl rfl (m_dec eL_law_5 59 rfl) ?_
                                                                                  refine ms_iload_n (pc := 1382) S 3 rfl rfl (m_dec eL_law_5 60 rfl) ?_
                                                                                  refine ms_iconst (pc := 1383) S (m_dec eL_law_5 61 rfl) ?_
                                                                                  refine ms_iadd (pc := 1384) S (m_dec eL_law_5 62 rfl) ?_
                                                                                  refine ms_grd fun g376 => ?_
                                                                                  refine ms_sld (pc := 1385) S hX g1 g376 (m_dec eL_law_5 63 rfl) ?_
                                                                                  refine ms_aload_n (pc := 1386) S 0 rfl rfl (m_dec eL_law_5 64 rfl) ?_
                                                                                  refine ms_iload_n (pc := 1387) S 3 rfl rfl (m_dec eL_law_5 65 rfl) ?_
                                                                                  refine ms_iconst (pc := 1388) S (m_dec eL_law_5 66 rfl) ?_
                                                                                  refine ms_iadd (pc := 1389) S (m_dec eL_law_5 67 rfl) ?_
                                                                                  refine ms_grd fun g377 => ?_
                                                                                  refine ms_sld (pc := 1390) S hX g1 g377 (m_dec eL_law_5 68 rfl) ?_
                                                                                  refine ms_grd fun g378 => ?_
                                                                                  refine ms_callVi (pc := 1391) S hF (vals := [m_i (xs (m_w (v3 + 1))), m_i (xs (m_w (v3 + 2)))]) (st := []) (hc := vw_10) (hci := by decide) (hcy := rfl) (ht := g378) (hC := (k10_remade _ _ v1 (xs (m_w (v3 + 1))) (xs (m_w (v3 + 2))) h)) (hM := lm_L_173) (hfr := (Nat.le_trans (by decide) hFn)) (hstk := rfl) (hcat := Nat.le_of_ble_eq_true rfl) (hd := (m_dec eL_law_5 69 rfl)) (k1 := fun r380 h379 => ?_)
                                                                                  refine ms_aload_n (pc := 1394) S 2 rfl rfl (m_dec eL_law_5 70 rfl) ?_
                                                                                  refine ms_aload_n (pc := 1395) S 0 rfl rfl (m_dec eL_law_5 71 rfl) ?_
                                                                                  refine ms_iload_n (pc := 1396) S 3 rfl rfl (m_dec eL_law_5 72 rfl) ?_
                                                                                  refine ms_iconst (pc := 1397) S (m_dec eL_law_5 73 rfl) ?_
                                                                                  refine ms_iadd (pc := 1398) S (m_dec eL_law_5 74 rfl) ?_
                                                                                  refine ms_sld (pc := 1399) S hX g1 g376 (m_dec eL_law_5 75 rfl) ?_
                                                                                  refine ms_aload_n (pc := 1400) S 0 rfl rfl (m_dec eL_law_5 76 rfl) ?_
                                                                                  refine ms_iload_n (pc := 1401) S 3 rfl rfl (m_dec eL_law_5 77 rfl) ?_
                                                                                  refine ms_iconst (pc := 1402) S (m_dec eL_law_5 78 rfl) ?_
                                                                                  refine ms_iadd (pc := 1403) S (m_dec eL_law_5 79 rfl) ?_
                                                                                  refine ms_sld (pc := 1404) S hX g1 g377 (m_dec eL_law_5 80 rfl) ?_
                                                                                  refine ms_grd fun g381 => ?_
                                                                                  refine ms_callVi (pc := 1405) S hF (vals := [m_i (xs (m_w (v3 + 1))), m_i (xs (m_w (v3 + 2)))]) (st := [m_i r380]) (hc := vw_11) (hci := by decide) (hcy := rfl) (ht := g381) (hC := (k11_remade _ _ v2 (xs (m_w (v3 + 1))) (xs (m_w (v3 + 2))) h379)) (hM := lm_L_176) (hfr := (Nat.le_trans (by decide) hFn)) (hstk := rfl) (hcat := Nat.le_of_ble_eq_true rfl) (hd := (m_dec eL_law_5 81 rfl)) (k1 := fun r383 h382 => ?_)
                                                                                  refine ms_icmp_eq (pc := 1408) S (m_dec eL_law_5 82 rfl) rfl (fun q384 => ?_) (fun q384 => ?_)
                                                                                  · refine ms_iinc (pc := 1512) S (L' := [(0, m_r v0), (1, m_r v1), (2, m_r v2), (3, m_i (v3 + 6))]) 3 rfl [1, 2, 3, 0] rfl (m_lt hN rfl) (m_dec eL_law_5 166 rfl) ?_
                                                                                    refine ms_goto (pc := 1515) S (m_dec eL_law_5 167 rfl) rfl ?_
                                                                                    exact ih (v3 + 6) h382
                                                                                  · refine ms_iconst (pc := 1411) S (m_dec eL_law_5 83 rfl) ?_
                                                                                    exact ms_ret (pc := 1412) E (m_dec eL_law_5 84 rfl) rfl
                                                                                · refine ms_ite (fun q385 => ?_) (fun q385 => ?_)
                                                                                  · refine ms_swIn (pc := 33) S (m_dec eL_law_0 21 rfl) 39 q385 (by decide) (by decide) rfl rfl ?_
                                                                                    refine ms_aload_n (pc := 1413) S 1 rfl rfl (m_dec eL_law_5 85 rfl) ?_
                                                                                    refine ms_aload_n (pc := 1414) S 0 rfl rfl (m_dec eL_law_5 86 rfl) ?_
                                                                                    refine ms_iload_n (pc := 1415) S 3 rfl rfl (m_dec eL_law_5 87 rfl) ?_
                                                                                    refine ms_iconst (pc := 1416) S (m_dec eL_law_5 88 rfl) ?_
                                                                                    refine ms_iadd (pc := 1417) S (m_dec eL_law_5 89 rfl) ?_
                                                                                    refine ms_grd fun g386 => ?_
                                                                                    refine ms_sld (pc := 1418) S hX g1 g386 (m_dec eL_law_5 90 rfl) ?_
                                                                                    refine ms_aload_n (pc := 1419) S 0 rfl rfl (m_dec eL_law_5 91 rfl) ?_
                                                                                    refine ms_iload_n (pc := 1420) S 3 rfl rfl (m_dec eL_law_5 92 rfl) ?_
                                                                                    refine ms_iconst (pc := 1421) S (m_dec eL_law_5 93 rfl) ?_
                                                                                    refine ms_iadd (pc := 1422) S (m_dec eL_law_5 94 rfl) ?_
                                                                                    refine ms_grd fun g387 => ?_
                                                                                    refine ms_sld (pc := 1423) S hX g1 g387 (m_dec eL_law_5 95 rfl) ?_
                                                                                    refine ms_aload_n (pc := 1424) S 0 rfl rfl (m_dec eL_law_5 96 rfl) ?_
                                                                                    refine ms_iload_n (pc := 1425) S 3 rfl rfl (m_dec eL_law_5 97 rfl) ?_
                                                                                    refine ms_iconst (pc := 1426) S (m_dec eL_law_5 98 rfl) ?_
                                                                                    refine ms_iadd (pc := 1427) S (m_dec eL_law_5 99 rfl) ?_
                                                                                    refine ms_grd fun g388 => ?_
                                                                                    refine ms_sld (pc := 1428) S hX g1 g388 (m_dec eL_law_5 100 rfl) ?_
                                                                                    refine ms_grd fun g389 => ?_
                                                                                    refine ms_callVi (pc := 1429) S hF (vals := [m_i (xs (m_w (v3 + 1))), m_i (xs (m_w (v3 + 2))), m_i (xs (m_w (v3 + 3)))]) (st := []) (hc := vw_10) (hci := by decide) (hcy := rfl) (ht := g389) (hC := (k10_stretch _ _ v1 (xs (m_w (v3 + 1))) (xs (m_w (v3 + 2))) (xs (m_w (v3 + 3))) h)) (hM := lm_L_177) (hfr := (Nat.le_trans (by decide) hFn)) (hstk := rfl) (hcat := Nat.le_of_ble_eq_true rfl) (hd := (m_dec eL_law_5 101 rfl)) (k1 := fun r391 h390 => ?_)
                                                                                    refine ms_aload_n (pc := 1432) S 2 rfl rfl (m_dec eL_law_5 102 rfl) ?_
                                                                                    refine ms_aload_n (pc := 1433) S 0 rfl rfl (m_dec eL_law_5 103 rfl) ?_
                                                                                    refine ms_iload_n (pc := 1434) S 3 rfl rfl (m_dec eL_law_5 104 rfl) ?_
                                                                                    refine ms_iconst (pc := 1435) S (m_dec eL_law_5 105 rfl) ?_
                                                                                    refine ms_iadd (pc := 1436) S (m_dec eL_law_5 106 rfl) ?_
                                                                                    refine ms_sld (pc := 1437) S hX g1 g386 (m_dec eL_law_5 107 rfl) ?_
                                                                                    refine ms_aload_n (pc := 1438) S 0 rfl rfl (m_dec eL_law_5 108 rfl) ?_
                                                                                    refine ms_iload_n (pc := 1439) S 3 rfl rfl (m_dec eL_law_5 109 rfl) ?_
                                                                                    refine ms_iconst (pc := 1440) S (m_dec eL_law_5 110 rfl) ?_
                                                                                    refine ms_iadd (pc := 1441) S (m_dec eL_law_5 111 rfl) ?_
                                                                                    refine ms_sld (pc := 1442) S hX g1 g387 (m_dec eL_law_5 112 rfl) ?_
                                                                                    refine ms_aload_n (pc := 1443) S 0 rfl rfl (m_dec eL_law_5 113 rfl) ?_
                                                                                    refine ms_iload_n (pc := 1444) S 3 rfl rfl (m_dec eL_law_5 114 rfl) ?_
                                                                                    refine ms_iconst (pc := 1445) S (m_dec eL_law_5 115 rfl) ?_
                                                                                    refine ms_iadd (pc := 1446) S (m_dec eL_law_5 116 rfl) ?_
                                                                                    refine ms_sld (pc := 1447) S hX g1 g388 (m_dec eL_law_5 117 rfl) ?_
                                                                                    refine ms_grd fun g392 => ?_
                                                                                    refine ms_callVi (pc := 1448) S hF (vals := [m_i (xs (m_w (v3 + 1))), m_i (xs (m_w (v3 + 2))), m_i (xs (m_w (v3 + 3)))]) (st := [m_i r391]) (hc := vw_11) (hci := by decide) (hcy := rfl) (ht := g392) (hC := (k11_stretch _ _ v2 (xs (m_w (v3 + 1))) (xs (m_w (v3 + 2))) (xs (m_w (v3 + 3))) h390)) (hM := lm_L_180) (hfr := (Nat.le_trans (by decide) hFn)) (hstk := rfl) (hcat := Nat.le_of_ble_eq_true rfl) (hd := (m_dec eL_law_5 118 rfl)) (k1 := fun r394 h393 => ?_)
                                                                                    refine ms_icmp_eq (pc := 1451) S (m_dec eL_law_5 119 rfl) rfl (fun q395 => ?_) (fun q395 => ?_)
                                                                                    · refine ms_iinc (pc := 1512) S (L' := [(0, m_r v0), (1, m_r v1), (2, m_r v2), (3, m_i (v3 + 6))]) 3 rfl [1, 2, 3, 0] rfl (m_lt hN rfl) (m_dec eL_law_5 166 rfl) ?_
                                                                                      refine ms_goto (pc := 1515) S (m_dec eL_law_5 167 rfl) rfl ?_
                                                                                      exact ih (v3 + 6) h393
                                                                                    · refine ms_iconst (pc := 1454) S (m_dec eL_law_5 120 rfl) ?_
                                                                                      exact ms_ret (pc := 1455) E (m_dec eL_law_5 121 rfl) rfl
                                                                                  · refine ms_ite (fun q396 => ?_) (fun q396 => ?_)
                                                                                    · refine ms_swIn (pc := 33) S (m_dec eL_law_0 21 rfl) 40 q396 (by decide) (by decide) rfl rfl ?_
                                                                                      refine ms_aload_n (pc := 1456) S 1 rfl rfl (m_dec eL_law_5 122 rfl) ?_
                                                                                      refine ms_aload_n (pc := 1457) S 0 rfl rfl (m_dec eL_law_5 123 rfl) ?_
                                                                                      refine ms_iload_n (pc := 1458) S 3 rfl rfl (m_dec eL_law_5 124 rfl) ?_
                                                                                      refine ms_iconst (pc := 1459) S (m_dec eL_law_5 125 rfl) ?_
                                                                                      refine ms_iadd (pc := 1460) S (m_dec eL_law_5 126 rfl) ?_
                                                                                      refine ms_grd fun g397 => ?_
                                                                                      refine ms_sld (pc := 1461) S hX g1 g397 (m_dec eL_law_5 127 rfl) ?_
                                                                                      refine ms_aload_n (pc := 1462) S 0 rfl rfl (m_dec eL_law_5 128 rfl) ?_
                                                                                      refine ms_iload_n (pc := 1463) S 3 rfl rfl (m_dec eL_law_5 129 rfl) ?_
                                                                                      refine ms_iconst (pc := 1464) S (m_dec eL_law_5 130 rfl) ?_
                                                                                      refine ms_iadd (pc := 1465) S (m_dec eL_law_5 131 rfl) ?_
                                                                                      refine ms_grd fun g398 => ?_
                                                                                      refine ms_sld (pc := 1466) S hX g1 g398 (m_dec eL_law_5 132 rfl) ?_
                                                                                      refine ms_grd fun g399 => ?_
                                                                                      refine ms_callVi (pc := 1467) S hF (vals := [m_i (xs (m_w (v3 + 1))), m_i (xs (m_w (v3 + 2)))]) (st := []) (hc := vw_10) (hci := by decide) (hcy := rfl) (ht := g399) (hC := (k10_unfound _ _ v1 (xs (m_w (v3 + 1))) (xs (m_w (v3 + 2))) h)) (hM := lm_L_181) (hfr := (Nat.le_trans (by decide) hFn)) (hstk := rfl) (hcat := Nat.le_of_ble_eq_true rfl) (hd := (m_dec eL_law_5 133 rfl)) (k1 := fun r401 h400 => ?_)
                                                                                      refine ms_aload_n (pc := 1470) S 2 rfl rfl (m_dec eL_law_5 134 rfl) ?_
                                                                                      refine ms_aload_n (pc := 1471) S 0 rfl rfl (m_dec eL_law_5 135 rfl) ?_
                                                                                      refine ms_iload_n (pc := 1472) S 3 rfl rfl (m_dec eL_law_5 136 rfl) ?_
                                                                                      refine ms_iconst (pc := 1473) S (m_dec eL_law_5 137 rfl) ?_
                                                                                      refine ms_iadd (pc := 1474) S (m_dec eL_law_5 138 rfl) ?_
                                                                                      refine ms_sld (pc := 1475) S hX g1 g397 (m_dec eL_law_5 139 rfl) ?_
                                                                                      refine ms_aload_n (pc := 1476) S 0 rfl rfl (m_dec eL_law_5 140 rfl) ?_
                                                                                      refine ms_iload_n (pc := 1477) S 3 rfl rfl (m_dec eL_law_5 141 rfl) ?_
                                                                                      refine ms_iconst (pc := 1478) S (m_dec eL_law_5 142 rfl) ?_
                                                                                      refine ms_iadd (pc := 1479) S (m_dec eL_law_5 143 rfl) ?_
                                                                                      refine ms_sld (pc := 1480) S hX g1 g398 (m_dec eL_law_5 144 rfl) ?_
                                                                                      refine ms_grd fun g402 => ?_
                                                                                      refine ms_callVi (pc := 1481) S hF (vals := [m_i (xs (m_w (v3 + 1))), m_i (xs (m_w (v3 + 2)))]) (st := [m_i r401]) (hc := vw_11) (hci := by decide) (hcy := rfl) (ht := g402) (hC := (k11_unfound _ _ v2 (xs (m_w (v3 + 1))) (xs (m_w (v3 + 2))) h400)) (hM := lm_L_184) (hfr := (Nat.le_trans (by decide) hFn)) (hstk := rfl) (hcat := Nat.le_of_ble_eq_true rfl) (hd := (m_dec eL_law_5 145 rfl)) (k1 := fun r404 h403 => ?_)
                                                                                      refine ms_icmp_eq (pc := 1484) S (m_dec eL_law_5 146 rfl) rfl (fun q405 => ?_) (fun q405 => ?_)
                                                                                      · refine ms_iinc (pc := 1512) S (L' := [(0, m_r v0), (1, m_r v1), (2, m_r v2), (3, m_i (v3 + 6))]) 3 rfl [1, 2, 3, 0] rfl (m_lt hN rfl) (m_dec eL_law_5 166 rfl) ?_
                                                                                        refine ms_goto (pc := 1515) S (m_dec eL_law_5 167 rfl) rfl ?_
                                                                                        exact ih (v3 + 6) h403
                                                                                      · refine ms_iconst (pc := 1487) S (m_dec eL_law_5 147 rfl) ?_
                                                                                        exact ms_ret (pc := 1488) E (m_dec eL_law_5 148 rfl) rfl
                                                                                    · refine ms_ite (fun q406 => ?_) (fun q406 => ?_)
                                                                                      · refine ms_swIn (pc := 33) S (m_dec eL_law_0 21 rfl) 41 q406 (by decide) (by decide) rfl rfl ?_
                                                                                        refine ms_aload_n (pc := 1489) S 1 rfl rfl (m_dec eL_law_5 149 rfl) ?_
                                                                                        refine ms_aload_n (pc := 1490) S 0 rfl rfl (m_dec eL_law_5 150 rfl) ?_
                                                                                        refine ms_iload_n (pc := 1491) S 3 rfl rfl (m_dec eL_law_5 151 rfl) ?_
                                                                                        refine ms_iconst (pc := 1492) S (m_dec eL_law_5 152 rfl) ?_
                                                                                        refine ms_iadd (pc := 1493) S (m_dec eL_law_5 153 rfl) ?_
                                                                                        refine ms_grd fun g407 => ?_
                                                                                        refine ms_sld (pc := 1494) S hX g1 g407 (m_dec eL_law_5 154 rfl) ?_
                                                                                        refine ms_grd fun g408 => ?_
                                                                                        refine ms_callVi (pc := 1495) S hF (vals := [m_i (xs (m_w (v3 + 1)))]) (st := []) (hc := vw_10) (hci := by decide) (hcy := rfl) (ht := g408) (hC := (k10_count _ _ v1 (xs (m_w (v3 + 1))) h)) (hM := lm_L_185) (hfr := (Nat.le_trans (by decide) hFn)) (hstk := rfl) (hcat := Nat.le_of_ble_eq_true rfl) (hd := (m_dec eL_law_5 155 rfl)) (k1 := fun r410 h409 => ?_)
                                                                                        refine ms_aload_n (pc := 1498) S 2 rfl rfl (m_dec eL_law_5 156 rfl) ?_
                                                                                        refine ms_aload_n (pc := 1499) S 0 rfl rfl (m_dec eL_law_5 157 rfl) ?_
                                                                                        refine ms_iload_n (pc := 1500) S 3 rfl rfl (m_dec eL_law_5 158 rfl) ?_
                                                                                        refine ms_iconst (pc := 1501) S (m_dec eL_law_5 159 rfl) ?_
                                                                                        refine ms_iadd (pc := 1502) S (m_dec eL_law_5 160 rfl) ?_
                                                                                        refine ms_sld (pc := 1503) S hX g1 g407 (m_dec eL_law_5 161 rfl) ?_
                                                                                        refine ms_grd fun g411 => ?_
                                                                                        refine ms_callVi (pc := 1504) S hF (vals := [m_i (xs (m_w (v3 + 1)))]) (st := [m_i r410]) (hc := vw_11) (hci := by decide) (hcy := rfl) (ht := g411) (hC := (k11_count _ _ v2 (xs (m_w (v3 + 1))) h409)) (hM := lm_L_188) (hfr := (Nat.le_trans (by decide) hFn)) (hstk := rfl) (hcat := Nat.le_of_ble_eq_true rfl) (hd := (m_dec eL_law_5 162 rfl)) (k1 := fun r413 h412 => ?_)
                                                                                        refine ms_icmp_eq (pc := 1507) S (m_dec eL_law_5 163 rfl) rfl (fun q414 => ?_) (fun q414 => ?_)
                                                                                        · refine ms_iinc (pc := 1512) S (L' := [(0, m_r v0), (1, m_r v1), (2, m_r v2), (3, m_i (v3 + 6))]) 3 rfl [1, 2, 3, 0] rfl (m_lt hN rfl) (m_dec eL_law_5 166 rfl) ?_
                                                                                          refine ms_goto (pc := 1515) S (m_dec eL_law_5 167 rfl) rfl ?_
                                                                                          exact ih (v3 + 6) h412
                                                                                        · refine ms_iconst (pc := 1510) S (m_dec eL_law_5 164 rfl) ?_
                                                                                          exact ms_ret (pc := 1511) E (m_dec eL_law_5 165 rfl) rfl
                                                                                      · refine ms_swOut (pc := 33) (a := (m_and (xs (m_w v3)) 63)) S (m_dec eL_law_0 21 rfl) (by omega) rfl ?_
                                                                                        refine ms_iinc (pc := 1512) S (L' := [(0, m_r v0), (1, m_r v1), (2, m_r v2), (3, m_i (v3 + 6))]) 3 rfl [1, 2, 3, 0] rfl (m_lt hN rfl) (m_dec eL_law_5 166 rfl) ?_
                                                                                        refine ms_goto (pc := 1515) S (m_dec eL_law_5 167 rfl) rfl ?_
                                                                                        exact ih (v3 + 6) h
set_option maxHeartbeats 8000000 in
set_option maxRecDepth 100000 in
theorem sL_law {Y : m_Y Bool} (S : m_Std Y RL cL_law) (E : m_End Y cL_law .ireturn (fun r => [m_i (m_b2i r)])) {F : Nat} (hF : m_Rm Y F) (hFn : 18 ≤ F) (hN : Y.2.2.2.1 = 4) {xn : Int} {xs : Int → Int} (hX : m_scr Y xn xs) (v0 : Int) (h : m_H) : m_Sim Y 0 [(0, m_r v0)] [] h (tL_law xn xs v0 h) := by
  unfold tL_law
  refine ms_new (pc := 0) S ln_L_7 rfl (m_dec eL_law_0 0 rfl) (fun h1 => ?_)
  refine ms_dup (pc := 3) S rfl (m_dec eL_law_0 1 rfl) ?_
  refine ms_grd fun g2 => ?_
  refine ms_callIv (pc := 4) S hF (vals := []) (st := [m_r (m_n h)]) (ht := g2) (hC := (k10_init _ _ (m_n h) h1)) (hM := lm_L_9) (hfr := (Nat.le_trans (by decide) hFn)) (hstk := rfl) (hcat := Nat.le_of_ble_eq_true rfl) (hd := (m_dec eL_law_0 2 rfl)) (k1 := fun h3 => ?_)
  refine ms_nm (st := fun x5 => [m_r x5]) fun x5 => ?_
  refine ms_astore_n (pc := 7) S (L' := [(0, m_r v0), (1, m_r x5)]) [1, 0] rfl rfl (m_lt hN rfl) (m_dec eL_law_0 3 rfl) ?_
  refine ms_new (pc := 8) S ln_L_10 rfl (m_dec eL_law_0 4 rfl) (fun h6 => ?_)
  refine ms_dup (pc := 11) S rfl (m_dec eL_law_0 5 rfl) ?_
  refine ms_grd fun g7 => ?_
  refine ms_callIv (pc := 12) S hF (vals := []) (st := [m_r (m_n h3)]) (ht := g7) (hC := (k11_init _ _ (m_n h3) h6)) (hM := lm_L_12) (hfr := (Nat.le_trans (by decide) hFn)) (hstk := rfl) (hcat := Nat.le_of_ble_eq_true rfl) (hd := (m_dec eL_law_0 6 rfl)) (k1 := fun h8 => ?_)
  refine ms_nm (st := fun x10 => [m_r x10]) fun x10 => ?_
  refine ms_astore_n (pc := 15) S (L' := [(0, m_r v0), (1, m_r x5), (2, m_r x10)]) [1, 2, 0] rfl rfl (m_lt hN rfl) (m_dec eL_law_0 7 rfl) ?_
  refine ms_iconst (pc := 16) S (m_dec eL_law_0 8 rfl) ?_
  refine ms_istore_n (pc := 17) S (L' := [(0, m_r v0), (1, m_r x5), (2, m_r x10), (3, m_i 0)]) [1, 2, 3, 0] rfl rfl (m_lt hN rfl) (m_dec eL_law_0 9 rfl) ?_
  exact sL_law_c18 S E hF hFn hN hX v0 x5 x10 0 h8
