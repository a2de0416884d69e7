/-! the law: small function -/
set_option maxRecDepth 100000 in
def tL_law_c18 (xn : Int) (xs : Int → Int) (v0 v1 v2 v3 : Int) (h : m_H) : Option (Bool × m_H) :=
  (if v0 = -1 then (if (m_w (xn - 6)) < (m_w v3) then
  some (true, h)
else
  (if 0 ≤ (m_w v3) ∧ (m_w v3) < xn then (if (m_w (m_and (xs (m_w v3)) 63)) = 0 then
    (if 0 ≤ (m_w (v3 + 1)) ∧ (m_w (v3 + 1)) < xn then if 0 ≤ (m_w (v3 + 2)) ∧ (m_w (v3 + 2)) < xn then if 0 ≤ (m_w (v3 + 3)) ∧ (m_w (v3 + 3)) < xn then if 0 ≤ (m_w (v3 + 4)) ∧ (m_w (v3 + 4)) < xn then if 0 ≤ (m_w (v3 + 5)) ∧ (m_w (v3 + 5)) < xn then if m_t h v1 = 10 then t10_hand v1 (xs (m_w (v3 + 1))) (xs (m_w (v3 + 2))) (xs (m_w (v3 + 3))) (xs (m_w (v3 + 4))) (xs (m_w (v3 + 5))) h >>= fun ⟨r12, h11⟩ => if m_t h11 v2 = 11 then t11_hand v2 (xs (m_w (v3 + 1))) (xs (m_w (v3 + 2))) (xs (m_w (v3 + 3))) (xs (m_w (v3 + 4))) (xs (m_w (v3 + 5))) h11 >>= fun ⟨r15, h14⟩ => (if (m_w r12) = (m_w r15) then
      (tL_law_c18 xn xs v0 v1 v2 (v3 + 6) h14)
    else
      some (false, h14)) else none else none else none else none else none else none else none)
  else (if (m_w (m_and (xs (m_w v3)) 63)) = 1 then
    (if m_t h v1 = 10 then t10_drop v1 h >>= fun ⟨r20, h19⟩ => if m_t h19 v2 = 11 then t11_drop v2 h19 >>= fun ⟨r23, h22⟩ => (if (m_w r20) = (m_w r23) then
      (tL_law_c18 xn xs v0 v1 v2 (v3 + 6) h22)
    else
      some (false, h22)) else none else none)
  else (if (m_w (m_and (xs (m_w v3)) 63)) = 2 then
    (if 0 ≤ (m_w (v3 + 1)) ∧ (m_w (v3 + 1)) < xn then if m_t h v1 = 10 then t10_strip v1 (xs (m_w (v3 + 1))) h >>= fun ⟨r29, h28⟩ => if m_t h28 v2 = 11 then t11_strip v2 (xs (m_w (v3 + 1))) h28 >>= fun ⟨r32, h31⟩ => (if (m_w r29) = (m_w r32) then
      (tL_law_c18 xn xs v0 v1 v2 (v3 + 6) h31)
    else
      some (false, h31)) else none else none else none)
  else (if (m_w (m_and (xs (m_w v3)) 63)) = 3 then
    (if 0 ≤ (m_w (v3 + 1)) ∧ (m_w (v3 + 1)) < xn then if m_t h v1 = 10 then t10_sliver v1 (xs (m_w (v3 + 1))) h >>= fun ⟨r38, h37⟩ => if m_t h37 v2 = 11 then t11_sliver v2 (xs (m_w (v3 + 1))) h37 >>= fun ⟨r41, h40⟩ => (if (m_w (m_b2i r38)) = (m_w (m_b2i r41)) then
      (tL_law_c18 xn xs v0 v1 v2 (v3 + 6) h40)
    else
      some (false, h40)) else none else none else none)
  else (if (m_w (m_and (xs (m_w v3)) 63)) = 4 then
    (if 0 ≤ (m_w (v3 + 1)) ∧ (m_w (v3 + 1)) < xn then if 0 ≤ (m_w (v3 + 2)) ∧ (m_w (v3 + 2)) < xn then if m_t h v1 = 10 then t10_cut v1 (xs (m_w (v3 + 1))) (xs (m_w (v3 + 2))) h >>= fun ⟨r48, h47⟩ => if m_t h47 v2 = 11 then t11_cut v2 (xs (m_w (v3 + 1))) (xs (m_w (v3 + 2))) h47 >>= fun ⟨r51, h50⟩ => (if (m_w r48) = (m_w r51) then
      (tL_law_c18 xn xs v0 v1 v2 (v3 + 6) h50)
    else
      some (false, h50)) else none else none else none else none)
  else (if (m_w (m_and (xs (m_w v3)) 63)) = 5 then
    (if 0 ≤ (m_w (v3 + 1)) ∧ (m_w (v3 + 1)) < xn then if m_t h v1 = 10 then t10_turn v1 (xs (m_w (v3 + 1))) h >>= fun ⟨r57, h56⟩ => if m_t h56 v2 = 11 then t11_turn v2 (xs (m_w (v3 + 1))) h56 >>= fun ⟨r60, h59⟩ => (if (m_w r57) = (m_w r60) then
      (tL_law_c18 xn xs v0 v1 v2 (v3 + 6) h59)
    else
      some (false, h59)) else none else none else none)
  else (if (m_w (m_and (xs (m_w v3)) 63)) = 6 then
    (if 0 ≤ (m_w (v3 + 1)) ∧ (m_w (v3 + 1)) < xn then if m_t h v1 = 10 then t10_loop v1 (xs (m_w (v3 + 1))) h >>= fun ⟨r66, h65⟩ => if m_t h65 v2 = 11 then t11_loop v2 (xs (m_w (v3 + 1))) h65 >>= fun ⟨r69, h68⟩ => (if (m_w r66) = (m_w r69) then
      (tL_law_c18 xn xs v0 v1 v2 (v3 + 6) h68)
    else
      some (false, h68)) else none else none else none)
  else (if (m_w (m_and (xs (m_w v3)) 63)) = 7 then
    (if 0 ≤ (m_w (v3 + 1)) ∧ (m_w (v3 + 1)) < xn then if m_t h v1 = 10 then t10_seam v1 (xs (m_w (v3 + 1))) h >>= fun ⟨r75, h74⟩ => if m_t h74 v2 = 11 then t11_seam v2 (xs (m_w (v3 + 1))) h74 >>= fun ⟨r78, h77⟩ => (if (m_w r75) = (m_w r78) then
      (tL_law_c18 xn xs v0 v1 v2 (v3 + 6) h77)
    else
      some (false, h77)) else none else none else none)
  else (if (m_w (m_and (xs (m_w v3)) 63)) = 8 then
    (if 0 ≤ (m_w (v3 + 1)) ∧ (m_w (v3 + 1)) < xn then if 0 ≤ (m_w (v3 + 2)) ∧ (m_w (v3 + 2)) < xn then if 0 ≤ (m_w (v3 + 3)) ∧ (m_w (v3 + 3)) < xn then if m_t h v1 = 10 then t10_splice v1 (xs (m_w (v3 + 1))) (xs (m_w (v3 + 2))) (xs (m_w (v3 + 3))) h >>= fun ⟨r86, h85⟩ => if m_t h85 v2 = 11 then t11_splice v2 (xs (m_w (v3 + 1))) (xs (m_w (v3 + 2))) (xs (m_w (v3 + 3))) h85 >>= fun ⟨r89, h88⟩ => (if (m_w r86) = (m_w r89) then
      (tL_law_c18 xn xs v0 v1 v2 (v3 + 6) h88)
    else
      some (false, h88)) else none else none else none else none else none)
  else (if (m_w (m_and (xs (m_w v3)) 63)) = 9 then
    (if 0 ≤ (m_w (v3 + 1)) ∧ (m_w (v3 + 1)) < xn then if 0 ≤ (m_w (v3 + 2)) ∧ (m_w (v3 + 2)) < xn then if 0 ≤ (m_w (v3 + 3)) ∧ (m_w (v3 + 3)) < xn then if m_t h v1 = 10 then t10_machine v1 (xs (m_w (v3 + 1))) (xs (m_w (v3 + 2))) (xs (m_w (v3 + 3))) h >>= fun ⟨r97, h96⟩ => if m_t h96 v2 = 11 then t11_machine v2 (xs (m_w (v3 + 1))) (xs (m_w (v3 + 2))) (xs (m_w (v3 + 3))) h96 >>= fun ⟨r100, h99⟩ => (if (m_w r97) = (m_w r100) then
      (tL_law_c18 xn xs v0 v1 v2 (v3 + 6) h99)
    else
      some (false, h99)) else none else none else none else none else none)
  else (if (m_w (m_and (xs (m_w v3)) 63)) = 10 then
    (if 0 ≤ (m_w (v3 + 1)) ∧ (m_w (v3 + 1)) < xn then if 0 ≤ (m_w (v3 + 2)) ∧ (m_w (v3 + 2)) < xn then if m_t h v1 = 10 then t10_copy v1 (xs (m_w (v3 + 1))) (xs (m_w (v3 + 2))) h >>= fun ⟨r107, h106⟩ => if m_t h106 v2 = 11 then t11_copy v2 (xs (m_w (v3 + 1))) (xs (m_w (v3 + 2))) h106 >>= fun ⟨r110, h109⟩ => (if (m_w r107) = (m_w r110) then
      (tL_law_c18 xn xs v0 v1 v2 (v3 + 6) h109)
    else
      some (false, h109)) else none else none else none else none)
  else (if (m_w (m_and (xs (m_w v3)) 63)) = 11 then
    (if 0 ≤ (m_w (v3 + 1)) ∧ (m_w (v3 + 1)) < xn then if 0 ≤ (m_w (v3 + 2)) ∧ (m_w (v3 + 2)) < xn then if 0 ≤ (m_w (v3 + 3)) ∧ (m_w (v3 + 3)) < xn then if 0 ≤ (m_w (v3 + 4)) ∧ (m_w (v3 + 4)) < xn then if m_t h v1 = 10 then t10_speed v1 (xs (m_w (v3 + 1))) (xs (m_w (v3 + 2))) (xs (m_w (v3 + 3))) (xs (m_w (v3 + 4))) h >>= fun ⟨r119, h118⟩ => if m_t h118 v2 = 11 then t11_speed v2 (xs (m_w (v3 + 1))) (xs (m_w (v3 + 2))) (xs (m_w (v3 + 3))) (xs (m_w (v3 + 4))) h118 >>= fun ⟨r122, h121⟩ => (if (m_w r119) = (m_w r122) then
      (tL_law_c18 xn xs v0 v1 v2 (v3 + 6) h121)
    else
      some (false, h121)) else none else none else none else none else none else none)
  else (if (m_w (m_and (xs (m_w v3)) 63)) = 12 then
    (if 0 ≤ (m_w (v3 + 1)) ∧ (m_w (v3 + 1)) < xn then if m_t h v1 = 10 then t10_lose v1 (xs (m_w (v3 + 1))) h >>= fun ⟨r128, h127⟩ => if m_t h127 v2 = 11 then t11_lose v2 (xs (m_w (v3 + 1))) h127 >>= fun ⟨r131, h130⟩ => (if (m_w (m_b2i r128)) = (m_w (m_b2i r131)) then
      (tL_law_c18 xn xs v0 v1 v2 (v3 + 6) h130)
    else
      some (false, h130)) else none else none else none)
  else (if (m_w (m_and (xs (m_w v3)) 63)) = 13 then
    (if 0 ≤ (m_w (v3 + 1)) ∧ (m_w (v3 + 1)) < xn then if 0 ≤ (m_w (v3 + 2)) ∧ (m_w (v3 + 2)) < xn then if m_t h v1 = 10 then t10_hang v1 (xs (m_w (v3 + 1))) (xs (m_w (v3 + 2))) h >>= fun ⟨r138, h137⟩ => if m_t h137 v2 = 11 then t11_hang v2 (xs (m_w (v3 + 1))) (xs (m_w (v3 + 2))) h137 >>= fun ⟨r141, h140⟩ => (if (m_w (m_b2i r138)) = (m_w (m_b2i r141)) then
      (tL_law_c18 xn xs v0 v1 v2 (v3 + 6) h140)
    else
      some (false, h140)) else none else none else none else none)
  else (if (m_w (m_and (xs (m_w v3)) 63)) = 14 then
    (if 0 ≤ (m_w (v3 + 1)) ∧ (m_w (v3 + 1)) < xn then if m_t h v1 = 10 then t10_nail v1 (xs (m_w (v3 + 1))) h >>= fun ⟨r147, h146⟩ => if m_t h146 v2 = 11 then t11_nail v2 (xs (m_w (v3 + 1))) h146 >>= fun ⟨r150, h149⟩ => (if (m_w r147) = (m_w r150) then
      (tL_law_c18 xn xs v0 v1 v2 (v3 + 6) h149)
    else
      some (false, h149)) else none else none else none)
  else (if (m_w (m_and (xs (m_w v3)) 63)) = 15 then
    (if 0 ≤ (m_w (v3 + 1)) ∧ (m_w (v3 + 1)) < xn then if 0 ≤ (m_w (v3 + 2)) ∧ (m_w (v3 + 2)) < xn then if m_t h v1 = 10 then t10_read v1 (xs (m_w (v3 + 1))) (xs (m_w (v3 + 2))) h >>= fun ⟨r157, h156⟩ => if m_t h156 v2 = 11 then t11_read v2 (xs (m_w (v3 + 1))) (xs (m_w (v3 + 2))) h156 >>= fun ⟨r160, h159⟩ => (if (m_w (m_b2i r157)) = (m_w (m_b2i r160)) then
      (tL_law_c18 xn xs v0 v1 v2 (v3 + 6) h159)
    else
      some (false, h159)) else none else none else none else none)
  else (if (m_w (m_and (xs (m_w v3)) 63)) = 16 then
    (if 0 ≤ (m_w (v3 + 1)) ∧ (m_w (v3 + 1)) < xn then if 0 ≤ (m_w (v3 + 2)) ∧ (m_w (v3 + 2)) < xn then if m_t h v1 = 10 then t10_marked v1 (xs (m_w (v3 + 1))) (xs (m_w (v3 + 2))) h >>= fun ⟨r167, h166⟩ => if m_t h166 v2 = 11 then t11_marked v2 (xs (m_w (v3 + 1))) (xs (m_w (v3 + 2))) h166 >>= fun ⟨r170, h169⟩ => (if (m_w r167) = (m_w r170) then
      (tL_law_c18 xn xs v0 v1 v2 (v3 + 6) h169)
    else
      some (false, h169)) else none else none else none else none)
  else (if (m_w (m_and (xs (m_w v3)) 63)) = 17 then
    (if 0 ≤ (m_w (v3 + 1)) ∧ (m_w (v3 + 1)) < xn then if m_t h v1 = 10 then t10_go v1 (xs (m_w (v3 + 1))) h >>= fun ⟨r176, h175⟩ => if m_t h175 v2 = 11 then t11_go v2 (xs (m_w (v3 + 1))) h175 >>= fun ⟨r179, h178⟩ => (if (m_w r176) = (m_w r179) then
      (tL_law_c18 xn xs v0 v1 v2 (v3 + 6) h178)
    else
      some (false, h178)) else none else none else none)
  else (if (m_w (m_and (xs (m_w v3)) 63)) = 18 then
    (if 0 ≤ (m_w (v3 + 1)) ∧ (m_w (v3 + 1)) < xn then if 0 ≤ (m_w (v3 + 2)) ∧ (m_w (v3 + 2)) < xn then if m_t h v1 = 10 then t10_sample v1 (xs (m_w (v3 + 1))) (xs (m_w (v3 + 2))) h >>= fun ⟨r186, h185⟩ => if m_t h185 v2 = 11 then t11_sample v2 (xs (m_w (v3 + 1))) (xs (m_w (v3 + 2))) h185 >>= fun ⟨r189, h188⟩ => (if (m_w r186) = (m_w r189) then
      (tL_law_c18 xn xs v0 v1 v2 (v3 + 6) h188)
    else
      some (false, h188)) else none else none else none else none)
  else (if (m_w (m_and (xs (m_w v3)) 63)) = 19 then
    (if 0 ≤ (m_w (v3 + 1)) ∧ (m_w (v3 + 1)) < xn then if 0 ≤ (m_w (v3 + 2)) ∧ (m_w (v3 + 2)) < xn then if m_t h v1 = 10 then t10_told v1 (xs (m_w (v3 + 1))) (xs (m_w (v3 + 2))) h >>= fun ⟨r196, h195⟩ => if m_t h195 v2 = 11 then t11_told v2 (xs (m_w (v3 + 1))) (xs (m_w (v3 + 2))) h195 >>= fun ⟨r199, h198⟩ => (if (m_w r196) = (m_w r199) then
      (tL_law_c18 xn xs v0 v1 v2 (v3 + 6) h198)
    else
      some (false, h198)) else none else none else none else none)
  else (if (m_w (m_and (xs (m_w v3)) 63)) = 20 then
    (if 0 ≤ (m_w (v3 + 1)) ∧ (m_w (v3 + 1)) < xn then if 0 ≤ (m_w (v3 + 2)) ∧ (m_w (v3 + 2)) < xn then if 0 ≤ (m_w (v3 + 3)) ∧ (m_w (v3 + 3)) < xn then if 0 ≤ (m_w (v3 + 4)) ∧ (m_w (v3 + 4)) < xn then if 0 ≤ (m_w (v3 + 5)) ∧ (m_w (v3 + 5)) < xn then if m_t h v1 = 10 then t10_feed v1 (xs (m_w (v3 + 1))) (xs (m_w (v3 + 2))) (xs (m_w (v3 + 3))) (xs (m_w (v3 + 4))) (xs (m_w (v3 + 5))) h >>= fun ⟨r209, h208⟩ => if m_t h208 v2 = 11 then t11_feed v2 (xs (m_w (v3 + 1))) (xs (m_w (v3 + 2))) (xs (m_w (v3 + 3))) (xs (m_w (v3 + 4))) (xs (m_w (v3 + 5))) h208 >>= fun ⟨r212, h211⟩ => (if (m_w r209) = (m_w r212) then
      (tL_law_c18 xn xs v0 v1 v2 (v3 + 6) h211)
    else
      some (false, h211)) else none else none else none else none else none else none else none)
  else (if (m_w (m_and (xs (m_w v3)) 63)) = 21 then
    (if 0 ≤ (m_w (v3 + 1)) ∧ (m_w (v3 + 1)) < xn then if m_t h v1 = 10 then t10_end v1 (xs (m_w (v3 + 1))) h >>= fun ⟨r218, h217⟩ => if m_t h217 v2 = 11 then t11_end v2 (xs (m_w (v3 + 1))) h217 >>= fun ⟨r221, h220⟩ => (if (m_w (m_b2i r218)) = (m_w (m_b2i r221)) then
      (tL_law_c18 xn xs v0 v1 v2 (v3 + 6) h220)
    else
      some (false, h220)) else none else none else none)
  else (if (m_w (m_and (xs (m_w v3)) 63)) = 22 then
    (if m_t h v1 = 10 then t10_fault v1 h >>= fun ⟨r226, h225⟩ => if m_t h225 v2 = 11 then t11_fault v2 h225 >>= fun ⟨r229, h228⟩ => (if (m_w r226) = (m_w r229) then
      (tL_law_c18 xn xs v0 v1 v2 (v3 + 6) h228)
    else
      some (false, h228)) else none else none)
  else (if (m_w (m_and (xs (m_w v3)) 63)) = 23 then
    (if m_t h v1 = 10 then t10_score v1 h >>= fun ⟨r234, h233⟩ => if m_t h233 v2 = 11 then t11_score v2 h233 >>= fun ⟨r237, h236⟩ => (if (m_w r234) = (m_w r237) then
      (tL_law_c18 xn xs v0 v1 v2 (v3 + 6) h236)
    else
      some (false, h236)) else none else none)
  else (if (m_w (m_and (xs (m_w v3)) 63)) = 24 then
    (if 0 ≤ (m_w (v3 + 1)) ∧ (m_w (v3 + 1)) < xn then if 0 ≤ (m_w (v3 + 2)) ∧ (m_w (v3 + 2)) < xn then if m_t h v1 = 10 then t10_make v1 (xs (m_w (v3 + 1))) (xs (m_w (v3 + 2))) h >>= fun ⟨r244, h243⟩ => if m_t h243 v2 = 11 then t11_make v2 (xs (m_w (v3 + 1))) (xs (m_w (v3 + 2))) h243 >>= fun ⟨r247, h246⟩ => (if (m_w r244) = (m_w r247) then
      (tL_law_c18 xn xs v0 v1 v2 (v3 + 6) h246)
    else
      some (false, h246)) else none else none else none else none)
  else (if (m_w (m_and (xs (m_w v3)) 63)) = 25 then
    (if 0 ≤ (m_w (v3 + 1)) ∧ (m_w (v3 + 1)) < xn then if 0 ≤ (m_w (v3 + 2)) ∧ (m_w (v3 + 2)) < xn then if m_t h v1 = 10 then t10_fails v1 (xs (m_w (v3 + 1))) (xs (m_w (v3 + 2))) h >>= fun ⟨r254, h253⟩ => if m_t h253 v2 = 11 then t11_fails_ v2 (xs (m_w (v3 + 1))) (xs (m_w (v3 + 2))) h253 >>= fun ⟨r257, h256⟩ => (if (m_w r254) = (m_w r257) then
      (tL_law_c18 xn xs v0 v1 v2 (v3 + 6) h256)
    else
      some (false, h256)) else none else none else none else none)
  else (if (m_w (m_and (xs (m_w v3)) 63)) = 26 then
    (if 0 ≤ (m_w (v3 + 1)) ∧ (m_w (v3 + 1)) < xn then if m_t h v1 = 10 then t10_out v1 (xs (m_w (v3 + 1))) h >>= fun ⟨r263, h262⟩ => if m_t h262 v2 = 11 then t11_out v2 (xs (m_w (v3 + 1))) h262 >>= fun ⟨r266, h265⟩ => (if (m_w r263) = (m_w r266) then
      (tL_law_c18 xn xs v0 v1 v2 (v3 + 6) h265)
    else
      some (false, h265)) else none else none else none)
  else (if (m_w (m_and (xs (m_w v3)) 63)) = 27 then
    (if 0 ≤ (m_w (v3 + 1)) ∧ (m_w (v3 + 1)) < xn then if 0 ≤ (m_w (v3 + 2)) ∧ (m_w (v3 + 2)) < xn then if m_t h v1 = 10 then t10_why v1 (xs (m_w (v3 + 1))) (xs (m_w (v3 + 2))) h >>= fun ⟨r273, h272⟩ => if m_t h272 v2 = 11 then t11_why v2 (xs (m_w (v3 + 1))) (xs (m_w (v3 + 2))) h272 >>= fun ⟨r276, h275⟩ => (if (m_w r273) = (m_w r276) then
      (tL_law_c18 xn xs v0 v1 v2 (v3 + 6) h275)
    else
      some (false, h275)) else none else none else none else none)
  else (if (m_w (m_and (xs (m_w v3)) 63)) = 28 then
    (if 0 ≤ (m_w (v3 + 1)) ∧ (m_w (v3 + 1)) < xn then if 0 ≤ (m_w (v3 + 2)) ∧ (m_w (v3 + 2)) < xn then if 0 ≤ (m_w (v3 + 3)) ∧ (m_w (v3 + 3)) < xn then if m_t h v1 = 10 then t10_lead v1 (xs (m_w (v3 + 1))) (xs (m_w (v3 + 2))) (xs (m_w (v3 + 3))) h >>= fun ⟨r284, h283⟩ => if m_t h283 v2 = 11 then t11_lead v2 (xs (m_w (v3 + 1))) (xs (m_w (v3 + 2))) (xs (m_w (v3 + 3))) h283 >>= fun ⟨r287, h286⟩ => (if (m_w r284) = (m_w r287) then
      (tL_law_c18 xn xs v0 v1 v2 (v3 + 6) h286)
    else
      some (false, h286)) else none else none else none else none else none)
  else (if (m_w (m_and (xs (m_w v3)) 63)) = 29 then
    (if 0 ≤ (m_w (v3 + 1)) ∧ (m_w (v3 + 1)) < xn then if m_t h v1 = 10 then t10_quarrel v1 (xs (m_w (v3 + 1))) h >>= fun ⟨r293, h292⟩ => if m_t h292 v2 = 11 then t11_quarrel v2 (xs (m_w (v3 + 1))) h292 >>= fun ⟨r296, h295⟩ => (if (m_w r293) = (m_w r296) then
      (tL_law_c18 xn xs v0 v1 v2 (v3 + 6) h295)
    else
      some (false, h295)) else none else none else none)
  else (if (m_w (m_and (xs (m_w v3)) 63)) = 30 then
    (if 0 ≤ (m_w (v3 + 1)) ∧ (m_w (v3 + 1)) < xn then if m_t h v1 = 10 then t10_open v1 (xs (m_w (v3 + 1))) h >>= fun ⟨r302, h301⟩ => if m_t h301 v2 = 11 then t11_open v2 (xs (m_w (v3 + 1))) h301 >>= fun ⟨r305, h304⟩ => (if (m_w r302) = (m_w r305) then
      (tL_law_c18 xn xs v0 v1 v2 (v3 + 6) h304)
    else
      some (false, h304)) else none else none else none)
  else (if (m_w (m_and (xs (m_w v3)) 63)) = 31 then
    (if 0 ≤ (m_w (v3 + 1)) ∧ (m_w (v3 + 1)) < xn then if m_t h v1 = 10 then t10_turns v1 (xs (m_w (v3 + 1))) h >>= fun ⟨r311, h310⟩ => if m_t h310 v2 = 11 then t11_turns v2 (xs (m_w (v3 + 1))) h310 >>= fun ⟨r314, h313⟩ => (if (m_w r311) = (m_w r314) then
      (tL_law_c18 xn xs v0 v1 v2 (v3 + 6) h313)
    else
      some (false, h313)) else none else none else none)
  else (if (m_w (m_and (xs (m_w v3)) 63)) = 32 then
    (if 0 ≤ (m_w (v3 + 1)) ∧ (m_w (v3 + 1)) < xn then if 0 ≤ (m_w (v3 + 2)) ∧ (m_w (v3 + 2)) < xn then if m_t h v1 = 10 then t10_turnOf v1 (xs (m_w (v3 + 1))) (xs (m_w (v3 + 2))) h >>= fun ⟨r321, h320⟩ => if m_t h320 v2 = 11 then t11_turnOf v2 (xs (m_w (v3 + 1))) (xs (m_w (v3 + 2))) h320 >>= fun ⟨r324, h323⟩ => (if (m_w r321) = (m_w r324) then
      (tL_law_c18 xn xs v0 v1 v2 (v3 + 6) h323)
    else
      some (false, h323)) else none else none else none else none)
  else (if (m_w (m_and (xs (m_w v3)) 63)) = 33 then
    (if 0 ≤ (m_w (v3 + 1)) ∧ (m_w (v3 + 1)) < xn then if m_t h v1 = 10 then t10_deep v1 (xs (m_w (v3 + 1))) h >>= fun ⟨r330, h329⟩ => if m_t h329 v2 = 11 then t11_deep v2 (xs (m_w (v3 + 1))) h329 >>= fun ⟨r333, h332⟩ => (if (m_w r330) = (m_w r333) then
      (tL_law_c18 xn xs v0 v1 v2 (v3 + 6) h332)
    else
      some (false, h332)) else none else none else none)
  else (if (m_w (m_and (xs (m_w v3)) 63)) = 34 then
    (if 0 ≤ (m_w (v3 + 1)) ∧ (m_w (v3 + 1)) < xn then if m_t h v1 = 10 then t10_tape v1 (xs (m_w (v3 + 1))) h >>= fun ⟨r339, h338⟩ => if m_t h338 v2 = 11 then t11_tape v2 (xs (m_w (v3 + 1))) h338 >>= fun ⟨r342, h341⟩ => (if (m_w r339) = (m_w r342) then
      (tL_law_c18 xn xs v0 v1 v2 (v3 + 6) h341)
    else
      some (false, h341)) else none else none else none)
  else (if (m_w (m_and (xs (m_w v3)) 63)) = 35 then
    (if m_t h v1 = 10 then t10_wipe v1 h >>= fun ⟨r347, h346⟩ => if m_t h346 v2 = 11 then t11_wipe v2 h346 >>= fun ⟨r350, h349⟩ => (if (m_w r347) = (m_w r350) then
      (tL_law_c18 xn xs v0 v1 v2 (v3 + 6) h349)
    else
      some (false, h349)) else none else none)
  else (if (m_w (m_and (xs (m_w v3)) 63)) = 36 then
    (if 0 ≤ (m_w (v3 + 1)) ∧ (m_w (v3 + 1)) < xn then if 0 ≤ (m_w (v3 + 2)) ∧ (m_w (v3 + 2)) < xn then if 0 ≤ (m_w (v3 + 3)) ∧ (m_w (v3 + 3)) < xn then if 0 ≤ (m_w (v3 + 4)) ∧ (m_w (v3 + 4)) < xn then if m_t h v1 = 10 then t10_near v1 (xs (m_w (v3 + 1))) (xs (m_w (v3 + 2))) (xs (m_w (v3 + 3))) (xs (m_w (v3 + 4))) h >>= fun ⟨r359, h358⟩ => if m_t h358 v2 = 11 then t11_near v2 (xs (m_w (v3 + 1))) (xs (m_w (v3 + 2))) (xs (m_w (v3 + 3))) (xs (m_w (v3 + 4))) h358 >>= fun ⟨r362, h361⟩ => (if (m_w r359) = (m_w r362) then
      (tL_law_c18 xn xs v0 v1 v2 (v3 + 6) h361)
    else
      some (false, h361)) else none else none else none else none else none else none)
  else (if (m_w (m_and (xs (m_w v3)) 63)) = 37 then
    (if 0 ≤ (m_w (v3 + 1)) ∧ (m_w (v3 + 1)) < xn then if 0 ≤ (m_w (v3 + 2)) ∧ (m_w (v3 + 2)) < xn then if 0 ≤ (m_w (v3 + 3)) ∧ (m_w (v3 + 3)) < xn then if m_t h v1 = 10 then t10_rivals v1 (xs (m_w (v3 + 1))) (xs (m_w (v3 + 2))) (xs (m_w (v3 + 3))) h >>= fun ⟨r370, h369⟩ => if m_t h369 v2 = 11 then t11_rivals v2 (xs (m_w (v3 + 1))) (xs (m_w (v3 + 2))) (xs (m_w (v3 + 3))) h369 >>= fun ⟨r373, h372⟩ => (if (m_w r370) = (m_w r373) then
      (tL_law_c18 xn xs v0 v1 v2 (v3 + 6) h372)
    else
      some (false, h372)) else none else none else none else none else none)
  else (if (m_w (m_and (xs (m_w v3)) 63)) = 38 then
    (if 0 ≤ (m_w (v3 + 1)) ∧ (m_w (v3 + 1)) < xn then if 0 ≤ (m_w (v3 + 2)) ∧ (m_w (v3 + 2)) < xn then if m_t h v1 = 10 then t10_remade v1 (xs (m_w (v3 + 1))) (xs (m_w (v3 + 2))) h >>= fun ⟨r380, h379⟩ => if m_t h379 v2 = 11 then t11_remade v2 (xs (m_w (v3 + 1))) (xs (m_w (v3 + 2))) h379 >>= fun ⟨r383, h382⟩ => (if (m_w r380) = (m_w r383) then
      (tL_law_c18 xn xs v0 v1 v2 (v3 + 6) h382)
    else
      some (false, h382)) else none else none else none else none)
  else (if (m_w (m_and (xs (m_w v3)) 63)) = 39 then
    (if 0 ≤ (m_w (v3 + 1)) ∧ (m_w (v3 + 1)) < xn then if 0 ≤ (m_w (v3 + 2)) ∧ (m_w (v3 + 2)) < xn then if 0 ≤ (m_w (v3 + 3)) ∧ (m_w (v3 + 3)) < xn then if m_t h v1 = 10 then t10_stretch v1 (xs (m_w (v3 + 1))) (xs (m_w (v3 + 2))) (xs (m_w (v3 + 3))) h >>= fun ⟨r391, h390⟩ => if m_t h390 v2 = 11 then t11_stretch v2 (xs (m_w (v3 + 1))) (xs (m_w (v3 + 2))) (xs (m_w (v3 + 3))) h390 >>= fun ⟨r394, h393⟩ => (if (m_w r391) = (m_w r394) then
      (tL_law_c18 xn xs v0 v1 v2 (v3 + 6) h393)
    else
      some (false, h393)) else none else none else none else none else none)
  else (if (m_w (m_and (xs (m_w v3)) 63)) = 40 then
    (if 0 ≤ (m_w (v3 + 1)) ∧ (m_w (v3 + 1)) < xn then if 0 ≤ (m_w (v3 + 2)) ∧ (m_w (v3 + 2)) < xn then if m_t h v1 = 10 then t10_unfound v1 (xs (m_w (v3 + 1))) (xs (m_w (v3 + 2))) h >>= fun ⟨r401, h400⟩ => if m_t h400 v2 = 11 then t11_unfound v2 (xs (m_w (v3 + 1))) (xs (m_w (v3 + 2))) h400 >>= fun ⟨r404, h403⟩ => (if (m_w r401) = (m_w r404) then
      (tL_law_c18 xn xs v0 v1 v2 (v3 + 6) h403)
    else
      some (false, h403)) else none else none else none else none)
  else (if (m_w (m_and (xs (m_w v3)) 63)) = 41 then
    (if 0 ≤ (m_w (v3 + 1)) ∧ (m_w (v3 + 1)) < xn then if m_t h v1 = 10 then t10_count v1 (xs (m_w (v3 + 1))) h >>= fun ⟨r410, h409⟩ => if m_t h409 v2 = 11 then t11_count v2 (xs (m_w (v3 + 1))) h409 >>= fun ⟨r413, h412⟩ => (if (m_w r410) = (m_w r413) then
      (tL_law_c18 xn xs v0 v1 v2 (v3 + 6) h412)
    else
      some (false, h412)) else none else none else none)
  else (tL_law_c18 xn xs v0 v1 v2 (v3 + 6) h))))))))))))))))))))))))))))))))))))))))))) else none)) else none)
partial_fixpoint
set_option maxRecDepth 100000 in
def tL_law (xn : Int) (xs : Int → Int) (v0 : Int) (h : m_H) : Option (Bool × m_H) :=
  (some (m_a h 10 10) >>= fun h1 => if 0 ≤ m_t h1 (m_n h) then t10_init (m_n h) h1 >>= fun ⟨_, h3⟩ => some (m_n h) >>= fun x5 => some (m_a h3 11 92) >>= fun h6 => if 0 ≤ m_t h6 (m_n h3) then t11_init (m_n h3) h6 >>= fun ⟨_, h8⟩ => some (m_n h3) >>= fun x10 => (tL_law_c18 xn xs v0 x5 x10 0 h8) else none else none)
