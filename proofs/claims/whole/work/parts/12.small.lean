/-! methods as small functions -/
def t0_init (v0 v1 v2 v3 v4 : Int) (h : m_H) : Option (Unit × m_H) :=
  (if 0 ≤ m_t h v0 then if m_t h v0 = 0 then some (m_p h v0 0 v1) >>= fun h3 => if m_t h3 v0 = 0 then some (m_p h3 v0 1 v2) >>= fun h5 => if m_t h5 v0 = 0 then some (m_p h5 v0 2 v3) >>= fun h7 => if m_t h7 v0 = 0 then some (m_p h7 v0 3 v4) >>= fun h9 => some ((), h9) else none else none else none else none else none)
def t0_copyPace (v0 : Int) (h : m_H) : Option (Int × m_H) :=
  (if m_t h v0 = 0 then some ((1000 + (m_g h v0 0)), h) else none)
def t5_init (v0 : Int) (h : m_H) : Option (Unit × m_H) :=
  (if 0 ≤ m_t h v0 then some (m_a h 20 0) >>= fun h2 => if m_t h2 v0 = 5 then some (m_p h2 v0 0 (m_n h)) >>= fun h4 => some ((), h4) else none else none)
def t1_init (v0 v1 v2 : Int) (h : m_H) : Option (Unit × m_H) :=
  (if 0 ≤ m_t h v0 then some (m_a h 5 2) >>= fun h2 => if 0 ≤ m_t h2 (m_n h) then t5_init (m_n h) h2 >>= fun ⟨_, h4⟩ => if m_t h4 v0 = 1 then some (m_p h4 v0 2 (m_n h)) >>= fun h7 => some (m_a h7 20 1000) >>= fun h8 => if m_t h8 v0 = 1 then some (m_p h8 v0 8 (m_n h7)) >>= fun h10 => some (m_a h10 20 1001) >>= fun h11 => if m_t h11 v0 = 1 then some (m_p h11 v0 9 (m_n h10)) >>= fun h13 => some (m_a h13 20 600) >>= fun h14 => if m_t h14 v0 = 1 then some (m_p h14 v0 10 (m_n h13)) >>= fun h16 => if m_t h16 v0 = 1 then some (m_p h16 v0 11 (-1)) >>= fun h18 => if m_t h18 v0 = 1 then some (m_p h18 v0 0 v1) >>= fun h20 => if m_t h20 v0 = 1 then some (m_p h20 v0 1 v2) >>= fun h22 => some ((), h22) else none else none else none else none else none else none else none else none else none)
def t1_forget (v0 : Int) (h : m_H) : Option (Unit × m_H) :=
  (if m_t h v0 = 1 then some (m_p h v0 11 (-1)) >>= fun h2 => some ((), h2) else none)
def t1_isAsked (v0 v1 : Int) (h : m_H) : Option (Bool × m_H) :=
  (if (m_w v0) < 1 then
  some (false, h)
else
  (if 100 < (m_w v0) then
    some (false, h)
  else
    (if (m_w v1) < 0 then
      some (false, h)
    else
      (if 65535 < (m_w v1) then
        some (false, h)
      else
        some (true, h)))))
def t7_known (v0 v1 : Int) (h : m_H) : Option (Int × m_H) :=
  (if (m_w v1) < 0 then
  some (0, h)
else
  (if m_t h v0 = 7 then (if (m_w v1) < (m_w (m_g h v0 1)) then
    (if 20 ≤ m_t h (m_g h v0 0) then (if (m_w v1) < (m_w (m_l h (m_g h v0 0))) then
      (if m_t h (m_g h v0 0) = 24 ∧ 0 ≤ (m_w v1) ∧ (m_w v1) < m_l h (m_g h v0 0) then some ((m_g h (m_g h v0 0) (m_w v1)), h) else none)
    else
      some (0, h)) else none)
  else
    some (0, h)) else none))
def t1_layable (v0 v1 : Int) (h : m_H) : Option (Int × m_H) :=
  (if m_t h v0 = 1 then if m_t h (m_g h v0 0) = 7 then t7_known (m_g h v0 0) v1 h >>= fun ⟨r4, h3⟩ => (if r4 = 0 then
  some (0, h3)
else
  (if m_t h3 r4 = 8 then (if (m_w (m_g h3 r4 4)) = 2 then
    some (0, h3)
  else
    some ((m_g h3 r4 3), h3)) else none)) else none else none)
def t5_resize (v0 v1 : Int) (h : m_H) : Option (Unit × m_H) :=
  (some (m_max v1 0) >>= fun x1 => if m_t h v0 = 5 then if 20 ≤ m_t h (m_g h v0 0) then (if (m_w (m_l h (m_g h v0 0))) < (m_w x1) then
  (if 0 ≤ (m_w (m_max x1 (2 * (m_l h (m_g h v0 0))))) ∧ (m_w (m_max x1 (2 * (m_l h (m_g h v0 0))))) < 60000000 then some (m_a h 20 (m_w (m_max x1 (2 * (m_l h (m_g h v0 0)))))) >>= fun h6 => some (m_n h) >>= fun x7 => if m_t h6 v0 = 5 then if 20 ≤ m_t h6 (m_g h6 v0 0) then if m_t h6 (m_g h6 v0 0) = 20 ∧ m_t h6 x7 = 20 ∧ 0 ≤ (m_w 0) ∧ 0 ≤ (m_w 0) ∧ 0 ≤ (m_w (m_l h6 (m_g h6 v0 0))) ∧ (m_w 0) + (m_w (m_l h6 (m_g h6 v0 0))) ≤ m_l h6 (m_g h6 v0 0) ∧ (m_w 0) + (m_w (m_l h6 (m_g h6 v0 0))) ≤ m_l h6 x7 then some (m_cp h6 (m_g h6 v0 0) (m_w 0) x7 (m_w 0) (m_w (m_l h6 (m_g h6 v0 0)))) >>= fun h11 => if m_t h11 v0 = 5 then some (m_p h11 v0 0 x7) >>= fun h13 => if m_t h13 v0 = 5 then some (m_p h13 v0 1 x1) >>= fun h15 => some ((), h15) else none else none else none else none else none else none)
else
  (some (m_p h v0 1 x1) >>= fun h16 => some ((), h16))) else none else none)
def t5_get (v0 v1 : Int) (h : m_H) : Option (Int × m_H) :=
  (if (m_w v1) < 0 then
  some (0, h)
else
  (if m_t h v0 = 5 then (if (m_w v1) < (m_w (m_g h v0 1)) then
    (if 20 ≤ m_t h (m_g h v0 0) then (if (m_w v1) < (m_w (m_l h (m_g h v0 0))) then
      (if m_t h (m_g h v0 0) = 20 ∧ 0 ≤ (m_w v1) ∧ (m_w v1) < m_l h (m_g h v0 0) then some ((m_g h (m_g h v0 0) (m_w v1)), h) else none)
    else
      some (0, h)) else none)
  else
    some (0, h)) else none))
def t10_nearest (v0 v1 v2 : Int) (h : m_H) : Option (Int × m_H) :=
  some ((m_max v0 (m_min v1 v2)), h)
def t5_set (v0 v1 v2 : Int) (h : m_H) : Option (Unit × m_H) :=
  (if (m_w v1) < 0 then
  some ((), h)
else
  (if m_t h v0 = 5 then (if (m_w v1) < (m_w (m_g h v0 1)) then
    (if 20 ≤ m_t h (m_g h v0 0) then (if (m_w v1) < (m_w (m_l h (m_g h v0 0))) then
      (t10_nearest (-32768) 32767 v2 h >>= fun ⟨r7, h6⟩ => if m_t h6 (m_g h v0 0) = 20 ∧ 0 ≤ (m_w v1) ∧ (m_w v1) < m_l h6 (m_g h v0 0) then some (m_p h6 (m_g h v0 0) (m_w v1) r7) >>= fun h9 => some ((), h9) else none)
    else
      some ((), h)) else none)
  else
    some ((), h)) else none))
def t5_fillTurned_c10 (v0 v1 v2 : Int) (h : m_H) : Option (Unit × m_H) :=
  (if m_t h v0 = 5 then (if (m_w v2) < (m_w (m_g h v0 1)) then
  (if m_t h v1 = 5 then t5_get v1 (((m_g h v0 1) - 1) - v2) h >>= fun ⟨r5, h4⟩ => if m_t h4 v0 = 5 then t5_set v0 v2 r5 h4 >>= fun ⟨_, h7⟩ => (t5_fillTurned_c10 v0 v1 (v2 + 1) h7) else none else none)
else
  some ((), h)) else none)
partial_fixpoint
def t5_fillTurned (v0 v1 : Int) (h : m_H) : Option (Unit × m_H) :=
  (if m_t h v1 = 5 then if m_t h v0 = 5 then t5_resize v0 (m_g h v1 1) h >>= fun ⟨_, h3⟩ => (t5_fillTurned_c10 v0 v1 0 h3) else none else none)
def t5_playedSize (v0 v1 v2 : Int) (h : m_H) : Option (Int × m_H) :=
  (if (m_w v1) < 1 then
  some (0, h)
else
  (if m_t h v0 = 5 then (if (m_w (m_g h v0 1)) < 1 then
    some (0, h)
  else
    (if (m_w v1) = 0 then none else some (((Int.tdiv (m_w (((m_g h v0 1) - 1) * v2)) (m_w v1)) + 1), h))) else none))
def t5_between (v0 v1 v2 : Int) (h : m_H) : Option (Int × m_H) :=
  (if (m_w v2) < 1 then
  some (0, h)
else
  (if (m_w v2) = 0 then none else some (Int.tdiv (m_w v1) (m_w v2)) >>= fun x2 => if m_t h v0 = 5 then t5_get v0 x2 h >>= fun ⟨r5, h4⟩ => if m_t h4 v0 = 5 then (if (m_w (x2 + 1)) < (m_w (m_g h4 v0 1)) then
    (if (m_w v2) = 0 then none else t5_get v0 (x2 + 1) h4 >>= fun ⟨r9, h8⟩ => if (m_w v2) = 0 then none else some ((r5 + (Int.tdiv (m_w ((Int.tmod (m_w v1) (m_w v2)) * (r9 - r5))) (m_w v2))), h8))
  else
    some (r5, h4)) else none else none))
def t5_fillPlayed_c17 (v0 v1 v2 v3 v4 v5 : Int) (h : m_H) : Option (Unit × m_H) :=
  (if (m_w v5) < (m_w v4) then
  (if m_t h v1 = 5 then t5_between v1 (v5 * v2) v3 h >>= fun ⟨r4, h3⟩ => if m_t h3 v0 = 5 then t5_set v0 v5 r4 h3 >>= fun ⟨_, h6⟩ => (t5_fillPlayed_c17 v0 v1 v2 v3 v4 (v5 + 1) h6) else none else none)
else
  some ((), h))
partial_fixpoint
def t5_fillPlayed (v0 v1 v2 v3 : Int) (h : m_H) : Option (Unit × m_H) :=
  (if m_t h v1 = 5 then t5_playedSize v1 v2 v3 h >>= fun ⟨r3, h2⟩ => if m_t h2 v0 = 5 then t5_resize v0 r3 h2 >>= fun ⟨_, h5⟩ => (t5_fillPlayed_c17 v0 v1 v2 v3 r3 0 h5) else none else none)
def t5_size (v0 : Int) (h : m_H) : Option (Int × m_H) :=
  (if m_t h v0 = 5 then some ((m_g h v0 1), h) else none)
def t5_fillPart_c8 (v0 v1 v2 v3 v4 : Int) (h : m_H) : Option (Unit × m_H) :=
  (if (m_w v4) < (m_w v3) then
  (if m_t h v1 = 5 then t5_get v1 (v2 + v4) h >>= fun ⟨r4, h3⟩ => if m_t h3 v0 = 5 then t5_set v0 v4 r4 h3 >>= fun ⟨_, h6⟩ => (t5_fillPart_c8 v0 v1 v2 v3 (v4 + 1) h6) else none else none)
else
  some ((), h))
partial_fixpoint
def t5_fillPart (v0 v1 v2 v3 : Int) (h : m_H) : Option (Unit × m_H) :=
  (if m_t h v0 = 5 then t5_resize v0 v3 h >>= fun ⟨_, h2⟩ => (t5_fillPart_c8 v0 v1 v2 v3 0 h2) else none)
def t1_fillWay (v0 v1 v2 : Int) (h : m_H) : Option (Unit × m_H) :=
  (if (m_w v2) = 1 then
  (if m_t h v0 = 1 then if m_t h (m_g h v0 2) = 5 then t5_fillTurned (m_g h v0 2) v1 h >>= fun ⟨_, h4⟩ => some ((), h4) else none else none)
else (if (m_w v2) = 2 then
  (if m_t h v0 = 1 then if m_t h (m_g h v0 2) = 5 then t5_fillPlayed (m_g h v0 2) v1 1 2 h >>= fun ⟨_, h9⟩ => some ((), h9) else none else none)
else (if (m_w v2) = 3 then
  (if m_t h v0 = 1 then if m_t h (m_g h v0 2) = 5 then t5_fillPlayed (m_g h v0 2) v1 2 1 h >>= fun ⟨_, h14⟩ => some ((), h14) else none else none)
else (if m_t h v0 = 1 then if m_t h v1 = 5 then t5_size v1 h >>= fun ⟨r19, h18⟩ => if m_t h18 (m_g h v0 2) = 5 then t5_fillPart (m_g h v0 2) v1 0 r19 h18 >>= fun ⟨_, h21⟩ => some ((), h21) else none else none else none))))
def t1_missAt_c6 (v0 v1 v2 v3 v4 v5 v6 : Int) (h : m_H) : Option (Int × m_H) :=
  (if (m_w v6) < (m_w v3) then
  (if m_t h v0 = 1 then if m_t h (m_g h v0 1) = 5 then t5_get (m_g h v0 1) (v2 + v6) h >>= fun ⟨r5, h4⟩ => if m_t h4 v0 = 1 then if m_t h4 (m_g h4 v0 2) = 5 then t5_get (m_g h4 v0 2) (v1 + v6) h4 >>= fun ⟨r9, h8⟩ => some (m_abs (r5 - r9)) >>= fun x10 => (if (m_w v4) < (m_w x10) then
    some ((-1), h8)
  else
    (some (v5 + x10) >>= fun x12 => (t1_missAt_c6 v0 v1 v2 v3 v4 x12 (v6 + 1) h8))) else none else none else none else none)
else
  some (v5, h))
partial_fixpoint
def t1_missAt (v0 v1 v2 v3 v4 : Int) (h : m_H) : Option (Int × m_H) :=
  (t1_missAt_c6 v0 v1 v2 v3 v4 0 0 h)
def t1_searchWay_x3 (cc : Int) (v0 v1 v2 v3 v4 v5 v6 v7 : Int) (h : m_H) : Option (Unit × m_H) :=
  if cc = 3 then
  (if m_t h v0 = 1 then if m_t h (m_g h v0 2) = 5 then t5_size (m_g h v0 2) h >>= fun ⟨r4, h3⟩ => (if (m_w (r4 - v4)) < (m_w v6) then
    some ((), h3)
  else
    (if m_t h3 v0 = 1 then t1_missAt v0 v6 v3 v4 v5 h3 >>= fun ⟨r8, h7⟩ => (if (m_w r8) = (-1) then
      (t1_searchWay_x3 3 v0 v1 v2 v3 v4 v5 (v6 + 1) 0 h7)
    else
      (if m_t h7 v0 = 1 then (if (m_w (m_g h7 v0 7)) = 0 then
        (t1_searchWay_x3 56 v0 v1 v2 v3 v4 v5 v6 r8 h7)
      else
        (if (m_w r8) < (m_w (m_g h7 v0 6)) then
          (t1_searchWay_x3 56 v0 v1 v2 v3 v4 v5 v6 r8 h7)
        else
          (t1_searchWay_x3 78 v0 v1 v2 v3 v4 v5 v6 0 h7))) else none)) else none)) else none else none)
  else if cc = 56 then
  (if m_t h v0 = 1 then some (m_p h v0 3 v1) >>= fun h2 => if m_t h2 v0 = 1 then some (m_p h2 v0 4 v2) >>= fun h4 => if m_t h4 v0 = 1 then some (m_p h4 v0 5 v6) >>= fun h6 => if m_t h6 v0 = 1 then some (m_p h6 v0 6 v7) >>= fun h8 => (t1_searchWay_x3 78 v0 v1 v2 v3 v4 v5 v6 0 h8) else none else none else none else none)
  else if cc = 78 then
  (if m_t h v0 = 1 then some (m_p h v0 7 ((m_g h v0 7) + 1)) >>= fun h2 => (t1_searchWay_x3 3 v0 v1 v2 v3 v4 v5 (v6 + 1) 0 h2) else none)
  else none
partial_fixpoint
def t1_searchWay (v0 v1 v2 v3 v4 v5 : Int) (h : m_H) : Option (Unit × m_H) :=
  (t1_searchWay_x3 3 v0 v1 v2 v3 v4 v5 0 0 h)
def t1_search_x35 (cc : Int) (v0 v1 v2 v3 v4 v5 v6 : Int) (h : m_H) : Option (Bool × m_H) :=
  if cc = 35 then
  (if m_t h v0 = 1 then if m_t h (m_g h v0 0) = 7 then (if (m_w v4) < (m_w (m_g h (m_g h v0 0) 1)) then
    (t1_layable v0 v4 h >>= fun ⟨r5, h4⟩ => (t1_search_x35 58 v0 v1 v2 v3 v4 r5 0 h4))
  else
    (if 0 < (m_w (m_g h v0 7)) then
      some (true, h)
    else
      some (false, h))) else none else none)
  else if cc = 58 then
  (if (m_w v6) < 4 then
    (if v5 = 0 then
      (t1_search_x35 35 v0 v1 v2 v3 (v4 + 1) 0 0 h)
    else
      (if m_t h v0 = 1 then t1_fillWay v0 v5 v6 h >>= fun ⟨_, h4⟩ => if m_t h4 v0 = 1 then t1_searchWay v0 v4 v6 v1 v2 v3 h4 >>= fun ⟨_, h7⟩ => (t1_search_x35 58 v0 v1 v2 v3 v4 v5 (v6 + 1) h7) else none else none))
  else
    (t1_search_x35 35 v0 v1 v2 v3 (v4 + 1) 0 0 h))
  else none
partial_fixpoint
def t1_search (v0 v1 v2 v3 : Int) (h : m_H) : Option (Bool × m_H) :=
  (if m_t h v0 = 1 then some (m_p h v0 7 0) >>= fun h2 => t1_isAsked v2 v3 h2 >>= fun ⟨r4, h3⟩ => (if r4 = true then
  (if (m_w v1) < 0 then
    some (false, h3)
  else
    (if m_t h3 v0 = 1 then if m_t h3 (m_g h3 v0 1) = 5 then t5_size (m_g h3 v0 1) h3 >>= fun ⟨r10, h9⟩ => (if (m_w (r10 - v2)) < (m_w v1) then
      some (false, h9)
    else
      (t1_search_x35 35 v0 v1 v2 v3 0 0 0 h9)) else none else none))
else
  some (false, h3)) else none)
def t1_best (v0 v1 : Int) (h : m_H) : Option (Int × m_H) :=
  (if (m_w v1) = 0 then
  (if m_t h v0 = 1 then some ((m_g h v0 3), h) else none)
else (if (m_w v1) = 1 then
  (if m_t h v0 = 1 then some ((m_g h v0 4), h) else none)
else (if (m_w v1) = 2 then
  (if m_t h v0 = 1 then some ((m_g h v0 5), h) else none)
else (if (m_w v1) = 3 then
  (if m_t h v0 = 1 then some ((m_g h v0 6), h) else none)
else some ((-1), h)))))
def tJ7_fill_53178_c5 (v0 v1 v2 v3 : Int) (h : m_H) : Option (Unit × m_H) :=
  (if (m_w v2) < (m_w v3) then
  (if m_t h v0 = 20 ∧ 0 ≤ (m_w v2) ∧ (m_w v2) < m_l h v0 then some (m_p h v0 (m_w v2) v1) >>= fun h3 => (tJ7_fill_53178_c5 v0 v1 (v2 + 1) v3 h3) else none)
else
  some ((), h))
partial_fixpoint
def tJ7_fill_53178 (v0 v1 : Int) (h : m_H) : Option (Unit × m_H) :=
  (if 20 ≤ m_t h v0 then some (m_l h v0) >>= fun x2 => (tJ7_fill_53178_c5 v0 v1 0 x2 h) else none)
def t10_entry (v0 v1 v2 : Int) (h : m_H) : Option (Int × m_H) :=
  (if (m_w v1) < 0 then
  some (v2, h)
else
  (if 20 ≤ m_t h v0 then (if (m_w v1) < (m_w (m_l h v0)) then
    (if m_t h v0 = 20 ∧ 0 ≤ (m_w v1) ∧ (m_w v1) < m_l h v0 then some ((m_g h v0 (m_w v1)), h) else none)
  else
    some (v2, h)) else none))
def t1_longestFrom (v0 v1 : Int) (h : m_H) : Option (Int × m_H) :=
  (if m_t h v0 = 1 then t10_entry (m_g h v0 8) v1 0 h >>= fun ⟨r3, h2⟩ => some (r3, h2) else none)
def t10_setEntry (v0 v1 v2 : Int) (h : m_H) : Option (Unit × m_H) :=
  (if (m_w v1) < 0 then
  some ((), h)
else
  (if 20 ≤ m_t h v0 then (if (m_w v1) < (m_w (m_l h v0)) then
    (if m_t h v0 = 20 ∧ 0 ≤ (m_w v1) ∧ (m_w v1) < m_l h v0 then some (m_p h v0 (m_w v1) v2) >>= fun h5 => some ((), h5) else none)
  else
    some ((), h)) else none))
def t1_measureWay_x50 (cc : Int) (v0 v1 v2 v3 v4 v5 v6 v7 : Int) (h : m_H) : Option (Unit × m_H) :=
  if cc = 50 then
  (if (m_w v4) < 0 then
    some ((), h)
  else
    (if m_t h v0 = 1 then if m_t h (m_g h v0 1) = 5 then t5_get (m_g h v0 1) v4 h >>= fun ⟨r5, h4⟩ => if m_t h4 v0 = 1 then t1_longestFrom v0 v4 h4 >>= fun ⟨r8, h7⟩ => (t1_measureWay_x50 77 v0 v1 v2 v3 v4 r5 r8 0 h7) else none else none else none))
  else if cc = 77 then
  (if (m_w v7) < (m_w v3) then
    (if m_t h v2 = 20 ∧ 0 ≤ (m_w v7) ∧ (m_w v7) < m_l h v2 then some (m_abs (v5 - (m_g h v2 (m_w v7)))) >>= fun x3 => (if (m_w v1) < (m_w x3) then
      (if m_t h v0 = 1 then if m_t h (m_g h v0 10) = 20 ∧ 0 ≤ (m_w v7) ∧ (m_w v7) < m_l h (m_g h v0 10) then some (m_p h (m_g h v0 10) (m_w v7) 0) >>= fun h7 => (if (m_w v6) < 0 then
        (t1_measureWay_x50 77 v0 v1 v2 v3 v4 v5 0 (v7 + 1) h7)
      else
        (t1_measureWay_x50 77 v0 v1 v2 v3 v4 v5 v6 (v7 + 1) h7)) else none else none)
    else
      (if m_t h v0 = 1 then if m_t h (m_g h v0 10) = 20 ∧ 0 ≤ (m_w (v7 + 1)) ∧ (m_w (v7 + 1)) < m_l h (m_g h v0 10) then some ((m_g h (m_g h v0 10) (m_w (v7 + 1))) + 1) >>= fun x11 => if m_t h (m_g h v0 10) = 20 ∧ 0 ≤ (m_w v7) ∧ (m_w v7) < m_l h (m_g h v0 10) then some (m_p h (m_g h v0 10) (m_w v7) x11) >>= fun h13 => (if (m_w v6) < (m_w x11) then
        (t1_measureWay_x50 77 v0 v1 v2 v3 v4 v5 x11 (v7 + 1) h13)
      else
        (t1_measureWay_x50 77 v0 v1 v2 v3 v4 v5 v6 (v7 + 1) h13)) else none else none else none)) else none)
  else
    (if m_t h v0 = 1 then t10_setEntry (m_g h v0 8) v4 v6 h >>= fun ⟨_, h16⟩ => (t1_measureWay_x50 50 v0 v1 v2 v3 (v4 + (-1)) 0 0 0 h16) else none))
  else none
partial_fixpoint
def t1_measureWay (v0 v1 : Int) (h : m_H) : Option (Unit × m_H) :=
  (if m_t h v0 = 1 then if m_t h (m_g h v0 2) = 5 then some (m_g h (m_g h v0 2) 0) >>= fun x3 => t5_size (m_g h v0 2) h >>= fun ⟨r5, h4⟩ => if 20 ≤ m_t h4 x3 then if m_t h4 v0 = 1 then if 20 ≤ m_t h4 (m_g h4 v0 10) then some (m_min r5 (m_min (m_l h4 x3) ((m_l h4 (m_g h4 v0 10)) - 1))) >>= fun x9 => tJ7_fill_53178 (m_g h4 v0 10) 0 h4 >>= fun ⟨_, h10⟩ => if m_t h10 v0 = 1 then if m_t h10 (m_g h10 v0 1) = 5 then t5_size (m_g h10 v0 1) h10 >>= fun ⟨r15, h14⟩ => some (r15 - 1) >>= fun x16 => (t1_measureWay_x50 50 v0 v1 x3 x9 x16 0 0 0 h14) else none else none else none else none else none else none else none)
def t1_measure_x33 (cc : Int) (v0 v1 v2 v3 v4 : Int) (h : m_H) : Option (Unit × m_H) :=
  if cc = 33 then
  (if m_t h v0 = 1 then if m_t h (m_g h v0 0) = 7 then (if (m_w v2) < (m_w (m_g h (m_g h v0 0) 1)) then
    (t1_layable v0 v2 h >>= fun ⟨r5, h4⟩ => (t1_measure_x33 53 v0 v1 v2 r5 0 h4))
  else
    (some (m_p h v0 11 v1) >>= fun h6 => if m_t h6 v0 = 1 then if m_t h6 (m_g h6 v0 0) = 7 then some (m_p h6 v0 12 (m_g h6 (m_g h6 v0 0) 11)) >>= fun h9 => some ((), h9) else none else none)) else none else none)
  else if cc = 53 then
  (if (m_w v4) < 4 then
    (if v3 = 0 then
      (t1_measure_x33 33 v0 v1 (v2 + 1) 0 0 h)
    else
      (if m_t h v0 = 1 then t1_fillWay v0 v3 v4 h >>= fun ⟨_, h4⟩ => if m_t h4 v0 = 1 then t1_measureWay v0 v1 h4 >>= fun ⟨_, h7⟩ => (t1_measure_x33 53 v0 v1 v2 v3 (v4 + 1) h7) else none else none))
  else
    (t1_measure_x33 33 v0 v1 (v2 + 1) 0 0 h))
  else none
partial_fixpoint
def t1_measure_c23 (v0 v1 : Int) (h : m_H) : Option (Unit × m_H) :=
  (if m_t h v0 = 1 then tJ7_fill_53178 (m_g h v0 8) 0 h >>= fun ⟨_, h2⟩ => (t1_measure_x33 33 v0 v1 0 0 0 h2) else none)
def t1_measure (v0 v1 : Int) (h : m_H) : Option (Unit × m_H) :=
  (if m_t h v0 = 1 then (if (m_w (m_g h v0 11)) = (m_w v1) then
  (if m_t h (m_g h v0 0) = 7 then (if (m_w (m_g h v0 12)) = (m_w (m_g h (m_g h v0 0) 11)) then
    some ((), h)
  else
    (t1_measure_c23 v0 v1 h)) else none)
else
  (t1_measure_c23 v0 v1 h)) else none)
def t1_fewestFrom (v0 v1 : Int) (h : m_H) : Option (Int × m_H) :=
  (if m_t h v0 = 1 then t10_entry (m_g h v0 9) v1 1000000 h >>= fun ⟨r3, h2⟩ => some (r3, h2) else none)
def t1_coveredBy_x40 (cc : Int) (v0 v1 v3 v4 v5 : Int) (h : m_H) : Option (Bool × m_H) :=
  if cc = 40 then
  (if (m_w v3) < 0 then
    (if m_t h v0 = 1 then t1_fewestFrom v0 0 h >>= fun ⟨r4, h3⟩ => (if (m_w r4) < 1000000 then
      some (true, h3)
    else
      some (false, h3)) else none)
  else
    (t1_coveredBy_x40 51 v0 v1 v3 1000000 v1 h))
  else if cc = 51 then
  (if m_t h v0 = 1 then t1_longestFrom v0 v3 h >>= fun ⟨r3, h2⟩ => (if (m_w r3) < (m_w v5) then
    (if m_t h2 v0 = 1 then t10_setEntry (m_g h2 v0 9) v3 v4 h2 >>= fun ⟨_, h6⟩ => (t1_coveredBy_x40 40 v0 v1 (v3 + (-1)) 0 0 h6) else none)
  else
    (if m_t h2 v0 = 1 then t1_fewestFrom v0 (v3 + v5) h2 >>= fun ⟨r10, h9⟩ => some (m_min v4 (r10 + 1)) >>= fun x11 => (t1_coveredBy_x40 51 v0 v1 v3 x11 (v5 + 1) h9) else none)) else none)
  else none
partial_fixpoint
def t1_coveredBy (v0 v1 v2 : Int) (h : m_H) : Option (Bool × m_H) :=
  (t1_isAsked v1 v2 h >>= fun ⟨r2, h1⟩ => (if r2 = true then
  (if m_t h1 v0 = 1 then t1_measure v0 v2 h1 >>= fun ⟨_, h5⟩ => if m_t h5 v0 = 1 then if m_t h5 (m_g h5 v0 1) = 5 then t5_size (m_g h5 v0 1) h5 >>= fun ⟨r10, h9⟩ => t10_setEntry (m_g h5 v0 9) r10 0 h9 >>= fun ⟨_, h11⟩ => if m_t h11 v0 = 1 then if m_t h11 (m_g h11 v0 1) = 5 then t5_size (m_g h11 v0 1) h11 >>= fun ⟨r16, h15⟩ => some (r16 - 1) >>= fun x17 => (t1_coveredBy_x40 40 v0 v1 x17 0 0 h15) else none else none else none else none else none)
else
  some (false, h1)))
def t1_stretches (v0 : Int) (h : m_H) : Option (Int × m_H) :=
  (if m_t h v0 = 1 then t1_fewestFrom v0 0 h >>= fun ⟨r3, h2⟩ => some (r3, h2) else none)
def t1_longestOfFewest_c6 (v0 v1 v2 v3 : Int) (h : m_H) : Option (Int × m_H) :=
  (if (m_w v3) < (m_w v2) then
  some (0, h)
else
  (if m_t h v0 = 1 then t1_fewestFrom v0 (v1 + v3) h >>= fun ⟨r4, h3⟩ => if m_t h3 v0 = 1 then t1_fewestFrom v0 v1 h3 >>= fun ⟨r7, h6⟩ => (if (m_w (r4 + 1)) = (m_w r7) then
    some (v3, h6)
  else
    (t1_longestOfFewest_c6 v0 v1 v2 (v3 + (-1)) h6)) else none else none))
partial_fixpoint
def t1_longestOfFewest (v0 v1 v2 : Int) (h : m_H) : Option (Int × m_H) :=
  (if m_t h v0 = 1 then t1_longestFrom v0 v1 h >>= fun ⟨r3, h2⟩ => (t1_longestOfFewest_c6 v0 v1 v2 r3 h2) else none)
def t1_stretchBegin_c19 (v0 v1 v2 v3 v4 : Int) (h : m_H) : Option (Int × m_H) :=
  (if (m_w v4) < (m_w v2) then
  (if m_t h v0 = 1 then t1_longestOfFewest v0 v3 v1 h >>= fun ⟨r4, h3⟩ => some (v3 + r4) >>= fun x5 => (t1_stretchBegin_c19 v0 v1 v2 x5 (v4 + 1) h3) else none)
else
  some (v3, h))
partial_fixpoint
def t1_stretchBegin (v0 v1 v2 : Int) (h : m_H) : Option (Int × m_H) :=
  (if (m_w v2) < 0 then
  some ((-1), h)
else
  (if m_t h v0 = 1 then t1_stretches v0 h >>= fun ⟨r4, h3⟩ => (if (m_w v2) < (m_w r4) then
    (t1_stretchBegin_c19 v0 v1 v2 0 0 h3)
  else
    some ((-1), h3)) else none))
def t1_firstUnfound_x20 (cc : Int) (v0 v1 v3 v4 : Int) (h : m_H) : Option (Int × m_H) :=
  if cc = 20 then
  (if m_t h v0 = 1 then if m_t h (m_g h v0 1) = 5 then t5_size (m_g h v0 1) h >>= fun ⟨r4, h3⟩ => (if (m_w v4) < (m_w r4) then
    (if m_t h3 v0 = 1 then t1_longestFrom v0 v4 h3 >>= fun ⟨r8, h7⟩ => (if (m_w r8) < (m_w v1) then
      (t1_firstUnfound_x20 47 v0 v1 v3 v4 h7)
    else
      (some (v4 + v1) >>= fun x10 => (t1_firstUnfound_x20 47 v0 v1 x10 v4 h7))) else none)
  else
    some ((-1), h3)) else none else none)
  else if cc = 47 then
  (if (m_w v4) < (m_w v3) then
    (t1_firstUnfound_x20 20 v0 v1 v3 (v4 + 1) h)
  else
    some (v4, h))
  else none
partial_fixpoint
def t1_firstUnfound (v0 v1 v2 : Int) (h : m_H) : Option (Int × m_H) :=
  (t1_isAsked v1 v2 h >>= fun ⟨r2, h1⟩ => (if r2 = true then
  (if m_t h1 v0 = 1 then t1_measure v0 v2 h1 >>= fun ⟨_, h5⟩ => (t1_firstUnfound_x20 20 v0 v1 0 0 h5) else none)
else
  some ((-1), h1)))
def t6_init (v0 v1 v2 : Int) (h : m_H) : Option (Unit × m_H) :=
  (if 0 ≤ m_t h v0 then some (m_a h 20 40) >>= fun h2 => if m_t h2 v0 = 6 then some (m_p h2 v0 3 (m_n h)) >>= fun h4 => if m_t h4 v0 = 6 then some (m_p h4 v0 0 v1) >>= fun h6 => if m_t h6 v0 = 6 then some (m_p h6 v0 1 v2) >>= fun h8 => some ((), h8) else none else none else none else none)
def t2_init (v0 v1 : Int) (h : m_H) : Option (Unit × m_H) :=
  (if 0 ≤ m_t h v0 then some (m_a h 5 2) >>= fun h2 => if 0 ≤ m_t h2 (m_n h) then t5_init (m_n h) h2 >>= fun ⟨_, h4⟩ => if m_t h4 v0 = 2 then some (m_p h4 v0 1 (m_n h)) >>= fun h7 => some (m_a h7 6 4) >>= fun h8 => some (m_a h8 20 0) >>= fun h9 => if 0 ≤ m_t h9 (m_n h7) then t6_init (m_n h7) (m_n h8) 0 h9 >>= fun ⟨_, h11⟩ => if m_t h11 v0 = 2 then some (m_p h11 v0 2 (m_n h7)) >>= fun h14 => if m_t h14 v0 = 2 then some (m_p h14 v0 3 (-1)) >>= fun h16 => some (m_a h16 20 40) >>= fun h17 => if m_t h17 v0 = 2 then some (m_p h17 v0 4 (m_n h16)) >>= fun h19 => some (m_a h19 20 40) >>= fun h20 => if m_t h20 v0 = 2 then some (m_p h20 v0 5 (m_n h19)) >>= fun h22 => if m_t h22 v0 = 2 then some (m_p h22 v0 0 v1) >>= fun h24 => some ((), h24) else none else none else none else none else none else none else none else none else none)
def t6_cell (v0 v1 v2 : Int) (h : m_H) : Option (Int × m_H) :=
  (some ((v1 * 8) + v2) >>= fun x1 => (if (m_w v1) < 0 then
  some ((-1), h)
else
  (if m_t h v0 = 6 then (if (m_w v1) < (m_w (m_g h v0 1)) then
    (if (m_w x1) < 0 then
      some ((-1), h)
    else
      (if 20 ≤ m_t h (m_g h v0 0) then (if (m_w x1) < (m_w (m_l h (m_g h v0 0))) then
        (if m_t h (m_g h v0 0) = 20 ∧ 0 ≤ (m_w x1) ∧ (m_w x1) < m_l h (m_g h v0 0) then some ((m_g h (m_g h v0 0) (m_w x1)), h) else none)
      else
        some ((-1), h)) else none))
  else
    some ((-1), h)) else none)))
def t6_isPut (v0 v1 : Int) (h : m_H) : Option (Bool × m_H) :=
  (if m_t h v0 = 6 then t6_cell v0 v1 0 h >>= fun ⟨r3, h2⟩ => (if (m_w r3) = 12 then
  some (true, h2)
else
  some (false, h2)) else none)
def t6_one (v0 v1 : Int) (h : m_H) : Option (Int × m_H) :=
  (if m_t h v0 = 6 then t6_cell v0 v1 1 h >>= fun ⟨r3, h2⟩ => some (r3, h2) else none)
def t3_row (v0 v1 : Int) (h : m_H) : Option (Int × m_H) :=
  (if (m_w v1) < 0 then
  (if m_t h v0 = 3 then some ((m_g h v0 2), h) else none)
else
  (if m_t h v0 = 3 then if 20 ≤ m_t h (m_g h v0 1) then (if (m_w v1) < (m_w (m_l h (m_g h v0 1))) then
    (if m_t h (m_g h v0 1) = 27 ∧ 0 ≤ (m_w v1) ∧ (m_w v1) < m_l h (m_g h v0 1) then some ((m_g h (m_g h v0 1) (m_w v1)), h) else none)
  else
    some ((m_g h v0 2), h)) else none else none))
def t2_times (v0 v1 : Int) (h : m_H) : Option (Int × m_H) :=
  (if m_t h v0 = 2 then if m_t h (m_g h v0 2) = 6 then t6_cell (m_g h v0 2) v1 6 h >>= fun ⟨r4, h3⟩ => some (r4, h3) else none else none)
def t2_beginOf (v0 v1 v2 : Int) (h : m_H) : Option (Int × m_H) :=
  (if m_t h v0 = 2 then if m_t h (m_g h v0 2) = 6 then t6_cell (m_g h v0 2) v1 3 h >>= fun ⟨r4, h3⟩ => if m_t h3 v0 = 2 then if m_t h3 (m_g h3 v0 2) = 6 then t6_cell (m_g h3 v0 2) v1 7 h3 >>= fun ⟨r8, h7⟩ => some ((r4 + (v2 * r8)), h7) else none else none else none else none)
def t2_length (v0 v1 : Int) (h : m_H) : Option (Int × m_H) :=
  (if m_t h v0 = 2 then t10_entry (m_g h v0 4) v1 0 h >>= fun ⟨r3, h2⟩ => some (r3, h2) else none)
def t5_silence (v0 v1 : Int) (h : m_H) : Option (Unit × m_H) :=
  (if m_t h v0 = 5 then t5_resize v0 v1 h >>= fun ⟨_, h2⟩ => if m_t h2 v0 = 5 then tJ7_fill_53178 (m_g h2 v0 0) 0 h2 >>= fun ⟨_, h5⟩ => some ((), h5) else none else none)
def t5_raise (v0 v1 v2 : Int) (h : m_H) : Option (Unit × m_H) :=
  (if (m_w v1) < 0 then
  some ((), h)
else
  (if m_t h v0 = 5 then (if (m_w v1) < (m_w (m_g h v0 1)) then
    (if 20 ≤ m_t h (m_g h v0 0) then (if (m_w v1) < (m_w (m_l h (m_g h v0 0))) then
      (if m_t h (m_g h v0 0) = 20 ∧ 0 ≤ (m_w v1) ∧ (m_w v1) < m_l h (m_g h v0 0) then some (m_p h (m_g h v0 0) (m_w v1) ((m_g h (m_g h v0 0) (m_w v1)) + v2)) >>= fun h7 => some ((), h7) else none)
    else
      some ((), h)) else none)
  else
    some ((), h)) else none))
def t2_layPut_x2 (cc : Int) (v0 v1 v2 v3 v4 v5 : Int) (h : m_H) : Option (Unit × m_H) :=
  if cc = 2 then
  (if m_t h v0 = 2 then t2_times v0 v1 h >>= fun ⟨r3, h2⟩ => (if (m_w v3) < (m_w r3) then
    (if m_t h2 v0 = 2 then t2_beginOf v0 v1 v3 h2 >>= fun ⟨r7, h6⟩ => (t2_layPut_x2 22 v0 v1 v2 v3 r7 0 h6) else none)
  else
    some ((), h2)) else none)
  else if cc = 22 then
  (if m_t h v2 = 5 then t5_size v2 h >>= fun ⟨r3, h2⟩ => (if (m_w v5) < (m_w r3) then
    (if m_t h2 v0 = 2 then if m_t h2 v2 = 5 then t5_get v2 v5 h2 >>= fun ⟨r8, h7⟩ => if m_t h7 (m_g h2 v0 1) = 5 then t5_raise (m_g h2 v0 1) (v4 + v5) r8 h7 >>= fun ⟨_, h10⟩ => (t2_layPut_x2 22 v0 v1 v2 v3 v4 (v5 + 1) h10) else none else none else none)
  else
    (t2_layPut_x2 2 v0 v1 v2 (v3 + 1) 0 0 h2)) else none)
  else none
partial_fixpoint
def t2_layPut (v0 v1 v2 : Int) (h : m_H) : Option (Unit × m_H) :=
  (t2_layPut_x2 2 v0 v1 v2 0 0 0 h)
def t5_limit_c2 (v0 v1 : Int) (h : m_H) : Option (Unit × m_H) :=
  (if m_t h v0 = 5 then (if (m_w v1) < (m_w (m_g h v0 1)) then
  (t5_get v0 v1 h >>= fun ⟨r4, h3⟩ => if m_t h3 v0 = 5 then t5_set v0 v1 r4 h3 >>= fun ⟨_, h6⟩ => (t5_limit_c2 v0 (v1 + 1) h6) else none)
else
  some ((), h)) else none)
partial_fixpoint
def t5_limit (v0 : Int) (h : m_H) : Option (Unit × m_H) :=
  (t5_limit_c2 v0 0 h)
def t2_layAll_c147 (v0 v3 v5 : Int) (h : m_H) : Option (Unit × m_H) :=
  (if m_t h v0 = 2 then if m_t h (m_g h v0 2) = 6 then (if (m_w v5) < (m_w (m_g h (m_g h v0 2) 1)) then
  (t6_one (m_g h v0 2) v5 h >>= fun ⟨r5, h4⟩ => if m_t h4 v3 = 3 then t3_row v3 r5 h4 >>= fun ⟨r8, h7⟩ => if m_t h7 v0 = 2 then t2_layPut v0 v5 r8 h7 >>= fun ⟨_, h10⟩ => (t2_layAll_c147 v0 v3 (v5 + 1) h10) else none else none)
else
  (if m_t h (m_g h v0 1) = 5 then t5_limit (m_g h v0 1) h >>= fun ⟨_, h13⟩ => some ((), h13) else none)) else none else none)
partial_fixpoint
def t2_layAll_c16 (v0 v3 v4 v5 : Int) (h : m_H) : Option (Unit × m_H) :=
  (if m_t h v0 = 2 then if m_t h (m_g h v0 2) = 6 then (if (m_w v5) < (m_w (m_g h (m_g h v0 2) 1)) then
  (if m_t h v3 = 3 then t10_entry (m_g h v3 3) v5 (-1) h >>= fun ⟨r6, h5⟩ => t10_setEntry (m_g h v0 5) v5 r6 h5 >>= fun ⟨_, h7⟩ => if m_t h7 v0 = 2 then if m_t h7 (m_g h7 v0 2) = 6 then t6_isPut (m_g h7 v0 2) v5 h7 >>= fun ⟨r12, h11⟩ => (if r12 = true then
    (if m_t h11 v0 = 2 then if m_t h11 (m_g h11 v0 2) = 6 then t6_one (m_g h11 v0 2) v5 h11 >>= fun ⟨r17, h16⟩ => if m_t h16 v3 = 3 then t3_row v3 r17 h16 >>= fun ⟨r20, h19⟩ => if m_t h19 r20 = 5 then t5_size r20 h19 >>= fun ⟨r23, h22⟩ => t10_setEntry (m_g h7 v0 4) v5 r23 h22 >>= fun ⟨_, h24⟩ => if m_t h24 v0 = 2 then if m_t h24 (m_g h24 v0 2) = 6 then t6_isPut (m_g h24 v0 2) v5 h24 >>= fun ⟨r29, h28⟩ => (if r29 = true then
      (if m_t h28 v0 = 2 then t2_times v0 v5 h28 >>= fun ⟨r33, h32⟩ => if m_t h32 v0 = 2 then t2_beginOf v0 v5 (r33 - 1) h32 >>= fun ⟨r36, h35⟩ => if m_t h35 v0 = 2 then t2_length v0 v5 h35 >>= fun ⟨r39, h38⟩ => some (m_max v4 (r36 + r39)) >>= fun x40 => (t2_layAll_c16 v0 v3 x40 (v5 + 1) h38) else none else none else none)
    else
      (t2_layAll_c16 v0 v3 v4 (v5 + 1) h28)) else none else none else none else none else none else none)
  else
    (if m_t h11 v3 = 3 then t3_row v3 v5 h11 >>= fun ⟨r43, h42⟩ => if m_t h42 r43 = 5 then t5_size r43 h42 >>= fun ⟨r46, h45⟩ => t10_setEntry (m_g h7 v0 4) v5 r46 h45 >>= fun ⟨_, h47⟩ => if m_t h47 v0 = 2 then if m_t h47 (m_g h47 v0 2) = 6 then t6_isPut (m_g h47 v0 2) v5 h47 >>= fun ⟨r52, h51⟩ => (if r52 = true then
      (if m_t h51 v0 = 2 then t2_times v0 v5 h51 >>= fun ⟨r56, h55⟩ => if m_t h55 v0 = 2 then t2_beginOf v0 v5 (r56 - 1) h55 >>= fun ⟨r59, h58⟩ => if m_t h58 v0 = 2 then t2_length v0 v5 h58 >>= fun ⟨r62, h61⟩ => some (m_max v4 (r59 + r62)) >>= fun x63 => (t2_layAll_c16 v0 v3 x63 (v5 + 1) h61) else none else none else none)
    else
      (t2_layAll_c16 v0 v3 v4 (v5 + 1) h51)) else none else none else none else none)) else none else none else none)
else
  (if m_t h (m_g h v0 1) = 5 then t5_silence (m_g h v0 1) v4 h >>= fun ⟨_, h65⟩ => (t2_layAll_c147 v0 v3 0 h65) else none)) else none else none)
partial_fixpoint
def t2_layAll (v0 v1 v2 v3 : Int) (h : m_H) : Option (Unit × m_H) :=
  (if m_t h v0 = 2 then some (m_p h v0 2 v1) >>= fun h2 => if m_t h2 v0 = 2 then some (m_p h2 v0 3 v2) >>= fun h4 => (t2_layAll_c16 v0 v3 0 0 h4) else none else none)
def t2_track (v0 v1 : Int) (h : m_H) : Option (Int × m_H) :=
  (if m_t h v0 = 2 then if m_t h (m_g h v0 2) = 6 then t6_cell (m_g h v0 2) v1 4 h >>= fun ⟨r4, h3⟩ => some (r4, h3) else none else none)
def t2_beginWith_c2 (v0 v1 v2 v3 : Int) (h : m_H) : Option (Int × m_H) :=
  (if m_t h v0 = 2 then t2_times v0 v1 h >>= fun ⟨r3, h2⟩ => (if (m_w v3) < (m_w r3) then
  (if m_t h2 v0 = 2 then t2_beginOf v0 v1 v3 h2 >>= fun ⟨r7, h6⟩ => (if (m_w v2) < (m_w r7) then
    (t2_beginWith_c2 v0 v1 v2 (v3 + 1) h6)
  else
    (if m_t h6 v0 = 2 then t2_length v0 v1 h6 >>= fun ⟨r11, h10⟩ => (if (m_w v2) < (m_w (r7 + r11)) then
      some (r7, h10)
    else
      (t2_beginWith_c2 v0 v1 v2 (v3 + 1) h10)) else none)) else none)
else
  some ((-1), h2)) else none)
partial_fixpoint
def t2_beginWith (v0 v1 v2 : Int) (h : m_H) : Option (Int × m_H) :=
  (t2_beginWith_c2 v0 v1 v2 0 h)
def t2_bit (v0 : Int) (h : m_H) : Option (Int × m_H) :=
  (if (m_w v0) = (-1) then
  some (0, h)
else
  some ((m_lshl 1 v0), h))
def t6_other (v0 v1 : Int) (h : m_H) : Option (Int × m_H) :=
  (if m_t h v0 = 6 then t6_cell v0 v1 2 h >>= fun ⟨r3, h2⟩ => some (r3, h2) else none)
def t2_reasons_x13 (cc : Int) (v0 v1 v2 v4 : Int) (h : m_H) : Option (Int × m_H) :=
  if cc = 13 then
  (if (m_w v4) < 0 then
    some (v2, h)
  else
    (if m_t h v0 = 2 then t2_beginWith v0 v4 v1 h >>= fun ⟨r4, h3⟩ => (if (m_w r4) = (-1) then
      (t2_reasons_x13 36 v0 v1 v2 v4 h3)
    else
      (some (m_lor v2 (m_lshl 1 v4)) >>= fun x6 => (t2_reasons_x13 36 v0 v1 x6 v4 h3))) else none))
  else if cc = 36 then
  (if (m_w (m_lcmp (m_land (m_lshr v2 v4) 1) 0)) = 0 then
    (t2_reasons_x13 13 v0 v1 v2 (v4 + (-1)) h)
  else
    (if m_t h v0 = 2 then if m_t h (m_g h v0 2) = 6 then t6_one (m_g h v0 2) v4 h >>= fun ⟨r5, h4⟩ => t2_bit r5 h4 >>= fun ⟨r7, h6⟩ => if m_t h6 v0 = 2 then if m_t h6 (m_g h6 v0 2) = 6 then t6_other (m_g h6 v0 2) v4 h6 >>= fun ⟨r11, h10⟩ => t2_bit r11 h10 >>= fun ⟨r13, h12⟩ => some (m_lor v2 (m_lor r7 r13)) >>= fun x14 => (t2_reasons_x13 13 v0 v1 x14 (v4 + (-1)) h12) else none else none else none else none))
  else none
partial_fixpoint
def t2_reasons (v0 v1 : Int) (h : m_H) : Option (Int × m_H) :=
  (if m_t h v0 = 2 then if m_t h (m_g h v0 2) = 6 then some ((m_g h (m_g h v0 2) 1) - 1) >>= fun x3 => (t2_reasons_x13 13 v0 v1 0 x3 h) else none else none)
def t2_reason_c12 (v0 v3 v5 v6 : Int) (h : m_H) : Option (Int × m_H) :=
  (if m_t h v0 = 2 then if m_t h (m_g h v0 2) = 6 then (if (m_w v6) < (m_w (m_g h (m_g h v0 2) 1)) then
  (if (m_w v5) < 0 then
    some ((-1), h)
  else
    (if (m_w (m_lcmp (m_land (m_lshr v3 v6) 1) 0)) = 0 then
      (t2_reason_c12 v0 v3 v5 (v6 + 1) h)
    else
      (if (m_w v5) = 0 then
        some (v6, h)
      else
        (t2_reason_c12 v0 v3 (v5 + (-1)) (v6 + 1) h))))
else
  some ((-1), h)) else none else none)
partial_fixpoint
def t2_reason (v0 v1 v2 : Int) (h : m_H) : Option (Int × m_H) :=
  (if m_t h v0 = 2 then t2_reasons v0 v1 h >>= fun ⟨r3, h2⟩ => (t2_reason_c12 v0 r3 v2 0 h2) else none)
def t2_firstPut_c2 (v0 v1 v2 v3 : Int) (h : m_H) : Option (Int × m_H) :=
  (if m_t h v0 = 2 then if m_t h (m_g h v0 2) = 6 then (if (m_w v3) < (m_w (m_g h (m_g h v0 2) 1)) then
  (t2_track v0 v3 h >>= fun ⟨r5, h4⟩ => (if (m_w r5) = (m_w v2) then
    (if m_t h4 v0 = 2 then t2_beginWith v0 v3 v1 h4 >>= fun ⟨r9, h8⟩ => (if (m_w r9) = (-1) then
      (t2_firstPut_c2 v0 v1 v2 (v3 + 1) h8)
    else
      some (v3, h8)) else none)
  else
    (t2_firstPut_c2 v0 v1 v2 (v3 + 1) h4)))
else
  some ((-1), h)) else none else none)
partial_fixpoint
def t2_firstPut (v0 v1 v2 : Int) (h : m_H) : Option (Int × m_H) :=
  (t2_firstPut_c2 v0 v1 v2 0 h)
def t6_isSource (v0 v1 : Int) (h : m_H) : Option (Bool × m_H) :=
  (if m_t h v0 = 6 then t6_cell v0 v1 0 h >>= fun ⟨r3, h2⟩ => (if (m_w r3) = 0 then
  some (true, h2)
else
  (if (m_w r3) = 1 then
    some (true, h2)
  else
    some (false, h2))) else none)
def t6_number (v0 v1 v2 : Int) (h : m_H) : Option (Int × m_H) :=
  (if m_t h v0 = 6 then t6_cell v0 v1 (3 + v2) h >>= fun ⟨r3, h2⟩ => some (r3, h2) else none)
def t6_verb (v0 v1 : Int) (h : m_H) : Option (Int × m_H) :=
  (if m_t h v0 = 6 then t6_cell v0 v1 0 h >>= fun ⟨r3, h2⟩ => some (r3, h2) else none)
def t2_quotient (v0 v1 : Int) (h : m_H) : Option (Int × m_H) :=
  (if (m_w v1) < 1 then
  some (0, h)
else
  (if (m_w v1) = 0 then none else some ((Int.tdiv (m_w v0) (m_w v1)), h)))
def t7_machineOf (v0 v1 : Int) (h : m_H) : Option (Int × m_H) :=
  (if (m_w v1) < 0 then
  some (0, h)
else
  (if m_t h v0 = 7 then (if (m_w v1) < (m_w (m_g h v0 6)) then
    (if 20 ≤ m_t h (m_g h v0 5) then (if (m_w v1) < (m_w (m_l h (m_g h v0 5))) then
      (if m_t h (m_g h v0 5) = 25 ∧ 0 ≤ (m_w v1) ∧ (m_w v1) < m_l h (m_g h v0 5) then some ((m_g h (m_g h v0 5) (m_w v1)), h) else none)
    else
      some (0, h)) else none)
  else
    some (0, h)) else none))
def t2_stepBack (v0 : Int) (h : m_H) : Option (Unit × m_H) :=
  (if m_t h v0 = 2 then some (m_g h v0 6) >>= fun x2 => if m_t h (m_g h v0 2) = 6 then t6_one (m_g h v0 2) x2 h >>= fun ⟨r5, h4⟩ => if m_t h4 v0 = 2 then if m_t h4 (m_g h4 v0 2) = 6 then t6_number (m_g h4 v0 2) x2 0 h4 >>= fun ⟨r9, h8⟩ => if m_t h8 v0 = 2 then some (m_p h8 v0 6 r5) >>= fun h11 => if m_t h11 v0 = 2 then if m_t h11 (m_g h11 v0 2) = 6 then t6_verb (m_g h11 v0 2) x2 h11 >>= fun ⟨r15, h14⟩ => (if (m_w r15) = 2 then
  (if m_t h14 v0 = 2 then some (m_p h14 v0 7 ((m_g h14 v0 7) + r9)) >>= fun h18 => some ((), h18) else none)
else (if (m_w r15) = 3 then
  (if m_t h14 v0 = 2 then t2_length v0 r5 h14 >>= fun ⟨r22, h21⟩ => if m_t h21 v0 = 2 then some (m_p h21 v0 7 ((r22 - 1) - (m_g h21 v0 7))) >>= fun h24 => some ((), h24) else none else none)
else (if (m_w r15) = 4 then
  (if m_t h14 v0 = 2 then if m_t h14 (m_g h14 v0 2) = 6 then t6_number (m_g h14 v0 2) x2 1 h14 >>= fun ⟨r29, h28⟩ => t2_quotient ((m_g h14 v0 7) * r9) r29 h28 >>= fun ⟨r31, h30⟩ => if m_t h30 v0 = 2 then some (m_p h30 v0 7 r31) >>= fun h33 => some ((), h33) else none else none else none)
else (if (m_w r15) = 5 then
  (if m_t h14 v0 = 2 then t2_length v0 r5 h14 >>= fun ⟨r37, h36⟩ => (if (m_w (m_g h14 v0 7)) < (m_w r37) then
    some ((), h36)
  else
    (if m_t h36 v0 = 2 then if m_t h36 (m_g h36 v0 2) = 6 then t6_other (m_g h36 v0 2) x2 h36 >>= fun ⟨r42, h41⟩ => if m_t h41 v0 = 2 then some (m_p h41 v0 6 r42) >>= fun h44 => if m_t h44 v0 = 2 then t2_length v0 r5 h44 >>= fun ⟨r47, h46⟩ => if m_t h46 v0 = 2 then some (m_p h46 v0 7 ((m_g h44 v0 7) + (r9 - r47))) >>= fun h49 => some ((), h49) else none else none else none else none else none)) else none)
else (if (m_w r15) = 6 then
  (if m_t h14 v0 = 2 then t2_length v0 r5 h14 >>= fun ⟨r53, h52⟩ => (if (m_w r53) < 1 then
    (if m_t h52 v0 = 2 then some (m_p h52 v0 7 0) >>= fun h56 => some ((), h56) else none)
  else
    (if m_t h52 v0 = 2 then t2_length v0 r5 h52 >>= fun ⟨r59, h58⟩ => if (m_w r59) = 0 then none else if m_t h58 v0 = 2 then some (m_p h58 v0 7 (Int.tmod (m_w (m_g h52 v0 7)) (m_w r59))) >>= fun h61 => some ((), h61) else none else none)) else none)
else (if (m_w r15) = 7 then
  some ((), h14)
else (if (m_w r15) = 8 then
  (if m_t h14 v0 = 2 then if m_t h14 (m_g h14 v0 0) = 7 then t7_machineOf (m_g h14 v0 0) r9 h14 >>= fun ⟨r67, h66⟩ => (if r67 = 0 then
    (if m_t h66 v0 = 2 then some (m_p h66 v0 7 (m_g h66 v0 7)) >>= fun h70 => some ((), h70) else none)
  else
    (if m_t h66 v0 = 2 then if m_t h66 r67 = 0 then t0_copyPace r67 h66 >>= fun ⟨r74, h73⟩ => if m_t h73 v0 = 2 then some (m_p h73 v0 7 (Int.tdiv (m_w ((m_g h66 v0 7) * r74)) 1000)) >>= fun h76 => some ((), h76) else none else none else none)) else none else none)
else some ((), h14)))))))) else none else none else none else none else none else none else none)
def t2_leadTo_c81 (v0 v3 : Int) (h : m_H) : Option (Int × m_H) :=
  (if (m_w v3) = 1 then
  (if m_t h v0 = 2 then t10_entry (m_g h v0 5) (m_g h v0 6) (-1) h >>= fun ⟨r4, h3⟩ => some (r4, h3) else none)
else
  (if (m_w v3) = 2 then
    (if m_t h v0 = 2 then some ((m_g h v0 7), h) else none)
  else
    some ((-1), h)))
def t2_leadTo_c50 (v0 v3 v5 : Int) (h : m_H) : Option (Int × m_H) :=
  (if (m_w v5) < 40 then
  (if m_t h v0 = 2 then if m_t h (m_g h v0 2) = 6 then t6_isSource (m_g h v0 2) (m_g h v0 6) h >>= fun ⟨r5, h4⟩ => (if r5 = true then
    (t2_leadTo_c81 v0 v3 h4)
  else
    (if m_t h4 v0 = 2 then t2_stepBack v0 h4 >>= fun ⟨_, h8⟩ => (t2_leadTo_c50 v0 v3 (v5 + 1) h8) else none)) else none else none)
else
  (t2_leadTo_c81 v0 v3 h))
partial_fixpoint
def t2_leadTo (v0 v1 v2 v3 : Int) (h : m_H) : Option (Int × m_H) :=
  (if m_t h v0 = 2 then t2_firstPut v0 v1 v2 h >>= fun ⟨r3, h2⟩ => (if (m_w r3) = (-1) then
  some (r3, h2)
else
  (if (m_w v3) = 0 then
    some (r3, h2)
  else
    (if m_t h2 v0 = 2 then if m_t h2 (m_g h2 v0 2) = 6 then t6_one (m_g h2 v0 2) r3 h2 >>= fun ⟨r9, h8⟩ => if m_t h8 v0 = 2 then some (m_p h8 v0 6 r9) >>= fun h11 => if m_t h11 v0 = 2 then t2_beginWith v0 r3 v1 h11 >>= fun ⟨r14, h13⟩ => if m_t h13 v0 = 2 then some (m_p h13 v0 7 (v1 - r14)) >>= fun h16 => (t2_leadTo_c50 v0 v3 0 h16) else none else none else none else none else none))) else none)
def t2_quarrels_x39 (cc : Int) (v0 v1 v2 v3 v4 : Int) (h : m_H) : Option (Bool × m_H) :=
  if cc = 39 then
  (if m_t h v0 = 2 then t2_times v0 v1 h >>= fun ⟨r3, h2⟩ => (if (m_w v3) < (m_w r3) then
    (if (m_w v1) = (m_w v2) then
      (some (v3 + 1) >>= fun x6 => (t2_quarrels_x39 62 v0 v1 v2 v3 x6 h2))
    else
      (t2_quarrels_x39 62 v0 v1 v2 v3 0 h2))
  else
    some (false, h2)) else none)
  else if cc = 62 then
  (if m_t h v0 = 2 then t2_times v0 v2 h >>= fun ⟨r3, h2⟩ => (if (m_w v4) < (m_w r3) then
    (if m_t h2 v0 = 2 then t2_beginOf v0 v2 v4 h2 >>= fun ⟨r7, h6⟩ => if m_t h6 v0 = 2 then t2_beginOf v0 v1 v3 h6 >>= fun ⟨r10, h9⟩ => some (r7 - r10) >>= fun x11 => if m_t h9 v0 = 2 then t2_length v0 v1 h9 >>= fun ⟨r14, h13⟩ => (if (m_w x11) < (m_w r14) then
      (if m_t h13 v0 = 2 then t2_length v0 v2 h13 >>= fun ⟨r18, h17⟩ => (if (m_w (-x11)) < (m_w r18) then
        some (true, h17)
      else
        (t2_quarrels_x39 62 v0 v1 v2 v3 (v4 + 1) h17)) else none)
    else
      (t2_quarrels_x39 62 v0 v1 v2 v3 (v4 + 1) h13)) else none else none else none)
  else
    (t2_quarrels_x39 39 v0 v1 v2 (v3 + 1) 0 h2)) else none)
  else none
partial_fixpoint
def t2_quarrels (v0 v1 v2 : Int) (h : m_H) : Option (Bool × m_H) :=
  (if m_t h v0 = 2 then if m_t h (m_g h v0 2) = 6 then t6_isPut (m_g h v0 2) v1 h >>= fun ⟨r4, h3⟩ => (if r4 = true then
  (if m_t h3 v0 = 2 then if m_t h3 (m_g h3 v0 2) = 6 then t6_isPut (m_g h3 v0 2) v2 h3 >>= fun ⟨r9, h8⟩ => (if r9 = true then
    (if m_t h8 v0 = 2 then t2_track v0 v1 h8 >>= fun ⟨r13, h12⟩ => if m_t h12 v0 = 2 then t2_track v0 v2 h12 >>= fun ⟨r16, h15⟩ => (if (m_w r13) = (m_w r16) then
      (t2_quarrels_x39 39 v0 v1 v2 0 0 h15)
    else
      some (false, h15)) else none else none)
  else
    some (false, h8)) else none else none)
else
  some (false, h3)) else none else none)
def t2_quarrelAt_x4 (cc : Int) (v0 v2 v3 v4 : Int) (h : m_H) : Option (Int × m_H) :=
  if cc = 4 then
  (if m_t h v0 = 2 then if m_t h (m_g h v0 2) = 6 then (if (m_w v3) < (m_w (m_g h (m_g h v0 2) 1)) then
    (if (m_w v2) < 0 then
      some ((-1), h)
    else
      (t2_quarrelAt_x4 22 v0 v2 v3 v3 h))
  else
    some ((-1), h)) else none else none)
  else if cc = 22 then
  (if m_t h v0 = 2 then if m_t h (m_g h v0 2) = 6 then (if (m_w v4) < (m_w (m_g h (m_g h v0 2) 1)) then
    (t2_quarrels v0 v3 v4 h >>= fun ⟨r5, h4⟩ => (if r5 = true then
      (if (m_w v2) = 0 then
        some (((v3 * 100) + v4), h4)
      else
        (t2_quarrelAt_x4 22 v0 (v2 + (-1)) v3 (v4 + 1) h4))
    else
      (t2_quarrelAt_x4 22 v0 v2 v3 (v4 + 1) h4)))
  else
    (t2_quarrelAt_x4 4 v0 v2 (v3 + 1) 0 h)) else none else none)
  else none
partial_fixpoint
def t2_quarrelAt (v0 v1 : Int) (h : m_H) : Option (Int × m_H) :=
  (t2_quarrelAt_x4 4 v0 v1 0 0 h)
def t3_init_c47 (v0 v2 : Int) (h : m_H) : Option (Unit × m_H) :=
  (if m_t h v0 = 3 then if 20 ≤ m_t h (m_g h v0 1) then (if (m_w v2) < (m_w (m_l h (m_g h v0 1))) then
  (some (m_a h 5 2) >>= fun h4 => if 0 ≤ m_t h4 (m_n h) then t5_init (m_n h) h4 >>= fun ⟨_, h6⟩ => if (m_t h6 (m_g h v0 1) = 27 ∧ 0 ≤ (m_w v2) ∧ (m_w v2) < m_l h6 (m_g h v0 1)) ∧ m_t h6 (m_n h) = 5 then some (m_p h6 (m_g h v0 1) (m_w v2) (m_n h)) >>= fun h9 => (t3_init_c47 v0 (v2 + 1) h9) else none else none)
else
  some ((), h)) else none else none)
partial_fixpoint
def t3_init (v0 v1 : Int) (h : m_H) : Option (Unit × m_H) :=
  (if 0 ≤ m_t h v0 then some (m_a h 27 40) >>= fun h2 => if m_t h2 v0 = 3 then some (m_p h2 v0 1 (m_n h)) >>= fun h4 => some (m_a h4 5 2) >>= fun h5 => if 0 ≤ m_t h5 (m_n h4) then t5_init (m_n h4) h5 >>= fun ⟨_, h7⟩ => if m_t h7 v0 = 3 then some (m_p h7 v0 2 (m_n h4)) >>= fun h10 => some (m_a h10 20 40) >>= fun h11 => if m_t h11 v0 = 3 then some (m_p h11 v0 3 (m_n h10)) >>= fun h13 => some (m_a h13 20 40) >>= fun h14 => if m_t h14 v0 = 3 then some (m_p h14 v0 4 (m_n h13)) >>= fun h16 => if m_t h16 v0 = 3 then some (m_p h16 v0 0 v1) >>= fun h18 => (t3_init_c47 v0 0 h18) else none else none else none else none else none else none else none)
def t7_there (v0 v1 : Int) (h : m_H) : Option (Int × m_H) :=
  (if m_t h v0 = 7 then t7_known v0 v1 h >>= fun ⟨r3, h2⟩ => (if r3 = 0 then
  some (0, h2)
else
  (if m_t h2 r3 = 8 then (if (m_w (m_g h2 r3 4)) = 0 then
    some (r3, h2)
  else
    some (0, h2)) else none)) else none)
def t7_markOf_c7 (v0 v1 v2 v3 : Int) (h : m_H) : Option (Int × m_H) :=
  (if (m_w v3) < 0 then
  some ((-1), h)
else
  (if m_t h v0 = 7 then t10_entry (m_g h v0 7) v3 (-1) h >>= fun ⟨r4, h3⟩ => (if (m_w r4) = (m_w v1) then
    (if m_t h3 v0 = 7 then t10_entry (m_g h3 v0 9) v3 400 h3 >>= fun ⟨r8, h7⟩ => (if (m_w v2) < (m_w r8) then
      (t7_markOf_c7 v0 v1 v2 (v3 + (-1)) h7)
    else
      (if m_t h7 v0 = 7 then t10_entry (m_g h7 v0 8) v3 (-1) h7 >>= fun ⟨r12, h11⟩ => some (r12, h11) else none)) else none)
  else
    (t7_markOf_c7 v0 v1 v2 (v3 + (-1)) h3)) else none))
partial_fixpoint
def t7_markOf (v0 v1 v2 : Int) (h : m_H) : Option (Int × m_H) :=
  (if m_t h v0 = 7 then some ((m_g h v0 10) - 1) >>= fun x2 => (t7_markOf_c7 v0 v1 v2 x2 h) else none)
def t7_leastMarked_c2 (v0 v1 v2 v3 : Int) (h : m_H) : Option (Int × m_H) :=
  (if m_t h v0 = 7 then (if (m_w v3) < (m_w (m_g h v0 1)) then
  (t7_there v0 v3 h >>= fun ⟨r4, h3⟩ => (if r4 = 0 then
    (t7_leastMarked_c2 v0 v1 v2 (v3 + 1) h3)
  else
    (if m_t h3 v0 = 7 then t7_markOf v0 v3 v2 h3 >>= fun ⟨r8, h7⟩ => (if (m_w r8) = (m_w v1) then
      some (v3, h7)
    else
      (t7_leastMarked_c2 v0 v1 v2 (v3 + 1) h7)) else none)))
else
  some ((-1), h)) else none)
partial_fixpoint
def t7_leastMarked (v0 v1 v2 : Int) (h : m_H) : Option (Int × m_H) :=
  (t7_leastMarked_c2 v0 v1 v2 0 h)
def t3_stripOf (v0 v1 v2 v3 : Int) (h : m_H) : Option (Int × m_H) :=
  (if m_t h v1 = 6 then t6_number v1 v2 0 h >>= fun ⟨r3, h2⟩ => if m_t h2 v1 = 6 then t6_verb v1 v2 h2 >>= fun ⟨r6, h5⟩ => (if (m_w r6) = 1 then
  (if m_t h5 v0 = 3 then if m_t h5 (m_g h5 v0 0) = 7 then t7_leastMarked (m_g h5 v0 0) r3 v3 h5 >>= fun ⟨r11, h10⟩ => some (r11, h10) else none else none)
else
  (if m_t h5 v1 = 6 then t6_verb v1 v2 h5 >>= fun ⟨r14, h13⟩ => (if (m_w r14) = 0 then
    (if m_t h13 v0 = 3 then if m_t h13 (m_g h13 v0 0) = 7 then t7_there (m_g h13 v0 0) r3 h13 >>= fun ⟨r19, h18⟩ => (if r19 = 0 then
      some ((-1), h18)
    else
      some (r3, h18)) else none else none)
  else
    some ((-1), h13)) else none)) else none else none)
def t3_canPut (v0 v1 v2 : Int) (h : m_H) : Option (Bool × m_H) :=
  (if m_t h v1 = 6 then t6_cell v1 v2 6 h >>= fun ⟨r3, h2⟩ => if m_t h2 v1 = 6 then t6_cell v1 v2 7 h2 >>= fun ⟨r6, h5⟩ => some ((r3 - 1) * r6) >>= fun x7 => if m_t h5 v1 = 6 then t6_number v1 v2 0 h5 >>= fun ⟨r10, h9⟩ => if m_t h9 v1 = 6 then t6_one v1 v2 h9 >>= fun ⟨r13, h12⟩ => if m_t h12 v0 = 3 then t3_row v0 r13 h12 >>= fun ⟨r16, h15⟩ => if m_t h15 r16 = 5 then t5_size r16 h15 >>= fun ⟨r19, h18⟩ => (if 3000 < (m_w ((r10 + x7) + r19)) then
  some (false, h18)
else
  some (true, h18)) else none else none else none else none else none else none)
def t3_fillStrip (v0 v1 v2 : Int) (h : m_H) : Option (Bool × m_H) :=
  (if m_t h v0 = 3 then if m_t h (m_g h v0 0) = 7 then t7_there (m_g h v0 0) v2 h >>= fun ⟨r4, h3⟩ => (if r4 = 0 then
  some (false, h3)
else
  (if m_t h3 r4 = 8 then if m_t h3 (m_g h3 r4 3) = 5 then t5_size (m_g h3 r4 3) h3 >>= fun ⟨r9, h8⟩ => if m_t h8 v1 = 5 then t5_fillPart v1 (m_g h3 r4 3) 0 r9 h8 >>= fun ⟨_, h11⟩ => some (true, h11) else none else none else none)) else none else none)
def t3_fillCut (v0 v1 v2 v3 : Int) (h : m_H) : Option (Bool × m_H) :=
  (if (m_w v2) < 0 then
  some (false, h)
else
  (if (m_w v2) < (m_w v3) then
    (if m_t h v1 = 5 then t5_size v1 h >>= fun ⟨r5, h4⟩ => (if (m_w r5) < (m_w v3) then
      some (false, h4)
    else
      (if m_t h4 v0 = 5 then t5_fillPart v0 v1 v2 (v3 - v2) h4 >>= fun ⟨_, h8⟩ => some (true, h8) else none)) else none)
  else
    some (false, h)))
def t3_isLength (v0 : Int) (h : m_H) : Option (Bool × m_H) :=
  (if (m_w v0) < 1 then
  some (false, h)
else
  (if 1500 < (m_w v0) then
    some (false, h)
  else
    some (true, h)))
def t3_fillPlayed (v0 v1 v2 v3 : Int) (h : m_H) : Option (Bool × m_H) :=
  (if m_t h v1 = 5 then t5_playedSize v1 v2 v3 h >>= fun ⟨r3, h2⟩ => t3_isLength r3 h2 >>= fun ⟨r5, h4⟩ => (if r5 = true then
  (if m_t h4 v0 = 5 then t5_fillPlayed v0 v1 v2 v3 h4 >>= fun ⟨_, h8⟩ => some (true, h8) else none)
else
  some (false, h4)) else none)
def t5_joinedSize (v0 v1 v2 : Int) (h : m_H) : Option (Int × m_H) :=
  (if m_t h v0 = 5 then if m_t h v1 = 5 then some ((((m_g h v0 1) + (m_g h v1 1)) - v2), h) else none else none)
def t5_fillJoined_c107 (v0 v2 v4 v5 : Int) (h : m_H) : Option (Unit × m_H) :=
  (if m_t h v2 = 5 then (if (m_w v5) < (m_w (m_g h v2 1)) then
  (t5_get v2 v5 h >>= fun ⟨r4, h3⟩ => if m_t h3 v0 = 5 then t5_set v0 (v4 + v5) r4 h3 >>= fun ⟨_, h6⟩ => (t5_fillJoined_c107 v0 v2 v4 (v5 + 1) h6) else none)
else
  some ((), h)) else none)
partial_fixpoint
def t5_fillJoined_c49 (v0 v1 v2 v3 v4 v5 : Int) (h : m_H) : Option (Unit × m_H) :=
  (if (m_w v5) < (m_w v3) then
  (if m_t h v1 = 5 then t5_get v1 (v4 + v5) h >>= fun ⟨r4, h3⟩ => if m_t h3 v2 = 5 then t5_get v2 v5 h3 >>= fun ⟨r7, h6⟩ => some ((r4 * (v3 - v5)) + (r7 * (v5 + 1))) >>= fun x8 => if (m_w (v3 + 1)) = 0 then none else if m_t h6 v0 = 5 then t5_set v0 (v4 + v5) (Int.tdiv (m_w x8) (m_w (v3 + 1))) h6 >>= fun ⟨_, h10⟩ => (t5_fillJoined_c49 v0 v1 v2 v3 v4 (v5 + 1) h10) else none else none else none)
else
  (t5_fillJoined_c107 v0 v2 v4 v3 h))
partial_fixpoint
def t5_fillJoined_c21 (v0 v1 v2 v3 v4 v5 : Int) (h : m_H) : Option (Unit × m_H) :=
  (if (m_w v5) < (m_w v4) then
  (if m_t h v1 = 5 then t5_get v1 v5 h >>= fun ⟨r4, h3⟩ => if m_t h3 v0 = 5 then t5_set v0 v5 r4 h3 >>= fun ⟨_, h6⟩ => (t5_fillJoined_c21 v0 v1 v2 v3 v4 (v5 + 1) h6) else none else none)
else
  (t5_fillJoined_c49 v0 v1 v2 v3 v4 0 h))
partial_fixpoint
def t5_fillJoined (v0 v1 v2 v3 : Int) (h : m_H) : Option (Unit × m_H) :=
  (if m_t h v1 = 5 then some ((m_g h v1 1) - v3) >>= fun x2 => t5_joinedSize v1 v2 v3 h >>= fun ⟨r4, h3⟩ => if m_t h3 v0 = 5 then t5_resize v0 r4 h3 >>= fun ⟨_, h6⟩ => (t5_fillJoined_c21 v0 v1 v2 v3 x2 0 h6) else none else none)
def t3_fillJoined (v0 v1 v2 v3 : Int) (h : m_H) : Option (Bool × m_H) :=
  (if (m_w v3) < 0 then
  some (false, h)
else
  (if m_t h v1 = 5 then t5_size v1 h >>= fun ⟨r4, h3⟩ => if m_t h3 v2 = 5 then t5_size v2 h3 >>= fun ⟨r7, h6⟩ => (if (m_w (m_min r4 r7)) < (m_w v3) then
    some (false, h6)
  else
    (t5_joinedSize v1 v2 v3 h6 >>= fun ⟨r10, h9⟩ => t3_isLength r10 h9 >>= fun ⟨r12, h11⟩ => (if r12 = true then
      (if m_t h11 v0 = 5 then t5_fillJoined v0 v1 v2 v3 h11 >>= fun ⟨_, h15⟩ => some (true, h15) else none)
    else
      some (false, h11)))) else none else none))
def t5_fillRound_c7 (v0 v1 v2 v3 : Int) (h : m_H) : Option (Unit × m_H) :=
  (if (m_w v3) < (m_w v2) then
  (if m_t h v1 = 5 then (if 0 < (m_w (m_g h v1 1)) then
    (if (m_w (m_g h v1 1)) = 0 then none else t5_get v1 (Int.tmod (m_w v3) (m_w (m_g h v1 1))) h >>= fun ⟨r5, h4⟩ => if m_t h4 v0 = 5 then t5_set v0 v3 r5 h4 >>= fun ⟨_, h7⟩ => (t5_fillRound_c7 v0 v1 v2 (v3 + 1) h7) else none)
  else
    some ((), h)) else none)
else
  some ((), h))
partial_fixpoint
def t5_fillRound (v0 v1 v2 : Int) (h : m_H) : Option (Unit × m_H) :=
  (if m_t h v0 = 5 then t5_resize v0 v2 h >>= fun ⟨_, h2⟩ => (t5_fillRound_c7 v0 v1 v2 0 h2) else none)
def t5_echo_c6 (v0 v1 v2 v3 : Int) (h : m_H) : Option (Unit × m_H) :=
  (if m_t h v0 = 5 then (if (m_w v3) < (m_w (m_g h v0 1)) then
  (t5_get v0 v3 h >>= fun ⟨r4, h3⟩ => if m_t h3 v0 = 5 then t5_get v0 (v3 - v1) h3 >>= fun ⟨r7, h6⟩ => if m_t h6 v0 = 5 then t5_set v0 v3 (r4 + (Int.tdiv (m_w (r7 * v2)) 256)) h6 >>= fun ⟨_, h9⟩ => (t5_echo_c6 v0 v1 v2 (v3 + 1) h9) else none else none)
else
  some ((), h)) else none)
partial_fixpoint
def t5_echo (v0 v1 v2 : Int) (h : m_H) : Option (Unit × m_H) :=
  (some (m_max v1 1) >>= fun x1 => (t5_echo_c6 v0 v1 v2 x1 h))
def t5_level_c2 (v0 v1 v2 : Int) (h : m_H) : Option (Unit × m_H) :=
  (if m_t h v0 = 5 then (if (m_w v2) < (m_w (m_g h v0 1)) then
  (t5_get v0 v2 h >>= fun ⟨r4, h3⟩ => if m_t h3 v0 = 5 then t5_set v0 v2 (Int.tdiv (m_w (r4 * v1)) 64) h3 >>= fun ⟨_, h6⟩ => (t5_level_c2 v0 v1 (v2 + 1) h6) else none)
else
  some ((), h)) else none)
partial_fixpoint
def t5_level (v0 v1 : Int) (h : m_H) : Option (Unit × m_H) :=
  (t5_level_c2 v0 v1 0 h)
def t3_fillCopied (v0 v1 v2 : Int) (h : m_H) : Option (Bool × m_H) :=
  (if v2 = 0 then
  some (false, h)
else
  (if m_t h v2 = 0 then t0_copyPace v2 h >>= fun ⟨r4, h3⟩ => if m_t h3 v1 = 5 then t5_playedSize v1 r4 1000 h3 >>= fun ⟨r7, h6⟩ => t3_isLength r7 h6 >>= fun ⟨r9, h8⟩ => (if r9 = true then
    (if m_t h8 v2 = 0 then t0_copyPace v2 h8 >>= fun ⟨r13, h12⟩ => if m_t h12 v0 = 5 then t5_fillPlayed v0 v1 r13 1000 h12 >>= fun ⟨_, h15⟩ => if m_t h15 v2 = 0 then if m_t h15 v0 = 5 then t5_level v0 (m_g h15 v2 1) h15 >>= fun ⟨_, h19⟩ => some (true, h19) else none else none else none else none)
  else
    some (false, h8)) else none else none))
def t5_fillFiltered_c11 (v0 v1 v2 v3 v4 v5 : Int) (h : m_H) : Option (Unit × m_H) :=
  (if m_t h v0 = 5 then (if (m_w v5) < (m_w (m_g h v0 1)) then
  (if m_t h v1 = 5 then t5_get v1 (v5 - 1) h >>= fun ⟨r5, h4⟩ => if m_t h4 v1 = 5 then t5_get v1 v5 h4 >>= fun ⟨r8, h7⟩ => if m_t h7 v1 = 5 then t5_get v1 (v5 + 1) h7 >>= fun ⟨r11, h10⟩ => some (((r5 * v2) + (r8 * v3)) + (r11 * v4)) >>= fun x12 => if m_t h10 v0 = 5 then t5_set v0 v5 (Int.tdiv (m_w x12) 64) h10 >>= fun ⟨_, h14⟩ => (t5_fillFiltered_c11 v0 v1 v2 v3 v4 (v5 + 1) h14) else none else none else none else none)
else
  some ((), h)) else none)
partial_fixpoint
def t5_fillFiltered (v0 v1 v2 v3 v4 : Int) (h : m_H) : Option (Unit × m_H) :=
  (if m_t h v1 = 5 then if m_t h v0 = 5 then t5_resize v0 (m_g h v1 1) h >>= fun ⟨_, h3⟩ => (t5_fillFiltered_c11 v0 v1 v2 v3 v4 0 h3) else none else none)
def t5_fadeIn_c2 (v0 v1 v2 : Int) (h : m_H) : Option (Unit × m_H) :=
  (if (m_w v2) < (m_w v1) then
  (if m_t h v0 = 5 then t5_get v0 v2 h >>= fun ⟨r4, h3⟩ => if (m_w v1) = 0 then none else if m_t h3 v0 = 5 then t5_set v0 v2 (Int.tdiv (m_w (r4 * v2)) (m_w v1)) h3 >>= fun ⟨_, h6⟩ => (t5_fadeIn_c2 v0 v1 (v2 + 1) h6) else none else none)
else
  some ((), h))
partial_fixpoint
def t5_fadeIn (v0 v1 : Int) (h : m_H) : Option (Unit × m_H) :=
  (t5_fadeIn_c2 v0 v1 0 h)
def t5_fadeOut_c2 (v0 v1 v2 : Int) (h : m_H) : Option (Unit × m_H) :=
  (if (m_w v2) < (m_w v1) then
  (if m_t h v0 = 5 then some (((m_g h v0 1) - 1) - v2) >>= fun x3 => t5_get v0 x3 h >>= fun ⟨r5, h4⟩ => if (m_w v1) = 0 then none else if m_t h4 v0 = 5 then t5_set v0 x3 (Int.tdiv (m_w (r5 * v2)) (m_w v1)) h4 >>= fun ⟨_, h7⟩ => (t5_fadeOut_c2 v0 v1 (v2 + 1) h7) else none else none)
else
  some ((), h))
partial_fixpoint
def t5_fadeOut (v0 v1 : Int) (h : m_H) : Option (Unit × m_H) :=
  (t5_fadeOut_c2 v0 v1 0 h)
def t3_fillFaded (v0 v1 v2 v3 : Int) (h : m_H) : Option (Bool × m_H) :=
  (if m_t h v1 = 5 then t5_size v1 h >>= fun ⟨r3, h2⟩ => (if (m_w r3) < (m_w v2) then
  some (false, h2)
else
  (if m_t h2 v1 = 5 then t5_size v1 h2 >>= fun ⟨r7, h6⟩ => (if (m_w r7) < (m_w v3) then
    some (false, h6)
  else
    (if m_t h6 v1 = 5 then t5_size v1 h6 >>= fun ⟨r11, h10⟩ => if m_t h10 v0 = 5 then t5_fillPart v0 v1 0 r11 h10 >>= fun ⟨_, h13⟩ => if m_t h13 v0 = 5 then t5_fadeIn v0 v2 h13 >>= fun ⟨_, h16⟩ => if m_t h16 v0 = 5 then t5_fadeOut v0 v3 h16 >>= fun ⟨_, h19⟩ => some (true, h19) else none else none else none else none)) else none)) else none)
def t3_fillRow (v0 v1 v2 : Int) (h : m_H) : Option (Bool × m_H) :=
  (if m_t h v0 = 3 then t3_row v0 v2 h >>= fun ⟨r3, h2⟩ => if m_t h2 v1 = 6 then t6_one v1 v2 h2 >>= fun ⟨r6, h5⟩ => if m_t h5 v0 = 3 then t3_row v0 r6 h5 >>= fun ⟨r9, h8⟩ => if m_t h8 v1 = 6 then t6_number v1 v2 0 h8 >>= fun ⟨r12, h11⟩ => if m_t h11 v1 = 6 then t6_number v1 v2 1 h11 >>= fun ⟨r15, h14⟩ => if m_t h14 v1 = 6 then t6_verb v1 v2 h14 >>= fun ⟨r18, h17⟩ => (if (m_w r18) = 0 then
  (if m_t h17 v0 = 3 then t10_entry (m_g h17 v0 3) v2 (-1) h17 >>= fun ⟨r22, h21⟩ => if m_t h21 v0 = 3 then t3_fillStrip v0 r3 r22 h21 >>= fun ⟨r25, h24⟩ => some (r25, h24) else none else none)
else (if (m_w r18) = 1 then
  (if m_t h17 v0 = 3 then t10_entry (m_g h17 v0 3) v2 (-1) h17 >>= fun ⟨r29, h28⟩ => if m_t h28 v0 = 3 then t3_fillStrip v0 r3 r29 h28 >>= fun ⟨r32, h31⟩ => some (r32, h31) else none else none)
else (if (m_w r18) = 2 then
  (t3_fillCut r3 r9 r12 r15 h17 >>= fun ⟨r35, h34⟩ => some (r35, h34))
else (if (m_w r18) = 3 then
  (if m_t h17 r3 = 5 then t5_fillTurned r3 r9 h17 >>= fun ⟨_, h38⟩ => some (true, h38) else none)
else (if (m_w r18) = 4 then
  (t3_fillPlayed r3 r9 r12 r15 h17 >>= fun ⟨r42, h41⟩ => some (r42, h41))
else (if (m_w r18) = 5 then
  (if m_t h17 v1 = 6 then t6_other v1 v2 h17 >>= fun ⟨r46, h45⟩ => if m_t h45 v0 = 3 then t3_row v0 r46 h45 >>= fun ⟨r49, h48⟩ => t3_fillJoined r3 r9 r49 r12 h48 >>= fun ⟨r51, h50⟩ => some (r51, h50) else none else none)
else (if (m_w r18) = 6 then
  (if m_t h17 r3 = 5 then t5_fillRound r3 r9 r12 h17 >>= fun ⟨_, h54⟩ => t3_isLength r12 h54 >>= fun ⟨r57, h56⟩ => some (r57, h56) else none)
else (if (m_w r18) = 7 then
  (if m_t h17 r9 = 5 then t5_size r9 h17 >>= fun ⟨r61, h60⟩ => if m_t h60 r3 = 5 then t5_fillPart r3 r9 0 r61 h60 >>= fun ⟨_, h63⟩ => if m_t h63 r3 = 5 then t5_echo r3 r12 r15 h63 >>= fun ⟨_, h66⟩ => some (true, h66) else none else none else none)
else (if (m_w r18) = 8 then
  (if m_t h17 v0 = 3 then if m_t h17 (m_g h17 v0 0) = 7 then t7_machineOf (m_g h17 v0 0) r12 h17 >>= fun ⟨r72, h71⟩ => t3_fillCopied r3 r9 r72 h71 >>= fun ⟨r74, h73⟩ => some (r74, h73) else none else none)
else (if (m_w r18) = 9 then
  (if m_t h17 v1 = 6 then t6_number v1 v2 2 h17 >>= fun ⟨r78, h77⟩ => if m_t h77 r3 = 5 then t5_fillFiltered r3 r9 r12 r15 r78 h77 >>= fun ⟨_, h80⟩ => some (true, h80) else none else none)
else (if (m_w r18) = 10 then
  (t3_fillFaded r3 r9 r12 r15 h17 >>= fun ⟨r84, h83⟩ => some (r84, h83))
else (if m_t h17 r9 = 5 then t5_size r9 h17 >>= fun ⟨r87, h86⟩ => if m_t h86 r3 = 5 then t5_fillPart r3 r9 0 r87 h86 >>= fun ⟨_, h89⟩ => if m_t h89 r3 = 5 then t5_level r3 r12 h89 >>= fun ⟨_, h92⟩ => some (true, h92) else none else none else none)))))))))))) else none else none else none else none else none else none)
def t3_firstFailing_c2 (v0 v1 v2 v3 : Int) (h : m_H) : Option (Int × m_H) :=
  (if m_t h v1 = 6 then (if (m_w v3) < (m_w (m_g h v1 1)) then
  (if m_t h v0 = 3 then t3_stripOf v0 v1 v3 v2 h >>= fun ⟨r5, h4⟩ => t10_setEntry (m_g h v0 3) v3 r5 h4 >>= fun ⟨_, h6⟩ => if m_t h6 v1 = 6 then t6_isPut v1 v3 h6 >>= fun ⟨r10, h9⟩ => (if r10 = true then
    (if m_t h9 v0 = 3 then t3_canPut v0 v1 v3 h9 >>= fun ⟨r14, h13⟩ => some (m_b2i r14) >>= fun x15 => (if (m_w x15) = 0 then
      some (v3, h13)
    else
      (t3_firstFailing_c2 v0 v1 v2 (v3 + 1) h13)) else none)
  else
    (if m_t h9 v0 = 3 then t3_fillRow v0 v1 v3 h9 >>= fun ⟨r19, h18⟩ => some (m_b2i r19) >>= fun x20 => (if (m_w x20) = 0 then
      some (v3, h18)
    else
      (t3_firstFailing_c2 v0 v1 v2 (v3 + 1) h18)) else none)) else none else none)
else
  some ((-1), h)) else none)
partial_fixpoint
def t3_firstFailing (v0 v1 v2 : Int) (h : m_H) : Option (Int × m_H) :=
  (t3_firstFailing_c2 v0 v1 v2 0 h)
def t3_noteLeads_c7 (v0 v1 v2 : Int) (h : m_H) : Option (Unit × m_H) :=
  (if m_t h v1 = 6 then (if (m_w v2) < (m_w (m_g h v1 1)) then
  (if m_t h v0 = 3 then t10_entry (m_g h v0 3) v2 (-1) h >>= fun ⟨r5, h4⟩ => t10_setEntry (m_g h v1 3) v2 r5 h4 >>= fun ⟨_, h6⟩ => (t3_noteLeads_c7 v0 v1 (v2 + 1) h6) else none)
else
  some ((), h)) else none)
partial_fixpoint
def t3_noteLeads (v0 v1 : Int) (h : m_H) : Option (Unit × m_H) :=
  (if m_t h v1 = 6 then some (m_p h v1 2 1) >>= fun h2 => (t3_noteLeads_c7 v0 v1 0 h2) else none)
def t3_leadsOtherwise_c2 (v0 v1 v2 : Int) (h : m_H) : Option (Bool × m_H) :=
  (if m_t h v1 = 6 then (if (m_w v2) < (m_w (m_g h v1 1)) then
  (t6_verb v1 v2 h >>= fun ⟨r4, h3⟩ => (if (m_w r4) = 1 then
    (if m_t h3 v0 = 3 then t10_entry (m_g h3 v0 3) v2 (-1) h3 >>= fun ⟨r8, h7⟩ => if m_t h7 v1 = 6 then t10_entry (m_g h7 v1 3) v2 (-1) h7 >>= fun ⟨r11, h10⟩ => (if (m_w r8) = (m_w r11) then
      (t3_leadsOtherwise_c2 v0 v1 (v2 + 1) h10)
    else
      some (true, h10)) else none else none)
  else
    (t3_leadsOtherwise_c2 v0 v1 (v2 + 1) h3)))
else
  some (false, h)) else none)
partial_fixpoint
def t3_leadsOtherwise (v0 v1 : Int) (h : m_H) : Option (Bool × m_H) :=
  (t3_leadsOtherwise_c2 v0 v1 0 h)
def t3_depthOf_c76 (v0 v1 v2 s0 : Int) (h : m_H) : Option (Int × m_H) :=
  (if m_t h v0 = 3 then if m_t h v1 = 6 then t6_one v1 v2 h >>= fun ⟨r4, h3⟩ => t10_entry (m_g h v0 4) r4 0 h3 >>= fun ⟨r6, h5⟩ => if m_t h5 v0 = 3 then if m_t h5 v1 = 6 then t6_other v1 v2 h5 >>= fun ⟨r10, h9⟩ => t10_entry (m_g h5 v0 4) r10 0 h9 >>= fun ⟨r12, h11⟩ => some ((s0 + (m_max r6 r12)), h11) else none else none else none else none)
def t3_depthOf_c71 (v0 v1 v2 : Int) (h : m_H) : Option (Int × m_H) :=
  (t3_depthOf_c76 v0 v1 v2 1 h)
def t3_depthOf (v0 v1 v2 : Int) (h : m_H) : Option (Int × m_H) :=
  (if m_t h v1 = 6 then t6_isSource v1 v2 h >>= fun ⟨r3, h2⟩ => (if r3 = true then
  (if m_t h2 v0 = 3 then if m_t h2 (m_g h2 v0 0) = 7 then t3_stripOf v0 v1 v2 (m_g h2 (m_g h2 v0 0) 3) h2 >>= fun ⟨r8, h7⟩ => if m_t h7 (m_g h2 v0 0) = 7 then t7_there (m_g h2 v0 0) r8 h7 >>= fun ⟨r11, h10⟩ => (if r11 = 0 then
    some (0, h10)
  else
    (if m_t h10 r11 = 8 then some ((m_g h10 r11 5), h10) else none)) else none else none else none)
else
  (if m_t h2 v1 = 6 then t6_verb v1 v2 h2 >>= fun ⟨r16, h15⟩ => (if (m_w r16) = 4 then
    (t3_depthOf_c71 v0 v1 v2 h15)
  else
    (if (m_w r16) = 8 then
      (t3_depthOf_c71 v0 v1 v2 h15)
    else
      (if (m_w r16) = 7 then
        (t3_depthOf_c71 v0 v1 v2 h15)
      else
        (if (m_w r16) = 9 then
          (t3_depthOf_c71 v0 v1 v2 h15)
        else
          (t3_depthOf_c76 v0 v1 v2 0 h15))))) else none)) else none)
def t3_depth_c4 (v0 v1 v2 v3 : Int) (h : m_H) : Option (Int × m_H) :=
  (if m_t h v1 = 6 then (if (m_w v3) < (m_w (m_g h v1 1)) then
  (if m_t h v0 = 3 then t3_depthOf v0 v1 v3 h >>= fun ⟨r5, h4⟩ => if m_t h4 v0 = 3 then t10_setEntry (m_g h4 v0 4) v3 r5 h4 >>= fun ⟨_, h7⟩ => if m_t h7 v1 = 6 then t6_isPut v1 v3 h7 >>= fun ⟨r11, h10⟩ => (if r11 = true then
    (some (m_max v2 r5) >>= fun x13 => (t3_depth_c4 v0 v1 x13 (v3 + 1) h10))
  else
    (t3_depth_c4 v0 v1 v2 (v3 + 1) h10)) else none else none else none)
else
  some (v2, h)) else none)
partial_fixpoint
def t3_depth (v0 v1 : Int) (h : m_H) : Option (Int × m_H) :=
  (t3_depth_c4 v0 v1 (-1) 0 h)
def t4_init (v0 : Int) (h : m_H) : Option (Unit × m_H) :=
  (if 0 ≤ m_t h v0 then some (m_a h 20 1200) >>= fun h2 => if m_t h2 v0 = 4 then some (m_p h2 v0 0 (m_n h)) >>= fun h4 => some (m_a h4 20 1201) >>= fun h5 => if m_t h5 v0 = 4 then some (m_p h5 v0 2 (m_n h4)) >>= fun h7 => some (m_a h7 20 1201) >>= fun h8 => if m_t h8 v0 = 4 then some (m_p h8 v0 3 (m_n h7)) >>= fun h10 => some (m_a h10 20 1201) >>= fun h11 => if m_t h11 v0 = 4 then some (m_p h11 v0 4 (m_n h10)) >>= fun h13 => some (m_a h13 6 4) >>= fun h14 => some (m_a h14 20 320) >>= fun h15 => if 0 ≤ m_t h15 (m_n h13) then t6_init (m_n h13) (m_n h14) 0 h15 >>= fun ⟨_, h17⟩ => if m_t h17 v0 = 4 then some (m_p h17 v0 8 (m_n h13)) >>= fun h20 => some (m_a h20 20 40) >>= fun h21 => if m_t h21 v0 = 4 then some (m_p h21 v0 9 (m_n h20)) >>= fun h23 => some ((), h23) else none else none else none else none else none else none else none else none)
def t4_addByte (v0 v1 : Int) (h : m_H) : Option (Unit × m_H) :=
  (if m_t h v0 = 4 then if 20 ≤ m_t h (m_g h v0 0) then (if (m_w (m_g h v0 1)) < (m_w (m_l h (m_g h v0 0))) then
  (if m_t h (m_g h v0 0) = 20 ∧ 0 ≤ (m_w (m_g h v0 1)) ∧ (m_w (m_g h v0 1)) < m_l h (m_g h v0 0) then some (m_p h (m_g h v0 0) (m_w (m_g h v0 1)) v1) >>= fun h5 => if m_t h5 v0 = 4 then some (m_p h5 v0 1 ((m_g h5 v0 1) + 1)) >>= fun h7 => some ((), h7) else none else none)
else
  some ((), h)) else none else none)
def t4_addFour (v0 v1 : Int) (h : m_H) : Option (Unit × m_H) :=
  (if m_t h v0 = 4 then t4_addByte v0 (m_ushr v1 24) h >>= fun ⟨_, h2⟩ => if m_t h2 v0 = 4 then t4_addByte v0 (m_and (m_ushr v1 16) 255) h2 >>= fun ⟨_, h5⟩ => if m_t h5 v0 = 4 then t4_addByte v0 (m_and (m_ushr v1 8) 255) h5 >>= fun ⟨_, h8⟩ => if m_t h8 v0 = 4 then t4_addByte v0 (m_and v1 255) h8 >>= fun ⟨_, h11⟩ => some ((), h11) else none else none else none else none)
def t4_byteAt (v0 v1 : Int) (h : m_H) : Option (Int × m_H) :=
  (if (m_w v1) < 0 then
  some ((-1), h)
else
  (if m_t h v0 = 4 then (if (m_w v1) < (m_w (m_g h v0 1)) then
    (if 20 ≤ m_t h (m_g h v0 0) then (if (m_w v1) < (m_w (m_l h (m_g h v0 0))) then
      (if m_t h (m_g h v0 0) = 20 ∧ 0 ≤ (m_w v1) ∧ (m_w v1) < m_l h (m_g h v0 0) then some ((m_g h (m_g h v0 0) (m_w v1)), h) else none)
    else
      some ((-1), h)) else none)
  else
    some ((-1), h)) else none))
def t4_isLetter (v0 : Int) (h : m_H) : Option (Bool × m_H) :=
  (if (m_w v0) < 97 then
  some (false, h)
else
  (if 122 < (m_w v0) then
    some (false, h)
  else
    some (true, h)))
def t4_addToken (v0 v1 v2 v3 : Int) (h : m_H) : Option (Unit × m_H) :=
  (if m_t h v0 = 4 then t10_setEntry (m_g h v0 2) (m_g h v0 5) v1 h >>= fun ⟨_, h2⟩ => if m_t h2 v0 = 4 then t10_setEntry (m_g h2 v0 3) (m_g h2 v0 5) v2 h2 >>= fun ⟨_, h5⟩ => if m_t h5 v0 = 4 then t10_setEntry (m_g h5 v0 4) (m_g h5 v0 5) v3 h5 >>= fun ⟨_, h8⟩ => if m_t h8 v0 = 4 then some (m_p h8 v0 5 ((m_g h8 v0 5) + 1)) >>= fun h11 => some ((), h11) else none else none else none else none)
def t4_isKeyword_x2 (cc : Int) (v0 v1 v2 v3 : Int) (h : m_H) : Option (Bool × m_H) :=
  if cc = 2 then
  (if (m_w v3) < 6 then
    (some ((6 * v1) + v3) >>= fun x2 => (if (m_w x2) < 0 then
      (t4_isKeyword_x2 41 v0 v1 v2 v3 h)
    else
      (if -26 ≤ (-2) ∧ (-2) ≤ -2 then (if (m_w x2) < (m_w (m_sl (-2))) then
        (if (-26 ≤ (-2) ∧ (-2) ≤ -2) ∧ 0 ≤ (m_w x2) ∧ (m_w x2) < m_sl (-2) then some (m_sc (-2) (m_w x2)) >>= fun x7 => if m_t h v0 = 4 then (if (m_w (v2 + v3)) < (m_w (m_g h v0 6)) then
          (t4_byteAt v0 (v2 + v3) h >>= fun ⟨r11, h10⟩ => (if (m_w x7) = (m_w r11) then
            (t4_isKeyword_x2 2 v0 v1 v2 (v3 + 1) h10)
          else
            some (false, h10)))
        else
          (if (m_w x7) = 32 then
            (t4_isKeyword_x2 2 v0 v1 v2 (v3 + 1) h)
          else
            some (false, h))) else none else none)
      else
        (t4_isKeyword_x2 41 v0 v1 v2 v3 h)) else none)))
  else
    some (true, h))
  else if cc = 41 then
  (if m_t h v0 = 4 then (if (m_w (v2 + v3)) < (m_w (m_g h v0 6)) then
    (t4_byteAt v0 (v2 + v3) h >>= fun ⟨r4, h3⟩ => (if 32 = (m_w r4) then
      (t4_isKeyword_x2 2 v0 v1 v2 (v3 + 1) h3)
    else
      some (false, h3)))
  else
    (if (m_w 32) = (m_w 32) then
      (t4_isKeyword_x2 2 v0 v1 v2 (v3 + 1) h)
    else
      some (false, h))) else none)
  else none
partial_fixpoint
def t4_isKeyword (v0 v1 v2 : Int) (h : m_H) : Option (Bool × m_H) :=
  (t4_isKeyword_x2 2 v0 v1 v2 0 h)
def t4_readWord_c123 (v0 v1 v2 v3 : Int) (h : m_H) : Option (Unit × m_H) :=
  (if (m_w v3) = (-1) then
  (if m_t h v0 = 4 then t4_addToken v0 v1 24 v2 h >>= fun ⟨_, h3⟩ => some ((), h3) else none)
else
  (if m_t h v0 = 4 then t4_addToken v0 v1 v3 v2 h >>= fun ⟨_, h6⟩ => some ((), h6) else none))
def t4_readWord_c92 (v0 v1 v2 v3 v4 : Int) (h : m_H) : Option (Unit × m_H) :=
  (if (m_w v4) < 24 then
  (if (m_w v3) = (-1) then
    (if m_t h v0 = 4 then t4_isKeyword v0 v4 v1 h >>= fun ⟨r5, h4⟩ => (if r5 = true then
      (t4_readWord_c92 v0 v1 v2 v4 (v4 + 1) h4)
    else
      (t4_readWord_c92 v0 v1 v2 v3 (v4 + 1) h4)) else none)
  else
    (t4_readWord_c123 v0 v1 v2 v3 h))
else
  (t4_readWord_c123 v0 v1 v2 v3 h))
partial_fixpoint
def t4_readWord_c67 (v0 v1 v2 : Int) (h : m_H) : Option (Unit × m_H) :=
  (if m_t h v0 = 4 then (if 6 < (m_w ((m_g h v0 6) - v1)) then
  (t4_addToken v0 v1 26 (-1) h >>= fun ⟨_, h3⟩ => some ((), h3))
else
  (t4_readWord_c92 v0 v1 v2 (-1) 0 h)) else none)
def t4_readWord_c11 (v0 v1 v2 : Int) (h : m_H) : Option (Unit × m_H) :=
  (if m_t h v0 = 4 then (if (m_w (m_g h v0 6)) < (m_w (m_g h v0 1)) then
  (t4_byteAt v0 (m_g h v0 6) h >>= fun ⟨r4, h3⟩ => t4_isLetter r4 h3 >>= fun ⟨r6, h5⟩ => (if r6 = true then
    (if m_t h5 v0 = 4 then t4_byteAt v0 (m_g h5 v0 6) h5 >>= fun ⟨r10, h9⟩ => some (m_or (m_shl v2 5) ((r10 - 97) + 1)) >>= fun x11 => if m_t h9 v0 = 4 then some (m_p h9 v0 6 ((m_g h9 v0 6) + 1)) >>= fun h13 => (t4_readWord_c11 v0 v1 x11 h13) else none else none)
  else
    (t4_readWord_c67 v0 v1 v2 h5)))
else
  (t4_readWord_c67 v0 v1 v2 h)) else none)
partial_fixpoint
def t4_readWord (v0 v1 : Int) (h : m_H) : Option (Unit × m_H) :=
  (if m_t h v0 = 4 then t4_byteAt v0 v1 h >>= fun ⟨r3, h2⟩ => some ((r3 - 97) + 1) >>= fun x4 => (t4_readWord_c11 v0 v1 x4 h2) else none)
def t4_isDigit (v0 : Int) (h : m_H) : Option (Bool × m_H) :=
  (if (m_w v0) < 48 then
  some (false, h)
else
  (if 57 < (m_w v0) then
    some (false, h)
  else
    some (true, h)))
def t4_readNumber_c69 (v0 v1 v2 : Int) (h : m_H) : Option (Unit × m_H) :=
  (if m_t h v0 = 4 then t4_addToken v0 v1 25 v2 h >>= fun ⟨_, h2⟩ => some ((), h2) else none)
def t4_readNumber_c9 (v0 v1 v2 : Int) (h : m_H) : Option (Unit × m_H) :=
  (if m_t h v0 = 4 then (if (m_w (m_g h v0 6)) < (m_w (m_g h v0 1)) then
  (t4_byteAt v0 (m_g h v0 6) h >>= fun ⟨r4, h3⟩ => t4_isDigit r4 h3 >>= fun ⟨r6, h5⟩ => (if r6 = true then
    (if m_t h5 v0 = 4 then t4_byteAt v0 (m_g h5 v0 6) h5 >>= fun ⟨r10, h9⟩ => some (m_min 1000000 (((v2 * 10) + r10) - 48)) >>= fun x11 => if m_t h9 v0 = 4 then some (m_p h9 v0 6 ((m_g h9 v0 6) + 1)) >>= fun h13 => (t4_readNumber_c9 v0 v1 x11 h13) else none else none)
  else
    (t4_readNumber_c69 v0 v1 v2 h5)))
else
  (t4_readNumber_c69 v0 v1 v2 h)) else none)
partial_fixpoint
def t4_readNumber (v0 v1 : Int) (h : m_H) : Option (Unit × m_H) :=
  (if m_t h v0 = 4 then t4_byteAt v0 v1 h >>= fun ⟨r3, h2⟩ => some (r3 - 48) >>= fun x4 => (t4_readNumber_c9 v0 v1 x4 h2) else none)
def t4_isSign (v0 : Int) (h : m_H) : Option (Bool × m_H) :=
  (if (m_w v0) = 61 then
  some (true, h)
else
  (if (m_w v0) = 59 then
    some (true, h)
  else
    (if (m_w v0) = 47 then
      some (true, h)
    else
      (if (m_w v0) = 123 then
        some (true, h)
      else
        (if (m_w v0) = 125 then
          some (true, h)
        else
          some (false, h))))))
def t4_readTokens_c10 (v0 : Int) (h : m_H) : Option (Unit × m_H) :=
  (if m_t h v0 = 4 then (if (m_w (m_g h v0 6)) < (m_w (m_g h v0 1)) then
  (some (m_g h v0 6) >>= fun x3 => t4_byteAt v0 x3 h >>= fun ⟨r5, h4⟩ => if m_t h4 v0 = 4 then some (m_p h4 v0 6 ((m_g h4 v0 6) + 1)) >>= fun h7 => t4_isLetter r5 h7 >>= fun ⟨r9, h8⟩ => (if r9 = true then
    (if m_t h8 v0 = 4 then t4_readWord v0 x3 h8 >>= fun ⟨_, h12⟩ => (t4_readTokens_c10 v0 h12) else none)
  else
    (t4_isDigit r5 h8 >>= fun ⟨r15, h14⟩ => (if r15 = true then
      (if m_t h14 v0 = 4 then t4_readNumber v0 x3 h14 >>= fun ⟨_, h18⟩ => (t4_readTokens_c10 v0 h18) else none)
    else
      (if (m_w r5) = 32 then
        (t4_readTokens_c10 v0 h14)
      else
        (if (m_w r5) = 10 then
          (t4_readTokens_c10 v0 h14)
        else
          (t4_isSign r5 h14 >>= fun ⟨r23, h22⟩ => (if r23 = true then
            (if m_t h22 v0 = 4 then t4_addToken v0 x3 r5 (-1) h22 >>= fun ⟨_, h26⟩ => (t4_readTokens_c10 v0 h26) else none)
          else
            (if m_t h22 v0 = 4 then t4_addToken v0 x3 26 (-1) h22 >>= fun ⟨_, h29⟩ => (t4_readTokens_c10 v0 h29) else none)))))))) else none)
else
  (t4_addToken v0 (m_g h v0 1) 27 (-1) h >>= fun ⟨_, h31⟩ => some ((), h31))) else none)
partial_fixpoint
def t4_readTokens (v0 : Int) (h : m_H) : Option (Unit × m_H) :=
  (if m_t h v0 = 4 then some (m_p h v0 5 0) >>= fun h2 => if m_t h2 v0 = 4 then some (m_p h2 v0 6 0) >>= fun h4 => (t4_readTokens_c10 v0 h4) else none else none)
def t4_kind (v0 : Int) (h : m_H) : Option (Int × m_H) :=
  (if m_t h v0 = 4 then (if (m_w (m_g h v0 7)) < 0 then
  some (27, h)
else
  (if 20 ≤ m_t h (m_g h v0 3) then (if (m_w (m_g h v0 7)) < (m_w (m_l h (m_g h v0 3))) then
    (if m_t h (m_g h v0 3) = 20 ∧ 0 ≤ (m_w (m_g h v0 7)) ∧ (m_w (m_g h v0 7)) < m_l h (m_g h v0 3) then some ((m_g h (m_g h v0 3) (m_w (m_g h v0 7))), h) else none)
  else
    some (27, h)) else none)) else none)
def t4_value (v0 : Int) (h : m_H) : Option (Int × m_H) :=
  (if m_t h v0 = 4 then (if (m_w (m_g h v0 7)) < 0 then
  some ((-1), h)
else
  (if 20 ≤ m_t h (m_g h v0 4) then (if (m_w (m_g h v0 7)) < (m_w (m_l h (m_g h v0 4))) then
    (if m_t h (m_g h v0 4) = 20 ∧ 0 ≤ (m_w (m_g h v0 7)) ∧ (m_w (m_g h v0 7)) < m_l h (m_g h v0 4) then some ((m_g h (m_g h v0 4) (m_w (m_g h v0 7))), h) else none)
  else
    some ((-1), h)) else none)) else none)
def t4_isNumber (v0 v1 v2 : Int) (h : m_H) : Option (Bool × m_H) :=
  (if m_t h v0 = 4 then t4_kind v0 h >>= fun ⟨r3, h2⟩ => (if (m_w r3) = 25 then
  (if m_t h2 v0 = 4 then t4_value v0 h2 >>= fun ⟨r7, h6⟩ => (if (m_w r7) < (m_w v1) then
    some (false, h6)
  else
    (if m_t h6 v0 = 4 then t4_value v0 h6 >>= fun ⟨r11, h10⟩ => (if (m_w v2) < (m_w r11) then
      some (false, h10)
    else
      some (true, h10)) else none)) else none)
else
  some (false, h2)) else none)
def t4_pass (v0 v1 : Int) (h : m_H) : Option (Bool × m_H) :=
  (if m_t h v0 = 4 then t4_kind v0 h >>= fun ⟨r3, h2⟩ => (if (m_w r3) = (m_w v1) then
  (if m_t h2 v0 = 4 then some (m_p h2 v0 7 ((m_g h2 v0 7) + 1)) >>= fun h6 => some (true, h6) else none)
else
  some (false, h2)) else none)
def t4_setCell (v0 v1 v2 : Int) (h : m_H) : Option (Unit × m_H) :=
  (if m_t h v0 = 4 then if m_t h (m_g h v0 8) = 6 then t10_setEntry (m_g h (m_g h v0 8) 0) (((m_g h (m_g h v0 8) 1) * 8) + v1) v2 h >>= fun ⟨_, h3⟩ => some ((), h3) else none else none)
def t4_beginOrder (v0 v1 v2 : Int) (h : m_H) : Option (Unit × m_H) :=
  (if m_t h v0 = 4 then t4_setCell v0 0 v1 h >>= fun ⟨_, h2⟩ => if m_t h2 v0 = 4 then t4_setCell v0 1 (-1) h2 >>= fun ⟨_, h5⟩ => if m_t h5 v0 = 4 then t4_setCell v0 2 (-1) h5 >>= fun ⟨_, h8⟩ => if m_t h8 v0 = 4 then t4_setCell v0 6 0 h8 >>= fun ⟨_, h11⟩ => if m_t h11 v0 = 4 then t4_setCell v0 7 0 h11 >>= fun ⟨_, h14⟩ => if m_t h14 v0 = 4 then if m_t h14 (m_g h14 v0 8) = 6 then t10_setEntry (m_g h14 v0 9) (m_g h14 (m_g h14 v0 8) 1) v2 h14 >>= fun ⟨_, h18⟩ => if m_t h18 v0 = 4 then some (m_p h18 v0 10 0) >>= fun h21 => some ((), h21) else none else none else none else none else none else none else none else none)
def t4_namedOrder_c2 (v0 v1 : Int) (h : m_H) : Option (Int × m_H) :=
  (if m_t h v0 = 4 then if m_t h (m_g h v0 8) = 6 then (if (m_w v1) < (m_w (m_g h (m_g h v0 8) 1)) then
  (t4_kind v0 h >>= fun ⟨r5, h4⟩ => (if (m_w r5) = 24 then
    (if m_t h4 v0 = 4 then t10_entry (m_g h4 v0 9) v1 (-1) h4 >>= fun ⟨r9, h8⟩ => if m_t h8 v0 = 4 then t4_value v0 h8 >>= fun ⟨r12, h11⟩ => (if (m_w r9) = (m_w r12) then
      some (v1, h11)
    else
      (t4_namedOrder_c2 v0 (v1 + 1) h11)) else none else none)
  else
    some ((-1), h4)))
else
  some ((-1), h)) else none else none)
partial_fixpoint
def t4_namedOrder (v0 : Int) (h : m_H) : Option (Int × m_H) :=
  (t4_namedOrder_c2 v0 0 h)
def t4_passRow (v0 v1 : Int) (h : m_H) : Option (Bool × m_H) :=
  (if m_t h v0 = 4 then t4_namedOrder v0 h >>= fun ⟨r3, h2⟩ => (if (m_w r3) = (-1) then
  some (false, h2)
else
  (if m_t h2 v0 = 4 then t4_setCell v0 v1 r3 h2 >>= fun ⟨_, h6⟩ => if m_t h6 v0 = 4 then some (m_p h6 v0 7 ((m_g h6 v0 7) + 1)) >>= fun h9 => some (true, h9) else none else none)) else none)
def t4_passNumber (v0 v1 v2 : Int) (h : m_H) : Option (Bool × m_H) :=
  (if m_t h v0 = 4 then t4_isNumber v0 v1 v2 h >>= fun ⟨r3, h2⟩ => (if r3 = true then
  (if m_t h2 v0 = 4 then t4_value v0 h2 >>= fun ⟨r7, h6⟩ => if m_t h6 v0 = 4 then t4_setCell v0 (3 + (m_g h2 v0 10)) r7 h6 >>= fun ⟨_, h9⟩ => if m_t h9 v0 = 4 then some (m_p h9 v0 10 ((m_g h9 v0 10) + 1)) >>= fun h12 => if m_t h12 v0 = 4 then some (m_p h12 v0 7 ((m_g h12 v0 7) + 1)) >>= fun h14 => some (true, h14) else none else none else none else none)
else
  some (false, h2)) else none)
def t4_endOrder (v0 : Int) (h : m_H) : Option (Bool × m_H) :=
  (if m_t h v0 = 4 then t4_pass v0 59 h >>= fun ⟨r3, h2⟩ => (if r3 = true then
  (if m_t h2 v0 = 4 then if m_t h2 (m_g h2 v0 8) = 6 then some (m_p h2 (m_g h2 v0 8) 1 ((m_g h2 (m_g h2 v0 8) 1) + 1)) >>= fun h7 => some (true, h7) else none else none)
else
  some (false, h2)) else none)
def t4_readPut (v0 v1 v2 : Int) (h : m_H) : Option (Bool × m_H) :=
  (if m_t h v0 = 4 then if m_t h (m_g h v0 8) = 6 then (if (m_w (m_g h (m_g h v0 8) 1)) < 40 then
  (t4_beginOrder v0 12 (-1) h >>= fun ⟨_, h4⟩ => if m_t h4 v0 = 4 then t4_setCell v0 6 v1 h4 >>= fun ⟨_, h7⟩ => if m_t h7 v0 = 4 then t4_setCell v0 7 v2 h7 >>= fun ⟨_, h10⟩ => if m_t h10 v0 = 4 then t4_pass v0 12 h10 >>= fun ⟨r14, h13⟩ => (if r14 = true then
    (if m_t h13 v0 = 4 then t4_passRow v0 1 h13 >>= fun ⟨r18, h17⟩ => (if r18 = true then
      (if m_t h17 v0 = 4 then t4_pass v0 23 h17 >>= fun ⟨r22, h21⟩ => (if r22 = true then
        (if m_t h21 v0 = 4 then t4_passNumber v0 0 1500 h21 >>= fun ⟨r26, h25⟩ => (if r26 = true then
          (if m_t h25 v0 = 4 then t4_pass v0 20 h25 >>= fun ⟨r30, h29⟩ => (if r30 = true then
            (if m_t h29 v0 = 4 then t4_passNumber v0 0 15 h29 >>= fun ⟨r34, h33⟩ => (if r34 = true then
              (if m_t h33 v0 = 4 then t4_endOrder v0 h33 >>= fun ⟨r38, h37⟩ => (if r38 = true then
                some (true, h37)
              else
                some (false, h37)) else none)
            else
              some (false, h33)) else none)
          else
            some (false, h29)) else none)
        else
          some (false, h25)) else none)
      else
        some (false, h21)) else none)
    else
      some (false, h17)) else none)
  else
    some (false, h13)) else none else none else none)
else
  some (false, h)) else none else none)
def t4_readAgain_c89 (v0 v1 v2 v3 : Int) (h : m_H) : Option (Bool × m_H) :=
  (if 40 < (m_w v3) then
  some (false, h)
else
  (if m_t h v0 = 4 then t4_readPut v0 v1 v2 h >>= fun ⟨r4, h3⟩ => (if r4 = true then
    (if m_t h3 v0 = 4 then t4_pass v0 125 h3 >>= fun ⟨r8, h7⟩ => (if r8 = true then
      some (true, h7)
    else
      (t4_readAgain_c89 v0 v1 v2 (v3 + 1) h7)) else none)
  else
    some (false, h3)) else none))
partial_fixpoint
def t4_readAgain (v0 : Int) (h : m_H) : Option (Bool × m_H) :=
  (if m_t h v0 = 4 then some (m_p h v0 7 ((m_g h v0 7) + 1)) >>= fun h2 => if m_t h2 v0 = 4 then t4_value v0 h2 >>= fun ⟨r5, h4⟩ => if m_t h4 v0 = 4 then t4_isNumber v0 1 9 h4 >>= fun ⟨r8, h7⟩ => (if r8 = true then
  (if m_t h7 v0 = 4 then some (m_p h7 v0 7 ((m_g h7 v0 7) + 1)) >>= fun h11 => if m_t h11 v0 = 4 then t4_pass v0 19 h11 >>= fun ⟨r14, h13⟩ => (if r14 = true then
    (if m_t h13 v0 = 4 then t4_value v0 h13 >>= fun ⟨r18, h17⟩ => if m_t h17 v0 = 4 then t4_isNumber v0 0 999 h17 >>= fun ⟨r21, h20⟩ => (if r21 = true then
      (if m_t h20 v0 = 4 then some (m_p h20 v0 7 ((m_g h20 v0 7) + 1)) >>= fun h24 => if m_t h24 v0 = 4 then t4_pass v0 123 h24 >>= fun ⟨r27, h26⟩ => (if r27 = true then
        (t4_readAgain_c89 v0 r5 r18 0 h26)
      else
        some (false, h26)) else none else none)
    else
      some (false, h20)) else none else none)
  else
    some (false, h13)) else none else none)
else
  some (false, h7)) else none else none else none)
def t4_readParts (v0 v1 : Int) (h : m_H) : Option (Bool × m_H) :=
  (if (m_w v1) = 0 then
  (if m_t h v0 = 4 then t4_passNumber v0 0 99 h >>= fun ⟨r4, h3⟩ => some (r4, h3) else none)
else
  (if (m_w v1) = 1 then
    (if m_t h v0 = 4 then t4_passNumber v0 0 999 h >>= fun ⟨r8, h7⟩ => some (r8, h7) else none)
  else
    (if m_t h v0 = 4 then t4_passRow v0 1 h >>= fun ⟨r11, h10⟩ => (if r11 = true then
      (if (m_w v1) = 2 then
        (if m_t h10 v0 = 4 then t4_pass v0 14 h10 >>= fun ⟨r16, h15⟩ => (if r16 = true then
          (if m_t h15 v0 = 4 then t4_passNumber v0 0 1500 h15 >>= fun ⟨r20, h19⟩ => (if r20 = true then
            (if m_t h19 v0 = 4 then t4_pass v0 15 h19 >>= fun ⟨r24, h23⟩ => (if r24 = true then
              (if m_t h23 v0 = 4 then t4_passNumber v0 0 1500 h23 >>= fun ⟨r28, h27⟩ => (if r28 = true then
                some (true, h27)
              else
                some (false, h27)) else none)
            else
              some (false, h23)) else none)
          else
            some (false, h19)) else none)
        else
          some (false, h15)) else none)
      else (if (m_w v1) = 3 then
        some (true, h10)
      else (if (m_w v1) = 4 then
        (if m_t h10 v0 = 4 then t4_passNumber v0 1 8 h10 >>= fun ⟨r34, h33⟩ => (if r34 = true then
          (if m_t h33 v0 = 4 then t4_pass v0 47 h33 >>= fun ⟨r38, h37⟩ => (if r38 = true then
            (if m_t h37 v0 = 4 then t4_passNumber v0 1 8 h37 >>= fun ⟨r42, h41⟩ => (if r42 = true then
              some (true, h41)
            else
              some (false, h41)) else none)
          else
            some (false, h37)) else none)
        else
          some (false, h33)) else none)
      else (if (m_w v1) = 5 then
        (if m_t h10 v0 = 4 then t4_passRow v0 2 h10 >>= fun ⟨r47, h46⟩ => (if r47 = true then
          (if m_t h46 v0 = 4 then t4_pass v0 16 h46 >>= fun ⟨r51, h50⟩ => (if r51 = true then
            (if m_t h50 v0 = 4 then t4_passNumber v0 0 40 h50 >>= fun ⟨r55, h54⟩ => (if r55 = true then
              some (true, h54)
            else
              some (false, h54)) else none)
          else
            some (false, h50)) else none)
        else
          some (false, h46)) else none)
      else (if (m_w v1) = 6 then
        (if m_t h10 v0 = 4 then t4_pass v0 17 h10 >>= fun ⟨r60, h59⟩ => (if r60 = true then
          (if m_t h59 v0 = 4 then t4_passNumber v0 0 1500 h59 >>= fun ⟨r64, h63⟩ => (if r64 = true then
            some (true, h63)
          else
            some (false, h63)) else none)
        else
          some (false, h59)) else none)
      else (if (m_w v1) = 7 then
        (if m_t h10 v0 = 4 then t4_pass v0 18 h10 >>= fun ⟨r69, h68⟩ => (if r69 = true then
          (if m_t h68 v0 = 4 then t4_passNumber v0 1 500 h68 >>= fun ⟨r73, h72⟩ => (if r73 = true then
            (if m_t h72 v0 = 4 then t4_pass v0 19 h72 >>= fun ⟨r77, h76⟩ => (if r77 = true then
              (if m_t h76 v0 = 4 then t4_passNumber v0 0 255 h76 >>= fun ⟨r81, h80⟩ => (if r81 = true then
                some (true, h80)
              else
                some (false, h80)) else none)
            else
              some (false, h76)) else none)
          else
            some (false, h72)) else none)
        else
          some (false, h68)) else none)
      else (if (m_w v1) = 8 then
        (if m_t h10 v0 = 4 then t4_pass v0 20 h10 >>= fun ⟨r86, h85⟩ => (if r86 = true then
          (if m_t h85 v0 = 4 then t4_passNumber v0 0 3 h85 >>= fun ⟨r90, h89⟩ => (if r90 = true then
            some (true, h89)
          else
            some (false, h89)) else none)
        else
          some (false, h85)) else none)
      else (if (m_w v1) = 9 then
        (if m_t h10 v0 = 4 then t4_passNumber v0 0 128 h10 >>= fun ⟨r95, h94⟩ => (if r95 = true then
          (if m_t h94 v0 = 4 then t4_passNumber v0 0 128 h94 >>= fun ⟨r99, h98⟩ => (if r99 = true then
            (if m_t h98 v0 = 4 then t4_passNumber v0 0 128 h98 >>= fun ⟨r103, h102⟩ => (if r103 = true then
              some (true, h102)
            else
              some (false, h102)) else none)
          else
            some (false, h98)) else none)
        else
          some (false, h94)) else none)
      else (if (m_w v1) = 10 then
        (if m_t h10 v0 = 4 then t4_pass v0 21 h10 >>= fun ⟨r108, h107⟩ => (if r108 = true then
          (if m_t h107 v0 = 4 then t4_passNumber v0 0 1500 h107 >>= fun ⟨r112, h111⟩ => (if r112 = true then
            (if m_t h111 v0 = 4 then t4_pass v0 22 h111 >>= fun ⟨r116, h115⟩ => (if r116 = true then
              (if m_t h115 v0 = 4 then t4_passNumber v0 0 1500 h115 >>= fun ⟨r120, h119⟩ => (if r120 = true then
                some (true, h119)
              else
                some (false, h119)) else none)
            else
              some (false, h115)) else none)
          else
            some (false, h111)) else none)
        else
          some (false, h107)) else none)
      else (if (m_w v1) = 11 then
        (if m_t h10 v0 = 4 then t4_passNumber v0 0 128 h10 >>= fun ⟨r125, h124⟩ => some (r125, h124) else none)
      else some (true, h10)))))))))))
    else
      some (false, h10)) else none)))
def t4_readMaking (v0 : Int) (h : m_H) : Option (Bool × m_H) :=
  (if m_t h v0 = 4 then if m_t h (m_g h v0 8) = 6 then (if (m_w (m_g h (m_g h v0 8) 1)) < 40 then
  (t4_kind v0 h >>= fun ⟨r5, h4⟩ => (if (m_w r5) = 24 then
    (if m_t h4 v0 = 4 then t4_namedOrder v0 h4 >>= fun ⟨r9, h8⟩ => (if (m_w r9) = (-1) then
      (if m_t h8 v0 = 4 then t4_value v0 h8 >>= fun ⟨r13, h12⟩ => if m_t h12 v0 = 4 then some (m_p h12 v0 7 ((m_g h12 v0 7) + 1)) >>= fun h15 => if m_t h15 v0 = 4 then t4_pass v0 61 h15 >>= fun ⟨r18, h17⟩ => (if r18 = true then
        (if m_t h17 v0 = 4 then t4_kind v0 h17 >>= fun ⟨r22, h21⟩ => (if (m_w r22) < 0 then
          some (false, h21)
        else
          (if 11 < (m_w r22) then
            some (false, h21)
          else
            (if m_t h21 v0 = 4 then some (m_p h21 v0 7 ((m_g h21 v0 7) + 1)) >>= fun h26 => if m_t h26 v0 = 4 then t4_beginOrder v0 r22 r13 h26 >>= fun ⟨_, h28⟩ => if m_t h28 v0 = 4 then t4_readParts v0 r22 h28 >>= fun ⟨r32, h31⟩ => (if r32 = true then
              (if m_t h31 v0 = 4 then t4_endOrder v0 h31 >>= fun ⟨r36, h35⟩ => (if r36 = true then
                some (true, h35)
              else
                some (false, h35)) else none)
            else
              some (false, h31)) else none else none else none))) else none)
      else
        some (false, h17)) else none else none else none)
    else
      some (false, h8)) else none)
  else
    some (false, h4)))
else
  some (false, h)) else none else none)
def t4_firstFault_c19 (v0 v1 : Int) (h : m_H) : Option (Int × m_H) :=
  (if (m_w v1) < 1200 then
  (if m_t h v0 = 4 then t4_kind v0 h >>= fun ⟨r4, h3⟩ => (if (m_w r4) = 27 then
    some ((-1), h3)
  else
    (if m_t h3 v0 = 4 then t4_kind v0 h3 >>= fun ⟨r8, h7⟩ => (if (m_w r8) = 13 then
      (if m_t h7 v0 = 4 then t4_readAgain v0 h7 >>= fun ⟨r12, h11⟩ => some (m_b2i r12) >>= fun x13 => (if (m_w x13) = 0 then
        (if m_t h11 v0 = 4 then t10_entry (m_g h11 v0 2) (m_g h11 v0 7) (m_g h11 v0 1) h11 >>= fun ⟨r17, h16⟩ => some (r17, h16) else none)
      else
        (t4_firstFault_c19 v0 (v1 + 1) h11)) else none)
    else
      (if m_t h7 v0 = 4 then t4_kind v0 h7 >>= fun ⟨r20, h19⟩ => (if (m_w r20) = 12 then
        (if m_t h19 v0 = 4 then t4_readPut v0 1 0 h19 >>= fun ⟨r24, h23⟩ => some (m_b2i r24) >>= fun x25 => (if (m_w x25) = 0 then
          (if m_t h23 v0 = 4 then t10_entry (m_g h23 v0 2) (m_g h23 v0 7) (m_g h23 v0 1) h23 >>= fun ⟨r29, h28⟩ => some (r29, h28) else none)
        else
          (t4_firstFault_c19 v0 (v1 + 1) h23)) else none)
      else
        (if m_t h19 v0 = 4 then t4_readMaking v0 h19 >>= fun ⟨r32, h31⟩ => some (m_b2i r32) >>= fun x33 => (if (m_w x33) = 0 then
          (if m_t h31 v0 = 4 then t10_entry (m_g h31 v0 2) (m_g h31 v0 7) (m_g h31 v0 1) h31 >>= fun ⟨r37, h36⟩ => some (r37, h36) else none)
        else
          (t4_firstFault_c19 v0 (v1 + 1) h31)) else none)) else none)) else none)) else none)
else
  some ((-1), h))
partial_fixpoint
def t4_firstFault (v0 : Int) (h : m_H) : Option (Int × m_H) :=
  (if m_t h v0 = 4 then t4_readTokens v0 h >>= fun ⟨_, h2⟩ => if m_t h2 v0 = 4 then some (m_p h2 v0 7 0) >>= fun h5 => if m_t h5 v0 = 4 then if m_t h5 (m_g h5 v0 8) = 6 then some (m_p h5 (m_g h5 v0 8) 1 0) >>= fun h8 => (t4_firstFault_c19 v0 0 h8) else none else none else none else none)
def tJ7_copyOf_59c91 (v0 v1 : Int) (h : m_H) : Option (Int × m_H) :=
  (if 20 ≤ m_t h v0 then (if (m_w v1) = (m_w (m_l h v0)) then
  (if m_t h v0 = 20 ∧ 0 ≤ m_l h v0 then some (m_dp h v0) >>= fun h4 => if m_t h4 (m_n h) = 20 then some ((m_n h), h4) else none else none)
else
  (if 0 ≤ (m_w v1) ∧ (m_w v1) < 60000000 then some (m_a h 20 (m_w v1)) >>= fun h7 => some (m_n h) >>= fun x8 => if 20 ≤ m_t h7 v0 then if m_t h7 v0 = 20 ∧ m_t h7 x8 = 20 ∧ 0 ≤ (m_w 0) ∧ 0 ≤ (m_w 0) ∧ 0 ≤ (m_w (m_min (m_l h7 v0) v1)) ∧ (m_w 0) + (m_w (m_min (m_l h7 v0) v1)) ≤ m_l h7 v0 ∧ (m_w 0) + (m_w (m_min (m_l h7 v0) v1)) ≤ m_l h7 x8 then some (m_cp h7 v0 (m_w 0) x8 (m_w 0) (m_w (m_min (m_l h7 v0) v1))) >>= fun h11 => some (x8, h11) else none else none else none)) else none)
def t4_written (v0 : Int) (h : m_H) : Option (Int × m_H) :=
  (some (m_a h 6 4) >>= fun h1 => if m_t h1 v0 = 4 then if m_t h1 (m_g h1 v0 8) = 6 then tJ7_copyOf_59c91 (m_g h1 (m_g h1 v0 8) 0) ((m_g h1 (m_g h1 v0 8) 1) * 8) h1 >>= fun ⟨r5, h4⟩ => if m_t h4 v0 = 4 then if m_t h4 (m_g h4 v0 8) = 6 then if 0 ≤ m_t h4 (m_n h) then t6_init (m_n h) r5 (m_g h4 (m_g h4 v0 8) 1) h4 >>= fun ⟨_, h9⟩ => some ((m_n h), h9) else none else none else none else none else none)
def t5_add (v0 v1 : Int) (h : m_H) : Option (Unit × m_H) :=
  (if m_t h v0 = 5 then t5_resize v0 ((m_g h v0 1) + 1) h >>= fun ⟨_, h2⟩ => if m_t h2 v0 = 5 then t5_set v0 ((m_g h2 v0 1) - 1) v1 h2 >>= fun ⟨_, h5⟩ => some ((), h5) else none else none)
def t5_dropFirst_c2 (v0 v1 v2 : Int) (h : m_H) : Option (Unit × m_H) :=
  (if m_t h v0 = 5 then (if (m_w v2) < (m_w (m_g h v0 1)) then
  (t5_get v0 v2 h >>= fun ⟨r4, h3⟩ => if m_t h3 v0 = 5 then t5_set v0 (v2 - v1) r4 h3 >>= fun ⟨_, h6⟩ => (t5_dropFirst_c2 v0 v1 (v2 + 1) h6) else none)
else
  (t5_resize v0 ((m_g h v0 1) - v1) h >>= fun ⟨_, h8⟩ => some ((), h8))) else none)
partial_fixpoint
def t5_dropFirst (v0 v1 : Int) (h : m_H) : Option (Unit × m_H) :=
  (t5_dropFirst_c2 v0 v1 v1 h)
def t6_isBench (v0 v1 : Int) (h : m_H) : Option (Bool × m_H) :=
  (if m_t h v0 = 6 then t6_cell v0 v1 0 h >>= fun ⟨r3, h2⟩ => (if (m_w r3) = 2 then
  some (true, h2)
else
  (if (m_w r3) = 3 then
    some (true, h2)
  else
    (if (m_w r3) = 5 then
      some (true, h2)
    else
      (if (m_w r3) = 6 then
        some (true, h2)
      else
        some (false, h2))))) else none)
def t7_init (v0 : Int) (h : m_H) : Option (Unit × m_H) :=
  (if 0 ≤ m_t h v0 then some (m_a h 24 100) >>= fun h2 => if m_t h2 v0 = 7 then some (m_p h2 v0 0 (m_n h)) >>= fun h4 => some (m_a h4 25 4) >>= fun h5 => if m_t h5 v0 = 7 then some (m_p h5 v0 5 (m_n h4)) >>= fun h7 => some (m_a h7 20 100) >>= fun h8 => if m_t h8 v0 = 7 then some (m_p h8 v0 7 (m_n h7)) >>= fun h10 => some (m_a h10 20 100) >>= fun h11 => if m_t h11 v0 = 7 then some (m_p h11 v0 8 (m_n h10)) >>= fun h13 => some (m_a h13 20 100) >>= fun h14 => if m_t h14 v0 = 7 then some (m_p h14 v0 9 (m_n h13)) >>= fun h16 => some ((), h16) else none else none else none else none else none else none)
def t7_countThere_c4 (v0 v1 v2 : Int) (h : m_H) : Option (Int × m_H) :=
  (if m_t h v0 = 7 then (if (m_w v2) < (m_w (m_g h v0 1)) then
  (t7_there v0 v2 h >>= fun ⟨r4, h3⟩ => (if r4 = 0 then
    (t7_countThere_c4 v0 v1 (v2 + 1) h3)
  else
    (t7_countThere_c4 v0 (v1 + 1) (v2 + 1) h3)))
else
  some (v1, h)) else none)
partial_fixpoint
def t7_countThere (v0 : Int) (h : m_H) : Option (Int × m_H) :=
  (t7_countThere_c4 v0 0 0 h)
def t7_hasRoom (v0 v1 v2 : Int) (h : m_H) : Option (Bool × m_H) :=
  (if m_t h v0 = 7 then (if 100 < (m_w ((m_g h v0 1) + v1)) then
  some (false, h)
else
  (if 20000 < (m_w ((m_g h v0 2) + v2)) then
    some (false, h)
  else
    some (true, h))) else none)
def t8_init (v0 v1 v2 v3 : Int) (h : m_H) : Option (Unit × m_H) :=
  (if 0 ≤ m_t h v0 then some (m_a h 5 2) >>= fun h2 => if 0 ≤ m_t h2 (m_n h) then t5_init (m_n h) h2 >>= fun ⟨_, h4⟩ => if m_t h4 v0 = 8 then some (m_p h4 v0 3 (m_n h)) >>= fun h7 => if m_t h7 v0 = 8 then some (m_p h7 v0 4 0) >>= fun h9 => if m_t h9 v0 = 8 then some (m_p h9 v0 8 (-1)) >>= fun h11 => if m_t h11 v0 = 8 then some (m_p h11 v0 9 (-1)) >>= fun h13 => if m_t h13 v0 = 8 then some (m_p h13 v0 10 (-1)) >>= fun h15 => if m_t h15 v0 = 8 then some (m_p h15 v0 0 v1) >>= fun h17 => if m_t h17 v0 = 8 then some (m_p h17 v0 1 v2) >>= fun h19 => if m_t h19 v0 = 8 then some (m_p h19 v0 2 v3) >>= fun h21 => some ((), h21) else none else none else none else none else none else none else none else none else none else none)
def t7_begin_c57 (v0 v2 v3 : Int) (h : m_H) : Option (Int × m_H) :=
  (if m_t h v0 = 7 then some (m_p h v0 2 ((m_g h v0 2) + v2)) >>= fun h2 => if m_t h2 v0 = 7 then some (m_p h2 v0 11 ((m_g h2 v0 11) + 1)) >>= fun h4 => some (v3, h4) else none else none)
def t7_begin (v0 v1 v2 : Int) (h : m_H) : Option (Int × m_H) :=
  (some (m_a h 8 12) >>= fun h1 => if m_t h1 v0 = 7 then if 0 ≤ m_t h1 (m_n h) then t8_init (m_n h) (m_g h1 v0 1) v1 (m_g h1 v0 3) h1 >>= fun ⟨_, h4⟩ => some (m_n h) >>= fun x6 => if m_t h4 x6 = 8 then if m_t h4 (m_g h4 x6 3) = 5 then t5_resize (m_g h4 x6 3) v2 h4 >>= fun ⟨_, h9⟩ => if m_t h9 v0 = 7 then if 20 ≤ m_t h9 (m_g h9 v0 0) then (if (m_w (m_g h9 v0 1)) < (m_w (m_l h9 (m_g h9 v0 0))) then
  (if (m_t h9 (m_g h9 v0 0) = 24 ∧ 0 ≤ (m_w (m_g h9 v0 1)) ∧ (m_w (m_g h9 v0 1)) < m_l h9 (m_g h9 v0 0)) ∧ m_t h9 x6 = 8 then some (m_p h9 (m_g h9 v0 0) (m_w (m_g h9 v0 1)) x6) >>= fun h15 => if m_t h15 v0 = 7 then some (m_p h15 v0 1 ((m_g h15 v0 1) + 1)) >>= fun h17 => (t7_begin_c57 v0 v2 x6 h17) else none else none)
else
  (t7_begin_c57 v0 v2 x6 h9)) else none else none else none else none else none else none)
def t8_ageAs (v0 v1 : Int) (h : m_H) : Option (Unit × m_H) :=
  (if m_t h v0 = 8 then if m_t h v1 = 8 then some (m_p h v0 5 (m_max (m_g h v0 5) (m_g h v1 5))) >>= fun h3 => if m_t h3 v0 = 8 then if m_t h3 v1 = 8 then some (m_p h3 v0 6 (m_max (m_g h3 v0 6) (m_g h3 v1 6))) >>= fun h6 => if m_t h6 v0 = 8 then if m_t h6 v1 = 8 then some (m_p h6 v0 7 (m_max (m_g h6 v0 7) (m_g h6 v1 7))) >>= fun h9 => some ((), h9) else none else none else none else none else none else none)
def t7_beginOf (v0 v1 v2 v3 : Int) (h : m_H) : Option (Int × m_H) :=
  (if m_t h v0 = 7 then t7_begin v0 v1 v2 h >>= fun ⟨r3, h2⟩ => if m_t h2 v3 = 8 then if m_t h2 r3 = 8 then some (m_p h2 r3 9 (m_g h2 v3 0)) >>= fun h6 => if m_t h6 r3 = 8 then t8_ageAs r3 v3 h6 >>= fun ⟨_, h8⟩ => some (r3, h8) else none else none else none else none)
def t7_takeAway (v0 v1 v2 : Int) (h : m_H) : Option (Unit × m_H) :=
  (if m_t h v1 = 8 then some (m_p h v1 4 v2) >>= fun h2 => if m_t h2 v1 = 8 then some (m_p h2 v1 8 (-1)) >>= fun h4 => if m_t h4 v0 = 7 then some (m_p h4 v0 11 ((m_g h4 v0 11) + 1)) >>= fun h6 => some ((), h6) else none else none else none)
def t7_layStrip (v0 v1 v2 : Int) (h : m_H) : Option (Int × m_H) :=
  (if m_t h v0 = 7 then t7_begin v0 0 v2 h >>= fun ⟨r3, h2⟩ => if m_t h2 r3 = 8 then if m_t h2 (m_g h2 r3 3) = 5 then t5_fillPart (m_g h2 r3 3) v1 0 v2 h2 >>= fun ⟨_, h6⟩ => if m_t h6 r3 = 8 then some ((m_g h6 r3 0), h6) else none else none else none else none)
def t7_addPart (v0 v1 v2 v3 : Int) (h : m_H) : Option (Int × m_H) :=
  (if m_t h v0 = 7 then t7_beginOf v0 1 v3 v1 h >>= fun ⟨r3, h2⟩ => if m_t h2 r3 = 8 then if m_t h2 v1 = 8 then if m_t h2 (m_g h2 r3 3) = 5 then t5_fillPart (m_g h2 r3 3) (m_g h2 v1 3) v2 v3 h2 >>= fun ⟨_, h7⟩ => if m_t h7 r3 = 8 then some (m_p h7 r3 11 v2) >>= fun h10 => if m_t h10 r3 = 8 then some ((m_g h10 r3 0), h10) else none else none else none else none else none else none)
def t7_cutAt (v0 v1 v2 : Int) (h : m_H) : Option (Int × m_H) :=
  (if m_t h v0 = 7 then t7_there v0 v1 h >>= fun ⟨r3, h2⟩ => (if r3 = 0 then
  some ((-1), h2)
else
  (if (m_w v2) < 1 then
    some ((-1), h2)
  else
    (if m_t h2 r3 = 8 then if m_t h2 (m_g h2 r3 3) = 5 then t5_size (m_g h2 r3 3) h2 >>= fun ⟨r9, h8⟩ => (if (m_w v2) < (m_w r9) then
      (if m_t h8 v0 = 7 then some (v2 + (m_g h8 v0 4)) >>= fun x12 => if m_t h8 r3 = 8 then if m_t h8 (m_g h8 r3 3) = 5 then t5_size (m_g h8 r3 3) h8 >>= fun ⟨r16, h15⟩ => some (r16 - x12) >>= fun x17 => (if (m_w x17) < 1 then
        some ((-1), h15)
      else
        (if m_t h15 v0 = 7 then t7_hasRoom v0 2 (v2 + x17) h15 >>= fun ⟨r21, h20⟩ => (if r21 = true then
          (if m_t h20 v0 = 7 then t7_addPart v0 r3 0 v2 h20 >>= fun ⟨r25, h24⟩ => if m_t h24 v0 = 7 then t7_addPart v0 r3 x12 x17 h24 >>= fun ⟨r28, h27⟩ => if m_t h27 v0 = 7 then t7_takeAway v0 r3 1 h27 >>= fun ⟨_, h30⟩ => some (r25, h30) else none else none else none)
        else
          some ((-1), h20)) else none)) else none else none else none)
    else
      some ((-1), h8)) else none else none))) else none)
def t7_freeStrip (v0 v1 : Int) (h : m_H) : Option (Int × m_H) :=
  (if m_t h v0 = 7 then t7_there v0 v1 h >>= fun ⟨r3, h2⟩ => (if r3 = 0 then
  some (0, h2)
else
  (if m_t h2 r3 = 8 then (if (m_w (m_g h2 r3 1)) = 3 then
    some (0, h2)
  else
    some (r3, h2)) else none)) else none)
def t7_turnedOf (v0 v1 : Int) (h : m_H) : Option (Int × m_H) :=
  (if m_t h v0 = 7 then t7_freeStrip v0 v1 h >>= fun ⟨r3, h2⟩ => (if r3 = 0 then
  some ((-1), h2)
else
  (if m_t h2 r3 = 8 then if m_t h2 (m_g h2 r3 3) = 5 then t5_size (m_g h2 r3 3) h2 >>= fun ⟨r8, h7⟩ => if m_t h7 v0 = 7 then t7_hasRoom v0 1 r8 h7 >>= fun ⟨r11, h10⟩ => (if r11 = true then
    (if m_t h10 r3 = 8 then if m_t h10 (m_g h10 r3 3) = 5 then t5_size (m_g h10 r3 3) h10 >>= fun ⟨r16, h15⟩ => if m_t h15 v0 = 7 then t7_beginOf v0 2 r16 r3 h15 >>= fun ⟨r19, h18⟩ => if m_t h18 r19 = 8 then if m_t h18 r3 = 8 then if m_t h18 (m_g h18 r19 3) = 5 then t5_fillTurned (m_g h18 r19 3) (m_g h18 r3 3) h18 >>= fun ⟨_, h23⟩ => if m_t h23 v0 = 7 then t7_takeAway v0 r3 1 h23 >>= fun ⟨_, h26⟩ => if m_t h26 r19 = 8 then some ((m_g h26 r19 0), h26) else none else none else none else none else none else none else none else none)
  else
    some ((-1), h10)) else none else none else none)) else none)
def t7_loopOf (v0 v1 : Int) (h : m_H) : Option (Int × m_H) :=
  (if m_t h v0 = 7 then t7_freeStrip v0 v1 h >>= fun ⟨r3, h2⟩ => (if r3 = 0 then
  some ((-1), h2)
else
  (if m_t h2 r3 = 8 then if m_t h2 (m_g h2 r3 3) = 5 then t5_size (m_g h2 r3 3) h2 >>= fun ⟨r8, h7⟩ => if m_t h7 v0 = 7 then t7_hasRoom v0 1 r8 h7 >>= fun ⟨r11, h10⟩ => (if r11 = true then
    (if m_t h10 r3 = 8 then if m_t h10 (m_g h10 r3 3) = 5 then t5_size (m_g h10 r3 3) h10 >>= fun ⟨r16, h15⟩ => if m_t h15 v0 = 7 then t7_beginOf v0 3 r16 r3 h15 >>= fun ⟨r19, h18⟩ => if m_t h18 r19 = 8 then if m_t h18 r3 = 8 then if m_t h18 (m_g h18 r3 3) = 5 then t5_size (m_g h18 r3 3) h18 >>= fun ⟨r24, h23⟩ => if m_t h23 (m_g h18 r19 3) = 5 then t5_fillPart (m_g h18 r19 3) (m_g h18 r3 3) 0 r24 h23 >>= fun ⟨_, h26⟩ => if m_t h26 v0 = 7 then t7_takeAway v0 r3 1 h26 >>= fun ⟨_, h29⟩ => if m_t h29 r19 = 8 then some ((m_g h29 r19 0), h29) else none else none else none else none else none else none else none else none else none)
  else
    some ((-1), h10)) else none else none else none)) else none)
def t7_joinedOf (v0 v1 v2 v3 : Int) (h : m_H) : Option (Int × m_H) :=
  (if m_t h v0 = 7 then t7_freeStrip v0 v1 h >>= fun ⟨r3, h2⟩ => if m_t h2 v0 = 7 then t7_freeStrip v0 v2 h2 >>= fun ⟨r6, h5⟩ => (if r3 = 0 then
  some ((-1), h5)
else
  (if r6 = 0 then
    some ((-1), h5)
  else
    (if 0 ≤ r3 ∧ 0 ≤ r6 then (if r3 = r6 then
      some ((-1), h5)
    else
      (if (m_w v3) < 0 then
        some ((-1), h5)
      else
        (if 20 < (m_w v3) then
          some ((-1), h5)
        else
          (if m_t h5 r3 = 8 then if m_t h5 (m_g h5 r3 3) = 5 then t5_size (m_g h5 r3 3) h5 >>= fun ⟨r16, h15⟩ => if m_t h15 r6 = 8 then if m_t h15 (m_g h15 r6 3) = 5 then t5_size (m_g h15 r6 3) h15 >>= fun ⟨r20, h19⟩ => (if (m_w (m_min r16 r20)) < (m_w v3) then
            some ((-1), h19)
          else
            (if m_t h19 r3 = 8 then if m_t h19 r6 = 8 then t5_joinedSize (m_g h19 r3 3) (m_g h19 r6 3) v3 h19 >>= fun ⟨r25, h24⟩ => (if 300 < (m_w r25) then
              some ((-1), h24)
            else
              (if m_t h24 v0 = 7 then t7_hasRoom v0 1 r25 h24 >>= fun ⟨r29, h28⟩ => (if r29 = true then
                (if m_t h28 v0 = 7 then t7_beginOf v0 4 r25 r3 h28 >>= fun ⟨r33, h32⟩ => if m_t h32 r6 = 8 then if m_t h32 r33 = 8 then some (m_p h32 r33 10 (m_g h32 r6 0)) >>= fun h36 => if m_t h36 r33 = 8 then t8_ageAs r33 r6 h36 >>= fun ⟨_, h38⟩ => if m_t h38 r33 = 8 then if m_t h38 r3 = 8 then if m_t h38 r6 = 8 then if m_t h38 (m_g h38 r33 3) = 5 then t5_fillJoined (m_g h38 r33 3) (m_g h38 r3 3) (m_g h38 r6 3) v3 h38 >>= fun ⟨_, h44⟩ => if m_t h44 v0 = 7 then t7_takeAway v0 r3 1 h44 >>= fun ⟨_, h47⟩ => if m_t h47 v0 = 7 then t7_takeAway v0 r6 1 h47 >>= fun ⟨_, h50⟩ => if m_t h50 r33 = 8 then some ((m_g h50 r33 0), h50) else none else none else none else none else none else none else none else none else none else none else none)
              else
                some ((-1), h28)) else none)) else none else none)) else none else none else none else none)))) else none))) else none else none)
def t7_addMachine (v0 v1 v2 v3 : Int) (h : m_H) : Option (Int × m_H) :=
  (some ((Int.tdiv (m_w v1) 1000) - 50) >>= fun x1 => some (Int.tmod (m_w v1) 1000) >>= fun x2 => (if (m_w v1) < 0 then
  some ((-1), h)
else
  (if 50 < (m_w x1) then
    some ((-1), h)
  else
    (if 128 < (m_w x2) then
      some ((-1), h)
    else
      (if (m_w v2) < 0 then
        some ((-1), h)
      else
        (if 100 < (m_w v2) then
          some ((-1), h)
        else
          (if (m_w v3) < 0 then
            some ((-1), h)
          else
            (if 200 < (m_w v3) then
              some ((-1), h)
            else
              (if m_t h v0 = 7 then if 20 ≤ m_t h (m_g h v0 5) then (if (m_w (m_g h v0 6)) < (m_w (m_l h (m_g h v0 5))) then
                (some (m_a h 0 4) >>= fun h13 => if 0 ≤ m_t h13 (m_n h) then t0_init (m_n h) x1 x2 v2 v3 h13 >>= fun ⟨_, h15⟩ => if (m_t h15 (m_g h v0 5) = 25 ∧ 0 ≤ (m_w (m_g h v0 6)) ∧ (m_w (m_g h v0 6)) < m_l h15 (m_g h v0 5)) ∧ m_t h15 (m_n h) = 0 then some (m_p h15 (m_g h v0 5) (m_w (m_g h v0 6)) (m_n h)) >>= fun h18 => if m_t h18 v0 = 7 then some (m_p h18 v0 6 ((m_g h18 v0 6) + 1)) >>= fun h20 => if m_t h20 v0 = 7 then some (((m_g h20 v0 6) - 1), h20) else none else none else none else none)
              else
                some ((-1), h)) else none else none)))))))))
def t7_canPlay (v0 v1 v2 v3 v4 : Int) (h : m_H) : Option (Bool × m_H) :=
  (if v1 = 0 then
  some (false, h)
else
  (if v2 = 0 then
    some (false, h)
  else
    (if m_t h v1 = 8 then (if (m_w (m_g h v1 7)) < 1000 then
      (if m_t h (m_g h v1 3) = 5 then t5_playedSize (m_g h v1 3) v3 v4 h >>= fun ⟨r7, h6⟩ => (if (m_w r7) < 1 then
        some (false, h6)
      else
        (if 300 < (m_w r7) then
          some (false, h6)
        else
          (if m_t h6 v0 = 7 then t7_hasRoom v0 1 r7 h6 >>= fun ⟨r12, h11⟩ => (if r12 = true then
            some (true, h11)
          else
            some (false, h11)) else none))) else none)
    else
      some (false, h)) else none)))
def t7_played (v0 v1 v2 v3 v4 v5 : Int) (h : m_H) : Option (Int × m_H) :=
  (if m_t h v2 = 8 then if m_t h (m_g h v2 3) = 5 then t5_playedSize (m_g h v2 3) v4 v5 h >>= fun ⟨r4, h3⟩ => if m_t h3 v0 = 7 then t7_begin v0 v1 r4 h3 >>= fun ⟨r7, h6⟩ => if m_t h6 v2 = 8 then if m_t h6 r7 = 8 then some (m_p h6 r7 9 (m_g h6 v2 0)) >>= fun h10 => if m_t h10 v2 = 8 then if m_t h10 r7 = 8 then some (m_p h10 r7 5 ((m_g h10 v2 5) + 1)) >>= fun h13 => if m_t h13 v2 = 8 then if m_t h13 v3 = 0 then if m_t h13 r7 = 8 then some (m_p h13 r7 6 (m_min 1000 ((m_g h13 v2 6) + (m_g h13 v3 2)))) >>= fun h17 => if m_t h17 r7 = 8 then if m_t h17 v2 = 8 then if m_t h17 (m_g h17 r7 3) = 5 then t5_fillPlayed (m_g h17 r7 3) (m_g h17 v2 3) v4 v5 h17 >>= fun ⟨_, h21⟩ => if m_t h21 v2 = 8 then if m_t h21 v3 = 0 then some (m_p h21 v2 7 (m_min 1000 ((m_g h21 v2 7) + (m_g h21 v3 3)))) >>= fun h25 => some (r7, h25) else none else none else none else none else none else none else none else none else none else none else none else none else none else none else none)
def t7_copiedOf (v0 v1 v2 : Int) (h : m_H) : Option (Int × m_H) :=
  (if m_t h v0 = 7 then t7_freeStrip v0 v1 h >>= fun ⟨r3, h2⟩ => if m_t h2 v0 = 7 then t7_machineOf v0 v2 h2 >>= fun ⟨r6, h5⟩ => (if r6 = 0 then
  some ((-1), h5)
else
  (if m_t h5 r6 = 0 then t0_copyPace r6 h5 >>= fun ⟨r10, h9⟩ => if m_t h9 v0 = 7 then t7_canPlay v0 r3 r6 r10 1000 h9 >>= fun ⟨r13, h12⟩ => (if r13 = true then
    (if m_t h12 r6 = 0 then t0_copyPace r6 h12 >>= fun ⟨r17, h16⟩ => if m_t h16 v0 = 7 then t7_played v0 5 r3 r6 r17 1000 h16 >>= fun ⟨r20, h19⟩ => if m_t h19 r20 = 8 then if m_t h19 r6 = 0 then if m_t h19 (m_g h19 r20 3) = 5 then t5_level (m_g h19 r20 3) (m_g h19 r6 1) h19 >>= fun ⟨_, h24⟩ => if m_t h24 r20 = 8 then some ((m_g h24 r20 0), h24) else none else none else none else none else none else none)
  else
    some ((-1), h12)) else none else none)) else none else none)
def t7_speededOf (v0 v1 v2 v3 v4 : Int) (h : m_H) : Option (Int × m_H) :=
  (if m_t h v0 = 7 then t7_freeStrip v0 v1 h >>= fun ⟨r3, h2⟩ => if m_t h2 v0 = 7 then t7_machineOf v0 v2 h2 >>= fun ⟨r6, h5⟩ => (if (m_w v3) < 1 then
  some ((-1), h5)
else
  (if 8 < (m_w v3) then
    some ((-1), h5)
  else
    (if (m_w v4) < 1 then
      some ((-1), h5)
    else
      (if 8 < (m_w v4) then
        some ((-1), h5)
      else
        (if m_t h5 v0 = 7 then t7_canPlay v0 r3 r6 v3 v4 h5 >>= fun ⟨r13, h12⟩ => (if r13 = true then
          (if m_t h12 v0 = 7 then t7_played v0 6 r3 r6 v3 v4 h12 >>= fun ⟨r17, h16⟩ => if m_t h16 r17 = 8 then some ((m_g h16 r17 0), h16) else none else none)
        else
          some ((-1), h12)) else none))))) else none else none)
def t7_hangingOn_c2 (v0 v1 v2 : Int) (h : m_H) : Option (Int × m_H) :=
  (if m_t h v0 = 7 then (if (m_w v2) < (m_w (m_g h v0 1)) then
  (if (m_w v1) = (-1) then
    some ((-1), h)
  else
    (t7_there v0 v2 h >>= fun ⟨r5, h4⟩ => (if r5 = 0 then
      (t7_hangingOn_c2 v0 v1 (v2 + 1) h4)
    else
      (if m_t h4 r5 = 8 then (if (m_w (m_g h4 r5 8)) = (m_w v1) then
        some (v2, h4)
      else
        (t7_hangingOn_c2 v0 v1 (v2 + 1) h4)) else none))))
else
  some ((-1), h)) else none)
partial_fixpoint
def t7_hangingOn (v0 v1 : Int) (h : m_H) : Option (Int × m_H) :=
  (t7_hangingOn_c2 v0 v1 0 h)
def t7_readMark (v0 v1 v2 : Int) (h : m_H) : Option (Bool × m_H) :=
  (if m_t h v0 = 7 then t7_known v0 v1 h >>= fun ⟨r3, h2⟩ => (if r3 = 0 then
  some (false, h2)
else
  (if (m_w v2) < 0 then
    some (false, h2)
  else
    (if 999 < (m_w v2) then
      some (false, h2)
    else
      (if m_t h2 v0 = 7 then (if (m_w (m_g h2 v0 10)) < 100 then
        (t10_setEntry (m_g h2 v0 7) (m_g h2 v0 10) v1 h2 >>= fun ⟨_, h9⟩ => if m_t h9 v0 = 7 then t10_setEntry (m_g h9 v0 8) (m_g h9 v0 10) v2 h9 >>= fun ⟨_, h12⟩ => if m_t h12 v0 = 7 then t10_setEntry (m_g h12 v0 9) (m_g h12 v0 10) (m_g h12 v0 3) h12 >>= fun ⟨_, h15⟩ => if m_t h15 v0 = 7 then some (m_p h15 v0 10 ((m_g h15 v0 10) + 1)) >>= fun h18 => some (true, h18) else none else none else none)
      else
        some (false, h2)) else none)))) else none)
def t8_fact (v0 v1 : Int) (h : m_H) : Option (Int × m_H) :=
  (if (m_w v1) = 0 then
  (if m_t h v0 = 8 then some ((m_g h v0 1), h) else none)
else (if (m_w v1) = 1 then
  (if m_t h v0 = 8 then some ((m_g h v0 4), h) else none)
else (if (m_w v1) = 2 then
  (if m_t h v0 = 8 then if m_t h (m_g h v0 3) = 5 then t5_size (m_g h v0 3) h >>= fun ⟨r9, h8⟩ => some (r9, h8) else none else none)
else (if (m_w v1) = 3 then
  (if m_t h v0 = 8 then some ((m_g h v0 5), h) else none)
else (if (m_w v1) = 4 then
  (if m_t h v0 = 8 then some ((m_g h v0 6), h) else none)
else (if (m_w v1) = 5 then
  (if m_t h v0 = 8 then some ((m_g h v0 7), h) else none)
else (if (m_w v1) = 6 then
  (if m_t h v0 = 8 then some ((m_g h v0 8), h) else none)
else (if (m_w v1) = 7 then
  (if m_t h v0 = 8 then some ((m_g h v0 2), h) else none)
else (if (m_w v1) = 8 then
  (if m_t h v0 = 8 then some ((m_g h v0 9), h) else none)
else (if (m_w v1) = 9 then
  (if m_t h v0 = 8 then some ((m_g h v0 10), h) else none)
else (if (m_w v1) = 10 then
  (if m_t h v0 = 8 then some ((m_g h v0 11), h) else none)
else some ((-1), h))))))))))))
def t9_init (v0 : Int) (h : m_H) : Option (Unit × m_H) :=
  (if 0 ≤ m_t h v0 then some (m_a h 20 9) >>= fun h2 => if m_t h2 v0 = 9 then some (m_p h2 v0 0 (m_n h)) >>= fun h4 => some (m_a h4 20 9) >>= fun h5 => if m_t h5 v0 = 9 then some (m_p h5 v0 1 (m_n h4)) >>= fun h7 => some (m_a h7 20 40) >>= fun h8 => if m_t h8 v0 = 9 then some (m_p h8 v0 2 (m_n h7)) >>= fun h10 => some (m_a h10 20 512) >>= fun h11 => if m_t h11 v0 = 9 then some (m_p h11 v0 3 (m_n h10)) >>= fun h13 => some ((), h13) else none else none else none else none else none)
def t9_stepBit (v0 v1 : Int) (h : m_H) : Option (Int × m_H) :=
  (if m_t h v0 = 9 then t10_entry (m_g h v0 2) v1 (-1) h >>= fun ⟨r3, h2⟩ => (if (m_w r3) = (-1) then
  some (0, h2)
else
  some ((m_shl 1 r3), h2)) else none)
def t9_gather_c7 (v0 v1 : Int) (h : m_H) : Option (Bool × m_H) :=
  (if m_t h v0 = 9 then if m_t h (m_g h v0 4) = 6 then (if (m_w v1) < (m_w (m_g h (m_g h v0 4) 1)) then
  (t10_setEntry (m_g h v0 2) v1 (-1) h >>= fun ⟨_, h4⟩ => if m_t h4 v0 = 9 then if m_t h4 (m_g h4 v0 4) = 6 then t6_isSource (m_g h4 v0 4) v1 h4 >>= fun ⟨r9, h8⟩ => (if r9 = true then
    (t9_gather_c7 v0 (v1 + 1) h8)
  else
    (if m_t h8 v0 = 9 then if m_t h8 (m_g h8 v0 4) = 6 then t6_isPut (m_g h8 v0 4) v1 h8 >>= fun ⟨r14, h13⟩ => (if r14 = true then
      (t9_gather_c7 v0 (v1 + 1) h13)
    else
      (if m_t h13 v0 = 9 then (if (m_w (m_g h13 v0 5)) < 9 then
        (t10_setEntry (m_g h13 v0 2) v1 (m_g h13 v0 5) h13 >>= fun ⟨_, h18⟩ => if m_t h18 v0 = 9 then t10_setEntry (m_g h18 v0 0) (m_g h18 v0 5) v1 h18 >>= fun ⟨_, h21⟩ => if m_t h21 v0 = 9 then if m_t h21 (m_g h21 v0 4) = 6 then t6_one (m_g h21 v0 4) v1 h21 >>= fun ⟨r26, h25⟩ => if m_t h25 v0 = 9 then t9_stepBit v0 r26 h25 >>= fun ⟨r29, h28⟩ => if m_t h28 v0 = 9 then if m_t h28 (m_g h28 v0 4) = 6 then t6_other (m_g h28 v0 4) v1 h28 >>= fun ⟨r33, h32⟩ => if m_t h32 v0 = 9 then t9_stepBit v0 r33 h32 >>= fun ⟨r36, h35⟩ => t10_setEntry (m_g h21 v0 1) (m_g h21 v0 5) (m_or r29 r36) h35 >>= fun ⟨_, h37⟩ => if m_t h37 v0 = 9 then some (m_p h37 v0 5 ((m_g h37 v0 5) + 1)) >>= fun h40 => (t9_gather_c7 v0 (v1 + 1) h40) else none else none else none else none else none else none else none else none)
      else
        some (false, h13)) else none)) else none else none)) else none else none)
else
  (if 0 < (m_w (m_g h v0 5)) then
    some (true, h)
  else
    some (false, h))) else none else none)
partial_fixpoint
def t9_gather (v0 : Int) (h : m_H) : Option (Bool × m_H) :=
  (if m_t h v0 = 9 then some (m_p h v0 5 0) >>= fun h2 => (t9_gather_c7 v0 0 h2) else none)
def t9_readyAfter_c4 (v0 v1 v2 v3 : Int) (h : m_H) : Option (Int × m_H) :=
  (if m_t h v0 = 9 then (if (m_w v3) < (m_w (m_g h v0 5)) then
  (if (m_w (m_and (m_shr v1 v3) 1)) = 0 then
    (t10_entry (m_g h v0 1) v3 0 h >>= fun ⟨r5, h4⟩ => (if (m_w (m_and r5 (m_xor v1 (-1)))) = 0 then
      (some (m_or v2 (m_shl 1 v3)) >>= fun x7 => (t9_readyAfter_c4 v0 v1 x7 (v3 + 1) h4))
    else
      (t9_readyAfter_c4 v0 v1 v2 (v3 + 1) h4)))
  else
    (t9_readyAfter_c4 v0 v1 v2 (v3 + 1) h))
else
  some (v2, h)) else none)
partial_fixpoint
def t9_readyAfter (v0 v1 : Int) (h : m_H) : Option (Int × m_H) :=
  (t9_readyAfter_c4 v0 v1 0 0 h)
def t9_leftFrom (v0 v1 : Int) (h : m_H) : Option (Int × m_H) :=
  (if m_t h v0 = 9 then t10_entry (m_g h v0 3) v1 1000000 h >>= fun ⟨r3, h2⟩ => some (r3, h2) else none)
def t9_fitsRoom_c10 (v0 v1 v2 v3 v4 v5 : Int) (h : m_H) : Option (Bool × m_H) :=
  (if m_t h v0 = 9 then (if (m_w v5) < (m_w (m_g h v0 5)) then
  (t10_entry (m_g h v0 0) v5 (-1) h >>= fun ⟨r4, h3⟩ => (if (m_w (m_and (m_shr v1 v5) 1)) = 0 then
    (t9_fitsRoom_c10 v0 v1 v2 v3 v4 (v5 + 1) h3)
  else
    (if m_t h3 v0 = 9 then if m_t h3 (m_g h3 v0 4) = 6 then t6_isBench (m_g h3 v0 4) r4 h3 >>= fun ⟨r9, h8⟩ => (if r9 = true then
      (t9_fitsRoom_c10 v0 v1 (v2 + 1) v3 v4 (v5 + 1) h8)
    else
      (if m_t h8 v0 = 9 then if m_t h8 (m_g h8 v0 4) = 6 then t6_verb (m_g h8 v0 4) r4 h8 >>= fun ⟨r14, h13⟩ => (if (m_w r14) = 8 then
        (if m_t h13 v0 = 9 then if m_t h13 (m_g h13 v0 4) = 6 then t6_number (m_g h13 v0 4) r4 0 h13 >>= fun ⟨r19, h18⟩ => if m_t h18 v0 = 9 then (if (m_w r19) < (m_w (m_g h18 v0 6)) then
          (if (m_w (m_and (m_shr v4 r19) 1)) = 0 then
            (some (m_or v4 (m_shl 1 r19)) >>= fun x23 => (t9_fitsRoom_c10 v0 v1 v2 (v3 + 1) x23 (v5 + 1) h18))
          else
            some (false, h18))
        else
          some (false, h18)) else none else none else none)
      else
        (t9_fitsRoom_c10 v0 v1 v2 (v3 + 1) v4 (v5 + 1) h13)) else none else none)) else none else none)))
else
  (if 1 < (m_w v2) then
    some (false, h)
  else
    (if (m_w (m_g h v0 6)) < (m_w v3) then
      some (false, h)
    else
      some (true, h)))) else none)
partial_fixpoint
def t9_fitsRoom (v0 v1 : Int) (h : m_H) : Option (Bool × m_H) :=
  (t9_fitsRoom_c10 v0 v1 0 0 0 0 h)
def t9_weigh_x22 (cc : Int) (v0 v2 v3 v4 v5 : Int) (h : m_H) : Option (Unit × m_H) :=
  if cc = 22 then
  (if (m_w v2) < 0 then
    some ((), h)
  else
    (if m_t h v0 = 9 then t9_readyAfter v0 v2 h >>= fun ⟨r4, h3⟩ => (t9_weigh_x22 39 v0 v2 r4 1000000 r4 h3) else none))
  else if cc = 39 then
  (if 0 < (m_w v5) then
    (if m_t h v0 = 9 then t9_leftFrom v0 (m_or v2 v5) h >>= fun ⟨r4, h3⟩ => (if (m_w (r4 + 1)) < (m_w v4) then
      (if m_t h3 v0 = 9 then t9_fitsRoom v0 v5 h3 >>= fun ⟨r8, h7⟩ => (if r8 = true then
        (if m_t h7 v0 = 9 then t9_leftFrom v0 (m_or v2 v5) h7 >>= fun ⟨r12, h11⟩ => some (r12 + 1) >>= fun x13 => (t9_weigh_x22 80 v0 v2 v3 x13 v5 h11) else none)
      else
        (t9_weigh_x22 80 v0 v2 v3 v4 v5 h7)) else none)
    else
      (t9_weigh_x22 80 v0 v2 v3 v4 v5 h3)) else none)
  else
    (if m_t h v0 = 9 then t10_setEntry (m_g h v0 3) v2 v4 h >>= fun ⟨_, h15⟩ => (t9_weigh_x22 22 v0 (v2 + (-1)) 0 0 0 h15) else none))
  else if cc = 80 then
  (some (m_and (v5 - 1) v3) >>= fun x1 => (t9_weigh_x22 39 v0 v2 v3 v4 x1 h))
  else none
partial_fixpoint
def t9_weigh (v0 : Int) (h : m_H) : Option (Unit × m_H) :=
  (if m_t h v0 = 9 then some ((m_shl 1 (m_g h v0 5)) - 1) >>= fun x2 => t10_setEntry (m_g h v0 3) x2 0 h >>= fun ⟨_, h3⟩ => some (x2 - 1) >>= fun x5 => (t9_weigh_x22 22 v0 x5 0 0 0 h3) else none)
def t9_leastTurns (v0 v1 v2 : Int) (h : m_H) : Option (Int × m_H) :=
  (if m_t h v0 = 9 then some (m_p h v0 4 v1) >>= fun h2 => if m_t h2 v0 = 9 then some (m_p h2 v0 6 v2) >>= fun h4 => if m_t h4 v0 = 9 then t9_gather v0 h4 >>= fun ⟨r7, h6⟩ => (if r7 = true then
  (if m_t h6 v0 = 9 then t9_weigh v0 h6 >>= fun ⟨_, h10⟩ => if m_t h10 v0 = 9 then t9_leftFrom v0 0 h10 >>= fun ⟨r14, h13⟩ => (if (m_w r14) < 1000000 then
    (if m_t h13 v0 = 9 then t9_leftFrom v0 0 h13 >>= fun ⟨r18, h17⟩ => some (r18, h17) else none)
  else
    some ((-1), h13)) else none else none)
else
  some ((-1), h6)) else none else none else none)
def t9_firstHeap_c8 (v0 v1 v2 v3 : Int) (h : m_H) : Option (Int × m_H) :=
  (if (m_w v2) < (m_w v3) then
  some (0, h)
else
  (if (m_w (m_and v3 (m_xor v2 (-1)))) = 0 then
    (if m_t h v0 = 9 then t9_leftFrom v0 (m_or v1 v3) h >>= fun ⟨r5, h4⟩ => if m_t h4 v0 = 9 then t9_leftFrom v0 v1 h4 >>= fun ⟨r8, h7⟩ => (if (m_w (r5 + 1)) = (m_w r8) then
      (if m_t h7 v0 = 9 then t9_fitsRoom v0 v3 h7 >>= fun ⟨r12, h11⟩ => (if r12 = true then
        some (v3, h11)
      else
        (t9_firstHeap_c8 v0 v1 v2 (v3 + 1) h11)) else none)
    else
      (t9_firstHeap_c8 v0 v1 v2 (v3 + 1) h7)) else none else none)
  else
    (t9_firstHeap_c8 v0 v1 v2 (v3 + 1) h)))
partial_fixpoint
def t9_firstHeap (v0 v1 : Int) (h : m_H) : Option (Int × m_H) :=
  (if m_t h v0 = 9 then t9_readyAfter v0 v1 h >>= fun ⟨r3, h2⟩ => (t9_firstHeap_c8 v0 v1 r3 1 h2) else none)
def t9_plannedTurn_c55 (v0 v4 v5 v6 v7 : Int) (h : m_H) : Option (Int × m_H) :=
  (if (m_w v4) < (m_w v7) then
  some ((-1), h)
else
  (if m_t h v0 = 9 then t9_firstHeap v0 v6 h >>= fun ⟨r4, h3⟩ => (if (m_w (m_and (m_shr r4 v5) 1)) = 0 then
    (some (m_or v6 r4) >>= fun x6 => (t9_plannedTurn_c55 v0 v4 v5 x6 (v7 + 1) h3))
  else
    some (v7, h3)) else none))
partial_fixpoint
def t9_plannedTurn_c33 (v0 v4 s0 : Int) (h : m_H) : Option (Int × m_H) :=
  (if (m_w v4) = (-1) then
  some ((-1), h)
else
  (if (m_w s0) = (-1) then
    some ((-1), h)
  else
    (t9_plannedTurn_c55 v0 v4 s0 0 1 h)))
def t9_plannedTurn_c32 (v0 v4 : Int) (h : m_H) : Option (Int × m_H) :=
  (t9_plannedTurn_c33 v0 v4 (-1) h)
def t9_plannedTurn (v0 v1 v2 v3 : Int) (h : m_H) : Option (Int × m_H) :=
  (if m_t h v0 = 9 then t9_leastTurns v0 v1 v2 h >>= fun ⟨r3, h2⟩ => (if (m_w v3) < 0 then
  (t9_plannedTurn_c32 v0 r3 h2)
else
  (if m_t h2 v1 = 6 then (if (m_w v3) < (m_w (m_g h2 v1 1)) then
    (if m_t h2 v0 = 9 then t10_entry (m_g h2 v0 2) v3 (-1) h2 >>= fun ⟨r9, h8⟩ => (t9_plannedTurn_c33 v0 r3 r9 h8) else none)
  else
    (t9_plannedTurn_c32 v0 r3 h2)) else none)) else none)
def t10_init (v0 : Int) (h : m_H) : Option (Unit × m_H) :=
  (if 0 ≤ m_t h v0 then some (m_a h 7 12) >>= fun h2 => if 0 ≤ m_t h2 (m_n h) then t7_init (m_n h) h2 >>= fun ⟨_, h4⟩ => if m_t h4 v0 = 10 then some (m_p h4 v0 0 (m_n h)) >>= fun h7 => some (m_a h7 5 2) >>= fun h8 => if 0 ≤ m_t h8 (m_n h7) then t5_init (m_n h7) h8 >>= fun ⟨_, h10⟩ => if m_t h10 v0 = 10 then some (m_p h10 v0 1 (m_n h7)) >>= fun h13 => some (m_a h13 4 11) >>= fun h14 => if 0 ≤ m_t h14 (m_n h13) then t4_init (m_n h13) h14 >>= fun ⟨_, h16⟩ => if m_t h16 v0 = 10 then some (m_p h16 v0 2 (m_n h13)) >>= fun h19 => some (m_a h19 26 8) >>= fun h20 => if m_t h20 v0 = 10 then some (m_p h20 v0 3 (m_n h19)) >>= fun h22 => some (m_a h22 3 5) >>= fun h23 => if m_t h23 v0 = 10 then if 0 ≤ m_t h23 (m_n h22) then t3_init (m_n h22) (m_g h23 v0 0) h23 >>= fun ⟨_, h26⟩ => if m_t h26 v0 = 10 then some (m_p h26 v0 5 (m_n h22)) >>= fun h29 => some (m_a h29 2 8) >>= fun h30 => if m_t h30 v0 = 10 then if 0 ≤ m_t h30 (m_n h29) then t2_init (m_n h29) (m_g h30 v0 0) h30 >>= fun ⟨_, h33⟩ => if m_t h33 v0 = 10 then some (m_p h33 v0 6 (m_n h29)) >>= fun h36 => some (m_a h36 9 7) >>= fun h37 => if 0 ≤ m_t h37 (m_n h36) then t9_init (m_n h36) h37 >>= fun ⟨_, h39⟩ => if m_t h39 v0 = 10 then some (m_p h39 v0 7 (m_n h36)) >>= fun h42 => some (m_a h42 5 2) >>= fun h43 => if 0 ≤ m_t h43 (m_n h42) then t5_init (m_n h42) h43 >>= fun ⟨_, h45⟩ => if m_t h45 v0 = 10 then some (m_p h45 v0 8 (m_n h42)) >>= fun h48 => some (m_a h48 1 13) >>= fun h49 => if m_t h49 v0 = 10 then if 0 ≤ m_t h49 (m_n h48) then t1_init (m_n h48) (m_g h49 v0 0) (m_g h49 v0 8) h49 >>= fun ⟨_, h52⟩ => if m_t h52 v0 = 10 then some (m_p h52 v0 9 (m_n h48)) >>= fun h55 => some ((), h55) else none else none else none else none else none else none else none else none else none else none else none else none else none else none else none else none else none else none else none else none else none)
def t10_feedPair (v0 v1 : Int) (h : m_H) : Option (Unit × m_H) :=
  (if m_t h v0 = 10 then if m_t h (m_g h v0 1) = 5 then t5_add (m_g h v0 1) (m_shr v1 16) h >>= fun ⟨_, h3⟩ => if m_t h3 v0 = 10 then if m_t h3 (m_g h3 v0 1) = 5 then t5_add (m_g h3 v0 1) (m_i2s v1) h3 >>= fun ⟨_, h7⟩ => some ((), h7) else none else none else none else none)
def t10_hand (v0 v1 v2 v3 v4 v5 : Int) (h : m_H) : Option (Int × m_H) :=
  (if m_t h v0 = 10 then if m_t h (m_g h v0 1) = 5 then t5_size (m_g h v0 1) h >>= fun ⟨r4, h3⟩ => (if 300 < (m_w (r4 + 10)) then
  some ((-1), h3)
else
  (if m_t h3 v0 = 10 then t10_feedPair v0 v1 h3 >>= fun ⟨_, h7⟩ => if m_t h7 v0 = 10 then t10_feedPair v0 v2 h7 >>= fun ⟨_, h10⟩ => if m_t h10 v0 = 10 then t10_feedPair v0 v3 h10 >>= fun ⟨_, h13⟩ => if m_t h13 v0 = 10 then t10_feedPair v0 v4 h13 >>= fun ⟨_, h16⟩ => if m_t h16 v0 = 10 then t10_feedPair v0 v5 h16 >>= fun ⟨_, h19⟩ => if m_t h19 v0 = 10 then if m_t h19 (m_g h19 v0 1) = 5 then t5_size (m_g h19 v0 1) h19 >>= fun ⟨r24, h23⟩ => some (r24, h23) else none else none else none else none else none else none else none)) else none else none)
def t10_emptied (v0 : Int) (h : m_H) : Option (Int × m_H) :=
  (if m_t h v0 = 5 then t5_size v0 h >>= fun ⟨r3, h2⟩ => if m_t h2 v0 = 5 then t5_resize v0 0 h2 >>= fun ⟨_, h5⟩ => some (r3, h5) else none else none)
def t10_drop (v0 : Int) (h : m_H) : Option (Int × m_H) :=
  (if m_t h v0 = 10 then t10_emptied (m_g h v0 1) h >>= fun ⟨r3, h2⟩ => some (r3, h2) else none)
def t10_strip (v0 v1 : Int) (h : m_H) : Option (Int × m_H) :=
  (if (m_w v1) < 1 then
  some ((-1), h)
else
  (if m_t h v0 = 10 then if m_t h (m_g h v0 1) = 5 then t5_size (m_g h v0 1) h >>= fun ⟨r5, h4⟩ => (if (m_w r5) < (m_w v1) then
    some ((-1), h4)
  else
    (if m_t h4 v0 = 10 then if m_t h4 (m_g h4 v0 0) = 7 then t7_hasRoom (m_g h4 v0 0) 1 v1 h4 >>= fun ⟨r10, h9⟩ => (if r10 = true then
      (if m_t h9 v0 = 10 then if m_t h9 (m_g h9 v0 0) = 7 then t7_layStrip (m_g h9 v0 0) (m_g h9 v0 1) v1 h9 >>= fun ⟨r15, h14⟩ => if m_t h14 v0 = 10 then if m_t h14 (m_g h14 v0 1) = 5 then t5_dropFirst (m_g h14 v0 1) v1 h14 >>= fun ⟨_, h18⟩ => some (r15, h18) else none else none else none else none)
    else
      some ((-1), h9)) else none else none)) else none else none))
def t10_sliver (v0 v1 : Int) (h : m_H) : Option (Bool × m_H) :=
  (if (m_w v1) < 0 then
  some (false, h)
else
  (if 9 < (m_w v1) then
    some (false, h)
  else
    (if m_t h v0 = 10 then if m_t h (m_g h v0 0) = 7 then some (m_p h (m_g h v0 0) 4 v1) >>= fun h5 => some (true, h5) else none else none)))
def t10_cut (v0 v1 v2 : Int) (h : m_H) : Option (Int × m_H) :=
  (if m_t h v0 = 10 then if m_t h (m_g h v0 0) = 7 then t7_cutAt (m_g h v0 0) v1 v2 h >>= fun ⟨r4, h3⟩ => some (r4, h3) else none else none)
def t10_turn (v0 v1 : Int) (h : m_H) : Option (Int × m_H) :=
  (if m_t h v0 = 10 then if m_t h (m_g h v0 0) = 7 then t7_turnedOf (m_g h v0 0) v1 h >>= fun ⟨r4, h3⟩ => some (r4, h3) else none else none)
def t10_loop (v0 v1 : Int) (h : m_H) : Option (Int × m_H) :=
  (if m_t h v0 = 10 then if m_t h (m_g h v0 0) = 7 then t7_loopOf (m_g h v0 0) v1 h >>= fun ⟨r4, h3⟩ => some (r4, h3) else none else none)
def t10_seam (v0 v1 : Int) (h : m_H) : Option (Int × m_H) :=
  (if m_t h v0 = 10 then if m_t h (m_g h v0 0) = 7 then t7_known (m_g h v0 0) v1 h >>= fun ⟨r4, h3⟩ => (if r4 = 0 then
  some ((-1), h3)
else
  (if m_t h3 r4 = 8 then (if (m_w (m_g h3 r4 1)) = 3 then
    (if m_t h3 (m_g h3 r4 3) = 5 then t5_get (m_g h3 r4 3) 0 h3 >>= fun ⟨r10, h9⟩ => if m_t h9 r4 = 8 then if m_t h9 (m_g h9 r4 3) = 5 then t5_size (m_g h9 r4 3) h9 >>= fun ⟨r14, h13⟩ => if m_t h13 (m_g h9 r4 3) = 5 then t5_get (m_g h9 r4 3) (r14 - 1) h13 >>= fun ⟨r17, h16⟩ => some ((m_abs (r10 - r17)), h16) else none else none else none else none)
  else
    some ((-1), h3)) else none)) else none else none)
def t10_splice (v0 v1 v2 v3 : Int) (h : m_H) : Option (Int × m_H) :=
  (if m_t h v0 = 10 then if m_t h (m_g h v0 0) = 7 then t7_joinedOf (m_g h v0 0) v1 v2 v3 h >>= fun ⟨r4, h3⟩ => some (r4, h3) else none else none)
def t10_machine (v0 v1 v2 v3 : Int) (h : m_H) : Option (Int × m_H) :=
  (if m_t h v0 = 10 then if m_t h (m_g h v0 0) = 7 then t7_addMachine (m_g h v0 0) v1 v2 v3 h >>= fun ⟨r4, h3⟩ => some (r4, h3) else none else none)
def t10_copy (v0 v1 v2 : Int) (h : m_H) : Option (Int × m_H) :=
  (if m_t h v0 = 10 then if m_t h (m_g h v0 0) = 7 then t7_copiedOf (m_g h v0 0) v1 v2 h >>= fun ⟨r4, h3⟩ => some (r4, h3) else none else none)
def t10_speed (v0 v1 v2 v3 v4 : Int) (h : m_H) : Option (Int × m_H) :=
  (if m_t h v0 = 10 then if m_t h (m_g h v0 0) = 7 then t7_speededOf (m_g h v0 0) v1 v2 v3 v4 h >>= fun ⟨r4, h3⟩ => some (r4, h3) else none else none)
def t10_lose (v0 v1 : Int) (h : m_H) : Option (Bool × m_H) :=
  (if m_t h v0 = 10 then if m_t h (m_g h v0 0) = 7 then t7_there (m_g h v0 0) v1 h >>= fun ⟨r4, h3⟩ => (if r4 = 0 then
  some (false, h3)
else
  (if m_t h3 v0 = 10 then if m_t h3 (m_g h3 v0 0) = 7 then t7_takeAway (m_g h3 v0 0) r4 2 h3 >>= fun ⟨_, h8⟩ => some (true, h8) else none else none)) else none else none)
def t10_hang (v0 v1 v2 : Int) (h : m_H) : Option (Bool × m_H) :=
  (if m_t h v0 = 10 then if m_t h (m_g h v0 0) = 7 then t7_there (m_g h v0 0) v1 h >>= fun ⟨r4, h3⟩ => (if r4 = 0 then
  some (false, h3)
else
  (if (m_w v2) < (-1) then
    some (false, h3)
  else
    (if 29 < (m_w v2) then
      some (false, h3)
    else
      (if m_t h3 v0 = 10 then if m_t h3 (m_g h3 v0 0) = 7 then t7_hangingOn (m_g h3 v0 0) v2 h3 >>= fun ⟨r11, h10⟩ => (if (m_w r11) = (-1) then
        (if m_t h10 r4 = 8 then some (m_p h10 r4 8 v2) >>= fun h14 => some (true, h14) else none)
      else
        (if (m_w r11) = (m_w v1) then
          (if m_t h10 r4 = 8 then some (m_p h10 r4 8 v2) >>= fun h17 => some (true, h17) else none)
        else
          some (false, h10))) else none else none)))) else none else none)
def t10_nail (v0 v1 : Int) (h : m_H) : Option (Int × m_H) :=
  (if m_t h v0 = 10 then if m_t h (m_g h v0 0) = 7 then t7_hangingOn (m_g h v0 0) v1 h >>= fun ⟨r4, h3⟩ => some (r4, h3) else none else none)
def t10_read (v0 v1 v2 : Int) (h : m_H) : Option (Bool × m_H) :=
  (if m_t h v0 = 10 then if m_t h (m_g h v0 0) = 7 then t7_readMark (m_g h v0 0) v1 v2 h >>= fun ⟨r4, h3⟩ => some (r4, h3) else none else none)
def t10_marked (v0 v1 v2 : Int) (h : m_H) : Option (Int × m_H) :=
  (if (m_w v2) < 0 then
  some ((-1), h)
else
  (if 400 < (m_w v2) then
    some ((-1), h)
  else
    (if m_t h v0 = 10 then if m_t h (m_g h v0 0) = 7 then t7_markOf (m_g h v0 0) v1 v2 h >>= fun ⟨r6, h5⟩ => some (r6, h5) else none else none)))
def t10_go (v0 v1 : Int) (h : m_H) : Option (Int × m_H) :=
  (if (m_w v1) < 0 then
  some ((-1), h)
else
  (if 100 < (m_w v1) then
    some ((-1), h)
  else
    (if m_t h v0 = 10 then if m_t h (m_g h v0 0) = 7 then some (m_p h (m_g h v0 0) 3 (m_min 400 ((m_g h (m_g h v0 0) 3) + v1))) >>= fun h5 => if m_t h5 v0 = 10 then if m_t h5 (m_g h5 v0 0) = 7 then some ((m_g h5 (m_g h5 v0 0) 3), h5) else none else none else none else none)))
def t10_sampleOf (v0 v1 : Int) (h : m_H) : Option (Int × m_H) :=
  (if (m_w v1) < 0 then
  some ((-2147483648), h)
else
  (if m_t h v0 = 5 then t5_size v0 h >>= fun ⟨r4, h3⟩ => (if (m_w v1) < (m_w r4) then
    (if m_t h3 v0 = 5 then t5_get v0 v1 h3 >>= fun ⟨r8, h7⟩ => some (r8, h7) else none)
  else
    some ((-2147483648), h3)) else none))
def t10_sample (v0 v1 v2 : Int) (h : m_H) : Option (Int × m_H) :=
  (if m_t h v0 = 10 then if m_t h (m_g h v0 0) = 7 then t7_known (m_g h v0 0) v1 h >>= fun ⟨r4, h3⟩ => (if r4 = 0 then
  some ((-2147483648), h3)
else
  (if m_t h3 r4 = 8 then t10_sampleOf (m_g h3 r4 3) v2 h3 >>= fun ⟨r8, h7⟩ => some (r8, h7) else none)) else none else none)
def t10_told (v0 v1 v2 : Int) (h : m_H) : Option (Int × m_H) :=
  (if m_t h v0 = 10 then if m_t h (m_g h v0 0) = 7 then t7_known (m_g h v0 0) v1 h >>= fun ⟨r4, h3⟩ => (if r4 = 0 then
  some ((-1), h3)
else
  (if m_t h3 r4 = 8 then t8_fact r4 v2 h3 >>= fun ⟨r8, h7⟩ => some (r8, h7) else none)) else none else none)
def t10_feed (v0 v1 v2 v3 v4 v5 : Int) (h : m_H) : Option (Int × m_H) :=
  (if m_t h v0 = 10 then if m_t h (m_g h v0 2) = 4 then (if 1200 < (m_w ((m_g h (m_g h v0 2) 1) + 20)) then
  some ((-1), h)
else
  (t4_addFour (m_g h v0 2) v1 h >>= fun ⟨_, h4⟩ => if m_t h4 v0 = 10 then if m_t h4 (m_g h4 v0 2) = 4 then t4_addFour (m_g h4 v0 2) v2 h4 >>= fun ⟨_, h8⟩ => if m_t h8 v0 = 10 then if m_t h8 (m_g h8 v0 2) = 4 then t4_addFour (m_g h8 v0 2) v3 h8 >>= fun ⟨_, h12⟩ => if m_t h12 v0 = 10 then if m_t h12 (m_g h12 v0 2) = 4 then t4_addFour (m_g h12 v0 2) v4 h12 >>= fun ⟨_, h16⟩ => if m_t h16 v0 = 10 then if m_t h16 (m_g h16 v0 2) = 4 then t4_addFour (m_g h16 v0 2) v5 h16 >>= fun ⟨_, h20⟩ => if m_t h20 v0 = 10 then if m_t h20 (m_g h20 v0 2) = 4 then some ((m_g h20 (m_g h20 v0 2) 1), h20) else none else none else none else none else none else none else none else none else none else none)) else none else none)
def t10_end (v0 v1 : Int) (h : m_H) : Option (Bool × m_H) :=
  (if (m_w v1) < 0 then
  some (false, h)
else
  (if m_t h v0 = 10 then if m_t h (m_g h v0 2) = 4 then (if (m_w (m_g h (m_g h v0 2) 1)) < (m_w v1) then
    some (false, h)
  else
    (some (m_p h (m_g h v0 2) 1 v1) >>= fun h5 => some (true, h5))) else none else none))
def t10_fault (v0 : Int) (h : m_H) : Option (Int × m_H) :=
  (if m_t h v0 = 10 then if m_t h (m_g h v0 2) = 4 then t4_firstFault (m_g h v0 2) h >>= fun ⟨r4, h3⟩ => some (r4, h3) else none else none)
def t10_score (v0 : Int) (h : m_H) : Option (Int × m_H) :=
  (if m_t h v0 = 10 then if 20 ≤ m_t h (m_g h v0 3) then (if (m_w (m_g h v0 4)) < (m_w (m_l h (m_g h v0 3))) then
  (if m_t h (m_g h v0 2) = 4 then t4_firstFault (m_g h v0 2) h >>= fun ⟨r6, h5⟩ => (if (m_w r6) = (-1) then
    (if m_t h5 v0 = 10 then if m_t h5 (m_g h5 v0 2) = 4 then t4_written (m_g h5 v0 2) h5 >>= fun ⟨r11, h10⟩ => if (m_t h10 (m_g h5 v0 3) = 26 ∧ 0 ≤ (m_w (m_g h5 v0 4)) ∧ (m_w (m_g h5 v0 4)) < m_l h10 (m_g h5 v0 3)) ∧ m_t h10 r11 = 6 then some (m_p h10 (m_g h5 v0 3) (m_w (m_g h5 v0 4)) r11) >>= fun h13 => if m_t h13 v0 = 10 then if m_t h13 (m_g h13 v0 2) = 4 then some (m_p h13 (m_g h13 v0 2) 1 0) >>= fun h16 => if m_t h16 v0 = 10 then some (m_p h16 v0 4 ((m_g h16 v0 4) + 1)) >>= fun h18 => if m_t h18 v0 = 10 then some (((m_g h18 v0 4) - 1), h18) else none else none else none else none else none else none else none)
  else
    some ((-1), h5)) else none)
else
  some ((-1), h)) else none else none)
def t10_scoreOf (v0 v1 : Int) (h : m_H) : Option (Int × m_H) :=
  (if (m_w v1) < 0 then
  some (0, h)
else
  (if m_t h v0 = 10 then (if (m_w v1) < (m_w (m_g h v0 4)) then
    (if 20 ≤ m_t h (m_g h v0 3) then (if (m_w v1) < (m_w (m_l h (m_g h v0 3))) then
      (if m_t h (m_g h v0 3) = 26 ∧ 0 ≤ (m_w v1) ∧ (m_w v1) < m_l h (m_g h v0 3) then some ((m_g h (m_g h v0 3) (m_w v1)), h) else none)
    else
      some (0, h)) else none)
  else
    some (0, h)) else none))
def t10_isPast (v0 v1 : Int) (h : m_H) : Option (Bool × m_H) :=
  (if (m_w v1) < 0 then
  some (false, h)
else
  (if m_t h v0 = 10 then if m_t h (m_g h v0 0) = 7 then (if (m_w (m_g h (m_g h v0 0) 3)) < (m_w v1) then
    some (false, h)
  else
    some (true, h)) else none else none))
def t10_make (v0 v1 v2 : Int) (h : m_H) : Option (Int × m_H) :=
  (if m_t h v0 = 10 then t10_scoreOf v0 v1 h >>= fun ⟨r3, h2⟩ => (if r3 = 0 then
  some ((-1), h2)
else
  (if m_t h2 v0 = 10 then t10_isPast v0 v2 h2 >>= fun ⟨r7, h6⟩ => (if r7 = true then
    (if m_t h6 v0 = 10 then if m_t h6 (m_g h6 v0 5) = 3 then t3_firstFailing (m_g h6 v0 5) r3 v2 h6 >>= fun ⟨r12, h11⟩ => (if (m_w r12) = (-1) then
      (if m_t h11 v0 = 10 then if m_t h11 (m_g h11 v0 5) = 3 then t3_noteLeads (m_g h11 v0 5) r3 h11 >>= fun ⟨_, h16⟩ => if m_t h16 v0 = 10 then if m_t h16 (m_g h16 v0 6) = 2 then t2_layAll (m_g h16 v0 6) r3 v1 (m_g h16 v0 5) h16 >>= fun ⟨_, h20⟩ => if m_t h20 v0 = 10 then if m_t h20 (m_g h20 v0 6) = 2 then if m_t h20 (m_g h20 (m_g h20 v0 6) 1) = 5 then t5_size (m_g h20 (m_g h20 v0 6) 1) h20 >>= fun ⟨r26, h25⟩ => some (r26, h25) else none else none else none else none else none else none else none)
    else
      some ((-1), h11)) else none else none)
  else
    some ((-1), h6)) else none)) else none)
def t10_fails (v0 v1 v2 : Int) (h : m_H) : Option (Int × m_H) :=
  (if m_t h v0 = 10 then t10_scoreOf v0 v1 h >>= fun ⟨r3, h2⟩ => (if r3 = 0 then
  some ((-1), h2)
else
  (if m_t h2 v0 = 10 then t10_isPast v0 v2 h2 >>= fun ⟨r7, h6⟩ => (if r7 = true then
    (if m_t h6 v0 = 10 then if m_t h6 (m_g h6 v0 5) = 3 then t3_firstFailing (m_g h6 v0 5) r3 v2 h6 >>= fun ⟨r12, h11⟩ => some (r12, h11) else none else none)
  else
    some ((-1), h6)) else none)) else none)
def t10_out (v0 v1 : Int) (h : m_H) : Option (Int × m_H) :=
  (if m_t h v0 = 10 then if m_t h (m_g h v0 6) = 2 then t10_sampleOf (m_g h (m_g h v0 6) 1) v1 h >>= fun ⟨r4, h3⟩ => some (r4, h3) else none else none)
def t10_why (v0 v1 v2 : Int) (h : m_H) : Option (Int × m_H) :=
  (if m_t h v0 = 10 then if m_t h (m_g h v0 6) = 2 then t2_reason (m_g h v0 6) v1 v2 h >>= fun ⟨r4, h3⟩ => some (r4, h3) else none else none)
def t10_lead (v0 v1 v2 v3 : Int) (h : m_H) : Option (Int × m_H) :=
  (if m_t h v0 = 10 then if m_t h (m_g h v0 6) = 2 then t2_leadTo (m_g h v0 6) v1 v2 v3 h >>= fun ⟨r4, h3⟩ => some (r4, h3) else none else none)
def t10_quarrel (v0 v1 : Int) (h : m_H) : Option (Int × m_H) :=
  (if m_t h v0 = 10 then if m_t h (m_g h v0 6) = 2 then t2_quarrelAt (m_g h v0 6) v1 h >>= fun ⟨r4, h3⟩ => some (r4, h3) else none else none)
def t10_open_c43 (v0 v2 s0 : Int) (h : m_H) : Option (Int × m_H) :=
  (if (m_w s0) = 0 then
  (if m_t h v0 = 10 then if m_t h (m_g h v0 5) = 3 then t3_leadsOtherwise (m_g h v0 5) v2 h >>= fun ⟨r5, h4⟩ => (if r5 = true then
    some (1, h4)
  else
    some (0, h4)) else none else none)
else
  some (1, h))
def t10_open (v0 v1 : Int) (h : m_H) : Option (Int × m_H) :=
  (if m_t h v0 = 10 then t10_scoreOf v0 v1 h >>= fun ⟨r3, h2⟩ => (if r3 = 0 then
  some ((-1), h2)
else
  (if m_t h2 r3 = 6 then (if (m_w (m_g h2 r3 2)) = 0 then
    some ((-1), h2)
  else
    (if m_t h2 v0 = 10 then if m_t h2 (m_g h2 v0 0) = 7 then if m_t h2 (m_g h2 v0 5) = 3 then t3_firstFailing (m_g h2 v0 5) r3 (m_g h2 (m_g h2 v0 0) 3) h2 >>= fun ⟨r11, h10⟩ => (if (m_w r11) = (-1) then
      (t10_open_c43 v0 r3 0 h10)
    else
      (t10_open_c43 v0 r3 1 h10)) else none else none else none)) else none)) else none)
def t10_turns (v0 v1 : Int) (h : m_H) : Option (Int × m_H) :=
  (if m_t h v0 = 10 then t10_scoreOf v0 v1 h >>= fun ⟨r3, h2⟩ => (if r3 = 0 then
  some ((-1), h2)
else
  (if m_t h2 v0 = 10 then if m_t h2 (m_g h2 v0 0) = 7 then if m_t h2 (m_g h2 v0 7) = 9 then t9_leastTurns (m_g h2 v0 7) r3 (m_g h2 (m_g h2 v0 0) 6) h2 >>= fun ⟨r9, h8⟩ => some (r9, h8) else none else none else none)) else none)
def t10_turnOf (v0 v1 v2 : Int) (h : m_H) : Option (Int × m_H) :=
  (if m_t h v0 = 10 then t10_scoreOf v0 v1 h >>= fun ⟨r3, h2⟩ => (if r3 = 0 then
  some ((-1), h2)
else
  (if m_t h2 v0 = 10 then if m_t h2 (m_g h2 v0 0) = 7 then if m_t h2 (m_g h2 v0 7) = 9 then t9_plannedTurn (m_g h2 v0 7) r3 (m_g h2 (m_g h2 v0 0) 6) v2 h2 >>= fun ⟨r9, h8⟩ => some (r9, h8) else none else none else none)) else none)
def t10_deep (v0 v1 : Int) (h : m_H) : Option (Int × m_H) :=
  (if m_t h v0 = 10 then t10_scoreOf v0 v1 h >>= fun ⟨r3, h2⟩ => (if r3 = 0 then
  some ((-1), h2)
else
  (if m_t h2 v0 = 10 then if m_t h2 (m_g h2 v0 5) = 3 then t3_depth (m_g h2 v0 5) r3 h2 >>= fun ⟨r8, h7⟩ => some (r8, h7) else none else none)) else none)
def t10_tape_c35 (v0 v1 v2 : Int) (h : m_H) : Option (Int × m_H) :=
  (if (m_w v2) < (m_w v1) then
  (if m_t h v0 = 10 then if m_t h (m_g h v0 1) = 5 then t5_get (m_g h v0 1) v2 h >>= fun ⟨r5, h4⟩ => if m_t h4 (m_g h v0 8) = 5 then t5_add (m_g h v0 8) r5 h4 >>= fun ⟨_, h7⟩ => (t10_tape_c35 v0 v1 (v2 + 1) h7) else none else none else none)
else
  (if m_t h v0 = 10 then if m_t h (m_g h v0 1) = 5 then t5_dropFirst (m_g h v0 1) v1 h >>= fun ⟨_, h11⟩ => if m_t h11 v0 = 10 then if m_t h11 (m_g h11 v0 9) = 1 then t1_forget (m_g h11 v0 9) h11 >>= fun ⟨_, h15⟩ => if m_t h15 v0 = 10 then if m_t h15 (m_g h15 v0 8) = 5 then t5_size (m_g h15 v0 8) h15 >>= fun ⟨r20, h19⟩ => some (r20, h19) else none else none else none else none else none else none))
partial_fixpoint
def t10_tape (v0 v1 : Int) (h : m_H) : Option (Int × m_H) :=
  (if (m_w v1) < 1 then
  some ((-1), h)
else
  (if m_t h v0 = 10 then if m_t h (m_g h v0 1) = 5 then t5_size (m_g h v0 1) h >>= fun ⟨r5, h4⟩ => (if (m_w r5) < (m_w v1) then
    some ((-1), h4)
  else
    (if m_t h4 v0 = 10 then if m_t h4 (m_g h4 v0 8) = 5 then t5_size (m_g h4 v0 8) h4 >>= fun ⟨r10, h9⟩ => (if 1000 < (m_w (r10 + v1)) then
      some ((-1), h9)
    else
      (t10_tape_c35 v0 v1 0 h9)) else none else none)) else none else none))
def t10_wipe (v0 : Int) (h : m_H) : Option (Int × m_H) :=
  (if m_t h v0 = 10 then if m_t h (m_g h v0 9) = 1 then t1_forget (m_g h v0 9) h >>= fun ⟨_, h3⟩ => if m_t h3 v0 = 10 then t10_emptied (m_g h3 v0 8) h3 >>= fun ⟨r7, h6⟩ => some (r7, h6) else none else none else none)
def t10_near (v0 v1 v2 v3 v4 : Int) (h : m_H) : Option (Int × m_H) :=
  (if m_t h v0 = 10 then if m_t h (m_g h v0 9) = 1 then t1_search (m_g h v0 9) v1 v2 v3 h >>= fun ⟨r4, h3⟩ => (if r4 = true then
  (if m_t h3 v0 = 10 then if m_t h3 (m_g h3 v0 9) = 1 then t1_best (m_g h3 v0 9) v4 h3 >>= fun ⟨r9, h8⟩ => some (r9, h8) else none else none)
else
  some ((-1), h3)) else none else none)
def t10_rivals (v0 v1 v2 v3 : Int) (h : m_H) : Option (Int × m_H) :=
  (if m_t h v0 = 10 then if m_t h (m_g h v0 9) = 1 then t1_search (m_g h v0 9) v1 v2 v3 h >>= fun ⟨r4, h3⟩ => (if r4 = true then
  (if m_t h3 v0 = 10 then if m_t h3 (m_g h3 v0 9) = 1 then some (((m_g h3 (m_g h3 v0 9) 7) - 1), h3) else none else none)
else
  some ((-1), h3)) else none else none)
def t10_remade (v0 v1 v2 : Int) (h : m_H) : Option (Int × m_H) :=
  (if m_t h v0 = 10 then if m_t h (m_g h v0 9) = 1 then t1_coveredBy (m_g h v0 9) v1 v2 h >>= fun ⟨r4, h3⟩ => (if r4 = true then
  (if m_t h3 v0 = 10 then if m_t h3 (m_g h3 v0 9) = 1 then t1_stretches (m_g h3 v0 9) h3 >>= fun ⟨r9, h8⟩ => some (r9, h8) else none else none)
else
  some ((-1), h3)) else none else none)
def t10_stretch (v0 v1 v2 v3 : Int) (h : m_H) : Option (Int × m_H) :=
  (if m_t h v0 = 10 then if m_t h (m_g h v0 9) = 1 then t1_coveredBy (m_g h v0 9) v1 v2 h >>= fun ⟨r4, h3⟩ => (if r4 = true then
  (if m_t h3 v0 = 10 then if m_t h3 (m_g h3 v0 9) = 1 then t1_stretchBegin (m_g h3 v0 9) v1 v3 h3 >>= fun ⟨r9, h8⟩ => some (r9, h8) else none else none)
else
  some ((-1), h3)) else none else none)
def t10_unfound (v0 v1 v2 : Int) (h : m_H) : Option (Int × m_H) :=
  (if m_t h v0 = 10 then if m_t h (m_g h v0 9) = 1 then t1_firstUnfound (m_g h v0 9) v1 v2 h >>= fun ⟨r4, h3⟩ => some (r4, h3) else none else none)
def t10_count (v0 v1 : Int) (h : m_H) : Option (Int × m_H) :=
  (if (m_w v1) = 0 then
  (if m_t h v0 = 10 then if m_t h (m_g h v0 0) = 7 then some ((m_g h (m_g h v0 0) 3), h) else none else none)
else (if (m_w v1) = 1 then
  (if m_t h v0 = 10 then if m_t h (m_g h v0 0) = 7 then some ((m_g h (m_g h v0 0) 1), h) else none else none)
else (if (m_w v1) = 2 then
  (if m_t h v0 = 10 then if m_t h (m_g h v0 0) = 7 then t7_countThere (m_g h v0 0) h >>= fun ⟨r11, h10⟩ => some (r11, h10) else none else none)
else (if (m_w v1) = 3 then
  (if m_t h v0 = 10 then if m_t h (m_g h v0 0) = 7 then some ((m_g h (m_g h v0 0) 2), h) else none else none)
else (if (m_w v1) = 4 then
  (if m_t h v0 = 10 then if m_t h (m_g h v0 1) = 5 then t5_size (m_g h v0 1) h >>= fun ⟨r19, h18⟩ => some (r19, h18) else none else none)
else (if (m_w v1) = 5 then
  (if m_t h v0 = 10 then if m_t h (m_g h v0 0) = 7 then some ((m_g h (m_g h v0 0) 6), h) else none else none)
else (if (m_w v1) = 6 then
  (if m_t h v0 = 10 then some ((m_g h v0 4), h) else none)
else (if (m_w v1) = 7 then
  (if m_t h v0 = 10 then if m_t h (m_g h v0 2) = 4 then some ((m_g h (m_g h v0 2) 1), h) else none else none)
else (if (m_w v1) = 8 then
  (if m_t h v0 = 10 then if m_t h (m_g h v0 8) = 5 then t5_size (m_g h v0 8) h >>= fun ⟨r32, h31⟩ => some (r32, h31) else none else none)
else (if (m_w v1) = 9 then
  (if m_t h v0 = 10 then if m_t h (m_g h v0 6) = 2 then some ((m_g h (m_g h v0 6) 3), h) else none else none)
else (if (m_w v1) = 10 then
  (if m_t h v0 = 10 then if m_t h (m_g h v0 6) = 2 then (if (m_w (m_g h (m_g h v0 6) 3)) = (-1) then
    some ((-1), h)
  else
    (if m_t h (m_g h (m_g h v0 6) 1) = 5 then t5_size (m_g h (m_g h v0 6) 1) h >>= fun ⟨r42, h41⟩ => some (r42, h41) else none)) else none else none)
else (if (m_w v1) < 20 then
  some ((-1), h)
else
  (if m_t h v0 = 10 then t10_scoreOf v0 (v1 - 20) h >>= fun ⟨r46, h45⟩ => (if r46 = 0 then
    some ((-1), h45)
  else
    (if m_t h45 r46 = 6 then some ((m_g h45 r46 1), h45) else none)) else none)))))))))))))
def t11_in (v0 v2 v4 : Int) (h : m_H) : Option (Bool × m_H) :=
  (if (m_w (m_lcmp v0 v2)) < 0 then
  some (false, h)
else
  (if 0 < (m_w (m_lcmp v0 v4)) then
    some (false, h)
  else
    some (true, h)))
def t11_bounded (v0 : Int) (h : m_H) : Option (Int × m_H) :=
  (if (m_w (m_lcmp v0 (-32768))) < 0 then
  some ((-32768), h)
else
  (if 0 < (m_w (m_lcmp v0 32767)) then
    some (32767, h)
  else
    some (v0, h)))
set_option maxRecDepth 100000 in
def t11_init (v0 : Int) (h : m_H) : Option (Unit × m_H) :=
  (if 0 ≤ m_t h v0 then some (m_a h 20 20000) >>= fun h2 => if m_t h2 v0 = 11 then some (m_p h2 v0 0 (m_n h)) >>= fun h4 => some (m_a h4 20 300) >>= fun h5 => if m_t h5 v0 = 11 then some (m_p h5 v0 1 (m_n h4)) >>= fun h7 => some (m_a h7 20 100) >>= fun h8 => if m_t h8 v0 = 11 then some (m_p h8 v0 2 (m_n h7)) >>= fun h10 => some (m_a h10 20 100) >>= fun h11 => if m_t h11 v0 = 11 then some (m_p h11 v0 3 (m_n h10)) >>= fun h13 => some (m_a h13 20 100) >>= fun h14 => if m_t h14 v0 = 11 then some (m_p h14 v0 4 (m_n h13)) >>= fun h16 => some (m_a h16 20 100) >>= fun h17 => if m_t h17 v0 = 11 then some (m_p h17 v0 5 (m_n h16)) >>= fun h19 => some (m_a h19 20 100) >>= fun h20 => if m_t h20 v0 = 11 then some (m_p h20 v0 6 (m_n h19)) >>= fun h22 => some (m_a h22 20 100) >>= fun h23 => if m_t h23 v0 = 11 then some (m_p h23 v0 7 (m_n h22)) >>= fun h25 => some (m_a h25 20 100) >>= fun h26 => if m_t h26 v0 = 11 then some (m_p h26 v0 8 (m_n h25)) >>= fun h28 => some (m_a h28 20 100) >>= fun h29 => if m_t h29 v0 = 11 then some (m_p h29 v0 9 (m_n h28)) >>= fun h31 => some (m_a h31 20 100) >>= fun h32 => if m_t h32 v0 = 11 then some (m_p h32 v0 10 (m_n h31)) >>= fun h34 => some (m_a h34 20 100) >>= fun h35 => if m_t h35 v0 = 11 then some (m_p h35 v0 11 (m_n h34)) >>= fun h37 => some (m_a h37 20 100) >>= fun h38 => if m_t h38 v0 = 11 then some (m_p h38 v0 12 (m_n h37)) >>= fun h40 => some (m_a h40 20 100) >>= fun h41 => if m_t h41 v0 = 11 then some (m_p h41 v0 13 (m_n h40)) >>= fun h43 => some (m_a h43 20 4) >>= fun h44 => if m_t h44 v0 = 11 then some (m_p h44 v0 19 (m_n h43)) >>= fun h46 => some (m_a h46 20 4) >>= fun h47 => if m_t h47 v0 = 11 then some (m_p h47 v0 20 (m_n h46)) >>= fun h49 => some (m_a h49 20 4) >>= fun h50 => if m_t h50 v0 = 11 then some (m_p h50 v0 21 (m_n h49)) >>= fun h52 => some (m_a h52 20 4) >>= fun h53 => if m_t h53 v0 = 11 then some (m_p h53 v0 22 (m_n h52)) >>= fun h55 => some (m_a h55 20 100) >>= fun h56 => if m_t h56 v0 = 11 then some (m_p h56 v0 24 (m_n h55)) >>= fun h58 => some (m_a h58 20 100) >>= fun h59 => if m_t h59 v0 = 11 then some (m_p h59 v0 25 (m_n h58)) >>= fun h61 => some (m_a h61 20 100) >>= fun h62 => if m_t h62 v0 = 11 then some (m_p h62 v0 26 (m_n h61)) >>= fun h64 => some (m_a h64 20 1500) >>= fun h65 => if m_t h65 v0 = 11 then some (m_p h65 v0 28 (m_n h64)) >>= fun h67 => some (m_a h67 22 1200) >>= fun h68 => if m_t h68 v0 = 11 then some (m_p h68 v0 29 (m_n h67)) >>= fun h70 => some (m_a h70 20 9) >>= fun h71 => if m_t h71 v0 = 11 then some (m_p h71 v0 34 (m_n h70)) >>= fun h73 => some (m_a2 h73 9 40) >>= fun h74 => if m_t h74 v0 = 11 then some (m_p h74 v0 35 (m_n h73)) >>= fun h76 => some (m_a2 h76 9 40) >>= fun h77 => if m_t h77 v0 = 11 then some (m_p h77 v0 36 (m_n h76)) >>= fun h79 => some (m_a2 h79 9 40) >>= fun h80 => if m_t h80 v0 = 11 then some (m_p h80 v0 37 (m_n h79)) >>= fun h82 => some (m_a2 h82 9 40) >>= fun h83 => if m_t h83 v0 = 11 then some (m_p h83 v0 38 (m_n h82)) >>= fun h85 => some (m_a2 h85 9 40) >>= fun h86 => if m_t h86 v0 = 11 then some (m_p h86 v0 39 (m_n h85)) >>= fun h88 => some (m_a2 h88 9 40) >>= fun h89 => if m_t h89 v0 = 11 then some (m_p h89 v0 40 (m_n h88)) >>= fun h91 => some (m_a2 h91 9 40) >>= fun h92 => if m_t h92 v0 = 11 then some (m_p h92 v0 41 (m_n h91)) >>= fun h94 => some (m_a2 h94 9 40) >>= fun h95 => if m_t h95 v0 = 11 then some (m_p h95 v0 42 (m_n h94)) >>= fun h97 => some (m_a h97 20 40) >>= fun h98 => if m_t h98 v0 = 11 then some (m_p h98 v0 44 (m_n h97)) >>= fun h100 => some (m_a h100 20 40) >>= fun h101 => if m_t h101 v0 = 11 then some (m_p h101 v0 45 (m_n h100)) >>= fun h103 => some (m_a h103 20 40) >>= fun h104 => if m_t h104 v0 = 11 then some (m_p h104 v0 46 (m_n h103)) >>= fun h106 => some (m_a h106 28 12) >>= fun h107 => if m_t h107 (m_n h106) = 28 ∧ (0 : Int) ≤ 0 ∧ 0 < m_l h107 (m_n h106) then some (m_p h107 (m_n h106) 0 (-3)) >>= fun h109 => if m_t h109 (m_n h106) = 28 ∧ (0 : Int) ≤ 1 ∧ 1 < m_l h109 (m_n h106) then some (m_p h109 (m_n h106) 1 (-4)) >>= fun h111 => if m_t h111 (m_n h106) = 28 ∧ (0 : Int) ≤ 2 ∧ 2 < m_l h111 (m_n h106) then some (m_p h111 (m_n h106) 2 (-5)) >>= fun h113 => if m_t h113 (m_n h106) = 28 ∧ (0 : Int) ≤ 3 ∧ 3 < m_l h113 (m_n h106) then some (m_p h113 (m_n h106) 3 (-6)) >>= fun h115 => if m_t h115 (m_n h106) = 28 ∧ (0 : Int) ≤ 4 ∧ 4 < m_l h115 (m_n h106) then some (m_p h115 (m_n h106) 4 (-7)) >>= fun h117 => if m_t h117 (m_n h106) = 28 ∧ (0 : Int) ≤ 5 ∧ 5 < m_l h117 (m_n h106) then some (m_p h117 (m_n h106) 5 (-8)) >>= fun h119 => if m_t h119 (m_n h106) = 28 ∧ (0 : Int) ≤ 6 ∧ 6 < m_l h119 (m_n h106) then some (m_p h119 (m_n h106) 6 (-9)) >>= fun h121 => if m_t h121 (m_n h106) = 28 ∧ (0 : Int) ≤ 7 ∧ 7 < m_l h121 (m_n h106) then some (m_p h121 (m_n h106) 7 (-10)) >>= fun h123 => if m_t h123 (m_n h106) = 28 ∧ (0 : Int) ≤ 8 ∧ 8 < m_l h123 (m_n h106) then some (m_p h123 (m_n h106) 8 (-11)) >>= fun h125 => if m_t h125 (m_n h106) = 28 ∧ (0 : Int) ≤ 9 ∧ 9 < m_l h125 (m_n h106) then some (m_p h125 (m_n h106) 9 (-12)) >>= fun h127 => if m_t h127 (m_n h106) = 28 ∧ (0 : Int) ≤ 10 ∧ 10 < m_l h127 (m_n h106) then some (m_p h127 (m_n h106) 10 (-13)) >>= fun h129 => if m_t h129 (m_n h106) = 28 ∧ (0 : Int) ≤ 11 ∧ 11 < m_l h129 (m_n h106) then some (m_p h129 (m_n h106) 11 (-14)) >>= fun h131 => if m_t h131 v0 = 11 then some (m_p h131 v0 48 (m_n h106)) >>= fun h133 => some (m_a h133 28 12) >>= fun h134 => if m_t h134 (m_n h133) = 28 ∧ (0 : Int) ≤ 0 ∧ 0 < m_l h134 (m_n h133) then some (m_p h134 (m_n h133) 0 (-15)) >>= fun h136 => if m_t h136 (m_n h133) = 28 ∧ (0 : Int) ≤ 1 ∧ 1 < m_l h136 (m_n h133) then some (m_p h136 (m_n h133) 1 (-16)) >>= fun h138 => if m_t h138 (m_n h133) = 28 ∧ (0 : Int) ≤ 2 ∧ 2 < m_l h138 (m_n h133) then some (m_p h138 (m_n h133) 2 (-17)) >>= fun h140 => if m_t h140 (m_n h133) = 28 ∧ (0 : Int) ≤ 3 ∧ 3 < m_l h140 (m_n h133) then some (m_p h140 (m_n h133) 3 (-18)) >>= fun h142 => if m_t h142 (m_n h133) = 28 ∧ (0 : Int) ≤ 4 ∧ 4 < m_l h142 (m_n h133) then some (m_p h142 (m_n h133) 4 (-19)) >>= fun h144 => if m_t h144 (m_n h133) = 28 ∧ (0 : Int) ≤ 5 ∧ 5 < m_l h144 (m_n h133) then some (m_p h144 (m_n h133) 5 (-20)) >>= fun h146 => if m_t h146 (m_n h133) = 28 ∧ (0 : Int) ≤ 6 ∧ 6 < m_l h146 (m_n h133) then some (m_p h146 (m_n h133) 6 (-21)) >>= fun h148 => if m_t h148 (m_n h133) = 28 ∧ (0 : Int) ≤ 7 ∧ 7 < m_l h148 (m_n h133) then some (m_p h148 (m_n h133) 7 (-22)) >>= fun h150 => if m_t h150 (m_n h133) = 28 ∧ (0 : Int) ≤ 8 ∧ 8 < m_l h150 (m_n h133) then some (m_p h150 (m_n h133) 8 (-23)) >>= fun h152 => if m_t h152 (m_n h133) = 28 ∧ (0 : Int) ≤ 9 ∧ 9 < m_l h152 (m_n h133) then some (m_p h152 (m_n h133) 9 (-24)) >>= fun h154 => if m_t h154 (m_n h133) = 28 ∧ (0 : Int) ≤ 10 ∧ 10 < m_l h154 (m_n h133) then some (m_p h154 (m_n h133) 10 (-25)) >>= fun h156 => if m_t h156 (m_n h133) = 28 ∧ (0 : Int) ≤ 11 ∧ 11 < m_l h156 (m_n h133) then some (m_p h156 (m_n h133) 11 (-26)) >>= fun h158 => if m_t h158 v0 = 11 then some (m_p h158 v0 49 (m_n h133)) >>= fun h160 => some (m_a2 h160 40 1500) >>= fun h161 => if m_t h161 v0 = 11 then some (m_p h161 v0 50 (m_n h160)) >>= fun h163 => some (m_a h163 20 40) >>= fun h164 => if m_t h164 v0 = 11 then some (m_p h164 v0 51 (m_n h163)) >>= fun h166 => some (m_a h166 20 40) >>= fun h167 => if m_t h167 v0 = 11 then some (m_p h167 v0 52 (m_n h166)) >>= fun h169 => some (m_a h169 21 3000) >>= fun h170 => if m_t h170 v0 = 11 then some (m_p h170 v0 53 (m_n h169)) >>= fun h172 => some (m_a h172 20 400) >>= fun h173 => if m_t h173 v0 = 11 then some (m_p h173 v0 54 (m_n h172)) >>= fun h175 => some (m_a h175 20 400) >>= fun h176 => if m_t h176 v0 = 11 then some (m_p h176 v0 55 (m_n h175)) >>= fun h178 => some (m_a h178 20 400) >>= fun h179 => if m_t h179 v0 = 11 then some (m_p h179 v0 56 (m_n h178)) >>= fun h181 => some (m_a h181 20 400) >>= fun h182 => if m_t h182 v0 = 11 then some (m_p h182 v0 57 (m_n h181)) >>= fun h184 => if m_t h184 v0 = 11 then some (m_p h184 v0 60 (-1)) >>= fun h186 => some (m_a h186 20 3000) >>= fun h187 => if m_t h187 v0 = 11 then some (m_p h187 v0 63 (m_n h186)) >>= fun h189 => some (m_a h189 20 40) >>= fun h190 => if m_t h190 v0 = 11 then some (m_p h190 v0 64 (m_n h189)) >>= fun h192 => some (m_a h192 20 40) >>= fun h193 => if m_t h193 v0 = 11 then some (m_p h193 v0 65 (m_n h192)) >>= fun h195 => some (m_a h195 20 400) >>= fun h196 => if m_t h196 v0 = 11 then some (m_p h196 v0 66 (m_n h195)) >>= fun h198 => some (m_a h198 20 400) >>= fun h199 => if m_t h199 v0 = 11 then some (m_p h199 v0 67 (m_n h198)) >>= fun h201 => some (m_a h201 20 400) >>= fun h202 => if m_t h202 v0 = 11 then some (m_p h202 v0 68 (m_n h201)) >>= fun h204 => some (m_a h204 20 400) >>= fun h205 => if m_t h205 v0 = 11 then some (m_p h205 v0 69 (m_n h204)) >>= fun h207 => some (m_a h207 23 8) >>= fun h208 => if m_t h208 v0 = 11 then some (m_p h208 v0 70 (m_n h207)) >>= fun h210 => some (m_a2 h210 8 40) >>= fun h211 => if m_t h211 v0 = 11 then some (m_p h211 v0 71 (m_n h210)) >>= fun h213 => some (m_a h213 23 40) >>= fun h214 => if m_t h214 v0 = 11 then some (m_p h214 v0 72 (m_n h213)) >>= fun h216 => some (m_a h216 20 9) >>= fun h217 => if m_t h217 v0 = 11 then some (m_p h217 v0 75 (m_n h216)) >>= fun h219 => some (m_a h219 20 9) >>= fun h220 => if m_t h220 v0 = 11 then some (m_p h220 v0 76 (m_n h219)) >>= fun h222 => some (m_a h222 20 512) >>= fun h223 => if m_t h223 v0 = 11 then some (m_p h223 v0 77 (m_n h222)) >>= fun h225 => some (m_a h225 20 9) >>= fun h226 => if m_t h226 v0 = 11 then some (m_p h226 v0 78 (m_n h225)) >>= fun h228 => some (m_a h228 20 40) >>= fun h229 => if m_t h229 v0 = 11 then some (m_p h229 v0 80 (m_n h228)) >>= fun h231 => some (m_a h231 20 1000) >>= fun h232 => if m_t h232 v0 = 11 then some (m_p h232 v0 81 (m_n h231)) >>= fun h234 => some (m_a h234 20 600) >>= fun h235 => if m_t h235 v0 = 11 then some (m_p h235 v0 82 (m_n h234)) >>= fun h237 => some (m_a h237 20 1001) >>= fun h238 => if m_t h238 v0 = 11 then some (m_p h238 v0 83 (m_n h237)) >>= fun h240 => some (m_a h240 20 1001) >>= fun h241 => if m_t h241 v0 = 11 then some (m_p h241 v0 84 (m_n h240)) >>= fun h243 => some ((), h243) else none else none else none else none else none else none else none else none else none else none else none else none else none else none else none else none else none else none else none else none else none else none else none else none else none else none else none else none else none else none else none else none else none else none else none else none else none else none else none else none else none else none else none else none else none else none else none else none else none else none else none else none else none else none else none else none else none else none else none else none else none else none else none else none else none else none else none else none else none else none else none else none else none else none else none else none else none else none else none else none else none else none else none else none else none else none else none else none else none else none)
def t11_isStrip (v0 v1 : Int) (h : m_H) : Option (Bool × m_H) :=
  (if m_t h v0 = 11 then t11_in (m_w v1) 0 (m_w ((m_g h v0 14) - 1)) h >>= fun ⟨r3, h2⟩ => some (r3, h2) else none)
def t11_isThere (v0 v1 : Int) (h : m_H) : Option (Bool × m_H) :=
  (if m_t h v0 = 11 then t11_isStrip v0 v1 h >>= fun ⟨r3, h2⟩ => (if r3 = true then
  (if m_t h2 v0 = 11 then if m_t h2 (m_g h2 v0 5) = 20 ∧ 0 ≤ (m_w v1) ∧ (m_w v1) < m_l h2 (m_g h2 v0 5) then (if (m_w (m_g h2 (m_g h2 v0 5) (m_w v1))) = 0 then
    some (true, h2)
  else
    some (false, h2)) else none else none)
else
  some (false, h2)) else none)
def t11_hands (v0 v1 : Int) (h : m_H) : Option (Unit × m_H) :=
  (if m_t h v0 = 11 then if m_t h (m_g h v0 1) = 20 ∧ 0 ≤ (m_w (m_g h v0 16)) ∧ (m_w (m_g h v0 16)) < m_l h (m_g h v0 1) then some (m_p h (m_g h v0 1) (m_w (m_g h v0 16)) (m_i2s (m_ushr v1 16))) >>= fun h3 => if m_t h3 v0 = 11 then if m_t h3 (m_g h3 v0 1) = 20 ∧ 0 ≤ (m_w ((m_g h3 v0 16) + 1)) ∧ (m_w ((m_g h3 v0 16) + 1)) < m_l h3 (m_g h3 v0 1) then some (m_p h3 (m_g h3 v0 1) (m_w ((m_g h3 v0 16) + 1)) (m_i2s v1)) >>= fun h6 => if m_t h6 v0 = 11 then some (m_p h6 v0 16 ((m_g h6 v0 16) + 2)) >>= fun h8 => some ((), h8) else none else none else none else none else none)
def t11_hand (v0 v1 v2 v3 v4 v5 : Int) (h : m_H) : Option (Int × m_H) :=
  (if m_t h v0 = 11 then (if 300 < (m_w ((m_g h v0 16) + 10)) then
  some ((-1), h)
else
  (t11_hands v0 v1 h >>= fun ⟨_, h3⟩ => if m_t h3 v0 = 11 then t11_hands v0 v2 h3 >>= fun ⟨_, h6⟩ => if m_t h6 v0 = 11 then t11_hands v0 v3 h6 >>= fun ⟨_, h9⟩ => if m_t h9 v0 = 11 then t11_hands v0 v4 h9 >>= fun ⟨_, h12⟩ => if m_t h12 v0 = 11 then t11_hands v0 v5 h12 >>= fun ⟨_, h15⟩ => if m_t h15 v0 = 11 then some ((m_g h15 v0 16), h15) else none else none else none else none else none)) else none)
def t11_drop (v0 : Int) (h : m_H) : Option (Int × m_H) :=
  (if m_t h v0 = 11 then some (m_g h v0 16) >>= fun x2 => some (m_p h v0 16 0) >>= fun h3 => some (x2, h3) else none)
def t11_handLoses_c2 (v0 v1 v2 : Int) (h : m_H) : Option (Unit × m_H) :=
  (if m_t h v0 = 11 then (if (m_w v2) < (m_w (m_g h v0 16)) then
  (if m_t h (m_g h v0 1) = 20 ∧ 0 ≤ (m_w v2) ∧ (m_w v2) < m_l h (m_g h v0 1) then if m_t h (m_g h v0 1) = 20 ∧ 0 ≤ (m_w (v2 - v1)) ∧ (m_w (v2 - v1)) < m_l h (m_g h v0 1) then some (m_p h (m_g h v0 1) (m_w (v2 - v1)) (m_g h (m_g h v0 1) (m_w v2))) >>= fun h5 => (t11_handLoses_c2 v0 v1 (v2 + 1) h5) else none else none)
else
  (some (m_p h v0 16 ((m_g h v0 16) - v1)) >>= fun h6 => some ((), h6))) else none)
partial_fixpoint
def t11_handLoses (v0 v1 : Int) (h : m_H) : Option (Unit × m_H) :=
  (t11_handLoses_c2 v0 v1 v1 h)
def t11_comes_c98 (v0 v2 v3 v4 v5 s0 s1 s2 : Int) (h : m_H) : Option (Int × m_H) :=
  (if m_t h s0 = 20 ∧ 0 ≤ (m_w s1) ∧ (m_w s1) < m_l h s0 then some (m_p h s0 (m_w s1) s2) >>= fun h2 => if m_t h2 v0 = 11 then if m_t h2 (m_g h2 v0 9) = 20 ∧ 0 ≤ (m_w v5) ∧ (m_w v5) < m_l h2 (m_g h2 v0 9) then some (m_p h2 (m_g h2 v0 9) (m_w v5) (-1)) >>= fun h5 => if m_t h5 v0 = 11 then if m_t h5 (m_g h5 v0 10) = 20 ∧ 0 ≤ (m_w v5) ∧ (m_w v5) < m_l h5 (m_g h5 v0 10) then some (m_p h5 (m_g h5 v0 10) (m_w v5) (m_g h5 v0 18)) >>= fun h8 => if m_t h8 v0 = 11 then if m_t h8 (m_g h8 v0 11) = 20 ∧ 0 ≤ (m_w v5) ∧ (m_w v5) < m_l h8 (m_g h8 v0 11) then some (m_p h8 (m_g h8 v0 11) (m_w v5) v2) >>= fun h11 => if m_t h11 v0 = 11 then if m_t h11 (m_g h11 v0 12) = 20 ∧ 0 ≤ (m_w v5) ∧ (m_w v5) < m_l h11 (m_g h11 v0 12) then some (m_p h11 (m_g h11 v0 12) (m_w v5) v3) >>= fun h14 => if m_t h14 v0 = 11 then if m_t h14 (m_g h14 v0 13) = 20 ∧ 0 ≤ (m_w v5) ∧ (m_w v5) < m_l h14 (m_g h14 v0 13) then some (m_p h14 (m_g h14 v0 13) (m_w v5) v4) >>= fun h17 => if m_t h17 v0 = 11 then if m_t h17 (m_g h17 v0 3) = 20 ∧ 0 ≤ (m_w v5) ∧ (m_w v5) < m_l h17 (m_g h17 v0 3) then some (m_p h17 (m_g h17 v0 3) (m_w v5) 0) >>= fun h20 => if m_t h20 v0 = 11 then some (m_p h20 v0 14 ((m_g h20 v0 14) + 1)) >>= fun h22 => some (v5, h22) else none else none else none else none else none else none else none else none else none else none else none else none else none else none)
def t11_comes_c76 (v0 v2 v3 v4 v5 s0 s1 s2 : Int) (h : m_H) : Option (Int × m_H) :=
  (if m_t h s0 = 20 ∧ 0 ≤ (m_w s1) ∧ (m_w s1) < m_l h s0 then some (m_p h s0 (m_w s1) s2) >>= fun h2 => if m_t h2 v0 = 11 then (if (m_w v2) = (-1) then
  (t11_comes_c98 v0 v2 v3 v4 v5 (m_g h2 v0 8) v5 0 h2)
else
  (if m_t h2 (m_g h2 v0 8) = 20 ∧ 0 ≤ (m_w v2) ∧ (m_w v2) < m_l h2 (m_g h2 v0 8) then (t11_comes_c98 v0 v2 v3 v4 v5 (m_g h2 v0 8) v5 (m_g h2 (m_g h2 v0 8) (m_w v2)) h2) else none)) else none else none)
def t11_comes_c54 (v0 v2 v3 v4 v5 s0 s1 s2 : Int) (h : m_H) : Option (Int × m_H) :=
  (if m_t h s0 = 20 ∧ 0 ≤ (m_w s1) ∧ (m_w s1) < m_l h s0 then some (m_p h s0 (m_w s1) s2) >>= fun h2 => if m_t h2 v0 = 11 then (if (m_w v2) = (-1) then
  (t11_comes_c76 v0 v2 v3 v4 v5 (m_g h2 v0 7) v5 0 h2)
else
  (if m_t h2 (m_g h2 v0 7) = 20 ∧ 0 ≤ (m_w v2) ∧ (m_w v2) < m_l h2 (m_g h2 v0 7) then (t11_comes_c76 v0 v2 v3 v4 v5 (m_g h2 v0 7) v5 (m_g h2 (m_g h2 v0 7) (m_w v2)) h2) else none)) else none else none)
def t11_comes (v0 v1 v2 v3 v4 : Int) (h : m_H) : Option (Int × m_H) :=
  (if m_t h v0 = 11 then some (m_g h v0 14) >>= fun x2 => if m_t h (m_g h v0 2) = 20 ∧ 0 ≤ (m_w x2) ∧ (m_w x2) < m_l h (m_g h v0 2) then some (m_p h (m_g h v0 2) (m_w x2) (m_g h v0 15)) >>= fun h4 => if m_t h4 v0 = 11 then if m_t h4 (m_g h4 v0 4) = 20 ∧ 0 ≤ (m_w x2) ∧ (m_w x2) < m_l h4 (m_g h4 v0 4) then some (m_p h4 (m_g h4 v0 4) (m_w x2) v1) >>= fun h7 => if m_t h7 v0 = 11 then if m_t h7 (m_g h7 v0 5) = 20 ∧ 0 ≤ (m_w x2) ∧ (m_w x2) < m_l h7 (m_g h7 v0 5) then some (m_p h7 (m_g h7 v0 5) (m_w x2) 0) >>= fun h10 => if m_t h10 v0 = 11 then (if (m_w v2) = (-1) then
  (t11_comes_c54 v0 v2 v3 v4 x2 (m_g h10 v0 6) x2 0 h10)
else
  (if m_t h10 (m_g h10 v0 6) = 20 ∧ 0 ≤ (m_w v2) ∧ (m_w v2) < m_l h10 (m_g h10 v0 6) then (t11_comes_c54 v0 v2 v3 v4 x2 (m_g h10 v0 6) x2 (m_g h10 (m_g h10 v0 6) (m_w v2)) h10) else none)) else none else none else none else none else none else none else none)
def t11_adds (v0 v1 v2 : Int) (h : m_H) : Option (Unit × m_H) :=
  (if m_t h v0 = 11 then if m_t h (m_g h v0 0) = 20 ∧ 0 ≤ (m_w (m_g h v0 15)) ∧ (m_w (m_g h v0 15)) < m_l h (m_g h v0 0) then some (m_p h (m_g h v0 0) (m_w (m_g h v0 15)) v2) >>= fun h3 => if m_t h3 v0 = 11 then some (m_p h3 v0 15 ((m_g h3 v0 15) + 1)) >>= fun h5 => if m_t h5 v0 = 11 then if m_t h5 (m_g h5 v0 3) = 20 ∧ 0 ≤ (m_w v1) ∧ (m_w v1) < m_l h5 (m_g h5 v0 3) then some (m_p h5 (m_g h5 v0 3) (m_w v1) ((m_g h5 (m_g h5 v0 3) (m_w v1)) + 1)) >>= fun h8 => some ((), h8) else none else none else none else none else none)
def t11_isRoom (v0 v1 v2 : Int) (h : m_H) : Option (Bool × m_H) :=
  (if m_t h v0 = 11 then (if 100 < (m_w ((m_g h v0 14) + v1)) then
  some (false, h)
else
  (if 20000 < (m_w ((m_g h v0 15) + v2)) then
    some (false, h)
  else
    some (true, h))) else none)
def t11_uses (v0 v1 v2 : Int) (h : m_H) : Option (Unit × m_H) :=
  (if m_t h v0 = 11 then if m_t h (m_g h v0 5) = 20 ∧ 0 ≤ (m_w v1) ∧ (m_w v1) < m_l h (m_g h v0 5) then some (m_p h (m_g h v0 5) (m_w v1) v2) >>= fun h3 => if m_t h3 v0 = 11 then if m_t h3 (m_g h3 v0 9) = 20 ∧ 0 ≤ (m_w v1) ∧ (m_w v1) < m_l h3 (m_g h3 v0 9) then some (m_p h3 (m_g h3 v0 9) (m_w v1) (-1)) >>= fun h6 => some ((), h6) else none else none else none else none)
def t11_at (v0 v1 v2 : Int) (h : m_H) : Option (Int × m_H) :=
  (if m_t h v0 = 11 then if m_t h (m_g h v0 2) = 20 ∧ 0 ≤ (m_w v1) ∧ (m_w v1) < m_l h (m_g h v0 2) then if m_t h (m_g h v0 0) = 20 ∧ 0 ≤ (m_w ((m_g h (m_g h v0 2) (m_w v1)) + v2)) ∧ (m_w ((m_g h (m_g h v0 2) (m_w v1)) + v2)) < m_l h (m_g h v0 0) then some ((m_g h (m_g h v0 0) (m_w ((m_g h (m_g h v0 2) (m_w v1)) + v2))), h) else none else none else none)
def t11_strip_c36 (v0 v1 v2 v3 : Int) (h : m_H) : Option (Int × m_H) :=
  (if (m_w v3) < (m_w v1) then
  (if m_t h v0 = 11 then if m_t h (m_g h v0 1) = 20 ∧ 0 ≤ (m_w v3) ∧ (m_w v3) < m_l h (m_g h v0 1) then t11_adds v0 v2 (m_g h (m_g h v0 1) (m_w v3)) h >>= fun ⟨_, h4⟩ => (t11_strip_c36 v0 v1 v2 (v3 + 1) h4) else none else none)
else
  (if m_t h v0 = 11 then t11_handLoses v0 v1 h >>= fun ⟨_, h7⟩ => some (v2, h7) else none))
partial_fixpoint
def t11_strip (v0 v1 : Int) (h : m_H) : Option (Int × m_H) :=
  (if m_t h v0 = 11 then t11_in (m_w v1) 1 (m_w (m_g h v0 16)) h >>= fun ⟨r3, h2⟩ => (if r3 = true then
  (if m_t h2 v0 = 11 then t11_isRoom v0 1 v1 h2 >>= fun ⟨r7, h6⟩ => (if r7 = true then
    (if m_t h6 v0 = 11 then t11_comes v0 0 (-1) (-1) 0 h6 >>= fun ⟨r11, h10⟩ => (t11_strip_c36 v0 v1 r11 0 h10) else none)
  else
    some ((-1), h6)) else none)
else
  some ((-1), h2)) else none)
def t11_sliver (v0 v1 : Int) (h : m_H) : Option (Bool × m_H) :=
  (t11_in (m_w v1) 0 9 h >>= fun ⟨r2, h1⟩ => (if r2 = true then
  (if m_t h1 v0 = 11 then some (m_p h1 v0 17 v1) >>= fun h5 => some (true, h5) else none)
else
  some (false, h1)))
def t11_cut_c123 (v0 v1 v3 v4 v5 : Int) (h : m_H) : Option (Int × m_H) :=
  (if m_t h v0 = 11 then if m_t h (m_g h v0 3) = 20 ∧ 0 ≤ (m_w v1) ∧ (m_w v1) < m_l h (m_g h v0 3) then (if (m_w v5) < (m_w (m_g h (m_g h v0 3) (m_w v1))) then
  (t11_at v0 v1 v5 h >>= fun ⟨r5, h4⟩ => if m_t h4 v0 = 11 then t11_adds v0 v4 r5 h4 >>= fun ⟨_, h7⟩ => (t11_cut_c123 v0 v1 v3 v4 (v5 + 1) h7) else none)
else
  (t11_uses v0 v1 1 h >>= fun ⟨_, h9⟩ => some (v3, h9))) else none else none)
partial_fixpoint
def t11_cut_c76 (v0 v1 v2 v3 v4 : Int) (h : m_H) : Option (Int × m_H) :=
  (if (m_w v4) < (m_w v2) then
  (if m_t h v0 = 11 then t11_at v0 v1 v4 h >>= fun ⟨r4, h3⟩ => if m_t h3 v0 = 11 then t11_adds v0 v3 r4 h3 >>= fun ⟨_, h6⟩ => (t11_cut_c76 v0 v1 v2 v3 (v4 + 1) h6) else none else none)
else
  (if m_t h v0 = 11 then t11_comes v0 1 v1 (-1) (v2 + (m_g h v0 17)) h >>= fun ⟨r10, h9⟩ => if m_t h9 v0 = 11 then some (v2 + (m_g h9 v0 17)) >>= fun x12 => (t11_cut_c123 v0 v1 v3 r10 x12 h9) else none else none))
partial_fixpoint
def t11_cut (v0 v1 v2 : Int) (h : m_H) : Option (Int × m_H) :=
  (if m_t h v0 = 11 then t11_isThere v0 v1 h >>= fun ⟨r3, h2⟩ => (if r3 = true then
  (if m_t h2 v0 = 11 then if m_t h2 (m_g h2 v0 3) = 20 ∧ 0 ≤ (m_w v1) ∧ (m_w v1) < m_l h2 (m_g h2 v0 3) then t11_in (m_w v2) 1 (m_w ((m_g h2 (m_g h2 v0 3) (m_w v1)) - 1)) h2 >>= fun ⟨r8, h7⟩ => (if r8 = true then
    (if m_t h7 v0 = 11 then if m_t h7 (m_g h7 v0 3) = 20 ∧ 0 ≤ (m_w v1) ∧ (m_w v1) < m_l h7 (m_g h7 v0 3) then (if (m_w (((m_g h7 (m_g h7 v0 3) (m_w v1)) - v2) - (m_g h7 v0 17))) < 1 then
      some ((-1), h7)
    else
      (t11_isRoom v0 2 ((m_g h7 (m_g h7 v0 3) (m_w v1)) - (m_g h7 v0 17)) h7 >>= fun ⟨r14, h13⟩ => (if r14 = true then
        (if m_t h13 v0 = 11 then t11_comes v0 1 v1 (-1) 0 h13 >>= fun ⟨r18, h17⟩ => (t11_cut_c76 v0 v1 v2 r18 0 h17) else none)
      else
        some ((-1), h13)))) else none else none)
  else
    some ((-1), h7)) else none else none)
else
  some ((-1), h2)) else none)
def t11_isPlain (v0 v1 : Int) (h : m_H) : Option (Bool × m_H) :=
  (if m_t h v0 = 11 then t11_isThere v0 v1 h >>= fun ⟨r3, h2⟩ => (if r3 = true then
  (if m_t h2 v0 = 11 then if m_t h2 (m_g h2 v0 4) = 20 ∧ 0 ≤ (m_w v1) ∧ (m_w v1) < m_l h2 (m_g h2 v0 4) then (if (m_w (m_g h2 (m_g h2 v0 4) (m_w v1))) = 3 then
    some (false, h2)
  else
    some (true, h2)) else none else none)
else
  some (false, h2)) else none)
def t11_turn_c42 (v0 v1 v2 v3 : Int) (h : m_H) : Option (Int × m_H) :=
  (if (m_w v3) < 0 then
  (if m_t h v0 = 11 then t11_uses v0 v1 1 h >>= fun ⟨_, h3⟩ => some (v2, h3) else none)
else
  (if m_t h v0 = 11 then t11_at v0 v1 v3 h >>= fun ⟨r7, h6⟩ => if m_t h6 v0 = 11 then t11_adds v0 v2 r7 h6 >>= fun ⟨_, h9⟩ => (t11_turn_c42 v0 v1 v2 (v3 + (-1)) h9) else none else none))
partial_fixpoint
def t11_turn (v0 v1 : Int) (h : m_H) : Option (Int × m_H) :=
  (if m_t h v0 = 11 then t11_isPlain v0 v1 h >>= fun ⟨r3, h2⟩ => (if r3 = true then
  (if m_t h2 v0 = 11 then if m_t h2 (m_g h2 v0 3) = 20 ∧ 0 ≤ (m_w v1) ∧ (m_w v1) < m_l h2 (m_g h2 v0 3) then t11_isRoom v0 1 (m_g h2 (m_g h2 v0 3) (m_w v1)) h2 >>= fun ⟨r8, h7⟩ => (if r8 = true then
    (if m_t h7 v0 = 11 then t11_comes v0 2 v1 (-1) 0 h7 >>= fun ⟨r12, h11⟩ => if m_t h11 v0 = 11 then if m_t h11 (m_g h11 v0 3) = 20 ∧ 0 ≤ (m_w v1) ∧ (m_w v1) < m_l h11 (m_g h11 v0 3) then some ((m_g h11 (m_g h11 v0 3) (m_w v1)) - 1) >>= fun x15 => (t11_turn_c42 v0 v1 r12 x15 h11) else none else none else none)
  else
    some ((-1), h7)) else none else none)
else
  some ((-1), h2)) else none)
def t11_loop_c35 (v0 v1 v2 v3 : Int) (h : m_H) : Option (Int × m_H) :=
  (if m_t h v0 = 11 then if m_t h (m_g h v0 3) = 20 ∧ 0 ≤ (m_w v1) ∧ (m_w v1) < m_l h (m_g h v0 3) then (if (m_w v3) < (m_w (m_g h (m_g h v0 3) (m_w v1))) then
  (t11_at v0 v1 v3 h >>= fun ⟨r5, h4⟩ => if m_t h4 v0 = 11 then t11_adds v0 v2 r5 h4 >>= fun ⟨_, h7⟩ => (t11_loop_c35 v0 v1 v2 (v3 + 1) h7) else none)
else
  (t11_uses v0 v1 1 h >>= fun ⟨_, h9⟩ => some (v2, h9))) else none else none)
partial_fixpoint
def t11_loop (v0 v1 : Int) (h : m_H) : Option (Int × m_H) :=
  (if m_t h v0 = 11 then t11_isPlain v0 v1 h >>= fun ⟨r3, h2⟩ => (if r3 = true then
  (if m_t h2 v0 = 11 then if m_t h2 (m_g h2 v0 3) = 20 ∧ 0 ≤ (m_w v1) ∧ (m_w v1) < m_l h2 (m_g h2 v0 3) then t11_isRoom v0 1 (m_g h2 (m_g h2 v0 3) (m_w v1)) h2 >>= fun ⟨r8, h7⟩ => (if r8 = true then
    (if m_t h7 v0 = 11 then t11_comes v0 3 v1 (-1) 0 h7 >>= fun ⟨r12, h11⟩ => (t11_loop_c35 v0 v1 r12 0 h11) else none)
  else
    some ((-1), h7)) else none else none)
else
  some ((-1), h2)) else none)
def t11_seam (v0 v1 : Int) (h : m_H) : Option (Int × m_H) :=
  (if m_t h v0 = 11 then t11_isStrip v0 v1 h >>= fun ⟨r3, h2⟩ => (if r3 = true then
  (if m_t h2 v0 = 11 then if m_t h2 (m_g h2 v0 4) = 20 ∧ 0 ≤ (m_w v1) ∧ (m_w v1) < m_l h2 (m_g h2 v0 4) then (if (m_w (m_g h2 (m_g h2 v0 4) (m_w v1))) = 3 then
    (t11_at v0 v1 0 h2 >>= fun ⟨r9, h8⟩ => if m_t h8 v0 = 11 then if m_t h8 (m_g h8 v0 3) = 20 ∧ 0 ≤ (m_w v1) ∧ (m_w v1) < m_l h8 (m_g h8 v0 3) then t11_at v0 v1 ((m_g h8 (m_g h8 v0 3) (m_w v1)) - 1) h8 >>= fun ⟨r13, h12⟩ => some (r9 - r13) >>= fun x14 => (if (m_w x14) < 0 then
      some ((-x14), h12)
    else
      some (x14, h12)) else none else none)
  else
    some ((-1), h2)) else none else none)
else
  some ((-1), h2)) else none)
def t11_spliced (v0 v1 v2 v3 : Int) (h : m_H) : Option (Int × m_H) :=
  (if (m_v (m_w (v3 + 1))) = 0 then none else t11_bounded (Int.tdiv (m_v (((m_w v0) * (m_w (v3 - v2))) + ((m_w v1) * (m_w (v2 + 1))))) (m_v (m_w (v3 + 1)))) h >>= fun ⟨r2, h1⟩ => some (r2, h1))
def t11_splice_c277 (v0 v1 v2 v5 v6 : Int) (h : m_H) : Option (Int × m_H) :=
  (if m_t h v0 = 11 then if m_t h (m_g h v0 3) = 20 ∧ 0 ≤ (m_w v2) ∧ (m_w v2) < m_l h (m_g h v0 3) then (if (m_w v6) < (m_w (m_g h (m_g h v0 3) (m_w v2))) then
  (t11_at v0 v2 v6 h >>= fun ⟨r5, h4⟩ => if m_t h4 v0 = 11 then t11_adds v0 v5 r5 h4 >>= fun ⟨_, h7⟩ => (t11_splice_c277 v0 v1 v2 v5 (v6 + 1) h7) else none)
else
  (t11_uses v0 v1 1 h >>= fun ⟨_, h9⟩ => if m_t h9 v0 = 11 then t11_uses v0 v2 1 h9 >>= fun ⟨_, h12⟩ => some (v5, h12) else none)) else none else none)
partial_fixpoint
def t11_splice_c227 (v0 v1 v2 v3 v5 v6 : Int) (h : m_H) : Option (Int × m_H) :=
  (if (m_w v6) < (m_w v3) then
  (if m_t h v0 = 11 then if m_t h (m_g h v0 3) = 20 ∧ 0 ≤ (m_w v1) ∧ (m_w v1) < m_l h (m_g h v0 3) then t11_at v0 v1 (((m_g h (m_g h v0 3) (m_w v1)) - v3) + v6) h >>= fun ⟨r5, h4⟩ => if m_t h4 v0 = 11 then t11_at v0 v2 v6 h4 >>= fun ⟨r8, h7⟩ => t11_spliced r5 r8 v6 v3 h7 >>= fun ⟨r10, h9⟩ => if m_t h9 v0 = 11 then t11_adds v0 v5 r10 h9 >>= fun ⟨_, h12⟩ => (t11_splice_c227 v0 v1 v2 v3 v5 (v6 + 1) h12) else none else none else none else none)
else
  (t11_splice_c277 v0 v1 v2 v5 v3 h))
partial_fixpoint
def t11_splice_c192 (v0 v1 v2 v3 v5 v6 : Int) (h : m_H) : Option (Int × m_H) :=
  (if m_t h v0 = 11 then if m_t h (m_g h v0 3) = 20 ∧ 0 ≤ (m_w v1) ∧ (m_w v1) < m_l h (m_g h v0 3) then (if (m_w v6) < (m_w ((m_g h (m_g h v0 3) (m_w v1)) - v3)) then
  (t11_at v0 v1 v6 h >>= fun ⟨r5, h4⟩ => if m_t h4 v0 = 11 then t11_adds v0 v5 r5 h4 >>= fun ⟨_, h7⟩ => (t11_splice_c192 v0 v1 v2 v3 v5 (v6 + 1) h7) else none)
else
  (t11_splice_c227 v0 v1 v2 v3 v5 0 h)) else none else none)
partial_fixpoint
def t11_splice_c160 (v0 v1 v2 v3 v5 : Int) (h : m_H) : Option (Int × m_H) :=
  (if m_t h v0 = 11 then if m_t h (m_g h v0 8) = 20 ∧ 0 ≤ (m_w v2) ∧ (m_w v2) < m_l h (m_g h v0 8) then if m_t h (m_g h v0 8) = 20 ∧ 0 ≤ (m_w v5) ∧ (m_w v5) < m_l h (m_g h v0 8) then (if (m_w (m_g h (m_g h v0 8) (m_w v5))) < (m_w (m_g h (m_g h v0 8) (m_w v2))) then
  (some (m_p h (m_g h v0 8) (m_w v5) (m_g h (m_g h v0 8) (m_w v2))) >>= fun h5 => (t11_splice_c192 v0 v1 v2 v3 v5 0 h5))
else
  (t11_splice_c192 v0 v1 v2 v3 v5 0 h)) else none else none else none)
def t11_splice_c131 (v0 v1 v2 v3 v5 : Int) (h : m_H) : Option (Int × m_H) :=
  (if m_t h v0 = 11 then if m_t h (m_g h v0 7) = 20 ∧ 0 ≤ (m_w v2) ∧ (m_w v2) < m_l h (m_g h v0 7) then if m_t h (m_g h v0 7) = 20 ∧ 0 ≤ (m_w v5) ∧ (m_w v5) < m_l h (m_g h v0 7) then (if (m_w (m_g h (m_g h v0 7) (m_w v5))) < (m_w (m_g h (m_g h v0 7) (m_w v2))) then
  (some (m_p h (m_g h v0 7) (m_w v5) (m_g h (m_g h v0 7) (m_w v2))) >>= fun h5 => (t11_splice_c160 v0 v1 v2 v3 v5 h5))
else
  (t11_splice_c160 v0 v1 v2 v3 v5 h)) else none else none else none)
def t11_splice (v0 v1 v2 v3 : Int) (h : m_H) : Option (Int × m_H) :=
  (if m_t h v0 = 11 then t11_isPlain v0 v1 h >>= fun ⟨r3, h2⟩ => (if r3 = true then
  (if m_t h2 v0 = 11 then t11_isPlain v0 v2 h2 >>= fun ⟨r7, h6⟩ => (if r7 = true then
    (if (m_w v1) = (m_w v2) then
      some ((-1), h6)
    else
      (t11_in (m_w v3) 0 20 h6 >>= fun ⟨r11, h10⟩ => (if r11 = true then
        (if m_t h10 v0 = 11 then if m_t h10 (m_g h10 v0 3) = 20 ∧ 0 ≤ (m_w v1) ∧ (m_w v1) < m_l h10 (m_g h10 v0 3) then (if (m_w (m_g h10 (m_g h10 v0 3) (m_w v1))) < (m_w v3) then
          some ((-1), h10)
        else
          (if m_t h10 (m_g h10 v0 3) = 20 ∧ 0 ≤ (m_w v2) ∧ (m_w v2) < m_l h10 (m_g h10 v0 3) then (if (m_w (m_g h10 (m_g h10 v0 3) (m_w v2))) < (m_w v3) then
            some ((-1), h10)
          else
            (some (((m_g h10 (m_g h10 v0 3) (m_w v1)) + (m_g h10 (m_g h10 v0 3) (m_w v2))) - v3) >>= fun x18 => (if 300 < (m_w x18) then
              some ((-1), h10)
            else
              (t11_isRoom v0 1 x18 h10 >>= fun ⟨r21, h20⟩ => (if r21 = true then
                (if m_t h20 v0 = 11 then t11_comes v0 4 v1 v2 0 h20 >>= fun ⟨r25, h24⟩ => if m_t h24 v0 = 11 then if m_t h24 (m_g h24 v0 6) = 20 ∧ 0 ≤ (m_w v2) ∧ (m_w v2) < m_l h24 (m_g h24 v0 6) then if m_t h24 (m_g h24 v0 6) = 20 ∧ 0 ≤ (m_w r25) ∧ (m_w r25) < m_l h24 (m_g h24 v0 6) then (if (m_w (m_g h24 (m_g h24 v0 6) (m_w r25))) < (m_w (m_g h24 (m_g h24 v0 6) (m_w v2))) then
                  (some (m_p h24 (m_g h24 v0 6) (m_w r25) (m_g h24 (m_g h24 v0 6) (m_w v2))) >>= fun h30 => (t11_splice_c131 v0 v1 v2 v3 r25 h30))
                else
                  (t11_splice_c131 v0 v1 v2 v3 r25 h24)) else none else none else none else none)
              else
                some ((-1), h20)))))) else none)) else none else none)
      else
        some ((-1), h10))))
  else
    some ((-1), h6)) else none)
else
  some ((-1), h2)) else none)
def t11_machine (v0 v1 v2 v3 : Int) (h : m_H) : Option (Int × m_H) :=
  (if (m_w v1) < 0 then
  some ((-1), h)
else
  (t11_in (m_w (Int.tdiv (m_w v1) 1000)) 0 100 h >>= fun ⟨r3, h2⟩ => (if r3 = true then
    (if 128 < (m_w (Int.tmod (m_w v1) 1000)) then
      some ((-1), h2)
    else
      (t11_in (m_w v2) 0 100 h2 >>= fun ⟨r7, h6⟩ => (if r7 = true then
        (t11_in (m_w v3) 0 200 h6 >>= fun ⟨r10, h9⟩ => (if r10 = true then
          (if m_t h9 v0 = 11 then (if (m_w (m_g h9 v0 23)) = 4 then
            some ((-1), h9)
          else
            (if m_t h9 (m_g h9 v0 19) = 20 ∧ 0 ≤ (m_w (m_g h9 v0 23)) ∧ (m_w (m_g h9 v0 23)) < m_l h9 (m_g h9 v0 19) then some (m_p h9 (m_g h9 v0 19) (m_w (m_g h9 v0 23)) ((Int.tdiv (m_w v1) 1000) - 50)) >>= fun h15 => if m_t h15 v0 = 11 then if m_t h15 (m_g h15 v0 20) = 20 ∧ 0 ≤ (m_w (m_g h15 v0 23)) ∧ (m_w (m_g h15 v0 23)) < m_l h15 (m_g h15 v0 20) then some (m_p h15 (m_g h15 v0 20) (m_w (m_g h15 v0 23)) (Int.tmod (m_w v1) 1000)) >>= fun h18 => if m_t h18 v0 = 11 then if m_t h18 (m_g h18 v0 21) = 20 ∧ 0 ≤ (m_w (m_g h18 v0 23)) ∧ (m_w (m_g h18 v0 23)) < m_l h18 (m_g h18 v0 21) then some (m_p h18 (m_g h18 v0 21) (m_w (m_g h18 v0 23)) v2) >>= fun h21 => if m_t h21 v0 = 11 then if m_t h21 (m_g h21 v0 22) = 20 ∧ 0 ≤ (m_w (m_g h21 v0 23)) ∧ (m_w (m_g h21 v0 23)) < m_l h21 (m_g h21 v0 22) then some (m_p h21 (m_g h21 v0 22) (m_w (m_g h21 v0 23)) v3) >>= fun h24 => if m_t h24 v0 = 11 then some (m_p h24 v0 23 ((m_g h24 v0 23) + 1)) >>= fun h26 => if m_t h26 v0 = 11 then some (((m_g h26 v0 23) - 1), h26) else none else none else none else none else none else none else none else none else none)) else none)
        else
          some ((-1), h9)))
      else
        some ((-1), h6))))
  else
    some ((-1), h2))))
def t11_isMachine (v0 v1 : Int) (h : m_H) : Option (Bool × m_H) :=
  (if m_t h v0 = 11 then t11_in (m_w v1) 0 (m_w ((m_g h v0 23) - 1)) h >>= fun ⟨r3, h2⟩ => some (r3, h2) else none)
def t11_longAt (v0 v1 v2 : Int) (h : m_H) : Option (Int × m_H) :=
  (if (m_w v1) = 0 then none else some (((Int.tdiv (m_w ((v0 - 1) * v2)) (m_w v1)) + 1), h))
def t11_sampleAt (v0 v1 v2 v3 v4 : Int) (h : m_H) : Option (Int × m_H) :=
  (if (m_v (m_w v4)) = 0 then none else some (Int.tdiv (m_v ((m_w v2) * (m_w v3))) (m_v (m_w v4))) >>= fun x1 => if (m_v (m_w v4)) = 0 then none else some (Int.tmod (m_v ((m_w v2) * (m_w v3))) (m_v (m_w v4))) >>= fun x2 => (if (m_w x1) < (m_w (v1 - 1)) then
  (if m_t h v0 = 11 then if m_t h (m_g h v0 28) = 20 ∧ 0 ≤ (m_w x1) ∧ (m_w x1) < m_l h (m_g h v0 28) then if m_t h (m_g h v0 28) = 20 ∧ 0 ≤ (m_w (x1 + 1)) ∧ (m_w (x1 + 1)) < m_l h (m_g h v0 28) then if (m_v (m_w v4)) = 0 then none else t11_bounded ((m_w (m_g h (m_g h v0 28) (m_w x1))) + (Int.tdiv (m_v (x2 * (m_w ((m_g h (m_g h v0 28) (m_w (x1 + 1))) - (m_g h (m_g h v0 28) (m_w x1)))))) (m_v (m_w v4)))) h >>= fun ⟨r8, h7⟩ => some (r8, h7) else none else none else none)
else
  (if m_t h v0 = 11 then if m_t h (m_g h v0 28) = 20 ∧ 0 ≤ (m_w (v1 - 1)) ∧ (m_w (v1 - 1)) < m_l h (m_g h v0 28) then some ((m_g h (m_g h v0 28) (m_w (v1 - 1))), h) else none else none)))
def t11_plays_c178 (v0 v1 v2 v4 v5 v6 v7 v8 v9 : Int) (h : m_H) : Option (Int × m_H) :=
  (if (m_w v9) < (m_w v7) then
  (if m_t h v0 = 11 then if m_t h (m_g h v0 3) = 20 ∧ 0 ≤ (m_w v1) ∧ (m_w v1) < m_l h (m_g h v0 3) then t11_sampleAt v0 (m_g h (m_g h v0 3) (m_w v1)) v9 v4 v5 h >>= fun ⟨r5, h4⟩ => t11_bounded (Int.tdiv (m_v ((m_w r5) * (m_w v6))) 64) h4 >>= fun ⟨r7, h6⟩ => if m_t h6 v0 = 11 then t11_adds v0 v8 r7 h6 >>= fun ⟨_, h9⟩ => (t11_plays_c178 v0 v1 v2 v4 v5 v6 v7 v8 (v9 + 1) h9) else none else none else none)
else
  (if m_t h v0 = 11 then if m_t h (m_g h v0 8) = 20 ∧ 0 ≤ (m_w v1) ∧ (m_w v1) < m_l h (m_g h v0 8) then if m_t h (m_g h v0 22) = 20 ∧ 0 ≤ (m_w v2) ∧ (m_w v2) < m_l h (m_g h v0 22) then (if 1000 < (m_w ((m_g h (m_g h v0 8) (m_w v1)) + (m_g h (m_g h v0 22) (m_w v2)))) then
    (some (m_p h (m_g h v0 8) (m_w v1) 1000) >>= fun h15 => some (v8, h15))
  else
    (some (m_p h (m_g h v0 8) (m_w v1) ((m_g h (m_g h v0 8) (m_w v1)) + (m_g h (m_g h v0 22) (m_w v2)))) >>= fun h16 => some (v8, h16))) else none else none else none))
partial_fixpoint
def t11_plays_c144 (v0 v1 v2 v4 v5 v6 v7 v8 v9 : Int) (h : m_H) : Option (Int × m_H) :=
  (if m_t h v0 = 11 then if m_t h (m_g h v0 3) = 20 ∧ 0 ≤ (m_w v1) ∧ (m_w v1) < m_l h (m_g h v0 3) then (if (m_w v9) < (m_w (m_g h (m_g h v0 3) (m_w v1))) then
  (t11_at v0 v1 v9 h >>= fun ⟨r5, h4⟩ => if m_t h4 (m_g h v0 28) = 20 ∧ 0 ≤ (m_w v9) ∧ (m_w v9) < m_l h4 (m_g h v0 28) then some (m_p h4 (m_g h v0 28) (m_w v9) r5) >>= fun h7 => (t11_plays_c144 v0 v1 v2 v4 v5 v6 v7 v8 (v9 + 1) h7) else none)
else
  (t11_plays_c178 v0 v1 v2 v4 v5 v6 v7 v8 0 h)) else none else none)
partial_fixpoint
def t11_plays_c132 (v0 v1 v2 v4 v5 v6 v7 v8 s0 s1 s2 : Int) (h : m_H) : Option (Int × m_H) :=
  (if m_t h s0 = 20 ∧ 0 ≤ (m_w s1) ∧ (m_w s1) < m_l h s0 then some (m_p h s0 (m_w s1) s2) >>= fun h2 => if m_t h2 v0 = 11 then if m_t h2 (m_g h2 v0 8) = 20 ∧ 0 ≤ (m_w v8) ∧ (m_w v8) < m_l h2 (m_g h2 v0 8) then some (m_p h2 (m_g h2 v0 8) (m_w v8) 0) >>= fun h5 => (t11_plays_c144 v0 v1 v2 v4 v5 v6 v7 v8 0 h5) else none else none else none)
def t11_plays (v0 v1 v2 v3 v4 v5 v6 : Int) (h : m_H) : Option (Int × m_H) :=
  (if m_t h v0 = 11 then t11_isPlain v0 v1 h >>= fun ⟨r3, h2⟩ => (if r3 = true then
  (if m_t h2 v0 = 11 then t11_isMachine v0 v2 h2 >>= fun ⟨r7, h6⟩ => (if r7 = true then
    (if m_t h6 v0 = 11 then if m_t h6 (m_g h6 v0 8) = 20 ∧ 0 ≤ (m_w v1) ∧ (m_w v1) < m_l h6 (m_g h6 v0 8) then (if (m_w (m_g h6 (m_g h6 v0 8) (m_w v1))) < 1000 then
      (if m_t h6 (m_g h6 v0 3) = 20 ∧ 0 ≤ (m_w v1) ∧ (m_w v1) < m_l h6 (m_g h6 v0 3) then t11_longAt (m_g h6 (m_g h6 v0 3) (m_w v1)) v4 v5 h6 >>= fun ⟨r14, h13⟩ => (if 300 < (m_w r14) then
        some ((-1), h13)
      else
        (if m_t h13 v0 = 11 then t11_isRoom v0 1 r14 h13 >>= fun ⟨r18, h17⟩ => (if r18 = true then
          (if m_t h17 v0 = 11 then t11_comes v0 v3 v1 (-1) 0 h17 >>= fun ⟨r22, h21⟩ => if m_t h21 v0 = 11 then if m_t h21 (m_g h21 v0 6) = 20 ∧ 0 ≤ (m_w r22) ∧ (m_w r22) < m_l h21 (m_g h21 v0 6) then some (m_p h21 (m_g h21 v0 6) (m_w r22) ((m_g h21 (m_g h21 v0 6) (m_w r22)) + 1)) >>= fun h25 => if m_t h25 v0 = 11 then if m_t h25 (m_g h25 v0 7) = 20 ∧ 0 ≤ (m_w r22) ∧ (m_w r22) < m_l h25 (m_g h25 v0 7) then if m_t h25 (m_g h25 v0 21) = 20 ∧ 0 ≤ (m_w v2) ∧ (m_w v2) < m_l h25 (m_g h25 v0 21) then (if 1000 < (m_w ((m_g h25 (m_g h25 v0 7) (m_w r22)) + (m_g h25 (m_g h25 v0 21) (m_w v2)))) then
            (t11_plays_c132 v0 v1 v2 v4 v5 v6 r14 r22 (m_g h25 v0 7) r22 1000 h25)
          else
            (t11_plays_c132 v0 v1 v2 v4 v5 v6 r14 r22 (m_g h25 v0 7) r22 ((m_g h25 (m_g h25 v0 7) (m_w r22)) + (m_g h25 (m_g h25 v0 21) (m_w v2))) h25)) else none else none else none else none else none else none)
        else
          some ((-1), h17)) else none)) else none)
    else
      some ((-1), h6)) else none else none)
  else
    some ((-1), h6)) else none)
else
  some ((-1), h2)) else none)
def t11_copy (v0 v1 v2 : Int) (h : m_H) : Option (Int × m_H) :=
  (if m_t h v0 = 11 then t11_isMachine v0 v2 h >>= fun ⟨r3, h2⟩ => (if r3 = true then
  (if m_t h2 v0 = 11 then if m_t h2 (m_g h2 v0 19) = 20 ∧ 0 ≤ (m_w v2) ∧ (m_w v2) < m_l h2 (m_g h2 v0 19) then if m_t h2 (m_g h2 v0 20) = 20 ∧ 0 ≤ (m_w v2) ∧ (m_w v2) < m_l h2 (m_g h2 v0 20) then t11_plays v0 v1 v2 5 (1000 + (m_g h2 (m_g h2 v0 19) (m_w v2))) 1000 (m_g h2 (m_g h2 v0 20) (m_w v2)) h2 >>= fun ⟨r9, h8⟩ => some (r9, h8) else none else none else none)
else
  some ((-1), h2)) else none)
def t11_speed (v0 v1 v2 v3 v4 : Int) (h : m_H) : Option (Int × m_H) :=
  (t11_in (m_w v3) 1 8 h >>= fun ⟨r2, h1⟩ => (if r2 = true then
  (t11_in (m_w v4) 1 8 h1 >>= fun ⟨r5, h4⟩ => (if r5 = true then
    (if m_t h4 v0 = 11 then t11_plays v0 v1 v2 6 v3 v4 64 h4 >>= fun ⟨r9, h8⟩ => some (r9, h8) else none)
  else
    some ((-1), h4)))
else
  some ((-1), h1)))
def t11_lose (v0 v1 : Int) (h : m_H) : Option (Bool × m_H) :=
  (if m_t h v0 = 11 then t11_isThere v0 v1 h >>= fun ⟨r3, h2⟩ => (if r3 = true then
  (if m_t h2 v0 = 11 then t11_uses v0 v1 2 h2 >>= fun ⟨_, h6⟩ => some (true, h6) else none)
else
  some (false, h2)) else none)
def t11_hang_c62 (v0 v1 v2 : Int) (h : m_H) : Option (Bool × m_H) :=
  (if m_t h v0 = 11 then if m_t h (m_g h v0 9) = 20 ∧ 0 ≤ (m_w v1) ∧ (m_w v1) < m_l h (m_g h v0 9) then some (m_p h (m_g h v0 9) (m_w v1) v2) >>= fun h3 => some (true, h3) else none else none)
def t11_hang_c26 (v0 v1 v2 v3 : Int) (h : m_H) : Option (Bool × m_H) :=
  (if m_t h v0 = 11 then (if (m_w v3) < (m_w (m_g h v0 14)) then
  (if (m_w v2) = (-1) then
    (t11_hang_c62 v0 v1 v2 h)
  else
    (if (m_w v3) = (m_w v1) then
      (t11_hang_c26 v0 v1 v2 (v3 + 1) h)
    else
      (if m_t h (m_g h v0 9) = 20 ∧ 0 ≤ (m_w v3) ∧ (m_w v3) < m_l h (m_g h v0 9) then (if (m_w (m_g h (m_g h v0 9) (m_w v3))) = (m_w v2) then
        some (false, h)
      else
        (t11_hang_c26 v0 v1 v2 (v3 + 1) h)) else none)))
else
  (t11_hang_c62 v0 v1 v2 h)) else none)
partial_fixpoint
def t11_hang (v0 v1 v2 : Int) (h : m_H) : Option (Bool × m_H) :=
  (if m_t h v0 = 11 then t11_isThere v0 v1 h >>= fun ⟨r3, h2⟩ => (if r3 = true then
  (t11_in (m_w v2) (-1) 29 h2 >>= fun ⟨r6, h5⟩ => (if r6 = true then
    (t11_hang_c26 v0 v1 v2 0 h5)
  else
    some (false, h5)))
else
  some (false, h2)) else none)
def t11_nail_c2 (v0 v1 v2 : Int) (h : m_H) : Option (Int × m_H) :=
  (if m_t h v0 = 11 then (if (m_w v2) < (m_w (m_g h v0 14)) then
  (t11_in (m_w v1) 0 29 h >>= fun ⟨r4, h3⟩ => (if r4 = true then
    (if m_t h3 v0 = 11 then if m_t h3 (m_g h3 v0 9) = 20 ∧ 0 ≤ (m_w v2) ∧ (m_w v2) < m_l h3 (m_g h3 v0 9) then (if (m_w (m_g h3 (m_g h3 v0 9) (m_w v2))) = (m_w v1) then
      some (v2, h3)
    else
      (t11_nail_c2 v0 v1 (v2 + 1) h3)) else none else none)
  else
    some ((-1), h3)))
else
  some ((-1), h)) else none)
partial_fixpoint
def t11_nail (v0 v1 : Int) (h : m_H) : Option (Int × m_H) :=
  (t11_nail_c2 v0 v1 0 h)
def t11_read (v0 v1 v2 : Int) (h : m_H) : Option (Bool × m_H) :=
  (if m_t h v0 = 11 then t11_isStrip v0 v1 h >>= fun ⟨r3, h2⟩ => (if r3 = true then
  (t11_in (m_w v2) 0 999 h2 >>= fun ⟨r6, h5⟩ => (if r6 = true then
    (if m_t h5 v0 = 11 then (if (m_w (m_g h5 v0 27)) = 100 then
      some (false, h5)
    else
      (if m_t h5 (m_g h5 v0 24) = 20 ∧ 0 ≤ (m_w (m_g h5 v0 27)) ∧ (m_w (m_g h5 v0 27)) < m_l h5 (m_g h5 v0 24) then some (m_p h5 (m_g h5 v0 24) (m_w (m_g h5 v0 27)) v1) >>= fun h11 => if m_t h11 v0 = 11 then if m_t h11 (m_g h11 v0 25) = 20 ∧ 0 ≤ (m_w (m_g h11 v0 27)) ∧ (m_w (m_g h11 v0 27)) < m_l h11 (m_g h11 v0 25) then some (m_p h11 (m_g h11 v0 25) (m_w (m_g h11 v0 27)) v2) >>= fun h14 => if m_t h14 v0 = 11 then if m_t h14 (m_g h14 v0 26) = 20 ∧ 0 ≤ (m_w (m_g h14 v0 27)) ∧ (m_w (m_g h14 v0 27)) < m_l h14 (m_g h14 v0 26) then some (m_p h14 (m_g h14 v0 26) (m_w (m_g h14 v0 27)) (m_g h14 v0 18)) >>= fun h17 => if m_t h17 v0 = 11 then some (m_p h17 v0 27 ((m_g h17 v0 27) + 1)) >>= fun h19 => some (true, h19) else none else none else none else none else none else none)) else none)
  else
    some (false, h5)))
else
  some (false, h2)) else none)
def t11_markOf_c5 (v0 v1 v2 v3 v4 : Int) (h : m_H) : Option (Int × m_H) :=
  (if m_t h v0 = 11 then (if (m_w v4) < (m_w (m_g h v0 27)) then
  (if m_t h (m_g h v0 24) = 20 ∧ 0 ≤ (m_w v4) ∧ (m_w v4) < m_l h (m_g h v0 24) then (if (m_w (m_g h (m_g h v0 24) (m_w v4))) = (m_w v1) then
    (if m_t h (m_g h v0 26) = 20 ∧ 0 ≤ (m_w v4) ∧ (m_w v4) < m_l h (m_g h v0 26) then (if (m_w v2) < (m_w (m_g h (m_g h v0 26) (m_w v4))) then
      (t11_markOf_c5 v0 v1 v2 v3 (v4 + 1) h)
    else
      (if m_t h (m_g h v0 25) = 20 ∧ 0 ≤ (m_w v4) ∧ (m_w v4) < m_l h (m_g h v0 25) then some (m_g h (m_g h v0 25) (m_w v4)) >>= fun x8 => (t11_markOf_c5 v0 v1 v2 x8 (v4 + 1) h) else none)) else none)
  else
    (t11_markOf_c5 v0 v1 v2 v3 (v4 + 1) h)) else none)
else
  some (v3, h)) else none)
partial_fixpoint
def t11_markOf (v0 v1 v2 : Int) (h : m_H) : Option (Int × m_H) :=
  (t11_markOf_c5 v0 v1 v2 (-1) 0 h)
def t11_marked (v0 v1 v2 : Int) (h : m_H) : Option (Int × m_H) :=
  (if m_t h v0 = 11 then t11_isStrip v0 v1 h >>= fun ⟨r3, h2⟩ => (if r3 = true then
  (t11_in (m_w v2) 0 400 h2 >>= fun ⟨r6, h5⟩ => (if r6 = true then
    (if m_t h5 v0 = 11 then t11_markOf v0 v1 v2 h5 >>= fun ⟨r10, h9⟩ => some (r10, h9) else none)
  else
    some ((-1), h5)))
else
  some ((-1), h2)) else none)
def t11_go (v0 v1 : Int) (h : m_H) : Option (Int × m_H) :=
  (t11_in (m_w v1) 0 100 h >>= fun ⟨r2, h1⟩ => (if r2 = true then
  (if m_t h1 v0 = 11 then (if 400 < (m_w ((m_g h1 v0 18) + v1)) then
    (some (m_p h1 v0 18 400) >>= fun h6 => if m_t h6 v0 = 11 then some ((m_g h6 v0 18), h6) else none)
  else
    (some (m_p h1 v0 18 ((m_g h1 v0 18) + v1)) >>= fun h8 => if m_t h8 v0 = 11 then some ((m_g h8 v0 18), h8) else none)) else none)
else
  some ((-1), h1)))
def t11_sample (v0 v1 v2 : Int) (h : m_H) : Option (Int × m_H) :=
  (if m_t h v0 = 11 then t11_isStrip v0 v1 h >>= fun ⟨r3, h2⟩ => (if r3 = true then
  (if m_t h2 v0 = 11 then if m_t h2 (m_g h2 v0 3) = 20 ∧ 0 ≤ (m_w v1) ∧ (m_w v1) < m_l h2 (m_g h2 v0 3) then t11_in (m_w v2) 0 (m_w ((m_g h2 (m_g h2 v0 3) (m_w v1)) - 1)) h2 >>= fun ⟨r8, h7⟩ => (if r8 = true then
    (if m_t h7 v0 = 11 then t11_at v0 v1 v2 h7 >>= fun ⟨r12, h11⟩ => some (r12, h11) else none)
  else
    some ((-2147483648), h7)) else none else none)
else
  some ((-2147483648), h2)) else none)
def t11_told (v0 v1 v2 : Int) (h : m_H) : Option (Int × m_H) :=
  (if m_t h v0 = 11 then t11_isStrip v0 v1 h >>= fun ⟨r3, h2⟩ => (if r3 = true then
  (if (m_w v2) = 0 then
    (if m_t h2 v0 = 11 then if m_t h2 (m_g h2 v0 4) = 20 ∧ 0 ≤ (m_w v1) ∧ (m_w v1) < m_l h2 (m_g h2 v0 4) then some ((m_g h2 (m_g h2 v0 4) (m_w v1)), h2) else none else none)
  else (if (m_w v2) = 1 then
    (if m_t h2 v0 = 11 then if m_t h2 (m_g h2 v0 5) = 20 ∧ 0 ≤ (m_w v1) ∧ (m_w v1) < m_l h2 (m_g h2 v0 5) then some ((m_g h2 (m_g h2 v0 5) (m_w v1)), h2) else none else none)
  else (if (m_w v2) = 2 then
    (if m_t h2 v0 = 11 then if m_t h2 (m_g h2 v0 3) = 20 ∧ 0 ≤ (m_w v1) ∧ (m_w v1) < m_l h2 (m_g h2 v0 3) then some ((m_g h2 (m_g h2 v0 3) (m_w v1)), h2) else none else none)
  else (if (m_w v2) = 3 then
    (if m_t h2 v0 = 11 then if m_t h2 (m_g h2 v0 6) = 20 ∧ 0 ≤ (m_w v1) ∧ (m_w v1) < m_l h2 (m_g h2 v0 6) then some ((m_g h2 (m_g h2 v0 6) (m_w v1)), h2) else none else none)
  else (if (m_w v2) = 4 then
    (if m_t h2 v0 = 11 then if m_t h2 (m_g h2 v0 7) = 20 ∧ 0 ≤ (m_w v1) ∧ (m_w v1) < m_l h2 (m_g h2 v0 7) then some ((m_g h2 (m_g h2 v0 7) (m_w v1)), h2) else none else none)
  else (if (m_w v2) = 5 then
    (if m_t h2 v0 = 11 then if m_t h2 (m_g h2 v0 8) = 20 ∧ 0 ≤ (m_w v1) ∧ (m_w v1) < m_l h2 (m_g h2 v0 8) then some ((m_g h2 (m_g h2 v0 8) (m_w v1)), h2) else none else none)
  else (if (m_w v2) = 6 then
    (if m_t h2 v0 = 11 then if m_t h2 (m_g h2 v0 9) = 20 ∧ 0 ≤ (m_w v1) ∧ (m_w v1) < m_l h2 (m_g h2 v0 9) then some ((m_g h2 (m_g h2 v0 9) (m_w v1)), h2) else none else none)
  else (if (m_w v2) = 7 then
    (if m_t h2 v0 = 11 then if m_t h2 (m_g h2 v0 10) = 20 ∧ 0 ≤ (m_w v1) ∧ (m_w v1) < m_l h2 (m_g h2 v0 10) then some ((m_g h2 (m_g h2 v0 10) (m_w v1)), h2) else none else none)
  else (if (m_w v2) = 8 then
    (if m_t h2 v0 = 11 then if m_t h2 (m_g h2 v0 11) = 20 ∧ 0 ≤ (m_w v1) ∧ (m_w v1) < m_l h2 (m_g h2 v0 11) then some ((m_g h2 (m_g h2 v0 11) (m_w v1)), h2) else none else none)
  else (if (m_w v2) = 9 then
    (if m_t h2 v0 = 11 then if m_t h2 (m_g h2 v0 12) = 20 ∧ 0 ≤ (m_w v1) ∧ (m_w v1) < m_l h2 (m_g h2 v0 12) then some ((m_g h2 (m_g h2 v0 12) (m_w v1)), h2) else none else none)
  else (if (m_w v2) = 10 then
    (if m_t h2 v0 = 11 then if m_t h2 (m_g h2 v0 13) = 20 ∧ 0 ≤ (m_w v1) ∧ (m_w v1) < m_l h2 (m_g h2 v0 13) then some ((m_g h2 (m_g h2 v0 13) (m_w v1)), h2) else none else none)
  else some ((-1), h2))))))))))))
else
  some ((-1), h2)) else none)
def t11_feeds_c2 (v0 v1 v2 : Int) (h : m_H) : Option (Unit × m_H) :=
  (if (m_w v2) < 0 then
  some ((), h)
else
  (if m_t h v0 = 11 then if m_t h (m_g h v0 29) = 22 ∧ 0 ≤ (m_w (m_g h v0 30)) ∧ (m_w (m_g h v0 30)) < m_l h (m_g h v0 29) then some (m_p h (m_g h v0 29) (m_w (m_g h v0 30)) (m_i2b (m_i2b (m_ushr v1 (8 * v2))))) >>= fun h4 => if m_t h4 v0 = 11 then some (m_p h4 v0 30 ((m_g h4 v0 30) + 1)) >>= fun h6 => (t11_feeds_c2 v0 v1 (v2 + (-1)) h6) else none else none else none))
partial_fixpoint
def t11_feeds (v0 v1 : Int) (h : m_H) : Option (Unit × m_H) :=
  (t11_feeds_c2 v0 v1 3 h)
def t11_feed (v0 v1 v2 v3 v4 v5 : Int) (h : m_H) : Option (Int × m_H) :=
  (if m_t h v0 = 11 then (if 1200 < (m_w ((m_g h v0 30) + 20)) then
  some ((-1), h)
else
  (t11_feeds v0 v1 h >>= fun ⟨_, h3⟩ => if m_t h3 v0 = 11 then t11_feeds v0 v2 h3 >>= fun ⟨_, h6⟩ => if m_t h6 v0 = 11 then t11_feeds v0 v3 h6 >>= fun ⟨_, h9⟩ => if m_t h9 v0 = 11 then t11_feeds v0 v4 h9 >>= fun ⟨_, h12⟩ => if m_t h12 v0 = 11 then t11_feeds v0 v5 h12 >>= fun ⟨_, h15⟩ => if m_t h15 v0 = 11 then some ((m_g h15 v0 30), h15) else none else none else none else none else none)) else none)
def t11_end (v0 v1 : Int) (h : m_H) : Option (Bool × m_H) :=
  (if m_t h v0 = 11 then t11_in (m_w v1) 0 (m_w (m_g h v0 30)) h >>= fun ⟨r3, h2⟩ => (if r3 = true then
  (if m_t h2 v0 = 11 then some (m_p h2 v0 30 v1) >>= fun h6 => some (true, h6) else none)
else
  some (false, h2)) else none)
def t11_isLetter (v0 : Int) (h : m_H) : Option (Bool × m_H) :=
  (if (m_w v0) < 97 then
  some (false, h)
else
  (if 122 < (m_w v0) then
    some (false, h)
  else
    some (true, h)))
def t11_isDigit (v0 : Int) (h : m_H) : Option (Bool × m_H) :=
  (if (m_w v0) < 48 then
  some (false, h)
else
  (if 57 < (m_w v0) then
    some (false, h)
  else
    some (true, h)))
def t11_skips_c60 (v0 : Int) (h : m_H) : Option (Unit × m_H) :=
  (if m_t h v0 = 11 then (if (m_w (m_g h v0 32)) < (m_w (m_g h v0 30)) then
  (if m_t h (m_g h v0 29) = 22 ∧ 0 ≤ (m_w (m_g h v0 32)) ∧ (m_w (m_g h v0 32)) < m_l h (m_g h v0 29) then t11_isLetter (m_g h (m_g h v0 29) (m_w (m_g h v0 32))) h >>= fun ⟨r5, h4⟩ => (if r5 = true then
    (if m_t h4 v0 = 11 then some (m_p h4 v0 32 ((m_g h4 v0 32) + 1)) >>= fun h8 => (t11_skips_c60 v0 h8) else none)
  else
    some ((), h4)) else none)
else
  some ((), h)) else none)
partial_fixpoint
def t11_skips_c52 (v0 : Int) (h : m_H) : Option (Unit × m_H) :=
  (if m_t h v0 = 11 then some (m_p h v0 32 (m_g h v0 31)) >>= fun h2 => (t11_skips_c60 v0 h2) else none)
def t11_skips_x0 (cc : Int) (v0 : Int) (h : m_H) : Option (Unit × m_H) :=
  if cc = 0 then
  (if m_t h v0 = 11 then (if (m_w (m_g h v0 31)) < (m_w (m_g h v0 30)) then
    (if m_t h (m_g h v0 29) = 22 ∧ 0 ≤ (m_w (m_g h v0 31)) ∧ (m_w (m_g h v0 31)) < m_l h (m_g h v0 29) then (if (m_w (m_g h (m_g h v0 29) (m_w (m_g h v0 31)))) = 32 then
      (t11_skips_x0 39 v0 h)
    else
      (if (m_w (m_g h (m_g h v0 29) (m_w (m_g h v0 31)))) = 10 then
        (t11_skips_x0 39 v0 h)
      else
        (t11_skips_c52 v0 h))) else none)
  else
    (t11_skips_c52 v0 h)) else none)
  else if cc = 39 then
  (if m_t h v0 = 11 then some (m_p h v0 31 ((m_g h v0 31) + 1)) >>= fun h2 => (t11_skips_x0 0 v0 h2) else none)
  else none
partial_fixpoint
def t11_skips (v0 : Int) (h : m_H) : Option (Unit × m_H) := t11_skips_x0 0 v0 h
def t11_fails (v0 : Int) (h : m_H) : Option (Unit × m_H) :=
  (if m_t h v0 = 11 then (if (m_w (m_g h v0 33)) = (-1) then
  (some (m_p h v0 33 (m_g h v0 31)) >>= fun h3 => some ((), h3))
else
  some ((), h)) else none)
def t11_isWord_c20 (v0 v1 v2 : Int) (h : m_H) : Option (Bool × m_H) :=
  (if -26 ≤ v1 ∧ v1 ≤ -2 then (if (m_w v2) < (m_w (m_sl v1)) then
  (if m_t h v0 = 11 then if m_t h (m_g h v0 29) = 22 ∧ 0 ≤ (m_w ((m_g h v0 31) + v2)) ∧ (m_w ((m_g h v0 31) + v2)) < m_l h (m_g h v0 29) then if (-26 ≤ v1 ∧ v1 ≤ -2) ∧ 0 ≤ (m_w v2) ∧ (m_w v2) < m_sl v1 then (if (m_w (m_g h (m_g h v0 29) (m_w ((m_g h v0 31) + v2)))) = (m_w (m_sc v1 (m_w v2))) then
    (t11_isWord_c20 v0 v1 (v2 + 1) h)
  else
    some (false, h)) else none else none else none)
else
  some (true, h)) else none)
partial_fixpoint
def t11_isWord (v0 v1 : Int) (h : m_H) : Option (Bool × m_H) :=
  (if m_t h v0 = 11 then if -26 ≤ v1 ∧ v1 ≤ -2 then (if (m_w ((m_g h v0 32) - (m_g h v0 31))) = (m_w (m_sl v1)) then
  (t11_isWord_c20 v0 v1 0 h)
else
  some (false, h)) else none else none)
def t11_goesOn (v0 : Int) (h : m_H) : Option (Unit × m_H) :=
  (if m_t h v0 = 11 then some (m_p h v0 31 (m_g h v0 32)) >>= fun h2 => if m_t h2 v0 = 11 then t11_skips v0 h2 >>= fun ⟨_, h4⟩ => some ((), h4) else none else none)
def t11_word (v0 v1 : Int) (h : m_H) : Option (Unit × m_H) :=
  (if m_t h v0 = 11 then (if (m_w (m_g h v0 33)) = (-1) then
  (t11_isWord v0 v1 h >>= fun ⟨r4, h3⟩ => (if r4 = true then
    (if m_t h3 v0 = 11 then t11_goesOn v0 h3 >>= fun ⟨_, h7⟩ => some ((), h7) else none)
  else
    (if m_t h3 v0 = 11 then t11_fails v0 h3 >>= fun ⟨_, h10⟩ => some ((), h10) else none)))
else
  some ((), h)) else none)
def t11_sign (v0 v1 : Int) (h : m_H) : Option (Unit × m_H) :=
  (if m_t h v0 = 11 then (if (m_w (m_g h v0 33)) = (-1) then
  (if (m_w (m_g h v0 31)) = (m_w (m_g h v0 30)) then
    (t11_fails v0 h >>= fun ⟨_, h4⟩ => some ((), h4))
  else
    (if m_t h (m_g h v0 29) = 22 ∧ 0 ≤ (m_w (m_g h v0 31)) ∧ (m_w (m_g h v0 31)) < m_l h (m_g h v0 29) then (if (m_w (m_g h (m_g h v0 29) (m_w (m_g h v0 31)))) = (m_w v1) then
      (some (m_p h v0 32 ((m_g h v0 31) + 1)) >>= fun h8 => if m_t h8 v0 = 11 then t11_goesOn v0 h8 >>= fun ⟨_, h10⟩ => some ((), h10) else none)
    else
      (t11_fails v0 h >>= fun ⟨_, h12⟩ => some ((), h12))) else none))
else
  some ((), h)) else none)
def t11_isSign (v0 v1 : Int) (h : m_H) : Option (Bool × m_H) :=
  (if m_t h v0 = 11 then (if (m_w (m_g h v0 31)) < (m_w (m_g h v0 30)) then
  (if m_t h (m_g h v0 29) = 22 ∧ 0 ≤ (m_w (m_g h v0 31)) ∧ (m_w (m_g h v0 31)) < m_l h (m_g h v0 29) then (if (m_w (m_g h (m_g h v0 29) (m_w (m_g h v0 31)))) = (m_w v1) then
    some (true, h)
  else
    some (false, h)) else none)
else
  some (false, h)) else none)
def t11_number_c75 (v0 v1 v2 v3 v4 : Int) (h : m_H) : Option (Int × m_H) :=
  (if m_t h v0 = 11 then (if (m_w v3) = (m_w (m_g h v0 31)) then
  (t11_fails v0 h >>= fun ⟨_, h3⟩ => some (0, h3))
else
  (t11_in (m_w v4) (m_w v1) (m_w v2) h >>= fun ⟨r6, h5⟩ => (if r6 = true then
    (if m_t h5 v0 = 11 then some (m_p h5 v0 32 v3) >>= fun h9 => if m_t h9 v0 = 11 then t11_goesOn v0 h9 >>= fun ⟨_, h11⟩ => some (v4, h11) else none else none)
  else
    (if m_t h5 v0 = 11 then t11_fails v0 h5 >>= fun ⟨_, h14⟩ => some (0, h14) else none)))) else none)
def t11_number_c18 (v0 v1 v2 v3 v4 : Int) (h : m_H) : Option (Int × m_H) :=
  (if m_t h v0 = 11 then (if (m_w v3) < (m_w (m_g h v0 30)) then
  (if m_t h (m_g h v0 29) = 22 ∧ 0 ≤ (m_w v3) ∧ (m_w v3) < m_l h (m_g h v0 29) then t11_isDigit (m_g h (m_g h v0 29) (m_w v3)) h >>= fun ⟨r5, h4⟩ => (if r5 = true then
    (if 99999 < (m_w v4) then
      (t11_number_c18 v0 v1 v2 (v3 + 1) 999999 h4)
    else
      (if m_t h4 v0 = 11 then if m_t h4 (m_g h4 v0 29) = 22 ∧ 0 ≤ (m_w v3) ∧ (m_w v3) < m_l h4 (m_g h4 v0 29) then some (((10 * v4) + (m_g h4 (m_g h4 v0 29) (m_w v3))) - 48) >>= fun x10 => (t11_number_c18 v0 v1 v2 (v3 + 1) x10 h4) else none else none))
  else
    (t11_number_c75 v0 v1 v2 v3 v4 h4)) else none)
else
  (t11_number_c75 v0 v1 v2 v3 v4 h)) else none)
partial_fixpoint
def t11_number (v0 v1 v2 : Int) (h : m_H) : Option (Int × m_H) :=
  (if m_t h v0 = 11 then (if (m_w (m_g h v0 33)) = (-1) then
  (some (m_g h v0 31) >>= fun x3 => (t11_number_c18 v0 v1 v2 x3 0 h))
else
  some (0, h)) else none)
def t11_isBarred_c34 (v0 v1 : Int) (h : m_H) : Option (Bool × m_H) :=
  (if m_t h v0 = 11 then if 20 ≤ m_t h (m_g h v0 49) then (if (m_w v1) < (m_w (m_l h (m_g h v0 49))) then
  (if m_t h (m_g h v0 49) = 28 ∧ 0 ≤ (m_w v1) ∧ (m_w v1) < m_l h (m_g h v0 49) then t11_isWord v0 (m_g h (m_g h v0 49) (m_w v1)) h >>= fun ⟨r6, h5⟩ => (if r6 = true then
    some (true, h5)
  else
    (t11_isBarred_c34 v0 (v1 + 1) h5)) else none)
else
  some (false, h)) else none else none)
partial_fixpoint
def t11_isBarred_c2 (v0 v1 : Int) (h : m_H) : Option (Bool × m_H) :=
  (if m_t h v0 = 11 then if 20 ≤ m_t h (m_g h v0 48) then (if (m_w v1) < (m_w (m_l h (m_g h v0 48))) then
  (if m_t h (m_g h v0 48) = 28 ∧ 0 ≤ (m_w v1) ∧ (m_w v1) < m_l h (m_g h v0 48) then t11_isWord v0 (m_g h (m_g h v0 48) (m_w v1)) h >>= fun ⟨r6, h5⟩ => (if r6 = true then
    some (true, h5)
  else
    (t11_isBarred_c2 v0 (v1 + 1) h5)) else none)
else
  (t11_isBarred_c34 v0 0 h)) else none else none)
partial_fixpoint
def t11_isBarred (v0 : Int) (h : m_H) : Option (Bool × m_H) :=
  (t11_isBarred_c2 v0 0 h)
def t11_wordKnown_x2 (cc : Int) (v0 v1 v2 v3 : Int) (h : m_H) : Option (Int × m_H) :=
  if cc = 2 then
  (if m_t h v0 = 11 then (if (m_w v1) < (m_w (m_g h v0 47)) then
    (if m_t h (m_g h v0 45) = 20 ∧ 0 ≤ (m_w v1) ∧ (m_w v1) < m_l h (m_g h v0 45) then (if (m_w (m_g h (m_g h v0 45) (m_w v1))) = (m_w ((m_g h v0 32) - (m_g h v0 31))) then
      (t11_wordKnown_x2 36 v0 v1 1 0 h)
    else
      (t11_wordKnown_x2 36 v0 v1 0 0 h)) else none)
  else
    some ((-1), h)) else none)
  else if cc = 36 then
  (if m_t h v0 = 11 then if m_t h (m_g h v0 45) = 20 ∧ 0 ≤ (m_w v1) ∧ (m_w v1) < m_l h (m_g h v0 45) then (if (m_w v3) < (m_w (m_g h (m_g h v0 45) (m_w v1))) then
    (if (m_w v2) = 0 then
      (t11_wordKnown_x2 89 v0 v1 v2 0 h)
    else
      (if m_t h (m_g h v0 44) = 20 ∧ 0 ≤ (m_w v1) ∧ (m_w v1) < m_l h (m_g h v0 44) then if m_t h (m_g h v0 29) = 22 ∧ 0 ≤ (m_w ((m_g h (m_g h v0 44) (m_w v1)) + v3)) ∧ (m_w ((m_g h (m_g h v0 44) (m_w v1)) + v3)) < m_l h (m_g h v0 29) then if m_t h (m_g h v0 29) = 22 ∧ 0 ≤ (m_w ((m_g h v0 31) + v3)) ∧ (m_w ((m_g h v0 31) + v3)) < m_l h (m_g h v0 29) then (if (m_w (m_g h (m_g h v0 29) (m_w ((m_g h (m_g h v0 44) (m_w v1)) + v3)))) = (m_w (m_g h (m_g h v0 29) (m_w ((m_g h v0 31) + v3)))) then
        (t11_wordKnown_x2 36 v0 v1 1 (v3 + 1) h)
      else
        (t11_wordKnown_x2 36 v0 v1 0 (v3 + 1) h)) else none else none else none))
  else
    (t11_wordKnown_x2 89 v0 v1 v2 0 h)) else none else none)
  else if cc = 89 then
  (if (m_w v2) = 0 then
    (t11_wordKnown_x2 2 v0 (v1 + 1) 0 0 h)
  else
    (if m_t h v0 = 11 then if m_t h (m_g h v0 46) = 20 ∧ 0 ≤ (m_w v1) ∧ (m_w v1) < m_l h (m_g h v0 46) then some ((m_g h (m_g h v0 46) (m_w v1)), h) else none else none))
  else none
partial_fixpoint
def t11_wordKnown (v0 : Int) (h : m_H) : Option (Int × m_H) :=
  (t11_wordKnown_x2 2 v0 0 0 0 h)
def t11_made (v0 : Int) (h : m_H) : Option (Int × m_H) :=
  (if m_t h v0 = 11 then (if (m_w (m_g h v0 33)) = (-1) then
  (t11_wordKnown v0 h >>= fun ⟨r4, h3⟩ => if m_t h3 v0 = 11 then (if (m_w (m_g h3 v0 32)) = (m_w (m_g h3 v0 31)) then
    (t11_fails v0 h3 >>= fun ⟨_, h7⟩ => some (0, h7))
  else
    (if (m_w r4) = (-1) then
      (t11_fails v0 h3 >>= fun ⟨_, h10⟩ => some (0, h10))
    else
      (t11_goesOn v0 h3 >>= fun ⟨_, h12⟩ => some (r4, h12)))) else none)
else
  some (0, h)) else none)
def t11_verbAt_c2 (v0 v1 : Int) (h : m_H) : Option (Int × m_H) :=
  (if m_t h v0 = 11 then if 20 ≤ m_t h (m_g h v0 48) then (if (m_w v1) < (m_w (m_l h (m_g h v0 48))) then
  (if m_t h (m_g h v0 48) = 28 ∧ 0 ≤ (m_w v1) ∧ (m_w v1) < m_l h (m_g h v0 48) then t11_isWord v0 (m_g h (m_g h v0 48) (m_w v1)) h >>= fun ⟨r6, h5⟩ => (if r6 = true then
    some (v1, h5)
  else
    (t11_verbAt_c2 v0 (v1 + 1) h5)) else none)
else
  some ((-1), h)) else none else none)
partial_fixpoint
def t11_verbAt (v0 : Int) (h : m_H) : Option (Int × m_H) :=
  (t11_verbAt_c2 v0 0 h)
def t11_puts_c16 (v0 v1 v2 : Int) (h : m_H) : Option (Unit × m_H) :=
  (if m_t h v0 = 11 then t11_word v0 (-24) h >>= fun ⟨_, h2⟩ => if m_t h2 v0 = 11 then if m_t h2 (m_g h2 v0 34) = 20 ∧ (0 : Int) ≤ 8 ∧ 8 < m_l h2 (m_g h2 v0 34) then some (m_g h2 (m_g h2 v0 34) 8) >>= fun x6 => t11_made v0 h2 >>= fun ⟨r8, h7⟩ => if m_t h7 v0 = 11 then t11_word v0 (-25) h7 >>= fun ⟨_, h10⟩ => if m_t h10 v0 = 11 then t11_number v0 0 1500 h10 >>= fun ⟨r14, h13⟩ => if m_t h13 v0 = 11 then t11_word v0 (-21) h13 >>= fun ⟨_, h16⟩ => if m_t h16 v0 = 11 then t11_number v0 0 15 h16 >>= fun ⟨r20, h19⟩ => if m_t h19 v0 = 11 then (if (m_w (m_g h19 v0 33)) = (-1) then
  (if m_t h19 (m_g h19 v0 35) = 29 ∧ (0 : Int) ≤ 8 ∧ 8 < m_l h19 (m_g h19 v0 35) then if m_t h19 (m_g h19 (m_g h19 v0 35) 8) = 20 ∧ 0 ≤ (m_w x6) ∧ (m_w x6) < m_l h19 (m_g h19 (m_g h19 v0 35) 8) then some (m_p h19 (m_g h19 (m_g h19 v0 35) 8) (m_w x6) 12) >>= fun h25 => if m_t h25 v0 = 11 then if m_t h25 (m_g h25 v0 36) = 29 ∧ (0 : Int) ≤ 8 ∧ 8 < m_l h25 (m_g h25 v0 36) then if m_t h25 (m_g h25 (m_g h25 v0 36) 8) = 20 ∧ 0 ≤ (m_w x6) ∧ (m_w x6) < m_l h25 (m_g h25 (m_g h25 v0 36) 8) then some (m_p h25 (m_g h25 (m_g h25 v0 36) 8) (m_w x6) r8) >>= fun h29 => if m_t h29 v0 = 11 then if m_t h29 (m_g h29 v0 37) = 29 ∧ (0 : Int) ≤ 8 ∧ 8 < m_l h29 (m_g h29 v0 37) then if m_t h29 (m_g h29 (m_g h29 v0 37) 8) = 20 ∧ 0 ≤ (m_w x6) ∧ (m_w x6) < m_l h29 (m_g h29 (m_g h29 v0 37) 8) then some (m_p h29 (m_g h29 (m_g h29 v0 37) 8) (m_w x6) (-1)) >>= fun h33 => if m_t h33 v0 = 11 then if m_t h33 (m_g h33 v0 38) = 29 ∧ (0 : Int) ≤ 8 ∧ 8 < m_l h33 (m_g h33 v0 38) then if m_t h33 (m_g h33 (m_g h33 v0 38) 8) = 20 ∧ 0 ≤ (m_w x6) ∧ (m_w x6) < m_l h33 (m_g h33 (m_g h33 v0 38) 8) then some (m_p h33 (m_g h33 (m_g h33 v0 38) 8) (m_w x6) r14) >>= fun h37 => if m_t h37 v0 = 11 then if m_t h37 (m_g h37 v0 39) = 29 ∧ (0 : Int) ≤ 8 ∧ 8 < m_l h37 (m_g h37 v0 39) then if m_t h37 (m_g h37 (m_g h37 v0 39) 8) = 20 ∧ 0 ≤ (m_w x6) ∧ (m_w x6) < m_l h37 (m_g h37 (m_g h37 v0 39) 8) then some (m_p h37 (m_g h37 (m_g h37 v0 39) 8) (m_w x6) r20) >>= fun h41 => if m_t h41 v0 = 11 then if m_t h41 (m_g h41 v0 41) = 29 ∧ (0 : Int) ≤ 8 ∧ 8 < m_l h41 (m_g h41 v0 41) then if m_t h41 (m_g h41 (m_g h41 v0 41) 8) = 20 ∧ 0 ≤ (m_w x6) ∧ (m_w x6) < m_l h41 (m_g h41 (m_g h41 v0 41) 8) then some (m_p h41 (m_g h41 (m_g h41 v0 41) 8) (m_w x6) v1) >>= fun h45 => if m_t h45 v0 = 11 then if m_t h45 (m_g h45 v0 42) = 29 ∧ (0 : Int) ≤ 8 ∧ 8 < m_l h45 (m_g h45 v0 42) then if m_t h45 (m_g h45 (m_g h45 v0 42) 8) = 20 ∧ 0 ≤ (m_w x6) ∧ (m_w x6) < m_l h45 (m_g h45 (m_g h45 v0 42) 8) then some (m_p h45 (m_g h45 (m_g h45 v0 42) 8) (m_w x6) v2) >>= fun h49 => if m_t h49 v0 = 11 then if m_t h49 (m_g h49 v0 34) = 20 ∧ (0 : Int) ≤ 8 ∧ 8 < m_l h49 (m_g h49 v0 34) then some (m_p h49 (m_g h49 v0 34) 8 ((m_g h49 (m_g h49 v0 34) 8) + 1)) >>= fun h52 => if m_t h52 v0 = 11 then t11_sign v0 59 h52 >>= fun ⟨_, h54⟩ => some ((), h54) else none else none else none else none else none else none else none else none else none else none else none else none else none else none else none else none else none else none else none else none else none else none else none)
else
  some ((), h19)) else none else none else none else none else none else none else none else none)
def t11_puts (v0 v1 v2 : Int) (h : m_H) : Option (Unit × m_H) :=
  (if m_t h v0 = 11 then if m_t h (m_g h v0 34) = 20 ∧ (0 : Int) ≤ 8 ∧ 8 < m_l h (m_g h v0 34) then (if (m_w (m_g h (m_g h v0 34) 8)) = 40 then
  (t11_fails v0 h >>= fun ⟨_, h4⟩ => (t11_puts_c16 v0 v1 v2 h4))
else
  (t11_puts_c16 v0 v1 v2 h)) else none else none)
def t11_again_c50 (v0 v1 v2 : Int) (h : m_H) : Option (Unit × m_H) :=
  (if m_t h v0 = 11 then (if (m_w (m_g h v0 33)) = (-1) then
  (t11_isSign v0 125 h >>= fun ⟨r4, h3⟩ => (if r4 = true then
    (if m_t h3 v0 = 11 then t11_sign v0 125 h3 >>= fun ⟨_, h7⟩ => some ((), h7) else none)
  else
    (if m_t h3 v0 = 11 then t11_puts v0 v1 v2 h3 >>= fun ⟨_, h10⟩ => (t11_again_c50 v0 v1 v2 h10) else none)))
else
  (t11_sign v0 125 h >>= fun ⟨_, h12⟩ => some ((), h12))) else none)
partial_fixpoint
def t11_again (v0 : Int) (h : m_H) : Option (Unit × m_H) :=
  (if m_t h v0 = 11 then t11_word v0 (-26) h >>= fun ⟨_, h2⟩ => if m_t h2 v0 = 11 then t11_number v0 1 9 h2 >>= fun ⟨r6, h5⟩ => if m_t h5 v0 = 11 then t11_word v0 (-20) h5 >>= fun ⟨_, h8⟩ => if m_t h8 v0 = 11 then t11_number v0 0 999 h8 >>= fun ⟨r12, h11⟩ => if m_t h11 v0 = 11 then t11_sign v0 123 h11 >>= fun ⟨_, h14⟩ => if m_t h14 v0 = 11 then (if (m_w (m_g h14 v0 33)) = (-1) then
  (t11_puts v0 r6 r12 h14 >>= fun ⟨_, h18⟩ => (t11_again_c50 v0 r6 r12 h18))
else
  some ((), h14)) else none else none else none else none else none else none)
set_option maxRecDepth 100000 in
def t11_numbers (v0 v1 v2 : Int) (h : m_H) : Option (Unit × m_H) :=
  (if (m_w v2) = 0 then
  (if m_t h v0 = 11 then if m_t h (m_g h v0 38) = 29 ∧ (0 : Int) ≤ 8 ∧ 8 < m_l h (m_g h v0 38) then t11_number v0 0 99 h >>= fun ⟨r5, h4⟩ => if m_t h4 (m_g h (m_g h v0 38) 8) = 20 ∧ 0 ≤ (m_w v1) ∧ (m_w v1) < m_l h4 (m_g h (m_g h v0 38) 8) then some (m_p h4 (m_g h (m_g h v0 38) 8) (m_w v1) r5) >>= fun h7 => some ((), h7) else none else none else none)
else (if (m_w v2) = 1 then
  (if m_t h v0 = 11 then if m_t h (m_g h v0 38) = 29 ∧ (0 : Int) ≤ 8 ∧ 8 < m_l h (m_g h v0 38) then t11_number v0 0 999 h >>= fun ⟨r12, h11⟩ => if m_t h11 (m_g h (m_g h v0 38) 8) = 20 ∧ 0 ≤ (m_w v1) ∧ (m_w v1) < m_l h11 (m_g h (m_g h v0 38) 8) then some (m_p h11 (m_g h (m_g h v0 38) 8) (m_w v1) r12) >>= fun h14 => some ((), h14) else none else none else none)
else (if (m_w v2) = 2 then
  (if m_t h v0 = 11 then t11_word v0 (-15) h >>= fun ⟨_, h17⟩ => if m_t h17 v0 = 11 then if m_t h17 (m_g h17 v0 38) = 29 ∧ (0 : Int) ≤ 8 ∧ 8 < m_l h17 (m_g h17 v0 38) then t11_number v0 0 1500 h17 >>= fun ⟨r22, h21⟩ => if m_t h21 (m_g h17 (m_g h17 v0 38) 8) = 20 ∧ 0 ≤ (m_w v1) ∧ (m_w v1) < m_l h21 (m_g h17 (m_g h17 v0 38) 8) then some (m_p h21 (m_g h17 (m_g h17 v0 38) 8) (m_w v1) r22) >>= fun h24 => if m_t h24 v0 = 11 then t11_word v0 (-16) h24 >>= fun ⟨_, h26⟩ => if m_t h26 v0 = 11 then if m_t h26 (m_g h26 v0 39) = 29 ∧ (0 : Int) ≤ 8 ∧ 8 < m_l h26 (m_g h26 v0 39) then t11_number v0 0 1500 h26 >>= fun ⟨r31, h30⟩ => if m_t h30 (m_g h26 (m_g h26 v0 39) 8) = 20 ∧ 0 ≤ (m_w v1) ∧ (m_w v1) < m_l h30 (m_g h26 (m_g h26 v0 39) 8) then some (m_p h30 (m_g h26 (m_g h26 v0 39) 8) (m_w v1) r31) >>= fun h33 => some ((), h33) else none else none else none else none else none else none else none else none)
else (if (m_w v2) = 3 then
  some ((), h)
else (if (m_w v2) = 4 then
  (if m_t h v0 = 11 then if m_t h (m_g h v0 38) = 29 ∧ (0 : Int) ≤ 8 ∧ 8 < m_l h (m_g h v0 38) then t11_number v0 1 8 h >>= fun ⟨r39, h38⟩ => if m_t h38 (m_g h (m_g h v0 38) 8) = 20 ∧ 0 ≤ (m_w v1) ∧ (m_w v1) < m_l h38 (m_g h (m_g h v0 38) 8) then some (m_p h38 (m_g h (m_g h v0 38) 8) (m_w v1) r39) >>= fun h41 => if m_t h41 v0 = 11 then t11_sign v0 47 h41 >>= fun ⟨_, h43⟩ => if m_t h43 v0 = 11 then if m_t h43 (m_g h43 v0 39) = 29 ∧ (0 : Int) ≤ 8 ∧ 8 < m_l h43 (m_g h43 v0 39) then t11_number v0 1 8 h43 >>= fun ⟨r48, h47⟩ => if m_t h47 (m_g h43 (m_g h43 v0 39) 8) = 20 ∧ 0 ≤ (m_w v1) ∧ (m_w v1) < m_l h47 (m_g h43 (m_g h43 v0 39) 8) then some (m_p h47 (m_g h43 (m_g h43 v0 39) 8) (m_w v1) r48) >>= fun h50 => some ((), h50) else none else none else none else none else none else none else none)
else (if (m_w v2) = 5 then
  (if m_t h v0 = 11 then t11_word v0 (-17) h >>= fun ⟨_, h53⟩ => if m_t h53 v0 = 11 then if m_t h53 (m_g h53 v0 38) = 29 ∧ (0 : Int) ≤ 8 ∧ 8 < m_l h53 (m_g h53 v0 38) then t11_number v0 0 40 h53 >>= fun ⟨r58, h57⟩ => if m_t h57 (m_g h53 (m_g h53 v0 38) 8) = 20 ∧ 0 ≤ (m_w v1) ∧ (m_w v1) < m_l h57 (m_g h53 (m_g h53 v0 38) 8) then some (m_p h57 (m_g h53 (m_g h53 v0 38) 8) (m_w v1) r58) >>= fun h60 => some ((), h60) else none else none else none else none)
else (if (m_w v2) = 6 then
  (if m_t h v0 = 11 then t11_word v0 (-18) h >>= fun ⟨_, h63⟩ => if m_t h63 v0 = 11 then if m_t h63 (m_g h63 v0 38) = 29 ∧ (0 : Int) ≤ 8 ∧ 8 < m_l h63 (m_g h63 v0 38) then t11_number v0 0 1500 h63 >>= fun ⟨r68, h67⟩ => if m_t h67 (m_g h63 (m_g h63 v0 38) 8) = 20 ∧ 0 ≤ (m_w v1) ∧ (m_w v1) < m_l h67 (m_g h63 (m_g h63 v0 38) 8) then some (m_p h67 (m_g h63 (m_g h63 v0 38) 8) (m_w v1) r68) >>= fun h70 => some ((), h70) else none else none else none else none)
else (if (m_w v2) = 7 then
  (if m_t h v0 = 11 then t11_word v0 (-19) h >>= fun ⟨_, h73⟩ => if m_t h73 v0 = 11 then if m_t h73 (m_g h73 v0 38) = 29 ∧ (0 : Int) ≤ 8 ∧ 8 < m_l h73 (m_g h73 v0 38) then t11_number v0 1 500 h73 >>= fun ⟨r78, h77⟩ => if m_t h77 (m_g h73 (m_g h73 v0 38) 8) = 20 ∧ 0 ≤ (m_w v1) ∧ (m_w v1) < m_l h77 (m_g h73 (m_g h73 v0 38) 8) then some (m_p h77 (m_g h73 (m_g h73 v0 38) 8) (m_w v1) r78) >>= fun h80 => if m_t h80 v0 = 11 then t11_word v0 (-20) h80 >>= fun ⟨_, h82⟩ => if m_t h82 v0 = 11 then if m_t h82 (m_g h82 v0 39) = 29 ∧ (0 : Int) ≤ 8 ∧ 8 < m_l h82 (m_g h82 v0 39) then t11_number v0 0 255 h82 >>= fun ⟨r87, h86⟩ => if m_t h86 (m_g h82 (m_g h82 v0 39) 8) = 20 ∧ 0 ≤ (m_w v1) ∧ (m_w v1) < m_l h86 (m_g h82 (m_g h82 v0 39) 8) then some (m_p h86 (m_g h82 (m_g h82 v0 39) 8) (m_w v1) r87) >>= fun h89 => some ((), h89) else none else none else none else none else none else none else none else none)
else (if (m_w v2) = 8 then
  (if m_t h v0 = 11 then t11_word v0 (-21) h >>= fun ⟨_, h92⟩ => if m_t h92 v0 = 11 then if m_t h92 (m_g h92 v0 38) = 29 ∧ (0 : Int) ≤ 8 ∧ 8 < m_l h92 (m_g h92 v0 38) then t11_number v0 0 3 h92 >>= fun ⟨r97, h96⟩ => if m_t h96 (m_g h92 (m_g h92 v0 38) 8) = 20 ∧ 0 ≤ (m_w v1) ∧ (m_w v1) < m_l h96 (m_g h92 (m_g h92 v0 38) 8) then some (m_p h96 (m_g h92 (m_g h92 v0 38) 8) (m_w v1) r97) >>= fun h99 => some ((), h99) else none else none else none else none)
else (if (m_w v2) = 9 then
  (if m_t h v0 = 11 then if m_t h (m_g h v0 38) = 29 ∧ (0 : Int) ≤ 8 ∧ 8 < m_l h (m_g h v0 38) then t11_number v0 0 128 h >>= fun ⟨r104, h103⟩ => if m_t h103 (m_g h (m_g h v0 38) 8) = 20 ∧ 0 ≤ (m_w v1) ∧ (m_w v1) < m_l h103 (m_g h (m_g h v0 38) 8) then some (m_p h103 (m_g h (m_g h v0 38) 8) (m_w v1) r104) >>= fun h106 => if m_t h106 v0 = 11 then if m_t h106 (m_g h106 v0 39) = 29 ∧ (0 : Int) ≤ 8 ∧ 8 < m_l h106 (m_g h106 v0 39) then t11_number v0 0 128 h106 >>= fun ⟨r110, h109⟩ => if m_t h109 (m_g h106 (m_g h106 v0 39) 8) = 20 ∧ 0 ≤ (m_w v1) ∧ (m_w v1) < m_l h109 (m_g h106 (m_g h106 v0 39) 8) then some (m_p h109 (m_g h106 (m_g h106 v0 39) 8) (m_w v1) r110) >>= fun h112 => if m_t h112 v0 = 11 then if m_t h112 (m_g h112 v0 40) = 29 ∧ (0 : Int) ≤ 8 ∧ 8 < m_l h112 (m_g h112 v0 40) then t11_number v0 0 128 h112 >>= fun ⟨r116, h115⟩ => if m_t h115 (m_g h112 (m_g h112 v0 40) 8) = 20 ∧ 0 ≤ (m_w v1) ∧ (m_w v1) < m_l h115 (m_g h112 (m_g h112 v0 40) 8) then some (m_p h115 (m_g h112 (m_g h112 v0 40) 8) (m_w v1) r116) >>= fun h118 => some ((), h118) else none else none else none else none else none else none else none else none else none)
else (if (m_w v2) = 10 then
  (if m_t h v0 = 11 then t11_word v0 (-22) h >>= fun ⟨_, h121⟩ => if m_t h121 v0 = 11 then if m_t h121 (m_g h121 v0 38) = 29 ∧ (0 : Int) ≤ 8 ∧ 8 < m_l h121 (m_g h121 v0 38) then t11_number v0 0 1500 h121 >>= fun ⟨r126, h125⟩ => if m_t h125 (m_g h121 (m_g h121 v0 38) 8) = 20 ∧ 0 ≤ (m_w v1) ∧ (m_w v1) < m_l h125 (m_g h121 (m_g h121 v0 38) 8) then some (m_p h125 (m_g h121 (m_g h121 v0 38) 8) (m_w v1) r126) >>= fun h128 => if m_t h128 v0 = 11 then t11_word v0 (-23) h128 >>= fun ⟨_, h130⟩ => if m_t h130 v0 = 11 then if m_t h130 (m_g h130 v0 39) = 29 ∧ (0 : Int) ≤ 8 ∧ 8 < m_l h130 (m_g h130 v0 39) then t11_number v0 0 1500 h130 >>= fun ⟨r135, h134⟩ => if m_t h134 (m_g h130 (m_g h130 v0 39) 8) = 20 ∧ 0 ≤ (m_w v1) ∧ (m_w v1) < m_l h134 (m_g h130 (m_g h130 v0 39) 8) then some (m_p h134 (m_g h130 (m_g h130 v0 39) 8) (m_w v1) r135) >>= fun h137 => some ((), h137) else none else none else none else none else none else none else none else none)
else (if (m_w v2) = 11 then
  (if m_t h v0 = 11 then if m_t h (m_g h v0 38) = 29 ∧ (0 : Int) ≤ 8 ∧ 8 < m_l h (m_g h v0 38) then t11_number v0 0 128 h >>= fun ⟨r142, h141⟩ => if m_t h141 (m_g h (m_g h v0 38) 8) = 20 ∧ 0 ≤ (m_w v1) ∧ (m_w v1) < m_l h141 (m_g h (m_g h v0 38) 8) then some (m_p h141 (m_g h (m_g h v0 38) 8) (m_w v1) r142) >>= fun h144 => some ((), h144) else none else none else none)
else some ((), h)))))))))))))
def t11_makes_c176 (v0 v1 v2 v3 v4 s0 s1 s2 : Int) (h : m_H) : Option (Unit × m_H) :=
  (if m_t h s0 = 20 ∧ 0 ≤ (m_w s1) ∧ (m_w s1) < m_l h s0 then some (m_p h s0 (m_w s1) s2) >>= fun h2 => if m_t h2 v0 = 11 then t11_numbers v0 v1 v4 h2 >>= fun ⟨_, h4⟩ => if m_t h4 v0 = 11 then t11_sign v0 59 h4 >>= fun ⟨_, h7⟩ => if m_t h7 v0 = 11 then (if (m_w (m_g h7 v0 33)) = (-1) then
  (if m_t h7 (m_g h7 v0 44) = 20 ∧ 0 ≤ (m_w (m_g h7 v0 47)) ∧ (m_w (m_g h7 v0 47)) < m_l h7 (m_g h7 v0 44) then some (m_p h7 (m_g h7 v0 44) (m_w (m_g h7 v0 47)) v2) >>= fun h12 => if m_t h12 v0 = 11 then if m_t h12 (m_g h12 v0 45) = 20 ∧ 0 ≤ (m_w (m_g h12 v0 47)) ∧ (m_w (m_g h12 v0 47)) < m_l h12 (m_g h12 v0 45) then some (m_p h12 (m_g h12 v0 45) (m_w (m_g h12 v0 47)) v3) >>= fun h15 => if m_t h15 v0 = 11 then if m_t h15 (m_g h15 v0 46) = 20 ∧ 0 ≤ (m_w (m_g h15 v0 47)) ∧ (m_w (m_g h15 v0 47)) < m_l h15 (m_g h15 v0 46) then some (m_p h15 (m_g h15 v0 46) (m_w (m_g h15 v0 47)) v1) >>= fun h18 => if m_t h18 v0 = 11 then some (m_p h18 v0 47 ((m_g h18 v0 47) + 1)) >>= fun h20 => if m_t h20 v0 = 11 then if m_t h20 (m_g h20 v0 34) = 20 ∧ (0 : Int) ≤ 8 ∧ 8 < m_l h20 (m_g h20 v0 34) then some (m_p h20 (m_g h20 v0 34) 8 ((m_g h20 (m_g h20 v0 34) 8) + 1)) >>= fun h23 => some ((), h23) else none else none else none else none else none else none else none else none)
else
  some ((), h7)) else none else none else none else none)
def t11_makes_c153 (v0 v1 v2 v3 v4 s0 s1 s2 : Int) (h : m_H) : Option (Unit × m_H) :=
  (if m_t h s0 = 20 ∧ 0 ≤ (m_w s1) ∧ (m_w s1) < m_l h s0 then some (m_p h s0 (m_w s1) s2) >>= fun h2 => if m_t h2 v0 = 11 then if m_t h2 (m_g h2 v0 37) = 29 ∧ (0 : Int) ≤ 8 ∧ 8 < m_l h2 (m_g h2 v0 37) then (if (m_w v4) = 5 then
  (t11_made v0 h2 >>= fun ⟨r7, h6⟩ => (t11_makes_c176 v0 v1 v2 v3 v4 (m_g h2 (m_g h2 v0 37) 8) v1 r7 h6))
else
  (t11_makes_c176 v0 v1 v2 v3 v4 (m_g h2 (m_g h2 v0 37) 8) v1 (-1) h2)) else none else none else none)
def t11_makes_c107 (v0 v1 v2 v3 v4 : Int) (h : m_H) : Option (Unit × m_H) :=
  (if m_t h v0 = 11 then (if (m_w (m_g h v0 33)) = (-1) then
  (t11_goesOn v0 h >>= fun ⟨_, h3⟩ => if m_t h3 v0 = 11 then if m_t h3 (m_g h3 v0 35) = 29 ∧ (0 : Int) ≤ 8 ∧ 8 < m_l h3 (m_g h3 v0 35) then if m_t h3 (m_g h3 (m_g h3 v0 35) 8) = 20 ∧ 0 ≤ (m_w v1) ∧ (m_w v1) < m_l h3 (m_g h3 (m_g h3 v0 35) 8) then some (m_p h3 (m_g h3 (m_g h3 v0 35) 8) (m_w v1) v4) >>= fun h8 => if m_t h8 v0 = 11 then if m_t h8 (m_g h8 v0 36) = 29 ∧ (0 : Int) ≤ 8 ∧ 8 < m_l h8 (m_g h8 v0 36) then (if 1 < (m_w v4) then
    (t11_made v0 h8 >>= fun ⟨r13, h12⟩ => (t11_makes_c153 v0 v1 v2 v3 v4 (m_g h8 (m_g h8 v0 36) 8) v1 r13 h12))
  else
    (t11_makes_c153 v0 v1 v2 v3 v4 (m_g h8 (m_g h8 v0 36) 8) v1 (-1) h8)) else none else none else none else none else none)
else
  some ((), h)) else none)
def t11_makes_c95 (v0 v1 v2 v3 s0 : Int) (h : m_H) : Option (Unit × m_H) :=
  (if (m_w s0) = (-1) then
  (if m_t h v0 = 11 then t11_fails v0 h >>= fun ⟨_, h3⟩ => (t11_makes_c107 v0 v1 v2 v3 s0 h3) else none)
else
  (t11_makes_c107 v0 v1 v2 v3 s0 h))
def t11_makes_c60 (v0 v1 v2 v3 : Int) (h : m_H) : Option (Unit × m_H) :=
  (if m_t h v0 = 11 then (if (m_w (m_g h v0 33)) = (-1) then
  (t11_goesOn v0 h >>= fun ⟨_, h3⟩ => if m_t h3 v0 = 11 then t11_sign v0 61 h3 >>= fun ⟨_, h6⟩ => if m_t h6 v0 = 11 then (if (m_w (m_g h6 v0 33)) = (-1) then
    (t11_verbAt v0 h6 >>= fun ⟨r11, h10⟩ => (t11_makes_c95 v0 v1 v2 v3 r11 h10))
  else
    (t11_makes_c95 v0 v1 v2 v3 (-1) h6)) else none else none)
else
  some ((), h)) else none)
def t11_makes_c56 (v0 v1 v2 v3 : Int) (h : m_H) : Option (Unit × m_H) :=
  (if m_t h v0 = 11 then t11_fails v0 h >>= fun ⟨_, h2⟩ => (t11_makes_c60 v0 v1 v2 v3 h2) else none)
def t11_makes (v0 : Int) (h : m_H) : Option (Unit × m_H) :=
  (if m_t h v0 = 11 then if m_t h (m_g h v0 34) = 20 ∧ (0 : Int) ≤ 8 ∧ 8 < m_l h (m_g h v0 34) then some (m_g h (m_g h v0 34) 8) >>= fun x3 => some (m_g h v0 31) >>= fun x4 => some ((m_g h v0 32) - (m_g h v0 31)) >>= fun x5 => (if (m_w x3) = 40 then
  (t11_makes_c56 v0 x3 x4 x5 h)
else
  (t11_in (m_w x5) 1 6 h >>= fun ⟨r8, h7⟩ => (if r8 = true then
    (if m_t h7 v0 = 11 then t11_isBarred v0 h7 >>= fun ⟨r12, h11⟩ => (if r12 = true then
      (t11_makes_c56 v0 x3 x4 x5 h11)
    else
      (if m_t h11 v0 = 11 then t11_wordKnown v0 h11 >>= fun ⟨r16, h15⟩ => (if (m_w r16) = (-1) then
        (t11_makes_c60 v0 x3 x4 x5 h15)
      else
        (t11_makes_c56 v0 x3 x4 x5 h15)) else none)) else none)
  else
    (t11_makes_c56 v0 x3 x4 x5 h7)))) else none else none)
def t11_reads_c27 (v0 : Int) (h : m_H) : Option (Unit × m_H) :=
  (if m_t h v0 = 11 then (if (m_w (m_g h v0 33)) = (-1) then
  (if (m_w (m_g h v0 31)) < (m_w (m_g h v0 30)) then
    (t11_isWord v0 (-24) h >>= fun ⟨r5, h4⟩ => (if r5 = true then
      (if m_t h4 v0 = 11 then t11_puts v0 1 0 h4 >>= fun ⟨_, h8⟩ => (t11_reads_c27 v0 h8) else none)
    else
      (if m_t h4 v0 = 11 then t11_isWord v0 (-26) h4 >>= fun ⟨r12, h11⟩ => (if r12 = true then
        (if m_t h11 v0 = 11 then t11_again v0 h11 >>= fun ⟨_, h15⟩ => (t11_reads_c27 v0 h15) else none)
      else
        (if m_t h11 v0 = 11 then t11_makes v0 h11 >>= fun ⟨_, h18⟩ => (t11_reads_c27 v0 h18) else none)) else none)))
  else
    some ((), h))
else
  some ((), h)) else none)
partial_fixpoint
def t11_reads (v0 : Int) (h : m_H) : Option (Unit × m_H) :=
  (if m_t h v0 = 11 then some (m_p h v0 33 (-1)) >>= fun h2 => if m_t h2 v0 = 11 then if m_t h2 (m_g h2 v0 34) = 20 ∧ (0 : Int) ≤ 8 ∧ 8 < m_l h2 (m_g h2 v0 34) then some (m_p h2 (m_g h2 v0 34) 8 0) >>= fun h5 => if m_t h5 v0 = 11 then some (m_p h5 v0 47 0) >>= fun h7 => if m_t h7 v0 = 11 then some (m_p h7 v0 31 0) >>= fun h9 => if m_t h9 v0 = 11 then t11_skips v0 h9 >>= fun ⟨_, h11⟩ => (t11_reads_c27 v0 h11) else none else none else none else none else none else none)
def t11_fault (v0 : Int) (h : m_H) : Option (Int × m_H) :=
  (if m_t h v0 = 11 then t11_reads v0 h >>= fun ⟨_, h2⟩ => if m_t h2 v0 = 11 then some ((m_g h2 v0 33), h2) else none else none)
def t11_score_c48 (v0 v1 : Int) (h : m_H) : Option (Int × m_H) :=
  (if (m_w v1) < 40 then
  (if m_t h v0 = 11 then if m_t h (m_g h v0 35) = 29 ∧ 0 ≤ (m_w (m_g h v0 43)) ∧ (m_w (m_g h v0 43)) < m_l h (m_g h v0 35) then if m_t h (m_g h v0 35) = 29 ∧ (0 : Int) ≤ 8 ∧ 8 < m_l h (m_g h v0 35) then if m_t h (m_g h (m_g h v0 35) 8) = 20 ∧ 0 ≤ (m_w v1) ∧ (m_w v1) < m_l h (m_g h (m_g h v0 35) 8) then if m_t h (m_g h (m_g h v0 35) (m_w (m_g h v0 43))) = 20 ∧ 0 ≤ (m_w v1) ∧ (m_w v1) < m_l h (m_g h (m_g h v0 35) (m_w (m_g h v0 43))) then some (m_p h (m_g h (m_g h v0 35) (m_w (m_g h v0 43))) (m_w v1) (m_g h (m_g h (m_g h v0 35) 8) (m_w v1))) >>= fun h7 => if m_t h7 v0 = 11 then if m_t h7 (m_g h7 v0 36) = 29 ∧ 0 ≤ (m_w (m_g h7 v0 43)) ∧ (m_w (m_g h7 v0 43)) < m_l h7 (m_g h7 v0 36) then if m_t h7 (m_g h7 v0 36) = 29 ∧ (0 : Int) ≤ 8 ∧ 8 < m_l h7 (m_g h7 v0 36) then if m_t h7 (m_g h7 (m_g h7 v0 36) 8) = 20 ∧ 0 ≤ (m_w v1) ∧ (m_w v1) < m_l h7 (m_g h7 (m_g h7 v0 36) 8) then if m_t h7 (m_g h7 (m_g h7 v0 36) (m_w (m_g h7 v0 43))) = 20 ∧ 0 ≤ (m_w v1) ∧ (m_w v1) < m_l h7 (m_g h7 (m_g h7 v0 36) (m_w (m_g h7 v0 43))) then some (m_p h7 (m_g h7 (m_g h7 v0 36) (m_w (m_g h7 v0 43))) (m_w v1) (m_g h7 (m_g h7 (m_g h7 v0 36) 8) (m_w v1))) >>= fun h13 => if m_t h13 v0 = 11 then if m_t h13 (m_g h13 v0 37) = 29 ∧ 0 ≤ (m_w (m_g h13 v0 43)) ∧ (m_w (m_g h13 v0 43)) < m_l h13 (m_g h13 v0 37) then if m_t h13 (m_g h13 v0 37) = 29 ∧ (0 : Int) ≤ 8 ∧ 8 < m_l h13 (m_g h13 v0 37) then if m_t h13 (m_g h13 (m_g h13 v0 37) 8) = 20 ∧ 0 ≤ (m_w v1) ∧ (m_w v1) < m_l h13 (m_g h13 (m_g h13 v0 37) 8) then if m_t h13 (m_g h13 (m_g h13 v0 37) (m_w (m_g h13 v0 43))) = 20 ∧ 0 ≤ (m_w v1) ∧ (m_w v1) < m_l h13 (m_g h13 (m_g h13 v0 37) (m_w (m_g h13 v0 43))) then some (m_p h13 (m_g h13 (m_g h13 v0 37) (m_w (m_g h13 v0 43))) (m_w v1) (m_g h13 (m_g h13 (m_g h13 v0 37) 8) (m_w v1))) >>= fun h19 => if m_t h19 v0 = 11 then if m_t h19 (m_g h19 v0 38) = 29 ∧ 0 ≤ (m_w (m_g h19 v0 43)) ∧ (m_w (m_g h19 v0 43)) < m_l h19 (m_g h19 v0 38) then if m_t h19 (m_g h19 v0 38) = 29 ∧ (0 : Int) ≤ 8 ∧ 8 < m_l h19 (m_g h19 v0 38) then if m_t h19 (m_g h19 (m_g h19 v0 38) 8) = 20 ∧ 0 ≤ (m_w v1) ∧ (m_w v1) < m_l h19 (m_g h19 (m_g h19 v0 38) 8) then if m_t h19 (m_g h19 (m_g h19 v0 38) (m_w (m_g h19 v0 43))) = 20 ∧ 0 ≤ (m_w v1) ∧ (m_w v1) < m_l h19 (m_g h19 (m_g h19 v0 38) (m_w (m_g h19 v0 43))) then some (m_p h19 (m_g h19 (m_g h19 v0 38) (m_w (m_g h19 v0 43))) (m_w v1) (m_g h19 (m_g h19 (m_g h19 v0 38) 8) (m_w v1))) >>= fun h25 => if m_t h25 v0 = 11 then if m_t h25 (m_g h25 v0 39) = 29 ∧ 0 ≤ (m_w (m_g h25 v0 43)) ∧ (m_w (m_g h25 v0 43)) < m_l h25 (m_g h25 v0 39) then if m_t h25 (m_g h25 v0 39) = 29 ∧ (0 : Int) ≤ 8 ∧ 8 < m_l h25 (m_g h25 v0 39) then if m_t h25 (m_g h25 (m_g h25 v0 39) 8) = 20 ∧ 0 ≤ (m_w v1) ∧ (m_w v1) < m_l h25 (m_g h25 (m_g h25 v0 39) 8) then if m_t h25 (m_g h25 (m_g h25 v0 39) (m_w (m_g h25 v0 43))) = 20 ∧ 0 ≤ (m_w v1) ∧ (m_w v1) < m_l h25 (m_g h25 (m_g h25 v0 39) (m_w (m_g h25 v0 43))) then some (m_p h25 (m_g h25 (m_g h25 v0 39) (m_w (m_g h25 v0 43))) (m_w v1) (m_g h25 (m_g h25 (m_g h25 v0 39) 8) (m_w v1))) >>= fun h31 => if m_t h31 v0 = 11 then if m_t h31 (m_g h31 v0 40) = 29 ∧ 0 ≤ (m_w (m_g h31 v0 43)) ∧ (m_w (m_g h31 v0 43)) < m_l h31 (m_g h31 v0 40) then if m_t h31 (m_g h31 v0 40) = 29 ∧ (0 : Int) ≤ 8 ∧ 8 < m_l h31 (m_g h31 v0 40) then if m_t h31 (m_g h31 (m_g h31 v0 40) 8) = 20 ∧ 0 ≤ (m_w v1) ∧ (m_w v1) < m_l h31 (m_g h31 (m_g h31 v0 40) 8) then if m_t h31 (m_g h31 (m_g h31 v0 40) (m_w (m_g h31 v0 43))) = 20 ∧ 0 ≤ (m_w v1) ∧ (m_w v1) < m_l h31 (m_g h31 (m_g h31 v0 40) (m_w (m_g h31 v0 43))) then some (m_p h31 (m_g h31 (m_g h31 v0 40) (m_w (m_g h31 v0 43))) (m_w v1) (m_g h31 (m_g h31 (m_g h31 v0 40) 8) (m_w v1))) >>= fun h37 => if m_t h37 v0 = 11 then if m_t h37 (m_g h37 v0 41) = 29 ∧ 0 ≤ (m_w (m_g h37 v0 43)) ∧ (m_w (m_g h37 v0 43)) < m_l h37 (m_g h37 v0 41) then if m_t h37 (m_g h37 v0 41) = 29 ∧ (0 : Int) ≤ 8 ∧ 8 < m_l h37 (m_g h37 v0 41) then if m_t h37 (m_g h37 (m_g h37 v0 41) 8) = 20 ∧ 0 ≤ (m_w v1) ∧ (m_w v1) < m_l h37 (m_g h37 (m_g h37 v0 41) 8) then if m_t h37 (m_g h37 (m_g h37 v0 41) (m_w (m_g h37 v0 43))) = 20 ∧ 0 ≤ (m_w v1) ∧ (m_w v1) < m_l h37 (m_g h37 (m_g h37 v0 41) (m_w (m_g h37 v0 43))) then some (m_p h37 (m_g h37 (m_g h37 v0 41) (m_w (m_g h37 v0 43))) (m_w v1) (m_g h37 (m_g h37 (m_g h37 v0 41) 8) (m_w v1))) >>= fun h43 => if m_t h43 v0 = 11 then if m_t h43 (m_g h43 v0 42) = 29 ∧ 0 ≤ (m_w (m_g h43 v0 43)) ∧ (m_w (m_g h43 v0 43)) < m_l h43 (m_g h43 v0 42) then if m_t h43 (m_g h43 v0 42) = 29 ∧ (0 : Int) ≤ 8 ∧ 8 < m_l h43 (m_g h43 v0 42) then if m_t h43 (m_g h43 (m_g h43 v0 42) 8) = 20 ∧ 0 ≤ (m_w v1) ∧ (m_w v1) < m_l h43 (m_g h43 (m_g h43 v0 42) 8) then if m_t h43 (m_g h43 (m_g h43 v0 42) (m_w (m_g h43 v0 43))) = 20 ∧ 0 ≤ (m_w v1) ∧ (m_w v1) < m_l h43 (m_g h43 (m_g h43 v0 42) (m_w (m_g h43 v0 43))) then some (m_p h43 (m_g h43 (m_g h43 v0 42) (m_w (m_g h43 v0 43))) (m_w v1) (m_g h43 (m_g h43 (m_g h43 v0 42) 8) (m_w v1))) >>= fun h49 => (t11_score_c48 v0 (v1 + 1) h49) else none else none else none else none else none else none else none else none else none else none else none else none else none else none else none else none else none else none else none else none else none else none else none else none else none else none else none else none else none else none else none else none else none else none else none else none else none else none else none else none)
else
  (if m_t h v0 = 11 then some (m_p h v0 43 ((m_g h v0 43) + 1)) >>= fun h51 => if m_t h51 v0 = 11 then some (((m_g h51 v0 43) - 1), h51) else none else none))
partial_fixpoint
def t11_score (v0 : Int) (h : m_H) : Option (Int × m_H) :=
  (if m_t h v0 = 11 then (if (m_w (m_g h v0 43)) = 8 then
  some ((-1), h)
else
  (t11_reads v0 h >>= fun ⟨_, h3⟩ => if m_t h3 v0 = 11 then (if (m_w (m_g h3 v0 33)) = (-1) then
    (some (m_p h3 v0 30 0) >>= fun h7 => if m_t h7 v0 = 11 then if m_t h7 (m_g h7 v0 34) = 20 ∧ (0 : Int) ≤ 8 ∧ 8 < m_l h7 (m_g h7 v0 34) then if m_t h7 (m_g h7 v0 34) = 20 ∧ 0 ≤ (m_w (m_g h7 v0 43)) ∧ (m_w (m_g h7 v0 43)) < m_l h7 (m_g h7 v0 34) then some (m_p h7 (m_g h7 v0 34) (m_w (m_g h7 v0 43)) (m_g h7 (m_g h7 v0 34) 8)) >>= fun h11 => (t11_score_c48 v0 0 h11) else none else none else none)
  else
    some ((-1), h3)) else none)) else none)
def t11_isScore (v0 v1 : Int) (h : m_H) : Option (Bool × m_H) :=
  (if m_t h v0 = 11 then t11_in (m_w v1) 0 (m_w ((m_g h v0 43) - 1)) h >>= fun ⟨r3, h2⟩ => some (r3, h2) else none)
def t11_lists_c46 (v0 v1 v3 : Int) (h : m_H) : Option (Unit × m_H) :=
  (if m_t h v0 = 11 then if m_t h (m_g h v0 51) = 20 ∧ 0 ≤ (m_w v1) ∧ (m_w v1) < m_l h (m_g h v0 51) then (if (m_w v3) < (m_w (m_g h (m_g h v0 51) (m_w v1))) then
  (if m_t h (m_g h v0 50) = 29 ∧ 0 ≤ (m_w v1) ∧ (m_w v1) < m_l h (m_g h v0 50) then if m_t h (m_g h v0 28) = 20 ∧ 0 ≤ (m_w v3) ∧ (m_w v3) < m_l h (m_g h v0 28) then if m_t h (m_g h (m_g h v0 50) (m_w v1)) = 20 ∧ 0 ≤ (m_w v3) ∧ (m_w v3) < m_l h (m_g h (m_g h v0 50) (m_w v1)) then some (m_p h (m_g h (m_g h v0 50) (m_w v1)) (m_w v3) (m_g h (m_g h v0 28) (m_w v3))) >>= fun h7 => (t11_lists_c46 v0 v1 (v3 + 1) h7) else none else none else none)
else
  some ((), h)) else none else none)
partial_fixpoint
def t11_lists_c2 (v0 v1 v2 v3 : Int) (h : m_H) : Option (Unit × m_H) :=
  (if m_t h v0 = 11 then if m_t h (m_g h v0 51) = 20 ∧ 0 ≤ (m_w v2) ∧ (m_w v2) < m_l h (m_g h v0 51) then (if (m_w v3) < (m_w (m_g h (m_g h v0 51) (m_w v2))) then
  (if m_t h (m_g h v0 50) = 29 ∧ 0 ≤ (m_w v2) ∧ (m_w v2) < m_l h (m_g h v0 50) then if m_t h (m_g h (m_g h v0 50) (m_w v2)) = 20 ∧ 0 ≤ (m_w v3) ∧ (m_w v3) < m_l h (m_g h (m_g h v0 50) (m_w v2)) then if m_t h (m_g h v0 28) = 20 ∧ 0 ≤ (m_w v3) ∧ (m_w v3) < m_l h (m_g h v0 28) then some (m_p h (m_g h v0 28) (m_w v3) (m_g h (m_g h (m_g h v0 50) (m_w v2)) (m_w v3))) >>= fun h7 => (t11_lists_c2 v0 v1 v2 (v3 + 1) h7) else none else none else none)
else
  (if m_t h (m_g h v0 51) = 20 ∧ 0 ≤ (m_w v1) ∧ (m_w v1) < m_l h (m_g h v0 51) then some (m_p h (m_g h v0 51) (m_w v1) (m_g h (m_g h v0 51) (m_w v2))) >>= fun h9 => (t11_lists_c46 v0 v1 0 h9) else none)) else none else none)
partial_fixpoint
def t11_lists (v0 v1 v2 : Int) (h : m_H) : Option (Unit × m_H) :=
  (t11_lists_c2 v0 v1 v2 0 h)
def t11_stripOf_c42 (v0 v1 v2 v3 v4 : Int) (h : m_H) : Option (Int × m_H) :=
  (if m_t h v0 = 11 then (if (m_w v4) < (m_w (m_g h v0 14)) then
  (t11_isThere v0 v4 h >>= fun ⟨r4, h3⟩ => (if r4 = true then
    (if m_t h3 v0 = 11 then t11_markOf v0 v4 v3 h3 >>= fun ⟨r8, h7⟩ => if m_t h7 v0 = 11 then if m_t h7 (m_g h7 v0 38) = 29 ∧ 0 ≤ (m_w v1) ∧ (m_w v1) < m_l h7 (m_g h7 v0 38) then if m_t h7 (m_g h7 (m_g h7 v0 38) (m_w v1)) = 20 ∧ 0 ≤ (m_w v2) ∧ (m_w v2) < m_l h7 (m_g h7 (m_g h7 v0 38) (m_w v1)) then (if (m_w r8) = (m_w (m_g h7 (m_g h7 (m_g h7 v0 38) (m_w v1)) (m_w v2))) then
      some (v4, h7)
    else
      (t11_stripOf_c42 v0 v1 v2 v3 (v4 + 1) h7)) else none else none else none else none)
  else
    (t11_stripOf_c42 v0 v1 v2 v3 (v4 + 1) h3)))
else
  some ((-1), h)) else none)
partial_fixpoint
def t11_stripOf (v0 v1 v2 v3 : Int) (h : m_H) : Option (Int × m_H) :=
  (if m_t h v0 = 11 then if m_t h (m_g h v0 35) = 29 ∧ 0 ≤ (m_w v1) ∧ (m_w v1) < m_l h (m_g h v0 35) then if m_t h (m_g h (m_g h v0 35) (m_w v1)) = 20 ∧ 0 ≤ (m_w v2) ∧ (m_w v2) < m_l h (m_g h (m_g h v0 35) (m_w v1)) then (if (m_w (m_g h (m_g h (m_g h v0 35) (m_w v1)) (m_w v2))) = 0 then
  (if m_t h (m_g h v0 38) = 29 ∧ 0 ≤ (m_w v1) ∧ (m_w v1) < m_l h (m_g h v0 38) then if m_t h (m_g h (m_g h v0 38) (m_w v1)) = 20 ∧ 0 ≤ (m_w v2) ∧ (m_w v2) < m_l h (m_g h (m_g h v0 38) (m_w v1)) then t11_isThere v0 (m_g h (m_g h (m_g h v0 38) (m_w v1)) (m_w v2)) h >>= fun ⟨r8, h7⟩ => (if r8 = true then
    (if m_t h7 v0 = 11 then if m_t h7 (m_g h7 v0 38) = 29 ∧ 0 ≤ (m_w v1) ∧ (m_w v1) < m_l h7 (m_g h7 v0 38) then if m_t h7 (m_g h7 (m_g h7 v0 38) (m_w v1)) = 20 ∧ 0 ≤ (m_w v2) ∧ (m_w v2) < m_l h7 (m_g h7 (m_g h7 v0 38) (m_w v1)) then some ((m_g h7 (m_g h7 (m_g h7 v0 38) (m_w v1)) (m_w v2)), h7) else none else none else none)
  else
    some ((-1), h7)) else none else none)
else
  (t11_stripOf_c42 v0 v1 v2 v3 0 h)) else none else none else none)
def t11_takes_c45 (v0 v2 v4 : Int) (h : m_H) : Option (Bool × m_H) :=
  (if m_t h v0 = 11 then if m_t h (m_g h v0 51) = 20 ∧ 0 ≤ (m_w v2) ∧ (m_w v2) < m_l h (m_g h v0 51) then (if (m_w v4) < (m_w (m_g h (m_g h v0 51) (m_w v2))) then
  (if m_t h (m_g h v0 50) = 29 ∧ 0 ≤ (m_w v2) ∧ (m_w v2) < m_l h (m_g h v0 50) then if m_t h (m_g h v0 52) = 20 ∧ 0 ≤ (m_w v2) ∧ (m_w v2) < m_l h (m_g h v0 52) then t11_at v0 (m_g h (m_g h v0 52) (m_w v2)) v4 h >>= fun ⟨r7, h6⟩ => if m_t h6 (m_g h (m_g h v0 50) (m_w v2)) = 20 ∧ 0 ≤ (m_w v4) ∧ (m_w v4) < m_l h6 (m_g h (m_g h v0 50) (m_w v2)) then some (m_p h6 (m_g h (m_g h v0 50) (m_w v2)) (m_w v4) r7) >>= fun h9 => (t11_takes_c45 v0 v2 (v4 + 1) h9) else none else none else none)
else
  some (true, h)) else none else none)
partial_fixpoint
def t11_takes (v0 v1 v2 v3 : Int) (h : m_H) : Option (Bool × m_H) :=
  (if m_t h v0 = 11 then t11_stripOf v0 v1 v2 v3 h >>= fun ⟨r3, h2⟩ => if m_t h2 (m_g h v0 52) = 20 ∧ 0 ≤ (m_w v2) ∧ (m_w v2) < m_l h2 (m_g h v0 52) then some (m_p h2 (m_g h v0 52) (m_w v2) r3) >>= fun h5 => if m_t h5 v0 = 11 then if m_t h5 (m_g h5 v0 52) = 20 ∧ 0 ≤ (m_w v2) ∧ (m_w v2) < m_l h5 (m_g h5 v0 52) then (if (m_w (m_g h5 (m_g h5 v0 52) (m_w v2))) = (-1) then
  some (false, h5)
else
  (if m_t h5 (m_g h5 v0 3) = 20 ∧ 0 ≤ (m_w (m_g h5 (m_g h5 v0 52) (m_w v2))) ∧ (m_w (m_g h5 (m_g h5 v0 52) (m_w v2))) < m_l h5 (m_g h5 v0 3) then if m_t h5 (m_g h5 v0 51) = 20 ∧ 0 ≤ (m_w v2) ∧ (m_w v2) < m_l h5 (m_g h5 v0 51) then some (m_p h5 (m_g h5 v0 51) (m_w v2) (m_g h5 (m_g h5 v0 3) (m_w (m_g h5 (m_g h5 v0 52) (m_w v2))))) >>= fun h11 => (t11_takes_c45 v0 v2 0 h11) else none else none)) else none else none else none else none)
def t11_cuts_c22 (v0 v1 v2 v3 v4 v5 : Int) (h : m_H) : Option (Bool × m_H) :=
  (if (m_w v5) < (m_w v4) then
  (if m_t h v0 = 11 then if m_t h (m_g h v0 50) = 29 ∧ 0 ≤ (m_w v1) ∧ (m_w v1) < m_l h (m_g h v0 50) then if m_t h (m_g h v0 50) = 29 ∧ 0 ≤ (m_w v2) ∧ (m_w v2) < m_l h (m_g h v0 50) then if m_t h (m_g h (m_g h v0 50) (m_w v2)) = 20 ∧ 0 ≤ (m_w v5) ∧ (m_w v5) < m_l h (m_g h (m_g h v0 50) (m_w v2)) then if m_t h (m_g h (m_g h v0 50) (m_w v1)) = 20 ∧ 0 ≤ (m_w (v5 - v3)) ∧ (m_w (v5 - v3)) < m_l h (m_g h (m_g h v0 50) (m_w v1)) then some (m_p h (m_g h (m_g h v0 50) (m_w v1)) (m_w (v5 - v3)) (m_g h (m_g h (m_g h v0 50) (m_w v2)) (m_w v5))) >>= fun h7 => (t11_cuts_c22 v0 v1 v2 v3 v4 (v5 + 1) h7) else none else none else none else none else none)
else
  (if m_t h v0 = 11 then if m_t h (m_g h v0 51) = 20 ∧ 0 ≤ (m_w v1) ∧ (m_w v1) < m_l h (m_g h v0 51) then some (m_p h (m_g h v0 51) (m_w v1) (v4 - v3)) >>= fun h10 => some (true, h10) else none else none))
partial_fixpoint
def t11_cuts (v0 v1 v2 v3 v4 : Int) (h : m_H) : Option (Bool × m_H) :=
  (if (m_w v3) < (m_w v4) then
  (if m_t h v0 = 11 then if m_t h (m_g h v0 51) = 20 ∧ 0 ≤ (m_w v2) ∧ (m_w v2) < m_l h (m_g h v0 51) then (if (m_w (m_g h (m_g h v0 51) (m_w v2))) < (m_w v4) then
    some (false, h)
  else
    (t11_cuts_c22 v0 v1 v2 v3 v4 v3 h)) else none else none)
else
  some (false, h))
def t11_playsRow_c70 (v0 v1 v3 v4 v5 v6 v7 v9 : Int) (h : m_H) : Option (Bool × m_H) :=
  (if (m_w (m_lcmp (m_w v9) v7)) < 0 then
  (if m_t h v0 = 11 then if m_t h (m_g h v0 50) = 29 ∧ 0 ≤ (m_w v1) ∧ (m_w v1) < m_l h (m_g h v0 50) then t11_sampleAt v0 v6 v9 v3 v4 h >>= fun ⟨r5, h4⟩ => t11_bounded (Int.tdiv (m_v ((m_w r5) * (m_w v5))) 64) h4 >>= fun ⟨r7, h6⟩ => if m_t h6 (m_g h (m_g h v0 50) (m_w v1)) = 20 ∧ 0 ≤ (m_w v9) ∧ (m_w v9) < m_l h6 (m_g h (m_g h v0 50) (m_w v1)) then some (m_p h6 (m_g h (m_g h v0 50) (m_w v1)) (m_w v9) r7) >>= fun h9 => (t11_playsRow_c70 v0 v1 v3 v4 v5 v6 v7 (v9 + 1) h9) else none else none else none)
else
  (if m_t h v0 = 11 then if m_t h (m_g h v0 51) = 20 ∧ 0 ≤ (m_w v1) ∧ (m_w v1) < m_l h (m_g h v0 51) then some (m_p h (m_g h v0 51) (m_w v1) v7) >>= fun h12 => some (true, h12) else none else none))
partial_fixpoint
def t11_playsRow_c38 (v0 v1 v2 v3 v4 v5 v6 v7 v9 : Int) (h : m_H) : Option (Bool × m_H) :=
  (if (m_w v9) < (m_w v6) then
  (if m_t h v0 = 11 then if m_t h (m_g h v0 50) = 29 ∧ 0 ≤ (m_w v2) ∧ (m_w v2) < m_l h (m_g h v0 50) then if m_t h (m_g h (m_g h v0 50) (m_w v2)) = 20 ∧ 0 ≤ (m_w v9) ∧ (m_w v9) < m_l h (m_g h (m_g h v0 50) (m_w v2)) then if m_t h (m_g h v0 28) = 20 ∧ 0 ≤ (m_w v9) ∧ (m_w v9) < m_l h (m_g h v0 28) then some (m_p h (m_g h v0 28) (m_w v9) (m_g h (m_g h (m_g h v0 50) (m_w v2)) (m_w v9))) >>= fun h6 => (t11_playsRow_c38 v0 v1 v2 v3 v4 v5 v6 v7 (v9 + 1) h6) else none else none else none else none)
else
  (t11_playsRow_c70 v0 v1 v3 v4 v5 v6 v7 0 h))
partial_fixpoint
def t11_playsRow (v0 v1 v2 v3 v4 v5 : Int) (h : m_H) : Option (Bool × m_H) :=
  (if m_t h v0 = 11 then if m_t h (m_g h v0 51) = 20 ∧ 0 ≤ (m_w v2) ∧ (m_w v2) < m_l h (m_g h v0 51) then some (m_g h (m_g h v0 51) (m_w v2)) >>= fun x3 => if (m_v (m_w v3)) = 0 then none else some ((Int.tdiv (m_v ((m_w (x3 - 1)) * (m_w v4))) (m_v (m_w v3))) + 1) >>= fun x4 => (if 0 < (m_w (m_lcmp x4 1500)) then
  some (false, h)
else
  (t11_playsRow_c38 v0 v1 v2 v3 v4 v5 x3 x4 0 h)) else none else none)
def t11_splices_c160 (v0 v1 v3 v5 v6 : Int) (h : m_H) : Option (Bool × m_H) :=
  (if m_t h v0 = 11 then if m_t h (m_g h v0 51) = 20 ∧ 0 ≤ (m_w v3) ∧ (m_w v3) < m_l h (m_g h v0 51) then (if (m_w v6) < (m_w (m_g h (m_g h v0 51) (m_w v3))) then
  (if m_t h (m_g h v0 50) = 29 ∧ 0 ≤ (m_w v1) ∧ (m_w v1) < m_l h (m_g h v0 50) then if m_t h (m_g h v0 50) = 29 ∧ 0 ≤ (m_w v3) ∧ (m_w v3) < m_l h (m_g h v0 50) then if m_t h (m_g h (m_g h v0 50) (m_w v3)) = 20 ∧ 0 ≤ (m_w v6) ∧ (m_w v6) < m_l h (m_g h (m_g h v0 50) (m_w v3)) then if m_t h (m_g h (m_g h v0 50) (m_w v1)) = 20 ∧ 0 ≤ (m_w v5) ∧ (m_w v5) < m_l h (m_g h (m_g h v0 50) (m_w v1)) then some (m_p h (m_g h (m_g h v0 50) (m_w v1)) (m_w v5) (m_g h (m_g h (m_g h v0 50) (m_w v3)) (m_w v6))) >>= fun h8 => (t11_splices_c160 v0 v1 v3 (v5 + 1) (v6 + 1) h8) else none else none else none else none)
else
  (if m_t h (m_g h v0 51) = 20 ∧ 0 ≤ (m_w v1) ∧ (m_w v1) < m_l h (m_g h v0 51) then some (m_p h (m_g h v0 51) (m_w v1) v5) >>= fun h10 => (if 0 < (m_w v5) then
    some (true, h10)
  else
    some (false, h10)) else none)) else none else none)
partial_fixpoint
def t11_splices_c96 (v0 v1 v2 v3 v4 v5 v6 : Int) (h : m_H) : Option (Bool × m_H) :=
  (if (m_w v6) < (m_w v4) then
  (if m_t h v0 = 11 then if m_t h (m_g h v0 50) = 29 ∧ 0 ≤ (m_w v1) ∧ (m_w v1) < m_l h (m_g h v0 50) then if m_t h (m_g h v0 50) = 29 ∧ 0 ≤ (m_w v2) ∧ (m_w v2) < m_l h (m_g h v0 50) then if m_t h (m_g h v0 51) = 20 ∧ 0 ≤ (m_w v2) ∧ (m_w v2) < m_l h (m_g h v0 51) then if m_t h (m_g h (m_g h v0 50) (m_w v2)) = 20 ∧ 0 ≤ (m_w (((m_g h (m_g h v0 51) (m_w v2)) - v4) + v6)) ∧ (m_w (((m_g h (m_g h v0 51) (m_w v2)) - v4) + v6)) < m_l h (m_g h (m_g h v0 50) (m_w v2)) then if m_t h (m_g h v0 50) = 29 ∧ 0 ≤ (m_w v3) ∧ (m_w v3) < m_l h (m_g h v0 50) then if m_t h (m_g h (m_g h v0 50) (m_w v3)) = 20 ∧ 0 ≤ (m_w v6) ∧ (m_w v6) < m_l h (m_g h (m_g h v0 50) (m_w v3)) then t11_spliced (m_g h (m_g h (m_g h v0 50) (m_w v2)) (m_w (((m_g h (m_g h v0 51) (m_w v2)) - v4) + v6))) (m_g h (m_g h (m_g h v0 50) (m_w v3)) (m_w v6)) v6 v4 h >>= fun ⟨r10, h9⟩ => if m_t h9 (m_g h (m_g h v0 50) (m_w v1)) = 20 ∧ 0 ≤ (m_w v5) ∧ (m_w v5) < m_l h9 (m_g h (m_g h v0 50) (m_w v1)) then some (m_p h9 (m_g h (m_g h v0 50) (m_w v1)) (m_w v5) r10) >>= fun h12 => (t11_splices_c96 v0 v1 v2 v3 v4 (v5 + 1) (v6 + 1) h12) else none else none else none else none else none else none else none else none)
else
  (t11_splices_c160 v0 v1 v3 v5 v4 h))
partial_fixpoint
def t11_splices_c52 (v0 v1 v2 v3 v4 v5 v6 : Int) (h : m_H) : Option (Bool × m_H) :=
  (if m_t h v0 = 11 then if m_t h (m_g h v0 51) = 20 ∧ 0 ≤ (m_w v2) ∧ (m_w v2) < m_l h (m_g h v0 51) then (if (m_w v6) < (m_w ((m_g h (m_g h v0 51) (m_w v2)) - v4)) then
  (if m_t h (m_g h v0 50) = 29 ∧ 0 ≤ (m_w v1) ∧ (m_w v1) < m_l h (m_g h v0 50) then if m_t h (m_g h v0 50) = 29 ∧ 0 ≤ (m_w v2) ∧ (m_w v2) < m_l h (m_g h v0 50) then if m_t h (m_g h (m_g h v0 50) (m_w v2)) = 20 ∧ 0 ≤ (m_w v6) ∧ (m_w v6) < m_l h (m_g h (m_g h v0 50) (m_w v2)) then if m_t h (m_g h (m_g h v0 50) (m_w v1)) = 20 ∧ 0 ≤ (m_w v5) ∧ (m_w v5) < m_l h (m_g h (m_g h v0 50) (m_w v1)) then some (m_p h (m_g h (m_g h v0 50) (m_w v1)) (m_w v5) (m_g h (m_g h (m_g h v0 50) (m_w v2)) (m_w v6))) >>= fun h8 => (t11_splices_c52 v0 v1 v2 v3 v4 (v5 + 1) (v6 + 1) h8) else none else none else none else none)
else
  (t11_splices_c96 v0 v1 v2 v3 v4 v5 0 h)) else none else none)
partial_fixpoint
def t11_splices (v0 v1 v2 v3 v4 : Int) (h : m_H) : Option (Bool × m_H) :=
  (if m_t h v0 = 11 then if m_t h (m_g h v0 51) = 20 ∧ 0 ≤ (m_w v2) ∧ (m_w v2) < m_l h (m_g h v0 51) then (if (m_w (m_g h (m_g h v0 51) (m_w v2))) < (m_w v4) then
  some (false, h)
else
  (if m_t h (m_g h v0 51) = 20 ∧ 0 ≤ (m_w v3) ∧ (m_w v3) < m_l h (m_g h v0 51) then (if (m_w (m_g h (m_g h v0 51) (m_w v3))) < (m_w v4) then
    some (false, h)
  else
    (if 1500 < (m_w (((m_g h (m_g h v0 51) (m_w v2)) + (m_g h (m_g h v0 51) (m_w v3))) - v4)) then
      some (false, h)
    else
      (t11_splices_c52 v0 v1 v2 v3 v4 0 0 h))) else none)) else none else none)
def t11_loops_c16 (v0 v1 v2 v3 v4 : Int) (h : m_H) : Option (Bool × m_H) :=
  (if (m_w v4) < (m_w v3) then
  (if m_t h v0 = 11 then if m_t h (m_g h v0 50) = 29 ∧ 0 ≤ (m_w v1) ∧ (m_w v1) < m_l h (m_g h v0 50) then if m_t h (m_g h v0 50) = 29 ∧ 0 ≤ (m_w v2) ∧ (m_w v2) < m_l h (m_g h v0 50) then if m_t h (m_g h v0 51) = 20 ∧ 0 ≤ (m_w v2) ∧ (m_w v2) < m_l h (m_g h v0 51) then if (m_w (m_g h (m_g h v0 51) (m_w v2))) = 0 then none else if m_t h (m_g h (m_g h v0 50) (m_w v2)) = 20 ∧ 0 ≤ (m_w (Int.tmod (m_w v4) (m_w (m_g h (m_g h v0 51) (m_w v2))))) ∧ (m_w (Int.tmod (m_w v4) (m_w (m_g h (m_g h v0 51) (m_w v2))))) < m_l h (m_g h (m_g h v0 50) (m_w v2)) then if m_t h (m_g h (m_g h v0 50) (m_w v1)) = 20 ∧ 0 ≤ (m_w v4) ∧ (m_w v4) < m_l h (m_g h (m_g h v0 50) (m_w v1)) then some (m_p h (m_g h (m_g h v0 50) (m_w v1)) (m_w v4) (m_g h (m_g h (m_g h v0 50) (m_w v2)) (m_w (Int.tmod (m_w v4) (m_w (m_g h (m_g h v0 51) (m_w v2))))))) >>= fun h8 => (t11_loops_c16 v0 v1 v2 v3 (v4 + 1) h8) else none else none else none else none else none else none)
else
  (if m_t h v0 = 11 then if m_t h (m_g h v0 51) = 20 ∧ 0 ≤ (m_w v1) ∧ (m_w v1) < m_l h (m_g h v0 51) then some (m_p h (m_g h v0 51) (m_w v1) v3) >>= fun h11 => some (true, h11) else none else none))
partial_fixpoint
def t11_loops (v0 v1 v2 v3 : Int) (h : m_H) : Option (Bool × m_H) :=
  (if (m_w v3) = 0 then
  some (false, h)
else
  (if 1500 < (m_w v3) then
    some (false, h)
  else
    (t11_loops_c16 v0 v1 v2 v3 0 h)))
def t11_echoes_c3 (v0 v1 v2 v3 v4 : Int) (h : m_H) : Option (Unit × m_H) :=
  (if m_t h v0 = 11 then if m_t h (m_g h v0 51) = 20 ∧ 0 ≤ (m_w v1) ∧ (m_w v1) < m_l h (m_g h v0 51) then (if (m_w v4) < (m_w (m_g h (m_g h v0 51) (m_w v1))) then
  (if m_t h (m_g h v0 50) = 29 ∧ 0 ≤ (m_w v1) ∧ (m_w v1) < m_l h (m_g h v0 50) then if m_t h (m_g h (m_g h v0 50) (m_w v1)) = 20 ∧ 0 ≤ (m_w v4) ∧ (m_w v4) < m_l h (m_g h (m_g h v0 50) (m_w v1)) then if m_t h (m_g h (m_g h v0 50) (m_w v1)) = 20 ∧ 0 ≤ (m_w (v4 - v2)) ∧ (m_w (v4 - v2)) < m_l h (m_g h (m_g h v0 50) (m_w v1)) then t11_bounded ((m_w (m_g h (m_g h (m_g h v0 50) (m_w v1)) (m_w v4))) + (Int.tdiv (m_v ((m_w (m_g h (m_g h (m_g h v0 50) (m_w v1)) (m_w (v4 - v2)))) * (m_w v3))) 256)) h >>= fun ⟨r8, h7⟩ => if m_t h7 (m_g h (m_g h v0 50) (m_w v1)) = 20 ∧ 0 ≤ (m_w v4) ∧ (m_w v4) < m_l h7 (m_g h (m_g h v0 50) (m_w v1)) then some (m_p h7 (m_g h (m_g h v0 50) (m_w v1)) (m_w v4) r8) >>= fun h10 => (t11_echoes_c3 v0 v1 v2 v3 (v4 + 1) h10) else none else none else none else none)
else
  some ((), h)) else none else none)
partial_fixpoint
def t11_echoes (v0 v1 v2 v3 : Int) (h : m_H) : Option (Unit × m_H) :=
  (t11_echoes_c3 v0 v1 v2 v3 v2 h)
def t11_filters_c11 (v0 v1 v2 v3 v4 v5 v6 v7 : Int) (h : m_H) : Option (Unit × m_H) :=
  (if (m_w v7) < (m_w v6) then
  (if 0 < (m_w v7) then
    (if m_t h v0 = 11 then if m_t h (m_g h v0 50) = 29 ∧ 0 ≤ (m_w v2) ∧ (m_w v2) < m_l h (m_g h v0 50) then if m_t h (m_g h (m_g h v0 50) (m_w v2)) = 20 ∧ 0 ≤ (m_w (v7 - 1)) ∧ (m_w (v7 - 1)) < m_l h (m_g h (m_g h v0 50) (m_w v2)) then if m_t h (m_g h (m_g h v0 50) (m_w v2)) = 20 ∧ 0 ≤ (m_w v7) ∧ (m_w v7) < m_l h (m_g h (m_g h v0 50) (m_w v2)) then (if (m_w (v7 + 1)) < (m_w v6) then
      (if m_t h (m_g h (m_g h v0 50) (m_w v2)) = 20 ∧ 0 ≤ (m_w (v7 + 1)) ∧ (m_w (v7 + 1)) < m_l h (m_g h (m_g h v0 50) (m_w v2)) then some ((((m_w (m_g h (m_g h (m_g h v0 50) (m_w v2)) (m_w (v7 - 1)))) * (m_w v3)) + ((m_w (m_g h (m_g h (m_g h v0 50) (m_w v2)) (m_w v7))) * (m_w v4))) + ((m_w (m_g h (m_g h (m_g h v0 50) (m_w v2)) (m_w (v7 + 1)))) * (m_w v5))) >>= fun x9 => if m_t h (m_g h v0 50) = 29 ∧ 0 ≤ (m_w v1) ∧ (m_w v1) < m_l h (m_g h v0 50) then t11_bounded (Int.tdiv (m_v x9) 64) h >>= fun ⟨r12, h11⟩ => if m_t h11 (m_g h (m_g h v0 50) (m_w v1)) = 20 ∧ 0 ≤ (m_w v7) ∧ (m_w v7) < m_l h11 (m_g h (m_g h v0 50) (m_w v1)) then some (m_p h11 (m_g h (m_g h v0 50) (m_w v1)) (m_w v7) r12) >>= fun h14 => (t11_filters_c11 v0 v1 v2 v3 v4 v5 v6 (v7 + 1) h14) else none else none else none)
    else
      (some ((((m_w (m_g h (m_g h (m_g h v0 50) (m_w v2)) (m_w (v7 - 1)))) * (m_w v3)) + ((m_w (m_g h (m_g h (m_g h v0 50) (m_w v2)) (m_w v7))) * (m_w v4))) + 0) >>= fun x15 => if m_t h (m_g h v0 50) = 29 ∧ 0 ≤ (m_w v1) ∧ (m_w v1) < m_l h (m_g h v0 50) then t11_bounded (Int.tdiv (m_v x15) 64) h >>= fun ⟨r18, h17⟩ => if m_t h17 (m_g h (m_g h v0 50) (m_w v1)) = 20 ∧ 0 ≤ (m_w v7) ∧ (m_w v7) < m_l h17 (m_g h (m_g h v0 50) (m_w v1)) then some (m_p h17 (m_g h (m_g h v0 50) (m_w v1)) (m_w v7) r18) >>= fun h20 => (t11_filters_c11 v0 v1 v2 v3 v4 v5 v6 (v7 + 1) h20) else none else none)) else none else none else none else none)
  else
    (if m_t h v0 = 11 then if m_t h (m_g h v0 50) = 29 ∧ 0 ≤ (m_w v2) ∧ (m_w v2) < m_l h (m_g h v0 50) then if m_t h (m_g h (m_g h v0 50) (m_w v2)) = 20 ∧ 0 ≤ (m_w v7) ∧ (m_w v7) < m_l h (m_g h (m_g h v0 50) (m_w v2)) then (if (m_w (v7 + 1)) < (m_w v6) then
      (if m_t h (m_g h (m_g h v0 50) (m_w v2)) = 20 ∧ 0 ≤ (m_w (v7 + 1)) ∧ (m_w (v7 + 1)) < m_l h (m_g h (m_g h v0 50) (m_w v2)) then some ((0 + ((m_w (m_g h (m_g h (m_g h v0 50) (m_w v2)) (m_w v7))) * (m_w v4))) + ((m_w (m_g h (m_g h (m_g h v0 50) (m_w v2)) (m_w (v7 + 1)))) * (m_w v5))) >>= fun x26 => if m_t h (m_g h v0 50) = 29 ∧ 0 ≤ (m_w v1) ∧ (m_w v1) < m_l h (m_g h v0 50) then t11_bounded (Int.tdiv (m_v x26) 64) h >>= fun ⟨r29, h28⟩ => if m_t h28 (m_g h (m_g h v0 50) (m_w v1)) = 20 ∧ 0 ≤ (m_w v7) ∧ (m_w v7) < m_l h28 (m_g h (m_g h v0 50) (m_w v1)) then some (m_p h28 (m_g h (m_g h v0 50) (m_w v1)) (m_w v7) r29) >>= fun h31 => (t11_filters_c11 v0 v1 v2 v3 v4 v5 v6 (v7 + 1) h31) else none else none else none)
    else
      (some ((0 + ((m_w (m_g h (m_g h (m_g h v0 50) (m_w v2)) (m_w v7))) * (m_w v4))) + 0) >>= fun x32 => if m_t h (m_g h v0 50) = 29 ∧ 0 ≤ (m_w v1) ∧ (m_w v1) < m_l h (m_g h v0 50) then t11_bounded (Int.tdiv (m_v x32) 64) h >>= fun ⟨r35, h34⟩ => if m_t h34 (m_g h (m_g h v0 50) (m_w v1)) = 20 ∧ 0 ≤ (m_w v7) ∧ (m_w v7) < m_l h34 (m_g h (m_g h v0 50) (m_w v1)) then some (m_p h34 (m_g h (m_g h v0 50) (m_w v1)) (m_w v7) r35) >>= fun h37 => (t11_filters_c11 v0 v1 v2 v3 v4 v5 v6 (v7 + 1) h37) else none else none)) else none else none else none))
else
  (if m_t h v0 = 11 then if m_t h (m_g h v0 51) = 20 ∧ 0 ≤ (m_w v1) ∧ (m_w v1) < m_l h (m_g h v0 51) then some (m_p h (m_g h v0 51) (m_w v1) v6) >>= fun h40 => some ((), h40) else none else none))
partial_fixpoint
def t11_filters (v0 v1 v2 v3 v4 v5 : Int) (h : m_H) : Option (Unit × m_H) :=
  (if m_t h v0 = 11 then if m_t h (m_g h v0 51) = 20 ∧ 0 ≤ (m_w v2) ∧ (m_w v2) < m_l h (m_g h v0 51) then some (m_g h (m_g h v0 51) (m_w v2)) >>= fun x3 => (t11_filters_c11 v0 v1 v2 v3 v4 v5 x3 0 h) else none else none)
def t11_fades_c70 (v0 v1 v3 v4 v5 : Int) (h : m_H) : Option (Bool × m_H) :=
  (if (m_w v5) < (m_w v4) then
  (if m_t h v0 = 11 then if m_t h (m_g h v0 50) = 29 ∧ 0 ≤ (m_w v1) ∧ (m_w v1) < m_l h (m_g h v0 50) then if m_t h (m_g h (m_g h v0 50) (m_w v1)) = 20 ∧ 0 ≤ (m_w v5) ∧ (m_w v5) < m_l h (m_g h (m_g h v0 50) (m_w v1)) then if (m_v (m_w v3)) = 0 then none else some (m_p h (m_g h (m_g h v0 50) (m_w v1)) (m_w v5) (Int.tdiv (m_v ((m_w (m_g h (m_g h (m_g h v0 50) (m_w v1)) (m_w v5))) * (m_w ((v4 - 1) - v5)))) (m_v (m_w v3)))) >>= fun h5 => (t11_fades_c70 v0 v1 v3 v4 (v5 + 1) h5) else none else none else none)
else
  some (true, h))
partial_fixpoint
def t11_fades_c25 (v0 v1 v2 v3 v4 v5 : Int) (h : m_H) : Option (Bool × m_H) :=
  (if (m_w v5) < (m_w v2) then
  (if m_t h v0 = 11 then if m_t h (m_g h v0 50) = 29 ∧ 0 ≤ (m_w v1) ∧ (m_w v1) < m_l h (m_g h v0 50) then if m_t h (m_g h (m_g h v0 50) (m_w v1)) = 20 ∧ 0 ≤ (m_w v5) ∧ (m_w v5) < m_l h (m_g h (m_g h v0 50) (m_w v1)) then if (m_v (m_w v2)) = 0 then none else some (m_p h (m_g h (m_g h v0 50) (m_w v1)) (m_w v5) (Int.tdiv (m_v ((m_w (m_g h (m_g h (m_g h v0 50) (m_w v1)) (m_w v5))) * (m_w v5))) (m_v (m_w v2)))) >>= fun h5 => (t11_fades_c25 v0 v1 v2 v3 v4 (v5 + 1) h5) else none else none else none)
else
  (some (v4 - v3) >>= fun x6 => (t11_fades_c70 v0 v1 v3 v4 x6 h)))
partial_fixpoint
def t11_fades (v0 v1 v2 v3 : Int) (h : m_H) : Option (Bool × m_H) :=
  (if m_t h v0 = 11 then if m_t h (m_g h v0 51) = 20 ∧ 0 ≤ (m_w v1) ∧ (m_w v1) < m_l h (m_g h v0 51) then some (m_g h (m_g h v0 51) (m_w v1)) >>= fun x3 => (if (m_w x3) < (m_w v2) then
  some (false, h)
else
  (if (m_w x3) < (m_w v3) then
    some (false, h)
  else
    (t11_fades_c25 v0 v1 v2 v3 x3 0 h))) else none else none)
def t11_lays_x17 (cc : Int) (v0 v1 v2 v3 v4 v5 v6 : Int) (h : m_H) : Option (Bool × m_H) :=
  if cc = 17 then
  (if m_t h v0 = 11 then if m_t h (m_g h v0 41) = 29 ∧ 0 ≤ (m_w v1) ∧ (m_w v1) < m_l h (m_g h v0 41) then if m_t h (m_g h (m_g h v0 41) (m_w v1)) = 20 ∧ 0 ≤ (m_w v2) ∧ (m_w v2) < m_l h (m_g h (m_g h v0 41) (m_w v1)) then (if (m_w v4) < (m_w (m_g h (m_g h (m_g h v0 41) (m_w v1)) (m_w v2))) then
    (if m_t h (m_g h v0 38) = 29 ∧ 0 ≤ (m_w v1) ∧ (m_w v1) < m_l h (m_g h v0 38) then if m_t h (m_g h (m_g h v0 38) (m_w v1)) = 20 ∧ 0 ≤ (m_w v2) ∧ (m_w v2) < m_l h (m_g h (m_g h v0 38) (m_w v1)) then if m_t h (m_g h v0 42) = 29 ∧ 0 ≤ (m_w v1) ∧ (m_w v1) < m_l h (m_g h v0 42) then if m_t h (m_g h (m_g h v0 42) (m_w v1)) = 20 ∧ 0 ≤ (m_w v2) ∧ (m_w v2) < m_l h (m_g h (m_g h v0 42) (m_w v1)) then some ((m_g h (m_g h (m_g h v0 38) (m_w v1)) (m_w v2)) + (v4 * (m_g h (m_g h (m_g h v0 42) (m_w v1)) (m_w v2)))) >>= fun x9 => (if 3000 < (m_w (x9 + v3)) then
      some (false, h)
    else
      (if m_t h (m_g h v0 54) = 20 ∧ 0 ≤ (m_w (m_g h v0 58)) ∧ (m_w (m_g h v0 58)) < m_l h (m_g h v0 54) then some (m_p h (m_g h v0 54) (m_w (m_g h v0 58)) v2) >>= fun h12 => if m_t h12 v0 = 11 then if m_t h12 (m_g h12 v0 39) = 29 ∧ 0 ≤ (m_w v1) ∧ (m_w v1) < m_l h12 (m_g h12 v0 39) then if m_t h12 (m_g h12 (m_g h12 v0 39) (m_w v1)) = 20 ∧ 0 ≤ (m_w v2) ∧ (m_w v2) < m_l h12 (m_g h12 (m_g h12 v0 39) (m_w v1)) then if m_t h12 (m_g h12 v0 55) = 20 ∧ 0 ≤ (m_w (m_g h12 v0 58)) ∧ (m_w (m_g h12 v0 58)) < m_l h12 (m_g h12 v0 55) then some (m_p h12 (m_g h12 v0 55) (m_w (m_g h12 v0 58)) (m_g h12 (m_g h12 (m_g h12 v0 39) (m_w v1)) (m_w v2))) >>= fun h17 => if m_t h17 v0 = 11 then if m_t h17 (m_g h17 v0 56) = 20 ∧ 0 ≤ (m_w (m_g h17 v0 58)) ∧ (m_w (m_g h17 v0 58)) < m_l h17 (m_g h17 v0 56) then some (m_p h17 (m_g h17 v0 56) (m_w (m_g h17 v0 58)) x9) >>= fun h20 => if m_t h20 v0 = 11 then if m_t h20 (m_g h20 v0 57) = 20 ∧ 0 ≤ (m_w (m_g h20 v0 58)) ∧ (m_w (m_g h20 v0 58)) < m_l h20 (m_g h20 v0 57) then some (m_p h20 (m_g h20 v0 57) (m_w (m_g h20 v0 58)) v3) >>= fun h23 => if m_t h23 v0 = 11 then some (m_p h23 v0 58 ((m_g h23 v0 58) + 1)) >>= fun h25 => (t11_lays_x17 125 v0 v1 v2 v3 v4 x9 0 h25) else none else none else none else none else none else none else none else none else none else none)) else none else none else none else none)
  else
    some (true, h)) else none else none else none)
  else if cc = 125 then
  (if (m_w v6) < (m_w v3) then
    (if m_t h v0 = 11 then if m_t h (m_g h v0 53) = 21 ∧ 0 ≤ (m_w (v5 + v6)) ∧ (m_w (v5 + v6)) < m_l h (m_g h v0 53) then if m_t h (m_g h v0 36) = 29 ∧ 0 ≤ (m_w v1) ∧ (m_w v1) < m_l h (m_g h v0 36) then if m_t h (m_g h (m_g h v0 36) (m_w v1)) = 20 ∧ 0 ≤ (m_w v2) ∧ (m_w v2) < m_l h (m_g h (m_g h v0 36) (m_w v1)) then if m_t h (m_g h v0 50) = 29 ∧ 0 ≤ (m_w (m_g h (m_g h (m_g h v0 36) (m_w v1)) (m_w v2))) ∧ (m_w (m_g h (m_g h (m_g h v0 36) (m_w v1)) (m_w v2))) < m_l h (m_g h v0 50) then if m_t h (m_g h (m_g h v0 50) (m_w (m_g h (m_g h (m_g h v0 36) (m_w v1)) (m_w v2)))) = 20 ∧ 0 ≤ (m_w v6) ∧ (m_w v6) < m_l h (m_g h (m_g h v0 50) (m_w (m_g h (m_g h (m_g h v0 36) (m_w v1)) (m_w v2)))) then some (m_p h (m_g h v0 53) (m_w (v5 + v6)) ((m_g h (m_g h v0 53) (m_w (v5 + v6))) + (m_w (m_g h (m_g h (m_g h v0 50) (m_w (m_g h (m_g h (m_g h v0 36) (m_w v1)) (m_w v2)))) (m_w v6))))) >>= fun h8 => (t11_lays_x17 125 v0 v1 v2 v3 v4 v5 (v6 + 1) h8) else none else none else none else none else none else none)
  else
    (if m_t h v0 = 11 then (if (m_w (m_g h v0 59)) < (m_w (v5 + v3)) then
      (some (m_p h v0 59 (v5 + v3)) >>= fun h11 => (t11_lays_x17 17 v0 v1 v2 v3 (v4 + 1) 0 0 h11))
    else
      (t11_lays_x17 17 v0 v1 v2 v3 (v4 + 1) 0 0 h)) else none))
  else none
partial_fixpoint
def t11_lays (v0 v1 v2 : Int) (h : m_H) : Option (Bool × m_H) :=
  (if m_t h v0 = 11 then if m_t h (m_g h v0 36) = 29 ∧ 0 ≤ (m_w v1) ∧ (m_w v1) < m_l h (m_g h v0 36) then if m_t h (m_g h (m_g h v0 36) (m_w v1)) = 20 ∧ 0 ≤ (m_w v2) ∧ (m_w v2) < m_l h (m_g h (m_g h v0 36) (m_w v1)) then if m_t h (m_g h v0 51) = 20 ∧ 0 ≤ (m_w (m_g h (m_g h (m_g h v0 36) (m_w v1)) (m_w v2))) ∧ (m_w (m_g h (m_g h (m_g h v0 36) (m_w v1)) (m_w v2))) < m_l h (m_g h v0 51) then some (m_g h (m_g h v0 51) (m_w (m_g h (m_g h (m_g h v0 36) (m_w v1)) (m_w v2)))) >>= fun x5 => (t11_lays_x17 17 v0 v1 v2 x5 0 0 0 h) else none else none else none else none)
def t11_does_c123 (v0 v2 v4 v5 : Int) (h : m_H) : Option (Bool × m_H) :=
  (if m_t h v0 = 11 then if m_t h (m_g h v0 51) = 20 ∧ 0 ≤ (m_w v4) ∧ (m_w v4) < m_l h (m_g h v0 51) then (if (m_w v5) < (m_w (m_g h (m_g h v0 51) (m_w v4))) then
  (if m_t h (m_g h v0 50) = 29 ∧ 0 ≤ (m_w v2) ∧ (m_w v2) < m_l h (m_g h v0 50) then if m_t h (m_g h v0 50) = 29 ∧ 0 ≤ (m_w v4) ∧ (m_w v4) < m_l h (m_g h v0 50) then if m_t h (m_g h (m_g h v0 50) (m_w v4)) = 20 ∧ 0 ≤ (m_w (((m_g h (m_g h v0 51) (m_w v4)) - 1) - v5)) ∧ (m_w (((m_g h (m_g h v0 51) (m_w v4)) - 1) - v5)) < m_l h (m_g h (m_g h v0 50) (m_w v4)) then if m_t h (m_g h (m_g h v0 50) (m_w v2)) = 20 ∧ 0 ≤ (m_w v5) ∧ (m_w v5) < m_l h (m_g h (m_g h v0 50) (m_w v2)) then some (m_p h (m_g h (m_g h v0 50) (m_w v2)) (m_w v5) (m_g h (m_g h (m_g h v0 50) (m_w v4)) (m_w (((m_g h (m_g h v0 51) (m_w v4)) - 1) - v5)))) >>= fun h8 => (t11_does_c123 v0 v2 v4 (v5 + 1) h8) else none else none else none else none)
else
  (if m_t h (m_g h v0 51) = 20 ∧ 0 ≤ (m_w v2) ∧ (m_w v2) < m_l h (m_g h v0 51) then some (m_p h (m_g h v0 51) (m_w v2) (m_g h (m_g h v0 51) (m_w v4))) >>= fun h10 => some (true, h10) else none)) else none else none)
partial_fixpoint
def t11_does_c410 (v0 v1 v2 v4 v5 : Int) (h : m_H) : Option (Bool × m_H) :=
  (if m_t h v0 = 11 then if m_t h (m_g h v0 51) = 20 ∧ 0 ≤ (m_w v4) ∧ (m_w v4) < m_l h (m_g h v0 51) then (if (m_w v5) < (m_w (m_g h (m_g h v0 51) (m_w v4))) then
  (if m_t h (m_g h v0 50) = 29 ∧ 0 ≤ (m_w v2) ∧ (m_w v2) < m_l h (m_g h v0 50) then if m_t h (m_g h v0 50) = 29 ∧ 0 ≤ (m_w v4) ∧ (m_w v4) < m_l h (m_g h v0 50) then if m_t h (m_g h (m_g h v0 50) (m_w v4)) = 20 ∧ 0 ≤ (m_w v5) ∧ (m_w v5) < m_l h (m_g h (m_g h v0 50) (m_w v4)) then if m_t h (m_g h v0 38) = 29 ∧ 0 ≤ (m_w v1) ∧ (m_w v1) < m_l h (m_g h v0 38) then if m_t h (m_g h (m_g h v0 38) (m_w v1)) = 20 ∧ 0 ≤ (m_w v2) ∧ (m_w v2) < m_l h (m_g h (m_g h v0 38) (m_w v1)) then t11_bounded (Int.tdiv (m_v ((m_w (m_g h (m_g h (m_g h v0 50) (m_w v4)) (m_w v5))) * (m_w (m_g h (m_g h (m_g h v0 38) (m_w v1)) (m_w v2))))) 64) h >>= fun ⟨r10, h9⟩ => if m_t h9 (m_g h (m_g h v0 50) (m_w v2)) = 20 ∧ 0 ≤ (m_w v5) ∧ (m_w v5) < m_l h9 (m_g h (m_g h v0 50) (m_w v2)) then some (m_p h9 (m_g h (m_g h v0 50) (m_w v2)) (m_w v5) r10) >>= fun h12 => (t11_does_c410 v0 v1 v2 v4 (v5 + 1) h12) else none else none else none else none else none else none)
else
  (if m_t h (m_g h v0 51) = 20 ∧ 0 ≤ (m_w v2) ∧ (m_w v2) < m_l h (m_g h v0 51) then some (m_p h (m_g h v0 51) (m_w v2) (m_g h (m_g h v0 51) (m_w v4))) >>= fun h14 => some (true, h14) else none)) else none else none)
partial_fixpoint
set_option maxRecDepth 100000 in
def t11_does (v0 v1 v2 v3 : Int) (h : m_H) : Option (Bool × m_H) :=
  (if m_t h v0 = 11 then if m_t h (m_g h v0 36) = 29 ∧ 0 ≤ (m_w v1) ∧ (m_w v1) < m_l h (m_g h v0 36) then if m_t h (m_g h (m_g h v0 36) (m_w v1)) = 20 ∧ 0 ≤ (m_w v2) ∧ (m_w v2) < m_l h (m_g h (m_g h v0 36) (m_w v1)) then some (m_g h (m_g h (m_g h v0 36) (m_w v1)) (m_w v2)) >>= fun x4 => if m_t h (m_g h v0 52) = 20 ∧ 0 ≤ (m_w v2) ∧ (m_w v2) < m_l h (m_g h v0 52) then some (m_p h (m_g h v0 52) (m_w v2) (-1)) >>= fun h6 => if m_t h6 v0 = 11 then if m_t h6 (m_g h6 v0 35) = 29 ∧ 0 ≤ (m_w v1) ∧ (m_w v1) < m_l h6 (m_g h6 v0 35) then if m_t h6 (m_g h6 (m_g h6 v0 35) (m_w v1)) = 20 ∧ 0 ≤ (m_w v2) ∧ (m_w v2) < m_l h6 (m_g h6 (m_g h6 v0 35) (m_w v1)) then (if (m_w (m_g h6 (m_g h6 (m_g h6 v0 35) (m_w v1)) (m_w v2))) = 0 then
  (t11_takes v0 v1 v2 v3 h6 >>= fun ⟨r12, h11⟩ => some (r12, h11))
else (if (m_w (m_g h6 (m_g h6 (m_g h6 v0 35) (m_w v1)) (m_w v2))) = 1 then
  (t11_takes v0 v1 v2 v3 h6 >>= fun ⟨r15, h14⟩ => some (r15, h14))
else (if (m_w (m_g h6 (m_g h6 (m_g h6 v0 35) (m_w v1)) (m_w v2))) = 2 then
  (if m_t h6 (m_g h6 v0 38) = 29 ∧ 0 ≤ (m_w v1) ∧ (m_w v1) < m_l h6 (m_g h6 v0 38) then if m_t h6 (m_g h6 (m_g h6 v0 38) (m_w v1)) = 20 ∧ 0 ≤ (m_w v2) ∧ (m_w v2) < m_l h6 (m_g h6 (m_g h6 v0 38) (m_w v1)) then if m_t h6 (m_g h6 v0 39) = 29 ∧ 0 ≤ (m_w v1) ∧ (m_w v1) < m_l h6 (m_g h6 v0 39) then if m_t h6 (m_g h6 (m_g h6 v0 39) (m_w v1)) = 20 ∧ 0 ≤ (m_w v2) ∧ (m_w v2) < m_l h6 (m_g h6 (m_g h6 v0 39) (m_w v1)) then t11_cuts v0 v2 x4 (m_g h6 (m_g h6 (m_g h6 v0 38) (m_w v1)) (m_w v2)) (m_g h6 (m_g h6 (m_g h6 v0 39) (m_w v1)) (m_w v2)) h6 >>= fun ⟨r22, h21⟩ => some (r22, h21) else none else none else none else none)
else (if (m_w (m_g h6 (m_g h6 (m_g h6 v0 35) (m_w v1)) (m_w v2))) = 3 then
  (t11_does_c123 v0 v2 x4 0 h6)
else (if (m_w (m_g h6 (m_g h6 (m_g h6 v0 35) (m_w v1)) (m_w v2))) = 4 then
  (if m_t h6 (m_g h6 v0 38) = 29 ∧ 0 ≤ (m_w v1) ∧ (m_w v1) < m_l h6 (m_g h6 v0 38) then if m_t h6 (m_g h6 (m_g h6 v0 38) (m_w v1)) = 20 ∧ 0 ≤ (m_w v2) ∧ (m_w v2) < m_l h6 (m_g h6 (m_g h6 v0 38) (m_w v1)) then if m_t h6 (m_g h6 v0 39) = 29 ∧ 0 ≤ (m_w v1) ∧ (m_w v1) < m_l h6 (m_g h6 v0 39) then if m_t h6 (m_g h6 (m_g h6 v0 39) (m_w v1)) = 20 ∧ 0 ≤ (m_w v2) ∧ (m_w v2) < m_l h6 (m_g h6 (m_g h6 v0 39) (m_w v1)) then t11_playsRow v0 v2 x4 (m_g h6 (m_g h6 (m_g h6 v0 38) (m_w v1)) (m_w v2)) (m_g h6 (m_g h6 (m_g h6 v0 39) (m_w v1)) (m_w v2)) 64 h6 >>= fun ⟨r30, h29⟩ => some (r30, h29) else none else none else none else none)
else (if (m_w (m_g h6 (m_g h6 (m_g h6 v0 35) (m_w v1)) (m_w v2))) = 5 then
  (if m_t h6 (m_g h6 v0 37) = 29 ∧ 0 ≤ (m_w v1) ∧ (m_w v1) < m_l h6 (m_g h6 v0 37) then if m_t h6 (m_g h6 (m_g h6 v0 37) (m_w v1)) = 20 ∧ 0 ≤ (m_w v2) ∧ (m_w v2) < m_l h6 (m_g h6 (m_g h6 v0 37) (m_w v1)) then if m_t h6 (m_g h6 v0 38) = 29 ∧ 0 ≤ (m_w v1) ∧ (m_w v1) < m_l h6 (m_g h6 v0 38) then if m_t h6 (m_g h6 (m_g h6 v0 38) (m_w v1)) = 20 ∧ 0 ≤ (m_w v2) ∧ (m_w v2) < m_l h6 (m_g h6 (m_g h6 v0 38) (m_w v1)) then t11_splices v0 v2 x4 (m_g h6 (m_g h6 (m_g h6 v0 37) (m_w v1)) (m_w v2)) (m_g h6 (m_g h6 (m_g h6 v0 38) (m_w v1)) (m_w v2)) h6 >>= fun ⟨r37, h36⟩ => some (r37, h36) else none else none else none else none)
else (if (m_w (m_g h6 (m_g h6 (m_g h6 v0 35) (m_w v1)) (m_w v2))) = 6 then
  (if m_t h6 (m_g h6 v0 38) = 29 ∧ 0 ≤ (m_w v1) ∧ (m_w v1) < m_l h6 (m_g h6 v0 38) then if m_t h6 (m_g h6 (m_g h6 v0 38) (m_w v1)) = 20 ∧ 0 ≤ (m_w v2) ∧ (m_w v2) < m_l h6 (m_g h6 (m_g h6 v0 38) (m_w v1)) then t11_loops v0 v2 x4 (m_g h6 (m_g h6 (m_g h6 v0 38) (m_w v1)) (m_w v2)) h6 >>= fun ⟨r42, h41⟩ => some (r42, h41) else none else none)
else (if (m_w (m_g h6 (m_g h6 (m_g h6 v0 35) (m_w v1)) (m_w v2))) = 7 then
  (t11_lists v0 v2 x4 h6 >>= fun ⟨_, h44⟩ => if m_t h44 v0 = 11 then if m_t h44 (m_g h44 v0 38) = 29 ∧ 0 ≤ (m_w v1) ∧ (m_w v1) < m_l h44 (m_g h44 v0 38) then if m_t h44 (m_g h44 (m_g h44 v0 38) (m_w v1)) = 20 ∧ 0 ≤ (m_w v2) ∧ (m_w v2) < m_l h44 (m_g h44 (m_g h44 v0 38) (m_w v1)) then if m_t h44 (m_g h44 v0 39) = 29 ∧ 0 ≤ (m_w v1) ∧ (m_w v1) < m_l h44 (m_g h44 v0 39) then if m_t h44 (m_g h44 (m_g h44 v0 39) (m_w v1)) = 20 ∧ 0 ≤ (m_w v2) ∧ (m_w v2) < m_l h44 (m_g h44 (m_g h44 v0 39) (m_w v1)) then t11_echoes v0 v2 (m_g h44 (m_g h44 (m_g h44 v0 38) (m_w v1)) (m_w v2)) (m_g h44 (m_g h44 (m_g h44 v0 39) (m_w v1)) (m_w v2)) h44 >>= fun ⟨_, h51⟩ => some (true, h51) else none else none else none else none else none)
else (if (m_w (m_g h6 (m_g h6 (m_g h6 v0 35) (m_w v1)) (m_w v2))) = 8 then
  (if m_t h6 (m_g h6 v0 38) = 29 ∧ 0 ≤ (m_w v1) ∧ (m_w v1) < m_l h6 (m_g h6 v0 38) then if m_t h6 (m_g h6 (m_g h6 v0 38) (m_w v1)) = 20 ∧ 0 ≤ (m_w v2) ∧ (m_w v2) < m_l h6 (m_g h6 (m_g h6 v0 38) (m_w v1)) then t11_isMachine v0 (m_g h6 (m_g h6 (m_g h6 v0 38) (m_w v1)) (m_w v2)) h6 >>= fun ⟨r57, h56⟩ => (if r57 = true then
    (if m_t h56 v0 = 11 then if m_t h56 (m_g h56 v0 38) = 29 ∧ 0 ≤ (m_w v1) ∧ (m_w v1) < m_l h56 (m_g h56 v0 38) then if m_t h56 (m_g h56 (m_g h56 v0 38) (m_w v1)) = 20 ∧ 0 ≤ (m_w v2) ∧ (m_w v2) < m_l h56 (m_g h56 (m_g h56 v0 38) (m_w v1)) then if m_t h56 (m_g h56 v0 19) = 20 ∧ 0 ≤ (m_w (m_g h56 (m_g h56 (m_g h56 v0 38) (m_w v1)) (m_w v2))) ∧ (m_w (m_g h56 (m_g h56 (m_g h56 v0 38) (m_w v1)) (m_w v2))) < m_l h56 (m_g h56 v0 19) then if m_t h56 (m_g h56 v0 20) = 20 ∧ 0 ≤ (m_w (m_g h56 (m_g h56 (m_g h56 v0 38) (m_w v1)) (m_w v2))) ∧ (m_w (m_g h56 (m_g h56 (m_g h56 v0 38) (m_w v1)) (m_w v2))) < m_l h56 (m_g h56 v0 20) then t11_playsRow v0 v2 x4 (1000 + (m_g h56 (m_g h56 v0 19) (m_w (m_g h56 (m_g h56 (m_g h56 v0 38) (m_w v1)) (m_w v2))))) 1000 (m_g h56 (m_g h56 v0 20) (m_w (m_g h56 (m_g h56 (m_g h56 v0 38) (m_w v1)) (m_w v2)))) h56 >>= fun ⟨r65, h64⟩ => (if r65 = true then
      some (true, h64)
    else
      some (false, h64)) else none else none else none else none else none)
  else
    some (false, h56)) else none else none)
else (if (m_w (m_g h6 (m_g h6 (m_g h6 v0 35) (m_w v1)) (m_w v2))) = 9 then
  (if m_t h6 (m_g h6 v0 38) = 29 ∧ 0 ≤ (m_w v1) ∧ (m_w v1) < m_l h6 (m_g h6 v0 38) then if m_t h6 (m_g h6 (m_g h6 v0 38) (m_w v1)) = 20 ∧ 0 ≤ (m_w v2) ∧ (m_w v2) < m_l h6 (m_g h6 (m_g h6 v0 38) (m_w v1)) then if m_t h6 (m_g h6 v0 39) = 29 ∧ 0 ≤ (m_w v1) ∧ (m_w v1) < m_l h6 (m_g h6 v0 39) then if m_t h6 (m_g h6 (m_g h6 v0 39) (m_w v1)) = 20 ∧ 0 ≤ (m_w v2) ∧ (m_w v2) < m_l h6 (m_g h6 (m_g h6 v0 39) (m_w v1)) then if m_t h6 (m_g h6 v0 40) = 29 ∧ 0 ≤ (m_w v1) ∧ (m_w v1) < m_l h6 (m_g h6 v0 40) then if m_t h6 (m_g h6 (m_g h6 v0 40) (m_w v1)) = 20 ∧ 0 ≤ (m_w v2) ∧ (m_w v2) < m_l h6 (m_g h6 (m_g h6 v0 40) (m_w v1)) then t11_filters v0 v2 x4 (m_g h6 (m_g h6 (m_g h6 v0 38) (m_w v1)) (m_w v2)) (m_g h6 (m_g h6 (m_g h6 v0 39) (m_w v1)) (m_w v2)) (m_g h6 (m_g h6 (m_g h6 v0 40) (m_w v1)) (m_w v2)) h6 >>= fun ⟨_, h74⟩ => some (true, h74) else none else none else none else none else none else none)
else (if (m_w (m_g h6 (m_g h6 (m_g h6 v0 35) (m_w v1)) (m_w v2))) = 10 then
  (t11_lists v0 v2 x4 h6 >>= fun ⟨_, h77⟩ => if m_t h77 v0 = 11 then if m_t h77 (m_g h77 v0 38) = 29 ∧ 0 ≤ (m_w v1) ∧ (m_w v1) < m_l h77 (m_g h77 v0 38) then if m_t h77 (m_g h77 (m_g h77 v0 38) (m_w v1)) = 20 ∧ 0 ≤ (m_w v2) ∧ (m_w v2) < m_l h77 (m_g h77 (m_g h77 v0 38) (m_w v1)) then if m_t h77 (m_g h77 v0 39) = 29 ∧ 0 ≤ (m_w v1) ∧ (m_w v1) < m_l h77 (m_g h77 v0 39) then if m_t h77 (m_g h77 (m_g h77 v0 39) (m_w v1)) = 20 ∧ 0 ≤ (m_w v2) ∧ (m_w v2) < m_l h77 (m_g h77 (m_g h77 v0 39) (m_w v1)) then t11_fades v0 v2 (m_g h77 (m_g h77 (m_g h77 v0 38) (m_w v1)) (m_w v2)) (m_g h77 (m_g h77 (m_g h77 v0 39) (m_w v1)) (m_w v2)) h77 >>= fun ⟨r85, h84⟩ => some (r85, h84) else none else none else none else none else none)
else (if (m_w (m_g h6 (m_g h6 (m_g h6 v0 35) (m_w v1)) (m_w v2))) = 11 then
  (t11_does_c410 v0 v1 v2 x4 0 h6)
else (t11_lays v0 v1 v2 h6 >>= fun ⟨r88, h87⟩ => some (r88, h87)))))))))))))) else none else none else none else none else none else none else none)
def t11_makes__c34 (v0 v1 v2 v3 : Int) (h : m_H) : Option (Int × m_H) :=
  (if m_t h v0 = 11 then if m_t h (m_g h v0 34) = 20 ∧ 0 ≤ (m_w v1) ∧ (m_w v1) < m_l h (m_g h v0 34) then (if (m_w v3) < (m_w (m_g h (m_g h v0 34) (m_w v1))) then
  (t11_does v0 v1 v3 v2 h >>= fun ⟨r5, h4⟩ => (if r5 = true then
    (t11_makes__c34 v0 v1 v2 (v3 + 1) h4)
  else
    some (v3, h4)))
else
  some ((-1), h)) else none else none)
partial_fixpoint
def t11_makes__c12 (v0 v1 v2 v3 : Int) (h : m_H) : Option (Int × m_H) :=
  (if (m_w v3) < 3000 then
  (if m_t h v0 = 11 then if m_t h (m_g h v0 53) = 21 ∧ 0 ≤ (m_w v3) ∧ (m_w v3) < m_l h (m_g h v0 53) then some (m_p h (m_g h v0 53) (m_w v3) 0) >>= fun h4 => (t11_makes__c12 v0 v1 v2 (v3 + 1) h4) else none else none)
else
  (t11_makes__c34 v0 v1 v2 0 h))
partial_fixpoint
def t11_makes_ (v0 v1 v2 : Int) (h : m_H) : Option (Int × m_H) :=
  (if m_t h v0 = 11 then some (m_p h v0 58 0) >>= fun h2 => if m_t h2 v0 = 11 then some (m_p h2 v0 59 0) >>= fun h4 => (t11_makes__c12 v0 v1 v2 0 h4) else none else none)
def t11_canMake (v0 v1 v2 : Int) (h : m_H) : Option (Bool × m_H) :=
  (if m_t h v0 = 11 then t11_isScore v0 v1 h >>= fun ⟨r3, h2⟩ => (if r3 = true then
  (if m_t h2 v0 = 11 then t11_in (m_w v2) 0 (m_w (m_g h2 v0 18)) h2 >>= fun ⟨r7, h6⟩ => (if r7 = true then
    some (true, h6)
  else
    some (false, h6)) else none)
else
  some (false, h2)) else none)
def t11_make_c146 (v0 v1 v3 : Int) (h : m_H) : Option (Int × m_H) :=
  (if m_t h v0 = 11 then if m_t h (m_g h v0 34) = 20 ∧ 0 ≤ (m_w v1) ∧ (m_w v1) < m_l h (m_g h v0 34) then (if (m_w v3) < (m_w (m_g h (m_g h v0 34) (m_w v1))) then
  (if m_t h (m_g h v0 51) = 20 ∧ 0 ≤ (m_w v3) ∧ (m_w v3) < m_l h (m_g h v0 51) then if m_t h (m_g h v0 64) = 20 ∧ 0 ≤ (m_w v3) ∧ (m_w v3) < m_l h (m_g h v0 64) then some (m_p h (m_g h v0 64) (m_w v3) (m_g h (m_g h v0 51) (m_w v3))) >>= fun h6 => if m_t h6 v0 = 11 then if m_t h6 (m_g h6 v0 52) = 20 ∧ 0 ≤ (m_w v3) ∧ (m_w v3) < m_l h6 (m_g h6 v0 52) then if m_t h6 (m_g h6 v0 65) = 20 ∧ 0 ≤ (m_w v3) ∧ (m_w v3) < m_l h6 (m_g h6 v0 65) then some (m_p h6 (m_g h6 v0 65) (m_w v3) (m_g h6 (m_g h6 v0 52) (m_w v3))) >>= fun h10 => if m_t h10 v0 = 11 then if m_t h10 (m_g h10 v0 71) = 29 ∧ 0 ≤ (m_w v1) ∧ (m_w v1) < m_l h10 (m_g h10 v0 71) then if m_t h10 (m_g h10 v0 52) = 20 ∧ 0 ≤ (m_w v3) ∧ (m_w v3) < m_l h10 (m_g h10 v0 52) then if m_t h10 (m_g h10 (m_g h10 v0 71) (m_w v1)) = 20 ∧ 0 ≤ (m_w v3) ∧ (m_w v3) < m_l h10 (m_g h10 (m_g h10 v0 71) (m_w v1)) then some (m_p h10 (m_g h10 (m_g h10 v0 71) (m_w v1)) (m_w v3) (m_g h10 (m_g h10 v0 52) (m_w v3))) >>= fun h15 => (t11_make_c146 v0 v1 (v3 + 1) h15) else none else none else none else none else none else none else none else none else none)
else
  some ((m_g h v0 59), h)) else none else none)
partial_fixpoint
def t11_make_c75 (v0 v1 v3 : Int) (h : m_H) : Option (Int × m_H) :=
  (if m_t h v0 = 11 then (if (m_w v3) < (m_w (m_g h v0 58)) then
  (if m_t h (m_g h v0 54) = 20 ∧ 0 ≤ (m_w v3) ∧ (m_w v3) < m_l h (m_g h v0 54) then if m_t h (m_g h v0 66) = 20 ∧ 0 ≤ (m_w v3) ∧ (m_w v3) < m_l h (m_g h v0 66) then some (m_p h (m_g h v0 66) (m_w v3) (m_g h (m_g h v0 54) (m_w v3))) >>= fun h5 => if m_t h5 v0 = 11 then if m_t h5 (m_g h5 v0 55) = 20 ∧ 0 ≤ (m_w v3) ∧ (m_w v3) < m_l h5 (m_g h5 v0 55) then if m_t h5 (m_g h5 v0 67) = 20 ∧ 0 ≤ (m_w v3) ∧ (m_w v3) < m_l h5 (m_g h5 v0 67) then some (m_p h5 (m_g h5 v0 67) (m_w v3) (m_g h5 (m_g h5 v0 55) (m_w v3))) >>= fun h9 => if m_t h9 v0 = 11 then if m_t h9 (m_g h9 v0 56) = 20 ∧ 0 ≤ (m_w v3) ∧ (m_w v3) < m_l h9 (m_g h9 v0 56) then if m_t h9 (m_g h9 v0 68) = 20 ∧ 0 ≤ (m_w v3) ∧ (m_w v3) < m_l h9 (m_g h9 v0 68) then some (m_p h9 (m_g h9 v0 68) (m_w v3) (m_g h9 (m_g h9 v0 56) (m_w v3))) >>= fun h13 => if m_t h13 v0 = 11 then if m_t h13 (m_g h13 v0 57) = 20 ∧ 0 ≤ (m_w v3) ∧ (m_w v3) < m_l h13 (m_g h13 v0 57) then if m_t h13 (m_g h13 v0 69) = 20 ∧ 0 ≤ (m_w v3) ∧ (m_w v3) < m_l h13 (m_g h13 v0 69) then some (m_p h13 (m_g h13 v0 69) (m_w v3) (m_g h13 (m_g h13 v0 57) (m_w v3))) >>= fun h17 => (t11_make_c75 v0 v1 (v3 + 1) h17) else none else none else none else none else none else none else none else none else none else none else none)
else
  (if m_t h (m_g h v0 70) = 23 ∧ 0 ≤ (m_w v1) ∧ (m_w v1) < m_l h (m_g h v0 70) then some (m_p h (m_g h v0 70) (m_w v1) 1) >>= fun h19 => (t11_make_c146 v0 v1 0 h19) else none)) else none)
partial_fixpoint
def t11_make_c36 (v0 v1 v3 : Int) (h : m_H) : Option (Int × m_H) :=
  (if m_t h v0 = 11 then (if (m_w v3) < (m_w (m_g h v0 59)) then
  (if m_t h (m_g h v0 53) = 21 ∧ 0 ≤ (m_w v3) ∧ (m_w v3) < m_l h (m_g h v0 53) then t11_bounded (m_g h (m_g h v0 53) (m_w v3)) h >>= fun ⟨r5, h4⟩ => if m_t h4 (m_g h v0 63) = 20 ∧ 0 ≤ (m_w v3) ∧ (m_w v3) < m_l h4 (m_g h v0 63) then some (m_p h4 (m_g h v0 63) (m_w v3) r5) >>= fun h7 => (t11_make_c36 v0 v1 (v3 + 1) h7) else none else none)
else
  (some (m_p h v0 62 (m_g h v0 58)) >>= fun h8 => (t11_make_c75 v0 v1 0 h8))) else none)
partial_fixpoint
def t11_make (v0 v1 v2 : Int) (h : m_H) : Option (Int × m_H) :=
  (if m_t h v0 = 11 then t11_canMake v0 v1 v2 h >>= fun ⟨r3, h2⟩ => (if r3 = true then
  (if m_t h2 v0 = 11 then t11_makes_ v0 v1 v2 h2 >>= fun ⟨r7, h6⟩ => (if (m_w r7) = (-1) then
    (if m_t h6 v0 = 11 then some (m_p h6 v0 60 v1) >>= fun h10 => if m_t h10 v0 = 11 then some (m_p h10 v0 61 (m_g h10 v0 59)) >>= fun h12 => (t11_make_c36 v0 v1 0 h12) else none else none)
  else
    some ((-1), h6)) else none)
else
  some ((-1), h2)) else none)
def t11_fails_ (v0 v1 v2 : Int) (h : m_H) : Option (Int × m_H) :=
  (if m_t h v0 = 11 then t11_canMake v0 v1 v2 h >>= fun ⟨r3, h2⟩ => (if r3 = true then
  (if m_t h2 v0 = 11 then t11_makes_ v0 v1 v2 h2 >>= fun ⟨r7, h6⟩ => some (r7, h6) else none)
else
  some ((-1), h2)) else none)
def t11_out (v0 v1 : Int) (h : m_H) : Option (Int × m_H) :=
  (if m_t h v0 = 11 then (if (m_w (m_g h v0 60)) = (-1) then
  some ((-2147483648), h)
else
  (t11_in (m_w v1) 0 (m_w ((m_g h v0 61) - 1)) h >>= fun ⟨r4, h3⟩ => (if r4 = true then
    (if m_t h3 v0 = 11 then if m_t h3 (m_g h3 v0 63) = 20 ∧ 0 ≤ (m_w v1) ∧ (m_w v1) < m_l h3 (m_g h3 v0 63) then some ((m_g h3 (m_g h3 v0 63) (m_w v1)), h3) else none else none)
  else
    some ((-2147483648), h3)))) else none)
def t11_isOver (v0 v1 v2 : Int) (h : m_H) : Option (Bool × m_H) :=
  (if m_t h v0 = 11 then if m_t h (m_g h v0 68) = 20 ∧ 0 ≤ (m_w v1) ∧ (m_w v1) < m_l h (m_g h v0 68) then if m_t h (m_g h v0 69) = 20 ∧ 0 ≤ (m_w v1) ∧ (m_w v1) < m_l h (m_g h v0 69) then t11_in (m_w v2) (m_w (m_g h (m_g h v0 68) (m_w v1))) (m_w (((m_g h (m_g h v0 68) (m_w v1)) + (m_g h (m_g h v0 69) (m_w v1))) - 1)) h >>= fun ⟨r5, h4⟩ => some (r5, h4) else none else none else none)
def t11_why_c171 (v0 v2 v3 v4 : Int) (h : m_H) : Option (Int × m_H) :=
  (if m_t h v0 = 11 then if m_t h (m_g h v0 34) = 20 ∧ 0 ≤ (m_w (m_g h v0 60)) ∧ (m_w (m_g h v0 60)) < m_l h (m_g h v0 34) then (if (m_w v4) < (m_w (m_g h (m_g h v0 34) (m_w (m_g h v0 60)))) then
  (if m_t h (m_g h v0 72) = 23 ∧ 0 ≤ (m_w v4) ∧ (m_w v4) < m_l h (m_g h v0 72) then (if (m_w (m_g h (m_g h v0 72) (m_w v4))) = 0 then
    (t11_why_c171 v0 v2 v3 (v4 + 1) h)
  else
    (if (m_w v3) = (m_w v2) then
      some (v4, h)
    else
      (t11_why_c171 v0 v2 (v3 + 1) (v4 + 1) h))) else none)
else
  some ((-1), h)) else none else none)
partial_fixpoint
def t11_why_x80 (cc : Int) (v0 v2 v3 : Int) (h : m_H) : Option (Int × m_H) :=
  if cc = 80 then
  (if (m_w v3) < 0 then
    (t11_why_c171 v0 v2 0 0 h)
  else
    (if m_t h v0 = 11 then if m_t h (m_g h v0 72) = 23 ∧ 0 ≤ (m_w v3) ∧ (m_w v3) < m_l h (m_g h v0 72) then (if (m_w (m_g h (m_g h v0 72) (m_w v3))) = 0 then
      (t11_why_x80 80 v0 v2 (v3 + (-1)) h)
    else
      (if m_t h (m_g h v0 36) = 29 ∧ 0 ≤ (m_w (m_g h v0 60)) ∧ (m_w (m_g h v0 60)) < m_l h (m_g h v0 36) then if m_t h (m_g h (m_g h v0 36) (m_w (m_g h v0 60))) = 20 ∧ 0 ≤ (m_w v3) ∧ (m_w v3) < m_l h (m_g h (m_g h v0 36) (m_w (m_g h v0 60))) then (if (m_w (m_g h (m_g h (m_g h v0 36) (m_w (m_g h v0 60))) (m_w v3))) = (-1) then
        (t11_why_x80 128 v0 v2 v3 h)
      else
        (if m_t h (m_g h v0 72) = 23 ∧ 0 ≤ (m_w (m_g h (m_g h (m_g h v0 36) (m_w (m_g h v0 60))) (m_w v3))) ∧ (m_w (m_g h (m_g h (m_g h v0 36) (m_w (m_g h v0 60))) (m_w v3))) < m_l h (m_g h v0 72) then some (m_p h (m_g h v0 72) (m_w (m_g h (m_g h (m_g h v0 36) (m_w (m_g h v0 60))) (m_w v3))) 1) >>= fun h9 => (t11_why_x80 128 v0 v2 v3 h9) else none)) else none else none)) else none else none))
  else if cc = 128 then
  (if m_t h v0 = 11 then if m_t h (m_g h v0 37) = 29 ∧ 0 ≤ (m_w (m_g h v0 60)) ∧ (m_w (m_g h v0 60)) < m_l h (m_g h v0 37) then if m_t h (m_g h (m_g h v0 37) (m_w (m_g h v0 60))) = 20 ∧ 0 ≤ (m_w v3) ∧ (m_w v3) < m_l h (m_g h (m_g h v0 37) (m_w (m_g h v0 60))) then (if (m_w (m_g h (m_g h (m_g h v0 37) (m_w (m_g h v0 60))) (m_w v3))) = (-1) then
    (t11_why_x80 80 v0 v2 (v3 + (-1)) h)
  else
    (if m_t h (m_g h v0 72) = 23 ∧ 0 ≤ (m_w (m_g h (m_g h (m_g h v0 37) (m_w (m_g h v0 60))) (m_w v3))) ∧ (m_w (m_g h (m_g h (m_g h v0 37) (m_w (m_g h v0 60))) (m_w v3))) < m_l h (m_g h v0 72) then some (m_p h (m_g h v0 72) (m_w (m_g h (m_g h (m_g h v0 37) (m_w (m_g h v0 60))) (m_w v3))) 1) >>= fun h6 => (t11_why_x80 80 v0 v2 (v3 + (-1)) h6) else none)) else none else none else none)
  else none
partial_fixpoint
def t11_why_c33 (v0 v1 v2 v3 : Int) (h : m_H) : Option (Int × m_H) :=
  (if m_t h v0 = 11 then (if (m_w v3) < (m_w (m_g h v0 62)) then
  (t11_isOver v0 v3 v1 h >>= fun ⟨r4, h3⟩ => (if r4 = true then
    (if m_t h3 v0 = 11 then if m_t h3 (m_g h3 v0 66) = 20 ∧ 0 ≤ (m_w v3) ∧ (m_w v3) < m_l h3 (m_g h3 v0 66) then if m_t h3 (m_g h3 v0 72) = 23 ∧ 0 ≤ (m_w (m_g h3 (m_g h3 v0 66) (m_w v3))) ∧ (m_w (m_g h3 (m_g h3 v0 66) (m_w v3))) < m_l h3 (m_g h3 v0 72) then some (m_p h3 (m_g h3 v0 72) (m_w (m_g h3 (m_g h3 v0 66) (m_w v3))) 1) >>= fun h9 => (t11_why_c33 v0 v1 v2 (v3 + 1) h9) else none else none else none)
  else
    (t11_why_c33 v0 v1 v2 (v3 + 1) h3)))
else
  (if m_t h (m_g h v0 34) = 20 ∧ 0 ≤ (m_w (m_g h v0 60)) ∧ (m_w (m_g h v0 60)) < m_l h (m_g h v0 34) then some ((m_g h (m_g h v0 34) (m_w (m_g h v0 60))) - 1) >>= fun x11 => (t11_why_x80 80 v0 v2 x11 h) else none)) else none)
partial_fixpoint
def t11_why_c12 (v0 v1 v2 v3 : Int) (h : m_H) : Option (Int × m_H) :=
  (if (m_w v3) < 40 then
  (if m_t h v0 = 11 then if m_t h (m_g h v0 72) = 23 ∧ 0 ≤ (m_w v3) ∧ (m_w v3) < m_l h (m_g h v0 72) then some (m_p h (m_g h v0 72) (m_w v3) 0) >>= fun h4 => (t11_why_c12 v0 v1 v2 (v3 + 1) h4) else none else none)
else
  (t11_why_c33 v0 v1 v2 0 h))
partial_fixpoint
def t11_why (v0 v1 v2 : Int) (h : m_H) : Option (Int × m_H) :=
  (if m_t h v0 = 11 then (if (m_w (m_g h v0 60)) = (-1) then
  some ((-1), h)
else
  (t11_why_c12 v0 v1 v2 0 h)) else none)
def t11_leads (v0 : Int) (h : m_H) : Option (Unit × m_H) :=
  (if m_t h v0 = 11 then some (m_g h v0 60) >>= fun x2 => some (m_g h v0 73) >>= fun x3 => if m_t h (m_g h v0 36) = 29 ∧ 0 ≤ (m_w x2) ∧ (m_w x2) < m_l h (m_g h v0 36) then if m_t h (m_g h (m_g h v0 36) (m_w x2)) = 20 ∧ 0 ≤ (m_w x3) ∧ (m_w x3) < m_l h (m_g h (m_g h v0 36) (m_w x2)) then some (m_g h (m_g h (m_g h v0 36) (m_w x2)) (m_w x3)) >>= fun x6 => some (m_g h v0 74) >>= fun x7 => some (m_p h v0 73 x6) >>= fun h8 => if m_t h8 v0 = 11 then if m_t h8 (m_g h8 v0 35) = 29 ∧ 0 ≤ (m_w x2) ∧ (m_w x2) < m_l h8 (m_g h8 v0 35) then if m_t h8 (m_g h8 (m_g h8 v0 35) (m_w x2)) = 20 ∧ 0 ≤ (m_w x3) ∧ (m_w x3) < m_l h8 (m_g h8 (m_g h8 v0 35) (m_w x2)) then (if (m_w (m_g h8 (m_g h8 (m_g h8 v0 35) (m_w x2)) (m_w x3))) = 2 then
  (if m_t h8 (m_g h8 v0 38) = 29 ∧ 0 ≤ (m_w x2) ∧ (m_w x2) < m_l h8 (m_g h8 v0 38) then if m_t h8 (m_g h8 (m_g h8 v0 38) (m_w x2)) = 20 ∧ 0 ≤ (m_w x3) ∧ (m_w x3) < m_l h8 (m_g h8 (m_g h8 v0 38) (m_w x2)) then some (m_p h8 v0 74 (x7 + (m_g h8 (m_g h8 (m_g h8 v0 38) (m_w x2)) (m_w x3)))) >>= fun h15 => some ((), h15) else none else none)
else (if (m_w (m_g h8 (m_g h8 (m_g h8 v0 35) (m_w x2)) (m_w x3))) = 3 then
  (if m_t h8 (m_g h8 v0 64) = 20 ∧ 0 ≤ (m_w x6) ∧ (m_w x6) < m_l h8 (m_g h8 v0 64) then some (m_p h8 v0 74 (((m_g h8 (m_g h8 v0 64) (m_w x6)) - 1) - x7)) >>= fun h18 => some ((), h18) else none)
else (if (m_w (m_g h8 (m_g h8 (m_g h8 v0 35) (m_w x2)) (m_w x3))) = 4 then
  (if m_t h8 (m_g h8 v0 38) = 29 ∧ 0 ≤ (m_w x2) ∧ (m_w x2) < m_l h8 (m_g h8 v0 38) then if m_t h8 (m_g h8 (m_g h8 v0 38) (m_w x2)) = 20 ∧ 0 ≤ (m_w x3) ∧ (m_w x3) < m_l h8 (m_g h8 (m_g h8 v0 38) (m_w x2)) then if m_t h8 (m_g h8 v0 39) = 29 ∧ 0 ≤ (m_w x2) ∧ (m_w x2) < m_l h8 (m_g h8 v0 39) then if m_t h8 (m_g h8 (m_g h8 v0 39) (m_w x2)) = 20 ∧ 0 ≤ (m_w x3) ∧ (m_w x3) < m_l h8 (m_g h8 (m_g h8 v0 39) (m_w x2)) then if (m_v (m_w (m_g h8 (m_g h8 (m_g h8 v0 39) (m_w x2)) (m_w x3)))) = 0 then none else some (m_p h8 v0 74 (Int.tdiv (m_v ((m_w x7) * (m_w (m_g h8 (m_g h8 (m_g h8 v0 38) (m_w x2)) (m_w x3))))) (m_v (m_w (m_g h8 (m_g h8 (m_g h8 v0 39) (m_w x2)) (m_w x3)))))) >>= fun h24 => some ((), h24) else none else none else none else none)
else (if (m_w (m_g h8 (m_g h8 (m_g h8 v0 35) (m_w x2)) (m_w x3))) = 5 then
  (if m_t h8 (m_g h8 v0 64) = 20 ∧ 0 ≤ (m_w x6) ∧ (m_w x6) < m_l h8 (m_g h8 v0 64) then (if (m_w x7) < (m_w (m_g h8 (m_g h8 v0 64) (m_w x6))) then
    some ((), h8)
  else
    (if m_t h8 (m_g h8 v0 37) = 29 ∧ 0 ≤ (m_w x2) ∧ (m_w x2) < m_l h8 (m_g h8 v0 37) then if m_t h8 (m_g h8 (m_g h8 v0 37) (m_w x2)) = 20 ∧ 0 ≤ (m_w x3) ∧ (m_w x3) < m_l h8 (m_g h8 (m_g h8 v0 37) (m_w x2)) then some (m_p h8 v0 73 (m_g h8 (m_g h8 (m_g h8 v0 37) (m_w x2)) (m_w x3))) >>= fun h30 => if m_t h30 v0 = 11 then if m_t h30 (m_g h30 v0 64) = 20 ∧ 0 ≤ (m_w x6) ∧ (m_w x6) < m_l h30 (m_g h30 v0 64) then if m_t h30 (m_g h30 v0 38) = 29 ∧ 0 ≤ (m_w x2) ∧ (m_w x2) < m_l h30 (m_g h30 v0 38) then if m_t h30 (m_g h30 (m_g h30 v0 38) (m_w x2)) = 20 ∧ 0 ≤ (m_w x3) ∧ (m_w x3) < m_l h30 (m_g h30 (m_g h30 v0 38) (m_w x2)) then some (m_p h30 v0 74 ((x7 - (m_g h30 (m_g h30 v0 64) (m_w x6))) + (m_g h30 (m_g h30 (m_g h30 v0 38) (m_w x2)) (m_w x3)))) >>= fun h35 => some ((), h35) else none else none else none else none else none else none)) else none)
else (if (m_w (m_g h8 (m_g h8 (m_g h8 v0 35) (m_w x2)) (m_w x3))) = 6 then
  (if m_t h8 (m_g h8 v0 64) = 20 ∧ 0 ≤ (m_w x6) ∧ (m_w x6) < m_l h8 (m_g h8 v0 64) then if (m_w (m_g h8 (m_g h8 v0 64) (m_w x6))) = 0 then none else some (m_p h8 v0 74 (Int.tmod (m_w x7) (m_w (m_g h8 (m_g h8 v0 64) (m_w x6))))) >>= fun h38 => some ((), h38) else none)
else (if (m_w (m_g h8 (m_g h8 (m_g h8 v0 35) (m_w x2)) (m_w x3))) = 7 then
  some ((), h8)
else (if (m_w (m_g h8 (m_g h8 (m_g h8 v0 35) (m_w x2)) (m_w x3))) = 8 then
  (if m_t h8 (m_g h8 v0 38) = 29 ∧ 0 ≤ (m_w x2) ∧ (m_w x2) < m_l h8 (m_g h8 v0 38) then if m_t h8 (m_g h8 (m_g h8 v0 38) (m_w x2)) = 20 ∧ 0 ≤ (m_w x3) ∧ (m_w x3) < m_l h8 (m_g h8 (m_g h8 v0 38) (m_w x2)) then if m_t h8 (m_g h8 v0 19) = 20 ∧ 0 ≤ (m_w (m_g h8 (m_g h8 (m_g h8 v0 38) (m_w x2)) (m_w x3))) ∧ (m_w (m_g h8 (m_g h8 (m_g h8 v0 38) (m_w x2)) (m_w x3))) < m_l h8 (m_g h8 v0 19) then some (m_p h8 v0 74 (Int.tdiv (m_v ((m_w x7) * (m_w (1000 + (m_g h8 (m_g h8 v0 19) (m_w (m_g h8 (m_g h8 (m_g h8 v0 38) (m_w x2)) (m_w x3)))))))) 1000)) >>= fun h44 => some ((), h44) else none else none else none)
else some ((), h8)))))))) else none else none else none else none else none else none)
def t11_lead_c104 (v0 v3 : Int) (h : m_H) : Option (Int × m_H) :=
  (if m_t h v0 = 11 then if m_t h (m_g h v0 35) = 29 ∧ 0 ≤ (m_w (m_g h v0 60)) ∧ (m_w (m_g h v0 60)) < m_l h (m_g h v0 35) then if m_t h (m_g h (m_g h v0 35) (m_w (m_g h v0 60))) = 20 ∧ 0 ≤ (m_w (m_g h v0 73)) ∧ (m_w (m_g h v0 73)) < m_l h (m_g h (m_g h v0 35) (m_w (m_g h v0 60))) then (if 1 < (m_w (m_g h (m_g h (m_g h v0 35) (m_w (m_g h v0 60))) (m_w (m_g h v0 73)))) then
  (t11_leads v0 h >>= fun ⟨_, h5⟩ => (t11_lead_c104 v0 v3 h5))
else
  (if (m_w v3) = 1 then
    (if m_t h (m_g h v0 65) = 20 ∧ 0 ≤ (m_w (m_g h v0 73)) ∧ (m_w (m_g h v0 73)) < m_l h (m_g h v0 65) then some ((m_g h (m_g h v0 65) (m_w (m_g h v0 73))), h) else none)
  else
    some ((m_g h v0 74), h))) else none else none else none)
partial_fixpoint
def t11_lead_c25 (v0 v1 v2 v3 v4 : Int) (h : m_H) : Option (Int × m_H) :=
  (if m_t h v0 = 11 then (if (m_w v4) < (m_w (m_g h v0 62)) then
  (if m_t h (m_g h v0 67) = 20 ∧ 0 ≤ (m_w v4) ∧ (m_w v4) < m_l h (m_g h v0 67) then (if (m_w (m_g h (m_g h v0 67) (m_w v4))) = (m_w v2) then
    (t11_isOver v0 v4 v1 h >>= fun ⟨r6, h5⟩ => (if r6 = true then
      (if (m_w v3) = 0 then
        (if m_t h5 v0 = 11 then if m_t h5 (m_g h5 v0 66) = 20 ∧ 0 ≤ (m_w v4) ∧ (m_w v4) < m_l h5 (m_g h5 v0 66) then some ((m_g h5 (m_g h5 v0 66) (m_w v4)), h5) else none else none)
      else
        (if m_t h5 v0 = 11 then if m_t h5 (m_g h5 v0 36) = 29 ∧ 0 ≤ (m_w (m_g h5 v0 60)) ∧ (m_w (m_g h5 v0 60)) < m_l h5 (m_g h5 v0 36) then if m_t h5 (m_g h5 v0 66) = 20 ∧ 0 ≤ (m_w v4) ∧ (m_w v4) < m_l h5 (m_g h5 v0 66) then if m_t h5 (m_g h5 (m_g h5 v0 36) (m_w (m_g h5 v0 60))) = 20 ∧ 0 ≤ (m_w (m_g h5 (m_g h5 v0 66) (m_w v4))) ∧ (m_w (m_g h5 (m_g h5 v0 66) (m_w v4))) < m_l h5 (m_g h5 (m_g h5 v0 36) (m_w (m_g h5 v0 60))) then some (m_p h5 v0 73 (m_g h5 (m_g h5 (m_g h5 v0 36) (m_w (m_g h5 v0 60))) (m_w (m_g h5 (m_g h5 v0 66) (m_w v4))))) >>= fun h15 => if m_t h15 v0 = 11 then if m_t h15 (m_g h15 v0 68) = 20 ∧ 0 ≤ (m_w v4) ∧ (m_w v4) < m_l h15 (m_g h15 v0 68) then some (m_p h15 v0 74 (v1 - (m_g h15 (m_g h15 v0 68) (m_w v4)))) >>= fun h18 => (t11_lead_c104 v0 v3 h18) else none else none else none else none else none else none))
    else
      (t11_lead_c25 v0 v1 v2 v3 (v4 + 1) h5)))
  else
    (t11_lead_c25 v0 v1 v2 v3 (v4 + 1) h)) else none)
else
  some ((-1), h)) else none)
partial_fixpoint
def t11_lead (v0 v1 v2 v3 : Int) (h : m_H) : Option (Int × m_H) :=
  (if m_t h v0 = 11 then (if (m_w (m_g h v0 60)) = (-1) then
  some ((-1), h)
else
  (t11_in (m_w v3) 0 2 h >>= fun ⟨r4, h3⟩ => (if r4 = true then
    (t11_lead_c25 v0 v1 v2 v3 0 h3)
  else
    some ((-1), h3)))) else none)
def t11_quarrels_x2 (cc : Int) (v0 v1 v2 v3 v4 : Int) (h : m_H) : Option (Bool × m_H) :=
  if cc = 2 then
  (if m_t h v0 = 11 then (if (m_w v3) < (m_w (m_g h v0 62)) then
    (some (v3 + 1) >>= fun x3 => (t11_quarrels_x2 15 v0 v1 v2 v3 x3 h))
  else
    some (false, h)) else none)
  else if cc = 15 then
  (if m_t h v0 = 11 then (if (m_w v4) < (m_w (m_g h v0 62)) then
    (if m_t h (m_g h v0 66) = 20 ∧ 0 ≤ (m_w v3) ∧ (m_w v3) < m_l h (m_g h v0 66) then (if (m_w (m_g h (m_g h v0 66) (m_w v3))) = (m_w v1) then
      (if m_t h (m_g h v0 66) = 20 ∧ 0 ≤ (m_w v4) ∧ (m_w v4) < m_l h (m_g h v0 66) then (if (m_w (m_g h (m_g h v0 66) (m_w v4))) = (m_w v2) then
        (t11_quarrels_x2 66 v0 v1 v2 v3 v4 h)
      else
        (t11_quarrels_x2 45 v0 v1 v2 v3 v4 h)) else none)
    else
      (t11_quarrels_x2 45 v0 v1 v2 v3 v4 h)) else none)
  else
    (t11_quarrels_x2 2 v0 v1 v2 (v3 + 1) 0 h)) else none)
  else if cc = 45 then
  (if m_t h v0 = 11 then if m_t h (m_g h v0 66) = 20 ∧ 0 ≤ (m_w v3) ∧ (m_w v3) < m_l h (m_g h v0 66) then (if (m_w (m_g h (m_g h v0 66) (m_w v3))) = (m_w v2) then
    (if m_t h (m_g h v0 66) = 20 ∧ 0 ≤ (m_w v4) ∧ (m_w v4) < m_l h (m_g h v0 66) then (if (m_w (m_g h (m_g h v0 66) (m_w v4))) = (m_w v1) then
      (t11_quarrels_x2 66 v0 v1 v2 v3 v4 h)
    else
      (t11_quarrels_x2 70 v0 v1 v2 v3 v4 h)) else none)
  else
    (t11_quarrels_x2 70 v0 v1 v2 v3 v4 h)) else none else none)
  else if cc = 66 then
  (if (m_w 1) = 0 then
    (t11_quarrels_x2 15 v0 v1 v2 v3 (v4 + 1) h)
  else
    (if m_t h v0 = 11 then if m_t h (m_g h v0 67) = 20 ∧ 0 ≤ (m_w v3) ∧ (m_w v3) < m_l h (m_g h v0 67) then if m_t h (m_g h v0 67) = 20 ∧ 0 ≤ (m_w v4) ∧ (m_w v4) < m_l h (m_g h v0 67) then (if (m_w (m_g h (m_g h v0 67) (m_w v3))) = (m_w (m_g h (m_g h v0 67) (m_w v4))) then
      (if m_t h (m_g h v0 68) = 20 ∧ 0 ≤ (m_w v3) ∧ (m_w v3) < m_l h (m_g h v0 68) then if m_t h (m_g h v0 68) = 20 ∧ 0 ≤ (m_w v4) ∧ (m_w v4) < m_l h (m_g h v0 68) then if m_t h (m_g h v0 69) = 20 ∧ 0 ≤ (m_w v4) ∧ (m_w v4) < m_l h (m_g h v0 69) then (if (m_w (m_g h (m_g h v0 68) (m_w v3))) < (m_w ((m_g h (m_g h v0 68) (m_w v4)) + (m_g h (m_g h v0 69) (m_w v4)))) then
        (if m_t h (m_g h v0 69) = 20 ∧ 0 ≤ (m_w v3) ∧ (m_w v3) < m_l h (m_g h v0 69) then (if (m_w (m_g h (m_g h v0 68) (m_w v4))) < (m_w ((m_g h (m_g h v0 68) (m_w v3)) + (m_g h (m_g h v0 69) (m_w v3)))) then
          some (true, h)
        else
          (t11_quarrels_x2 15 v0 v1 v2 v3 (v4 + 1) h)) else none)
      else
        (t11_quarrels_x2 15 v0 v1 v2 v3 (v4 + 1) h)) else none else none else none)
    else
      (t11_quarrels_x2 15 v0 v1 v2 v3 (v4 + 1) h)) else none else none else none))
  else if cc = 70 then
  (if (m_w 0) = 0 then
    (t11_quarrels_x2 15 v0 v1 v2 v3 (v4 + 1) h)
  else
    (if m_t h v0 = 11 then if m_t h (m_g h v0 67) = 20 ∧ 0 ≤ (m_w v3) ∧ (m_w v3) < m_l h (m_g h v0 67) then if m_t h (m_g h v0 67) = 20 ∧ 0 ≤ (m_w v4) ∧ (m_w v4) < m_l h (m_g h v0 67) then (if (m_w (m_g h (m_g h v0 67) (m_w v3))) = (m_w (m_g h (m_g h v0 67) (m_w v4))) then
      (if m_t h (m_g h v0 68) = 20 ∧ 0 ≤ (m_w v3) ∧ (m_w v3) < m_l h (m_g h v0 68) then if m_t h (m_g h v0 68) = 20 ∧ 0 ≤ (m_w v4) ∧ (m_w v4) < m_l h (m_g h v0 68) then if m_t h (m_g h v0 69) = 20 ∧ 0 ≤ (m_w v4) ∧ (m_w v4) < m_l h (m_g h v0 69) then (if (m_w (m_g h (m_g h v0 68) (m_w v3))) < (m_w ((m_g h (m_g h v0 68) (m_w v4)) + (m_g h (m_g h v0 69) (m_w v4)))) then
        (if m_t h (m_g h v0 69) = 20 ∧ 0 ≤ (m_w v3) ∧ (m_w v3) < m_l h (m_g h v0 69) then (if (m_w (m_g h (m_g h v0 68) (m_w v4))) < (m_w ((m_g h (m_g h v0 68) (m_w v3)) + (m_g h (m_g h v0 69) (m_w v3)))) then
          some (true, h)
        else
          (t11_quarrels_x2 15 v0 v1 v2 v3 (v4 + 1) h)) else none)
      else
        (t11_quarrels_x2 15 v0 v1 v2 v3 (v4 + 1) h)) else none else none else none)
    else
      (t11_quarrels_x2 15 v0 v1 v2 v3 (v4 + 1) h)) else none else none else none))
  else none
partial_fixpoint
def t11_quarrels (v0 v1 v2 : Int) (h : m_H) : Option (Bool × m_H) :=
  (t11_quarrels_x2 2 v0 v1 v2 0 0 h)
def t11_quarrel_x14 (cc : Int) (v0 v1 v2 v3 v4 : Int) (h : m_H) : Option (Int × m_H) :=
  if cc = 14 then
  (if m_t h v0 = 11 then if m_t h (m_g h v0 34) = 20 ∧ 0 ≤ (m_w (m_g h v0 60)) ∧ (m_w (m_g h v0 60)) < m_l h (m_g h v0 34) then (if (m_w v3) < (m_w (m_g h (m_g h v0 34) (m_w (m_g h v0 60)))) then
    (t11_quarrel_x14 30 v0 v1 v2 v3 v3 h)
  else
    some ((-1), h)) else none else none)
  else if cc = 30 then
  (if m_t h v0 = 11 then if m_t h (m_g h v0 34) = 20 ∧ 0 ≤ (m_w (m_g h v0 60)) ∧ (m_w (m_g h v0 60)) < m_l h (m_g h v0 34) then (if (m_w v4) < (m_w (m_g h (m_g h v0 34) (m_w (m_g h v0 60)))) then
    (if m_t h (m_g h v0 35) = 29 ∧ 0 ≤ (m_w (m_g h v0 60)) ∧ (m_w (m_g h v0 60)) < m_l h (m_g h v0 35) then if m_t h (m_g h (m_g h v0 35) (m_w (m_g h v0 60))) = 20 ∧ 0 ≤ (m_w v3) ∧ (m_w v3) < m_l h (m_g h (m_g h v0 35) (m_w (m_g h v0 60))) then (if (m_w (m_g h (m_g h (m_g h v0 35) (m_w (m_g h v0 60))) (m_w v3))) = 12 then
      (if m_t h (m_g h (m_g h v0 35) (m_w (m_g h v0 60))) = 20 ∧ 0 ≤ (m_w v4) ∧ (m_w v4) < m_l h (m_g h (m_g h v0 35) (m_w (m_g h v0 60))) then (if (m_w (m_g h (m_g h (m_g h v0 35) (m_w (m_g h v0 60))) (m_w v4))) = 12 then
        (t11_quarrels v0 v3 v4 h >>= fun ⟨r10, h9⟩ => (if r10 = true then
          (if (m_w v2) = (m_w v1) then
            some (((100 * v3) + v4), h9)
          else
            (t11_quarrel_x14 30 v0 v1 (v2 + 1) v3 (v4 + 1) h9))
        else
          (t11_quarrel_x14 30 v0 v1 v2 v3 (v4 + 1) h9)))
      else
        (t11_quarrel_x14 30 v0 v1 v2 v3 (v4 + 1) h)) else none)
    else
      (t11_quarrel_x14 30 v0 v1 v2 v3 (v4 + 1) h)) else none else none)
  else
    (t11_quarrel_x14 14 v0 v1 v2 (v3 + 1) 0 h)) else none else none)
  else none
partial_fixpoint
def t11_quarrel (v0 v1 : Int) (h : m_H) : Option (Int × m_H) :=
  (if m_t h v0 = 11 then (if (m_w (m_g h v0 60)) = (-1) then
  some ((-1), h)
else
  (t11_quarrel_x14 14 v0 v1 0 0 0 h)) else none)
def t11_open_c36 (v0 v1 v2 : Int) (h : m_H) : Option (Int × m_H) :=
  (if m_t h v0 = 11 then if m_t h (m_g h v0 34) = 20 ∧ 0 ≤ (m_w v1) ∧ (m_w v1) < m_l h (m_g h v0 34) then (if (m_w v2) < (m_w (m_g h (m_g h v0 34) (m_w v1))) then
  (if m_t h (m_g h v0 35) = 29 ∧ 0 ≤ (m_w v1) ∧ (m_w v1) < m_l h (m_g h v0 35) then if m_t h (m_g h (m_g h v0 35) (m_w v1)) = 20 ∧ 0 ≤ (m_w v2) ∧ (m_w v2) < m_l h (m_g h (m_g h v0 35) (m_w v1)) then (if (m_w (m_g h (m_g h (m_g h v0 35) (m_w v1)) (m_w v2))) = 1 then
    (if m_t h (m_g h v0 52) = 20 ∧ 0 ≤ (m_w v2) ∧ (m_w v2) < m_l h (m_g h v0 52) then if m_t h (m_g h v0 71) = 29 ∧ 0 ≤ (m_w v1) ∧ (m_w v1) < m_l h (m_g h v0 71) then if m_t h (m_g h (m_g h v0 71) (m_w v1)) = 20 ∧ 0 ≤ (m_w v2) ∧ (m_w v2) < m_l h (m_g h (m_g h v0 71) (m_w v1)) then (if (m_w (m_g h (m_g h v0 52) (m_w v2))) = (m_w (m_g h (m_g h (m_g h v0 71) (m_w v1)) (m_w v2))) then
      (t11_open_c36 v0 v1 (v2 + 1) h)
    else
      some (1, h)) else none else none else none)
  else
    (t11_open_c36 v0 v1 (v2 + 1) h)) else none else none)
else
  some (0, h)) else none else none)
partial_fixpoint
def t11_open (v0 v1 : Int) (h : m_H) : Option (Int × m_H) :=
  (if m_t h v0 = 11 then t11_isScore v0 v1 h >>= fun ⟨r3, h2⟩ => (if r3 = true then
  (if m_t h2 v0 = 11 then if m_t h2 (m_g h2 v0 70) = 23 ∧ 0 ≤ (m_w v1) ∧ (m_w v1) < m_l h2 (m_g h2 v0 70) then (if (m_w (m_g h2 (m_g h2 v0 70) (m_w v1))) = 0 then
    some ((-1), h2)
  else
    (t11_makes_ v0 v1 (m_g h2 v0 18) h2 >>= fun ⟨r9, h8⟩ => (if (m_w r9) = (-1) then
      (t11_open_c36 v0 v1 0 h8)
    else
      some (1, h8)))) else none else none)
else
  some ((-1), h2)) else none)
def t11_stepOf_c2 (v0 v1 v2 : Int) (h : m_H) : Option (Int × m_H) :=
  (if m_t h v0 = 11 then (if (m_w v2) < (m_w (m_g h v0 79)) then
  (if m_t h (m_g h v0 75) = 20 ∧ 0 ≤ (m_w v2) ∧ (m_w v2) < m_l h (m_g h v0 75) then (if (m_w (m_g h (m_g h v0 75) (m_w v2))) = (m_w v1) then
    some (v2, h)
  else
    (t11_stepOf_c2 v0 v1 (v2 + 1) h)) else none)
else
  some ((-1), h)) else none)
partial_fixpoint
def t11_stepOf (v0 v1 : Int) (h : m_H) : Option (Int × m_H) :=
  (t11_stepOf_c2 v0 v1 0 h)
def t11_need (v0 v1 v2 v3 : Int) (h : m_H) : Option (Unit × m_H) :=
  (if (m_w v3) = (-1) then
  some ((), h)
else
  (if m_t h v0 = 11 then t11_stepOf v0 v3 h >>= fun ⟨r4, h3⟩ => (if (m_w r4) = (-1) then
    some ((), h3)
  else
    (if m_t h3 v0 = 11 then if m_t h3 (m_g h3 v0 76) = 20 ∧ 0 ≤ (m_w v1) ∧ (m_w v1) < m_l h3 (m_g h3 v0 76) then some (m_p h3 (m_g h3 v0 76) (m_w v1) (m_or (m_g h3 (m_g h3 v0 76) (m_w v1)) (m_shl 1 r4))) >>= fun h8 => some ((), h8) else none else none)) else none))
def t11_isBench (v0 v1 : Int) (h : m_H) : Option (Bool × m_H) :=
  (if (m_w v1) = 2 then
  some (true, h)
else
  (if (m_w v1) = 3 then
    some (true, h)
  else
    (if (m_w v1) = 5 then
      some (true, h)
    else
      (if (m_w v1) = 6 then
        some (true, h)
      else
        some (false, h)))))
def t11_canDo_c12 (v0 v1 v2 v3 v4 v5 v6 v7 : Int) (h : m_H) : Option (Bool × m_H) :=
  (if m_t h v0 = 11 then (if (m_w v7) < (m_w (m_g h v0 79)) then
  (if (m_w (m_and (m_shr v2 v7) 1)) = 0 then
    (t11_canDo_c12 v0 v1 v2 v3 v4 v5 v6 (v7 + 1) h)
  else
    (if m_t h (m_g h v0 35) = 29 ∧ 0 ≤ (m_w v1) ∧ (m_w v1) < m_l h (m_g h v0 35) then if m_t h (m_g h v0 75) = 20 ∧ 0 ≤ (m_w v7) ∧ (m_w v7) < m_l h (m_g h v0 75) then if m_t h (m_g h (m_g h v0 35) (m_w v1)) = 20 ∧ 0 ≤ (m_w (m_g h (m_g h v0 75) (m_w v7))) ∧ (m_w (m_g h (m_g h v0 75) (m_w v7))) < m_l h (m_g h (m_g h v0 35) (m_w v1)) then some (m_g h (m_g h (m_g h v0 35) (m_w v1)) (m_w (m_g h (m_g h v0 75) (m_w v7)))) >>= fun x7 => if m_t h (m_g h v0 76) = 20 ∧ 0 ≤ (m_w v7) ∧ (m_w v7) < m_l h (m_g h v0 76) then (if (m_w (m_and (m_g h (m_g h v0 76) (m_w v7)) (m_xor v3 (-1)))) = 0 then
      (t11_isBench v0 x7 h >>= fun ⟨r11, h10⟩ => (if r11 = true then
        (t11_canDo_c12 v0 v1 v2 v3 (v4 + 1) v5 v6 (v7 + 1) h10)
      else
        (if (m_w x7) = 8 then
          (if m_t h10 v0 = 11 then if m_t h10 (m_g h10 v0 38) = 29 ∧ 0 ≤ (m_w v1) ∧ (m_w v1) < m_l h10 (m_g h10 v0 38) then if m_t h10 (m_g h10 v0 75) = 20 ∧ 0 ≤ (m_w v7) ∧ (m_w v7) < m_l h10 (m_g h10 v0 75) then if m_t h10 (m_g h10 (m_g h10 v0 38) (m_w v1)) = 20 ∧ 0 ≤ (m_w (m_g h10 (m_g h10 v0 75) (m_w v7))) ∧ (m_w (m_g h10 (m_g h10 v0 75) (m_w v7))) < m_l h10 (m_g h10 (m_g h10 v0 38) (m_w v1)) then some (m_shl 1 (m_g h10 (m_g h10 (m_g h10 v0 38) (m_w v1)) (m_w (m_g h10 (m_g h10 v0 75) (m_w v7))))) >>= fun x18 => (if (m_w (m_and v6 x18)) = 0 then
            (t11_isMachine v0 (m_g h10 (m_g h10 (m_g h10 v0 38) (m_w v1)) (m_w (m_g h10 (m_g h10 v0 75) (m_w v7)))) h10 >>= fun ⟨r21, h20⟩ => (if r21 = true then
              (some (m_or v6 x18) >>= fun x23 => (t11_canDo_c12 v0 v1 v2 v3 v4 (v5 + 1) x23 (v7 + 1) h20))
            else
              some (false, h20)))
          else
            some (false, h10)) else none else none else none else none)
        else
          (t11_canDo_c12 v0 v1 v2 v3 v4 (v5 + 1) v6 (v7 + 1) h10))))
    else
      some (false, h)) else none else none else none else none))
else
  (if 1 < (m_w v4) then
    some (false, h)
  else
    (if (m_w (m_g h v0 23)) < (m_w v5) then
      some (false, h)
    else
      some (true, h)))) else none)
partial_fixpoint
def t11_canDo (v0 v1 v2 v3 : Int) (h : m_H) : Option (Bool × m_H) :=
  (t11_canDo_c12 v0 v1 v2 v3 0 0 0 0 h)
def t11_least_x52 (K : Int → Int → Int → m_H → Option (Int × m_H)) (cc : Int) (v0 v1 v2 v3 v4 v5 : Int) (h : m_H) : Option (Int × m_H) :=
  if cc = 52 then
  (if 0 < (m_w v5) then
    (if m_t h v0 = 11 then t11_canDo v0 v1 v5 v2 h >>= fun ⟨r4, h3⟩ => (if r4 = true then
      (if m_t h3 v0 = 11 then K v0 v1 (m_or v2 v5) h3 >>= fun ⟨r8, h7⟩ => (if (m_w (r8 + 1)) < (m_w v3) then
        (if m_t h7 v0 = 11 then K v0 v1 (m_or v2 v5) h7 >>= fun ⟨r12, h11⟩ => some (r12 + 1) >>= fun x13 => (t11_least_x52 K 95 v0 v1 v2 x13 v4 v5 h11) else none)
      else
        (t11_least_x52 K 95 v0 v1 v2 v3 v4 v5 h7)) else none)
    else
      (t11_least_x52 K 95 v0 v1 v2 v3 v4 v5 h3)) else none)
  else
    (if m_t h v0 = 11 then if m_t h (m_g h v0 77) = 20 ∧ 0 ≤ (m_w v2) ∧ (m_w v2) < m_l h (m_g h v0 77) then some (m_p h (m_g h v0 77) (m_w v2) v3) >>= fun h16 => some (v3, h16) else none else none))
  else if cc = 95 then
  (some (m_and (v5 - 1) v4) >>= fun x1 => (t11_least_x52 K 52 v0 v1 v2 v3 v4 x1 h))
  else none
partial_fixpoint
def t11_least_b (K : Int → Int → Int → m_H → Option (Int × m_H)) (v0 v1 v2 : Int) (h : m_H) : Option (Int × m_H) :=
  (if m_t h v0 = 11 then (if (m_w v2) = (m_w ((m_shl 1 (m_g h v0 79)) - 1)) then
  some (0, h)
else
  (if m_t h (m_g h v0 77) = 20 ∧ 0 ≤ (m_w v2) ∧ (m_w v2) < m_l h (m_g h v0 77) then (if (m_w (m_g h (m_g h v0 77) (m_w v2))) = 0 then
    (some (m_and ((m_shl 1 (m_g h v0 79)) - 1) (m_xor v2 (-1))) >>= fun x5 => (t11_least_x52 K 52 v0 v1 v2 1000 x5 x5 h))
  else
    some ((m_g h (m_g h v0 77) (m_w v2)), h)) else none)) else none)
def t11_least_D : Nat → Int → Int → Int → m_H → Option (Int × m_H)
  | 0 => fun _ _ _ _ => none
  | k + 1 => t11_least_b (t11_least_D k)
def t11_least : Int → Int → Int → m_H → Option (Int × m_H) := t11_least_D 12
def t11_plans_x205 (cc : Int) (v0 v1 v2 v3 v4 v5 : Int) (h : m_H) : Option (Bool × m_H) :=
  if cc = 205 then
  (if m_t h v0 = 11 then (if (m_w v2) = (m_w ((m_shl 1 (m_g h v0 79)) - 1)) then
    some (true, h)
  else
    (t11_plans_x205 223 v0 v1 v2 (v3 + 1) 1 0 h)) else none)
  else if cc = 223 then
  (if (m_w (m_and v4 v2)) = 0 then
    (if m_t h v0 = 11 then t11_canDo v0 v1 v4 v2 h >>= fun ⟨r4, h3⟩ => (if r4 = true then
      (if m_t h3 v0 = 11 then t11_least v0 v1 (m_or v2 v4) h3 >>= fun ⟨r8, h7⟩ => if m_t h7 v0 = 11 then t11_least v0 v1 v2 h7 >>= fun ⟨r11, h10⟩ => (if (m_w (r8 + 1)) = (m_w r11) then
        (t11_plans_x205 270 v0 v1 v2 v3 v4 0 h10)
      else
        (t11_plans_x205 223 v0 v1 v2 v3 (v4 + 1) 0 h10)) else none else none)
    else
      (t11_plans_x205 223 v0 v1 v2 v3 (v4 + 1) 0 h3)) else none)
  else
    (t11_plans_x205 223 v0 v1 v2 v3 (v4 + 1) 0 h))
  else if cc = 270 then
  (if m_t h v0 = 11 then (if (m_w v5) < (m_w (m_g h v0 79)) then
    (if (m_w (m_and (m_shr v4 v5) 1)) = 1 then
      (if m_t h (m_g h v0 78) = 20 ∧ 0 ≤ (m_w v5) ∧ (m_w v5) < m_l h (m_g h v0 78) then some (m_p h (m_g h v0 78) (m_w v5) v3) >>= fun h5 => (t11_plans_x205 270 v0 v1 v2 v3 v4 (v5 + 1) h5) else none)
    else
      (t11_plans_x205 270 v0 v1 v2 v3 v4 (v5 + 1) h))
  else
    (some (m_or v2 v4) >>= fun x6 => (t11_plans_x205 205 v0 v1 x6 v3 0 0 h))) else none)
  else none
partial_fixpoint
def t11_plans_c164 (v0 v1 v2 : Int) (h : m_H) : Option (Bool × m_H) :=
  (if m_t h v0 = 11 then (if (m_w v2) < (m_w (m_shl 1 (m_g h v0 79))) then
  (if m_t h (m_g h v0 77) = 20 ∧ 0 ≤ (m_w v2) ∧ (m_w v2) < m_l h (m_g h v0 77) then some (m_p h (m_g h v0 77) (m_w v2) 0) >>= fun h4 => (t11_plans_c164 v0 v1 (v2 + 1) h4) else none)
else
  (t11_least v0 v1 0 h >>= fun ⟨r6, h5⟩ => (if (m_w r6) < 1000 then
    (t11_plans_x205 205 v0 v1 0 0 0 0 h5)
  else
    some (false, h5)))) else none)
partial_fixpoint
def t11_plans_c103 (v0 v1 v2 : Int) (h : m_H) : Option (Bool × m_H) :=
  (if m_t h v0 = 11 then (if (m_w v2) < (m_w (m_g h v0 79)) then
  (if m_t h (m_g h v0 76) = 20 ∧ 0 ≤ (m_w v2) ∧ (m_w v2) < m_l h (m_g h v0 76) then some (m_p h (m_g h v0 76) (m_w v2) 0) >>= fun h4 => if m_t h4 v0 = 11 then if m_t h4 (m_g h4 v0 36) = 29 ∧ 0 ≤ (m_w v1) ∧ (m_w v1) < m_l h4 (m_g h4 v0 36) then if m_t h4 (m_g h4 v0 75) = 20 ∧ 0 ≤ (m_w v2) ∧ (m_w v2) < m_l h4 (m_g h4 v0 75) then if m_t h4 (m_g h4 (m_g h4 v0 36) (m_w v1)) = 20 ∧ 0 ≤ (m_w (m_g h4 (m_g h4 v0 75) (m_w v2))) ∧ (m_w (m_g h4 (m_g h4 v0 75) (m_w v2))) < m_l h4 (m_g h4 (m_g h4 v0 36) (m_w v1)) then t11_need v0 v2 v1 (m_g h4 (m_g h4 (m_g h4 v0 36) (m_w v1)) (m_w (m_g h4 (m_g h4 v0 75) (m_w v2)))) h4 >>= fun ⟨_, h9⟩ => if m_t h9 v0 = 11 then if m_t h9 (m_g h9 v0 37) = 29 ∧ 0 ≤ (m_w v1) ∧ (m_w v1) < m_l h9 (m_g h9 v0 37) then if m_t h9 (m_g h9 v0 75) = 20 ∧ 0 ≤ (m_w v2) ∧ (m_w v2) < m_l h9 (m_g h9 v0 75) then if m_t h9 (m_g h9 (m_g h9 v0 37) (m_w v1)) = 20 ∧ 0 ≤ (m_w (m_g h9 (m_g h9 v0 75) (m_w v2))) ∧ (m_w (m_g h9 (m_g h9 v0 75) (m_w v2))) < m_l h9 (m_g h9 (m_g h9 v0 37) (m_w v1)) then t11_need v0 v2 v1 (m_g h9 (m_g h9 (m_g h9 v0 37) (m_w v1)) (m_w (m_g h9 (m_g h9 v0 75) (m_w v2)))) h9 >>= fun ⟨_, h15⟩ => (t11_plans_c103 v0 v1 (v2 + 1) h15) else none else none else none else none else none else none else none else none else none)
else
  (t11_plans_c164 v0 v1 0 h)) else none)
partial_fixpoint
def t11_plans_c17 (v0 v1 v2 : Int) (h : m_H) : Option (Bool × m_H) :=
  (if m_t h v0 = 11 then if m_t h (m_g h v0 34) = 20 ∧ 0 ≤ (m_w v1) ∧ (m_w v1) < m_l h (m_g h v0 34) then (if (m_w v2) < (m_w (m_g h (m_g h v0 34) (m_w v1))) then
  (if m_t h (m_g h v0 35) = 29 ∧ 0 ≤ (m_w v1) ∧ (m_w v1) < m_l h (m_g h v0 35) then if m_t h (m_g h (m_g h v0 35) (m_w v1)) = 20 ∧ 0 ≤ (m_w v2) ∧ (m_w v2) < m_l h (m_g h (m_g h v0 35) (m_w v1)) then (if 1 < (m_w (m_g h (m_g h (m_g h v0 35) (m_w v1)) (m_w v2))) then
    (if (m_w (m_g h (m_g h (m_g h v0 35) (m_w v1)) (m_w v2))) = 12 then
      (t11_plans_c17 v0 v1 (v2 + 1) h)
    else
      (if (m_w (m_g h v0 79)) = 9 then
        some (false, h)
      else
        (if m_t h (m_g h v0 75) = 20 ∧ 0 ≤ (m_w (m_g h v0 79)) ∧ (m_w (m_g h v0 79)) < m_l h (m_g h v0 75) then some (m_p h (m_g h v0 75) (m_w (m_g h v0 79)) v2) >>= fun h10 => if m_t h10 v0 = 11 then some (m_p h10 v0 79 ((m_g h10 v0 79) + 1)) >>= fun h12 => (t11_plans_c17 v0 v1 (v2 + 1) h12) else none else none)))
  else
    (t11_plans_c17 v0 v1 (v2 + 1) h)) else none else none)
else
  (if (m_w (m_g h v0 79)) = 0 then
    some (false, h)
  else
    (t11_plans_c103 v0 v1 0 h))) else none else none)
partial_fixpoint
def t11_plans (v0 v1 : Int) (h : m_H) : Option (Bool × m_H) :=
  (if m_t h v0 = 11 then t11_isScore v0 v1 h >>= fun ⟨r3, h2⟩ => (if r3 = true then
  (if m_t h2 v0 = 11 then some (m_p h2 v0 79 0) >>= fun h6 => (t11_plans_c17 v0 v1 0 h6) else none)
else
  some (false, h2)) else none)
def t11_turns (v0 v1 : Int) (h : m_H) : Option (Int × m_H) :=
  (if m_t h v0 = 11 then t11_plans v0 v1 h >>= fun ⟨r3, h2⟩ => (if r3 = true then
  (if m_t h2 v0 = 11 then t11_least v0 v1 0 h2 >>= fun ⟨r7, h6⟩ => some (r7, h6) else none)
else
  some ((-1), h2)) else none)
def t11_turnOf (v0 v1 v2 : Int) (h : m_H) : Option (Int × m_H) :=
  (if m_t h v0 = 11 then t11_plans v0 v1 h >>= fun ⟨r3, h2⟩ => (if r3 = true then
  (if m_t h2 v0 = 11 then t11_stepOf v0 v2 h2 >>= fun ⟨r7, h6⟩ => (if (m_w r7) = (-1) then
    some ((-1), h6)
  else
    (if m_t h6 v0 = 11 then t11_stepOf v0 v2 h6 >>= fun ⟨r11, h10⟩ => if m_t h10 (m_g h6 v0 78) = 20 ∧ 0 ≤ (m_w r11) ∧ (m_w r11) < m_l h10 (m_g h6 v0 78) then some ((m_g h10 (m_g h6 v0 78) (m_w r11)), h10) else none else none)) else none)
else
  some ((-1), h2)) else none)
def t11_deep_x14 (cc : Int) (v0 v1 v2 v3 v4 v5 : Int) (h : m_H) : Option (Int × m_H) :=
  if cc = 14 then
  (if m_t h v0 = 11 then if m_t h (m_g h v0 34) = 20 ∧ 0 ≤ (m_w v1) ∧ (m_w v1) < m_l h (m_g h v0 34) then (if (m_w v3) < (m_w (m_g h (m_g h v0 34) (m_w v1))) then
    (if m_t h (m_g h v0 35) = 29 ∧ 0 ≤ (m_w v1) ∧ (m_w v1) < m_l h (m_g h v0 35) then if m_t h (m_g h (m_g h v0 35) (m_w v1)) = 20 ∧ 0 ≤ (m_w v3) ∧ (m_w v3) < m_l h (m_g h (m_g h v0 35) (m_w v1)) then some (m_g h (m_g h (m_g h v0 35) (m_w v1)) (m_w v3)) >>= fun x6 => (if 1 < (m_w x6) then
      (if m_t h (m_g h v0 36) = 29 ∧ 0 ≤ (m_w v1) ∧ (m_w v1) < m_l h (m_g h v0 36) then if m_t h (m_g h (m_g h v0 36) (m_w v1)) = 20 ∧ 0 ≤ (m_w v3) ∧ (m_w v3) < m_l h (m_g h (m_g h v0 36) (m_w v1)) then if m_t h (m_g h v0 80) = 20 ∧ 0 ≤ (m_w (m_g h (m_g h (m_g h v0 36) (m_w v1)) (m_w v3))) ∧ (m_w (m_g h (m_g h (m_g h v0 36) (m_w v1)) (m_w v3))) < m_l h (m_g h v0 80) then some (m_g h (m_g h v0 80) (m_w (m_g h (m_g h (m_g h v0 36) (m_w v1)) (m_w v3)))) >>= fun x11 => if m_t h (m_g h v0 37) = 29 ∧ 0 ≤ (m_w v1) ∧ (m_w v1) < m_l h (m_g h v0 37) then if m_t h (m_g h (m_g h v0 37) (m_w v1)) = 20 ∧ 0 ≤ (m_w v3) ∧ (m_w v3) < m_l h (m_g h (m_g h v0 37) (m_w v1)) then (if (m_w (m_g h (m_g h (m_g h v0 37) (m_w v1)) (m_w v3))) = (-1) then
        (t11_deep_x14 137 v0 v1 v2 v3 x6 x11 h)
      else
        (if m_t h (m_g h v0 80) = 20 ∧ 0 ≤ (m_w (m_g h (m_g h (m_g h v0 37) (m_w v1)) (m_w v3))) ∧ (m_w (m_g h (m_g h (m_g h v0 37) (m_w v1)) (m_w v3))) < m_l h (m_g h v0 80) then (if (m_w x11) < (m_w (m_g h (m_g h v0 80) (m_w (m_g h (m_g h (m_g h v0 37) (m_w v1)) (m_w v3))))) then
          (some (m_g h (m_g h v0 80) (m_w (m_g h (m_g h (m_g h v0 37) (m_w v1)) (m_w v3)))) >>= fun x17 => (t11_deep_x14 137 v0 v1 v2 v3 x6 x17 h))
        else
          (t11_deep_x14 137 v0 v1 v2 v3 x6 x11 h)) else none)) else none else none else none else none else none)
    else
      (t11_stripOf v0 v1 v3 (m_g h v0 18) h >>= fun ⟨r19, h18⟩ => (if (m_w r19) = (-1) then
        (t11_deep_x14 137 v0 v1 v2 v3 x6 0 h18)
      else
        (if m_t h18 v0 = 11 then if m_t h18 (m_g h18 v0 6) = 20 ∧ 0 ≤ (m_w r19) ∧ (m_w r19) < m_l h18 (m_g h18 v0 6) then some (m_g h18 (m_g h18 v0 6) (m_w r19)) >>= fun x23 => (t11_deep_x14 137 v0 v1 v2 v3 x6 x23 h18) else none else none)))) else none else none)
  else
    some (v2, h)) else none else none)
  else if cc = 137 then
  (if (m_w v4) = 4 then
    (t11_deep_x14 164 v0 v1 v2 v3 v4 v5 h)
  else
    (if (m_w v4) = 8 then
      (t11_deep_x14 164 v0 v1 v2 v3 v4 v5 h)
    else
      (if (m_w v4) = 7 then
        (t11_deep_x14 164 v0 v1 v2 v3 v4 v5 h)
      else
        (if (m_w v4) = 9 then
          (t11_deep_x14 164 v0 v1 v2 v3 v4 v5 h)
        else
          (t11_deep_x14 167 v0 v1 v2 v3 v4 v5 h)))))
  else if cc = 164 then
  (t11_deep_x14 167 v0 v1 v2 v3 v4 (v5 + 1) h)
  else if cc = 167 then
  (if m_t h v0 = 11 then if m_t h (m_g h v0 80) = 20 ∧ 0 ≤ (m_w v3) ∧ (m_w v3) < m_l h (m_g h v0 80) then some (m_p h (m_g h v0 80) (m_w v3) v5) >>= fun h3 => (if (m_w v4) = 12 then
    (if (m_w v2) < (m_w v5) then
      (t11_deep_x14 14 v0 v1 v5 (v3 + 1) 0 0 h3)
    else
      (t11_deep_x14 14 v0 v1 v2 (v3 + 1) 0 0 h3))
  else
    (t11_deep_x14 14 v0 v1 v2 (v3 + 1) 0 0 h3)) else none else none)
  else none
partial_fixpoint
def t11_deep (v0 v1 : Int) (h : m_H) : Option (Int × m_H) :=
  (if m_t h v0 = 11 then t11_isScore v0 v1 h >>= fun ⟨r3, h2⟩ => (if r3 = true then
  (t11_deep_x14 14 v0 v1 (-1) 0 0 0 h2)
else
  some ((-1), h2)) else none)
def t11_tape_c30 (v0 v1 v2 : Int) (h : m_H) : Option (Int × m_H) :=
  (if (m_w v2) < (m_w v1) then
  (if m_t h v0 = 11 then if m_t h (m_g h v0 1) = 20 ∧ 0 ≤ (m_w v2) ∧ (m_w v2) < m_l h (m_g h v0 1) then if m_t h (m_g h v0 81) = 20 ∧ 0 ≤ (m_w ((m_g h v0 85) + v2)) ∧ (m_w ((m_g h v0 85) + v2)) < m_l h (m_g h v0 81) then some (m_p h (m_g h v0 81) (m_w ((m_g h v0 85) + v2)) (m_g h (m_g h v0 1) (m_w v2))) >>= fun h5 => (t11_tape_c30 v0 v1 (v2 + 1) h5) else none else none else none)
else
  (if m_t h v0 = 11 then some (m_p h v0 85 ((m_g h v0 85) + v1)) >>= fun h7 => if m_t h7 v0 = 11 then t11_handLoses v0 v1 h7 >>= fun ⟨_, h9⟩ => if m_t h9 v0 = 11 then some ((m_g h9 v0 85), h9) else none else none else none))
partial_fixpoint
def t11_tape (v0 v1 : Int) (h : m_H) : Option (Int × m_H) :=
  (if m_t h v0 = 11 then t11_in (m_w v1) 1 (m_w (m_g h v0 16)) h >>= fun ⟨r3, h2⟩ => (if r3 = true then
  (if m_t h2 v0 = 11 then (if 1000 < (m_w ((m_g h2 v0 85) + v1)) then
    some ((-1), h2)
  else
    (t11_tape_c30 v0 v1 0 h2)) else none)
else
  some ((-1), h2)) else none)
def t11_wipe (v0 : Int) (h : m_H) : Option (Int × m_H) :=
  (if m_t h v0 = 11 then some (m_g h v0 85) >>= fun x2 => some (m_p h v0 85 0) >>= fun h3 => some (x2, h3) else none)
def t11_gives_c81 (v0 v1 v2 v3 v4 v5 : Int) (h : m_H) : Option (Unit × m_H) :=
  (if m_t h v0 = 11 then (if (m_w v5) < (m_w (m_g h v0 86)) then
  (if (m_w v2) = 1 then
    (if m_t h (m_g h v0 3) = 20 ∧ 0 ≤ (m_w v1) ∧ (m_w v1) < m_l h (m_g h v0 3) then if m_t h (m_g h v0 28) = 20 ∧ 0 ≤ (m_w (((m_g h (m_g h v0 3) (m_w v1)) - 1) - v5)) ∧ (m_w (((m_g h (m_g h v0 3) (m_w v1)) - 1) - v5)) < m_l h (m_g h v0 28) then if m_t h (m_g h v0 82) = 20 ∧ 0 ≤ (m_w v5) ∧ (m_w v5) < m_l h (m_g h v0 82) then some (m_p h (m_g h v0 82) (m_w v5) (m_g h (m_g h v0 28) (m_w (((m_g h (m_g h v0 3) (m_w v1)) - 1) - v5)))) >>= fun h7 => (t11_gives_c81 v0 v1 v2 v3 v4 (v5 + 1) h7) else none else none else none)
  else
    (if m_t h (m_g h v0 3) = 20 ∧ 0 ≤ (m_w v1) ∧ (m_w v1) < m_l h (m_g h v0 3) then t11_sampleAt v0 (m_g h (m_g h v0 3) (m_w v1)) v5 v3 v4 h >>= fun ⟨r10, h9⟩ => if m_t h9 (m_g h v0 82) = 20 ∧ 0 ≤ (m_w v5) ∧ (m_w v5) < m_l h9 (m_g h v0 82) then some (m_p h9 (m_g h v0 82) (m_w v5) r10) >>= fun h12 => (t11_gives_c81 v0 v1 v2 v3 v4 (v5 + 1) h12) else none else none))
else
  some ((), h)) else none)
partial_fixpoint
def t11_gives_c60 (v0 v1 v2 v3 s0 : Int) (h : m_H) : Option (Unit × m_H) :=
  (if m_t h v0 = 11 then if m_t h (m_g h v0 3) = 20 ∧ 0 ≤ (m_w v1) ∧ (m_w v1) < m_l h (m_g h v0 3) then t11_longAt (m_g h (m_g h v0 3) (m_w v1)) v3 s0 h >>= fun ⟨r4, h3⟩ => if m_t h3 v0 = 11 then some (m_p h3 v0 86 r4) >>= fun h6 => (t11_gives_c81 v0 v1 v2 v3 s0 0 h6) else none else none else none)
def t11_gives_c49 (v0 v1 v2 s0 : Int) (h : m_H) : Option (Unit × m_H) :=
  (if (m_w v2) = 2 then
  (t11_gives_c60 v0 v1 v2 s0 2 h)
else
  (t11_gives_c60 v0 v1 v2 s0 1 h))
def t11_gives_c2 (v0 v1 v2 v3 : Int) (h : m_H) : Option (Unit × m_H) :=
  (if m_t h v0 = 11 then if m_t h (m_g h v0 3) = 20 ∧ 0 ≤ (m_w v1) ∧ (m_w v1) < m_l h (m_g h v0 3) then (if (m_w v3) < (m_w (m_g h (m_g h v0 3) (m_w v1))) then
  (t11_at v0 v1 v3 h >>= fun ⟨r5, h4⟩ => if m_t h4 (m_g h v0 28) = 20 ∧ 0 ≤ (m_w v3) ∧ (m_w v3) < m_l h4 (m_g h v0 28) then some (m_p h4 (m_g h v0 28) (m_w v3) r5) >>= fun h7 => (t11_gives_c2 v0 v1 v2 (v3 + 1) h7) else none)
else
  (if (m_w v2) = 2 then
    (t11_gives_c49 v0 v1 v2 1 h)
  else
    (if (m_w v2) = 3 then
      (t11_gives_c49 v0 v1 v2 2 h)
    else
      (t11_gives_c49 v0 v1 v2 1 h)))) else none else none)
partial_fixpoint
def t11_gives (v0 v1 v2 : Int) (h : m_H) : Option (Unit × m_H) :=
  (t11_gives_c2 v0 v1 v2 0 h)
def t11_isLaid (v0 v1 : Int) (h : m_H) : Option (Bool × m_H) :=
  (if m_t h v0 = 11 then if m_t h (m_g h v0 5) = 20 ∧ 0 ≤ (m_w v1) ∧ (m_w v1) < m_l h (m_g h v0 5) then (if (m_w (m_g h (m_g h v0 5) (m_w v1))) < 2 then
  some (true, h)
else
  some (false, h)) else none else none)
def t11_differs (v0 v1 : Int) (h : m_H) : Option (Int × m_H) :=
  (if (m_w v0) < (m_w v1) then
  some ((v1 - v0), h)
else
  some ((v0 - v1), h))
def t11_canAsk (v0 v1 : Int) (h : m_H) : Option (Bool × m_H) :=
  (t11_in (m_w v0) 1 100 h >>= fun ⟨r2, h1⟩ => (if r2 = true then
  (t11_in (m_w v1) 0 65535 h1 >>= fun ⟨r5, h4⟩ => (if r5 = true then
    some (true, h4)
  else
    some (false, h4)))
else
  some (false, h1)))
def t11_sumAt_c6 (v0 v1 v2 v3 v4 v5 v6 : Int) (h : m_H) : Option (Int × m_H) :=
  (if (m_w v6) < (m_w v3) then
  (if m_t h v0 = 11 then if m_t h (m_g h v0 81) = 20 ∧ 0 ≤ (m_w (v1 + v6)) ∧ (m_w (v1 + v6)) < m_l h (m_g h v0 81) then if m_t h (m_g h v0 82) = 20 ∧ 0 ≤ (m_w (v2 + v6)) ∧ (m_w (v2 + v6)) < m_l h (m_g h v0 82) then t11_differs (m_g h (m_g h v0 81) (m_w (v1 + v6))) (m_g h (m_g h v0 82) (m_w (v2 + v6))) h >>= fun ⟨r6, h5⟩ => (if (m_w v4) < (m_w r6) then
    some ((-1), h5)
  else
    (some (v5 + r6) >>= fun x8 => (t11_sumAt_c6 v0 v1 v2 v3 v4 x8 (v6 + 1) h5))) else none else none else none)
else
  some (v5, h))
partial_fixpoint
def t11_sumAt (v0 v1 v2 v3 v4 : Int) (h : m_H) : Option (Int × m_H) :=
  (t11_sumAt_c6 v0 v1 v2 v3 v4 0 0 h)
def t11_nears_x32 (cc : Int) (v0 v1 v2 v3 v4 v5 v6 v7 : Int) (h : m_H) : Option (Bool × m_H) :=
  if cc = 32 then
  (if m_t h v0 = 11 then (if (m_w v4) < (m_w (m_g h v0 14)) then
    (t11_nears_x32 44 v0 v1 v2 v3 v4 0 0 0 h)
  else
    (if 0 < (m_w (m_g h v0 91)) then
      some (true, h)
    else
      some (false, h))) else none)
  else if cc = 44 then
  (if (m_w v5) < 4 then
    (if m_t h v0 = 11 then t11_isLaid v0 v4 h >>= fun ⟨r4, h3⟩ => (if r4 = true then
      (if m_t h3 v0 = 11 then t11_gives v0 v4 v5 h3 >>= fun ⟨_, h7⟩ => (t11_nears_x32 70 v0 v1 v2 v3 v4 v5 0 0 h7) else none)
    else
      (t11_nears_x32 32 v0 v1 v2 v3 (v4 + 1) 0 0 0 h3)) else none)
  else
    (t11_nears_x32 32 v0 v1 v2 v3 (v4 + 1) 0 0 0 h))
  else if cc = 70 then
  (if m_t h v0 = 11 then (if (m_w (m_g h v0 86)) < (m_w (v6 + v2)) then
    (t11_nears_x32 44 v0 v1 v2 v3 v4 (v5 + 1) 0 0 h)
  else
    (t11_sumAt v0 v1 v6 v2 v3 h >>= fun ⟨r4, h3⟩ => (if (m_w r4) = (-1) then
      (t11_nears_x32 70 v0 v1 v2 v3 v4 v5 (v6 + 1) 0 h3)
    else
      (if m_t h3 v0 = 11 then some (m_p h3 v0 91 ((m_g h3 v0 91) + 1)) >>= fun h7 => if m_t h7 v0 = 11 then (if 1 < (m_w (m_g h7 v0 91)) then
        (if (m_w r4) < (m_w (m_g h7 v0 90)) then
          (t11_nears_x32 131 v0 v1 v2 v3 v4 v5 v6 r4 h7)
        else
          (t11_nears_x32 70 v0 v1 v2 v3 v4 v5 (v6 + 1) 0 h7))
      else
        (t11_nears_x32 131 v0 v1 v2 v3 v4 v5 v6 r4 h7)) else none else none)))) else none)
  else if cc = 131 then
  (if m_t h v0 = 11 then some (m_p h v0 87 v4) >>= fun h2 => if m_t h2 v0 = 11 then some (m_p h2 v0 88 v5) >>= fun h4 => if m_t h4 v0 = 11 then some (m_p h4 v0 89 v6) >>= fun h6 => if m_t h6 v0 = 11 then some (m_p h6 v0 90 v7) >>= fun h8 => (t11_nears_x32 70 v0 v1 v2 v3 v4 v5 (v6 + 1) 0 h8) else none else none else none else none)
  else none
partial_fixpoint
def t11_nears (v0 v1 v2 v3 : Int) (h : m_H) : Option (Bool × m_H) :=
  (t11_canAsk v2 v3 h >>= fun ⟨r2, h1⟩ => (if r2 = true then
  (if (m_w v1) < 0 then
    some (false, h1)
  else
    (if m_t h1 v0 = 11 then (if (m_w ((m_g h1 v0 85) - v2)) < (m_w v1) then
      some (false, h1)
    else
      (some (m_p h1 v0 91 0) >>= fun h7 => (t11_nears_x32 32 v0 v1 v2 v3 0 0 0 0 h7))) else none))
else
  some (false, h1)))
def t11_near (v0 v1 v2 v3 v4 : Int) (h : m_H) : Option (Int × m_H) :=
  (t11_in (m_w v4) 0 3 h >>= fun ⟨r2, h1⟩ => (if r2 = true then
  (if m_t h1 v0 = 11 then t11_nears v0 v1 v2 v3 h1 >>= fun ⟨r6, h5⟩ => (if r6 = true then
    (if (m_w v4) = 0 then
      (if m_t h5 v0 = 11 then some ((m_g h5 v0 87), h5) else none)
    else
      (if (m_w v4) = 1 then
        (if m_t h5 v0 = 11 then some ((m_g h5 v0 88), h5) else none)
      else
        (if (m_w v4) = 2 then
          (if m_t h5 v0 = 11 then some ((m_g h5 v0 89), h5) else none)
        else
          (if m_t h5 v0 = 11 then some ((m_g h5 v0 90), h5) else none))))
  else
    some ((-1), h5)) else none)
else
  some ((-1), h1)))
def t11_rivals (v0 v1 v2 v3 : Int) (h : m_H) : Option (Int × m_H) :=
  (if m_t h v0 = 11 then t11_nears v0 v1 v2 v3 h >>= fun ⟨r3, h2⟩ => (if r3 = true then
  (if m_t h2 v0 = 11 then some (((m_g h2 v0 91) - 1), h2) else none)
else
  some ((-1), h2)) else none)
def t11_better (v0 v1 v2 : Int) (h : m_H) : Option (Unit × m_H) :=
  (if m_t h v0 = 11 then if m_t h (m_g h v0 83) = 20 ∧ 0 ≤ (m_w v1) ∧ (m_w v1) < m_l h (m_g h v0 83) then (if (m_w (m_g h (m_g h v0 83) (m_w v1))) < (m_w v2) then
  (some (m_p h (m_g h v0 83) (m_w v1) v2) >>= fun h4 => some ((), h4))
else
  some ((), h)) else none else none)
def t11_longest_x25 (cc : Int) (v0 v1 v2 v3 v4 v5 v6 : Int) (h : m_H) : Option (Unit × m_H) :=
  if cc = 25 then
  (if m_t h v0 = 11 then (if (m_w v2) < (m_w (m_g h v0 14)) then
    (t11_longest_x25 35 v0 v1 v2 0 0 0 0 h)
  else
    some ((), h)) else none)
  else if cc = 35 then
  (if (m_w v3) < 4 then
    (if m_t h v0 = 11 then t11_isLaid v0 v2 h >>= fun ⟨r4, h3⟩ => (if r4 = true then
      (if m_t h3 v0 = 11 then t11_gives v0 v2 v3 h3 >>= fun ⟨_, h7⟩ => if m_t h7 v0 = 11 then some (1 - (m_g h7 v0 86)) >>= fun x10 => (t11_longest_x25 62 v0 v1 v2 v3 x10 0 0 h7) else none else none)
    else
      (t11_longest_x25 25 v0 v1 (v2 + 1) 0 0 0 0 h3)) else none)
  else
    (t11_longest_x25 25 v0 v1 (v2 + 1) 0 0 0 0 h))
  else if cc = 62 then
  (if m_t h v0 = 11 then (if (m_w v4) < (m_w (m_g h v0 85)) then
    (if (m_w ((m_g h v0 85) - 1)) < (m_w ((v4 + (m_g h v0 86)) - 1)) then
      (some ((m_g h v0 85) - 1) >>= fun x4 => (t11_longest_x25 112 v0 v1 v2 v3 v4 0 x4 h))
    else
      (some ((v4 + (m_g h v0 86)) - 1) >>= fun x5 => (t11_longest_x25 112 v0 v1 v2 v3 v4 0 x5 h)))
  else
    (t11_longest_x25 35 v0 v1 v2 (v3 + 1) 0 0 0 h)) else none)
  else if cc = 112 then
  (if (m_w v6) < 0 then
    (t11_longest_x25 62 v0 v1 v2 v3 (v4 + 1) 0 0 h)
  else
    (if (m_w v6) < (m_w v4) then
      (t11_longest_x25 62 v0 v1 v2 v3 (v4 + 1) 0 0 h)
    else
      (if m_t h v0 = 11 then if m_t h (m_g h v0 81) = 20 ∧ 0 ≤ (m_w v6) ∧ (m_w v6) < m_l h (m_g h v0 81) then if m_t h (m_g h v0 82) = 20 ∧ 0 ≤ (m_w (v6 - v4)) ∧ (m_w (v6 - v4)) < m_l h (m_g h v0 82) then t11_differs (m_g h (m_g h v0 81) (m_w v6)) (m_g h (m_g h v0 82) (m_w (v6 - v4))) h >>= fun ⟨r7, h6⟩ => (if (m_w v1) < (m_w r7) then
        (if m_t h6 v0 = 11 then t11_better v0 v6 0 h6 >>= fun ⟨_, h10⟩ => (t11_longest_x25 112 v0 v1 v2 v3 v4 0 (v6 + (-1)) h10) else none)
      else
        (some (v5 + 1) >>= fun x12 => if m_t h6 v0 = 11 then t11_better v0 v6 x12 h6 >>= fun ⟨_, h14⟩ => (t11_longest_x25 112 v0 v1 v2 v3 v4 x12 (v6 + (-1)) h14) else none)) else none else none else none)))
  else none
partial_fixpoint
def t11_longest_c2 (v0 v1 v2 : Int) (h : m_H) : Option (Unit × m_H) :=
  (if m_t h v0 = 11 then (if (m_w (m_g h v0 85)) < (m_w v2) then
  (t11_longest_x25 25 v0 v1 0 0 0 0 0 h)
else
  (if m_t h (m_g h v0 83) = 20 ∧ 0 ≤ (m_w v2) ∧ (m_w v2) < m_l h (m_g h v0 83) then some (m_p h (m_g h v0 83) (m_w v2) 0) >>= fun h4 => (t11_longest_c2 v0 v1 (v2 + 1) h4) else none)) else none)
partial_fixpoint
def t11_longest (v0 v1 : Int) (h : m_H) : Option (Unit × m_H) :=
  (t11_longest_c2 v0 v1 0 h)
def t11_covers_x32 (cc : Int) (v0 v1 v3 v4 : Int) (h : m_H) : Option (Bool × m_H) :=
  if cc = 32 then
  (if (m_w v3) < 0 then
    (if m_t h v0 = 11 then if m_t h (m_g h v0 84) = 20 ∧ (0 : Int) ≤ 0 ∧ 0 < m_l h (m_g h v0 84) then (if 1000 < (m_w (m_g h (m_g h v0 84) 0)) then
      some (false, h)
    else
      some (true, h)) else none else none)
  else
    (if m_t h v0 = 11 then if m_t h (m_g h v0 84) = 20 ∧ 0 ≤ (m_w v3) ∧ (m_w v3) < m_l h (m_g h v0 84) then some (m_p h (m_g h v0 84) (m_w v3) 1001) >>= fun h7 => (t11_covers_x32 48 v0 v1 v3 v1 h7) else none else none))
  else if cc = 48 then
  (if m_t h v0 = 11 then if m_t h (m_g h v0 83) = 20 ∧ 0 ≤ (m_w v3) ∧ (m_w v3) < m_l h (m_g h v0 83) then (if (m_w (m_g h (m_g h v0 83) (m_w v3))) < (m_w v4) then
    (t11_covers_x32 32 v0 v1 (v3 + (-1)) 0 h)
  else
    (if m_t h (m_g h v0 84) = 20 ∧ 0 ≤ (m_w (v3 + v4)) ∧ (m_w (v3 + v4)) < m_l h (m_g h v0 84) then if m_t h (m_g h v0 84) = 20 ∧ 0 ≤ (m_w v3) ∧ (m_w v3) < m_l h (m_g h v0 84) then (if (m_w ((m_g h (m_g h v0 84) (m_w (v3 + v4))) + 1)) < (m_w (m_g h (m_g h v0 84) (m_w v3))) then
      (some (m_p h (m_g h v0 84) (m_w v3) ((m_g h (m_g h v0 84) (m_w (v3 + v4))) + 1)) >>= fun h7 => (t11_covers_x32 48 v0 v1 v3 (v4 + 1) h7))
    else
      (t11_covers_x32 48 v0 v1 v3 (v4 + 1) h)) else none else none)) else none else none)
  else none
partial_fixpoint
def t11_covers (v0 v1 v2 : Int) (h : m_H) : Option (Bool × m_H) :=
  (t11_canAsk v1 v2 h >>= fun ⟨r2, h1⟩ => (if r2 = true then
  (if m_t h1 v0 = 11 then t11_longest v0 v2 h1 >>= fun ⟨_, h5⟩ => if m_t h5 v0 = 11 then if m_t h5 (m_g h5 v0 84) = 20 ∧ 0 ≤ (m_w (m_g h5 v0 85)) ∧ (m_w (m_g h5 v0 85)) < m_l h5 (m_g h5 v0 84) then some (m_p h5 (m_g h5 v0 84) (m_w (m_g h5 v0 85)) 0) >>= fun h9 => if m_t h9 v0 = 11 then some ((m_g h9 v0 85) - 1) >>= fun x11 => (t11_covers_x32 32 v0 v1 x11 0 h9) else none else none else none else none)
else
  some (false, h1)))
def t11_remade (v0 v1 v2 : Int) (h : m_H) : Option (Int × m_H) :=
  (if m_t h v0 = 11 then t11_covers v0 v1 v2 h >>= fun ⟨r3, h2⟩ => (if r3 = true then
  (if m_t h2 v0 = 11 then if m_t h2 (m_g h2 v0 84) = 20 ∧ (0 : Int) ≤ 0 ∧ 0 < m_l h2 (m_g h2 v0 84) then some ((m_g h2 (m_g h2 v0 84) 0), h2) else none else none)
else
  some ((-1), h2)) else none)
def t11_stretch_x35 (cc : Int) (v0 v3 v4 v5 v6 : Int) (h : m_H) : Option (Int × m_H) :=
  if cc = 35 then
  (if (m_w v5) < (m_w v3) then
    (if m_t h v0 = 11 then if m_t h (m_g h v0 83) = 20 ∧ 0 ≤ (m_w v4) ∧ (m_w v4) < m_l h (m_g h v0 83) then some (m_g h (m_g h v0 83) (m_w v4)) >>= fun x4 => (t11_stretch_x35 50 v0 v3 v4 v5 x4 h) else none else none)
  else
    some (v4, h))
  else if cc = 50 then
  (if m_t h v0 = 11 then if m_t h (m_g h v0 84) = 20 ∧ 0 ≤ (m_w (v4 + v6)) ∧ (m_w (v4 + v6)) < m_l h (m_g h v0 84) then if m_t h (m_g h v0 84) = 20 ∧ 0 ≤ (m_w v4) ∧ (m_w v4) < m_l h (m_g h v0 84) then (if (m_w ((m_g h (m_g h v0 84) (m_w (v4 + v6))) + 1)) = (m_w (m_g h (m_g h v0 84) (m_w v4))) then
    (some (v4 + v6) >>= fun x5 => (t11_stretch_x35 35 v0 v3 x5 (v5 + 1) 0 h))
  else
    (t11_stretch_x35 50 v0 v3 v4 v5 (v6 + (-1)) h)) else none else none else none)
  else none
partial_fixpoint
def t11_stretch (v0 v1 v2 v3 : Int) (h : m_H) : Option (Int × m_H) :=
  (if m_t h v0 = 11 then t11_covers v0 v1 v2 h >>= fun ⟨r3, h2⟩ => (if r3 = true then
  (if m_t h2 v0 = 11 then if m_t h2 (m_g h2 v0 84) = 20 ∧ (0 : Int) ≤ 0 ∧ 0 < m_l h2 (m_g h2 v0 84) then t11_in (m_w v3) 0 (m_w ((m_g h2 (m_g h2 v0 84) 0) - 1)) h2 >>= fun ⟨r8, h7⟩ => (if r8 = true then
    (t11_stretch_x35 35 v0 v3 0 0 0 h7)
  else
    some ((-1), h7)) else none else none)
else
  some ((-1), h2)) else none)
def t11_unfound_x20 (cc : Int) (v0 v1 v3 v4 : Int) (h : m_H) : Option (Int × m_H) :=
  if cc = 20 then
  (if m_t h v0 = 11 then (if (m_w v4) < (m_w (m_g h v0 85)) then
    (if m_t h (m_g h v0 83) = 20 ∧ 0 ≤ (m_w v4) ∧ (m_w v4) < m_l h (m_g h v0 83) then (if (m_w (m_g h (m_g h v0 83) (m_w v4))) < (m_w v1) then
      (t11_unfound_x20 65 v0 v1 v3 v4 h)
    else
      (if (m_w v3) < (m_w (v4 + (m_g h (m_g h v0 83) (m_w v4)))) then
        (some (v4 + (m_g h (m_g h v0 83) (m_w v4))) >>= fun x6 => (t11_unfound_x20 65 v0 v1 x6 v4 h))
      else
        (t11_unfound_x20 65 v0 v1 v3 v4 h))) else none)
  else
    some ((-1), h)) else none)
  else if cc = 65 then
  (if (m_w v4) < (m_w v3) then
    (t11_unfound_x20 20 v0 v1 v3 (v4 + 1) h)
  else
    some (v4, h))
  else none
partial_fixpoint
def t11_unfound (v0 v1 v2 : Int) (h : m_H) : Option (Int × m_H) :=
  (t11_canAsk v1 v2 h >>= fun ⟨r2, h1⟩ => (if r2 = true then
  (if m_t h1 v0 = 11 then t11_longest v0 v2 h1 >>= fun ⟨_, h5⟩ => (t11_unfound_x20 20 v0 v1 0 0 h5) else none)
else
  some ((-1), h1)))
def t11_count_c96 (v0 v2 v3 : Int) (h : m_H) : Option (Int × m_H) :=
  (if m_t h v0 = 11 then (if (m_w v3) < (m_w (m_g h v0 14)) then
  (if m_t h (m_g h v0 5) = 20 ∧ 0 ≤ (m_w v3) ∧ (m_w v3) < m_l h (m_g h v0 5) then (if (m_w (m_g h (m_g h v0 5) (m_w v3))) = 0 then
    (some (v2 + 1) >>= fun x5 => (t11_count_c96 v0 x5 (v3 + 1) h))
  else
    (some (v2 + 0) >>= fun x6 => (t11_count_c96 v0 x6 (v3 + 1) h))) else none)
else
  some (v2, h)) else none)
partial_fixpoint
def t11_count (v0 v1 : Int) (h : m_H) : Option (Int × m_H) :=
  (if m_t h v0 = 11 then t11_isScore v0 (v1 - 20) h >>= fun ⟨r3, h2⟩ => (if r3 = true then
  (if m_t h2 v0 = 11 then if m_t h2 (m_g h2 v0 34) = 20 ∧ 0 ≤ (m_w (v1 - 20)) ∧ (m_w (v1 - 20)) < m_l h2 (m_g h2 v0 34) then some ((m_g h2 (m_g h2 v0 34) (m_w (v1 - 20))), h2) else none else none)
else
  (if (m_w v1) = 0 then
    (if m_t h2 v0 = 11 then some ((m_g h2 v0 18), h2) else none)
  else (if (m_w v1) = 1 then
    (if m_t h2 v0 = 11 then some ((m_g h2 v0 14), h2) else none)
  else (if (m_w v1) = 2 then
    (t11_count_c96 v0 0 0 h2)
  else (if (m_w v1) = 3 then
    (if m_t h2 v0 = 11 then some ((m_g h2 v0 15), h2) else none)
  else (if (m_w v1) = 4 then
    (if m_t h2 v0 = 11 then some ((m_g h2 v0 16), h2) else none)
  else (if (m_w v1) = 5 then
    (if m_t h2 v0 = 11 then some ((m_g h2 v0 23), h2) else none)
  else (if (m_w v1) = 6 then
    (if m_t h2 v0 = 11 then some ((m_g h2 v0 43), h2) else none)
  else (if (m_w v1) = 7 then
    (if m_t h2 v0 = 11 then some ((m_g h2 v0 30), h2) else none)
  else (if (m_w v1) = 8 then
    (if m_t h2 v0 = 11 then some ((m_g h2 v0 85), h2) else none)
  else (if (m_w v1) = 9 then
    (if m_t h2 v0 = 11 then some ((m_g h2 v0 60), h2) else none)
  else (if (m_w v1) = 10 then
    (if m_t h2 v0 = 11 then (if (m_w (m_g h2 v0 60)) = (-1) then
      some ((-1), h2)
    else
      some ((m_g h2 v0 61), h2)) else none)
  else some ((-1), h2))))))))))))) else none)
