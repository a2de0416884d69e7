/-! methods as small functions -/
def t0_init (v0 v1 v2 v3 v4 : Int) (h : m_H) : Option (Unit × m_H) :=
  (if 0 ≤ m_t h v0 then if m_t h v0 = 0 then some (m_p h v0 0 v1) >>= fun h3 => if m_t h3 v0 = 0 then some (m_p h3 v0 1 v2) >>= fun h5 => if m_t h5 v0 = 0 then some (m_p h5 v0 2 v3) >>= fun h7 => if m_t h7 v0 = 0 then some (m_p h7 v0 3 v4) >>= fun h9 => some ((), h9) else none else none else none else none else none)
def t0_copyPace (v0 : Int) (h : m_H) : Option (Int × m_H) :=
  (if m_t h v0 = 0 then some ((1000 + (m_g h v0 0)), h) else none)
def t5_init (v0 : Int) (h : m_H) : Option (Unit × m_H) :=
  (if 0 ≤ m_t h v0 then some (m_a h 20 0) >>= fun h2 => if m_t h2 v0 = 5 then some (m_p h2 v0 0 (m_n h)) >>= fun h4 => some ((), h4) else none else none)
def t5_size (v0 : Int) (h : m_H) : Option (Int × m_H) :=
  (if m_t h v0 = 5 then some ((m_g h v0 1), h) else none)
def t5_get (v0 v1 : Int) (h : m_H) : Option (Int × m_H) :=
  (if (m_w v1) < 0 then
  some (0, h)
else
  (if m_t h v0 = 5 then (if (m_w v1) < (m_w (m_g h v0 1)) then
    (if 20 ≤ m_t h (m_g h v0 0) then (if (m_w v1) < (m_w (m_l h (m_g h v0 0))) then
      (if m_t h (m_g h v0 0) = 20 ∧ 0 ≤ (m_w v1) ∧ (m_w v1) < m_l h (m_g h v0 0) then some ((m_g h (m_g h v0 0) (m_w v1)), h) else none)
    else
      some (0, h)) else none)
  else
    some (0, h)) else none))
def t10_nearest (v0 v1 v2 : Int) (h : m_H) : Option (Int × m_H) :=
  some ((m_max v0 (m_min v1 v2)), h)
def t5_set (v0 v1 v2 : Int) (h : m_H) : Option (Unit × m_H) :=
  (if (m_w v1) < 0 then
  some ((), h)
else
  (if m_t h v0 = 5 then (if (m_w v1) < (m_w (m_g h v0 1)) then
    (if 20 ≤ m_t h (m_g h v0 0) then (if (m_w v1) < (m_w (m_l h (m_g h v0 0))) then
      (t10_nearest (-32768) 32767 v2 h >>= fun ⟨r7, h6⟩ => if m_t h6 (m_g h v0 0) = 20 ∧ 0 ≤ (m_w v1) ∧ (m_w v1) < m_l h6 (m_g h v0 0) then some (m_p h6 (m_g h v0 0) (m_w v1) r7) >>= fun h9 => some ((), h9) else none)
    else
      some ((), h)) else none)
  else
    some ((), h)) else none))
def t5_raise (v0 v1 v2 : Int) (h : m_H) : Option (Unit × m_H) :=
  (if (m_w v1) < 0 then
  some ((), h)
else
  (if m_t h v0 = 5 then (if (m_w v1) < (m_w (m_g h v0 1)) then
    (if 20 ≤ m_t h (m_g h v0 0) then (if (m_w v1) < (m_w (m_l h (m_g h v0 0))) then
      (if m_t h (m_g h v0 0) = 20 ∧ 0 ≤ (m_w v1) ∧ (m_w v1) < m_l h (m_g h v0 0) then some (m_p h (m_g h v0 0) (m_w v1) ((m_g h (m_g h v0 0) (m_w v1)) + v2)) >>= fun h7 => some ((), h7) else none)
    else
      some ((), h)) else none)
  else
    some ((), h)) else none))
def t5_limit_c2 (v0 v1 : Int) (h : m_H) : Option (Unit × m_H) :=
  (if m_t h v0 = 5 then (if (m_w v1) < (m_w (m_g h v0 1)) then
  (t5_get v0 v1 h >>= fun ⟨r4, h3⟩ => if m_t h3 v0 = 5 then t5_set v0 v1 r4 h3 >>= fun ⟨_, h6⟩ => (t5_limit_c2 v0 (v1 + 1) h6) else none)
else
  some ((), h)) else none)
partial_fixpoint
def t5_limit (v0 : Int) (h : m_H) : Option (Unit × m_H) :=
  (t5_limit_c2 v0 0 h)
def t5_resize (v0 v1 : Int) (h : m_H) : Option (Unit × m_H) :=
  (some (m_max v1 0) >>= fun x1 => if m_t h v0 = 5 then if 20 ≤ m_t h (m_g h v0 0) then (if (m_w (m_l h (m_g h v0 0))) < (m_w x1) then
  (if 0 ≤ (m_w (m_max x1 (2 * (m_l h (m_g h v0 0))))) ∧ (m_w (m_max x1 (2 * (m_l h (m_g h v0 0))))) < 60000000 then some (m_a h 20 (m_w (m_max x1 (2 * (m_l h (m_g h v0 0)))))) >>= fun h6 => some (m_n h) >>= fun x7 => if m_t h6 v0 = 5 then if 20 ≤ m_t h6 (m_g h6 v0 0) then if m_t h6 (m_g h6 v0 0) = 20 ∧ m_t h6 x7 = 20 ∧ 0 ≤ (m_w 0) ∧ 0 ≤ (m_w 0) ∧ 0 ≤ (m_w (m_l h6 (m_g h6 v0 0))) ∧ (m_w 0) + (m_w (m_l h6 (m_g h6 v0 0))) ≤ m_l h6 (m_g h6 v0 0) ∧ (m_w 0) + (m_w (m_l h6 (m_g h6 v0 0))) ≤ m_l h6 x7 then some (m_cp h6 (m_g h6 v0 0) (m_w 0) x7 (m_w 0) (m_w (m_l h6 (m_g h6 v0 0)))) >>= fun h11 => if m_t h11 v0 = 5 then some (m_p h11 v0 0 x7) >>= fun h13 => if m_t h13 v0 = 5 then some (m_p h13 v0 1 x1) >>= fun h15 => some ((), h15) else none else none else none else none else none else none)
else
  (some (m_p h v0 1 x1) >>= fun h16 => some ((), h16))) else none else none)
def t5_add (v0 v1 : Int) (h : m_H) : Option (Unit × m_H) :=
  (if m_t h v0 = 5 then t5_resize v0 ((m_g h v0 1) + 1) h >>= fun ⟨_, h2⟩ => if m_t h2 v0 = 5 then t5_set v0 ((m_g h2 v0 1) - 1) v1 h2 >>= fun ⟨_, h5⟩ => some ((), h5) else none else none)
def tJ7_fill_53178_c5 (v0 v1 v2 v3 : Int) (h : m_H) : Option (Unit × m_H) :=
  (if (m_w v2) < (m_w v3) then
  (if m_t h v0 = 20 ∧ 0 ≤ (m_w v2) ∧ (m_w v2) < m_l h v0 then some (m_p h v0 (m_w v2) v1) >>= fun h3 => (tJ7_fill_53178_c5 v0 v1 (v2 + 1) v3 h3) else none)
else
  some ((), h))
partial_fixpoint
def tJ7_fill_53178 (v0 v1 : Int) (h : m_H) : Option (Unit × m_H) :=
  (if 20 ≤ m_t h v0 then some (m_l h v0) >>= fun x2 => (tJ7_fill_53178_c5 v0 v1 0 x2 h) else none)
def t5_silence (v0 v1 : Int) (h : m_H) : Option (Unit × m_H) :=
  (if m_t h v0 = 5 then t5_resize v0 v1 h >>= fun ⟨_, h2⟩ => if m_t h2 v0 = 5 then tJ7_fill_53178 (m_g h2 v0 0) 0 h2 >>= fun ⟨_, h5⟩ => some ((), h5) else none else none)
def t5_dropFirst_c2 (v0 v1 v2 : Int) (h : m_H) : Option (Unit × m_H) :=
  (if m_t h v0 = 5 then (if (m_w v2) < (m_w (m_g h v0 1)) then
  (t5_get v0 v2 h >>= fun ⟨r4, h3⟩ => if m_t h3 v0 = 5 then t5_set v0 (v2 - v1) r4 h3 >>= fun ⟨_, h6⟩ => (t5_dropFirst_c2 v0 v1 (v2 + 1) h6) else none)
else
  (t5_resize v0 ((m_g h v0 1) - v1) h >>= fun ⟨_, h8⟩ => some ((), h8))) else none)
partial_fixpoint
def t5_dropFirst (v0 v1 : Int) (h : m_H) : Option (Unit × m_H) :=
  (t5_dropFirst_c2 v0 v1 v1 h)
def t5_fillPart_c8 (v0 v1 v2 v3 v4 : Int) (h : m_H) : Option (Unit × m_H) :=
  (if (m_w v4) < (m_w v3) then
  (if m_t h v1 = 5 then t5_get v1 (v2 + v4) h >>= fun ⟨r4, h3⟩ => if m_t h3 v0 = 5 then t5_set v0 v4 r4 h3 >>= fun ⟨_, h6⟩ => (t5_fillPart_c8 v0 v1 v2 v3 (v4 + 1) h6) else none else none)
else
  some ((), h))
partial_fixpoint
def t5_fillPart (v0 v1 v2 v3 : Int) (h : m_H) : Option (Unit × m_H) :=
  (if m_t h v0 = 5 then t5_resize v0 v3 h >>= fun ⟨_, h2⟩ => (t5_fillPart_c8 v0 v1 v2 v3 0 h2) else none)
def t5_fillTurned_c10 (v0 v1 v2 : Int) (h : m_H) : Option (Unit × m_H) :=
  (if m_t h v0 = 5 then (if (m_w v2) < (m_w (m_g h v0 1)) then
  (if m_t h v1 = 5 then t5_get v1 (((m_g h v0 1) - 1) - v2) h >>= fun ⟨r5, h4⟩ => if m_t h4 v0 = 5 then t5_set v0 v2 r5 h4 >>= fun ⟨_, h7⟩ => (t5_fillTurned_c10 v0 v1 (v2 + 1) h7) else none else none)
else
  some ((), h)) else none)
partial_fixpoint
def t5_fillTurned (v0 v1 : Int) (h : m_H) : Option (Unit × m_H) :=
  (if m_t h v1 = 5 then if m_t h v0 = 5 then t5_resize v0 (m_g h v1 1) h >>= fun ⟨_, h3⟩ => (t5_fillTurned_c10 v0 v1 0 h3) else none else none)
def t5_fillRound_c7 (v0 v1 v2 v3 : Int) (h : m_H) : Option (Unit × m_H) :=
  (if (m_w v3) < (m_w v2) then
  (if m_t h v1 = 5 then (if 0 < (m_w (m_g h v1 1)) then
    (if (m_w (m_g h v1 1)) = 0 then none else t5_get v1 (Int.tmod (m_w v3) (m_w (m_g h v1 1))) h >>= fun ⟨r5, h4⟩ => if m_t h4 v0 = 5 then t5_set v0 v3 r5 h4 >>= fun ⟨_, h7⟩ => (t5_fillRound_c7 v0 v1 v2 (v3 + 1) h7) else none)
  else
    some ((), h)) else none)
else
  some ((), h))
partial_fixpoint
def t5_fillRound (v0 v1 v2 : Int) (h : m_H) : Option (Unit × m_H) :=
  (if m_t h v0 = 5 then t5_resize v0 v2 h >>= fun ⟨_, h2⟩ => (t5_fillRound_c7 v0 v1 v2 0 h2) else none)
def t5_joinedSize (v0 v1 v2 : Int) (h : m_H) : Option (Int × m_H) :=
  (if m_t h v0 = 5 then if m_t h v1 = 5 then some ((((m_g h v0 1) + (m_g h v1 1)) - v2), h) else none else none)
def t5_fillJoined_c107 (v0 v2 v4 v5 : Int) (h : m_H) : Option (Unit × m_H) :=
  (if m_t h v2 = 5 then (if (m_w v5) < (m_w (m_g h v2 1)) then
  (t5_get v2 v5 h >>= fun ⟨r4, h3⟩ => if m_t h3 v0 = 5 then t5_set v0 (v4 + v5) r4 h3 >>= fun ⟨_, h6⟩ => (t5_fillJoined_c107 v0 v2 v4 (v5 + 1) h6) else none)
else
  some ((), h)) else none)
partial_fixpoint
def t5_fillJoined_c49 (v0 v1 v2 v3 v4 v5 : Int) (h : m_H) : Option (Unit × m_H) :=
  (if (m_w v5) < (m_w v3) then
  (if m_t h v1 = 5 then t5_get v1 (v4 + v5) h >>= fun ⟨r4, h3⟩ => if m_t h3 v2 = 5 then t5_get v2 v5 h3 >>= fun ⟨r7, h6⟩ => some ((r4 * (v3 - v5)) + (r7 * (v5 + 1))) >>= fun x8 => if (m_w (v3 + 1)) = 0 then none else if m_t h6 v0 = 5 then t5_set v0 (v4 + v5) (Int.tdiv (m_w x8) (m_w (v3 + 1))) h6 >>= fun ⟨_, h10⟩ => (t5_fillJoined_c49 v0 v1 v2 v3 v4 (v5 + 1) h10) else none else none else none)
else
  (t5_fillJoined_c107 v0 v2 v4 v3 h))
partial_fixpoint
def t5_fillJoined_c21 (v0 v1 v2 v3 v4 v5 : Int) (h : m_H) : Option (Unit × m_H) :=
  (if (m_w v5) < (m_w v4) then
  (if m_t h v1 = 5 then t5_get v1 v5 h >>= fun ⟨r4, h3⟩ => if m_t h3 v0 = 5 then t5_set v0 v5 r4 h3 >>= fun ⟨_, h6⟩ => (t5_fillJoined_c21 v0 v1 v2 v3 v4 (v5 + 1) h6) else none else none)
else
  (t5_fillJoined_c49 v0 v1 v2 v3 v4 0 h))
partial_fixpoint
def t5_fillJoined (v0 v1 v2 v3 : Int) (h : m_H) : Option (Unit × m_H) :=
  (if m_t h v1 = 5 then some ((m_g h v1 1) - v3) >>= fun x2 => t5_joinedSize v1 v2 v3 h >>= fun ⟨r4, h3⟩ => if m_t h3 v0 = 5 then t5_resize v0 r4 h3 >>= fun ⟨_, h6⟩ => (t5_fillJoined_c21 v0 v1 v2 v3 x2 0 h6) else none else none)
def t5_playedSize (v0 v1 v2 : Int) (h : m_H) : Option (Int × m_H) :=
  (if (m_w v1) < 1 then
  some (0, h)
else
  (if m_t h v0 = 5 then (if (m_w (m_g h v0 1)) < 1 then
    some (0, h)
  else
    (if (m_w v1) = 0 then none else some (((Int.tdiv (m_w (((m_g h v0 1) - 1) * v2)) (m_w v1)) + 1), h))) else none))
def t5_between (v0 v1 v2 : Int) (h : m_H) : Option (Int × m_H) :=
  (if (m_w v2) < 1 then
  some (0, h)
else
  (if (m_w v2) = 0 then none else some (Int.tdiv (m_w v1) (m_w v2)) >>= fun x2 => if m_t h v0 = 5 then t5_get v0 x2 h >>= fun ⟨r5, h4⟩ => if m_t h4 v0 = 5 then (if (m_w (x2 + 1)) < (m_w (m_g h4 v0 1)) then
    (if (m_w v2) = 0 then none else t5_get v0 (x2 + 1) h4 >>= fun ⟨r9, h8⟩ => if (m_w v2) = 0 then none else some ((r5 + (Int.tdiv (m_w ((Int.tmod (m_w v1) (m_w v2)) * (r9 - r5))) (m_w v2))), h8))
  else
    some (r5, h4)) else none else none))
def t5_fillPlayed_c17 (v0 v1 v2 v3 v4 v5 : Int) (h : m_H) : Option (Unit × m_H) :=
  (if (m_w v5) < (m_w v4) then
  (if m_t h v1 = 5 then t5_between v1 (v5 * v2) v3 h >>= fun ⟨r4, h3⟩ => if m_t h3 v0 = 5 then t5_set v0 v5 r4 h3 >>= fun ⟨_, h6⟩ => (t5_fillPlayed_c17 v0 v1 v2 v3 v4 (v5 + 1) h6) else none else none)
else
  some ((), h))
partial_fixpoint
def t5_fillPlayed (v0 v1 v2 v3 : Int) (h : m_H) : Option (Unit × m_H) :=
  (if m_t h v1 = 5 then t5_playedSize v1 v2 v3 h >>= fun ⟨r3, h2⟩ => if m_t h2 v0 = 5 then t5_resize v0 r3 h2 >>= fun ⟨_, h5⟩ => (t5_fillPlayed_c17 v0 v1 v2 v3 r3 0 h5) else none else none)
def t5_level_c2 (v0 v1 v2 : Int) (h : m_H) : Option (Unit × m_H) :=
  (if m_t h v0 = 5 then (if (m_w v2) < (m_w (m_g h v0 1)) then
  (t5_get v0 v2 h >>= fun ⟨r4, h3⟩ => if m_t h3 v0 = 5 then t5_set v0 v2 (Int.tdiv (m_w (r4 * v1)) 64) h3 >>= fun ⟨_, h6⟩ => (t5_level_c2 v0 v1 (v2 + 1) h6) else none)
else
  some ((), h)) else none)
partial_fixpoint
def t5_level (v0 v1 : Int) (h : m_H) : Option (Unit × m_H) :=
  (t5_level_c2 v0 v1 0 h)
def t5_echo_c6 (v0 v1 v2 v3 : Int) (h : m_H) : Option (Unit × m_H) :=
  (if m_t h v0 = 5 then (if (m_w v3) < (m_w (m_g h v0 1)) then
  (t5_get v0 v3 h >>= fun ⟨r4, h3⟩ => if m_t h3 v0 = 5 then t5_get v0 (v3 - v1) h3 >>= fun ⟨r7, h6⟩ => if m_t h6 v0 = 5 then t5_set v0 v3 (r4 + (Int.tdiv (m_w (r7 * v2)) 256)) h6 >>= fun ⟨_, h9⟩ => (t5_echo_c6 v0 v1 v2 (v3 + 1) h9) else none else none)
else
  some ((), h)) else none)
partial_fixpoint
def t5_echo (v0 v1 v2 : Int) (h : m_H) : Option (Unit × m_H) :=
  (some (m_max v1 1) >>= fun x1 => (t5_echo_c6 v0 v1 v2 x1 h))
def t5_fillFiltered_c11 (v0 v1 v2 v3 v4 v5 : Int) (h : m_H) : Option (Unit × m_H) :=
  (if m_t h v0 = 5 then (if (m_w v5) < (m_w (m_g h v0 1)) then
  (if m_t h v1 = 5 then t5_get v1 (v5 - 1) h >>= fun ⟨r5, h4⟩ => if m_t h4 v1 = 5 then t5_get v1 v5 h4 >>= fun ⟨r8, h7⟩ => if m_t h7 v1 = 5 then t5_get v1 (v5 + 1) h7 >>= fun ⟨r11, h10⟩ => some (((r5 * v2) + (r8 * v3)) + (r11 * v4)) >>= fun x12 => if m_t h10 v0 = 5 then t5_set v0 v5 (Int.tdiv (m_w x12) 64) h10 >>= fun ⟨_, h14⟩ => (t5_fillFiltered_c11 v0 v1 v2 v3 v4 (v5 + 1) h14) else none else none else none else none)
else
  some ((), h)) else none)
partial_fixpoint
def t5_fillFiltered (v0 v1 v2 v3 v4 : Int) (h : m_H) : Option (Unit × m_H) :=
  (if m_t h v1 = 5 then if m_t h v0 = 5 then t5_resize v0 (m_g h v1 1) h >>= fun ⟨_, h3⟩ => (t5_fillFiltered_c11 v0 v1 v2 v3 v4 0 h3) else none else none)
def t5_fadeIn_c2 (v0 v1 v2 : Int) (h : m_H) : Option (Unit × m_H) :=
  (if (m_w v2) < (m_w v1) then
  (if m_t h v0 = 5 then t5_get v0 v2 h >>= fun ⟨r4, h3⟩ => if (m_w v1) = 0 then none else if m_t h3 v0 = 5 then t5_set v0 v2 (Int.tdiv (m_w (r4 * v2)) (m_w v1)) h3 >>= fun ⟨_, h6⟩ => (t5_fadeIn_c2 v0 v1 (v2 + 1) h6) else none else none)
else
  some ((), h))
partial_fixpoint
def t5_fadeIn (v0 v1 : Int) (h : m_H) : Option (Unit × m_H) :=
  (t5_fadeIn_c2 v0 v1 0 h)
def t5_fadeOut_c2 (v0 v1 v2 : Int) (h : m_H) : Option (Unit × m_H) :=
  (if (m_w v2) < (m_w v1) then
  (if m_t h v0 = 5 then some (((m_g h v0 1) - 1) - v2) >>= fun x3 => t5_get v0 x3 h >>= fun ⟨r5, h4⟩ => if (m_w v1) = 0 then none else if m_t h4 v0 = 5 then t5_set v0 x3 (Int.tdiv (m_w (r5 * v2)) (m_w v1)) h4 >>= fun ⟨_, h7⟩ => (t5_fadeOut_c2 v0 v1 (v2 + 1) h7) else none else none)
else
  some ((), h))
partial_fixpoint
def t5_fadeOut (v0 v1 : Int) (h : m_H) : Option (Unit × m_H) :=
  (t5_fadeOut_c2 v0 v1 0 h)
def t6_init (v0 v1 v2 : Int) (h : m_H) : Option (Unit × m_H) :=
  (if 0 ≤ m_t h v0 then some (m_a h 20 40) >>= fun h2 => if m_t h2 v0 = 6 then some (m_p h2 v0 3 (m_n h)) >>= fun h4 => if m_t h4 v0 = 6 then some (m_p h4 v0 0 v1) >>= fun h6 => if m_t h6 v0 = 6 then some (m_p h6 v0 1 v2) >>= fun h8 => some ((), h8) else none else none else none else none)
def t6_cell (v0 v1 v2 : Int) (h : m_H) : Option (Int × m_H) :=
  (some ((v1 * 8) + v2) >>= fun x1 => (if (m_w v1) < 0 then
  some ((-1), h)
else
  (if m_t h v0 = 6 then (if (m_w v1) < (m_w (m_g h v0 1)) then
    (if (m_w x1) < 0 then
      some ((-1), h)
    else
      (if 20 ≤ m_t h (m_g h v0 0) then (if (m_w x1) < (m_w (m_l h (m_g h v0 0))) then
        (if m_t h (m_g h v0 0) = 20 ∧ 0 ≤ (m_w x1) ∧ (m_w x1) < m_l h (m_g h v0 0) then some ((m_g h (m_g h v0 0) (m_w x1)), h) else none)
      else
        some ((-1), h)) else none))
  else
    some ((-1), h)) else none)))
def t6_verb (v0 v1 : Int) (h : m_H) : Option (Int × m_H) :=
  (if m_t h v0 = 6 then t6_cell v0 v1 0 h >>= fun ⟨r3, h2⟩ => some (r3, h2) else none)
def t6_one (v0 v1 : Int) (h : m_H) : Option (Int × m_H) :=
  (if m_t h v0 = 6 then t6_cell v0 v1 1 h >>= fun ⟨r3, h2⟩ => some (r3, h2) else none)
def t6_other (v0 v1 : Int) (h : m_H) : Option (Int × m_H) :=
  (if m_t h v0 = 6 then t6_cell v0 v1 2 h >>= fun ⟨r3, h2⟩ => some (r3, h2) else none)
def t6_number (v0 v1 v2 : Int) (h : m_H) : Option (Int × m_H) :=
  (if m_t h v0 = 6 then t6_cell v0 v1 (3 + v2) h >>= fun ⟨r3, h2⟩ => some (r3, h2) else none)
def t6_isSource (v0 v1 : Int) (h : m_H) : Option (Bool × m_H) :=
  (if m_t h v0 = 6 then t6_cell v0 v1 0 h >>= fun ⟨r3, h2⟩ => (if (m_w r3) = 0 then
  some (true, h2)
else
  (if (m_w r3) = 1 then
    some (true, h2)
  else
    some (false, h2))) else none)
def t6_isPut (v0 v1 : Int) (h : m_H) : Option (Bool × m_H) :=
  (if m_t h v0 = 6 then t6_cell v0 v1 0 h >>= fun ⟨r3, h2⟩ => (if (m_w r3) = 12 then
  some (true, h2)
else
  some (false, h2)) else none)
def t6_isBench (v0 v1 : Int) (h : m_H) : Option (Bool × m_H) :=
  (if m_t h v0 = 6 then t6_cell v0 v1 0 h >>= fun ⟨r3, h2⟩ => (if (m_w r3) = 2 then
  some (true, h2)
else
  (if (m_w r3) = 3 then
    some (true, h2)
  else
    (if (m_w r3) = 5 then
      some (true, h2)
    else
      (if (m_w r3) = 6 then
        some (true, h2)
      else
        some (false, h2))))) else none)
def t8_init (v0 v1 v2 v3 : Int) (h : m_H) : Option (Unit × m_H) :=
  (if 0 ≤ m_t h v0 then some (m_a h 5 2) >>= fun h2 => if 0 ≤ m_t h2 (m_n h) then t5_init (m_n h) h2 >>= fun ⟨_, h4⟩ => if m_t h4 v0 = 8 then some (m_p h4 v0 3 (m_n h)) >>= fun h7 => if m_t h7 v0 = 8 then some (m_p h7 v0 4 0) >>= fun h9 => if m_t h9 v0 = 8 then some (m_p h9 v0 8 (-1)) >>= fun h11 => if m_t h11 v0 = 8 then some (m_p h11 v0 9 (-1)) >>= fun h13 => if m_t h13 v0 = 8 then some (m_p h13 v0 10 (-1)) >>= fun h15 => if m_t h15 v0 = 8 then some (m_p h15 v0 0 v1) >>= fun h17 => if m_t h17 v0 = 8 then some (m_p h17 v0 1 v2) >>= fun h19 => if m_t h19 v0 = 8 then some (m_p h19 v0 2 v3) >>= fun h21 => some ((), h21) else none else none else none else none else none else none else none else none else none else none)
def t8_fact (v0 v1 : Int) (h : m_H) : Option (Int × m_H) :=
  (if (m_w v1) = 0 then
  (if m_t h v0 = 8 then some ((m_g h v0 1), h) else none)
else (if (m_w v1) = 1 then
  (if m_t h v0 = 8 then some ((m_g h v0 4), h) else none)
else (if (m_w v1) = 2 then
  (if m_t h v0 = 8 then if m_t h (m_g h v0 3) = 5 then t5_size (m_g h v0 3) h >>= fun ⟨r9, h8⟩ => some (r9, h8) else none else none)
else (if (m_w v1) = 3 then
  (if m_t h v0 = 8 then some ((m_g h v0 5), h) else none)
else (if (m_w v1) = 4 then
  (if m_t h v0 = 8 then some ((m_g h v0 6), h) else none)
else (if (m_w v1) = 5 then
  (if m_t h v0 = 8 then some ((m_g h v0 7), h) else none)
else (if (m_w v1) = 6 then
  (if m_t h v0 = 8 then some ((m_g h v0 8), h) else none)
else (if (m_w v1) = 7 then
  (if m_t h v0 = 8 then some ((m_g h v0 2), h) else none)
else (if (m_w v1) = 8 then
  (if m_t h v0 = 8 then some ((m_g h v0 9), h) else none)
else (if (m_w v1) = 9 then
  (if m_t h v0 = 8 then some ((m_g h v0 10), h) else none)
else (if (m_w v1) = 10 then
  (if m_t h v0 = 8 then some ((m_g h v0 11), h) else none)
else some ((-1), h))))))))))))
def t8_ageAs (v0 v1 : Int) (h : m_H) : Option (Unit × m_H) :=
  (if m_t h v0 = 8 then if m_t h v1 = 8 then some (m_p h v0 5 (m_max (m_g h v0 5) (m_g h v1 5))) >>= fun h3 => if m_t h3 v0 = 8 then if m_t h3 v1 = 8 then some (m_p h3 v0 6 (m_max (m_g h3 v0 6) (m_g h3 v1 6))) >>= fun h6 => if m_t h6 v0 = 8 then if m_t h6 v1 = 8 then some (m_p h6 v0 7 (m_max (m_g h6 v0 7) (m_g h6 v1 7))) >>= fun h9 => some ((), h9) else none else none else none else none else none else none)
