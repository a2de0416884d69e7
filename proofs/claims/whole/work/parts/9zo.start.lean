/-! THE START (written by gen9zo.py) -/
def n_c47F : Nat → Int → Int → m_H → Option (Unit × m_H)
  | 0 => fun _ _ _ => none
  | f + 1 => fun v0 v2 h =>
  (if m_t h v0 = 3 then if 20 ≤ m_t h (m_g h v0 1) then (if (m_w v2) < (m_w (m_l h (m_g h v0 1))) then
  (some (m_a h 5 2) >>= fun h4 => if 0 ≤ m_t h4 (m_n h) then t5_init (m_n h) h4 >>= fun ⟨_, h6⟩ => if (m_t h6 (m_g h v0 1) = 27 ∧ 0 ≤ (m_w v2) ∧ (m_w v2) < m_l h6 (m_g h v0 1)) ∧ m_t h6 (m_n h) = 5 then some (m_p h6 (m_g h v0 1) (m_w v2) (m_n h)) >>= fun h9 => (n_c47F f v0 (v2 + 1) h9) else none else none)
else
  some ((), h)) else none else none)
def n_t3F (v0 v1 : Int) (h : m_H) : Option (Unit × m_H) :=
  (if 0 ≤ m_t h v0 then some (m_a h 27 40) >>= fun h2 => if m_t h2 v0 = 3 then some (m_p h2 v0 1 (m_n h)) >>= fun h4 => some (m_a h4 5 2) >>= fun h5 => if 0 ≤ m_t h5 (m_n h4) then t5_init (m_n h4) h5 >>= fun ⟨_, h7⟩ => if m_t h7 v0 = 3 then some (m_p h7 v0 2 (m_n h4)) >>= fun h10 => some (m_a h10 20 40) >>= fun h11 => if m_t h11 v0 = 3 then some (m_p h11 v0 3 (m_n h10)) >>= fun h13 => some (m_a h13 20 40) >>= fun h14 => if m_t h14 v0 = 3 then some (m_p h14 v0 4 (m_n h13)) >>= fun h16 => if m_t h16 v0 = 3 then some (m_p h16 v0 0 v1) >>= fun h18 => (n_c47F 41 v0 0 h18) else none else none else none else none else none else none else none)
def n_t10F (v0 : Int) (h : m_H) : Option (Unit × m_H) :=
  (if 0 ≤ m_t h v0 then some (m_a h 7 12) >>= fun h2 => if 0 ≤ m_t h2 (m_n h) then t7_init (m_n h) h2 >>= fun ⟨_, h4⟩ => if m_t h4 v0 = 10 then some (m_p h4 v0 0 (m_n h)) >>= fun h7 => some (m_a h7 5 2) >>= fun h8 => if 0 ≤ m_t h8 (m_n h7) then t5_init (m_n h7) h8 >>= fun ⟨_, h10⟩ => if m_t h10 v0 = 10 then some (m_p h10 v0 1 (m_n h7)) >>= fun h13 => some (m_a h13 4 11) >>= fun h14 => if 0 ≤ m_t h14 (m_n h13) then t4_init (m_n h13) h14 >>= fun ⟨_, h16⟩ => if m_t h16 v0 = 10 then some (m_p h16 v0 2 (m_n h13)) >>= fun h19 => some (m_a h19 26 8) >>= fun h20 => if m_t h20 v0 = 10 then some (m_p h20 v0 3 (m_n h19)) >>= fun h22 => some (m_a h22 3 5) >>= fun h23 => if m_t h23 v0 = 10 then if 0 ≤ m_t h23 (m_n h22) then n_t3F (m_n h22) (m_g h23 v0 0) h23 >>= fun ⟨_, h26⟩ => if m_t h26 v0 = 10 then some (m_p h26 v0 5 (m_n h22)) >>= fun h29 => some (m_a h29 2 8) >>= fun h30 => if m_t h30 v0 = 10 then if 0 ≤ m_t h30 (m_n h29) then t2_init (m_n h29) (m_g h30 v0 0) h30 >>= fun ⟨_, h33⟩ => if m_t h33 v0 = 10 then some (m_p h33 v0 6 (m_n h29)) >>= fun h36 => some (m_a h36 9 7) >>= fun h37 => if 0 ≤ m_t h37 (m_n h36) then t9_init (m_n h36) h37 >>= fun ⟨_, h39⟩ => if m_t h39 v0 = 10 then some (m_p h39 v0 7 (m_n h36)) >>= fun h42 => some (m_a h42 5 2) >>= fun h43 => if 0 ≤ m_t h43 (m_n h42) then t5_init (m_n h42) h43 >>= fun ⟨_, h45⟩ => if m_t h45 v0 = 10 then some (m_p h45 v0 8 (m_n h42)) >>= fun h48 => some (m_a h48 1 13) >>= fun h49 => if m_t h49 v0 = 10 then if 0 ≤ m_t h49 (m_n h48) then t1_init (m_n h48) (m_g h49 v0 0) (m_g h49 v0 8) h49 >>= fun ⟨_, h52⟩ => if m_t h52 v0 = 10 then some (m_p h52 v0 9 (m_n h48)) >>= fun h55 => some ((), h55) else none else none else none else none else none else none else none else none else none else none else none else none else none else none else none else none else none else none else none else none else none)
theorem n_moI {α : Type} {c : Prop} [Decidable c] {a a' : Option α} (m : ∀ r, a = some r → a' = some r) : ∀ r, (if c then a else none) = some r → (if c then a' else none) = some r := fun r h => by
  by_cases q : c
  · rw [if_pos q] at h ⊢; exact m r h
  · rw [if_neg q] at h; cases h
theorem n_moJ {α : Type} {c : Prop} [Decidable c] {a a' b : Option α} (m : ∀ r, a = some r → a' = some r) : ∀ r, (if c then a else b) = some r → (if c then a' else b) = some r := fun r h => by
  by_cases q : c
  · rw [if_pos q] at h ⊢; exact m r h
  · rw [if_neg q] at h ⊢; exact h
theorem n_moB {α β : Type} {o : Option β} {f f' : β → Option α} (m : ∀ x r, f x = some r → f' x = some r) : ∀ r, (o >>= f) = some r → (o >>= f') = some r := fun r h => by
  cases o with
  | none => exact h
  | some x => exact m x r h
theorem n_moO {α β : Type} {o o' : Option β} {f : β → Option α} (m : ∀ x, o = some x → o' = some x) : ∀ r, (o >>= f) = some r → (o' >>= f) = some r := fun r h => by
  cases o with
  | none => cases h
  | some x => rw [m x rfl]; exact h
theorem n_c47_ok : ∀ (f : Nat) (v0 v2 : Int) (h : m_H) (r : Unit × m_H), n_c47F f v0 v2 h = some r → t3_init_c47 v0 v2 h = some r
  | 0, _, _, _, _, e => by cases e
  | f + 1, v0, v2, h, r, e => by
    rw [t3_init_c47]
    revert r
    refine n_moI (n_moI (n_moJ (n_moB fun h4 => n_moI (n_moB fun x => ?_))))
    exact n_moI (n_moB fun h9 r e => n_c47_ok f v0 (v2 + 1) h9 r e)
theorem n_t3_ok (v0 v1 : Int) (h : m_H) : ∀ r, n_t3F v0 v1 h = some r → t3_init v0 v1 h = some r := by
  unfold n_t3F t3_init
  repeat (first | refine n_moI ?_ | refine n_moB fun _ => ?_)
  exact fun r e => n_c47_ok 41 _ _ _ r e
theorem n_t10_ok (v0 : Int) (h : m_H) : ∀ r, n_t10F v0 h = some r → t10_init v0 h = some r := by
  unfold n_t10F t10_init
  repeat (first | refine n_moI ?_ | refine n_moB fun _ => ?_)
  exact n_moO (n_t3_ok _ _ _)
/-- nothing lies outside of the cells so far -/
def n_ok (h : m_H) : Prop := 1 ≤ m_n h ∧ ∀ a, (a < 1 ∨ m_n h ≤ a) → m_t h a = -1
def n_pr {α : Type} (o : Option (α × m_H)) : Prop := ∀ r, o = some r → n_ok r.2
theorem n_okP {h : m_H} {a k v : Int} (X : n_ok h) : n_ok (m_p h a k v) := X
theorem n_okA {h : m_H} {t n : Int} (X : n_ok h) : n_ok (m_a h t n) := by
  refine ⟨?_, fun a ha => ?_⟩
  · rw [m_n_a]; have := X.1; omega
  · rw [m_n_a] at ha
    have := X.1
    rw [m_t_a, if_neg (by omega)]
    exact X.2 a (by omega)
theorem n_okA2 {h : m_H} {n k : Int} (n0 : 0 ≤ n) (X : n_ok h) : n_ok (m_a2 h n k) := by
  have e : m_n (m_a2 h n k) = m_n h + 1 + n := rfl
  refine ⟨by rw [e]; have := X.1; omega, fun a ha => ?_⟩
  rw [e] at ha
  have := X.1
  show (if a = m_n h then 29 else if m_n h < a ∧ a ≤ m_n h + n then 20 else m_t h a) = -1
  rw [if_neg (by omega), if_neg (by omega)]
  exact X.2 a (by omega)
theorem n_prI {α : Type} {c : Prop} [Decidable c] {a : Option (α × m_H)} (m : n_pr a) : n_pr (if c then a else none) := fun r h => by
  by_cases q : c
  · rw [if_pos q] at h; exact m r h
  · rw [if_neg q] at h; cases h
theorem n_prJ {α : Type} {c : Prop} [Decidable c] {a b : Option (α × m_H)} (m : n_pr a) (w : n_pr b) : n_pr (if c then a else b) := fun r h => by
  by_cases q : c
  · rw [if_pos q] at h; exact m r h
  · rw [if_neg q] at h; exact w r h
theorem n_prH {α : Type} {x : m_H} {f : m_H → Option (α × m_H)} (X : n_ok x) (m : ∀ y, n_ok y → n_pr (f y)) : n_pr (some x >>= f) := m x X
theorem n_prN {α : Type} {x : Int} {f : Int → Option (α × m_H)} (m : ∀ y, n_pr (f y)) : n_pr (some x >>= f) := m x
theorem n_prB {α β : Type} {o : Option (β × m_H)} {f : β × m_H → Option (α × m_H)} (X : n_pr o) (m : ∀ u h, n_ok h → n_pr (f (u, h))) : n_pr (o >>= f) := fun r h => by
  cases o with
  | none => cases h
  | some x => exact m x.1 x.2 (X x rfl) r h
theorem n_prR {α : Type} {u : α} {h : m_H} (X : n_ok h) : n_pr (some (u, h)) := fun r e => by cases e; exact X
theorem n_pr_t5_init {h : m_H} (v0 : Int) (X : n_ok h) : n_pr (t5_init v0 h) := by
  unfold t5_init
  repeat (first | refine n_prH (by first | exact n_okA (by assumption) | exact n_okP (by assumption) | exact n_okA2 (by omega) (by assumption)) (fun _ _ => ?_) | refine n_prN (fun _ => ?_) | refine n_prI ?_ | exact n_prR (by assumption))
theorem n_pr_t6_init {h : m_H} (v0 v1 v2 : Int) (X : n_ok h) : n_pr (t6_init v0 v1 v2 h) := by
  unfold t6_init
  repeat (first | refine n_prH (by first | exact n_okA (by assumption) | exact n_okP (by assumption) | exact n_okA2 (by omega) (by assumption)) (fun _ _ => ?_) | refine n_prN (fun _ => ?_) | refine n_prI ?_ | exact n_prR (by assumption))
theorem n_pr_t7_init {h : m_H} (v0 : Int) (X : n_ok h) : n_pr (t7_init v0 h) := by
  unfold t7_init
  repeat (first | refine n_prH (by first | exact n_okA (by assumption) | exact n_okP (by assumption) | exact n_okA2 (by omega) (by assumption)) (fun _ _ => ?_) | refine n_prN (fun _ => ?_) | refine n_prI ?_ | exact n_prR (by assumption))
theorem n_pr_t4_init {h : m_H} (v0 : Int) (X : n_ok h) : n_pr (t4_init v0 h) := by
  unfold t4_init
  repeat (first | refine n_prH (by first | exact n_okA (by assumption) | exact n_okP (by assumption) | exact n_okA2 (by omega) (by assumption)) (fun _ _ => ?_) | refine n_prN (fun _ => ?_) | refine n_prB (n_pr_t5_init _ (by assumption)) (fun _ _ _ => ?_) | refine n_prB (n_pr_t6_init _ _ _ (by assumption)) (fun _ _ _ => ?_) | refine n_prI ?_ | exact n_prR (by assumption))
theorem n_pr_t1_init {h : m_H} (v0 v1 v2 : Int) (X : n_ok h) : n_pr (t1_init v0 v1 v2 h) := by
  unfold t1_init
  repeat (first | refine n_prH (by first | exact n_okA (by assumption) | exact n_okP (by assumption) | exact n_okA2 (by omega) (by assumption)) (fun _ _ => ?_) | refine n_prN (fun _ => ?_) | refine n_prB (n_pr_t5_init _ (by assumption)) (fun _ _ _ => ?_) | refine n_prI ?_ | exact n_prR (by assumption))
theorem n_pr_t2_init {h : m_H} (v0 v1 : Int) (X : n_ok h) : n_pr (t2_init v0 v1 h) := by
  unfold t2_init
  repeat (first | refine n_prH (by first | exact n_okA (by assumption) | exact n_okP (by assumption) | exact n_okA2 (by omega) (by assumption)) (fun _ _ => ?_) | refine n_prN (fun _ => ?_) | refine n_prB (n_pr_t5_init _ (by assumption)) (fun _ _ _ => ?_) | refine n_prB (n_pr_t6_init _ _ _ (by assumption)) (fun _ _ _ => ?_) | refine n_prI ?_ | exact n_prR (by assumption))
theorem n_pr_t9_init {h : m_H} (v0 : Int) (X : n_ok h) : n_pr (t9_init v0 h) := by
  unfold t9_init
  repeat (first | refine n_prH (by first | exact n_okA (by assumption) | exact n_okP (by assumption) | exact n_okA2 (by omega) (by assumption)) (fun _ _ => ?_) | refine n_prN (fun _ => ?_) | refine n_prI ?_ | exact n_prR (by assumption))
theorem n_pr_n_c47F : ∀ (f : Nat) (v0 v2 : Int) (h : m_H), n_ok h → n_pr (n_c47F f v0 v2 h)
  | 0, _, _, _, _ => fun r e => by cases e
  | f + 1, v0, v2, h, X => by
    unfold n_c47F
    refine n_prI (n_prI (n_prJ (n_prH (n_okA X) fun h4 X4 => n_prI (n_prB (n_pr_t5_init _ X4) fun u h6 X6 => n_prI (n_prH (n_okP X6) fun h9 X9 => n_pr_n_c47F f v0 (v2 + 1) h9 X9))) (n_prR X)))
theorem n_pr_n_t3F {h : m_H} (v0 v1 : Int) (X : n_ok h) : n_pr (n_t3F v0 v1 h) := by
  unfold n_t3F
  repeat (first | refine n_prH (by first | exact n_okA (by assumption) | exact n_okP (by assumption) | exact n_okA2 (by omega) (by assumption)) (fun _ _ => ?_) | refine n_prN (fun _ => ?_) | refine n_prB (n_pr_t5_init _ (by assumption)) (fun _ _ _ => ?_) | exact n_pr_n_c47F _ _ _ _ (by assumption) | refine n_prB (n_pr_n_c47F _ _ _ _ (by assumption)) (fun _ _ _ => ?_) | refine n_prI ?_ | exact n_prR (by assumption))
theorem n_pr_n_t10F {h : m_H} (v0 : Int) (X : n_ok h) : n_pr (n_t10F v0 h) := by
  unfold n_t10F
  repeat (first | refine n_prH (by first | exact n_okA (by assumption) | exact n_okP (by assumption) | exact n_okA2 (by omega) (by assumption)) (fun _ _ => ?_) | refine n_prN (fun _ => ?_) | refine n_prB (n_pr_t7_init _ (by assumption)) (fun _ _ _ => ?_) | refine n_prB (n_pr_t5_init _ (by assumption)) (fun _ _ _ => ?_) | refine n_prB (n_pr_t4_init _ (by assumption)) (fun _ _ _ => ?_) | refine n_prB (n_pr_n_t3F _ _ (by assumption)) (fun _ _ _ => ?_) | refine n_prB (n_pr_t2_init _ _ (by assumption)) (fun _ _ _ => ?_) | refine n_prB (n_pr_t9_init _ (by assumption)) (fun _ _ _ => ?_) | refine n_prB (n_pr_t1_init _ _ _ (by assumption)) (fun _ _ _ => ?_) | refine n_prI ?_ | exact n_prR (by assumption))
theorem n_pr_t11_init {h : m_H} (v0 : Int) (X : n_ok h) : n_pr (t11_init v0 h) := by
  unfold t11_init
  repeat (first | refine n_prH (by first | exact n_okA (by assumption) | exact n_okP (by assumption) | exact n_okA2 (by omega) (by assumption)) (fun _ _ => ?_) | refine n_prN (fun _ => ?_) | refine n_prI ?_ | exact n_prR (by assumption))

