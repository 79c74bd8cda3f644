/-! the machine of frames: a frame is (node, dyadic, phase, x, y, w) -/
abbrev am_F : Type := Nat × Bool × Nat × List Int32 × List Int32 × List Int32
abbrev am_O : Type := Sum Nat (Sum (List Int32) (List Int32 × Nat × Bool × List Int32 × List Int32))
abbrev am_fail (e : Nat) : am_O := Sum.inl e
abbrev am_pop (v : List Int32) : am_O := Sum.inr (Sum.inl v)
abbrev am_push (w : List Int32) (n : Nat) (d : Bool) (x y : List Int32) : am_O := Sum.inr (Sum.inr (w, n, d, x, y))
def am_fork (f s t : Nat) (d : Bool) (p : Nat) (x y w R : List Int32) : am_O :=
  if p = 0 then am_push w t d x y else if p = 1 then am_push R f d x y else if p = 2 then am_push w s true R w else am_pop R
def am_hook (f s : Nat) (d : Bool) (p : Nat) (x y w R : List Int32) : am_O :=
  if p = 0 then am_push w s false [] y else if p = 1 then am_push w f true (if d = true then x else y) R else am_pop R
def am_atop (f s : Nat) (d : Bool) (p : Nat) (x y w R : List Int32) : am_O :=
  if p = 0 then am_push w s d x y else if p = 1 then am_push w f false [] R else am_pop R
def am_nx (d : Bool) (p : Nat) : Nat := if d = true then p else p + 1
def am_r (d : Bool) (p : Nat) (x y R : List Int32) : List Int32 := if p = 0 then (if d = true then x else y.take 1) else R
def am_z (d : Bool) (p : Nat) (y w R : List Int32) : List Int32 := if p = 0 then (if d = true then [] else y.take 1) else w ++ R
def am_red (f : Nat) (d : Bool) (p : Nat) (x y w R : List Int32) : am_O :=
  if p = 0 ∧ d = false ∧ y.length = 0 then am_fail 1
  else if am_nx d p < y.length then am_push w f true (am_r d p x y R) [y.getD (am_nx d p) 0] else am_pop (am_r d p x y R)
def am_scan (f : Nat) (d : Bool) (p : Nat) (x y w R : List Int32) : am_O :=
  if p ≠ 0 ∧ R.length ≠ 1 then am_fail 1
  else if am_nx d p < y.length then am_push (am_z d p y w R) f true (am_r d p x y R) [y.getD (am_nx d p) 0] else am_pop (am_z d p y w R)
def am_cnt (d : Bool) (x y : List Int32) : Option Nat := if d = true then pr_cnt x.length y.length else some y.length
def am_ze (p : Nat) (w R : List Int32) : List Int32 := if p = 0 then [] else w ++ R
def am_each (f : Nat) (d : Bool) (p : Nat) (x y w R : List Int32) : am_O :=
  match am_cnt d x y with
  | none => am_fail 1
  | some n =>
    if p ≠ 0 ∧ R.length ≠ 1 then am_fail 1
    else if p < n then am_push (am_ze p w R) f d (if d = true then [pr_el x p] else []) [if d = true then pr_el y p else y.getD p 0]
    else am_pop (am_ze p w R)
def am_dy (o : Nat × List Int32) : am_O := if o.1 = 0 then am_pop o.2 else am_fail o.1
def am_leaf (lim k : Nat) (d : Bool) (x y : List Int32) : am_O :=
  if 48 ≤ k ∧ k ≤ 57 then am_pop [nI (k - 48)] else if d = true then am_dy (pr_D lim k x y) else am_pop (pr_M k y)
def am_act (lim : Nat) (K F S T : Nat → Nat) (n : Nat) (d : Bool) (p : Nat) (x y w R : List Int32) : am_O :=
  if K n = 1 then am_fork (F n) (S n) (T n) d p x y w R
  else if K n = 2 then am_hook (F n) (S n) d p x y w R
  else if K n = 64 then am_atop (F n) (S n) d p x y w R
  else if K n = 47 then am_red (F n) d p x y w R
  else if K n = 92 then am_scan (F n) d p x y w R
  else if K n = 34 then am_each (F n) d p x y w R
  else am_leaf lim (K n) d x y
/-! the tree: kinds K, children F S T; C counts the canonical form's characters, A the adverbs, D bounds the steps -/
def nd_pr (k : Nat) : Nat := if k = 47 ∨ k = 92 ∨ k = 34 ∨ k = 64 then 2 else 0
def nd_ok (K F S T C A D : Nat → Nat) (n : Nat) : Prop :=
  (pr_lf (K n) ∧ C n = 1 ∧ A n = 0 ∧ D n = 1) ∨
  (pr_av (K n) ∧ F n < n ∧ C n = 1 + C (F n) ∧ A n = 1 + A (F n) ∧ D n = 17 * (1 + D (F n))) ∨
  (K n = 64 ∧ F n < n ∧ S n < n ∧ C n = 1 + nd_pr (K (S n)) + C (F n) + C (S n) ∧ A n = A (F n) + A (S n) ∧ D n = 3 + D (S n) + D (F n)) ∨
  (K n = 1 ∧ F n < n ∧ S n < n ∧ T n < n ∧ C n = 2 + C (F n) + C (S n) + C (T n) ∧ A n = A (F n) + A (S n) + A (T n) ∧ D n = 4 + D (T n) + D (F n) + D (S n)) ∨
  (K n = 2 ∧ F n < n ∧ S n < n ∧ C n = 2 + C (F n) + C (S n) ∧ A n = A (F n) + A (S n) ∧ D n = 3 + D (S n) + D (F n))
def nd_b (C A D : Nat → Nat) (n : Nat) : Prop := D n ≤ 4 * C n * 17 ^ A n
/-- the steps that are left to a frame -/
def am_rem (K F S T D : Nat → Nat) (n p : Nat) : Nat :=
  if K n = 1 then (if p = 0 then 4 + D (T n) + D (F n) + D (S n) else if p = 1 then 3 + D (F n) + D (S n) else if p = 2 then 2 + D (S n) else 1)
  else if K n = 2 ∨ K n = 64 then (if p = 0 then 3 + D (S n) + D (F n) else if p = 1 then 2 + D (F n) else 1)
  else if K n = 47 ∨ K n = 92 ∨ K n = 34 then (17 - p) * (1 + D (F n))
  else 1
def am_M (K F S T D : Nat → Nat) : List am_F → Nat
  | [] => 0
  | (n, _, p, _, _, _) :: r => am_rem K F S T D n p + am_M K F S T D r
/-- what a frame keeps to: how far an adverb has come, how long w is -/
def am_lc (k : Nat) (d : Bool) (p : Nat) (x y w : List Int32) : Prop :=
  p ≤ 16 ∧ x.length ≤ 16 ∧ y.length ≤ 16 ∧ w.length ≤ 16 ∧
  (k = 47 → 0 < p → am_nx d p ≤ y.length) ∧
  (k = 92 → 0 < p → am_nx d p ≤ y.length ∧ w.length + 1 = am_nx d p) ∧
  (k = 34 → 0 < p → w.length + 1 = p ∧ ∃ q, am_cnt d x y = some q ∧ p ≤ q)
def am_ok (N : Nat) (K : Nat → Nat) : List am_F → Prop
  | [] => True
  | (n, d, p, x, y, w) :: r => n < N ∧ n + r.length < 63 ∧ am_lc (K n) d p x y w ∧ am_ok N K r
/-- where a value has just come back -/
def am_rdy : List am_F → Prop
  | [] => True
  | (_, _, p, _, _, _) :: _ => 0 < p
theorem am_pl (K F S T C A D : Nat → Nat) {n : Nat} (h : nd_ok K F S T C A D n) : D n = am_rem K F S T D n 0 := by
  unfold am_rem
  rcases h with ⟨h, -, -, e⟩ | ⟨h, -, -, -, e⟩ | ⟨h, -, -, -, -, e⟩ | ⟨h, -, -, -, -, -, e⟩ | ⟨h, -, -, -, -, e⟩
  · unfold pr_lf pr_vb pr_dig at h
    rw [if_neg (by omega), if_neg (by omega), if_neg (by omega)]; exact e
  · unfold pr_av at h
    rw [if_neg (by omega), if_neg (by omega), if_pos (by omega)]; exact e
  · rw [if_neg (by omega), if_pos (by omega), if_pos rfl]; exact e
  · rw [if_pos h, if_pos rfl]; exact e
  · rw [if_neg (by omega), if_pos (by omega), if_pos rfl]; exact e
theorem am_rem1 (K F S T D : Nat → Nat) (n p : Nat) (hp : p ≤ 16) : 1 ≤ am_rem K F S T D n p := by
  unfold am_rem
  split
  · split
    · omega
    · split
      · omega
      · split <;> omega
  · split
    · split
      · omega
      · split <;> omega
    · split
      · exact Nat.mul_pos (by omega) (by omega)
      · omega
theorem am_avs (D q p : Nat) (hp : p ≤ 16) : (17 - (p + 1)) * (1 + D) + D + 1 = (17 - p) * (1 + D) + q → q = 0 := by
  intro h
  have e : 17 - p = (17 - (p + 1)) + 1 := by omega
  rw [e, Nat.add_mul] at h
  omega
theorem am_av1 (D p : Nat) (hp : p ≤ 16) : (17 - (p + 1)) * (1 + D) + D + 1 = (17 - p) * (1 + D) := by
  have e : 17 - p = (17 - (p + 1)) + 1 := by omega
  rw [e, Nat.add_mul]
  omega
