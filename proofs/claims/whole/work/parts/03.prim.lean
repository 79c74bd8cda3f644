/-! the primitives over lists; a pair is a code (0: none) and a value -/
def pr_cnt (n m : Nat) : Option Nat := if n = m ∨ n = 1 then some m else if m = 1 then some n else none
def pr_el (xs : List Int32) (i : Nat) : Int32 := if xs.length = 1 then xs.getD 0 0 else xs.getD i 0
def pr_m1 (k : Nat) (v : Int32) : Int32 :=
  if k = 43 then v + v else if k = 45 then 0 - v else if k = 42 then (if v < 0 then -1 else if 0 < v then 1 else 0) else if k = 60 then v - 1 else v + 1
def pr_m2 (k : Nat) (a b : Int32) : Int32 :=
  if k = 43 then a + b else if k = 45 then a - b else if k = 42 then a * b else if k = 60 then (if a < b then a else b) else if b < a then a else b
def pr_M (k : Nat) (y : List Int32) : List Int32 :=
  if k = 91 ∨ k = 93 ∨ k = 44 then y else if k = 35 then [nI y.length] else if k = 124 then (List.range y.length).map (fun i => y.getD (y.length - 1 - i) 0)
  else (List.range y.length).map (fun i => pr_m1 k (y.getD i 0))
/-- the counted copy from element i on, r elements still to come -/
def pr_cp (lim : Nat) (x y : List Int32) : Nat → Nat → List Int32 → Nat × List Int32
  | 0, _, acc => (0, acc)
  | r + 1, i, acc =>
    if pr_el x i < 0 then (2, []) else if nI (lim - acc.length) < pr_el x i then (3, [])
    else pr_cp lim x y r (i + 1) (acc ++ List.replicate (pr_el x i).toNatClampNeg (y.getD i 0))
def pr_k (v : Int32) (m : Nat) : Nat := (v.toInt % (m : Int)).toNat
def pr_rot (x y : List Int32) : List Int32 :=
  (List.range y.length).map (fun i => y.getD ((i + pr_k (x.getD 0 0) y.length) % y.length) 0)
def pr_D (lim k : Nat) (x y : List Int32) : Nat × List Int32 :=
  if k = 91 then (0, x) else if k = 93 then (0, y)
  else if k = 35 then (if x.length ≠ y.length ∧ x.length ≠ 1 then (1, []) else pr_cp lim x y y.length 0 [])
  else if k = 44 then (if lim < x.length + y.length then (3, []) else (0, x ++ y))
  else if k = 124 then (if x.length ≠ 1 then (1, []) else (0, pr_rot x y))
  else match pr_cnt x.length y.length with
    | none => (1, [])
    | some n => (0, (List.range n).map (fun i => pr_m2 k (pr_el x i) (pr_el y i)))
def pr_dig (k : Nat) : Prop := 48 ≤ k ∧ k ≤ 57
def pr_vb (k : Nat) : Prop := k = 43 ∨ k = 45 ∨ k = 42 ∨ k = 60 ∨ k = 62 ∨ k = 91 ∨ k = 93 ∨ k = 35 ∨ k = 44 ∨ k = 124
def pr_lf (k : Nat) : Prop := pr_vb k ∨ pr_dig k
def pr_av (k : Nat) : Prop := k = 47 ∨ k = 92 ∨ k = 34
theorem pr_cnt_le {n m q : Nat} (h : pr_cnt n m = some q) (hn : n ≤ 16) (hm : m ≤ 16) : q ≤ 16 := by
  unfold pr_cnt at h
  split at h
  · cases h; exact hm
  · split at h
    · cases h; exact hn
    · cases h
