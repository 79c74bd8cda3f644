/-! the canonical form's stack: a node, or a character -/
abbrev cn_I : Type := Bool × Nat
def cn_ex : cn_I → Int32
  | (true, n) => nI n
  | (false, c) => -nI c
def cn_ey : cn_I → Int32
  | (true, n) => nI n
  | (false, c) => -1 - nI c
def cn_w (C : Nat → Nat) : List cn_I → Nat
  | [] => 0
  | (true, n) :: r => 2 * C n + cn_w C r
  | (false, _) :: r => 1 + cn_w C r
def cn_c (C : Nat → Nat) : List cn_I → Nat
  | [] => 0
  | (true, n) :: r => C n + cn_c C r
  | (false, _) :: r => 1 + cn_c C r
def cn_ok (N : Nat) : List cn_I → Prop
  | [] => True
  | (true, n) :: r => n < N ∧ cn_ok N r
  | (false, c) :: r => 0 < c ∧ c < 128 ∧ cn_ok N r
def cn_S (e : cn_I → Int32) (a : Nat → Int32) : List cn_I → Prop
  | [] => True
  | it :: r => a r.length = e it ∧ cn_S e a r
theorem cn_k {e : cn_I → Int32} {a a' : Nat → Int32} : ∀ st : List cn_I, (∀ j, j < st.length → a' j = a j) → cn_S e a st → cn_S e a' st
  | [], _, _ => trivial
  | it :: r, h, k => ⟨(h r.length (Nat.lt_succ_self _)).trans k.1, cn_k r (fun j hj => h j (Nat.lt_succ_of_lt hj)) k.2⟩
theorem cn_push {e : cn_I → Int32} {a : Nat → Int32} {st : List cn_I} (it : cn_I) (h : cn_S e a st) : cn_S e (upd a st.length (e it)) (it :: st) :=
  ⟨pk_us, cn_k st (fun j hj => pk_un (by omega)) h⟩
theorem cn_len {C : Nat → Nat} {N : Nat} (hC : ∀ n, n < N → 1 ≤ C n) : ∀ st : List cn_I, cn_ok N st → st.length ≤ cn_w C st
  | [], _ => Nat.le_refl _
  | (true, n) :: r, h => by
    have h1 := cn_len hC r h.2
    have h2 := hC n h.1
    show r.length + 1 ≤ 2 * C n + cn_w C r
    omega
  | (false, c) :: r, h => by
    have h1 := cn_len hC r h.2.2
    show r.length + 1 ≤ 1 + cn_w C r
    omega
theorem cn_C1 {N : Nat} {K F S T C A D : Nat → Nat} (h : tr_ok N K F S T C A D) : ∀ n, n < N → 1 ≤ C n := by
  intro n hn
  rcases (h n hn).1 with ⟨-, e, -⟩ | ⟨-, -, e, -⟩ | ⟨-, -, -, e, -⟩ | ⟨-, -, -, -, e, -⟩ | ⟨-, -, -, e, -⟩ <;> omega
theorem cn_neg {c : Nat} (h0 : 0 < c) (h : c < 128) : -nI c < 0 := by
  rw [Int32.lt_iff_toInt_lt, Int32.toInt_neg, nI_toInt (by omega), Int.bmod_eq_of_le (by omega) (by omega), show (0 : Int32).toInt = 0 from by decide]
  omega
theorem cn_neg2 {c : Nat} (h : c < 128) : -1 - nI c < 0 := by
  rw [Int32.lt_iff_toInt_lt, Int32.toInt_sub, nI_toInt (by omega), show (-1 : Int32).toInt = -1 from by decide, Int.bmod_eq_of_le (by omega) (by omega), show (0 : Int32).toInt = 0 from by decide]
  omega
theorem cn_nn (c : Nat) : - -nI c = nI c := by
  rw [Int32.neg_neg]
theorem cn_n2 (c : Nat) : -1 - (-1 - nI c) = nI c := by
  generalize nI c = z
  grind
