section
theorem pk_us {f : Nat → Int32} {k : Nat} {x : Int32} : upd f k x k = x := if_pos rfl
theorem pk_un {f : Nat → Int32} {k j : Nat} {x : Int32} (h : j ≠ k) : upd f k x j = f j := if_neg h
theorem pk_sub {a b : Nat} (h : b ≤ a) : nI a - nI b = nI (a - b) := by
  obtain ⟨c, rfl⟩ : ∃ c, a = c + b := ⟨a - b, by omega⟩
  rw [← nI_add, Int32.add_sub_cancel, Nat.add_sub_cancel]
theorem pk_m1 (n : Nat) : nI (n + 1) + (-1) = nI n := by
  rw [← nI_1, Int32.add_assoc, show (1 : Int32) + (-1) = 0 from rfl, Int32.add_zero]
theorem pk_mul (a b : Nat) : nI a * nI b = nI (a * b) := (Int32.ofNat_mul a b).symm
theorem pk_div {a d : Nat} (ha : a < 2 ^ 31) (h0 : 0 < d) (hd : d < 2 ^ 31) : nI a / nI d = nI (a / d) := by
  apply Int32.toInt_inj.mp
  rw [lg_idiv_nonneg (by rw [nI_toInt ha]; omega) (by rw [nI_toInt hd]; omega), nI_toInt ha, nI_toInt hd, nI_toInt (Nat.lt_of_le_of_lt (Nat.div_le_self a d) ha)]
  first | rfl | exact (Int.natCast_ediv _ _).symm
theorem pk_rem {a d : Nat} (ha : a < 2 ^ 31) (h0 : 0 < d) (hd : d < 2 ^ 31) : nI a - nI a / nI d * nI d = nI (a % d) := by
  rw [pk_div ha h0 hd, pk_mul, pk_sub (Nat.div_mul_le_self a d)]
  exact congrArg nI (by have := Nat.div_add_mod' a d; omega)
theorem pk_sub_toInt {a b : Nat} (ha : a < 2 ^ 30) (hb : b < 2 ^ 30) : (nI a - nI b).toInt = (a : Int) - b := by
  rw [Int32.toInt_sub, nI_toInt (by omega), nI_toInt (by omega)]
  exact Int.bmod_eq_of_le (by omega) (by omega)
theorem pk_sneg {a b : Nat} (hb : b < 2 ^ 30) (h : a < b) : nI a - nI b < 0 := by
  rw [Int32.lt_iff_toInt_lt, pk_sub_toInt (by omega) hb, show (0 : Int32).toInt = 0 from by decide]
  omega
theorem pk_ix (x : Int32) {n : Nat} (hn : n < 2 ^ 31) : x < 0 ∨ nI n ≤ x ∨ ∃ j : Nat, j < n ∧ x = nI j := by
  by_cases h : x < 0
  · exact Or.inl h
  · obtain ⟨j, hj, rfl⟩ := nI_of h
    by_cases h2 : j < n
    · exact Or.inr (Or.inr ⟨j, h2, rfl⟩)
    · exact Or.inr (Or.inl (nI_le (by omega) hj))
theorem pk_le {x y : Int32} {A B : Prop} (a b : Nat) (f : a ≤ b → A) (g : b < a → B) (hx : x = nI a := by rfl) (hy : y = nI b := by rfl) (ha : a < 2 ^ 31 := by omega) (hb : b < 2 ^ 31 := by omega) : (x ≤ y → A) ∧ (¬ x ≤ y → B) := by
  subst hx hy
  rw [nI_leI ha hb]
  exact ⟨f, fun z => g (by omega)⟩
theorem pk_lt {x y : Int32} {A B : Prop} (a b : Nat) (f : a < b → A) (g : b ≤ a → B) (hx : x = nI a := by rfl) (hy : y = nI b := by rfl) (ha : a < 2 ^ 31 := by omega) (hb : b < 2 ^ 31 := by omega) : (x < y → A) ∧ (¬ x < y → B) := by
  subst hx hy
  rw [nI_ltI ha hb]
  exact ⟨f, fun z => g (by omega)⟩
theorem pk_eq {x y : Int32} {A B : Prop} (a b : Nat) (f : a = b → A) (g : a ≠ b → B) (hx : x = nI a := by rfl) (hy : y = nI b := by rfl) (ha : a < 2 ^ 31 := by omega) (hb : b < 2 ^ 31 := by omega) : (x = y → A) ∧ (¬ x = y → B) := by
  subst hx hy
  rw [nI_eq ha hb]
  exact ⟨f, g⟩
theorem pk_in {x : Int32} (n N : Nat) (h : n < N) (hx : x = nI n := by rfl) (hN : N < 2 ^ 31 := by omega) : vp_in x N := by
  subst hx
  exact vp_in_nI h hN
theorem pk_cl {x : Int32} (n : Nat) (hx : x = nI n := by rfl) (h : n < 2 ^ 31 := by omega) : x.toNatClampNeg = n := by
  subst hx
  exact nI_clamp h
theorem pk_tn {n : Nat} (h : n < 2 ^ 32) : (nI n).toBitVec.toNat = n := Nat.mod_eq_of_lt h
theorem pk_charN {q : Nat} (hq : q < 65536) : narrow .char (.int (nI q)) = .int (nI q) ∧ fits .char (.int (nI q)) = true := by
  constructor
  · have e : (nI q).toUInt32.toUInt16.toUInt32.toInt32 = nI q := by
      apply Int32.toBitVec_inj.mp
      apply BitVec.eq_of_toNat_eq
      show (nI q).toUInt32.toUInt16.toUInt32.toNat = q % 2 ^ 32
      rw [UInt16.toNat_toUInt32, UInt32.toNat_toUInt16, show (nI q).toUInt32.toNat = q % 2 ^ 32 from rfl]
      omega
    exact congrArg Value.int e
  · have a : (0 : Int32) ≤ nI q := nI_pos' (by omega)
    have b : nI q ≤ 65535 := nI_le (b := 65535) (by omega) (by decide)
    show (decide ((0 : Int32) ≤ nI q) && decide (nI q ≤ 65535)) = true
    rw [decide_eq_true a, decide_eq_true b]
    rfl
theorem pk_char (x : Int32) : (x.toUInt32 % 65536).toInt32 = nI (x.toBitVec.toNat % 65536) := by
  apply Int32.toBitVec_inj.mp
  apply BitVec.eq_of_toNat_eq
  rw [pk_tn (by omega)]
  show (x.toUInt32 % 65536).toNat = _
  rw [UInt32.toNat_mod]
  rfl
theorem pk_nc (x : Int32) : narrow .char (.int (x.toUInt32 % 65536).toInt32) = .int (x.toUInt32 % 65536).toInt32 := by
  rw [pk_char]
  exact (pk_charN (Nat.mod_lt _ (by decide))).1
theorem pk_fc (x : Int32) : fits .char (.int (x.toUInt32 % 65536).toInt32) = true := by
  rw [pk_char]
  exact (pk_charN (Nat.mod_lt _ (by decide))).2
theorem pk_vc (z : Int32) : vp_nar .char (z.toUInt32 % 65536).toInt32 = (z.toUInt32 % 65536).toInt32 := Value.int.inj (pk_nc z)
theorem pk_loop {σ : Type} (W : Nat → Nat → σ → Prop) (I : Nat → σ → Prop) (e i0 : Nat) (s : σ) (hi : i0 ≤ e) (h0 : I i0 s) (hx : ∀ n s, I e s → W (n + 1) e s)
    (hs : ∀ n i s, i < e → I i s → (∀ s', I (i + 1) s' → W n (i + 1) s') → W (n + 1) i s) : ∃ n, W n i0 s :=
  ⟨e + 1, loop_i W I e hx hs (e + 1) i0 s hi (by omega) h0⟩
end
section
/-! vectors in numbered slots of sixteen cells: what a slot holds, what a run leaves alone -/
def ve_L (c l : Nat → Int32) (s : Nat) (xs : List Int32) : Prop :=
  xs.length ≤ 16 ∧ l s = nI xs.length ∧ ∀ i, i < xs.length → c (16 * s + i) = xs.getD i 0
def ve_F (P : Nat → Prop) (c l c' l' : Nat → Int32) : Prop :=
  ∀ t, ¬ P t → l' t = l t ∧ ∀ i, i < 16 → c' (16 * t + i) = c (16 * t + i)
theorem ve_Fr (P : Nat → Prop) (c l : Nat → Int32) : ve_F P c l c l := fun _ _ => ⟨rfl, fun _ _ => rfl⟩
theorem ve_Ft {P : Nat → Prop} {c l c1 l1 c2 l2 : Nat → Int32} (h : ve_F P c l c1 l1) (k : ve_F P c1 l1 c2 l2) : ve_F P c l c2 l2 :=
  fun t ht => ⟨(k t ht).1.trans (h t ht).1, fun i hi => ((k t ht).2 i hi).trans ((h t ht).2 i hi)⟩
theorem ve_Fm {P Q : Nat → Prop} {c l c1 l1 : Nat → Int32} (h : ve_F P c l c1 l1) (hq : ∀ t, P t → Q t) : ve_F Q c l c1 l1 :=
  fun t ht => h t (fun z => ht (hq t z))
theorem ve_o {P : Nat → Prop} {c l c' l' : Nat → Int32} {t : Nat} {xs : List Int32} (h : ve_F P c l c' l') (ht : ¬ P t) (v : ve_L c l t xs) : ve_L c' l' t xs :=
  ⟨v.1, (h t ht).1.trans v.2.1, fun i hi => ((h t ht).2 i (Nat.lt_of_lt_of_le hi v.1)).trans (v.2.2 i hi)⟩
theorem ve_Fu {c l : Nat → Int32} {s n : Nat} {x y : Int32} (hn : n < 16) : ve_F (fun t => t = s) c l (upd c (16 * s + n) x) (upd l s y) := by
  intro t ht
  have ht' : t ≠ s := ht
  exact ⟨pk_un ht', fun i hi => pk_un (by omega)⟩
theorem ve_Fl {c l : Nat → Int32} {s : Nat} {y : Int32} : ve_F (fun t => t = s) c l c (upd l s y) := by
  intro t ht
  have ht' : t ≠ s := ht
  exact ⟨pk_un ht', fun i hi => rfl⟩
theorem ve_Fc {c l : Nat → Int32} {s n : Nat} {x : Int32} (hn : n < 16) : ve_F (fun t => t = s) c l (upd c (16 * s + n) x) l := by
  intro t ht
  have ht' : t ≠ s := ht
  exact ⟨rfl, fun i hi => pk_un (by omega)⟩
theorem ve_gl {xs : List Int32} {v : Int32} {i : Nat} (h : i < xs.length) : (xs ++ [v]).getD i 0 = xs.getD i 0 := by
  rw [List.getD_eq_getElem?_getD, List.getD_eq_getElem?_getD, List.getElem?_append_left h]
theorem ve_gr {xs : List Int32} {v : Int32} : (xs ++ [v]).getD xs.length 0 = v := by
  rw [List.getD_eq_getElem?_getD, List.getElem?_append_right (Nat.le_refl _), Nat.sub_self]
  rfl
theorem ve_len {xs : List Int32} {v : Int32} : (xs ++ [v]).length = xs.length + 1 := by
  rw [List.length_append]; rfl
theorem ve_app {c l : Nat → Int32} {s : Nat} {xs : List Int32} (v : Int32) (h : ve_L c l s xs) (hn : xs.length < 16) :
    ve_L (upd c (16 * s + xs.length) v) (upd l s (nI (xs.length + 1))) s (xs ++ [v]) := by
  refine ⟨by rw [ve_len]; omega, by rw [ve_len]; exact pk_us, fun i hi => ?_⟩
  rw [ve_len] at hi
  by_cases e : i = xs.length
  · rw [e, ve_gr]; exact pk_us
  · rw [ve_gl (by omega), pk_un (by omega)]; exact h.2.2 i (by omega)
theorem ve_nil {c l : Nat → Int32} {s : Nat} : ve_L c (upd l s 0) s [] :=
  ⟨Nat.zero_le _, pk_us.trans nI_0.symm, fun _ hi => absurd hi (Nat.not_lt_zero _)⟩
theorem ve_mg (f : Nat → Int32) {m i : Nat} (h : i < m) : ((List.range m).map f).getD i 0 = f i := by
  rw [List.getD_eq_getElem?_getD, List.getElem?_map, List.getElem?_range h]
  rfl
theorem ve_ml (f : Nat → Int32) (m : Nat) : ((List.range m).map f).length = m := by
  rw [List.length_map, List.length_range]
theorem ve_mk {c l : Nat → Int32} {s m : Nat} {f : Nat → Int32} (hm : m ≤ 16) (h : ∀ j, j < m → c (16 * s + j) = f j) :
    ve_L c (upd l s (nI m)) s ((List.range m).map f) := by
  refine ⟨by rw [ve_ml]; exact hm, by rw [ve_ml]; exact pk_us, fun i hi => ?_⟩
  rw [ve_ml] at hi
  rw [ve_mg f hi]; exact h i hi
theorem ve_rs (f : Nat → Int32) (n : Nat) : (List.range (n + 1)).map f = (List.range n).map f ++ [f n] := by
  rw [List.range_succ, List.map_append]; rfl
theorem ve_ext {xs ys : List Int32} (h : xs.length = ys.length) (k : ∀ i, i < xs.length → xs.getD i 0 = ys.getD i 0) : xs = ys := by
  apply List.ext_getElem h
  intro i h1 h2
  have := k i h1
  rw [List.getD_eq_getElem?_getD, List.getD_eq_getElem?_getD, List.getElem?_eq_getElem h1, List.getElem?_eq_getElem h2] at this
  exact this
theorem ve_self (xs : List Int32) : (List.range xs.length).map (fun i => xs.getD i 0) = xs := by
  apply ve_ext (ve_ml _ _)
  intro i hi
  rw [ve_ml] at hi
  rw [ve_mg _ hi]
theorem ve_one {c l : Nat → Int32} {s : Nat} {x : Int32} : ve_L (upd c (16 * s) x) (upd l s 1) s [x] := by
  refine ⟨Nat.le_of_ble_eq_true rfl, pk_us, fun i hi => ?_⟩
  have : i = 0 := by simp at hi; exact hi
  subst this
  exact pk_us
theorem ve_inj {c l : Nat → Int32} {s : Nat} {xs ys : List Int32} (h : ve_L c l s xs) (k : ve_L c l s ys) : xs = ys := by
  have e : xs.length = ys.length := by
    have := h.2.1.symm.trans k.2.1
    rw [nI_eq (by have := h.1; omega) (by have := k.1; omega)] at this
    exact this
  exact ve_ext e fun i hi => (h.2.2 i hi).symm.trans (k.2.2 i (e ▸ hi))
theorem ve_1 {xs : List Int32} (h : xs.length = 1) : xs = [xs.getD 0 0] := by
  match xs, h with
  | [a], _ => rfl
theorem ve_t1 {xs : List Int32} (h : 0 < xs.length) : xs.take 1 = [xs.getD 0 0] := by
  match xs, h with
  | a :: r, _ => rfl
theorem ve_nI {xs : List Int32} (h : xs.length = 0) : xs = [] := List.eq_nil_of_length_eq_zero h
def ve_cp (c l c' l' : Nat → Int32) (s t : Nat) : Prop := l' t = l s ∧ ∀ i, i < 16 → c' (16 * t + i) = c (16 * s + i)
theorem ve_cpL {c l c' l' : Nat → Int32} {s t : Nat} {xs : List Int32} (h : ve_cp c l c' l' s t) (v : ve_L c l s xs) : ve_L c' l' t xs :=
  ⟨v.1, h.1.trans v.2.1, fun i hi => (h.2 i (Nat.lt_of_lt_of_le hi v.1)).trans (v.2.2 i hi)⟩
end
section
/-! the primitives over lists; a pair is a code (0: none) and a value -/
def pr_cnt (n m : Nat) : Option Nat := if n = m ∨ n = 1 then some m else if m = 1 then some n else none
def pr_el (xs : List Int32) (i : Nat) : Int32 := if xs.length = 1 then xs.getD 0 0 else xs.getD i 0
def pr_m1 (k : Nat) (v : Int32) : Int32 :=
  if k = 43 then v + v else if k = 45 then 0 - v else if k = 42 then (if v < 0 then -1 else if 0 < v then 1 else 0) else if k = 60 then v - 1 else v + 1
def pr_m2 (k : Nat) (a b : Int32) : Int32 :=
  if k = 43 then a + b else if k = 45 then a - b else if k = 42 then a * b else if k = 60 then (if a < b then a else b) else if b < a then a else b
def pr_M (k : Nat) (y : List Int32) : List Int32 :=
  if k = 91 ∨ k = 93 ∨ k = 44 then y else if k = 35 then [nI y.length] else if k = 124 then (List.range y.length).map (fun i => y.getD (y.length - 1 - i) 0)
  else (List.range y.length).map (fun i => pr_m1 k (y.getD i 0))
/-- the counted copy from element i on, r elements still to come -/
def pr_cp (lim : Nat) (x y : List Int32) : Nat → Nat → List Int32 → Nat × List Int32
  | 0, _, acc => (0, acc)
  | r + 1, i, acc =>
    if pr_el x i < 0 then (2, []) else if nI (lim - acc.length) < pr_el x i then (3, [])
    else pr_cp lim x y r (i + 1) (acc ++ List.replicate (pr_el x i).toNatClampNeg (y.getD i 0))
def pr_k (v : Int32) (m : Nat) : Nat := (v.toInt % (m : Int)).toNat
def pr_rot (x y : List Int32) : List Int32 :=
  (List.range y.length).map (fun i => y.getD ((i + pr_k (x.getD 0 0) y.length) % y.length) 0)
def pr_D (lim k : Nat) (x y : List Int32) : Nat × List Int32 :=
  if k = 91 then (0, x) else if k = 93 then (0, y)
  else if k = 35 then (if x.length ≠ y.length ∧ x.length ≠ 1 then (1, []) else pr_cp lim x y y.length 0 [])
  else if k = 44 then (if lim < x.length + y.length then (3, []) else (0, x ++ y))
  else if k = 124 then (if x.length ≠ 1 then (1, []) else (0, pr_rot x y))
  else match pr_cnt x.length y.length with
    | none => (1, [])
    | some n => (0, (List.range n).map (fun i => pr_m2 k (pr_el x i) (pr_el y i)))
def pr_dig (k : Nat) : Prop := 48 ≤ k ∧ k ≤ 57
def pr_vb (k : Nat) : Prop := k = 43 ∨ k = 45 ∨ k = 42 ∨ k = 60 ∨ k = 62 ∨ k = 91 ∨ k = 93 ∨ k = 35 ∨ k = 44 ∨ k = 124
def pr_lf (k : Nat) : Prop := pr_vb k ∨ pr_dig k
def pr_av (k : Nat) : Prop := k = 47 ∨ k = 92 ∨ k = 34
theorem pr_cnt_le {n m q : Nat} (h : pr_cnt n m = some q) (hn : n ≤ 16) (hm : m ≤ 16) : q ≤ 16 := by
  unfold pr_cnt at h
  split at h
  · cases h; exact hm
  · split at h
    · cases h; exact hn
    · cases h
end
section
/-! the machine of frames: a frame is (node, dyadic, phase, x, y, w) -/
abbrev am_F : Type := Nat × Bool × Nat × List Int32 × List Int32 × List Int32
abbrev am_O : Type := Sum Nat (Sum (List Int32) (List Int32 × Nat × Bool × List Int32 × List Int32))
abbrev am_fail (e : Nat) : am_O := Sum.inl e
abbrev am_pop (v : List Int32) : am_O := Sum.inr (Sum.inl v)
abbrev am_push (w : List Int32) (n : Nat) (d : Bool) (x y : List Int32) : am_O := Sum.inr (Sum.inr (w, n, d, x, y))
def am_fork (f s t : Nat) (d : Bool) (p : Nat) (x y w R : List Int32) : am_O :=
  if p = 0 then am_push w t d x y else if p = 1 then am_push R f d x y else if p = 2 then am_push w s true R w else am_pop R
def am_hook (f s : Nat) (d : Bool) (p : Nat) (x y w R : List Int32) : am_O :=
  if p = 0 then am_push w s false [] y else if p = 1 then am_push w f true (if d = true then x else y) R else am_pop R
def am_atop (f s : Nat) (d : Bool) (p : Nat) (x y w R : List Int32) : am_O :=
  if p = 0 then am_push w s d x y else if p = 1 then am_push w f false [] R else am_pop R
def am_nx (d : Bool) (p : Nat) : Nat := if d = true then p else p + 1
def am_r (d : Bool) (p : Nat) (x y R : List Int32) : List Int32 := if p = 0 then (if d = true then x else y.take 1) else R
def am_z (d : Bool) (p : Nat) (y w R : List Int32) : List Int32 := if p = 0 then (if d = true then [] else y.take 1) else w ++ R
def am_red (f : Nat) (d : Bool) (p : Nat) (x y w R : List Int32) : am_O :=
  if p = 0 ∧ d = false ∧ y.length = 0 then am_fail 1
  else if am_nx d p < y.length then am_push w f true (am_r d p x y R) [y.getD (am_nx d p) 0] else am_pop (am_r d p x y R)
def am_scan (f : Nat) (d : Bool) (p : Nat) (x y w R : List Int32) : am_O :=
  if p ≠ 0 ∧ R.length ≠ 1 then am_fail 1
  else if am_nx d p < y.length then am_push (am_z d p y w R) f true (am_r d p x y R) [y.getD (am_nx d p) 0] else am_pop (am_z d p y w R)
def am_cnt (d : Bool) (x y : List Int32) : Option Nat := if d = true then pr_cnt x.length y.length else some y.length
def am_ze (p : Nat) (w R : List Int32) : List Int32 := if p = 0 then [] else w ++ R
def am_each (f : Nat) (d : Bool) (p : Nat) (x y w R : List Int32) : am_O :=
  match am_cnt d x y with
  | none => am_fail 1
  | some n =>
    if p ≠ 0 ∧ R.length ≠ 1 then am_fail 1
    else if p < n then am_push (am_ze p w R) f d (if d = true then [pr_el x p] else []) [if d = true then pr_el y p else y.getD p 0]
    else am_pop (am_ze p w R)
def am_dy (o : Nat × List Int32) : am_O := if o.1 = 0 then am_pop o.2 else am_fail o.1
def am_leaf (lim k : Nat) (d : Bool) (x y : List Int32) : am_O :=
  if 48 ≤ k ∧ k ≤ 57 then am_pop [nI (k - 48)] else if d = true then am_dy (pr_D lim k x y) else am_pop (pr_M k y)
def am_act (lim : Nat) (K F S T : Nat → Nat) (n : Nat) (d : Bool) (p : Nat) (x y w R : List Int32) : am_O :=
  if K n = 1 then am_fork (F n) (S n) (T n) d p x y w R
  else if K n = 2 then am_hook (F n) (S n) d p x y w R
  else if K n = 64 then am_atop (F n) (S n) d p x y w R
  else if K n = 47 then am_red (F n) d p x y w R
  else if K n = 92 then am_scan (F n) d p x y w R
  else if K n = 34 then am_each (F n) d p x y w R
  else am_leaf lim (K n) d x y
/-! the tree: kinds K, children F S T; C counts the canonical form's characters, A the adverbs, D bounds the steps -/
def nd_pr (k : Nat) : Nat := if k = 47 ∨ k = 92 ∨ k = 34 ∨ k = 64 then 2 else 0
def nd_ok (K F S T C A D : Nat → Nat) (n : Nat) : Prop :=
  (pr_lf (K n) ∧ C n = 1 ∧ A n = 0 ∧ D n = 1) ∨
  (pr_av (K n) ∧ F n < n ∧ C n = 1 + C (F n) ∧ A n = 1 + A (F n) ∧ D n = 17 * (1 + D (F n))) ∨
  (K n = 64 ∧ F n < n ∧ S n < n ∧ C n = 1 + nd_pr (K (S n)) + C (F n) + C (S n) ∧ A n = A (F n) + A (S n) ∧ D n = 3 + D (S n) + D (F n)) ∨
  (K n = 1 ∧ F n < n ∧ S n < n ∧ T n < n ∧ C n = 2 + C (F n) + C (S n) + C (T n) ∧ A n = A (F n) + A (S n) + A (T n) ∧ D n = 4 + D (T n) + D (F n) + D (S n)) ∨
  (K n = 2 ∧ F n < n ∧ S n < n ∧ C n = 2 + C (F n) + C (S n) ∧ A n = A (F n) + A (S n) ∧ D n = 3 + D (S n) + D (F n))
def nd_b (C A D : Nat → Nat) (n : Nat) : Prop := D n ≤ 4 * C n * 17 ^ A n
/-- the steps that are left to a frame -/
def am_rem (K F S T D : Nat → Nat) (n p : Nat) : Nat :=
  if K n = 1 then (if p = 0 then 4 + D (T n) + D (F n) + D (S n) else if p = 1 then 3 + D (F n) + D (S n) else if p = 2 then 2 + D (S n) else 1)
  else if K n = 2 ∨ K n = 64 then (if p = 0 then 3 + D (S n) + D (F n) else if p = 1 then 2 + D (F n) else 1)
  else if K n = 47 ∨ K n = 92 ∨ K n = 34 then (17 - p) * (1 + D (F n))
  else 1
def am_M (K F S T D : Nat → Nat) : List am_F → Nat
  | [] => 0
  | (n, _, p, _, _, _) :: r => am_rem K F S T D n p + am_M K F S T D r
/-- what a frame keeps to: how far an adverb has come, how long w is -/
def am_lc (k : Nat) (d : Bool) (p : Nat) (x y w : List Int32) : Prop :=
  p ≤ 16 ∧ x.length ≤ 16 ∧ y.length ≤ 16 ∧ w.length ≤ 16 ∧
  (k = 47 → 0 < p → am_nx d p ≤ y.length) ∧
  (k = 92 → 0 < p → am_nx d p ≤ y.length ∧ w.length + 1 = am_nx d p) ∧
  (k = 34 → 0 < p → w.length + 1 = p ∧ ∃ q, am_cnt d x y = some q ∧ p ≤ q)
def am_ok (N : Nat) (K : Nat → Nat) : List am_F → Prop
  | [] => True
  | (n, d, p, x, y, w) :: r => n < N ∧ n + r.length < 63 ∧ am_lc (K n) d p x y w ∧ am_ok N K r
/-- where a value has just come back -/
def am_rdy : List am_F → Prop
  | [] => True
  | (_, _, p, _, _, _) :: _ => 0 < p
theorem am_pl (K F S T C A D : Nat → Nat) {n : Nat} (h : nd_ok K F S T C A D n) : D n = am_rem K F S T D n 0 := by
  unfold am_rem
  rcases h with ⟨h, -, -, e⟩ | ⟨h, -, -, -, e⟩ | ⟨h, -, -, -, -, e⟩ | ⟨h, -, -, -, -, -, e⟩ | ⟨h, -, -, -, -, e⟩
  · unfold pr_lf pr_vb pr_dig at h
    rw [if_neg (by omega), if_neg (by omega), if_neg (by omega)]; exact e
  · unfold pr_av at h
    rw [if_neg (by omega), if_neg (by omega), if_pos (by omega)]; exact e
  · rw [if_neg (by omega), if_pos (by omega), if_pos rfl]; exact e
  · rw [if_pos h, if_pos rfl]; exact e
  · rw [if_neg (by omega), if_pos (by omega), if_pos rfl]; exact e
theorem am_rem1 (K F S T D : Nat → Nat) (n p : Nat) (hp : p ≤ 16) : 1 ≤ am_rem K F S T D n p := by
  unfold am_rem
  split
  · split
    · omega
    · split
      · omega
      · split <;> omega
  · split
    · split
      · omega
      · split <;> omega
    · split
      · exact Nat.mul_pos (by omega) (by omega)
      · omega
theorem am_avs (D q p : Nat) (hp : p ≤ 16) : (17 - (p + 1)) * (1 + D) + D + 1 = (17 - p) * (1 + D) + q → q = 0 := by
  intro h
  have e : 17 - p = (17 - (p + 1)) + 1 := by omega
  rw [e, Nat.add_mul] at h
  omega
theorem am_av1 (D p : Nat) (hp : p ≤ 16) : (17 - (p + 1)) * (1 + D) + D + 1 = (17 - p) * (1 + D) := by
  have e : 17 - p = (17 - (p + 1)) + 1 := by omega
  rw [e, Nat.add_mul]
  omega
end
section
/-! what a step of the machine keeps -/
theorem am_lc0 (k : Nat) (d : Bool) {x y : List Int32} (hx : x.length ≤ 16) (hy : y.length ≤ 16) : am_lc k d 0 x y [] :=
  ⟨Nat.zero_le _, hx, hy, Nat.zero_le _, fun _ h => absurd h (Nat.lt_irrefl 0), fun _ h => absurd h (Nat.lt_irrefl 0), fun _ h => absurd h (Nat.lt_irrefl 0)⟩
theorem am_lcn {k : Nat} {d : Bool} {p : Nat} {x y w : List Int32} (h1 : k ≠ 47) (h2 : k ≠ 92) (h3 : k ≠ 34) (hp : p ≤ 16) (hx : x.length ≤ 16) (hy : y.length ≤ 16) (hw : w.length ≤ 16) : am_lc k d p x y w :=
  ⟨hp, hx, hy, hw, fun h => absurd h h1, fun h => absurd h h2, fun h => absurd h h3⟩
theorem am_nxs (d : Bool) (p : Nat) : am_nx d (p + 1) = am_nx d p + 1 := by
  cases d <;> rfl
theorem am_nxp (d : Bool) (p : Nat) : p ≤ am_nx d p := by
  cases d
  · exact Nat.le_succ p
  · exact Nat.le_refl p
theorem am_rl {d : Bool} {p : Nat} {x y R : List Int32} (hx : x.length ≤ 16) (hy : y.length ≤ 16) (hR : 0 < p → R.length ≤ 16) : (am_r d p x y R).length ≤ 16 := by
  unfold am_r
  split
  · split
    · exact hx
    · rw [List.length_take]; omega
  · exact hR (by omega)
theorem am_pe {w w' x x' y y' : List Int32} {n n' : Nat} {d d' : Bool} (h : am_push w n d x y = am_push w' n' d' x' y') : w = w' ∧ n = n' ∧ d = d' ∧ x = x' ∧ y = y' := by
  have := Sum.inr.inj (Sum.inr.inj h)
  simp only [Prod.mk.injEq] at this
  exact this
theorem am_ne1 {e : Nat} {w x y : List Int32} {n : Nat} {d : Bool} : am_fail e ≠ am_push w n d x y := fun h => by cases h
theorem am_ne2 {v : List Int32} {w x y : List Int32} {n : Nat} {d : Bool} : am_pop v ≠ am_push w n d x y := fun h => by cases h
def am_pr (K F S T D : Nat → Nat) (n : Nat) (d : Bool) (p : Nat) (x y w' : List Int32) (n' : Nat) (d' : Bool) (x' y' : List Int32) : Prop :=
  n' < n ∧ am_lc (K n') d' 0 x' y' [] ∧ am_lc (K n) d (p + 1) x y w' ∧ am_rem K F S T D n (p + 1) + D n' + 1 ≤ am_rem K F S T D n p
theorem am_p_fork {K F S T C A D : Nat → Nat} {n : Nat} {d : Bool} {p : Nat} {x y w R w' x' y' : List Int32} {n' : Nat} {d' : Bool}
    (hn : nd_ok K F S T C A D n) (hk : K n = 1) (lc : am_lc (K n) d p x y w) (hR : 0 < p → R.length ≤ 16)
    (e : am_fork (F n) (S n) (T n) d p x y w R = am_push w' n' d' x' y') : am_pr K F S T D n d p x y w' n' d' x' y' := by
  obtain ⟨h1, h2, h3⟩ : F n < n ∧ S n < n ∧ T n < n := by
    rcases hn with ⟨h, -⟩ | ⟨h, -⟩ | ⟨h, -⟩ | ⟨-, a, b, c, -⟩ | ⟨h, -⟩
    · unfold pr_lf pr_vb pr_dig at h; omega
    · unfold pr_av at h; omega
    · omega
    · exact ⟨a, b, c⟩
    · omega
  obtain ⟨lp, lx, ly, lw, -⟩ := lc
  unfold am_fork at e
  by_cases p0 : p = 0
  · subst p0
    rw [if_pos rfl] at e
    obtain ⟨rfl, rfl, rfl, rfl, rfl⟩ := am_pe e
    refine ⟨h3, am_lc0 _ _ lx ly, am_lcn (by omega) (by omega) (by omega) (by omega) lx ly lw, ?_⟩
    simp only [am_rem, hk, if_true]
    simp; omega
  · rw [if_neg p0] at e
    by_cases p1 : p = 1
    · subst p1
      rw [if_pos rfl] at e
      obtain ⟨rfl, rfl, rfl, rfl, rfl⟩ := am_pe e
      refine ⟨h1, am_lc0 _ _ lx ly, am_lcn (by omega) (by omega) (by omega) (by omega) lx ly (hR (by omega)), ?_⟩
      simp only [am_rem, hk, if_true]
      simp; omega
    · rw [if_neg p1] at e
      by_cases p2 : p = 2
      · subst p2
        rw [if_pos rfl] at e
        obtain ⟨rfl, rfl, rfl, rfl, rfl⟩ := am_pe e
        refine ⟨h2, am_lc0 _ _ (hR (by omega)) lw, am_lcn (by omega) (by omega) (by omega) (by omega) lx ly lw, ?_⟩
        simp only [am_rem, hk, if_true]
        simp; omega
      · rw [if_neg p2] at e
        exact absurd e am_ne2
theorem am_fs {K F S T C A D : Nat → Nat} {n : Nat} (hn : nd_ok K F S T C A D n) (hk : K n = 2 ∨ K n = 64) : F n < n ∧ S n < n := by
  rcases hn with ⟨h, -⟩ | ⟨h, -⟩ | ⟨-, a, b, -⟩ | ⟨h, -⟩ | ⟨-, a, b, -⟩
  · unfold pr_lf pr_vb pr_dig at h; omega
  · unfold pr_av at h; omega
  · exact ⟨a, b⟩
  · omega
  · exact ⟨a, b⟩
theorem am_fa {K F S T C A D : Nat → Nat} {n : Nat} (hn : nd_ok K F S T C A D n) (hk : K n = 47 ∨ K n = 92 ∨ K n = 34) : F n < n := by
  rcases hn with ⟨h, -⟩ | ⟨-, a, -⟩ | ⟨h, -⟩ | ⟨h, -⟩ | ⟨h, -⟩
  · unfold pr_lf pr_vb pr_dig at h; omega
  · exact a
  · omega
  · omega
  · omega
theorem am_r2a {K F S T D : Nat → Nat} {n : Nat} (hk : K n = 2 ∨ K n = 64) : am_rem K F S T D n 0 = 3 + D (S n) + D (F n) ∧ am_rem K F S T D n 1 = 2 + D (F n) ∧ am_rem K F S T D n 2 = 1 := by
  have h1 : K n ≠ 1 := by omega
  simp [am_rem, h1, hk]
theorem am_rav {K F S T D : Nat → Nat} {n p : Nat} (hk : K n = 47 ∨ K n = 92 ∨ K n = 34) : am_rem K F S T D n p = (17 - p) * (1 + D (F n)) := by
  have h1 : K n ≠ 1 := by omega
  have h2 : ¬ (K n = 2 ∨ K n = 64) := by omega
  simp [am_rem, h1, h2, hk]
theorem am_p_hook {K F S T C A D : Nat → Nat} {n : Nat} {d : Bool} {p : Nat} {x y w R w' x' y' : List Int32} {n' : Nat} {d' : Bool}
    (hn : nd_ok K F S T C A D n) (hk : K n = 2) (lc : am_lc (K n) d p x y w) (hR : 0 < p → R.length ≤ 16)
    (e : am_hook (F n) (S n) d p x y w R = am_push w' n' d' x' y') : am_pr K F S T D n d p x y w' n' d' x' y' := by
  obtain ⟨h1, h2⟩ := am_fs hn (Or.inl hk)
  obtain ⟨r0, r1, r2⟩ := am_r2a (K := K) (F := F) (S := S) (T := T) (D := D) (n := n) (Or.inl hk)
  obtain ⟨lp, lx, ly, lw, -⟩ := lc
  unfold am_hook at e
  by_cases p0 : p = 0
  · subst p0
    rw [if_pos rfl] at e
    obtain ⟨rfl, rfl, rfl, rfl, rfl⟩ := am_pe e
    refine ⟨h2, am_lc0 _ _ (Nat.zero_le _) ly, am_lcn (by omega) (by omega) (by omega) (by omega) lx ly lw, ?_⟩
    rw [Nat.zero_add, r0, r1]; omega
  · rw [if_neg p0] at e
    by_cases p1 : p = 1
    · subst p1
      rw [if_pos rfl] at e
      obtain ⟨rfl, rfl, rfl, rfl, rfl⟩ := am_pe e
      refine ⟨h1, am_lc0 _ _ (by split <;> assumption) (hR (by omega)), am_lcn (by omega) (by omega) (by omega) (by omega) lx ly lw, ?_⟩
      show am_rem K F S T D n 2 + _ + 1 ≤ _
      rw [r1, r2]; omega
    · rw [if_neg p1] at e
      exact absurd e am_ne2
theorem am_p_atop {K F S T C A D : Nat → Nat} {n : Nat} {d : Bool} {p : Nat} {x y w R w' x' y' : List Int32} {n' : Nat} {d' : Bool}
    (hn : nd_ok K F S T C A D n) (hk : K n = 64) (lc : am_lc (K n) d p x y w) (hR : 0 < p → R.length ≤ 16)
    (e : am_atop (F n) (S n) d p x y w R = am_push w' n' d' x' y') : am_pr K F S T D n d p x y w' n' d' x' y' := by
  obtain ⟨h1, h2⟩ := am_fs hn (Or.inr hk)
  obtain ⟨r0, r1, r2⟩ := am_r2a (K := K) (F := F) (S := S) (T := T) (D := D) (n := n) (Or.inr hk)
  obtain ⟨lp, lx, ly, lw, -⟩ := lc
  unfold am_atop at e
  by_cases p0 : p = 0
  · subst p0
    rw [if_pos rfl] at e
    obtain ⟨rfl, rfl, rfl, rfl, rfl⟩ := am_pe e
    refine ⟨h2, am_lc0 _ _ lx ly, am_lcn (by omega) (by omega) (by omega) (by omega) lx ly lw, ?_⟩
    rw [Nat.zero_add, r0, r1]; omega
  · rw [if_neg p0] at e
    by_cases p1 : p = 1
    · subst p1
      rw [if_pos rfl] at e
      obtain ⟨rfl, rfl, rfl, rfl, rfl⟩ := am_pe e
      refine ⟨h1, am_lc0 _ _ (Nat.zero_le _) (hR (by omega)), am_lcn (by omega) (by omega) (by omega) (by omega) lx ly lw, ?_⟩
      show am_rem K F S T D n 2 + _ + 1 ≤ _
      rw [r1, r2]; omega
    · rw [if_neg p1] at e
      exact absurd e am_ne2
theorem am_p_red {K F S T C A D : Nat → Nat} {n : Nat} {d : Bool} {p : Nat} {x y w R w' x' y' : List Int32} {n' : Nat} {d' : Bool}
    (hn : nd_ok K F S T C A D n) (hk : K n = 47) (lc : am_lc (K n) d p x y w) (hR : 0 < p → R.length ≤ 16)
    (e : am_red (F n) d p x y w R = am_push w' n' d' x' y') : am_pr K F S T D n d p x y w' n' d' x' y' := by
  obtain ⟨lp, lx, ly, lw, -⟩ := lc
  unfold am_red at e
  split at e
  · exact absurd e am_ne1
  · split at e
    · rename_i hl
      obtain ⟨rfl, rfl, rfl, rfl, rfl⟩ := am_pe e
      have hp := am_nxp d p
      refine ⟨am_fa hn (Or.inl hk), am_lc0 _ _ (am_rl lx ly hR) (Nat.le_of_ble_eq_true rfl), ⟨by omega, lx, ly, lw, fun _ _ => ?_, fun h => ?_, fun h => ?_⟩, ?_⟩
      · rw [am_nxs]; omega
      · omega
      · omega
      · rw [am_rav (Or.inl hk), am_rav (Or.inl hk), am_av1 _ _ (by omega)]
        exact Nat.le_refl _
    · exact absurd e am_ne2
theorem am_p_scan {K F S T C A D : Nat → Nat} {n : Nat} {d : Bool} {p : Nat} {x y w R w' x' y' : List Int32} {n' : Nat} {d' : Bool}
    (hn : nd_ok K F S T C A D n) (hk : K n = 92) (lc : am_lc (K n) d p x y w) (hR : 0 < p → R.length ≤ 16)
    (e : am_scan (F n) d p x y w R = am_push w' n' d' x' y') : am_pr K F S T D n d p x y w' n' d' x' y' := by
  obtain ⟨lp, lx, ly, lw, -, l2, -⟩ := lc
  unfold am_scan at e
  split at e
  · exact absurd e am_ne1
  · rename_i hr
    split at e
    · rename_i hl
      obtain ⟨rfl, rfl, rfl, rfl, rfl⟩ := am_pe e
      have hp := am_nxp d p
      have hz : (am_z d p y w R).length + 1 = am_nx d (p + 1) := by
        unfold am_z
        by_cases p0 : p = 0
        · subst p0
          rw [if_pos rfl]
          cases d
          · have : 1 < y.length := hl
            simp [am_nx]; omega
          · rfl
        · rw [if_neg p0, List.length_append, am_nxs]
          have := (l2 hk (by omega)).2
          omega
      have hz2 := am_nxs d p
      refine ⟨am_fa hn (Or.inr (Or.inl hk)), am_lc0 _ _ (am_rl lx ly hR) (Nat.le_of_ble_eq_true rfl), ⟨by omega, lx, ly, by omega, fun h => ?_, fun _ _ => ⟨?_, hz⟩, fun h => ?_⟩, ?_⟩
      · omega
      · omega
      · omega
      · rw [am_rav (Or.inr (Or.inl hk)), am_rav (Or.inr (Or.inl hk)), am_av1 _ _ (by omega)]
        exact Nat.le_refl _
    · exact absurd e am_ne2
theorem am_p_each {K F S T C A D : Nat → Nat} {n : Nat} {d : Bool} {p : Nat} {x y w R w' x' y' : List Int32} {n' : Nat} {d' : Bool}
    (hn : nd_ok K F S T C A D n) (hk : K n = 34) (lc : am_lc (K n) d p x y w)
    (e : am_each (F n) d p x y w R = am_push w' n' d' x' y') : am_pr K F S T D n d p x y w' n' d' x' y' := by
  obtain ⟨lp, lx, ly, lw, -, -, l3⟩ := lc
  unfold am_each at e
  split at e
  · exact absurd e am_ne1
  · rename_i q hq
    have hq16 : q ≤ 16 := by
      unfold am_cnt at hq
      split at hq
      · exact pr_cnt_le hq lx ly
      · cases hq; exact ly
    split at e
    · exact absurd e am_ne1
    · rename_i hr
      split at e
      · rename_i hl
        obtain ⟨rfl, rfl, rfl, rfl, rfl⟩ := am_pe e
        have hz : (am_ze p w R).length + 1 = p + 1 := by
          unfold am_ze
          by_cases p0 : p = 0
          · rw [if_pos p0, p0]; rfl
          · rw [if_neg p0, List.length_append]
            have := (l3 hk (by omega)).1
            omega
        refine ⟨am_fa hn (Or.inr (Or.inr hk)), am_lc0 _ _ (by split <;> exact Nat.le_of_ble_eq_true rfl) (Nat.le_of_ble_eq_true rfl), ⟨by omega, lx, ly, by omega, fun h => ?_, fun h => ?_, fun _ _ => ⟨hz, q, hq, by omega⟩⟩, ?_⟩
        · omega
        · omega
        · rw [am_rav (Or.inr (Or.inr hk)), am_rav (Or.inr (Or.inr hk)), am_av1 _ _ (by omega)]
          exact Nat.le_refl _
      · exact absurd e am_ne2
theorem am_p_leaf {lim k : Nat} {d : Bool} {x y w' x' y' : List Int32} {n' : Nat} {d' : Bool} : am_leaf lim k d x y ≠ am_push w' n' d' x' y' := by
  unfold am_leaf am_dy
  split
  · exact am_ne2
  · split
    · split
      · exact am_ne2
      · exact am_ne1
    · exact am_ne2
theorem am_p {lim : Nat} {K F S T C A D : Nat → Nat} {n : Nat} {d : Bool} {p : Nat} {x y w R w' x' y' : List Int32} {n' : Nat} {d' : Bool}
    (hn : nd_ok K F S T C A D n) (lc : am_lc (K n) d p x y w) (hR : 0 < p → R.length ≤ 16)
    (e : am_act lim K F S T n d p x y w R = am_push w' n' d' x' y') : am_pr K F S T D n d p x y w' n' d' x' y' := by
  unfold am_act at e
  split at e
  · exact am_p_fork hn ‹_› lc hR e
  · split at e
    · exact am_p_hook hn ‹_› lc hR e
    · split at e
      · exact am_p_atop hn ‹_› lc hR e
      · split at e
        · exact am_p_red hn ‹_› lc hR e
        · split at e
          · exact am_p_scan hn ‹_› lc hR e
          · split at e
            · exact am_p_each hn ‹_› lc e
            · exact absurd e am_p_leaf
theorem pr_cp_c (lim : Nat) (x y : List Int32) : ∀ r i acc, (pr_cp lim x y r i acc).1 ≤ 3
  | 0, _, _ => Nat.zero_le _
  | r + 1, i, acc => by
    unfold pr_cp
    split
    · exact Nat.le_of_ble_eq_true rfl
    · split
      · exact Nat.le_of_ble_eq_true rfl
      · exact pr_cp_c lim x y r _ _
theorem pr_D_c (lim k : Nat) (x y : List Int32) : (pr_D lim k x y).1 ≤ 3 := by
  unfold pr_D
  split
  · exact Nat.zero_le _
  · split
    · exact Nat.zero_le _
    · split
      · split
        · exact Nat.le_of_ble_eq_true rfl
        · exact pr_cp_c _ _ _ _ _ _
      · split
        · split
          · exact Nat.le_of_ble_eq_true rfl
          · exact Nat.zero_le _
        · split
          · split
            · exact Nat.le_of_ble_eq_true rfl
            · exact Nat.zero_le _
          · split
            · exact Nat.le_of_ble_eq_true rfl
            · exact Nat.zero_le _
theorem am_fl {e e' : Nat} (h : am_fail e = am_fail e') : e = e' := Sum.inl.inj h
def am_fe (o : am_O) : Prop := ∀ e, o = am_fail e → e ≠ 0 ∧ e ≤ 3
theorem am_fe1 : am_fe (am_fail 1) := fun e h => by have := am_fl h; omega
theorem am_fe2 (v : List Int32) : am_fe (am_pop v) := fun e h => by cases h
theorem am_fe3 (w x y : List Int32) (n : Nat) (d : Bool) : am_fe (am_push w n d x y) := fun e h => by cases h
theorem am_f {lim : Nat} {K F S T : Nat → Nat} {n : Nat} {d : Bool} {p : Nat} {x y w R : List Int32} : am_fe (am_act lim K F S T n d p x y w R) := by
  unfold am_act am_fork am_hook am_atop am_red am_scan am_each am_leaf am_dy
  have hc := pr_D_c lim (K n) x y
  repeat' split
  all_goals first | exact am_fe1 | exact am_fe2 _ | exact am_fe3 _ _ _ _ _ | exact fun e h => by have := am_fl h; omega
theorem pr_cpq {v : Int32} {b : Nat} (hb : b ≤ 16) (h1 : ¬ v < 0) (h2 : ¬ nI b < v) : ∃ q, q ≤ b ∧ v = nI q ∧ v.toNatClampNeg = q := by
  obtain ⟨j, hj, rfl⟩ := nI_of h1
  rw [nI_ltI (by omega) hj] at h2
  exact ⟨j, by omega, rfl, nI_clamp hj⟩
theorem pr_cp_l {lim : Nat} (hl : lim ≤ 16) (x y : List Int32) : ∀ r i acc, acc.length ≤ lim → (pr_cp lim x y r i acc).2.length ≤ 16
  | 0, _, acc, h => by show acc.length ≤ 16; omega
  | r + 1, i, acc, h => by
    unfold pr_cp
    split
    · exact Nat.zero_le _
    · rename_i h1
      split
      · exact Nat.zero_le _
      · rename_i h2
        obtain ⟨q, hq, -, e⟩ := pr_cpq (by omega) h1 h2
        apply pr_cp_l hl x y r
        rw [List.length_append, List.length_replicate, e]
        omega
theorem pr_D_l {lim : Nat} (hl : lim ≤ 16) (k : Nat) {x y : List Int32} (hx : x.length ≤ 16) (hy : y.length ≤ 16) : (pr_D lim k x y).2.length ≤ 16 := by
  unfold pr_D
  split
  · exact hx
  · split
    · exact hy
    · split
      · split
        · exact Nat.zero_le _
        · exact pr_cp_l hl _ _ _ _ _ (Nat.zero_le _)
      · split
        · split
          · exact Nat.zero_le _
          · show (x ++ y).length ≤ 16
            rw [List.length_append]; omega
        · split
          · split
            · exact Nat.zero_le _
            · show (pr_rot x y).length ≤ 16
              unfold pr_rot
              rw [ve_ml]; exact hy
          · split
            · exact Nat.zero_le _
            · rename_i q hq
              show ((List.range q).map _).length ≤ 16
              rw [ve_ml]; exact pr_cnt_le hq hx hy
theorem pr_M_l (k : Nat) {y : List Int32} (hy : y.length ≤ 16) : (pr_M k y).length ≤ 16 := by
  unfold pr_M
  split
  · exact hy
  · split
    · exact Nat.le_of_ble_eq_true rfl
    · split
      · rw [ve_ml]; exact hy
      · rw [ve_ml]; exact hy
def am_pl16 (o : am_O) : Prop := ∀ v, o = am_pop v → v.length ≤ 16
theorem am_po {v : List Int32} (h : v.length ≤ 16) : am_pl16 (am_pop v) := fun z e => by
  have := Sum.inl.inj (Sum.inr.inj e)
  rw [← this]; exact h
theorem am_po1 (e : Nat) : am_pl16 (am_fail e) := fun z h => by cases h
theorem am_po2 (w x y : List Int32) (n : Nat) (d : Bool) : am_pl16 (am_push w n d x y) := fun z h => by cases h
theorem am_q {lim : Nat} {K F S T : Nat → Nat} {n : Nat} {d : Bool} {p : Nat} {x y w R : List Int32} (hl : lim ≤ 16)
    (lc : am_lc (K n) d p x y w) (hR : 0 < p → R.length ≤ 16) : am_pl16 (am_act lim K F S T n d p x y w R) := by
  obtain ⟨lp, lx, ly, lw, l1, l2, l3⟩ := lc
  unfold am_act
  split
  · unfold am_fork
    repeat' split
    all_goals first | exact am_po2 _ _ _ _ _ | exact am_po (hR (by omega))
  · split
    · unfold am_hook
      repeat' split
      all_goals first | exact am_po2 _ _ _ _ _ | exact am_po (hR (by omega))
    · split
      · unfold am_atop
        repeat' split
        all_goals first | exact am_po2 _ _ _ _ _ | exact am_po (hR (by omega))
      · split
        · unfold am_red
          split
          · exact am_po1 _
          · split
            · exact am_po2 _ _ _ _ _
            · exact am_po (am_rl lx ly hR)
        · split
          · rename_i hk
            unfold am_scan
            split
            · exact am_po1 _
            · rename_i hr
              split
              · exact am_po2 _ _ _ _ _
              · refine am_po ?_
                unfold am_z
                split
                · split
                  · exact Nat.zero_le _
                  · rw [List.length_take]; omega
                · have := l2 hk (by omega)
                  rw [List.length_append]; omega
          · split
            · rename_i hk
              unfold am_each
              split
              · exact am_po1 _
              · split
                · exact am_po1 _
                · rename_i hr
                  split
                  · exact am_po2 _ _ _ _ _
                  · refine am_po ?_
                    unfold am_ze
                    split
                    · exact Nat.zero_le _
                    · have := (l3 hk (by omega)).1
                      rw [List.length_append]; omega
            · unfold am_leaf am_dy
              split
              · exact am_po (Nat.le_of_ble_eq_true rfl)
              · split
                · split
                  · exact am_po (pr_D_l hl _ lx ly)
                  · exact am_po1 _
                · exact am_po (pr_M_l _ ly)
end
section
/-! how the two sides hold the machine's frames -/
def xm_b (b : Bool) : Int32 := if b = true then 1 else 0
def xm_m (b : Bool) : Int32 := if b = true then 2 else 1
def xm_top (K : Nat → Nat) (c l fn fd fx fy : Nat → Int32) (f n : Nat) (d : Bool) (p : Nat) (x y w : List Int32) : Prop :=
  fn f = nI n ∧ fd f = xm_b d ∧
  (∃ s, fx f = nI s ∧ s < 4 + 3 * f ∧ s ≠ 2 ∧ s ≠ 3 ∧ (d = true → ve_L c l s x)) ∧
  (∃ s, fy f = nI s ∧ s < 4 + 3 * f ∧ s ≠ 2 ∧ s ≠ 3 ∧ ve_L c l s y) ∧
  (K n = 1 → p = 2 → ve_L c l (4 + 3 * f) w) ∧
  (K n = 92 ∨ K n = 34 → 0 < p → ve_L c l (4 + 3 * f + 2) w)
def xm_F (K : Nat → Nat) (c l fn fd fx fy fp : Nat → Int32) : List am_F → Prop
  | [] => True
  | (n, d, p, x, y, w) :: r => fp r.length = nI p ∧ xm_top K c l fn fd fx fy r.length n d p x y w ∧ xm_F K c l fn fd fx fy fp r
def xm_S (K : Nat → Nat) (ax ay : List Int32) (fs : List am_F) (R : List Int32) (fc : Int32) (c l fn fd fx fy fp : Nat → Int32) : Prop :=
  fc = nI fs.length ∧ ve_L c l 0 ax ∧ ve_L c l 1 ay ∧ xm_F K c l fn fd fx fy fp fs ∧ (am_rdy fs → ve_L c l 3 R)
def xm_O (K : Nat → Nat) (ax ay : List Int32) (n : Nat) (d : Bool) (p : Nat) (x y : List Int32) (r : List am_F) (R : List Int32) (o : am_O)
    (fl fc : Int32) (c l fn fd fx fy fp : Nat → Int32) : Prop :=
  match o with
  | Sum.inl e => fl = nI e ∧ ve_L c l 0 ax ∧ ve_L c l 1 ay
  | Sum.inr (Sum.inl v) => fl = 0 ∧ xm_S K ax ay r v fc c l fn fd fx fy fp
  | Sum.inr (Sum.inr (w', n', d', x', y')) => fl = 0 ∧ xm_S K ax ay ((n', d', 0, x', y', []) :: (n, d, p + 1, x, y, w') :: r) R fc c l fn fd fx fy fp
theorem xm_topk {K : Nat → Nat} {c l fn fd fx fy c' l' fn' fd' fx' fy' : Nat → Int32} {f n : Nat} {d : Bool} {p : Nat} {x y w : List Int32}
    (hF : ve_F (fun t => t = 2 ∨ t = 3 ∨ 4 + 3 * (f + 1) ≤ t) c l c' l') (hf : fn' f = fn f ∧ fd' f = fd f ∧ fx' f = fx f ∧ fy' f = fy f)
    (h : xm_top K c l fn fd fx fy f n d p x y w) : xm_top K c' l' fn' fd' fx' fy' f n d p x y w := by
  obtain ⟨h1, h2, ⟨s, s1, s2, s3, s4, s5⟩, ⟨t, t1, t2, t3, t4, t5⟩, h5, h6⟩ := h
  refine ⟨hf.1.trans h1, hf.2.1.trans h2, ⟨s, hf.2.2.1.trans s1, s2, s3, s4, fun hd => ve_o hF (fun z => ?_) (s5 hd)⟩, ⟨t, hf.2.2.2.trans t1, t2, t3, t4, ve_o hF (fun z => ?_) t5⟩, fun a b => ve_o hF (fun z => ?_) (h5 a b), fun a b => ve_o hF (fun z => ?_) (h6 a b)⟩
  · have z' : s = 2 ∨ s = 3 ∨ 4 + 3 * (f + 1) ≤ s := z
    omega
  · have z' : t = 2 ∨ t = 3 ∨ 4 + 3 * (f + 1) ≤ t := z
    omega
  · have z' : 4 + 3 * f = 2 ∨ 4 + 3 * f = 3 ∨ 4 + 3 * (f + 1) ≤ 4 + 3 * f := z
    omega
  · have z' : 4 + 3 * f + 2 = 2 ∨ 4 + 3 * f + 2 = 3 ∨ 4 + 3 * (f + 1) ≤ 4 + 3 * f + 2 := z
    omega
theorem xm_k {K : Nat → Nat} {c l fn fd fx fy fp c' l' fn' fd' fx' fy' fp' : Nat → Int32} : ∀ (fs : List am_F),
    ve_F (fun t => t = 2 ∨ t = 3 ∨ 4 + 3 * fs.length ≤ t) c l c' l' →
    (∀ j, j < fs.length → fn' j = fn j ∧ fd' j = fd j ∧ fx' j = fx j ∧ fy' j = fy j ∧ fp' j = fp j) →
    xm_F K c l fn fd fx fy fp fs → xm_F K c' l' fn' fd' fx' fy' fp' fs
  | [], _, _, _ => trivial
  | (n, d, p, x, y, w) :: r, hF, hf, h => by
    obtain ⟨h1, h2, h3⟩ := h
    have e : ((n, d, p, x, y, w) :: r).length = r.length + 1 := rfl
    rw [e] at hF hf
    obtain ⟨a1, a2, a3, a4, a5⟩ := hf r.length (by omega)
    refine ⟨a5.trans h1, xm_topk hF ⟨a1, a2, a3, a4⟩ h2, xm_k r (ve_Fm hF fun t ht => ?_) (fun j hj => hf j (by omega)) h3⟩
    have z' : t = 2 ∨ t = 3 ∨ 4 + 3 * (r.length + 1) ≤ t := ht
    show t = 2 ∨ t = 3 ∨ 4 + 3 * r.length ≤ t
    omega
theorem xm_push {K : Nat → Nat} {ax ay : List Int32} {c l fn fd fx fy fp c' l' : Nat → Int32} {n : Nat} {d : Bool} {p : Nat} {x y w : List Int32} {r : List am_F}
    (R : List Int32) (w' : List Int32) (n' : Nat) (d' : Bool) (sx sy : Nat) (x' y' : List Int32)
    (hp : fp r.length = nI (p + 1)) (ht : xm_top K c l fn fd fx fy r.length n d p x y w) (hr : xm_F K c l fn fd fx fy fp r)
    (hF : ve_F (fun t => t = 3 ∨ 4 + 3 * r.length ≤ t) c l c' l') (h0 : ve_L c l 0 ax) (h1 : ve_L c l 1 ay)
    (hw1 : K n = 1 → p + 1 = 2 → ve_L c' l' (4 + 3 * r.length) w') (hw2 : K n = 92 ∨ K n = 34 → ve_L c' l' (4 + 3 * r.length + 2) w')
    (bx : sx < 4 + 3 * (r.length + 1) ∧ sx ≠ 2 ∧ sx ≠ 3) (hb : sy < 4 + 3 * (r.length + 1) ∧ sy ≠ 2 ∧ sy ≠ 3)
    (hx : d' = true → ve_L c' l' sx x') (hy : ve_L c' l' sy y') :
    xm_S K ax ay ((n', d', 0, x', y', []) :: (n, d, p + 1, x, y, w') :: r) R (nI (r.length + 2)) c' l'
      (upd fn (r.length + 1) (nI n')) (upd fd (r.length + 1) (xm_b d')) (upd fx (r.length + 1) (nI sx)) (upd fy (r.length + 1) (nI sy)) (upd fp (r.length + 1) 0) := by
  have hn : ∀ j, j < r.length + 1 → j ≠ r.length + 1 := fun j hj => by omega
  obtain ⟨t1, t2, ⟨s, s1, s2, s3, s4, s5⟩, ⟨u, u1, u2, u3, u4, u5⟩, -, -⟩ := ht
  refine ⟨rfl, ve_o hF (fun z => ?_) h0, ve_o hF (fun z => ?_) h1, ⟨pk_us.trans nI_0.symm, ⟨pk_us, pk_us, ⟨sx, pk_us, bx.1, bx.2.1, bx.2.2, hx⟩, ⟨sy, pk_us, hb.1, hb.2.1, hb.2.2, hy⟩, fun _ h => by omega, fun _ h => absurd h (Nat.lt_irrefl 0)⟩, ?_⟩, fun h => absurd h (Nat.lt_irrefl 0)⟩
  · have z' : 0 = 3 ∨ 4 + 3 * r.length ≤ 0 := z
    omega
  · have z' : 1 = 3 ∨ 4 + 3 * r.length ≤ 1 := z
    omega
  · refine ⟨(pk_un (hn _ (Nat.lt_succ_self _))).trans hp, ⟨(pk_un (hn _ (Nat.lt_succ_self _))).trans t1, (pk_un (hn _ (Nat.lt_succ_self _))).trans t2, ⟨s, (pk_un (hn _ (Nat.lt_succ_self _))).trans s1, s2, s3, s4, fun hd => ve_o hF (fun z => ?_) (s5 hd)⟩, ⟨u, (pk_un (hn _ (Nat.lt_succ_self _))).trans u1, u2, u3, u4, ve_o hF (fun z => ?_) u5⟩, hw1, fun a _ => hw2 a⟩, ?_⟩
    · have z' : s = 3 ∨ 4 + 3 * r.length ≤ s := z
      omega
    · have z' : u = 3 ∨ 4 + 3 * r.length ≤ u := z
      omega
    · refine xm_k r (ve_Fm hF fun t ht => Or.inr ht) (fun j hj => ?_) hr
      have hj' : j ≠ r.length + 1 := by omega
      exact ⟨pk_un hj', pk_un hj', pk_un hj', pk_un hj', pk_un hj'⟩
theorem xm_pop {K : Nat → Nat} {ax ay : List Int32} {c l fn fd fx fy fp c' l' : Nat → Int32} {r : List am_F} {v : List Int32}
    (hr : xm_F K c l fn fd fx fy fp r) (hF : ve_F (fun t => t = 3 ∨ 4 + 3 * r.length ≤ t) c l c' l') (h0 : ve_L c l 0 ax) (h1 : ve_L c l 1 ay)
    (hv : ve_L c' l' 3 v) : xm_S K ax ay r v (nI r.length) c' l' fn fd fx fy fp := by
  refine ⟨rfl, ve_o hF (fun z => ?_) h0, ve_o hF (fun z => ?_) h1, xm_k r (ve_Fm hF fun t ht => Or.inr ht) (fun j hj => ⟨rfl, rfl, rfl, rfl, rfl⟩) hr, fun _ => hv⟩
  · have z' : 0 = 3 ∨ 4 + 3 * r.length ≤ 0 := z
    omega
  · have z' : 1 = 3 ∨ 4 + 3 * r.length ≤ 1 := z
    omega
/-! the other side -/
def ym_ph (k p : Nat) : Nat := if k = 47 ∨ k = 92 ∨ k = 34 then min p 1 else p
def ym_fi (k : Nat) (d : Bool) (p : Nat) : Nat := if k = 34 then p - 1 else am_nx d p - 1
def ym_top (K : Nat → Nat) (c l fn fm fi : Nat → Int32) (f n : Nat) (d : Bool) (p : Nat) (x y w : List Int32) : Prop :=
  fn f = nI n ∧ fm f = xm_m d ∧
  (K n = 47 ∨ K n = 92 ∨ K n = 34 → 0 < p → fi f = nI (ym_fi (K n) d p)) ∧
  (d = true → ve_L c l (5 * f) x) ∧ ve_L c l (5 * f + 1) y ∧
  (K n = 1 → p = 2 → ve_L c l (5 * f + 2) w) ∧
  (K n = 92 ∨ K n = 34 → 0 < p → ve_L c l (5 * f + 4) w)
def ym_F (K : Nat → Nat) (c l fn fm fp fi : Nat → Int32) : List am_F → Prop
  | [] => True
  | (n, d, p, x, y, w) :: r => fp r.length = nI (ym_ph (K n) p) ∧ ym_top K c l fn fm fi r.length n d p x y w ∧ ym_F K c l fn fm fp fi r
def ym_S (K : Nat → Nat) (fs : List am_F) (R : List Int32) (sp : Int32) (c l fn fm fp fi : Nat → Int32) : Prop :=
  sp + 1 = nI fs.length ∧ ym_F K c l fn fm fp fi fs ∧ (am_rdy fs → ve_L c l (5 * fs.length + 3) R)
def ym_O (K : Nat → Nat) (n : Nat) (d : Bool) (p : Nat) (x y : List Int32) (r : List am_F) (R : List Int32) (o : am_O)
    (er sp : Int32) (c l fn fm fp fi : Nat → Int32) : Prop :=
  match o with
  | Sum.inl e => er = nI e
  | Sum.inr (Sum.inl v) => er = 0 ∧ ym_S K r v sp c l fn fm fp fi
  | Sum.inr (Sum.inr (w', n', d', x', y')) => er = 0 ∧ ym_S K ((n', d', 0, x', y', []) :: (n, d, p + 1, x, y, w') :: r) R sp c l fn fm fp fi
theorem ym_topk {K : Nat → Nat} {c l fn fm fi c' l' fn' fm' fi' : Nat → Int32} {f n : Nat} {d : Bool} {p : Nat} {x y w : List Int32}
    (hF : ve_F (fun t => 5 * (f + 1) ≤ t) c l c' l') (hf : fn' f = fn f ∧ fm' f = fm f ∧ fi' f = fi f)
    (h : ym_top K c l fn fm fi f n d p x y w) : ym_top K c' l' fn' fm' fi' f n d p x y w := by
  obtain ⟨h1, h2, h3, h4, h5, h6, h7⟩ := h
  have q : ∀ j, j < 5 → ¬ (fun t => 5 * (f + 1) ≤ t) (5 * f + j) := fun j hj z => by
    have z' : 5 * (f + 1) ≤ 5 * f + j := z
    omega
  exact ⟨hf.1.trans h1, hf.2.1.trans h2, fun a b => hf.2.2.trans (h3 a b), fun a => ve_o hF (q 0 (by decide)) (h4 a), ve_o hF (q 1 (by decide)) h5, fun a b => ve_o hF (q 2 (by decide)) (h6 a b), fun a b => ve_o hF (q 4 (by decide)) (h7 a b)⟩
theorem ym_k {K : Nat → Nat} {c l fn fm fp fi c' l' fn' fm' fp' fi' : Nat → Int32} : ∀ (fs : List am_F),
    ve_F (fun t => 5 * fs.length ≤ t) c l c' l' →
    (∀ j, j < fs.length → fn' j = fn j ∧ fm' j = fm j ∧ fi' j = fi j ∧ fp' j = fp j) →
    ym_F K c l fn fm fp fi fs → ym_F K c' l' fn' fm' fp' fi' fs
  | [], _, _, _ => trivial
  | (n, d, p, x, y, w) :: r, hF, hf, h => by
    obtain ⟨h1, h2, h3⟩ := h
    have e : ((n, d, p, x, y, w) :: r).length = r.length + 1 := rfl
    rw [e] at hF hf
    obtain ⟨a1, a2, a3, a4⟩ := hf r.length (by omega)
    refine ⟨a4.trans h1, ym_topk hF ⟨a1, a2, a3⟩ h2, ym_k r (ve_Fm hF fun t ht => ?_) (fun j hj => hf j (by omega)) h3⟩
    have z' : 5 * (r.length + 1) ≤ t := ht
    show 5 * r.length ≤ t
    omega
theorem ym_sp {sp : Int32} {k : Nat} (h : sp + 1 = nI (k + 1)) : sp = nI k := by
  rw [← nI_1] at h
  have a : sp + 1 - 1 = sp := by rw [Int32.add_sub_cancel]
  have b : nI k + 1 - 1 = nI k := by rw [Int32.add_sub_cancel]
  rw [← a, h, b]
theorem ym_push {K : Nat → Nat} {c l fn fm fp fi fi1 c' l' : Nat → Int32} {n : Nat} {d : Bool} {p : Nat} {x y w : List Int32} {r : List am_F}
    (R : List Int32) (w' : List Int32) (n' : Nat) (d' : Bool) (x' y' : List Int32)
    (ht : ym_top K c l fn fm fi r.length n d p x y w) (hr : ym_F K c l fn fm fp fi r)
    (hF : ve_F (fun t => 5 * r.length + 2 ≤ t) c l c' l') (hfi : ∀ j, j < r.length → fi1 j = fi j)
    (hfi2 : K n = 47 ∨ K n = 92 ∨ K n = 34 → fi1 r.length = nI (ym_fi (K n) d (p + 1)))
    (hw1 : K n = 1 → p + 1 = 2 → ve_L c' l' (5 * r.length + 2) w') (hw2 : K n = 92 ∨ K n = 34 → ve_L c' l' (5 * r.length + 4) w')
    (hx : d' = true → ve_L c' l' (5 * (r.length + 1)) x') (hy : ve_L c' l' (5 * (r.length + 1) + 1) y') :
    ym_S K ((n', d', 0, x', y', []) :: (n, d, p + 1, x, y, w') :: r) R (nI (r.length + 1)) c' l'
      (upd fn (r.length + 1) (nI n')) (upd fm (r.length + 1) (xm_m d')) (upd (upd fp r.length (nI (ym_ph (K n) (p + 1)))) (r.length + 1) 0) (upd fi1 (r.length + 1) 0) := by
  have hn : r.length ≠ r.length + 1 := by omega
  obtain ⟨t1, t2, -, t4, t5, -, -⟩ := ht
  have q : ∀ j, j < 2 → ¬ (fun t => 5 * r.length + 2 ≤ t) (5 * r.length + j) := fun j hj z => by
    have z' : 5 * r.length + 2 ≤ 5 * r.length + j := z
    omega
  have e0 : ym_ph (K n') 0 = 0 := by unfold ym_ph; split <;> rfl
  refine ⟨nI_1 _, ⟨by rw [e0]; exact pk_us.trans nI_0.symm, ⟨pk_us, pk_us, fun _ h => absurd h (Nat.lt_irrefl 0), hx, hy, fun _ h => by omega, fun _ h => absurd h (Nat.lt_irrefl 0)⟩, ?_⟩, fun h => absurd h (Nat.lt_irrefl 0)⟩
  refine ⟨(pk_un hn).trans pk_us, ⟨(pk_un hn).trans t1, (pk_un hn).trans t2, fun a _ => (pk_un hn).trans (hfi2 a), fun a => ve_o hF (q 0 (by decide)) (t4 a), ve_o hF (q 1 (by decide)) t5, hw1, fun a _ => hw2 a⟩, ?_⟩
  refine ym_k r (ve_Fm hF fun t ht => ?_) (fun j hj => ?_) hr
  · have z' : 5 * r.length + 2 ≤ t := ht
    show 5 * r.length ≤ t
    omega
  · have hj' : j ≠ r.length + 1 := by omega
    have hj2 : j ≠ r.length := by omega
    exact ⟨pk_un hj', pk_un hj', (pk_un hj').trans (hfi j hj), (pk_un hj').trans (pk_un hj2)⟩
theorem ym_pop {K : Nat → Nat} {c l fn fm fp fi fp1 fi1 c' l' : Nat → Int32} {r : List am_F} {v : List Int32} {sp : Int32}
    (hr : ym_F K c l fn fm fp fi r) (hF : ve_F (fun t => 5 * r.length ≤ t) c l c' l') (hfi : ∀ j, j < r.length → fi1 j = fi j) (hfp : ∀ j, j < r.length → fp1 j = fp j)
    (hs : sp + 1 = nI r.length) (hv : ve_L c' l' (5 * r.length + 3) v) : ym_S K r v sp c' l' fn fm fp1 fi1 :=
  ⟨hs, ym_k r hF (fun j hj => ⟨rfl, rfl, hfi j hj, hfp j hj⟩) hr, fun _ => hv⟩
end
section
/-! trees by numbered nodes, and words: the two sides' arrays, ghosts over naturals -/
def tr_u (f : Nat → Nat) (k v : Nat) : Nat → Nat := fun j => if j = k then v else f j
theorem tr_us {f : Nat → Nat} {k v : Nat} : tr_u f k v k = v := if_pos rfl
theorem tr_un {f : Nat → Nat} {k v j : Nat} (h : j ≠ k) : tr_u f k v j = f j := if_neg h
def tr_X (N : Nat) (K F S T : Nat → Nat) (kx fx sx tx : Nat → Int32) : Prop :=
  ∀ n, n < N → kx n = nI (K n) ∧ fx n = nI (F n) ∧ sx n = nI (S n) ∧ tx n = nI (T n)
def tr_ky (k : Nat) : Nat := if k = 1 then 3 else if k = 2 then 4 else if k = 64 then 2 else if k = 47 ∨ k = 92 ∨ k = 34 then 1 else 0
def tr_cy (k : Nat) : Nat := if k = 1 ∨ k = 2 then 32 else k
def tr_Y (N : Nat) (K F S T : Nat → Nat) (ky ch na nb nc : Nat → Int32) : Prop :=
  ∀ n, n < N → ky n = nI (tr_ky (K n)) ∧ ch n = nI (tr_cy (K n)) ∧ na n = nI (F n) ∧ nb n = nI (S n) ∧ nc n = nI (T n)
theorem tr_Xu {N : Nat} {K F S T : Nat → Nat} {kx fx sx tx : Nat → Int32} (h : tr_X N K F S T kx fx sx tx) (k a b c : Nat) :
    tr_X (N + 1) (tr_u K N k) (tr_u F N a) (tr_u S N b) (tr_u T N c) (upd kx N (nI k)) (upd fx N (nI a)) (upd sx N (nI b)) (upd tx N (nI c)) := by
  intro n hn
  by_cases e : n = N
  · subst e
    rw [tr_us, tr_us, tr_us, tr_us]
    exact ⟨pk_us, pk_us, pk_us, pk_us⟩
  · rw [tr_un e, tr_un e, tr_un e, tr_un e, pk_un e, pk_un e, pk_un e, pk_un e]
    exact h n (by omega)
theorem tr_Yu {N : Nat} {K F S T : Nat → Nat} {ky ch na nb nc : Nat → Int32} (h : tr_Y N K F S T ky ch na nb nc) (k a b c : Nat) :
    tr_Y (N + 1) (tr_u K N k) (tr_u F N a) (tr_u S N b) (tr_u T N c) (upd ky N (nI (tr_ky k))) (upd ch N (nI (tr_cy k))) (upd na N (nI a)) (upd nb N (nI b)) (upd nc N (nI c)) := by
  intro n hn
  by_cases e : n = N
  · subst e
    rw [tr_us, tr_us, tr_us, tr_us]
    exact ⟨pk_us, pk_us, pk_us, pk_us, pk_us⟩
  · rw [tr_un e, tr_un e, tr_un e, tr_un e, pk_un e, pk_un e, pk_un e, pk_un e, pk_un e]
    exact h n (by omega)
/-- every node below N keeps its own condition -/
def tr_ok (N : Nat) (K F S T C A D : Nat → Nat) : Prop := ∀ n, n < N → nd_ok K F S T C A D n ∧ nd_b C A D n
theorem nd_eq {K F S T C A D K' F' S' T' C' A' D' : Nat → Nat} {N n : Nat} (hn : n < N)
    (h : ∀ j, j < N → K' j = K j ∧ F' j = F j ∧ S' j = S j ∧ T' j = T j ∧ C' j = C j ∧ A' j = A j ∧ D' j = D j)
    (o : nd_ok K F S T C A D n) : nd_ok K' F' S' T' C' A' D' n := by
  obtain ⟨k, f, s, t, c, a, d⟩ := h n hn
  unfold nd_ok
  rw [k, f, s, t, c, a, d]
  rcases o with ⟨o1, o2⟩ | ⟨o1, o2, o3⟩ | ⟨o1, o2, o3, o4⟩ | ⟨o1, o2, o3, o4, o5⟩ | ⟨o1, o2, o3, o4⟩
  · exact Or.inl ⟨o1, o2⟩
  · obtain ⟨-, -, -, -, c1, a1, d1⟩ := h (F n) (by omega)
    rw [c1, a1, d1]
    exact Or.inr (Or.inl ⟨o1, o2, o3⟩)
  · obtain ⟨-, -, -, -, c1, a1, d1⟩ := h (F n) (by omega)
    obtain ⟨k2, -, -, -, c2, a2, d2⟩ := h (S n) (by omega)
    rw [c1, a1, d1, c2, a2, d2, k2]
    exact Or.inr (Or.inr (Or.inl ⟨o1, o2, o3, o4⟩))
  · obtain ⟨-, -, -, -, c1, a1, d1⟩ := h (F n) (by omega)
    obtain ⟨-, -, -, -, c2, a2, d2⟩ := h (S n) (by omega)
    obtain ⟨-, -, -, -, c3, a3, d3⟩ := h (T n) (by omega)
    rw [c1, a1, d1, c2, a2, d2, c3, a3, d3]
    exact Or.inr (Or.inr (Or.inr (Or.inl ⟨o1, o2, o3, o4, o5⟩)))
  · obtain ⟨-, -, -, -, c1, a1, d1⟩ := h (F n) (by omega)
    obtain ⟨-, -, -, -, c2, a2, d2⟩ := h (S n) (by omega)
    rw [c1, a1, d1, c2, a2, d2]
    exact Or.inr (Or.inr (Or.inr (Or.inr ⟨o1, o2, o3, o4⟩)))
theorem tr_oku {N : Nat} {K F S T C A D : Nat → Nat} (h : tr_ok N K F S T C A D) (k a b c vc va vd : Nat)
    (o : nd_ok (tr_u K N k) (tr_u F N a) (tr_u S N b) (tr_u T N c) (tr_u C N vc) (tr_u A N va) (tr_u D N vd) N) (hb : vd ≤ 4 * vc * 17 ^ va) :
    tr_ok (N + 1) (tr_u K N k) (tr_u F N a) (tr_u S N b) (tr_u T N c) (tr_u C N vc) (tr_u A N va) (tr_u D N vd) := by
  intro n hn
  by_cases e : n = N
  · subst e
    exact ⟨o, by unfold nd_b; rw [tr_us, tr_us, tr_us]; exact hb⟩
  · refine ⟨nd_eq (N := N) (by omega) (fun j hj => ?_) (h n (by omega)).1, ?_⟩
    · have : j ≠ N := by omega
      exact ⟨tr_un this, tr_un this, tr_un this, tr_un this, tr_un this, tr_un this, tr_un this⟩
    · unfold nd_b
      rw [tr_un e, tr_un e, tr_un e]
      exact (h n (by omega)).2
theorem tr_pw (a : Nat) : 1 ≤ 17 ^ a := Nat.pow_pos (by decide)
theorem tr_b1 {c a d : Nat} (h : d ≤ 4 * c * 17 ^ a) : 17 * (1 + d) ≤ 4 * (1 + c) * 17 ^ (1 + a) := by
  have p := tr_pw a
  rw [Nat.pow_add, Nat.pow_one]
  have e : 4 * (1 + c) * (17 * 17 ^ a) = 17 * (4 * 17 ^ a + 4 * c * 17 ^ a) := by
    rw [Nat.mul_add, Nat.mul_one, Nat.add_mul, Nat.mul_left_comm 4 17, Nat.mul_left_comm (4 * c) 17, ← Nat.mul_add]
  rw [e]
  exact Nat.mul_le_mul_left 17 (by omega)
theorem tr_bm {c a b d : Nat} (h : d ≤ 4 * c * 17 ^ a) (hab : a ≤ b) : d ≤ 4 * c * 17 ^ b :=
  Nat.le_trans h (Nat.mul_le_mul_left _ (Nat.pow_le_pow_right (by decide) hab))
theorem tr_b2 {c1 a1 d1 c2 a2 d2 q : Nat} (h1 : d1 ≤ 4 * c1 * 17 ^ a1) (h2 : d2 ≤ 4 * c2 * 17 ^ a2) (hq : 1 ≤ q) :
    3 + d2 + d1 ≤ 4 * (q + c1 + c2) * 17 ^ (a1 + a2) := by
  have k1 := tr_bm h1 (Nat.le_add_right a1 a2)
  have k2 := tr_bm h2 (Nat.le_add_left a2 a1)
  have p := tr_pw (a1 + a2)
  generalize 17 ^ (a1 + a2) = z at *
  have e : 4 * (q + c1 + c2) * z = 4 * q * z + 4 * c1 * z + 4 * c2 * z := by
    rw [Nat.mul_add, Nat.mul_add, Nat.add_mul, Nat.add_mul]
  have m : 4 * 1 ≤ 4 * q * z := Nat.le_trans (Nat.mul_le_mul_left 4 hq) (Nat.le_mul_of_pos_right _ p)
  rw [e]
  omega
theorem tr_b3 {c1 a1 d1 c2 a2 d2 c3 a3 d3 : Nat} (h1 : d1 ≤ 4 * c1 * 17 ^ a1) (h2 : d2 ≤ 4 * c2 * 17 ^ a2) (h3 : d3 ≤ 4 * c3 * 17 ^ a3) :
    4 + d3 + d1 + d2 ≤ 4 * (2 + c1 + c2 + c3) * 17 ^ (a1 + a2 + a3) := by
  have k1 := tr_bm (b := a1 + a2 + a3) h1 (by omega)
  have k2 := tr_bm (b := a1 + a2 + a3) h2 (by omega)
  have k3 := tr_bm (b := a1 + a2 + a3) h3 (by omega)
  have p := tr_pw (a1 + a2 + a3)
  generalize 17 ^ (a1 + a2 + a3) = z at *
  have e : 4 * (2 + c1 + c2 + c3) * z = 8 * z + 4 * c1 * z + 4 * c2 * z + 4 * c3 * z := by
    rw [Nat.mul_add, Nat.mul_add, Nat.mul_add, Nat.add_mul, Nat.add_mul, Nat.add_mul]
  rw [e]
  omega
theorem tr_lf {N : Nat} {K F S T C A D : Nat → Nat} (h : tr_ok N K F S T C A D) (k : Nat) (hk : pr_lf k) :
    tr_ok (N + 1) (tr_u K N k) (tr_u F N 0) (tr_u S N 0) (tr_u T N 0) (tr_u C N 1) (tr_u A N 0) (tr_u D N 1) := by
  refine tr_oku h k 0 0 0 1 0 1 (Or.inl ?_) (by decide)
  rw [tr_us, tr_us, tr_us, tr_us]
  exact ⟨hk, rfl, rfl, rfl⟩
theorem tr_av {N : Nat} {K F S T C A D : Nat → Nat} (h : tr_ok N K F S T C A D) (k a : Nat) (hk : pr_av k) (ha : a < N) :
    tr_ok (N + 1) (tr_u K N k) (tr_u F N a) (tr_u S N 0) (tr_u T N 0) (tr_u C N (1 + C a)) (tr_u A N (1 + A a)) (tr_u D N (17 * (1 + D a))) := by
  refine tr_oku h k a 0 0 _ _ _ (Or.inr (Or.inl ?_)) (tr_b1 (h a ha).2)
  have e : a ≠ N := by omega
  rw [tr_us, tr_us, tr_us, tr_us, tr_us, tr_un e, tr_un e, tr_un e]
  exact ⟨hk, ha, rfl, rfl, rfl⟩
theorem tr_at {N : Nat} {K F S T C A D : Nat → Nat} (h : tr_ok N K F S T C A D) (a b : Nat) (ha : a < N) (hb : b < N) :
    tr_ok (N + 1) (tr_u K N 64) (tr_u F N a) (tr_u S N b) (tr_u T N 0) (tr_u C N (1 + nd_pr (K b) + C a + C b)) (tr_u A N (A a + A b)) (tr_u D N (3 + D b + D a)) := by
  refine tr_oku h 64 a b 0 _ _ _ (Or.inr (Or.inr (Or.inl ?_))) (tr_b2 (h a ha).2 (h b hb).2 (by omega))
  have e : a ≠ N := by omega
  have e2 : b ≠ N := by omega
  rw [tr_us, tr_us, tr_us, tr_us, tr_us, tr_us, tr_un e, tr_un e, tr_un e, tr_un e2, tr_un e2, tr_un e2, tr_un e2]
  exact ⟨rfl, ha, hb, rfl, rfl, rfl⟩
theorem tr_fk {N : Nat} {K F S T C A D : Nat → Nat} (h : tr_ok N K F S T C A D) (a b c : Nat) (ha : a < N) (hb : b < N) (hc : c < N) :
    tr_ok (N + 1) (tr_u K N 1) (tr_u F N a) (tr_u S N b) (tr_u T N c) (tr_u C N (2 + C a + C b + C c)) (tr_u A N (A a + A b + A c)) (tr_u D N (4 + D c + D a + D b)) := by
  refine tr_oku h 1 a b c _ _ _ (Or.inr (Or.inr (Or.inr (Or.inl ?_)))) (tr_b3 (h a ha).2 (h b hb).2 (h c hc).2)
  have e : a ≠ N := by omega
  have e2 : b ≠ N := by omega
  have e3 : c ≠ N := by omega
  rw [tr_us, tr_us, tr_us, tr_us, tr_us, tr_us, tr_us, tr_un e, tr_un e, tr_un e, tr_un e2, tr_un e2, tr_un e2, tr_un e3, tr_un e3, tr_un e3]
  exact ⟨rfl, ha, hb, hc, rfl, rfl, rfl⟩
theorem tr_hk {N : Nat} {K F S T C A D : Nat → Nat} (h : tr_ok N K F S T C A D) (a b : Nat) (ha : a < N) (hb : b < N) :
    tr_ok (N + 1) (tr_u K N 2) (tr_u F N a) (tr_u S N b) (tr_u T N 0) (tr_u C N (2 + C a + C b)) (tr_u A N (A a + A b)) (tr_u D N (3 + D b + D a)) := by
  refine tr_oku h 2 a b 0 _ _ _ (Or.inr (Or.inr (Or.inr (Or.inr ?_)))) (tr_b2 (h a ha).2 (h b hb).2 (by omega))
  have e : a ≠ N := by omega
  have e2 : b ≠ N := by omega
  rw [tr_us, tr_us, tr_us, tr_us, tr_us, tr_us, tr_un e, tr_un e, tr_un e, tr_un e2, tr_un e2, tr_un e2]
  exact ⟨rfl, ha, hb, rfl, rfl, rfl⟩
/-- sums over the first m words -/
def tr_sm (g W : Nat → Nat) : Nat → Nat
  | 0 => 0
  | m + 1 => tr_sm g W m + g (W m)
theorem tr_sme {g g' W W' : Nat → Nat} : ∀ m, (∀ j, j < m → g' (W' j) = g (W j)) → tr_sm g' W' m = tr_sm g W m
  | 0, _ => rfl
  | m + 1, h => by
    show tr_sm g' W' m + g' (W' m) = tr_sm g W m + g (W m)
    rw [tr_sme m (fun j hj => h j (by omega)), h m (by omega)]
end
section
/-! remainders and small numbers -/
theorem pr_rb (v : Int32) {m : Nat} (h1 : m ≤ 16) (h0 : 0 < m) : (v - v / nI m * nI m).toInt = v.toInt.tmod (m : Int) ∧ -(m : Int) < v.toInt.tmod (m : Int) ∧ v.toInt.tmod (m : Int) < m := by
  have e := rem_toInt v (nI m)
  rw [nI_toInt (by omega)] at e
  have b := tmod_bounds (a := v.toInt) (M := (m : Int)) (by omega)
  exact ⟨e, b.1, b.2⟩
theorem pr_em (a m : Int) : a % m = (a.tmod m) % m := by
  have h := Int.tmod_add_mul_tdiv a m
  have k := Int.add_mul_emod_self_left (a.tmod m) m (a.tdiv m)
  rw [h] at k
  exact k
theorem pr_kN (v : Int32) {m : Nat} (h0 : 0 < m) : pr_k v m < m ∧ ((pr_k v m : Nat) : Int) = v.toInt % (m : Int) := by
  have a := Int.emod_nonneg v.toInt (b := (m : Int)) (by omega)
  have b := Int.emod_lt_of_pos v.toInt (b := (m : Int)) (by omega)
  unfold pr_k
  omega
theorem pr_ka (v : Int32) {m : Nat} (h1 : m ≤ 16) (h0 : 0 < m) : (v - v / nI m * nI m + nI m).toInt = v.toInt.tmod (m : Int) + m := by
  obtain ⟨e, b1, b2⟩ := pr_rb v h1 h0
  rw [Int32.toInt_add, e, nI_toInt (by omega)]
  exact Int.bmod_eq_of_le (by omega) (by omega)
theorem pr_kx (v : Int32) {m : Nat} (h1 : m ≤ 16) (h0 : 0 < m) : (v - v / nI m * nI m + nI m) - (v - v / nI m * nI m + nI m) / nI m * nI m = nI (pr_k v m) := by
  obtain ⟨e, b1, b2⟩ := pr_rb v h1 h0
  obtain ⟨k1, k2⟩ := pr_kN v h0
  apply Int32.toInt_inj.mp
  rw [rem_toInt, pr_ka v h1 h0, nI_toInt (by omega), nI_toInt (by omega), Int.tmod_eq_emod_of_nonneg (by omega), Int.add_emod_right, ← pr_em, k2]
theorem pr_kn (v : Int32) {m : Nat} (h1 : m ≤ 16) (h0 : 0 < m) (h : v - v / nI m * nI m < 0) : v - v / nI m * nI m + nI m = nI (pr_k v m) := by
  obtain ⟨e, b1, b2⟩ := pr_rb v h1 h0
  obtain ⟨k1, k2⟩ := pr_kN v h0
  rw [Int32.lt_iff_toInt_lt, e, show (0 : Int32).toInt = 0 from by decide] at h
  apply Int32.toInt_inj.mp
  rw [pr_ka v h1 h0, nI_toInt (by omega), k2, pr_em, ← Int.add_emod_right, Int.emod_eq_of_lt (by omega) (by omega)]
theorem pr_kp (v : Int32) {m : Nat} (h1 : m ≤ 16) (h0 : 0 < m) (h : ¬ v - v / nI m * nI m < 0) : v - v / nI m * nI m = nI (pr_k v m) := by
  obtain ⟨e, b1, b2⟩ := pr_rb v h1 h0
  obtain ⟨k1, k2⟩ := pr_kN v h0
  rw [Int32.lt_iff_toInt_lt, e, show (0 : Int32).toInt = 0 from by decide] at h
  apply Int32.toInt_inj.mp
  rw [e, nI_toInt (by omega), k2, pr_em, Int.emod_eq_of_lt (by omega) (by omega)]
theorem ax_mul (s i : Nat) : nI s * 16 + nI i = nI (16 * s + i) := by
  rw [show (16 : Int32) = nI 16 from rfl, pk_mul, nI_add, Nat.mul_comm]
theorem ax_mul0 (s : Nat) : nI s * 16 = nI (16 * s) := by
  rw [show (16 : Int32) = nI 16 from rfl, pk_mul, Nat.mul_comm]
theorem ax_lt {a b : Nat} (ha : a < 2 ^ 31) (hb : b < 2 ^ 31) : nI a < nI b ↔ a < b := nI_ltI ha hb
theorem ax_cl {n : Nat} (h : n < 2 ^ 31) : (nI n).toNatClampNeg = n := nI_clamp h
end
section
/-! reading: ghosts of words and groups -/
def rd_pu (P : Nat → Bool) (k : Nat) (v : Bool) : Nat → Bool := fun j => if j = k then v else P j
theorem rd_ps {P : Nat → Bool} {k : Nat} {v : Bool} : rd_pu P k v k = v := if_pos rfl
theorem rd_pn {P : Nat → Bool} {k : Nat} {v : Bool} {j : Nat} (h : j ≠ k) : rd_pu P k v j = P j := if_neg h
def rd_G (wc G : Nat) (B : Nat → Nat) (P : Nat → Bool) : Prop :=
  B G ≤ wc ∧ (P G = true → B G < wc) ∧ ∀ j, j < G → B j ≤ B (j + 1) ∧ (P j = true → B j < B (j + 1))
def rd_W (b N wc adc : Nat) (K F S T C A D W : Nat → Nat) : Prop :=
  tr_ok N K F S T C A D ∧ (∀ j, j < wc → W j < N) ∧ N + wc ≤ b ∧ tr_sm C W wc + wc ≤ b ∧ tr_sm A W wc ≤ adc
def rd_S (i N wc G adc : Nat) (K F S T C A D W B : Nat → Nat) (P : Nat → Bool) : Prop :=
  rd_W (2 * i) N wc adc K F S T C A D W ∧ rd_G wc G B P ∧ wc ≤ i ∧ G ≤ i ∧ adc ≤ i
theorem tr_smu {g W : Nat → Nat} {m p : Nat} : tr_sm g (tr_u W m p) (m + 1) = tr_sm g W m + g p := by
  show tr_sm g (tr_u W m p) m + g (tr_u W m p m) = _
  rw [tr_us, tr_sme m (g := g) (W := W) (fun j hj => by rw [tr_un (by omega)])]
theorem tr_smn {g W : Nat → Nat} {m N v : Nat} (h : ∀ j, j < m → W j < N) : tr_sm (tr_u g N v) W m = tr_sm g W m :=
  tr_sme m fun j hj => tr_un (by have := h j hj; omega)
theorem tr_smr {g W : Nat → Nat} {m N v : Nat} (h : ∀ j, j < m → W j < N) : tr_sm (tr_u g N v) (tr_u W m N) (m + 1) = tr_sm g W m + v := by
  rw [tr_smu, tr_us, tr_smn h]
theorem tr_sm1 {g W : Nat → Nat} {m : Nat} : tr_sm g W (m + 1) = tr_sm g W m + g (W m) := rfl
theorem nd_prle (k : Nat) : nd_pr k ≤ 2 := by
  unfold nd_pr; split <;> omega
/-- a primary comes to the words: as a word -/
theorem rd_plain {b N wc adc p : Nat} {K F S T C A D W : Nat → Nat} (h : tr_ok N K F S T C A D) (hw : ∀ j, j < wc → W j < N) (hp : p < N)
    (hN : N + wc + 1 ≤ b) (hC : tr_sm C W wc + wc + C p + 1 ≤ b) (hA : tr_sm A W wc + A p ≤ adc) :
    rd_W b N (wc + 1) adc K F S T C A D (tr_u W wc p) := by
  refine ⟨h, fun j hj => ?_, by omega, by rw [tr_smu]; omega, by rw [tr_smu]; omega⟩
  by_cases e : j = wc
  · rw [e, tr_us]; exact hp
  · rw [tr_un e]; exact hw j (by omega)
/-- a primary comes to the words: under an atop -/
theorem rd_atop {b N m adc p : Nat} {K F S T C A D W : Nat → Nat} (h : tr_ok N K F S T C A D) (hw : ∀ j, j < m + 1 → W j < N) (hp : p < N)
    (hN : N + (m + 1) + 1 ≤ b) (hC : tr_sm C W (m + 1) + (m + 1) + C p + 1 + nd_pr (K p) ≤ b) (hA : tr_sm A W (m + 1) + A p ≤ adc) :
    rd_W b (N + 1) (m + 1) adc (tr_u K N 64) (tr_u F N (W m)) (tr_u S N p) (tr_u T N 0) (tr_u C N (1 + nd_pr (K p) + C (W m) + C p)) (tr_u A N (A (W m) + A p)) (tr_u D N (3 + D p + D (W m))) (tr_u W m N) := by
  rw [tr_sm1] at hC hA
  refine ⟨tr_at h (W m) p (hw m (by omega)) hp, fun j hj => ?_, by omega, ?_, ?_⟩
  · by_cases e : j = m
    · rw [e, tr_us]; omega
    · rw [tr_un e]; have := hw j (by omega); omega
  · rw [tr_smr (fun j hj => hw j (by omega))]; omega
  · rw [tr_smr (fun j hj => hw j (by omega))]; omega
theorem rd_Gp {wc wc' G : Nat} {B : Nat → Nat} {P : Nat → Bool} (h : rd_G wc G B P) (hw : wc ≤ wc') : rd_G wc' G B P :=
  ⟨by have := h.1; omega, fun hp => by have := h.2.1 hp; omega, h.2.2⟩
theorem rd_Gat {wc G : Nat} {B : Nat → Nat} {P : Nat → Bool} (h : rd_G wc G B P) (v : Bool) (hv : v = true → B G < wc) : rd_G wc G B (rd_pu P G v) := by
  refine ⟨h.1, fun hp => hv (by rw [rd_ps] at hp; exact hp), fun j hj => ?_⟩
  rw [rd_pn (by omega)]
  exact h.2.2 j hj
theorem rd_open {i N wc G adc : Nat} {K F S T C A D W B : Nat → Nat} {P : Nat → Bool} (h : rd_S i N wc G adc K F S T C A D W B P) :
    rd_S (i + 1) N wc (G + 1) adc K F S T C A D W (tr_u B (G + 1) wc) (rd_pu P (G + 1) false) := by
  obtain ⟨⟨w1, w2, w3, w4, w5⟩, ⟨g1, g2, g3⟩, a1, a2, a3⟩ := h
  refine ⟨⟨w1, w2, by omega, by omega, w5⟩, ⟨by rw [tr_us]; exact Nat.le_refl _, fun hp => (by rw [rd_ps] at hp; cases hp), fun j hj => ?_⟩, by omega, by omega, by omega⟩
  rw [rd_pn (by omega), tr_un (by omega : j ≠ G + 1)]
  by_cases e : j = G
  · subst e
    rw [tr_us]
    exact ⟨g1, g2⟩
  · rw [tr_un (by omega : j + 1 ≠ G + 1)]
    exact g3 j (by omega)
theorem rd_wait {i N wc G adc : Nat} {K F S T C A D W B : Nat → Nat} {P : Nat → Bool} (h : rd_S i N wc G adc K F S T C A D W B P) (hb : B G < wc) :
    rd_S (i + 1) N wc G adc K F S T C A D W B (rd_pu P G true) := by
  obtain ⟨⟨w1, w2, w3, w4, w5⟩, g, a1, a2, a3⟩ := h
  exact ⟨⟨w1, w2, by omega, by omega, w5⟩, rd_Gat g true fun _ => hb, by omega, by omega, by omega⟩
theorem rd_adv {i N m G adc : Nat} {K F S T C A D W B : Nat → Nat} {P : Nat → Bool} (k : Nat) (hk : pr_av k) (h : rd_S i N (m + 1) G adc K F S T C A D W B P) :
    rd_S (i + 1) (N + 1) (m + 1) G (adc + 1) (tr_u K N k) (tr_u F N (W m)) (tr_u S N 0) (tr_u T N 0) (tr_u C N (1 + C (W m))) (tr_u A N (1 + A (W m))) (tr_u D N (17 * (1 + D (W m)))) (tr_u W m N) B P := by
  obtain ⟨⟨w1, w2, w3, w4, w5⟩, g, a1, a2, a3⟩ := h
  rw [tr_sm1] at w4 w5
  refine ⟨⟨tr_av w1 k (W m) hk (w2 m (by omega)), fun j hj => ?_, by omega, ?_, ?_⟩, g, by omega, by omega, by omega⟩
  · by_cases e : j = m
    · rw [e, tr_us]; omega
    · rw [tr_un e]; have := w2 j (by omega); omega
  · rw [tr_smr (fun j hj => w2 j (by omega))]; omega
  · rw [tr_smr (fun j hj => w2 j (by omega))]; omega
theorem nd_pr0 {k : Nat} (h : pr_lf k) : nd_pr k = 0 := by
  unfold pr_lf pr_vb pr_dig at h
  unfold nd_pr
  rw [if_neg (by omega)]
theorem rd_leaf1 {i N wc G adc : Nat} {K F S T C A D W B : Nat → Nat} {P : Nat → Bool} (k : Nat) (hk : pr_lf k) (h : rd_S i N wc G adc K F S T C A D W B P) :
    rd_S (i + 1) (N + 1) (wc + 1) G adc (tr_u K N k) (tr_u F N 0) (tr_u S N 0) (tr_u T N 0) (tr_u C N 1) (tr_u A N 0) (tr_u D N 1) (tr_u W wc N) B P := by
  obtain ⟨⟨w1, w2, w3, w4, w5⟩, g, a1, a2, a3⟩ := h
  refine ⟨rd_plain (tr_lf w1 k hk) (fun j hj => by have := w2 j hj; omega) (by omega) (by omega) ?_ ?_, rd_Gp g (by omega), by omega, by omega, by omega⟩
  · rw [tr_smn w2, tr_us]; omega
  · rw [tr_smn w2, tr_us]; omega
theorem rd_leaf2 {i N m G adc : Nat} {K F S T C A D W B : Nat → Nat} {P : Nat → Bool} (k : Nat) (hk : pr_lf k) (h : rd_S i N (m + 1) G adc K F S T C A D W B P) :
    ∃ C' A' D', rd_S (i + 1) (N + 2) (m + 1) G adc (tr_u (tr_u K N k) (N + 1) 64) (tr_u (tr_u F N 0) (N + 1) (W m)) (tr_u (tr_u S N 0) (N + 1) N) (tr_u (tr_u T N 0) (N + 1) 0) C' A' D' (tr_u W m (N + 1)) B (rd_pu P G false) := by
  obtain ⟨⟨w1, w2, w3, w4, w5⟩, g, a1, a2, a3⟩ := h
  have q := rd_atop (b := 2 * (i + 1)) (adc := adc) (p := N) (W := W) (tr_lf w1 k hk) (fun j hj => by have := w2 j hj; omega) (by omega) (by omega)
    (by rw [tr_smn w2, tr_us, tr_us, nd_pr0 hk]; omega) (by rw [tr_smn w2, tr_us]; omega)
  exact ⟨_, _, _, q, rd_Gat g false (fun h => by cases h), by omega, by omega, by omega⟩
/-! trains: e forks made, m words left -/
def rd_T (N0 wc lo m e sC sA N : Nat) (K F S T C A D W : Nat → Nat) (t : Nat) : Prop :=
  tr_ok N K F S T C A D ∧ (∀ j, j < m → W j < N) ∧ t < N ∧ N = N0 + e ∧ wc = m + 1 + 2 * e ∧ C t + tr_sm C W m = sC + 2 * e ∧ A t + tr_sm A W m = sA ∧ (0 < e → nd_pr (K t) = 0) ∧ lo ≤ m
theorem rd_T0 {N m lo : Nat} {K F S T C A D W : Nat → Nat} (h : tr_ok N K F S T C A D) (hw : ∀ j, j < m + 1 → W j < N) (hl : lo ≤ m) :
    rd_T N (m + 1) lo m 0 (tr_sm C W (m + 1)) (tr_sm A W (m + 1)) N K F S T C A D W (W m) :=
  ⟨h, fun j hj => hw j (by omega), hw m (by omega), rfl, rfl, by rw [tr_sm1]; omega, by rw [tr_sm1]; omega, fun z => absurd z (Nat.lt_irrefl 0), hl⟩
theorem rd_Tf {N0 wc lo m e sC sA N t : Nat} {K F S T C A D W : Nat → Nat} (h : rd_T N0 wc lo (m + 2) e sC sA N K F S T C A D W t) (hl : lo ≤ m) :
    rd_T N0 wc lo m (e + 1) sC sA (N + 1) (tr_u K N 1) (tr_u F N (W m)) (tr_u S N (W (m + 1))) (tr_u T N t)
      (tr_u C N (2 + C (W m) + C (W (m + 1)) + C t)) (tr_u A N (A (W m) + A (W (m + 1)) + A t)) (tr_u D N (4 + D t + D (W m) + D (W (m + 1)))) W N := by
  obtain ⟨h1, h2, h3, h4, h5, h6, h7, h8, h9⟩ := h
  rw [tr_sm1, tr_sm1] at h6 h7
  refine ⟨tr_fk h1 _ _ _ (h2 m (by omega)) (h2 (m + 1) (by omega)) h3, fun j hj => by have := h2 j (by omega); omega, by omega, by omega, by omega, ?_, ?_, fun _ => ?_, hl⟩
  · rw [tr_us, tr_smn fun j hj => h2 j (by omega)]; omega
  · rw [tr_us, tr_smn fun j hj => h2 j (by omega)]; omega
  · rw [tr_us]; rfl
/-- what a train gives: k words from lo on -/
def rd_R (N0 k lo sC sA N : Nat) (K F S T C A D W : Nat → Nat) (t : Nat) : Prop :=
  tr_ok N K F S T C A D ∧ (∀ j, j < lo → W j < N) ∧ t < N ∧ N = N0 + k / 2 ∧ C t + tr_sm C W lo = sC + 2 * (k / 2) ∧ A t + tr_sm A W lo = sA ∧ (2 ≤ k → nd_pr (K t) = 0)
theorem rd_Re {N0 wc lo e sC sA N t : Nat} {K F S T C A D W : Nat → Nat} (h : rd_T N0 wc lo lo e sC sA N K F S T C A D W t) : rd_R N0 (wc - lo) lo sC sA N K F S T C A D W t := by
  obtain ⟨h1, h2, h3, h4, h5, h6, h7, h8, h9⟩ := h
  have k : (wc - lo) / 2 = e := by omega
  refine ⟨h1, h2, h3, by rw [k]; exact h4, by rw [k]; exact h6, h7, fun z => h8 (by omega)⟩
theorem rd_Rh {N0 wc lo e sC sA N t : Nat} {K F S T C A D W : Nat → Nat} (h : rd_T N0 wc lo (lo + 1) e sC sA N K F S T C A D W t) :
    rd_R N0 (wc - lo) lo sC sA (N + 1) (tr_u K N 2) (tr_u F N (W lo)) (tr_u S N t) (tr_u T N 0)
      (tr_u C N (2 + C (W lo) + C t)) (tr_u A N (A (W lo) + A t)) (tr_u D N (3 + D t + D (W lo))) W N := by
  obtain ⟨h1, h2, h3, h4, h5, h6, h7, h8, h9⟩ := h
  have k : (wc - lo) / 2 = e + 1 := by omega
  rw [tr_sm1] at h6 h7
  refine ⟨tr_hk h1 _ _ (h2 lo (by omega)) h3, fun j hj => by have := h2 j (by omega); omega, by omega, by rw [k]; omega, ?_, ?_, fun _ => ?_⟩
  · rw [tr_us, tr_smn fun j hj => h2 j (by omega), k]; omega
  · rw [tr_us, tr_smn fun j hj => h2 j (by omega)]; omega
  · rw [tr_us]; rfl
theorem rd_Gc {wc G : Nat} {B : Nat → Nat} {P : Nat → Bool} (h : rd_G wc (G + 1) B P) : rd_G (B (G + 1)) G B P :=
  ⟨(h.2.2 G (by omega)).1, (h.2.2 G (by omega)).2, fun j hj => h.2.2 j (by omega)⟩
theorem rd_close1 {i N wc G adc N' t : Nat} {K F S T C A D W B K' F' S' T' C' A' D' : Nat → Nat} {P : Nat → Bool} (h : rd_S i N wc (G + 1) adc K F S T C A D W B P)
    (hl : B (G + 1) < wc) (r : rd_R N (wc - B (G + 1)) (B (G + 1)) (tr_sm C W wc) (tr_sm A W wc) N' K' F' S' T' C' A' D' W t) :
    rd_S (i + 1) N' (B (G + 1) + 1) G adc K' F' S' T' C' A' D' (tr_u W (B (G + 1)) t) B P := by
  obtain ⟨⟨w1, w2, w3, w4, w5⟩, g, a1, a2, a3⟩ := h
  obtain ⟨r1, r2, r3, r4, r5, r6, r7⟩ := r
  refine ⟨rd_plain r1 r2 r3 ?_ ?_ ?_, rd_Gp (rd_Gc g) (by omega), by omega, by omega, by omega⟩
  · omega
  · omega
  · omega
theorem rd_close2 {i N wc G adc N' t m : Nat} {K F S T C A D W B K' F' S' T' C' A' D' : Nat → Nat} {P : Nat → Bool} (h : rd_S i N wc (G + 1) adc K F S T C A D W B P)
    (hl : B (G + 1) < wc) (hm : B (G + 1) = m + 1) (r : rd_R N (wc - B (G + 1)) (B (G + 1)) (tr_sm C W wc) (tr_sm A W wc) N' K' F' S' T' C' A' D' W t) :
    ∃ C2 A2 D2, rd_S (i + 1) (N' + 1) (m + 1) G adc (tr_u K' N' 64) (tr_u F' N' (W m)) (tr_u S' N' t) (tr_u T' N' 0) C2 A2 D2 (tr_u W m N') B (rd_pu P G false) := by
  obtain ⟨⟨w1, w2, w3, w4, w5⟩, g, a1, a2, a3⟩ := h
  obtain ⟨r1, r2, r3, r4, r5, r6, r7⟩ := r
  have hp := nd_prle (K' t)
  have hk : nd_pr (K' t) + 2 * ((wc - B (G + 1)) / 2) ≤ (wc - B (G + 1)) + 1 := by
    by_cases z : 2 ≤ wc - B (G + 1)
    · rw [r7 z]; omega
    · omega
  rw [hm] at r2 r4 r5 r6 hk hl
  have q := rd_atop (b := 2 * (i + 1)) (adc := adc) r1 r2 r3 (by omega) (by omega) (by omega)
  have gc := rd_Gc g
  rw [hm] at gc
  exact ⟨_, _, _, q, rd_Gat gc false (fun h => by cases h), by omega, by omega, by omega⟩
end
section
/-! the canonical form's stack: a node, or a character -/
abbrev cn_I : Type := Bool × Nat
def cn_ex : cn_I → Int32
  | (true, n) => nI n
  | (false, c) => -nI c
def cn_ey : cn_I → Int32
  | (true, n) => nI n
  | (false, c) => -1 - nI c
def cn_w (C : Nat → Nat) : List cn_I → Nat
  | [] => 0
  | (true, n) :: r => 2 * C n + cn_w C r
  | (false, _) :: r => 1 + cn_w C r
def cn_c (C : Nat → Nat) : List cn_I → Nat
  | [] => 0
  | (true, n) :: r => C n + cn_c C r
  | (false, _) :: r => 1 + cn_c C r
def cn_ok (N : Nat) : List cn_I → Prop
  | [] => True
  | (true, n) :: r => n < N ∧ cn_ok N r
  | (false, c) :: r => 0 < c ∧ c < 128 ∧ cn_ok N r
def cn_S (e : cn_I → Int32) (a : Nat → Int32) : List cn_I → Prop
  | [] => True
  | it :: r => a r.length = e it ∧ cn_S e a r
theorem cn_k {e : cn_I → Int32} {a a' : Nat → Int32} : ∀ st : List cn_I, (∀ j, j < st.length → a' j = a j) → cn_S e a st → cn_S e a' st
  | [], _, _ => trivial
  | it :: r, h, k => ⟨(h r.length (Nat.lt_succ_self _)).trans k.1, cn_k r (fun j hj => h j (Nat.lt_succ_of_lt hj)) k.2⟩
theorem cn_push {e : cn_I → Int32} {a : Nat → Int32} {st : List cn_I} (it : cn_I) (h : cn_S e a st) : cn_S e (upd a st.length (e it)) (it :: st) :=
  ⟨pk_us, cn_k st (fun j hj => pk_un (by omega)) h⟩
theorem cn_len {C : Nat → Nat} {N : Nat} (hC : ∀ n, n < N → 1 ≤ C n) : ∀ st : List cn_I, cn_ok N st → st.length ≤ cn_w C st
  | [], _ => Nat.le_refl _
  | (true, n) :: r, h => by
    have h1 := cn_len hC r h.2
    have h2 := hC n h.1
    show r.length + 1 ≤ 2 * C n + cn_w C r
    omega
  | (false, c) :: r, h => by
    have h1 := cn_len hC r h.2.2
    show r.length + 1 ≤ 1 + cn_w C r
    omega
theorem cn_C1 {N : Nat} {K F S T C A D : Nat → Nat} (h : tr_ok N K F S T C A D) : ∀ n, n < N → 1 ≤ C n := by
  intro n hn
  rcases (h n hn).1 with ⟨-, e, -⟩ | ⟨-, -, e, -⟩ | ⟨-, -, -, e, -⟩ | ⟨-, -, -, -, e, -⟩ | ⟨-, -, -, e, -⟩ <;> omega
theorem cn_neg {c : Nat} (h0 : 0 < c) (h : c < 128) : -nI c < 0 := by
  rw [Int32.lt_iff_toInt_lt, Int32.toInt_neg, nI_toInt (by omega), Int.bmod_eq_of_le (by omega) (by omega), show (0 : Int32).toInt = 0 from by decide]
  omega
theorem cn_neg2 {c : Nat} (h : c < 128) : -1 - nI c < 0 := by
  rw [Int32.lt_iff_toInt_lt, Int32.toInt_sub, nI_toInt (by omega), show (-1 : Int32).toInt = -1 from by decide, Int.bmod_eq_of_le (by omega) (by omega), show (0 : Int32).toInt = 0 from by decide]
  omega
theorem cn_nn (c : Nat) : - -nI c = nI c := by
  rw [Int32.neg_neg]
theorem cn_n2 (c : Nat) : -1 - (-1 - nI c) = nI c := by
  generalize nI c = z
  grind
end
section
/-! both machines run in step to their end -/
def am_out {σ : Type} (FX : Nat → σ → Prop) (RX : List am_F → List Int32 → σ → Prop) (n : Nat) (d : Bool) (p : Nat) (x y : List Int32) (r : List am_F) (R : List Int32) (o : am_O) (u : σ) : Prop :=
  match o with
  | Sum.inl e => FX e u
  | Sum.inr (Sum.inl v) => RX r v u
  | Sum.inr (Sum.inr (w', n', d', x', y')) => RX ((n', d', 0, x', y', []) :: (n, d, p + 1, x, y, w') :: r) R u
def am_stp {σ π : Type} (lim : Nat) (N : Nat) (K F S T : Nat → Nat) (top : Nat) (FX : Nat → σ → Prop) (RX : List am_F → List Int32 → σ → Prop) (WX : π → Nat → Nat → σ → Prop) : Prop :=
  ∀ (n : Nat) (d : Bool) (p : Nat) (x y w : List Int32) (r : List am_F) (R : List Int32) (u : σ),
    am_ok N K ((n, d, p, x, y, w) :: r) → RX ((n, d, p, x, y, w) :: r) R u →
    ∀ (post : π) (k i : Nat), i < top → (∀ u', am_out FX RX n d p x y r R (am_act lim K F S T n d p x y w R) u' → WX post k (i + 1) u') → WX post (k + 1) i u
def am_fin {σ : Type} (FX : Nat → σ → Prop) (RX : List am_F → List Int32 → σ → Prop) (e : Nat) (R : List Int32) (u : σ) : Prop :=
  (e = 0 ∧ RX [] R u) ∨ (e ≠ 0 ∧ FX e u)
theorem am_run {σ τ π ρ : Type} {lim N : Nat} {K F S T C A D : Nat → Nat} (hT : tr_ok N K F S T C A D)
    {topX topY : Nat} {FX : Nat → σ → Prop} {RX : List am_F → List Int32 → σ → Prop} {WX : π → Nat → Nat → σ → Prop}
    {FY : Nat → τ → Prop} {RY : List am_F → List Int32 → τ → Prop} {WY : ρ → Nat → Nat → τ → Prop}
    (hX : am_stp lim N K F S T topX FX RX WX) (hY : am_stp lim N K F S T topY FY RY WY)
    (hl : lim ≤ 16) :
    ∀ (M : Nat) (fs : List am_F) (R : List Int32), am_M K F S T D fs ≤ M → am_ok N K fs → (am_rdy fs → R.length ≤ 16) →
      ∃ e R' q, q ≤ M ∧ e ≤ 3 ∧
        (∀ (u : σ), RX fs R u → ∀ (post : π) (k i : Nat), i + q ≤ topX → (∀ u', am_fin FX RX e R' u' → WX post k (i + q) u') → WX post (k + q) i u) ∧
        (∀ (v : τ), RY fs R v → ∀ (post : ρ) (k i : Nat), i + q ≤ topY → (∀ v', am_fin FY RY e R' v' → WY post k (i + q) v') → WY post (k + q) i v) := by
  intro M
  induction M with
  | zero =>
    intro fs R hM hok hR
    match fs, hM, hok, hR with
    | [], _, _, _ => exact ⟨0, R, 0, Nat.le_refl _, Nat.zero_le _, fun u hu _ _ _ _ h => h u (Or.inl ⟨rfl, hu⟩), fun v hv _ _ _ _ h => h v (Or.inl ⟨rfl, hv⟩)⟩
    | (n, d, p, x, y, w) :: r, hM, hok, _ =>
      have h1 := am_rem1 K F S T D n p hok.2.2.1.1
      have : am_rem K F S T D n p + am_M K F S T D r ≤ 0 := hM
      omega
  | succ M ih =>
    intro fs R hM hok hR
    match fs, hM, hok, hR with
    | [], _, _, _ => exact ⟨0, R, 0, Nat.zero_le _, Nat.zero_le _, fun u hu _ _ _ _ h => h u (Or.inl ⟨rfl, hu⟩), fun v hv _ _ _ _ h => h v (Or.inl ⟨rfl, hv⟩)⟩
    | (n, d, p, x, y, w) :: r, hM, hok, hR =>
      have h1 := am_rem1 K F S T D n p hok.2.2.1.1
      have hM' : am_rem K F S T D n p + am_M K F S T D r ≤ M + 1 := hM
      have gu := fun u hu => hX n d p x y w r R u hok hu
      have gv := fun v hv => hY n d p x y w r R v hok hv
      have hf := am_f (lim := lim) (K := K) (F := F) (S := S) (T := T) (n := n) (d := d) (p := p) (x := x) (y := y) (w := w) (R := R)
      have hq := am_q (lim := lim) (K := K) (F := F) (S := S) (T := T) (n := n) (d := d) (p := p) (x := x) (y := y) (w := w) (R := R) hl hok.2.2.1 hR
      have hp : ∀ w' n' d' x' y', am_act lim K F S T n d p x y w R = am_push w' n' d' x' y' → am_pr K F S T D n d p x y w' n' d' x' y' :=
        fun w' n' d' x' y' e => am_p (hT n hok.1).1 hok.2.2.1 hR e
      generalize am_act lim K F S T n d p x y w R = o at gu gv hf hp hq
      have step : ∀ (fs' : List am_F) (R1 : List Int32), am_M K F S T D fs' ≤ M → am_ok N K fs' → (am_rdy fs' → R1.length ≤ 16) →
          (∀ u', am_out FX RX n d p x y r R o u' → RX fs' R1 u') → (∀ v', am_out FY RY n d p x y r R o v' → RY fs' R1 v') →
          ∃ e R' q, q ≤ M + 1 ∧ e ≤ 3 ∧
            (∀ (u : σ), RX ((n, d, p, x, y, w) :: r) R u → ∀ (post : π) (k i : Nat), i + q ≤ topX → (∀ u', am_fin FX RX e R' u' → WX post k (i + q) u') → WX post (k + q) i u) ∧
            (∀ (v : τ), RY ((n, d, p, x, y, w) :: r) R v → ∀ (post : ρ) (k i : Nat), i + q ≤ topY → (∀ v', am_fin FY RY e R' v' → WY post k (i + q) v') → WY post (k + q) i v) := by
        intro fs' R1 a1 a2 a3 a4 a5
        obtain ⟨e, R', q, hq, he, hx, hy⟩ := ih fs' R1 a1 a2 a3
        refine ⟨e, R', q + 1, by omega, he, fun u hu post k i hi h => ?_, fun v hv post k i hi h => ?_⟩
        · refine gu u hu post (k + q) i (by omega) fun u' ho => hx u' (a4 u' ho) post k (i + 1) (by omega) fun u2 h2 => ?_
          rw [Nat.add_assoc, Nat.add_comm 1 q]
          exact h u2 h2
        · refine gv v hv post (k + q) i (by omega) fun v' ho => hy v' (a5 v' ho) post k (i + 1) (by omega) fun v2 h2 => ?_
          rw [Nat.add_assoc, Nat.add_comm 1 q]
          exact h v2 h2
      match o, gu, gv, hf, hp, hq, step with
      | Sum.inl e, gu, gv, hf, _, _, _ =>
        obtain ⟨f1, f2⟩ := hf e rfl
        exact ⟨e, [], 1, by omega, f2, fun u hu post k i hi h => gu u hu post k i (by omega) fun u' ho => h u' (Or.inr ⟨f1, ho⟩),
          fun v hv post k i hi h => gv v hv post k i (by omega) fun v' ho => h v' (Or.inr ⟨f1, ho⟩)⟩
      | Sum.inr (Sum.inl z), _, _, _, _, hq, step =>
        exact step r z (by omega) hok.2.2.2 (fun _ => hq z rfl) (fun _ h => h) (fun _ h => h)
      | Sum.inr (Sum.inr (w', n', d', x', y')), _, _, _, hp, _, step =>
        obtain ⟨q1, q2, q3, q4⟩ := hp w' n' d' x' y' rfl
        have q5 := am_pl K F S T C A D (hT n' (by have := hok.1; omega)).1
        refine step ((n', d', 0, x', y', []) :: (n, d, p + 1, x, y, w') :: r) R ?_ ⟨?_, ?_, q2, hok.1, hok.2.1, q3, hok.2.2.2⟩ (fun z => absurd z (Nat.lt_irrefl 0)) (fun _ h => h) (fun _ h => h)
        · show am_rem K F S T D n' 0 + (am_rem K F S T D n (p + 1) + am_M K F S T D r) ≤ M
          rw [← q5]; omega
        · have := hok.1; omega
        · have := hok.2.1
          show n' + (r.length + 1) < 63
          omega
end
section
/-! the component's vectors -/
theorem xv_append {f_vectorLimit f_textCount f_trainHeld f_rootNode f_nodeCount f_wordCount f_groupFirst f_atopWaiting f_groupCount f_adverbCount f_canonCount f_postponedCount f_frameCount f_failure f_lastStatus : Int32} {a_text a_nodeKind a_nodeFirst a_nodeSecond a_nodeThird a_words a_outerFirst a_outerAtop a_canon a_postponed a_cells a_lengths a_frameNode a_frameDyadic a_frameX a_frameY a_framePhase : Nat → Int32} {post : SX → Prop} {s n : Nat} {v : Int32} (hs : s < 196) (hn : n < 16) (hl : a_lengths s = nI n)
    (h : post (f_vectorLimit, f_textCount, f_trainHeld, f_rootNode, f_nodeCount, f_wordCount, f_groupFirst, f_atopWaiting, f_groupCount, f_adverbCount, f_canonCount, f_postponedCount, f_frameCount, f_failure, f_lastStatus, a_text, a_nodeKind, a_nodeFirst, a_nodeSecond, a_nodeThird, a_words, a_outerFirst, a_outerAtop, a_canon, a_postponed, upd a_cells (16 * s + n) v, upd a_lengths s (nI (n + 1)), a_frameNode, a_frameDyadic, a_frameX, a_frameY, a_framePhase)) : wpX_append post (f_vectorLimit, f_textCount, f_trainHeld, f_rootNode, f_nodeCount, f_wordCount, f_groupFirst, f_atopWaiting, f_groupCount, f_adverbCount, f_canonCount, f_postponedCount, f_frameCount, f_failure, f_lastStatus, a_text, a_nodeKind, a_nodeFirst, a_nodeSecond, a_nodeThird, a_words, a_outerFirst, a_outerAtop, a_canon, a_postponed, a_cells, a_lengths, a_frameNode, a_frameDyadic, a_frameX, a_frameY, a_framePhase) (nI s) v := by
  have e1 : (nI s).toNatClampNeg = s := nI_clamp (by omega)
  have e2 : (nI (16 * s + n)).toNatClampNeg = 16 * s + n := nI_clamp (by omega)
  have i1 : vp_in (nI s) 196 := vp_in_nI hs (by omega)
  have i2 : vp_in (nI (16 * s + n)) 3136 := vp_in_nI (by omega) (by omega)
  simp only [wpX_append, e1, hl, ax_mul, e2, nI_1, forall_eq]
  exact ⟨i1, i2, i1, i1, h⟩
theorem xv_appEl {f_vectorLimit f_textCount f_trainHeld f_rootNode f_nodeCount f_wordCount f_groupFirst f_atopWaiting f_groupCount f_adverbCount f_canonCount f_postponedCount f_frameCount f_failure f_lastStatus : Int32} {a_text a_nodeKind a_nodeFirst a_nodeSecond a_nodeThird a_words a_outerFirst a_outerAtop a_canon a_postponed a_cells a_lengths a_frameNode a_frameDyadic a_frameX a_frameY a_framePhase : Nat → Int32} {post : SX → Prop} {q i s n : Nat} (hq : q < 196) (hi : i < 16) (hs : s < 196) (hn : n < 16) (hl : a_lengths s = nI n)
    (h : post (f_vectorLimit, f_textCount, f_trainHeld, f_rootNode, f_nodeCount, f_wordCount, f_groupFirst, f_atopWaiting, f_groupCount, f_adverbCount, f_canonCount, f_postponedCount, f_frameCount, f_failure, f_lastStatus, a_text, a_nodeKind, a_nodeFirst, a_nodeSecond, a_nodeThird, a_words, a_outerFirst, a_outerAtop, a_canon, a_postponed, upd a_cells (16 * s + n) (a_cells (16 * q + i)), upd a_lengths s (nI (n + 1)), a_frameNode, a_frameDyadic, a_frameX, a_frameY, a_framePhase)) : wpX_appendElement post (f_vectorLimit, f_textCount, f_trainHeld, f_rootNode, f_nodeCount, f_wordCount, f_groupFirst, f_atopWaiting, f_groupCount, f_adverbCount, f_canonCount, f_postponedCount, f_frameCount, f_failure, f_lastStatus, a_text, a_nodeKind, a_nodeFirst, a_nodeSecond, a_nodeThird, a_words, a_outerFirst, a_outerAtop, a_canon, a_postponed, a_cells, a_lengths, a_frameNode, a_frameDyadic, a_frameX, a_frameY, a_framePhase) (nI q) (nI i) (nI s) := by
  have e1 : (nI s).toNatClampNeg = s := nI_clamp (by omega)
  have e2 : (nI (16 * s + n)).toNatClampNeg = 16 * s + n := nI_clamp (by omega)
  have e3 : (nI (16 * q + i)).toNatClampNeg = 16 * q + i := nI_clamp (by omega)
  have i1 : vp_in (nI s) 196 := vp_in_nI hs (by omega)
  have i2 : vp_in (nI (16 * s + n)) 3136 := vp_in_nI (by omega) (by omega)
  have i3 : vp_in (nI (16 * q + i)) 3136 := vp_in_nI (by omega) (by omega)
  simp only [wpX_appendElement, e1, hl, ax_mul, e2, e3, nI_1, forall_eq]
  exact ⟨i1, i3, i2, i1, i1, h⟩
/-- an element goes to a slot's end -/
theorem xv_el {f_vectorLimit f_textCount f_trainHeld f_rootNode f_nodeCount f_wordCount f_groupFirst f_atopWaiting f_groupCount f_adverbCount f_canonCount f_postponedCount f_frameCount f_failure f_lastStatus : Int32} {a_text a_nodeKind a_nodeFirst a_nodeSecond a_nodeThird a_words a_outerFirst a_outerAtop a_canon a_postponed a_cells a_lengths a_frameNode a_frameDyadic a_frameX a_frameY a_framePhase : Nat → Int32} {post : SX → Prop} {q i s : Nat} {xs zs : List Int32} (hq : q < 196) (hs : s < 196)
    (hx : ve_L a_cells a_lengths q xs) (hi : i < xs.length) (hz : ve_L a_cells a_lengths s zs) (hn : zs.length < 16)
    (h : ∀ c l, ve_F (fun t => t = s) a_cells a_lengths c l → ve_L c l s (zs ++ [xs.getD i 0]) → post (f_vectorLimit, f_textCount, f_trainHeld, f_rootNode, f_nodeCount, f_wordCount, f_groupFirst, f_atopWaiting, f_groupCount, f_adverbCount, f_canonCount, f_postponedCount, f_frameCount, f_failure, f_lastStatus, a_text, a_nodeKind, a_nodeFirst, a_nodeSecond, a_nodeThird, a_words, a_outerFirst, a_outerAtop, a_canon, a_postponed, c, l, a_frameNode, a_frameDyadic, a_frameX, a_frameY, a_framePhase)) :
    wpX_appendElement post (f_vectorLimit, f_textCount, f_trainHeld, f_rootNode, f_nodeCount, f_wordCount, f_groupFirst, f_atopWaiting, f_groupCount, f_adverbCount, f_canonCount, f_postponedCount, f_frameCount, f_failure, f_lastStatus, a_text, a_nodeKind, a_nodeFirst, a_nodeSecond, a_nodeThird, a_words, a_outerFirst, a_outerAtop, a_canon, a_postponed, a_cells, a_lengths, a_frameNode, a_frameDyadic, a_frameX, a_frameY, a_framePhase) (nI q) (nI i) (nI s) := by
  refine xv_appEl hq (by have := hx.1; omega) hs hn hz.2.1 (h _ _ (ve_Fu hn) ?_)
  rw [hx.2.2 i hi]
  exact ve_app _ hz hn
theorem xv_ap {f_vectorLimit f_textCount f_trainHeld f_rootNode f_nodeCount f_wordCount f_groupFirst f_atopWaiting f_groupCount f_adverbCount f_canonCount f_postponedCount f_frameCount f_failure f_lastStatus : Int32} {a_text a_nodeKind a_nodeFirst a_nodeSecond a_nodeThird a_words a_outerFirst a_outerAtop a_canon a_postponed a_cells a_lengths a_frameNode a_frameDyadic a_frameX a_frameY a_framePhase : Nat → Int32} {post : SX → Prop} {s : Nat} {zs : List Int32} {v : Int32} (hs : s < 196)
    (hz : ve_L a_cells a_lengths s zs) (hn : zs.length < 16)
    (h : ∀ c l, ve_F (fun t => t = s) a_cells a_lengths c l → ve_L c l s (zs ++ [v]) → post (f_vectorLimit, f_textCount, f_trainHeld, f_rootNode, f_nodeCount, f_wordCount, f_groupFirst, f_atopWaiting, f_groupCount, f_adverbCount, f_canonCount, f_postponedCount, f_frameCount, f_failure, f_lastStatus, a_text, a_nodeKind, a_nodeFirst, a_nodeSecond, a_nodeThird, a_words, a_outerFirst, a_outerAtop, a_canon, a_postponed, c, l, a_frameNode, a_frameDyadic, a_frameX, a_frameY, a_framePhase)) :
    wpX_append post (f_vectorLimit, f_textCount, f_trainHeld, f_rootNode, f_nodeCount, f_wordCount, f_groupFirst, f_atopWaiting, f_groupCount, f_adverbCount, f_canonCount, f_postponedCount, f_frameCount, f_failure, f_lastStatus, a_text, a_nodeKind, a_nodeFirst, a_nodeSecond, a_nodeThird, a_words, a_outerFirst, a_outerAtop, a_canon, a_postponed, a_cells, a_lengths, a_frameNode, a_frameDyadic, a_frameX, a_frameY, a_framePhase) (nI s) v :=
  xv_append hs hn hz.2.1 (h _ _ (ve_Fu hn) (ve_app _ hz hn))
theorem xv_vecL {f_vectorLimit f_textCount f_trainHeld f_rootNode f_nodeCount f_wordCount f_groupFirst f_atopWaiting f_groupCount f_adverbCount f_canonCount f_postponedCount f_frameCount f_failure f_lastStatus : Int32} {a_text a_nodeKind a_nodeFirst a_nodeSecond a_nodeThird a_words a_outerFirst a_outerAtop a_canon a_postponed a_cells a_lengths a_frameNode a_frameDyadic a_frameX a_frameY a_framePhase : Nat → Int32} {post : SX → Prop} {q s : Nat} {xs zs : List Int32} (hq : q < 196) (hs : s < 196) (hqs : q ≠ s) (hlen : zs.length + xs.length ≤ 16)
    (h : ∀ c l, ve_F (fun t => t = s) a_cells a_lengths c l → ve_L c l s (zs ++ xs) → post (f_vectorLimit, f_textCount, f_trainHeld, f_rootNode, f_nodeCount, f_wordCount, f_groupFirst, f_atopWaiting, f_groupCount, f_adverbCount, f_canonCount, f_postponedCount, f_frameCount, f_failure, f_lastStatus, a_text, a_nodeKind, a_nodeFirst, a_nodeSecond, a_nodeThird, a_words, a_outerFirst, a_outerAtop, a_canon, a_postponed, c, l, a_frameNode, a_frameDyadic, a_frameX, a_frameY, a_framePhase)) :
    ∀ (d i : Nat) (c l : Nat → Int32), i + d = xs.length → ve_F (fun t => t = s) a_cells a_lengths c l → ve_L c l q xs → ve_L c l s (zs ++ (List.range i).map (fun j => xs.getD j 0)) →
    ∀ n, d < n → wX_appendVector_10 post (nI q) (nI s) (nI xs.length) f_vectorLimit f_textCount f_trainHeld f_rootNode f_nodeCount f_wordCount f_groupFirst f_atopWaiting f_groupCount f_adverbCount f_canonCount f_postponedCount f_frameCount f_failure f_lastStatus n (nI i) a_text a_nodeKind a_nodeFirst a_nodeSecond a_nodeThird a_words a_outerFirst a_outerAtop a_canon a_postponed c l a_frameNode a_frameDyadic a_frameX a_frameY a_framePhase := by
  intro d
  induction d with
  | zero =>
    intro i c l hi hF hx hz n hn
    obtain ⟨n, rfl⟩ : ∃ k, n = k + 1 := ⟨n - 1, by omega⟩
    refine br_t (nI_le (by omega) (by omega)) ?_
    have e : i = xs.length := by omega
    rw [e, ve_self] at hz
    exact h c l hF hz
  | succ d ih =>
    intro i c l hi hF hx hz n hn
    obtain ⟨n, rfl⟩ : ∃ k, n = k + 1 := ⟨n - 1, by omega⟩
    refine br_f (nI_ge (by omega) (by omega)) ?_
    have zl : (zs ++ (List.range i).map (fun j => xs.getD j 0)).length = zs.length + i := by rw [List.length_append, ve_ml]
    have hl := hz.2.1
    rw [zl] at hl
    have e1 : (nI s).toNatClampNeg = s := nI_clamp (by omega)
    have e2 : (nI (16 * s + (zs.length + i))).toNatClampNeg = 16 * s + (zs.length + i) := nI_clamp (by omega)
    have e3 : (nI (16 * q + i)).toNatClampNeg = 16 * q + i := nI_clamp (by omega)
    have i1 : vp_in (nI s) 196 := vp_in_nI hs (by omega)
    have i2 : vp_in (nI (16 * s + (zs.length + i))) 3136 := vp_in_nI (by omega) (by omega)
    have i3 : vp_in (nI (16 * q + i)) 3136 := vp_in_nI (by omega) (by omega)
    have hxi := hx.2.2 i (by omega)
    simp only [e1, hl, ax_mul, e2, e3, nI_1, forall_eq, hxi]
    refine ⟨i1, i3, i2, i1, i1, ih (i + 1) _ _ (by omega) (ve_Ft hF (ve_Fu (by omega))) (ve_o (ve_Fu (by omega)) hqs hx) ?_ n (by omega)⟩
    have g := ve_app (xs.getD i 0) hz (by rw [zl]; omega)
    rw [zl, List.append_assoc, ← ve_rs (fun j => xs.getD j 0)] at g
    exact g
theorem xv_vec {f_vectorLimit f_textCount f_trainHeld f_rootNode f_nodeCount f_wordCount f_groupFirst f_atopWaiting f_groupCount f_adverbCount f_canonCount f_postponedCount f_frameCount f_failure f_lastStatus : Int32} {a_text a_nodeKind a_nodeFirst a_nodeSecond a_nodeThird a_words a_outerFirst a_outerAtop a_canon a_postponed a_cells a_lengths a_frameNode a_frameDyadic a_frameX a_frameY a_framePhase : Nat → Int32} {post : SX → Prop} {q s : Nat} {xs zs : List Int32} (hq : q < 196) (hs : s < 196) (hqs : q ≠ s) (hx : ve_L a_cells a_lengths q xs) (hz : ve_L a_cells a_lengths s zs) (hlen : zs.length + xs.length ≤ 16)
    (h : ∀ c l, ve_F (fun t => t = s) a_cells a_lengths c l → ve_L c l s (zs ++ xs) → post (f_vectorLimit, f_textCount, f_trainHeld, f_rootNode, f_nodeCount, f_wordCount, f_groupFirst, f_atopWaiting, f_groupCount, f_adverbCount, f_canonCount, f_postponedCount, f_frameCount, f_failure, f_lastStatus, a_text, a_nodeKind, a_nodeFirst, a_nodeSecond, a_nodeThird, a_words, a_outerFirst, a_outerAtop, a_canon, a_postponed, c, l, a_frameNode, a_frameDyadic, a_frameX, a_frameY, a_framePhase)) :
    wpX_appendVector post (f_vectorLimit, f_textCount, f_trainHeld, f_rootNode, f_nodeCount, f_wordCount, f_groupFirst, f_atopWaiting, f_groupCount, f_adverbCount, f_canonCount, f_postponedCount, f_frameCount, f_failure, f_lastStatus, a_text, a_nodeKind, a_nodeFirst, a_nodeSecond, a_nodeThird, a_words, a_outerFirst, a_outerAtop, a_canon, a_postponed, a_cells, a_lengths, a_frameNode, a_frameDyadic, a_frameX, a_frameY, a_framePhase) (nI q) (nI s) := by
  have e1 : (nI q).toNatClampNeg = q := nI_clamp (by omega)
  refine ⟨vp_in_nI hq (by omega), nm_r (e' := nI xs.length) (by rw [e1]; exact hx.2.1) ⟨xs.length + 1, ?_⟩⟩
  refine xv_vecL hq hs hqs hlen h xs.length 0 a_cells a_lengths (by omega) (ve_Fr _ _ _) hx ?_ _ (by omega)
  have : zs ++ (List.range 0).map (fun j => xs.getD j 0) = zs := by simp
  rw [this]
  exact hz
theorem xv_copy {f_vectorLimit f_textCount f_trainHeld f_rootNode f_nodeCount f_wordCount f_groupFirst f_atopWaiting f_groupCount f_adverbCount f_canonCount f_postponedCount f_frameCount f_failure f_lastStatus : Int32} {a_text a_nodeKind a_nodeFirst a_nodeSecond a_nodeThird a_words a_outerFirst a_outerAtop a_canon a_postponed a_cells a_lengths a_frameNode a_frameDyadic a_frameX a_frameY a_framePhase : Nat → Int32} {post : SX → Prop} {q s : Nat} {xs : List Int32} (hq : q < 196) (hs : s < 196) (hqs : q ≠ s) (hx : ve_L a_cells a_lengths q xs)
    (h : ∀ c l, ve_F (fun t => t = s) a_cells a_lengths c l → ve_L c l s xs → post (f_vectorLimit, f_textCount, f_trainHeld, f_rootNode, f_nodeCount, f_wordCount, f_groupFirst, f_atopWaiting, f_groupCount, f_adverbCount, f_canonCount, f_postponedCount, f_frameCount, f_failure, f_lastStatus, a_text, a_nodeKind, a_nodeFirst, a_nodeSecond, a_nodeThird, a_words, a_outerFirst, a_outerAtop, a_canon, a_postponed, c, l, a_frameNode, a_frameDyadic, a_frameX, a_frameY, a_framePhase)) :
    wpX_copyVector post (f_vectorLimit, f_textCount, f_trainHeld, f_rootNode, f_nodeCount, f_wordCount, f_groupFirst, f_atopWaiting, f_groupCount, f_adverbCount, f_canonCount, f_postponedCount, f_frameCount, f_failure, f_lastStatus, a_text, a_nodeKind, a_nodeFirst, a_nodeSecond, a_nodeThird, a_words, a_outerFirst, a_outerAtop, a_canon, a_postponed, a_cells, a_lengths, a_frameNode, a_frameDyadic, a_frameX, a_frameY, a_framePhase) (nI q) (nI s) := by
  have e1 : (nI s).toNatClampNeg = s := nI_clamp (by omega)
  refine ⟨vp_in_nI hs (by omega), nm_r (e' := upd a_lengths s 0) (by rw [e1]) ?_⟩
  refine xv_vec hq hs hqs (zs := []) (ve_o ve_Fl hqs hx) ve_nil (by have := hx.1; simpa using this) fun c l hF hL => ?_
  exact h c l (ve_Ft ve_Fl hF) hL
end
section
/-! the component's primitives -/
def xq_c : Option Nat → Int32
  | some n => nI n
  | none => -1
def vd_R (g : Nat) (o : Nat × List Int32) (c l c' l' : Nat → Int32) : Prop := ve_F (fun t => t = g) c l c' l' ∧ (o.1 = 0 → ve_L c' l' g o.2)
theorem ax_mulz (s : Nat) : nI s * 16 + 0 = nI (16 * s) := by
  rw [Int32.add_zero, ax_mul0]
theorem xq_br {post : Int32 → Prop} {n m : Nat} (hn : n ≤ 16) (hm : m ≤ 16) (h : post (xq_c (pr_cnt n m))) :
    ((nI n = nI m → post (nI m)) ∧ (¬ nI n = nI m → ((nI n = 1 → post (nI m)) ∧ (¬ nI n = 1 → ((nI m = 1 → post (nI n)) ∧ (¬ nI m = 1 → post (-1))))))) := by
  unfold pr_cnt at h
  refine pk_eq n m (fun e => ?_) (fun e => pk_eq n 1 (fun e1 => ?_) (fun e1 => pk_eq m 1 (fun e2 => ?_) (fun e2 => ?_)))
  · rw [if_pos (Or.inl e)] at h; exact h
  · rw [if_pos (Or.inr e1)] at h; exact h
  · rw [if_neg (by omega), if_pos e2] at h; exact h
  · rw [if_neg (by omega), if_neg e2] at h; exact h
theorem xv_pc {f_vectorLimit f_textCount f_trainHeld f_rootNode f_nodeCount f_wordCount f_groupFirst f_atopWaiting f_groupCount f_adverbCount f_canonCount f_postponedCount f_frameCount f_failure f_lastStatus : Int32} {a_text a_nodeKind a_nodeFirst a_nodeSecond a_nodeThird a_words a_outerFirst a_outerAtop a_canon a_postponed a_cells a_lengths a_frameNode a_frameDyadic a_frameX a_frameY a_framePhase : Nat → Int32} {post : Int32 → Prop} {q s : Nat} {xs ys : List Int32} (hq : q < 196) (hs : s < 196)
    (hx : ve_L a_cells a_lengths q xs) (hy : ve_L a_cells a_lengths s ys) (h : post (xq_c (pr_cnt xs.length ys.length))) :
    wpX_pairCount post (f_vectorLimit, f_textCount, f_trainHeld, f_rootNode, f_nodeCount, f_wordCount, f_groupFirst, f_atopWaiting, f_groupCount, f_adverbCount, f_canonCount, f_postponedCount, f_frameCount, f_failure, f_lastStatus, a_text, a_nodeKind, a_nodeFirst, a_nodeSecond, a_nodeThird, a_words, a_outerFirst, a_outerAtop, a_canon, a_postponed, a_cells, a_lengths, a_frameNode, a_frameDyadic, a_frameX, a_frameY, a_framePhase) (nI q) (nI s) := by
  have e1 : (nI q).toNatClampNeg = q := nI_clamp (by omega)
  have e2 : (nI s).toNatClampNeg = s := nI_clamp (by omega)
  refine ⟨vp_in_nI hq (by omega), nm_r (e' := nI xs.length) (by rw [e1]; exact hx.2.1) ⟨vp_in_nI hs (by omega), nm_r (e' := nI ys.length) (by rw [e2]; exact hy.2.1) ?_⟩⟩
  exact xq_br hx.1 hy.1 h
theorem xv_pe {f_vectorLimit f_textCount f_trainHeld f_rootNode f_nodeCount f_wordCount f_groupFirst f_atopWaiting f_groupCount f_adverbCount f_canonCount f_postponedCount f_frameCount f_failure f_lastStatus : Int32} {a_text a_nodeKind a_nodeFirst a_nodeSecond a_nodeThird a_words a_outerFirst a_outerAtop a_canon a_postponed a_cells a_lengths a_frameNode a_frameDyadic a_frameX a_frameY a_framePhase : Nat → Int32} {post : Int32 → Prop} {s i : Nat} {xs : List Int32} (hs : s < 196) (hi : i < 16)
    (hx : ve_L a_cells a_lengths s xs) (hl : xs.length ≠ 1 → i < xs.length) (h : post (pr_el xs i)) :
    wpX_pairElement post (f_vectorLimit, f_textCount, f_trainHeld, f_rootNode, f_nodeCount, f_wordCount, f_groupFirst, f_atopWaiting, f_groupCount, f_adverbCount, f_canonCount, f_postponedCount, f_frameCount, f_failure, f_lastStatus, a_text, a_nodeKind, a_nodeFirst, a_nodeSecond, a_nodeThird, a_words, a_outerFirst, a_outerAtop, a_canon, a_postponed, a_cells, a_lengths, a_frameNode, a_frameDyadic, a_frameX, a_frameY, a_framePhase) (nI s) (nI i) := by
  have e1 : (nI s).toNatClampNeg = s := nI_clamp (by omega)
  have e2 : (nI (16 * s)).toNatClampNeg = 16 * s := nI_clamp (by omega)
  have e3 : (nI (16 * s + i)).toNatClampNeg = 16 * s + i := nI_clamp (by omega)
  unfold pr_el at h
  simp only [wpX_pairElement, e1, hx.2.1, ax_mul, ax_mulz, e2, e3]
  refine ⟨vp_in_nI hs (by omega), pk_eq xs.length 1 (fun e => ⟨vp_in_nI (by omega) (by omega), ?_⟩) (fun e => ⟨vp_in_nI (by omega) (by omega), ?_⟩) rfl rfl (by have := hx.1; omega)⟩
  · rw [if_pos e] at h
    have := hx.2.2 0 (by omega)
    rw [Nat.add_zero] at this
    rw [this]; exact h
  · rw [if_neg e] at h
    rw [hx.2.2 i (hl e)]; exact h
theorem xv_m1 {post : Int32 → Prop} {k : Nat} {v : Int32} (hk : k < 128) (h : post (pr_m1 k v)) : wpX_mapOne post (nI k) v := by
  unfold pr_m1 at h
  refine pk_eq k 42 (fun e => ?_) (fun e => pk_eq k 43 (fun e1 => ?_) (fun e1 => pk_eq k 45 (fun e2 => ?_) (fun e2 => pk_eq k 60 (fun e3 => ?_) (fun e3 => ?_))))
  · rw [if_neg (by omega), if_neg (by omega), if_pos e] at h
    refine br_c (fun h0 => br_c (fun h1 => ?_) (fun h1 => ?_)) (fun h0 => ?_)
    · rw [if_neg (Int32.not_lt.mpr h0), if_neg (Int32.not_lt.mpr h1)] at h; exact h
    · rw [if_neg (Int32.not_lt.mpr h0), if_pos (Int32.not_le.mp h1)] at h; exact h
    · rw [if_pos (Int32.not_le.mp h0)] at h; exact h
  · rw [if_pos e1] at h; exact h
  · rw [if_neg e1, if_pos e2] at h; exact h
  · rw [if_neg e1, if_neg e2, if_neg e, if_pos e3] at h; exact h
  · rw [if_neg e1, if_neg e2, if_neg e, if_neg e3] at h; exact h
theorem xv_m2 {post : Int32 → Prop} {k : Nat} {a b : Int32} (hk : k < 128) (h : post (pr_m2 k a b)) : wpX_mapPair post (nI k) a b := by
  unfold pr_m2 at h
  refine pk_eq k 42 (fun e => ?_) (fun e => pk_eq k 43 (fun e1 => ?_) (fun e1 => pk_eq k 45 (fun e2 => ?_) (fun e2 => pk_eq k 60 (fun e3 => ?_) (fun e3 => ?_))))
  · rw [if_neg (by omega), if_neg (by omega), if_pos e] at h; exact h
  · rw [if_pos e1] at h; exact h
  · rw [if_neg e1, if_pos e2] at h; exact h
  · rw [if_neg e1, if_neg e2, if_neg e, if_pos e3] at h
    refine br_c (fun h0 => ?_) (fun h0 => ?_)
    · rw [if_neg (Int32.not_lt.mpr h0)] at h; exact h
    · rw [if_pos (Int32.not_le.mp h0)] at h; exact h
  · rw [if_neg e1, if_neg e2, if_neg e, if_neg e3] at h
    refine br_c (fun h0 => ?_) (fun h0 => ?_)
    · rw [if_neg (Int32.not_lt.mpr h0)] at h; exact h
    · rw [if_pos (Int32.not_le.mp h0)] at h; exact h
theorem xp_revL {f_vectorLimit f_textCount f_trainHeld f_rootNode f_nodeCount f_wordCount f_groupFirst f_atopWaiting f_groupCount f_adverbCount f_canonCount f_postponedCount f_frameCount f_failure f_lastStatus : Int32} {a_text a_nodeKind a_nodeFirst a_nodeSecond a_nodeThird a_words a_outerFirst a_outerAtop a_canon a_postponed a_cells a_lengths a_frameNode a_frameDyadic a_frameX a_frameY a_framePhase : Nat → Int32} {post : SX → Prop} {s : Nat} {ys : List Int32} (hs : s < 196) (hs3 : s ≠ 3)
    (h : ∀ c l, ve_F (fun t => t = 3) a_cells a_lengths c l → ve_L c l 3 ((List.range ys.length).map (fun i => ys.getD (ys.length - 1 - i) 0)) → post (f_vectorLimit, f_textCount, f_trainHeld, f_rootNode, f_nodeCount, f_wordCount, f_groupFirst, f_atopWaiting, f_groupCount, f_adverbCount, f_canonCount, f_postponedCount, f_frameCount, f_failure, f_lastStatus, a_text, a_nodeKind, a_nodeFirst, a_nodeSecond, a_nodeThird, a_words, a_outerFirst, a_outerAtop, a_canon, a_postponed, c, l, a_frameNode, a_frameDyadic, a_frameX, a_frameY, a_framePhase)) :
    ∀ (r : Nat) (c l : Nat → Int32), r ≤ ys.length → ve_F (fun t => t = 3) a_cells a_lengths c l → ve_L c l s ys → ve_L c l 3 ((List.range (ys.length - r)).map (fun i => ys.getD (ys.length - 1 - i) 0)) →
    ∀ n, r < n → wX_reverse_9 post (nI s) n (nI r + (-1)) f_vectorLimit f_textCount f_trainHeld f_rootNode f_nodeCount f_wordCount f_groupFirst f_atopWaiting f_groupCount f_adverbCount f_canonCount f_postponedCount f_frameCount f_failure f_lastStatus a_text a_nodeKind a_nodeFirst a_nodeSecond a_nodeThird a_words a_outerFirst a_outerAtop a_canon a_postponed c l a_frameNode a_frameDyadic a_frameX a_frameY a_framePhase := by
  intro r
  induction r with
  | zero =>
    intro c l hr hF hx hz n hn
    obtain ⟨n, rfl⟩ : ∃ k, n = k + 1 := ⟨n - 1, by omega⟩
    exact br_t (by decide) (h c l hF hz)
  | succ r ih =>
    intro c l hr hF hx hz n hn
    obtain ⟨n, rfl⟩ : ∃ k, n = k + 1 := ⟨n - 1, by omega⟩
    rw [pk_m1]
    have y16 := hx.1
    refine br_f (nI_pos (by omega)) ?_
    refine xv_el (q := s) (i := r) (s := 3) hs (by omega) hx (by omega) hz (by rw [ve_ml]; omega) fun c' l' hF' hL => nm_e ?_
    refine ih c' l' (by omega) (ve_Ft hF hF') (ve_o hF' hs3 hx) ?_ n (by omega)
    have e : ys.length - r = (ys.length - (r + 1)) + 1 := by omega
    have e2 : ys.length - 1 - (ys.length - (r + 1)) = r := by omega
    rw [e, ve_rs, e2]
    exact hL
theorem xp_rev {f_vectorLimit f_textCount f_trainHeld f_rootNode f_nodeCount f_wordCount f_groupFirst f_atopWaiting f_groupCount f_adverbCount f_canonCount f_postponedCount f_frameCount f_failure f_lastStatus : Int32} {a_text a_nodeKind a_nodeFirst a_nodeSecond a_nodeThird a_words a_outerFirst a_outerAtop a_canon a_postponed a_cells a_lengths a_frameNode a_frameDyadic a_frameX a_frameY a_framePhase : Nat → Int32} {post : SX → Prop} {s : Nat} {ys : List Int32} (hs : s < 196) (hs3 : s ≠ 3) (hy : ve_L a_cells a_lengths s ys) (h3 : ve_L a_cells a_lengths 3 [])
    (h : ∀ c l, ve_F (fun t => t = 3) a_cells a_lengths c l → ve_L c l 3 ((List.range ys.length).map (fun i => ys.getD (ys.length - 1 - i) 0)) → post (f_vectorLimit, f_textCount, f_trainHeld, f_rootNode, f_nodeCount, f_wordCount, f_groupFirst, f_atopWaiting, f_groupCount, f_adverbCount, f_canonCount, f_postponedCount, f_frameCount, f_failure, f_lastStatus, a_text, a_nodeKind, a_nodeFirst, a_nodeSecond, a_nodeThird, a_words, a_outerFirst, a_outerAtop, a_canon, a_postponed, c, l, a_frameNode, a_frameDyadic, a_frameX, a_frameY, a_framePhase)) :
    wpX_reverse post (f_vectorLimit, f_textCount, f_trainHeld, f_rootNode, f_nodeCount, f_wordCount, f_groupFirst, f_atopWaiting, f_groupCount, f_adverbCount, f_canonCount, f_postponedCount, f_frameCount, f_failure, f_lastStatus, a_text, a_nodeKind, a_nodeFirst, a_nodeSecond, a_nodeThird, a_words, a_outerFirst, a_outerAtop, a_canon, a_postponed, a_cells, a_lengths, a_frameNode, a_frameDyadic, a_frameX, a_frameY, a_framePhase) (nI s) := by
  have e1 : (nI s).toNatClampNeg = s := nI_clamp (by omega)
  refine ⟨vp_in_nI hs (by omega), nm_r (e' := nI ys.length + (-1)) (by rw [e1, hy.2.1, Int32.sub_eq_add_neg]) ⟨ys.length + 1, ?_⟩⟩
  refine xp_revL hs hs3 h ys.length a_cells a_lengths (Nat.le_refl _) (ve_Fr _ _ _) hy ?_ _ (by omega)
  rw [Nat.sub_self]
  exact h3
theorem xp_mapL {f_vectorLimit f_textCount f_trainHeld f_rootNode f_nodeCount f_wordCount f_groupFirst f_atopWaiting f_groupCount f_adverbCount f_canonCount f_postponedCount f_frameCount f_failure f_lastStatus : Int32} {a_text a_nodeKind a_nodeFirst a_nodeSecond a_nodeThird a_words a_outerFirst a_outerAtop a_canon a_postponed a_cells a_lengths a_frameNode a_frameDyadic a_frameX a_frameY a_framePhase : Nat → Int32} {post : SX → Prop} {s k : Nat} {ys : List Int32} (hk : k < 128) (hs : s < 196) (hs3 : s ≠ 3)
    (h : ∀ c l, ve_F (fun t => t = 3) a_cells a_lengths c l → ve_L c l 3 ((List.range ys.length).map (fun i => pr_m1 k (ys.getD i 0))) → post (f_vectorLimit, f_textCount, f_trainHeld, f_rootNode, f_nodeCount, f_wordCount, f_groupFirst, f_atopWaiting, f_groupCount, f_adverbCount, f_canonCount, f_postponedCount, f_frameCount, f_failure, f_lastStatus, a_text, a_nodeKind, a_nodeFirst, a_nodeSecond, a_nodeThird, a_words, a_outerFirst, a_outerAtop, a_canon, a_postponed, c, l, a_frameNode, a_frameDyadic, a_frameX, a_frameY, a_framePhase)) :
    ∀ (r i : Nat) (c l : Nat → Int32), i + r = ys.length → ve_F (fun t => t = 3) a_cells a_lengths c l → ve_L c l s ys → ve_L c l 3 ((List.range i).map (fun i => pr_m1 k (ys.getD i 0))) →
    ∀ n, r < n → wX_mapElements_10 post (nI k) (nI s) (nI ys.length) n (nI i) f_vectorLimit f_textCount f_trainHeld f_rootNode f_nodeCount f_wordCount f_groupFirst f_atopWaiting f_groupCount f_adverbCount f_canonCount f_postponedCount f_frameCount f_failure f_lastStatus a_text a_nodeKind a_nodeFirst a_nodeSecond a_nodeThird a_words a_outerFirst a_outerAtop a_canon a_postponed c l a_frameNode a_frameDyadic a_frameX a_frameY a_framePhase := by
  intro r
  induction r with
  | zero =>
    intro i c l hr hF hx hz n hn
    obtain ⟨n, rfl⟩ : ∃ k, n = k + 1 := ⟨n - 1, by omega⟩
    have y16 := hx.1
    have e : i = ys.length := by omega
    subst e
    exact br_t (nI_le (Nat.le_refl _) (by omega)) (h c l hF hz)
  | succ r ih =>
    intro i c l hr hF hx hz n hn
    obtain ⟨n, rfl⟩ : ∃ k, n = k + 1 := ⟨n - 1, by omega⟩
    have y16 := hx.1
    have e3 : (nI (16 * s + i)).toNatClampNeg = 16 * s + i := nI_clamp (by omega)
    refine br_f (nI_ge (by omega) (by omega)) ⟨by rw [ax_mul]; exact vp_in_nI (by omega) (by omega), ?_⟩
    rw [ax_mul, e3, hx.2.2 i (by omega)]
    refine xv_m1 hk ?_
    refine xv_ap (s := 3) (by omega) hz (by rw [ve_ml]; omega) fun c' l' hF' hL => nm_r (nI_1 i) ?_
    refine ih (i + 1) c' l' (by omega) (ve_Ft hF hF') (ve_o hF' hs3 hx) ?_ n (by omega)
    rw [ve_rs]
    exact hL
theorem xp_map {f_vectorLimit f_textCount f_trainHeld f_rootNode f_nodeCount f_wordCount f_groupFirst f_atopWaiting f_groupCount f_adverbCount f_canonCount f_postponedCount f_frameCount f_failure f_lastStatus : Int32} {a_text a_nodeKind a_nodeFirst a_nodeSecond a_nodeThird a_words a_outerFirst a_outerAtop a_canon a_postponed a_cells a_lengths a_frameNode a_frameDyadic a_frameX a_frameY a_framePhase : Nat → Int32} {post : SX → Prop} {s k : Nat} {ys : List Int32} (hk : k < 128) (hs : s < 196) (hs3 : s ≠ 3) (hy : ve_L a_cells a_lengths s ys) (h3 : ve_L a_cells a_lengths 3 [])
    (h : ∀ c l, ve_F (fun t => t = 3) a_cells a_lengths c l → ve_L c l 3 ((List.range ys.length).map (fun i => pr_m1 k (ys.getD i 0))) → post (f_vectorLimit, f_textCount, f_trainHeld, f_rootNode, f_nodeCount, f_wordCount, f_groupFirst, f_atopWaiting, f_groupCount, f_adverbCount, f_canonCount, f_postponedCount, f_frameCount, f_failure, f_lastStatus, a_text, a_nodeKind, a_nodeFirst, a_nodeSecond, a_nodeThird, a_words, a_outerFirst, a_outerAtop, a_canon, a_postponed, c, l, a_frameNode, a_frameDyadic, a_frameX, a_frameY, a_framePhase)) :
    wpX_mapElements post (f_vectorLimit, f_textCount, f_trainHeld, f_rootNode, f_nodeCount, f_wordCount, f_groupFirst, f_atopWaiting, f_groupCount, f_adverbCount, f_canonCount, f_postponedCount, f_frameCount, f_failure, f_lastStatus, a_text, a_nodeKind, a_nodeFirst, a_nodeSecond, a_nodeThird, a_words, a_outerFirst, a_outerAtop, a_canon, a_postponed, a_cells, a_lengths, a_frameNode, a_frameDyadic, a_frameX, a_frameY, a_framePhase) (nI k) (nI s) := by
  have e1 : (nI s).toNatClampNeg = s := nI_clamp (by omega)
  refine ⟨vp_in_nI hs (by omega), nm_r (e' := nI ys.length) (by rw [e1, hy.2.1]) ⟨ys.length + 1, ?_⟩⟩
  exact xp_mapL hk hs hs3 h ys.length 0 a_cells a_lengths (by omega) (ve_Fr _ _ _) hy h3 _ (by omega)
theorem xp_M {f_vectorLimit f_textCount f_trainHeld f_rootNode f_nodeCount f_wordCount f_groupFirst f_atopWaiting f_groupCount f_adverbCount f_canonCount f_postponedCount f_frameCount f_failure f_lastStatus : Int32} {a_text a_nodeKind a_nodeFirst a_nodeSecond a_nodeThird a_words a_outerFirst a_outerAtop a_canon a_postponed a_cells a_lengths a_frameNode a_frameDyadic a_frameX a_frameY a_framePhase : Nat → Int32} {post : SX → Prop} {s k : Nat} {ys : List Int32} (hk : k < 128) (hs : s < 196) (hs3 : s ≠ 3) (hy : ve_L a_cells a_lengths s ys) (h3 : ve_L a_cells a_lengths 3 [])
    (h : ∀ c l, ve_F (fun t => t = 3) a_cells a_lengths c l → ve_L c l 3 (pr_M k ys) → post (f_vectorLimit, f_textCount, f_trainHeld, f_rootNode, f_nodeCount, f_wordCount, f_groupFirst, f_atopWaiting, f_groupCount, f_adverbCount, f_canonCount, f_postponedCount, f_frameCount, f_failure, f_lastStatus, a_text, a_nodeKind, a_nodeFirst, a_nodeSecond, a_nodeThird, a_words, a_outerFirst, a_outerAtop, a_canon, a_postponed, c, l, a_frameNode, a_frameDyadic, a_frameX, a_frameY, a_framePhase)) :
    wpX_runMonad post (f_vectorLimit, f_textCount, f_trainHeld, f_rootNode, f_nodeCount, f_wordCount, f_groupFirst, f_atopWaiting, f_groupCount, f_adverbCount, f_canonCount, f_postponedCount, f_frameCount, f_failure, f_lastStatus, a_text, a_nodeKind, a_nodeFirst, a_nodeSecond, a_nodeThird, a_words, a_outerFirst, a_outerAtop, a_canon, a_postponed, a_cells, a_lengths, a_frameNode, a_frameDyadic, a_frameX, a_frameY, a_framePhase) (nI k) (nI s) := by
  have e1 : (nI s).toNatClampNeg = s := nI_clamp (by omega)
  have hv : ∀ z : pr_M k ys = ys, wpX_appendVector post (f_vectorLimit, f_textCount, f_trainHeld, f_rootNode, f_nodeCount, f_wordCount, f_groupFirst, f_atopWaiting, f_groupCount, f_adverbCount, f_canonCount, f_postponedCount, f_frameCount, f_failure, f_lastStatus, a_text, a_nodeKind, a_nodeFirst, a_nodeSecond, a_nodeThird, a_words, a_outerFirst, a_outerAtop, a_canon, a_postponed, a_cells, a_lengths, a_frameNode, a_frameDyadic, a_frameX, a_frameY, a_framePhase) (nI s) 3 := by
    intro z
    rw [z] at h
    exact xv_vec (s := 3) hs (by omega) hs3 hy h3 (by have := hy.1; simpa using this) h
  refine pk_eq k 35 (fun e => ⟨vp_in_nI hs (by omega), ?_⟩) (fun e => pk_eq k 44 (fun e1 => ?_) (fun e1 => pk_eq k 91 (fun e2 => ?_) (fun e2 => pk_eq k 93 (fun e3 => ?_) (fun e3 => pk_eq k 124 (fun e4 => ?_) (fun e4 => ?_)))))
  · rw [e1, hy.2.1]
    refine xv_ap (s := 3) (by omega) h3 (by decide) fun c l hF hL => h c l hF ?_
    unfold pr_M
    rw [if_neg (by omega), if_pos e]
    exact hL
  · exact hv (by unfold pr_M; rw [if_pos (by omega)])
  · exact hv (by unfold pr_M; rw [if_pos (by omega)])
  · exact hv (by unfold pr_M; rw [if_pos (by omega)])
  · refine xp_rev hs hs3 hy h3 fun c l hF hL => h c l hF ?_
    unfold pr_M
    rw [if_neg (by omega), if_neg e, if_pos e4]
    exact hL
  · refine xp_map hk hs hs3 hy h3 fun c l hF hL => h c l hF ?_
    unfold pr_M
    rw [if_neg (by omega), if_neg e, if_neg e4]
    exact hL
end
section
/-! the component's dyads -/
theorem xd_cpI {f_vectorLimit f_textCount f_trainHeld f_rootNode f_nodeCount f_wordCount f_groupFirst f_atopWaiting f_groupCount f_adverbCount f_canonCount f_postponedCount f_frameCount f_failure f_lastStatus : Int32} {a_text a_nodeKind a_nodeFirst a_nodeSecond a_nodeThird a_words a_outerFirst a_outerAtop a_canon a_postponed a_cells a_lengths a_frameNode a_frameDyadic a_frameX a_frameY a_framePhase : Nat → Int32} {post : SX → Prop} {J : Int32 → Int32 → Int32 → Int32 → Int32 → Int32 → Int32 → Int32 → Int32 → Int32 → Int32 → Int32 → Int32 → Int32 → Int32 → Int32 → (Nat → Int32) → (Nat → Int32) → (Nat → Int32) → (Nat → Int32) → (Nat → Int32) → (Nat → Int32) → (Nat → Int32) → (Nat → Int32) → (Nat → Int32) → (Nat → Int32) → (Nat → Int32) → (Nat → Int32) → (Nat → Int32) → (Nat → Int32) → (Nat → Int32) → (Nat → Int32) → (Nat → Int32) → Prop} {x1 x4 : Int32} {s i q : Nat} {v : Int32} {acc : List Int32} {ys : List Int32} (hs : s < 196) (hs3 : s ≠ 3) (hi : i < ys.length) (hv : ys.getD i 0 = v) (hq : acc.length + q ≤ 16)
    (h : ∀ c l, ve_F (fun t => t = 3) a_cells a_lengths c l → ve_L c l 3 (acc ++ List.replicate q v) → J (nI (i + 1)) f_vectorLimit f_textCount f_trainHeld f_rootNode f_nodeCount f_wordCount f_groupFirst f_atopWaiting f_groupCount f_adverbCount f_canonCount f_postponedCount f_frameCount f_failure f_lastStatus a_text a_nodeKind a_nodeFirst a_nodeSecond a_nodeThird a_words a_outerFirst a_outerAtop a_canon a_postponed c l a_frameNode a_frameDyadic a_frameX a_frameY a_framePhase) :
    ∀ (r j : Nat) (c l : Nat → Int32), j + r = q → ve_F (fun t => t = 3) a_cells a_lengths c l → ve_L c l s ys → ve_L c l 3 (acc ++ List.replicate j v) →
    ∀ n, r < n → wX_copyByCounts_87 post J x1 (nI s) x4 (nI i) (nI q) n (nI j) f_vectorLimit f_textCount f_trainHeld f_rootNode f_nodeCount f_wordCount f_groupFirst f_atopWaiting f_groupCount f_adverbCount f_canonCount f_postponedCount f_frameCount f_failure f_lastStatus a_text a_nodeKind a_nodeFirst a_nodeSecond a_nodeThird a_words a_outerFirst a_outerAtop a_canon a_postponed c l a_frameNode a_frameDyadic a_frameX a_frameY a_framePhase := by
  intro r
  induction r with
  | zero =>
    intro j c l hr hF hx hz n hn
    obtain ⟨n, rfl⟩ : ∃ k, n = k + 1 := ⟨n - 1, by omega⟩
    have e : j = q := by omega
    subst e
    exact br_t (nI_le (Nat.le_refl _) (by omega)) (nm_r (nI_1 i) (h c l hF hz))
  | succ r ih =>
    intro j c l hr hF hx hz n hn
    obtain ⟨n, rfl⟩ : ∃ k, n = k + 1 := ⟨n - 1, by omega⟩
    refine br_f (nI_ge (by omega) (by omega)) ?_
    refine xv_el (s := 3) hs (by omega) hx hi hz (by rw [List.length_append, List.length_replicate]; omega) fun c' l' hF' hL => nm_r (nI_1 j) ?_
    refine ih (j + 1) c' l' (by omega) (ve_Ft hF hF') (ve_o hF' hs3 hx) ?_ n (by omega)
    rw [hv, List.append_assoc, ← List.replicate_succ'] at hL
    exact hL
theorem xd_cpL {f_textCount f_trainHeld f_rootNode f_nodeCount f_wordCount f_groupFirst f_atopWaiting f_groupCount f_adverbCount f_canonCount f_postponedCount f_frameCount f_lastStatus : Int32} {a_text a_nodeKind a_nodeFirst a_nodeSecond a_nodeThird a_words a_outerFirst a_outerAtop a_canon a_postponed a_cells a_lengths a_frameNode a_frameDyadic a_frameX a_frameY a_framePhase : Nat → Int32} {post : SX → Prop} {lim sx sy : Nat} {xs ys : List Int32} (hl : lim ≤ 16) (hsx : sx < 196) (hsy : sy < 196) (hx3 : sx ≠ 3) (hy3 : sy ≠ 3) (hc : xs.length ≠ 1 → xs.length = ys.length) :
    ∀ (r i : Nat) (acc : List Int32) (c l : Nat → Int32), i + r = ys.length → acc.length ≤ lim → ve_F (fun t => t = 3) a_cells a_lengths c l → ve_L c l sx xs → ve_L c l sy ys → ve_L c l 3 acc →
    (∀ c l, vd_R 3 (pr_cp lim xs ys r i acc) a_cells a_lengths c l → post (nI lim, f_textCount, f_trainHeld, f_rootNode, f_nodeCount, f_wordCount, f_groupFirst, f_atopWaiting, f_groupCount, f_adverbCount, f_canonCount, f_postponedCount, f_frameCount, nI (pr_cp lim xs ys r i acc).1, f_lastStatus, a_text, a_nodeKind, a_nodeFirst, a_nodeSecond, a_nodeThird, a_words, a_outerFirst, a_outerAtop, a_canon, a_postponed, c, l, a_frameNode, a_frameDyadic, a_frameX, a_frameY, a_framePhase)) →
    ∀ n, r < n → wX_copyByCounts_35 post (nI sx) (nI sy) (nI ys.length) n (nI i) (nI lim) f_textCount f_trainHeld f_rootNode f_nodeCount f_wordCount f_groupFirst f_atopWaiting f_groupCount f_adverbCount f_canonCount f_postponedCount f_frameCount 0 f_lastStatus a_text a_nodeKind a_nodeFirst a_nodeSecond a_nodeThird a_words a_outerFirst a_outerAtop a_canon a_postponed c l a_frameNode a_frameDyadic a_frameX a_frameY a_framePhase := by
  intro r
  induction r with
  | zero =>
    intro i acc c l hr ha hF hx hy hz h n hn
    obtain ⟨n, rfl⟩ : ∃ k, n = k + 1 := ⟨n - 1, by omega⟩
    have y16 := hy.1
    exact br_t (nI_le (by omega) (by omega)) (h c l ⟨hF, fun _ => hz⟩)
  | succ r ih =>
    intro i acc c l hr ha hF hx hy hz h n hn
    obtain ⟨n, rfl⟩ : ∃ k, n = k + 1 := ⟨n - 1, by omega⟩
    have y16 := hy.1
    refine br_f (nI_ge (by omega) (by omega)) ?_
    refine xv_pe hsx (by omega) hx (fun z => by have := hc z; omega) ?_
    have h3 : l 3 = nI acc.length := hz.2.1
    unfold pr_cp at h
    refine br_c (fun z0 => ?_) (fun z0 => ?_)
    · rw [if_neg (Int32.not_lt.mpr z0)] at h
      rw [h3, pk_sub ha]
      refine br_c (fun z1 => ?_) (fun z1 => ?_)
      · rw [if_neg (Int32.not_lt.mpr z1)] at h
        obtain ⟨q, hq, e1, e2⟩ := pr_cpq (b := lim - acc.length) (by omega) (Int32.not_lt.mpr z0) (Int32.not_lt.mpr z1)
        rw [e1]
        rw [e2] at h
        refine ⟨q + 1, xd_cpI (v := ys.getD i 0) (acc := acc) (ys := ys) hsy hy3 (by omega) rfl (by omega) (fun c' l' hF' hL => ?_) q 0 c l (by omega) (ve_Fr _ _ _) hy ?_ _ (by omega)⟩
        · refine ih (i + 1) _ c' l' (by omega) ?_ (ve_Ft hF hF') (ve_o hF' hx3 hx) (ve_o hF' hy3 hy) hL h n (by omega)
          rw [List.length_append, List.length_replicate]; omega
        · rw [List.replicate_zero, List.append_nil]; exact hz
      · rw [if_pos (Int32.not_le.mp z1)] at h
        exact h c l ⟨hF, fun z => by cases z⟩
    · rw [if_pos (Int32.not_le.mp z0)] at h
      exact h c l ⟨hF, fun z => by cases z⟩
theorem xd_cp {f_textCount f_trainHeld f_rootNode f_nodeCount f_wordCount f_groupFirst f_atopWaiting f_groupCount f_adverbCount f_canonCount f_postponedCount f_frameCount f_lastStatus : Int32} {a_text a_nodeKind a_nodeFirst a_nodeSecond a_nodeThird a_words a_outerFirst a_outerAtop a_canon a_postponed a_cells a_lengths a_frameNode a_frameDyadic a_frameX a_frameY a_framePhase : Nat → Int32} {post : SX → Prop} {lim sx sy : Nat} {xs ys : List Int32} (hl : lim ≤ 16) (hsx : sx < 196) (hsy : sy < 196) (hx3 : sx ≠ 3) (hy3 : sy ≠ 3)
    (hx : ve_L a_cells a_lengths sx xs) (hy : ve_L a_cells a_lengths sy ys) (h3 : ve_L a_cells a_lengths 3 [])
    (h : ∀ c l, vd_R 3 (pr_D lim 35 xs ys) a_cells a_lengths c l → post (nI lim, f_textCount, f_trainHeld, f_rootNode, f_nodeCount, f_wordCount, f_groupFirst, f_atopWaiting, f_groupCount, f_adverbCount, f_canonCount, f_postponedCount, f_frameCount, nI (pr_D lim 35 xs ys).1, f_lastStatus, a_text, a_nodeKind, a_nodeFirst, a_nodeSecond, a_nodeThird, a_words, a_outerFirst, a_outerAtop, a_canon, a_postponed, c, l, a_frameNode, a_frameDyadic, a_frameX, a_frameY, a_framePhase)) :
    wpX_copyByCounts post (nI lim, f_textCount, f_trainHeld, f_rootNode, f_nodeCount, f_wordCount, f_groupFirst, f_atopWaiting, f_groupCount, f_adverbCount, f_canonCount, f_postponedCount, f_frameCount, 0, f_lastStatus, a_text, a_nodeKind, a_nodeFirst, a_nodeSecond, a_nodeThird, a_words, a_outerFirst, a_outerAtop, a_canon, a_postponed, a_cells, a_lengths, a_frameNode, a_frameDyadic, a_frameX, a_frameY, a_framePhase) (nI sx) (nI sy) := by
  have e1 : (nI sx).toNatClampNeg = sx := nI_clamp (by omega)
  have e2 : (nI sy).toNatClampNeg = sy := nI_clamp (by omega)
  have x16 := hx.1
  have y16 := hy.1
  refine ⟨vp_in_nI hsx (by omega), nm_r (e' := nI xs.length) (by rw [e1]; exact hx.2.1) ⟨vp_in_nI hsy (by omega), nm_r (e' := nI ys.length) (by rw [e2]; exact hy.2.1) ?_⟩⟩
  unfold pr_D at h
  rw [if_neg (by decide), if_neg (by decide), if_pos rfl] at h
  refine pk_eq xs.length ys.length (fun e => ?_) (fun e => pk_eq xs.length 1 (fun e1 => ?_) (fun e1 => ?_))
  · rw [if_neg (by omega)] at h
    exact ⟨ys.length + 1, xd_cpL hl hsx hsy hx3 hy3 (fun _ => e) ys.length 0 [] a_cells a_lengths (by omega) (Nat.zero_le _) (ve_Fr _ _ _) hx hy h3 h _ (by omega)⟩
  · rw [if_neg (by omega)] at h
    exact ⟨ys.length + 1, xd_cpL hl hsx hsy hx3 hy3 (fun z => absurd e1 z) ys.length 0 [] a_cells a_lengths (by omega) (Nat.zero_le _) (ve_Fr _ _ _) hx hy h3 h _ (by omega)⟩
  · rw [if_pos ⟨e, e1⟩] at h
    exact h a_cells a_lengths ⟨ve_Fr _ _ _, fun z => by cases z⟩
theorem xd_join {f_textCount f_trainHeld f_rootNode f_nodeCount f_wordCount f_groupFirst f_atopWaiting f_groupCount f_adverbCount f_canonCount f_postponedCount f_frameCount f_lastStatus : Int32} {a_text a_nodeKind a_nodeFirst a_nodeSecond a_nodeThird a_words a_outerFirst a_outerAtop a_canon a_postponed a_cells a_lengths a_frameNode a_frameDyadic a_frameX a_frameY a_framePhase : Nat → Int32} {post : SX → Prop} {lim sx sy : Nat} {xs ys : List Int32} (hl : lim ≤ 16) (hsx : sx < 196) (hsy : sy < 196) (hx3 : sx ≠ 3) (hy3 : sy ≠ 3)
    (hx : ve_L a_cells a_lengths sx xs) (hy : ve_L a_cells a_lengths sy ys) (h3 : ve_L a_cells a_lengths 3 [])
    (h : ∀ c l, vd_R 3 (pr_D lim 44 xs ys) a_cells a_lengths c l → post (nI lim, f_textCount, f_trainHeld, f_rootNode, f_nodeCount, f_wordCount, f_groupFirst, f_atopWaiting, f_groupCount, f_adverbCount, f_canonCount, f_postponedCount, f_frameCount, nI (pr_D lim 44 xs ys).1, f_lastStatus, a_text, a_nodeKind, a_nodeFirst, a_nodeSecond, a_nodeThird, a_words, a_outerFirst, a_outerAtop, a_canon, a_postponed, c, l, a_frameNode, a_frameDyadic, a_frameX, a_frameY, a_framePhase)) :
    wpX_join post (nI lim, f_textCount, f_trainHeld, f_rootNode, f_nodeCount, f_wordCount, f_groupFirst, f_atopWaiting, f_groupCount, f_adverbCount, f_canonCount, f_postponedCount, f_frameCount, 0, f_lastStatus, a_text, a_nodeKind, a_nodeFirst, a_nodeSecond, a_nodeThird, a_words, a_outerFirst, a_outerAtop, a_canon, a_postponed, a_cells, a_lengths, a_frameNode, a_frameDyadic, a_frameX, a_frameY, a_framePhase) (nI sx) (nI sy) := by
  have e1 : (nI sx).toNatClampNeg = sx := nI_clamp (by omega)
  have e2 : (nI sy).toNatClampNeg = sy := nI_clamp (by omega)
  have x16 := hx.1
  have y16 := hy.1
  unfold pr_D at h
  rw [if_neg (by decide), if_neg (by decide), if_neg (by decide), if_pos rfl] at h
  refine ⟨vp_in_nI hsx (by omega), vp_in_nI hsy (by omega), ?_⟩
  rw [e1, e2, hx.2.1, hy.2.1, nI_add]
  refine pk_le (xs.length + ys.length) lim (fun e => ?_) (fun e => ?_)
  · rw [if_neg (by omega)] at h
    refine xv_vec (s := 3) (zs := []) hsx (by omega) hx3 hx h3 (by simpa using x16) fun c l hF hL => ?_
    refine xv_vec (s := 3) (zs := xs) hsy (by omega) hy3 (ve_o hF hy3 hy) hL (by omega) fun c' l' hF' hL' => ?_
    exact h c' l' ⟨ve_Ft hF hF', fun _ => hL'⟩
  · rw [if_pos (by omega)] at h
    exact h a_cells a_lengths ⟨ve_Fr _ _ _, fun z => by cases z⟩
theorem xd_rotL {f_vectorLimit f_textCount f_trainHeld f_rootNode f_nodeCount f_wordCount f_groupFirst f_atopWaiting f_groupCount f_adverbCount f_canonCount f_postponedCount f_frameCount f_failure f_lastStatus : Int32} {a_text a_nodeKind a_nodeFirst a_nodeSecond a_nodeThird a_words a_outerFirst a_outerAtop a_canon a_postponed a_cells a_lengths a_frameNode a_frameDyadic a_frameX a_frameY a_framePhase : Nat → Int32} {post : SX → Prop} {s k : Nat} {ys : List Int32} (hk : k < ys.length) (hs : s < 196) (hs3 : s ≠ 3)
    (h : ∀ c l, ve_F (fun t => t = 3) a_cells a_lengths c l → ve_L c l 3 ((List.range ys.length).map (fun i => ys.getD ((i + k) % ys.length) 0)) → post (f_vectorLimit, f_textCount, f_trainHeld, f_rootNode, f_nodeCount, f_wordCount, f_groupFirst, f_atopWaiting, f_groupCount, f_adverbCount, f_canonCount, f_postponedCount, f_frameCount, f_failure, f_lastStatus, a_text, a_nodeKind, a_nodeFirst, a_nodeSecond, a_nodeThird, a_words, a_outerFirst, a_outerAtop, a_canon, a_postponed, c, l, a_frameNode, a_frameDyadic, a_frameX, a_frameY, a_framePhase)) :
    ∀ (r i : Nat) (c l : Nat → Int32), i + r = ys.length → ve_F (fun t => t = 3) a_cells a_lengths c l → ve_L c l s ys → ve_L c l 3 ((List.range i).map (fun i => ys.getD ((i + k) % ys.length) 0)) →
    ∀ n, r < n → wX_rotate_48 post (nI s) (nI ys.length) (nI k) n (nI i) f_vectorLimit f_textCount f_trainHeld f_rootNode f_nodeCount f_wordCount f_groupFirst f_atopWaiting f_groupCount f_adverbCount f_canonCount f_postponedCount f_frameCount f_failure f_lastStatus a_text a_nodeKind a_nodeFirst a_nodeSecond a_nodeThird a_words a_outerFirst a_outerAtop a_canon a_postponed c l a_frameNode a_frameDyadic a_frameX a_frameY a_framePhase := by
  intro r
  induction r with
  | zero =>
    intro i c l hr hF hx hz n hn
    obtain ⟨n, rfl⟩ : ∃ k, n = k + 1 := ⟨n - 1, by omega⟩
    have y16 := hx.1
    have e : i = ys.length := by omega
    subst e
    exact br_t (nI_le (Nat.le_refl _) (by omega)) (h c l hF hz)
  | succ r ih =>
    intro i c l hr hF hx hz n hn
    obtain ⟨n, rfl⟩ : ∃ k, n = k + 1 := ⟨n - 1, by omega⟩
    have y16 := hx.1
    refine br_f (nI_ge (by omega) (by omega)) ⟨nI_ne0 (by omega) (by omega), ?_⟩
    rw [nI_add, pk_rem (by omega) (by omega) (by omega)]
    refine xv_el (s := 3) hs (by omega) hx (Nat.mod_lt _ (by omega)) hz (by rw [ve_ml]; omega) fun c' l' hF' hL => nm_r (nI_1 i) ?_
    refine ih (i + 1) c' l' (by omega) (ve_Ft hF hF') (ve_o hF' hs3 hx) ?_ n (by omega)
    rw [ve_rs]
    exact hL
theorem xd_rot {f_textCount f_trainHeld f_rootNode f_nodeCount f_wordCount f_groupFirst f_atopWaiting f_groupCount f_adverbCount f_canonCount f_postponedCount f_frameCount f_lastStatus : Int32} {a_text a_nodeKind a_nodeFirst a_nodeSecond a_nodeThird a_words a_outerFirst a_outerAtop a_canon a_postponed a_cells a_lengths a_frameNode a_frameDyadic a_frameX a_frameY a_framePhase : Nat → Int32} {post : SX → Prop} {lim sx sy : Nat} {xs ys : List Int32} (hsx : sx < 196) (hsy : sy < 196) (hx3 : sx ≠ 3) (hy3 : sy ≠ 3)
    (hx : ve_L a_cells a_lengths sx xs) (hy : ve_L a_cells a_lengths sy ys) (h3 : ve_L a_cells a_lengths 3 [])
    (h : ∀ c l, vd_R 3 (pr_D lim 124 xs ys) a_cells a_lengths c l → post (nI lim, f_textCount, f_trainHeld, f_rootNode, f_nodeCount, f_wordCount, f_groupFirst, f_atopWaiting, f_groupCount, f_adverbCount, f_canonCount, f_postponedCount, f_frameCount, nI (pr_D lim 124 xs ys).1, f_lastStatus, a_text, a_nodeKind, a_nodeFirst, a_nodeSecond, a_nodeThird, a_words, a_outerFirst, a_outerAtop, a_canon, a_postponed, c, l, a_frameNode, a_frameDyadic, a_frameX, a_frameY, a_framePhase)) :
    wpX_rotate post (nI lim, f_textCount, f_trainHeld, f_rootNode, f_nodeCount, f_wordCount, f_groupFirst, f_atopWaiting, f_groupCount, f_adverbCount, f_canonCount, f_postponedCount, f_frameCount, 0, f_lastStatus, a_text, a_nodeKind, a_nodeFirst, a_nodeSecond, a_nodeThird, a_words, a_outerFirst, a_outerAtop, a_canon, a_postponed, a_cells, a_lengths, a_frameNode, a_frameDyadic, a_frameX, a_frameY, a_framePhase) (nI sx) (nI sy) := by
  have e1 : (nI sx).toNatClampNeg = sx := nI_clamp (by omega)
  have e2 : (nI sy).toNatClampNeg = sy := nI_clamp (by omega)
  have e3 : (nI (16 * sx)).toNatClampNeg = 16 * sx := nI_clamp (by omega)
  have x16 := hx.1
  have y16 := hy.1
  unfold pr_D at h
  rw [if_neg (by decide), if_neg (by decide), if_neg (by decide), if_neg (by decide), if_pos rfl] at h
  refine ⟨vp_in_nI hsy (by omega), nm_r (e' := nI ys.length) (by rw [e2]; exact hy.2.1) ⟨vp_in_nI hsx (by omega), ?_⟩⟩
  rw [e1, hx.2.1]
  refine pk_eq xs.length 1 (fun e => ?_) (fun e => ?_)
  · rw [if_neg (by omega)] at h
    refine pk_eq ys.length 0 (fun z => ?_) (fun z => ?_)
    · refine h a_cells a_lengths ⟨ve_Fr _ _ _, fun _ => ?_⟩
      have : pr_rot xs ys = [] := by unfold pr_rot; rw [z]; rfl
      rw [this]; exact h3
    · have z' := nI_ne0 (n := ys.length) (by omega) (by omega)
      have hv := hx.2.2 0 (by omega)
      rw [Nat.add_zero] at hv
      refine ⟨by rw [ax_mul0]; exact vp_in_nI (by omega) (by omega), z', z', nm_r (e' := nI (pr_k (xs.getD 0 0) ys.length)) (by rw [ax_mul0, e3, hv]; exact pr_kx _ y16 (by omega)) ⟨ys.length + 1, ?_⟩⟩
      refine xd_rotL (pr_kN _ (by omega)).1 hsy hy3 (fun c l hF hL => h c l ⟨hF, fun _ => ?_⟩) ys.length 0 a_cells a_lengths (by omega) (ve_Fr _ _ _) hy h3 _ (by omega)
      exact hL
  · rw [if_pos e] at h
    exact h a_cells a_lengths ⟨ve_Fr _ _ _, fun z => by cases z⟩
theorem pr_cnt_lt {n m q : Nat} (h : pr_cnt n m = some q) {i : Nat} (hi : i < q) : (n ≠ 1 → i < n) ∧ (m ≠ 1 → i < m) := by
  unfold pr_cnt at h
  split at h
  · rename_i e
    cases h
    exact ⟨fun z => by omega, fun _ => hi⟩
  · rename_i e
    split at h
    · rename_i e2
      cases h
      exact ⟨fun _ => hi, fun z => absurd e2 z⟩
    · cases h
theorem xd_mapL {f_vectorLimit f_textCount f_trainHeld f_rootNode f_nodeCount f_wordCount f_groupFirst f_atopWaiting f_groupCount f_adverbCount f_canonCount f_postponedCount f_frameCount f_failure f_lastStatus : Int32} {a_text a_nodeKind a_nodeFirst a_nodeSecond a_nodeThird a_words a_outerFirst a_outerAtop a_canon a_postponed a_cells a_lengths a_frameNode a_frameDyadic a_frameX a_frameY a_framePhase : Nat → Int32} {post : SX → Prop} {sx sy k q : Nat} {xs ys : List Int32} (hk : k < 128) (hsx : sx < 196) (hsy : sy < 196) (hx3 : sx ≠ 3) (hy3 : sy ≠ 3) (hq : pr_cnt xs.length ys.length = some q) (q16 : q ≤ 16)
    (h : ∀ c l, ve_F (fun t => t = 3) a_cells a_lengths c l → ve_L c l 3 ((List.range q).map (fun i => pr_m2 k (pr_el xs i) (pr_el ys i))) → post (f_vectorLimit, f_textCount, f_trainHeld, f_rootNode, f_nodeCount, f_wordCount, f_groupFirst, f_atopWaiting, f_groupCount, f_adverbCount, f_canonCount, f_postponedCount, f_frameCount, f_failure, f_lastStatus, a_text, a_nodeKind, a_nodeFirst, a_nodeSecond, a_nodeThird, a_words, a_outerFirst, a_outerAtop, a_canon, a_postponed, c, l, a_frameNode, a_frameDyadic, a_frameX, a_frameY, a_framePhase)) :
    ∀ (r i : Nat) (c l : Nat → Int32), i + r = q → ve_F (fun t => t = 3) a_cells a_lengths c l → ve_L c l sx xs → ve_L c l sy ys → ve_L c l 3 ((List.range i).map (fun i => pr_m2 k (pr_el xs i) (pr_el ys i))) →
    ∀ n, r < n → wX_mapPairs_23 post (nI k) (nI sx) (nI sy) (nI q) n (nI i) f_vectorLimit f_textCount f_trainHeld f_rootNode f_nodeCount f_wordCount f_groupFirst f_atopWaiting f_groupCount f_adverbCount f_canonCount f_postponedCount f_frameCount f_failure f_lastStatus a_text a_nodeKind a_nodeFirst a_nodeSecond a_nodeThird a_words a_outerFirst a_outerAtop a_canon a_postponed c l a_frameNode a_frameDyadic a_frameX a_frameY a_framePhase := by
  intro r
  induction r with
  | zero =>
    intro i c l hr hF hx hy hz n hn
    obtain ⟨n, rfl⟩ : ∃ k, n = k + 1 := ⟨n - 1, by omega⟩
    have e : i = q := by omega
    subst e
    exact br_t (nI_le (Nat.le_refl _) (by omega)) (h c l hF hz)
  | succ r ih =>
    intro i c l hr hF hx hy hz n hn
    obtain ⟨n, rfl⟩ : ∃ k, n = k + 1 := ⟨n - 1, by omega⟩
    obtain ⟨g1, g2⟩ := pr_cnt_lt hq (i := i) (by omega)
    refine br_f (nI_ge (by omega) (by omega)) ?_
    refine xv_pe hsx (by omega) hx g1 ?_
    refine xv_pe hsy (by omega) hy g2 ?_
    refine xv_m2 hk ?_
    refine xv_ap (s := 3) (by omega) hz (by rw [ve_ml]; omega) fun c' l' hF' hL => nm_r (nI_1 i) ?_
    refine ih (i + 1) c' l' (by omega) (ve_Ft hF hF') (ve_o hF' hx3 hx) (ve_o hF' hy3 hy) ?_ n (by omega)
    rw [ve_rs]
    exact hL
theorem xq_n1 {q : Nat} (h : q ≤ 16) : ¬ nI q = -1 := by
  intro z
  have := congrArg Int32.toInt z
  rw [nI_toInt (by omega), show (-1 : Int32).toInt = -1 from by decide] at this
  omega
theorem xd_map {f_textCount f_trainHeld f_rootNode f_nodeCount f_wordCount f_groupFirst f_atopWaiting f_groupCount f_adverbCount f_canonCount f_postponedCount f_frameCount f_lastStatus : Int32} {a_text a_nodeKind a_nodeFirst a_nodeSecond a_nodeThird a_words a_outerFirst a_outerAtop a_canon a_postponed a_cells a_lengths a_frameNode a_frameDyadic a_frameX a_frameY a_framePhase : Nat → Int32} {post : SX → Prop} {lim k sx sy : Nat} {xs ys : List Int32} (hk : k < 128) (hk5 : k ≠ 91 ∧ k ≠ 93 ∧ k ≠ 35 ∧ k ≠ 44 ∧ k ≠ 124) (hsx : sx < 196) (hsy : sy < 196) (hx3 : sx ≠ 3) (hy3 : sy ≠ 3)
    (hx : ve_L a_cells a_lengths sx xs) (hy : ve_L a_cells a_lengths sy ys) (h3 : ve_L a_cells a_lengths 3 [])
    (h : ∀ c l, vd_R 3 (pr_D lim k xs ys) a_cells a_lengths c l → post (nI lim, f_textCount, f_trainHeld, f_rootNode, f_nodeCount, f_wordCount, f_groupFirst, f_atopWaiting, f_groupCount, f_adverbCount, f_canonCount, f_postponedCount, f_frameCount, nI (pr_D lim k xs ys).1, f_lastStatus, a_text, a_nodeKind, a_nodeFirst, a_nodeSecond, a_nodeThird, a_words, a_outerFirst, a_outerAtop, a_canon, a_postponed, c, l, a_frameNode, a_frameDyadic, a_frameX, a_frameY, a_framePhase)) :
    wpX_mapPairs post (nI lim, f_textCount, f_trainHeld, f_rootNode, f_nodeCount, f_wordCount, f_groupFirst, f_atopWaiting, f_groupCount, f_adverbCount, f_canonCount, f_postponedCount, f_frameCount, 0, f_lastStatus, a_text, a_nodeKind, a_nodeFirst, a_nodeSecond, a_nodeThird, a_words, a_outerFirst, a_outerAtop, a_canon, a_postponed, a_cells, a_lengths, a_frameNode, a_frameDyadic, a_frameX, a_frameY, a_framePhase) (nI k) (nI sx) (nI sy) := by
  unfold pr_D at h
  rw [if_neg hk5.1, if_neg hk5.2.1, if_neg hk5.2.2.1, if_neg hk5.2.2.2.1, if_neg hk5.2.2.2.2] at h
  unfold wpX_mapPairs
  refine xv_pc hsx hsy hx hy ?_
  cases hq : pr_cnt xs.length ys.length with
  | none =>
    rw [hq] at h
    exact br_t rfl (h a_cells a_lengths ⟨ve_Fr _ _ _, fun z => by cases z⟩)
  | some q =>
    rw [hq] at h
    have q16 := pr_cnt_le hq hx.1 hy.1
    refine br_f (xq_n1 q16) ⟨q + 1, ?_⟩
    exact xd_mapL hk hsx hsy hx3 hy3 hq q16 (fun c l hF hL => h c l ⟨hF, fun _ => hL⟩) q 0 a_cells a_lengths (by omega) (ve_Fr _ _ _) hx hy h3 _ (by omega)
theorem xd_D {f_textCount f_trainHeld f_rootNode f_nodeCount f_wordCount f_groupFirst f_atopWaiting f_groupCount f_adverbCount f_canonCount f_postponedCount f_frameCount f_lastStatus : Int32} {a_text a_nodeKind a_nodeFirst a_nodeSecond a_nodeThird a_words a_outerFirst a_outerAtop a_canon a_postponed a_cells a_lengths a_frameNode a_frameDyadic a_frameX a_frameY a_framePhase : Nat → Int32} {post : SX → Prop} {lim k sx sy : Nat} {xs ys : List Int32} (hl : lim ≤ 16) (hk : k < 128) (hsx : sx < 196) (hsy : sy < 196) (hx3 : sx ≠ 3) (hy3 : sy ≠ 3)
    (hx : ve_L a_cells a_lengths sx xs) (hy : ve_L a_cells a_lengths sy ys) (h3 : ve_L a_cells a_lengths 3 [])
    (h : ∀ c l, vd_R 3 (pr_D lim k xs ys) a_cells a_lengths c l → post (nI lim, f_textCount, f_trainHeld, f_rootNode, f_nodeCount, f_wordCount, f_groupFirst, f_atopWaiting, f_groupCount, f_adverbCount, f_canonCount, f_postponedCount, f_frameCount, nI (pr_D lim k xs ys).1, f_lastStatus, a_text, a_nodeKind, a_nodeFirst, a_nodeSecond, a_nodeThird, a_words, a_outerFirst, a_outerAtop, a_canon, a_postponed, c, l, a_frameNode, a_frameDyadic, a_frameX, a_frameY, a_framePhase)) :
    wpX_runDyad post (nI lim, f_textCount, f_trainHeld, f_rootNode, f_nodeCount, f_wordCount, f_groupFirst, f_atopWaiting, f_groupCount, f_adverbCount, f_canonCount, f_postponedCount, f_frameCount, 0, f_lastStatus, a_text, a_nodeKind, a_nodeFirst, a_nodeSecond, a_nodeThird, a_words, a_outerFirst, a_outerAtop, a_canon, a_postponed, a_cells, a_lengths, a_frameNode, a_frameDyadic, a_frameX, a_frameY, a_framePhase) (nI k) (nI sx) (nI sy) := by
  refine pk_eq k 35 (fun e => ?_) (fun e => pk_eq k 44 (fun e1 => ?_) (fun e1 => pk_eq k 91 (fun e2 => ?_) (fun e2 => pk_eq k 93 (fun e3 => ?_) (fun e3 => pk_eq k 124 (fun e4 => ?_) (fun e4 => ?_)))))
  · subst e; exact xd_cp hl hsx hsy hx3 hy3 hx hy h3 h
  · subst e1; exact xd_join hl hsx hsy hx3 hy3 hx hy h3 h
  · subst e2
    exact xv_vec (s := 3) (zs := []) hsx (by omega) hx3 hx h3 (by have := hx.1; simpa using this) fun c l hF hL => h c l ⟨hF, fun _ => hL⟩
  · subst e3
    exact xv_vec (s := 3) (zs := []) hsy (by omega) hy3 hy h3 (by have := hy.1; simpa using this) fun c l hF hL => h c l ⟨hF, fun _ => hL⟩
  · subst e4; exact xd_rot hsx hsy hx3 hy3 hx hy h3 h
  · exact xd_map hk ⟨e2, e3, e, e1, e4⟩ hsx hsy hx3 hy3 hx hy h3 h
end
section
/-! the component's steps -/
def xs_H (N : Nat) (K F S T : Nat → Nat) (ax ay R : List Int32) (n : Nat) (d : Bool) (p : Nat) (x y w : List Int32) (r : List am_F) (kx fx1 sx1 tx1 c l fn fd fx fy fp : Nat → Int32) : Prop :=
  tr_X N K F S T kx fx1 sx1 tx1 ∧ N ≤ 64 ∧ n < N ∧ n + r.length < 63 ∧ fp r.length = nI (p + 1) ∧ xm_top K c l fn fd fx fy r.length n d p x y w ∧ xm_F K c l fn fd fx fy fp r ∧ ve_L c l 0 ax ∧ ve_L c l 1 ay ∧ (0 < p → ve_L c l 3 R) ∧ p ≤ 16
theorem xm_Op {K : Nat → Nat} {ax ay : List Int32} {n : Nat} {d : Bool} {p : Nat} {x y : List Int32} {r : List am_F} {R w' : List Int32} {n' : Nat} {d' : Bool} {x' y' : List Int32} {fc : Int32} {c l fn fd fx fy fp : Nat → Int32}
    (h : xm_S K ax ay ((n', d', 0, x', y', []) :: (n, d, p + 1, x, y, w') :: r) R fc c l fn fd fx fy fp) : xm_O K ax ay n d p x y r R (am_push w' n' d' x' y') 0 fc c l fn fd fx fy fp := ⟨rfl, h⟩
theorem xm_Oq {K : Nat → Nat} {ax ay : List Int32} {n : Nat} {d : Bool} {p : Nat} {x y : List Int32} {r : List am_F} {R v : List Int32} {fc : Int32} {c l fn fd fx fy fp : Nat → Int32}
    (h : xm_S K ax ay r v fc c l fn fd fx fy fp) : xm_O K ax ay n d p x y r R (am_pop v) 0 fc c l fn fd fx fy fp := ⟨rfl, h⟩
theorem xm_Of {K : Nat → Nat} {ax ay : List Int32} {n : Nat} {d : Bool} {p : Nat} {x y : List Int32} {r : List am_F} {R : List Int32} {e : Nat} {fc : Int32} {c l fn fd fx fy fp : Nat → Int32}
    (h0 : ve_L c l 0 ax) (h1 : ve_L c l 1 ay) : xm_O K ax ay n d p x y r R (am_fail e) (nI e) fc c l fn fd fx fy fp := ⟨rfl, h0, h1⟩
theorem xs_slA {post : Int32 → Prop} {f : Nat} (h : post (nI (4 + 3 * f))) : wpX_slotA post (nI f) := by
  show post (4 + nI f * 3)
  rw [show (3 : Int32) = nI 3 from rfl, show (4 : Int32) = nI 4 from rfl, pk_mul, nI_add, Nat.mul_comm]
  exact h
theorem xs_slB {post : Int32 → Prop} {f : Nat} (h : post (nI (4 + 3 * f + 1))) : wpX_slotB post (nI f) := by
  show post ((4 + nI f * 3) + 1)
  rw [show (3 : Int32) = nI 3 from rfl, show (4 : Int32) = nI 4 from rfl, pk_mul, nI_add, nI_1, Nat.mul_comm]
  exact h
theorem xs_slZ {post : Int32 → Prop} {f : Nat} (h : post (nI (4 + 3 * f + 2))) : wpX_slotZ post (nI f) := by
  show post ((4 + nI f * 3) + 2)
  rw [show (3 : Int32) = nI 3 from rfl, show (4 : Int32) = nI 4 from rfl, show (2 : Int32) = nI 2 from rfl, pk_mul, nI_add, nI_add, Nat.mul_comm]
  exact h
theorem ax_nb (d : Bool) : vp_nar .boolean (xm_b d) = xm_b d := by cases d <;> rfl
theorem xs_enter {f_vectorLimit f_textCount f_trainHeld f_rootNode f_nodeCount f_wordCount f_groupFirst f_atopWaiting f_groupCount f_adverbCount f_canonCount f_postponedCount f_failure f_lastStatus : Int32} {a_text a_nodeKind a_nodeFirst a_nodeSecond a_nodeThird a_words a_outerFirst a_outerAtop a_canon a_postponed a_cells a_lengths a_frameNode a_frameDyadic a_frameX a_frameY a_framePhase : Nat → Int32} {post : SX → Prop} {m n' sx sy : Nat} {d' : Bool} (hm : m < 64)
    (h : post (f_vectorLimit, f_textCount, f_trainHeld, f_rootNode, f_nodeCount, f_wordCount, f_groupFirst, f_atopWaiting, f_groupCount, f_adverbCount, f_canonCount, f_postponedCount, nI (m + 1), f_failure, f_lastStatus, a_text, a_nodeKind, a_nodeFirst, a_nodeSecond, a_nodeThird, a_words, a_outerFirst, a_outerAtop, a_canon, a_postponed, a_cells, a_lengths, upd a_frameNode m (nI n'), upd a_frameDyadic m (xm_b d'), upd a_frameX m (nI sx), upd a_frameY m (nI sy), upd a_framePhase m 0)) :
    wpX_enter post (f_vectorLimit, f_textCount, f_trainHeld, f_rootNode, f_nodeCount, f_wordCount, f_groupFirst, f_atopWaiting, f_groupCount, f_adverbCount, f_canonCount, f_postponedCount, nI m, f_failure, f_lastStatus, a_text, a_nodeKind, a_nodeFirst, a_nodeSecond, a_nodeThird, a_words, a_outerFirst, a_outerAtop, a_canon, a_postponed, a_cells, a_lengths, a_frameNode, a_frameDyadic, a_frameX, a_frameY, a_framePhase) (nI n') (xm_b d') (nI sx) (nI sy) := by
  have e1 : (nI m).toNatClampNeg = m := nI_clamp (by omega)
  have i1 : vp_in (nI m) 64 := vp_in_nI hm (by omega)
  simp only [wpX_enter, e1, ax_nb, nI_1, forall_eq]
  exact ⟨i1, i1, i1, i1, i1, h⟩
theorem xs_leave {f_vectorLimit f_textCount f_trainHeld f_rootNode f_nodeCount f_wordCount f_groupFirst f_atopWaiting f_groupCount f_adverbCount f_canonCount f_postponedCount f_failure f_lastStatus : Int32} {a_text a_nodeKind a_nodeFirst a_nodeSecond a_nodeThird a_words a_outerFirst a_outerAtop a_canon a_postponed a_cells a_lengths a_frameNode a_frameDyadic a_frameX a_frameY a_framePhase : Nat → Int32} {post : SX → Prop} {m : Nat} (h : post (f_vectorLimit, f_textCount, f_trainHeld, f_rootNode, f_nodeCount, f_wordCount, f_groupFirst, f_atopWaiting, f_groupCount, f_adverbCount, f_canonCount, f_postponedCount, nI m, f_failure, f_lastStatus, a_text, a_nodeKind, a_nodeFirst, a_nodeSecond, a_nodeThird, a_words, a_outerFirst, a_outerAtop, a_canon, a_postponed, a_cells, a_lengths, a_frameNode, a_frameDyadic, a_frameX, a_frameY, a_framePhase)) : wpX_leave post (f_vectorLimit, f_textCount, f_trainHeld, f_rootNode, f_nodeCount, f_wordCount, f_groupFirst, f_atopWaiting, f_groupCount, f_adverbCount, f_canonCount, f_postponedCount, nI (m + 1), f_failure, f_lastStatus, a_text, a_nodeKind, a_nodeFirst, a_nodeSecond, a_nodeThird, a_words, a_outerFirst, a_outerAtop, a_canon, a_postponed, a_cells, a_lengths, a_frameNode, a_frameDyadic, a_frameX, a_frameY, a_framePhase) := nm_r (nI_pred m) h
theorem xs_fork {f_vectorLimit f_textCount f_trainHeld f_rootNode f_nodeCount f_wordCount f_groupFirst f_atopWaiting f_groupCount f_adverbCount f_canonCount f_postponedCount f_lastStatus : Int32} {a_text a_nodeKind a_nodeFirst a_nodeSecond a_nodeThird a_words a_outerFirst a_outerAtop a_canon a_postponed a_cells a_lengths a_frameNode a_frameDyadic a_frameX a_frameY a_framePhase : Nat → Int32} {post : SX → Prop} {N : Nat} {K F S T : Nat → Nat} {ax ay R : List Int32} {n : Nat} {d : Bool} {p : Nat} {x y w : List Int32} {r : List am_F} (H : xs_H N K F S T ax ay R n d p x y w r a_nodeKind a_nodeFirst a_nodeSecond a_nodeThird a_cells a_lengths a_frameNode a_frameDyadic a_frameX a_frameY a_framePhase) (hk : K n = 1) (hc : 0 < n)
    (h : ∀ fl fc c l fn fd fx fy fp, xm_O K ax ay n d p x y r R (am_fork (F n) (S n) (T n) d p x y w R) fl fc c l fn fd fx fy fp → post (f_vectorLimit, f_textCount, f_trainHeld, f_rootNode, f_nodeCount, f_wordCount, f_groupFirst, f_atopWaiting, f_groupCount, f_adverbCount, f_canonCount, f_postponedCount, fc, fl, f_lastStatus, a_text, a_nodeKind, a_nodeFirst, a_nodeSecond, a_nodeThird, a_words, a_outerFirst, a_outerAtop, a_canon, a_postponed, c, l, fn, fd, fx, fy, fp)) : wpX_stepFork post (f_vectorLimit, f_textCount, f_trainHeld, f_rootNode, f_nodeCount, f_wordCount, f_groupFirst, f_atopWaiting, f_groupCount, f_adverbCount, f_canonCount, f_postponedCount, nI (r.length + 1), 0, f_lastStatus, a_text, a_nodeKind, a_nodeFirst, a_nodeSecond, a_nodeThird, a_words, a_outerFirst, a_outerAtop, a_canon, a_postponed, a_cells, a_lengths, a_frameNode, a_frameDyadic, a_frameX, a_frameY, a_framePhase) (nI r.length) (nI p) := by
  obtain ⟨hT, hN, hn, hf, hp, ht, hr, h0, h1, h3, p16⟩ := H
  have ht' := ht
  obtain ⟨t1, t2, ⟨sx, x1, x2, x3, x4, x5⟩, ⟨sy, y1, y2, y3, y4, y5⟩, t5, t6⟩ := ht
  have e1 : (nI r.length).toNatClampNeg = r.length := nI_clamp (by omega)
  have e2 : (nI n).toNatClampNeg = n := nI_clamp (by omega)
  have i1 : vp_in (nI r.length) 64 := vp_in_nI (by omega) (by omega)
  have i2 : vp_in (nI n) 64 := vp_in_nI (by omega) (by omega)
  obtain ⟨k1, k2, k3, k4⟩ := hT n hn
  unfold am_fork at h
  refine ⟨i1, nm_r (e' := nI n) (by rw [e1]; exact t1) (xs_slA (xs_slB ?_))⟩
  refine pk_eq p 0 (fun e => ?_) (fun e => pk_eq p 1 (fun e' => ?_) (fun e' => pk_eq p 2 (fun e'' => ?_) (fun e'' => ?_)))
  · rw [if_pos e] at h
    refine ⟨i2, i1, i1, i1, ?_⟩
    rw [e2, e1, k4, t2, x1, y1]
    refine xs_enter (by omega) (h _ _ _ _ _ _ _ _ _ (xm_Op (xm_push R w (T n) d sx sy x y hp ht' hr (ve_Fr _ _ _) h0 h1 (fun _ z => by omega) (fun z => by omega) ⟨by omega, x3, x4⟩ ⟨by omega, y3, y4⟩ x5 y5)))
  · rw [if_neg e, if_pos e'] at h
    refine xv_copy (q := 3) (s := 4 + 3 * r.length) (by omega) (by omega) (by omega) (h3 (by omega)) fun c l hF hL => ⟨i2, i1, i1, i1, ?_⟩
    rw [e2, e1, k2, t2, x1, y1]
    refine xs_enter (by omega) (h _ _ _ _ _ _ _ _ _ (xm_Op (xm_push R R (F n) d sx sy x y hp ht' hr (ve_Fm hF fun t z => by have z' : t = 4 + 3 * r.length := z; omega) h0 h1 (fun _ _ => hL) (fun z => by omega) ⟨by omega, x3, x4⟩ ⟨by omega, y3, y4⟩ (fun z => ve_o hF (fun z => by have z' : sx = 4 + 3 * r.length := z; omega) (x5 z)) (ve_o hF (fun z => by have z' : sy = 4 + 3 * r.length := z; omega) y5))))
  · rw [if_neg e, if_neg e', if_pos e''] at h
    refine xv_copy (q := 3) (s := 4 + 3 * r.length + 1) (by omega) (by omega) (by omega) (h3 (by omega)) fun c l hF hL => ⟨i2, ?_⟩
    rw [e2, k3]
    refine xs_enter (d' := true) (by omega) (h _ _ _ _ _ _ _ _ _ (xm_Op (xm_push R w (S n) true (4 + 3 * r.length + 1) (4 + 3 * r.length) R w hp ht' hr (ve_Fm hF fun t z => by have z' : t = 4 + 3 * r.length + 1 := z; omega) h0 h1 (fun _ z => by omega) (fun z => by omega) ⟨by omega, by omega, by omega⟩ ⟨by omega, by omega, by omega⟩ (fun _ => hL) (ve_o hF (fun z => by have z' : 4 + 3 * r.length = 4 + 3 * r.length + 1 := z; omega) (t5 hk e'')))))
  · rw [if_neg e, if_neg e', if_neg e''] at h
    exact xs_leave (h _ _ _ _ _ _ _ _ _ (xm_Oq (xm_pop hr (ve_Fr _ _ _) h0 h1 (h3 (by omega)))))
theorem xs_b0 (d : Bool) {A B : Prop} (a : d = false → A) (b : d = true → B) : (xm_b d = 0 → A) ∧ (¬ xm_b d = 0 → B) := by
  cases d
  · exact ⟨fun _ => a rfl, fun z => absurd rfl z⟩
  · exact ⟨fun z => absurd z (by decide), fun _ => b rfl⟩
theorem xs_hook1 {f_vectorLimit f_textCount f_trainHeld f_rootNode f_nodeCount f_wordCount f_groupFirst f_atopWaiting f_groupCount f_adverbCount f_canonCount f_postponedCount f_lastStatus : Int32} {a_text a_nodeKind a_nodeFirst a_nodeSecond a_nodeThird a_words a_outerFirst a_outerAtop a_canon a_postponed a_cells a_lengths a_frameNode a_frameDyadic a_frameX a_frameY a_framePhase : Nat → Int32} {post : SX → Prop} {N : Nat} {K F S T : Nat → Nat} {ax ay R : List Int32} {n : Nat} {d : Bool} {p : Nat} {x y w : List Int32} {r : List am_F} (H : xs_H N K F S T ax ay R n d p x y w r a_nodeKind a_nodeFirst a_nodeSecond a_nodeThird a_cells a_lengths a_frameNode a_frameDyadic a_frameX a_frameY a_framePhase) (hk : K n = 2) (hc : 0 < n) {z : Nat} (hz : z < 4 + 3 * r.length ∧ z ≠ 2 ∧ z ≠ 3 ∧ ve_L a_cells a_lengths z (if d = true then x else y))
    (h : ∀ fl fc c l fn fd fx fy fp, xm_O K ax ay n d p x y r R (am_hook (F n) (S n) d p x y w R) fl fc c l fn fd fx fy fp → post (f_vectorLimit, f_textCount, f_trainHeld, f_rootNode, f_nodeCount, f_wordCount, f_groupFirst, f_atopWaiting, f_groupCount, f_adverbCount, f_canonCount, f_postponedCount, fc, fl, f_lastStatus, a_text, a_nodeKind, a_nodeFirst, a_nodeSecond, a_nodeThird, a_words, a_outerFirst, a_outerAtop, a_canon, a_postponed, c, l, fn, fd, fx, fy, fp)) : wX_stepHook_37 post (nI r.length) (nI p) (nI n) (nI (4 + 3 * r.length)) (nI z) f_vectorLimit f_textCount f_trainHeld f_rootNode f_nodeCount f_wordCount f_groupFirst f_atopWaiting f_groupCount f_adverbCount f_canonCount f_postponedCount (nI (r.length + 1)) 0 f_lastStatus a_text a_nodeKind a_nodeFirst a_nodeSecond a_nodeThird a_words a_outerFirst a_outerAtop a_canon a_postponed a_cells a_lengths a_frameNode a_frameDyadic a_frameX a_frameY a_framePhase := by
  obtain ⟨hT, hN, hn, hf, hp, ht, hr, h0, h1, h3, p16⟩ := H
  have ht' := ht
  obtain ⟨t1, t2, ⟨sx, x1, x2, x3, x4, x5⟩, ⟨sy, y1, y2, y3, y4, y5⟩, t5, t6⟩ := ht
  have e1 : (nI r.length).toNatClampNeg = r.length := nI_clamp (by omega)
  have e2 : (nI n).toNatClampNeg = n := nI_clamp (by omega)
  have i1 : vp_in (nI r.length) 64 := vp_in_nI (by omega) (by omega)
  have i2 : vp_in (nI n) 64 := vp_in_nI (by omega) (by omega)
  obtain ⟨k1, k2, k3, k4⟩ := hT n hn
  unfold am_hook at h
  refine pk_eq p 0 (fun e => ?_) (fun e => pk_eq p 1 (fun e' => ?_) (fun e' => ?_))
  · rw [if_pos e] at h
    refine ⟨i2, i1, i1, ?_⟩
    rw [e2, e1, k3, y1]
    refine xs_enter (d' := false) (by omega) (h _ _ _ _ _ _ _ _ _ (xm_Op (xm_push R w (S n) false sy sy [] y hp ht' hr (ve_Fr _ _ _) h0 h1 (fun z => by omega) (fun z => by omega) ⟨by omega, y3, y4⟩ ⟨by omega, y3, y4⟩ (fun z => by cases z) y5)))
  · rw [if_neg e, if_pos e'] at h
    refine xv_copy (q := 3) (s := 4 + 3 * r.length) (by omega) (by omega) (by omega) (h3 (by omega)) fun c l hF hL => ⟨i2, ?_⟩
    rw [e2, k2]
    refine xs_enter (d' := true) (by omega) (h _ _ _ _ _ _ _ _ _ (xm_Op (xm_push R w (F n) true z (4 + 3 * r.length) (if d = true then x else y) R hp ht' hr (ve_Fm hF fun t z => by have z' : t = 4 + 3 * r.length := z; omega) h0 h1 (fun z => by omega) (fun z => by omega) ⟨by omega, hz.2.1, hz.2.2.1⟩ ⟨by omega, by omega, by omega⟩ (fun _ => ve_o hF (fun q => by have z' : z = 4 + 3 * r.length := q; omega) hz.2.2.2) hL)))
  · rw [if_neg e, if_neg e'] at h
    exact xs_leave (h _ _ _ _ _ _ _ _ _ (xm_Oq (xm_pop hr (ve_Fr _ _ _) h0 h1 (h3 (by omega)))))
theorem xs_hook {f_vectorLimit f_textCount f_trainHeld f_rootNode f_nodeCount f_wordCount f_groupFirst f_atopWaiting f_groupCount f_adverbCount f_canonCount f_postponedCount f_lastStatus : Int32} {a_text a_nodeKind a_nodeFirst a_nodeSecond a_nodeThird a_words a_outerFirst a_outerAtop a_canon a_postponed a_cells a_lengths a_frameNode a_frameDyadic a_frameX a_frameY a_framePhase : Nat → Int32} {post : SX → Prop} {N : Nat} {K F S T : Nat → Nat} {ax ay R : List Int32} {n : Nat} {d : Bool} {p : Nat} {x y w : List Int32} {r : List am_F} (H : xs_H N K F S T ax ay R n d p x y w r a_nodeKind a_nodeFirst a_nodeSecond a_nodeThird a_cells a_lengths a_frameNode a_frameDyadic a_frameX a_frameY a_framePhase) (hk : K n = 2) (hc : 0 < n)
    (h : ∀ fl fc c l fn fd fx fy fp, xm_O K ax ay n d p x y r R (am_hook (F n) (S n) d p x y w R) fl fc c l fn fd fx fy fp → post (f_vectorLimit, f_textCount, f_trainHeld, f_rootNode, f_nodeCount, f_wordCount, f_groupFirst, f_atopWaiting, f_groupCount, f_adverbCount, f_canonCount, f_postponedCount, fc, fl, f_lastStatus, a_text, a_nodeKind, a_nodeFirst, a_nodeSecond, a_nodeThird, a_words, a_outerFirst, a_outerAtop, a_canon, a_postponed, c, l, fn, fd, fx, fy, fp)) : wpX_stepHook post (f_vectorLimit, f_textCount, f_trainHeld, f_rootNode, f_nodeCount, f_wordCount, f_groupFirst, f_atopWaiting, f_groupCount, f_adverbCount, f_canonCount, f_postponedCount, nI (r.length + 1), 0, f_lastStatus, a_text, a_nodeKind, a_nodeFirst, a_nodeSecond, a_nodeThird, a_words, a_outerFirst, a_outerAtop, a_canon, a_postponed, a_cells, a_lengths, a_frameNode, a_frameDyadic, a_frameX, a_frameY, a_framePhase) (nI r.length) (nI p) := by
  have HH := H
  obtain ⟨hT, hN, hn, hf, hp, ht, hr, h0, h1, h3, p16⟩ := H
  have ht' := ht
  obtain ⟨t1, t2, ⟨sx, x1, x2, x3, x4, x5⟩, ⟨sy, y1, y2, y3, y4, y5⟩, t5, t6⟩ := ht
  have e1 : (nI r.length).toNatClampNeg = r.length := nI_clamp (by omega)
  have i1 : vp_in (nI r.length) 64 := vp_in_nI (by omega) (by omega)
  refine ⟨i1, nm_r (e' := nI n) (by rw [e1]; exact t1) (xs_slA ⟨i1, ?_⟩)⟩
  rw [e1, t2]
  refine xs_b0 d (fun hd => ⟨i1, ?_⟩) (fun hd => ⟨i1, ?_⟩)
  · rw [y1]
    exact xs_hook1 HH hk hc ⟨y2, y3, y4, by rw [if_neg (by rw [hd]; decide)]; exact y5⟩ h
  · rw [x1]
    exact xs_hook1 HH hk hc ⟨x2, x3, x4, by rw [if_pos hd]; exact x5 hd⟩ h
theorem xs_atop {f_vectorLimit f_textCount f_trainHeld f_rootNode f_nodeCount f_wordCount f_groupFirst f_atopWaiting f_groupCount f_adverbCount f_canonCount f_postponedCount f_lastStatus : Int32} {a_text a_nodeKind a_nodeFirst a_nodeSecond a_nodeThird a_words a_outerFirst a_outerAtop a_canon a_postponed a_cells a_lengths a_frameNode a_frameDyadic a_frameX a_frameY a_framePhase : Nat → Int32} {post : SX → Prop} {N : Nat} {K F S T : Nat → Nat} {ax ay R : List Int32} {n : Nat} {d : Bool} {p : Nat} {x y w : List Int32} {r : List am_F} (H : xs_H N K F S T ax ay R n d p x y w r a_nodeKind a_nodeFirst a_nodeSecond a_nodeThird a_cells a_lengths a_frameNode a_frameDyadic a_frameX a_frameY a_framePhase) (hk : K n = 64) (hc : 0 < n)
    (h : ∀ fl fc c l fn fd fx fy fp, xm_O K ax ay n d p x y r R (am_atop (F n) (S n) d p x y w R) fl fc c l fn fd fx fy fp → post (f_vectorLimit, f_textCount, f_trainHeld, f_rootNode, f_nodeCount, f_wordCount, f_groupFirst, f_atopWaiting, f_groupCount, f_adverbCount, f_canonCount, f_postponedCount, fc, fl, f_lastStatus, a_text, a_nodeKind, a_nodeFirst, a_nodeSecond, a_nodeThird, a_words, a_outerFirst, a_outerAtop, a_canon, a_postponed, c, l, fn, fd, fx, fy, fp)) : wpX_stepAtop post (f_vectorLimit, f_textCount, f_trainHeld, f_rootNode, f_nodeCount, f_wordCount, f_groupFirst, f_atopWaiting, f_groupCount, f_adverbCount, f_canonCount, f_postponedCount, nI (r.length + 1), 0, f_lastStatus, a_text, a_nodeKind, a_nodeFirst, a_nodeSecond, a_nodeThird, a_words, a_outerFirst, a_outerAtop, a_canon, a_postponed, a_cells, a_lengths, a_frameNode, a_frameDyadic, a_frameX, a_frameY, a_framePhase) (nI r.length) (nI p) := by
  obtain ⟨hT, hN, hn, hf, hp, ht, hr, h0, h1, h3, p16⟩ := H
  have ht' := ht
  obtain ⟨t1, t2, ⟨sx, x1, x2, x3, x4, x5⟩, ⟨sy, y1, y2, y3, y4, y5⟩, t5, t6⟩ := ht
  have e1 : (nI r.length).toNatClampNeg = r.length := nI_clamp (by omega)
  have e2 : (nI n).toNatClampNeg = n := nI_clamp (by omega)
  have i1 : vp_in (nI r.length) 64 := vp_in_nI (by omega) (by omega)
  have i2 : vp_in (nI n) 64 := vp_in_nI (by omega) (by omega)
  obtain ⟨k1, k2, k3, k4⟩ := hT n hn
  unfold am_atop at h
  refine ⟨i1, nm_r (e' := nI n) (by rw [e1]; exact t1) (xs_slA ?_)⟩
  refine pk_eq p 0 (fun e => ?_) (fun e => pk_eq p 1 (fun e' => ?_) (fun e' => ?_))
  · rw [if_pos e] at h
    refine ⟨i2, i1, i1, i1, ?_⟩
    rw [e2, e1, k3, t2, x1, y1]
    refine xs_enter (by omega) (h _ _ _ _ _ _ _ _ _ (xm_Op (xm_push R w (S n) d sx sy x y hp ht' hr (ve_Fr _ _ _) h0 h1 (fun z => by omega) (fun z => by omega) ⟨by omega, x3, x4⟩ ⟨by omega, y3, y4⟩ x5 y5)))
  · rw [if_neg e, if_pos e'] at h
    refine xv_copy (q := 3) (s := 4 + 3 * r.length) (by omega) (by omega) (by omega) (h3 (by omega)) fun c l hF hL => ⟨i2, ?_⟩
    rw [e2, k2]
    refine xs_enter (d' := false) (by omega) (h _ _ _ _ _ _ _ _ _ (xm_Op (xm_push R w (F n) false (4 + 3 * r.length) (4 + 3 * r.length) [] R hp ht' hr (ve_Fm hF fun t z => by have z' : t = 4 + 3 * r.length := z; omega) h0 h1 (fun z => by omega) (fun z => by omega) ⟨by omega, by omega, by omega⟩ ⟨by omega, by omega, by omega⟩ (fun z => by cases z) hL)))
  · rw [if_neg e, if_neg e'] at h
    exact xs_leave (h _ _ _ _ _ _ _ _ _ (xm_Oq (xm_pop hr (ve_Fr _ _ _) h0 h1 (h3 (by omega)))))
end
section
/-! the component's adverbs and leaves -/
theorem ve_Fs {c l c' l' : Nat → Int32} {s q : Nat} (h : ve_F (fun t => t = s) c l c' l') (hs : s = 3 ∨ q ≤ s) : ve_F (fun t => t = 3 ∨ q ≤ t) c l c' l' :=
  ve_Fm h fun t z => by have z' : t = s := z; omega
theorem xs_sf {f_vectorLimit f_textCount f_trainHeld f_rootNode f_nodeCount f_wordCount f_groupFirst f_atopWaiting f_groupCount f_adverbCount f_canonCount f_postponedCount f_frameCount f_failure f_lastStatus : Int32} {a_text a_nodeKind a_nodeFirst a_nodeSecond a_nodeThird a_words a_outerFirst a_outerAtop a_canon a_postponed a_cells a_lengths a_frameNode a_frameDyadic a_frameX a_frameY a_framePhase : Nat → Int32} {post : SX → Prop} {f sx sy : Nat} {d : Bool} {x y : List Int32} (hf : f < 64) (t2 : a_frameDyadic f = xm_b d) (x1 : a_frameX f = nI sx) (y1 : a_frameY f = nI sy)
    (bx : sx < 4 + 3 * f) (hy : sy < 4 + 3 * f) (x5 : d = true → ve_L a_cells a_lengths sx x) (y5 : ve_L a_cells a_lengths sy y)
    (h : ∀ c l, ve_F (fun t => t = 4 + 3 * f) a_cells a_lengths c l → ve_L c l (4 + 3 * f) (if d = true then x else y.take 1) → post (f_vectorLimit, f_textCount, f_trainHeld, f_rootNode, f_nodeCount, f_wordCount, f_groupFirst, f_atopWaiting, f_groupCount, f_adverbCount, f_canonCount, f_postponedCount, f_frameCount, f_failure, f_lastStatus, a_text, a_nodeKind, a_nodeFirst, a_nodeSecond, a_nodeThird, a_words, a_outerFirst, a_outerAtop, a_canon, a_postponed, c, l, a_frameNode, a_frameDyadic, a_frameX, a_frameY, a_framePhase)) :
    wpX_startFold post (f_vectorLimit, f_textCount, f_trainHeld, f_rootNode, f_nodeCount, f_wordCount, f_groupFirst, f_atopWaiting, f_groupCount, f_adverbCount, f_canonCount, f_postponedCount, f_frameCount, f_failure, f_lastStatus, a_text, a_nodeKind, a_nodeFirst, a_nodeSecond, a_nodeThird, a_words, a_outerFirst, a_outerAtop, a_canon, a_postponed, a_cells, a_lengths, a_frameNode, a_frameDyadic, a_frameX, a_frameY, a_framePhase) (nI f) := by
  have e1 : (nI f).toNatClampNeg = f := nI_clamp (by omega)
  have e3 : (nI sy).toNatClampNeg = sy := nI_clamp (by omega)
  have e4 : (nI (4 + 3 * f)).toNatClampNeg = 4 + 3 * f := nI_clamp (by omega)
  have i1 : vp_in (nI f) 64 := vp_in_nI (by omega) (by omega)
  have y16 := y5.1
  refine ⟨i1, nm_r (e' := nI sy) (by rw [e1]; exact y1) (xs_slA ⟨vp_in_nI (by omega) (by omega), nm_r (e' := upd a_lengths (4 + 3 * f) 0) (by rw [e4]) ⟨i1, ?_⟩⟩)⟩
  rw [e1, t2]
  have y5' : ve_L a_cells (upd a_lengths (4 + 3 * f) 0) sy y := ve_o ve_Fl (by omega) y5
  refine xs_b0 d (fun hd => ⟨vp_in_nI (by omega) (by omega), ?_⟩) (fun hd => ⟨i1, ?_⟩)
  · rw [if_neg (by rw [hd]; decide)] at h
    rw [e3, y5'.2.1]
    refine pk_le y.length 0 (fun z => ?_) (fun z => ?_)
    · have : y.take 1 = [] := by rw [ve_nI (by omega : y.length = 0)]; rfl
      rw [this] at h
      exact h _ _ ve_Fl ve_nil
    · refine xv_el (i := 0) (xs := y) (zs := []) (by omega) (by omega) y5' (by omega) ve_nil (by decide) fun c l hF hL => ?_
      rw [ve_t1 (by omega)] at h
      exact h c l (ve_Ft ve_Fl hF) hL
  · rw [if_pos hd] at h
    rw [x1]
    refine xv_vec (xs := x) (zs := []) (by omega) (by omega) (by omega) (ve_o ve_Fl (by omega) (x5 hd)) ve_nil (by have := (x5 hd).1; simpa using this) fun c l hF hL => ?_
    exact h c l (ve_Ft ve_Fl hF) hL
theorem xs_fo {f_vectorLimit f_textCount f_trainHeld f_rootNode f_nodeCount f_wordCount f_groupFirst f_atopWaiting f_groupCount f_adverbCount f_canonCount f_postponedCount f_failure f_lastStatus : Int32} {a_text a_nodeKind a_nodeFirst a_nodeSecond a_nodeThird a_words a_outerFirst a_outerAtop a_canon a_postponed a_cells a_lengths a_frameNode a_frameDyadic a_frameX a_frameY a_framePhase : Nat → Int32} {post : SX → Prop} {f sy vs n n1 p : Nat} {d : Bool} {y v : List Int32} (hf : f < 63) (hn : n < 64) (p16 : p ≤ 16) (t1 : a_frameNode f = nI n) (k2 : a_nodeFirst n = nI n1) (t2 : a_frameDyadic f = xm_b d) (y1 : a_frameY f = nI sy)
    (hy : sy < 4 + 3 * f) (y5 : ve_L a_cells a_lengths sy y) (hv : ve_L a_cells a_lengths vs v) (hv3 : vs ≠ 3) (hvs : vs < 196)
    (ha : am_nx d p < y.length → ∀ c l, ve_F (fun t => t = 4 + 3 * f + 1) a_cells a_lengths c l → ve_L c l (4 + 3 * f + 1) [y.getD (am_nx d p) 0] → post (f_vectorLimit, f_textCount, f_trainHeld, f_rootNode, f_nodeCount, f_wordCount, f_groupFirst, f_atopWaiting, f_groupCount, f_adverbCount, f_canonCount, f_postponedCount, nI (f + 2), f_failure, f_lastStatus, a_text, a_nodeKind, a_nodeFirst, a_nodeSecond, a_nodeThird, a_words, a_outerFirst, a_outerAtop, a_canon, a_postponed, c, l, upd a_frameNode (f + 1) (nI n1), upd a_frameDyadic (f + 1) (xm_b true), upd a_frameX (f + 1) (nI (4 + 3 * f)), upd a_frameY (f + 1) (nI (4 + 3 * f + 1)), upd a_framePhase (f + 1) 0))
    (hb : ¬ am_nx d p < y.length → ∀ c l, ve_F (fun t => t = 3) a_cells a_lengths c l → ve_L c l 3 v → post (f_vectorLimit, f_textCount, f_trainHeld, f_rootNode, f_nodeCount, f_wordCount, f_groupFirst, f_atopWaiting, f_groupCount, f_adverbCount, f_canonCount, f_postponedCount, nI f, f_failure, f_lastStatus, a_text, a_nodeKind, a_nodeFirst, a_nodeSecond, a_nodeThird, a_words, a_outerFirst, a_outerAtop, a_canon, a_postponed, c, l, a_frameNode, a_frameDyadic, a_frameX, a_frameY, a_framePhase)) :
    wpX_foldOn post (f_vectorLimit, f_textCount, f_trainHeld, f_rootNode, f_nodeCount, f_wordCount, f_groupFirst, f_atopWaiting, f_groupCount, f_adverbCount, f_canonCount, f_postponedCount, nI (f + 1), f_failure, f_lastStatus, a_text, a_nodeKind, a_nodeFirst, a_nodeSecond, a_nodeThird, a_words, a_outerFirst, a_outerAtop, a_canon, a_postponed, a_cells, a_lengths, a_frameNode, a_frameDyadic, a_frameX, a_frameY, a_framePhase) (nI f) (nI p) (nI vs) := by
  have e1 : (nI f).toNatClampNeg = f := nI_clamp (by omega)
  have e3 : (nI sy).toNatClampNeg = sy := nI_clamp (by omega)
  have e4 : (nI (4 + 3 * f + 1)).toNatClampNeg = 4 + 3 * f + 1 := nI_clamp (by omega)
  have e5 : (nI n).toNatClampNeg = n := nI_clamp (by omega)
  have i1 : vp_in (nI f) 64 := vp_in_nI (by omega) (by omega)
  have y16 := y5.1
  have main : wX_foldOn_36 post (nI f) (nI vs) (nI sy) (nI (4 + 3 * f)) (nI (4 + 3 * f + 1)) (nI (am_nx d p)) f_vectorLimit f_textCount f_trainHeld f_rootNode f_nodeCount f_wordCount f_groupFirst f_atopWaiting f_groupCount f_adverbCount f_canonCount f_postponedCount (nI (f + 1)) f_failure f_lastStatus a_text a_nodeKind a_nodeFirst a_nodeSecond a_nodeThird a_words a_outerFirst a_outerAtop a_canon a_postponed a_cells a_lengths a_frameNode a_frameDyadic a_frameX a_frameY a_framePhase := by
    have hx : am_nx d p ≤ 17 := by unfold am_nx; split <;> omega
    refine ⟨vp_in_nI (by omega) (by omega), ?_⟩
    rw [e3, y5.2.1]
    refine pk_le y.length (am_nx d p) (fun z => ?_) (fun z => ⟨vp_in_nI (by omega) (by omega), nm_r (e' := upd a_lengths (4 + 3 * f + 1) 0) (by rw [e4]) ?_⟩)
    · refine xv_copy (s := 3) hvs (by omega) hv3 hv fun c l hF hL => ?_
      exact xs_leave (hb (by omega) c l hF hL)
    · refine xv_el (xs := y) (zs := []) (by omega) (by omega) (ve_o ve_Fl (by omega) y5) z ve_nil (by decide) fun c l hF hL => ⟨i1, ?_⟩
      rw [e1, t1]
      refine ⟨vp_in_nI (by omega) (by omega), ?_⟩
      rw [e5, k2]
      exact xs_enter (d' := true) (by omega) (ha z c l (ve_Ft ve_Fl hF) hL)
  refine ⟨i1, nm_r (e' := nI sy) (by rw [e1]; exact y1) (xs_slA (xs_slB ⟨i1, ?_⟩))⟩
  rw [e1, t2]
  refine xs_b0 d (fun hd => ?_) (fun hd => ?_)
  · rw [nI_1]
    have : am_nx d p = p + 1 := by unfold am_nx; rw [if_neg (by rw [hd]; decide)]
    rw [this] at main
    exact main
  · have : am_nx d p = p := by unfold am_nx; rw [if_pos hd]
    rw [this] at main
    exact main
theorem xs_red1 {f_vectorLimit f_textCount f_trainHeld f_rootNode f_nodeCount f_wordCount f_groupFirst f_atopWaiting f_groupCount f_adverbCount f_canonCount f_postponedCount f_lastStatus : Int32} {a_text a_nodeKind a_nodeFirst a_nodeSecond a_nodeThird a_words a_outerFirst a_outerAtop a_canon a_postponed a_cells a_lengths a_frameNode a_frameDyadic a_frameX a_frameY a_framePhase : Nat → Int32} {post : SX → Prop} {N : Nat} {K F S T : Nat → Nat} {ax ay R : List Int32} {n : Nat} {d : Bool} {p : Nat} {x y w : List Int32} {r : List am_F} (H : xs_H N K F S T ax ay R n d p x y w r a_nodeKind a_nodeFirst a_nodeSecond a_nodeThird a_cells a_lengths a_frameNode a_frameDyadic a_frameX a_frameY a_framePhase) (hk : K n = 47) (hc : 0 < n) (hz : ¬ (p = 0 ∧ d = false ∧ y.length = 0)) {c1 l1 : Nat → Int32} (hF1 : ve_F (fun t => t = 4 + 3 * r.length) a_cells a_lengths c1 l1) (hA : ve_L c1 l1 (4 + 3 * r.length) (am_r d p x y R))
    (h : ∀ fl fc c l fn fd fx fy fp, xm_O K ax ay n d p x y r R (am_red (F n) d p x y w R) fl fc c l fn fd fx fy fp → post (f_vectorLimit, f_textCount, f_trainHeld, f_rootNode, f_nodeCount, f_wordCount, f_groupFirst, f_atopWaiting, f_groupCount, f_adverbCount, f_canonCount, f_postponedCount, fc, fl, f_lastStatus, a_text, a_nodeKind, a_nodeFirst, a_nodeSecond, a_nodeThird, a_words, a_outerFirst, a_outerAtop, a_canon, a_postponed, c, l, fn, fd, fx, fy, fp)) : wX_stepReduce_55 post (nI r.length) (nI p) (nI (4 + 3 * r.length)) f_vectorLimit f_textCount f_trainHeld f_rootNode f_nodeCount f_wordCount f_groupFirst f_atopWaiting f_groupCount f_adverbCount f_canonCount f_postponedCount (nI (r.length + 1)) 0 f_lastStatus a_text a_nodeKind a_nodeFirst a_nodeSecond a_nodeThird a_words a_outerFirst a_outerAtop a_canon a_postponed c1 l1 a_frameNode a_frameDyadic a_frameX a_frameY a_framePhase := by
  obtain ⟨hT, hN, hn, hf, hp, ht, hr, h0, h1, h3, p16⟩ := H
  have ht' := ht
  obtain ⟨t1, t2, ⟨sx, x1, x2, x3, x4, x5⟩, ⟨sy, y1, y2, y3, y4, y5⟩, t5, t6⟩ := ht
  obtain ⟨k1, k2, k3, k4⟩ := hT n hn
  unfold am_red at h
  rw [if_neg hz] at h
  refine xs_fo (n := n) (n1 := F n) (y := y) (v := am_r d p x y R) (by omega) (by omega) p16 t1 k2 t2 y1 y2 (ve_o hF1 (by omega) y5) hA (by omega) (by omega) (fun z c l hF hL => ?_) (fun z c l hF hL => ?_)
  · rw [if_pos z] at h
    refine h _ _ _ _ _ _ _ _ _ (xm_Op (xm_push R w (F n) true (4 + 3 * r.length) (4 + 3 * r.length + 1) (am_r d p x y R) _ hp ht' hr (ve_Ft (ve_Fs hF1 (by omega)) (ve_Fs hF (by omega))) h0 h1 (fun z => by omega) (fun z => by omega) ⟨by omega, by omega, by omega⟩ ⟨by omega, by omega, by omega⟩ (fun _ => ve_o hF (by omega) hA) hL))
  · rw [if_neg z] at h
    exact h _ _ _ _ _ _ _ _ _ (xm_Oq (xm_pop hr (ve_Ft (ve_Fs hF1 (by omega)) (ve_Fs hF (by omega))) h0 h1 hL))
theorem xs_red {f_vectorLimit f_textCount f_trainHeld f_rootNode f_nodeCount f_wordCount f_groupFirst f_atopWaiting f_groupCount f_adverbCount f_canonCount f_postponedCount f_lastStatus : Int32} {a_text a_nodeKind a_nodeFirst a_nodeSecond a_nodeThird a_words a_outerFirst a_outerAtop a_canon a_postponed a_cells a_lengths a_frameNode a_frameDyadic a_frameX a_frameY a_framePhase : Nat → Int32} {post : SX → Prop} {N : Nat} {K F S T : Nat → Nat} {ax ay R : List Int32} {n : Nat} {d : Bool} {p : Nat} {x y w : List Int32} {r : List am_F} (H : xs_H N K F S T ax ay R n d p x y w r a_nodeKind a_nodeFirst a_nodeSecond a_nodeThird a_cells a_lengths a_frameNode a_frameDyadic a_frameX a_frameY a_framePhase) (hk : K n = 47) (hc : 0 < n)
    (h : ∀ fl fc c l fn fd fx fy fp, xm_O K ax ay n d p x y r R (am_red (F n) d p x y w R) fl fc c l fn fd fx fy fp → post (f_vectorLimit, f_textCount, f_trainHeld, f_rootNode, f_nodeCount, f_wordCount, f_groupFirst, f_atopWaiting, f_groupCount, f_adverbCount, f_canonCount, f_postponedCount, fc, fl, f_lastStatus, a_text, a_nodeKind, a_nodeFirst, a_nodeSecond, a_nodeThird, a_words, a_outerFirst, a_outerAtop, a_canon, a_postponed, c, l, fn, fd, fx, fy, fp)) : wpX_stepReduce post (f_vectorLimit, f_textCount, f_trainHeld, f_rootNode, f_nodeCount, f_wordCount, f_groupFirst, f_atopWaiting, f_groupCount, f_adverbCount, f_canonCount, f_postponedCount, nI (r.length + 1), 0, f_lastStatus, a_text, a_nodeKind, a_nodeFirst, a_nodeSecond, a_nodeThird, a_words, a_outerFirst, a_outerAtop, a_canon, a_postponed, a_cells, a_lengths, a_frameNode, a_frameDyadic, a_frameX, a_frameY, a_framePhase) (nI r.length) (nI p) := by
  have HH := H
  obtain ⟨hT, hN, hn, hf, hp, ht, hr, h0, h1, h3, p16⟩ := H
  have ht' := ht
  obtain ⟨t1, t2, ⟨sx, x1, x2, x3, x4, x5⟩, ⟨sy, y1, y2, y3, y4, y5⟩, t5, t6⟩ := ht
  have e1 : (nI r.length).toNatClampNeg = r.length := nI_clamp (by omega)
  have i1 : vp_in (nI r.length) 64 := vp_in_nI (by omega) (by omega)
  have e3 : (nI sy).toNatClampNeg = sy := nI_clamp (by omega)
  have y16 := y5.1
  have sf : ¬ (p = 0 ∧ d = false ∧ y.length = 0) → p = 0 → wX_stepReduce_41 post (nI r.length) (nI p) (nI (4 + 3 * r.length)) f_vectorLimit f_textCount f_trainHeld f_rootNode f_nodeCount f_wordCount f_groupFirst f_atopWaiting f_groupCount f_adverbCount f_canonCount f_postponedCount (nI (r.length + 1)) 0 f_lastStatus a_text a_nodeKind a_nodeFirst a_nodeSecond a_nodeThird a_words a_outerFirst a_outerAtop a_canon a_postponed a_cells a_lengths a_frameNode a_frameDyadic a_frameX a_frameY a_framePhase := by
    intro hz p0
    refine xs_sf (by omega) t2 x1 y1 x2 y2 x5 y5 fun c l hF hL => ?_
    refine xs_red1 HH hk hc hz hF ?_ h
    unfold am_r
    rw [if_pos p0]
    exact hL
  unfold wpX_stepReduce
  refine xs_slA ?_
  refine pk_le p 0 (fun z => ⟨i1, ?_⟩) (fun z => ?_)
  · rw [e1, t2]
    refine xs_b0 d (fun hd => ⟨i1, ?_⟩) (fun hd => sf (fun q => by rw [hd] at q; exact absurd q.2.1 (by decide)) (by omega))
    rw [y1]
    refine ⟨vp_in_nI (by omega) (by omega), ?_⟩
    rw [e3, y5.2.1]
    refine pk_le y.length 0 (fun q => ?_) (fun q => sf (fun z => by omega) (by omega))
    unfold am_red at h
    rw [if_pos ⟨by omega, hd, by omega⟩] at h
    exact h _ _ _ _ _ _ _ _ _ (xm_Of h0 h1)
  · refine xv_copy (q := 3) (by omega) (by omega) (by omega) (h3 z) fun c l hF hL => ?_
    refine xs_red1 HH hk hc (by omega) hF ?_ h
    unfold am_r
    rw [if_neg (by omega)]
    exact hL
theorem xs_col {f_vectorLimit f_textCount f_trainHeld f_rootNode f_nodeCount f_wordCount f_groupFirst f_atopWaiting f_groupCount f_adverbCount f_canonCount f_postponedCount f_frameCount f_failure f_lastStatus : Int32} {a_text a_nodeKind a_nodeFirst a_nodeSecond a_nodeThird a_words a_outerFirst a_outerAtop a_canon a_postponed a_cells a_lengths a_frameNode a_frameDyadic a_frameX a_frameY a_framePhase : Nat → Int32} {post : Int32 → SX → Prop} {z : Nat} {w R : List Int32} (hz : z < 196) (hz3 : 3 ≠ z) (hR : ve_L a_cells a_lengths 3 R) (hw : ve_L a_cells a_lengths z w) (hw16 : w.length < 16)
    (ha : R.length = 1 → ∀ c l, ve_F (fun t => t = z) a_cells a_lengths c l → ve_L c l z (w ++ R) → post 1 (f_vectorLimit, f_textCount, f_trainHeld, f_rootNode, f_nodeCount, f_wordCount, f_groupFirst, f_atopWaiting, f_groupCount, f_adverbCount, f_canonCount, f_postponedCount, f_frameCount, f_failure, f_lastStatus, a_text, a_nodeKind, a_nodeFirst, a_nodeSecond, a_nodeThird, a_words, a_outerFirst, a_outerAtop, a_canon, a_postponed, c, l, a_frameNode, a_frameDyadic, a_frameX, a_frameY, a_framePhase))
    (hb : R.length ≠ 1 → post 0 (f_vectorLimit, f_textCount, f_trainHeld, f_rootNode, f_nodeCount, f_wordCount, f_groupFirst, f_atopWaiting, f_groupCount, f_adverbCount, f_canonCount, f_postponedCount, f_frameCount, 1, f_lastStatus, a_text, a_nodeKind, a_nodeFirst, a_nodeSecond, a_nodeThird, a_words, a_outerFirst, a_outerAtop, a_canon, a_postponed, a_cells, a_lengths, a_frameNode, a_frameDyadic, a_frameX, a_frameY, a_framePhase)) : wpX_collectReturned post (f_vectorLimit, f_textCount, f_trainHeld, f_rootNode, f_nodeCount, f_wordCount, f_groupFirst, f_atopWaiting, f_groupCount, f_adverbCount, f_canonCount, f_postponedCount, f_frameCount, f_failure, f_lastStatus, a_text, a_nodeKind, a_nodeFirst, a_nodeSecond, a_nodeThird, a_words, a_outerFirst, a_outerAtop, a_canon, a_postponed, a_cells, a_lengths, a_frameNode, a_frameDyadic, a_frameX, a_frameY, a_framePhase) (nI z) := by
  have r16 := hR.1
  refine pk_eq R.length 1 (fun e => ?_) (fun e => hb e) hR.2.1
  exact xv_vec (q := 3) (by omega) hz hz3 hR hw (by omega) (ha e)
theorem xs_scan1 {f_vectorLimit f_textCount f_trainHeld f_rootNode f_nodeCount f_wordCount f_groupFirst f_atopWaiting f_groupCount f_adverbCount f_canonCount f_postponedCount f_lastStatus : Int32} {a_text a_nodeKind a_nodeFirst a_nodeSecond a_nodeThird a_words a_outerFirst a_outerAtop a_canon a_postponed a_cells a_lengths a_frameNode a_frameDyadic a_frameX a_frameY a_framePhase : Nat → Int32} {post : SX → Prop} {N : Nat} {K F S T : Nat → Nat} {ax ay R : List Int32} {n : Nat} {d : Bool} {p : Nat} {x y w : List Int32} {r : List am_F} (H : xs_H N K F S T ax ay R n d p x y w r a_nodeKind a_nodeFirst a_nodeSecond a_nodeThird a_cells a_lengths a_frameNode a_frameDyadic a_frameX a_frameY a_framePhase) (hk : K n = 92) (hc : 0 < n) (hz : ¬ (p ≠ 0 ∧ R.length ≠ 1)) {c1 l1 : Nat → Int32} (hF1 : ve_F (fun t => t = 3 ∨ 4 + 3 * r.length ≤ t) a_cells a_lengths c1 l1) (hA : ve_L c1 l1 (4 + 3 * r.length) (am_r d p x y R)) (hZ : ve_L c1 l1 (4 + 3 * r.length + 2) (am_z d p y w R))
    (h : ∀ fl fc c l fn fd fx fy fp, xm_O K ax ay n d p x y r R (am_scan (F n) d p x y w R) fl fc c l fn fd fx fy fp → post (f_vectorLimit, f_textCount, f_trainHeld, f_rootNode, f_nodeCount, f_wordCount, f_groupFirst, f_atopWaiting, f_groupCount, f_adverbCount, f_canonCount, f_postponedCount, fc, fl, f_lastStatus, a_text, a_nodeKind, a_nodeFirst, a_nodeSecond, a_nodeThird, a_words, a_outerFirst, a_outerAtop, a_canon, a_postponed, c, l, fn, fd, fx, fy, fp)) : wX_stepScan_66 post (nI r.length) (nI p) (nI (4 + 3 * r.length + 2)) f_vectorLimit f_textCount f_trainHeld f_rootNode f_nodeCount f_wordCount f_groupFirst f_atopWaiting f_groupCount f_adverbCount f_canonCount f_postponedCount (nI (r.length + 1)) 0 f_lastStatus a_text a_nodeKind a_nodeFirst a_nodeSecond a_nodeThird a_words a_outerFirst a_outerAtop a_canon a_postponed c1 l1 a_frameNode a_frameDyadic a_frameX a_frameY a_framePhase := by
  obtain ⟨hT, hN, hn, hf, hp, ht, hr, h0, h1, h3, p16⟩ := H
  have ht' := ht
  obtain ⟨t1, t2, ⟨sx, x1, x2, x3, x4, x5⟩, ⟨sy, y1, y2, y3, y4, y5⟩, t5, t6⟩ := ht
  obtain ⟨k1, k2, k3, k4⟩ := hT n hn
  unfold am_scan at h
  rw [if_neg hz] at h
  refine xs_fo (n := n) (n1 := F n) (y := y) (v := am_z d p y w R) (by omega) (by omega) p16 t1 k2 t2 y1 y2 (ve_o hF1 (by omega) y5) hZ (by omega) (by omega) (fun z c l hF hL => ?_) (fun z c l hF hL => ?_)
  · rw [if_pos z] at h
    refine h _ _ _ _ _ _ _ _ _ (xm_Op (xm_push R (am_z d p y w R) (F n) true (4 + 3 * r.length) (4 + 3 * r.length + 1) (am_r d p x y R) _ hp ht' hr (ve_Ft hF1 (ve_Fs hF (by omega))) h0 h1 (fun z => by omega) (fun _ => ve_o hF (by omega) hZ) ⟨by omega, by omega, by omega⟩ ⟨by omega, by omega, by omega⟩ (fun _ => ve_o hF (by omega) hA) hL))
  · rw [if_neg z] at h
    exact h _ _ _ _ _ _ _ _ _ (xm_Oq (xm_pop hr (ve_Ft hF1 (ve_Fs hF (by omega))) h0 h1 hL))
theorem xs_scan {f_vectorLimit f_textCount f_trainHeld f_rootNode f_nodeCount f_wordCount f_groupFirst f_atopWaiting f_groupCount f_adverbCount f_canonCount f_postponedCount f_lastStatus : Int32} {a_text a_nodeKind a_nodeFirst a_nodeSecond a_nodeThird a_words a_outerFirst a_outerAtop a_canon a_postponed a_cells a_lengths a_frameNode a_frameDyadic a_frameX a_frameY a_framePhase : Nat → Int32} {post : SX → Prop} {N : Nat} {K F S T : Nat → Nat} {ax ay R : List Int32} {n : Nat} {d : Bool} {p : Nat} {x y w : List Int32} {r : List am_F} (H : xs_H N K F S T ax ay R n d p x y w r a_nodeKind a_nodeFirst a_nodeSecond a_nodeThird a_cells a_lengths a_frameNode a_frameDyadic a_frameX a_frameY a_framePhase) (hk : K n = 92) (hc : 0 < n) (hw16 : 0 < p → w.length < 16)
    (h : ∀ fl fc c l fn fd fx fy fp, xm_O K ax ay n d p x y r R (am_scan (F n) d p x y w R) fl fc c l fn fd fx fy fp → post (f_vectorLimit, f_textCount, f_trainHeld, f_rootNode, f_nodeCount, f_wordCount, f_groupFirst, f_atopWaiting, f_groupCount, f_adverbCount, f_canonCount, f_postponedCount, fc, fl, f_lastStatus, a_text, a_nodeKind, a_nodeFirst, a_nodeSecond, a_nodeThird, a_words, a_outerFirst, a_outerAtop, a_canon, a_postponed, c, l, fn, fd, fx, fy, fp)) : wpX_stepScan post (f_vectorLimit, f_textCount, f_trainHeld, f_rootNode, f_nodeCount, f_wordCount, f_groupFirst, f_atopWaiting, f_groupCount, f_adverbCount, f_canonCount, f_postponedCount, nI (r.length + 1), 0, f_lastStatus, a_text, a_nodeKind, a_nodeFirst, a_nodeSecond, a_nodeThird, a_words, a_outerFirst, a_outerAtop, a_canon, a_postponed, a_cells, a_lengths, a_frameNode, a_frameDyadic, a_frameX, a_frameY, a_framePhase) (nI r.length) (nI p) := by
  have HH := H
  obtain ⟨hT, hN, hn, hf, hp, ht, hr, h0, h1, h3, p16⟩ := H
  have ht' := ht
  obtain ⟨t1, t2, ⟨sx, x1, x2, x3, x4, x5⟩, ⟨sy, y1, y2, y3, y4, y5⟩, t5, t6⟩ := ht
  have e1 : (nI r.length).toNatClampNeg = r.length := nI_clamp (by omega)
  have i1 : vp_in (nI r.length) 64 := vp_in_nI (by omega) (by omega)
  have e4 : (nI (4 + 3 * r.length + 2)).toNatClampNeg = 4 + 3 * r.length + 2 := nI_clamp (by omega)
  unfold wpX_stepScan
  refine xs_slA ?_
  refine xs_slZ ?_
  refine pk_eq p 0 (fun e => ⟨vp_in_nI (by omega) (by omega), nm_r (e' := upd a_lengths (4 + 3 * r.length + 2) 0) (by rw [e4]) ?_⟩) (fun e => ?_)
  · refine xs_sf (by omega) t2 x1 y1 x2 y2 (fun z => ve_o ve_Fl (by omega) (x5 z)) (ve_o ve_Fl (by omega) y5) fun c l hF hL => ⟨i1, ?_⟩
    have hA : ve_L c l (4 + 3 * r.length) (am_r d p x y R) := by unfold am_r; rw [if_pos e]; exact hL
    have hZ : ve_L c l (4 + 3 * r.length + 2) [] := ve_o hF (by omega) ve_nil
    have hFF := ve_Ft (ve_Fs (q := 4 + 3 * r.length) (ve_Fl (c := a_cells) (l := a_lengths) (s := 4 + 3 * r.length + 2) (y := 0)) (by omega)) (ve_Fs hF (by omega))
    rw [e1, t2]
    refine xs_b0 d (fun hd => ?_) (fun hd => ?_)
    · rw [if_neg (by rw [hd]; decide)] at hL
      refine xv_vec (q := 4 + 3 * r.length) (xs := y.take 1) (zs := []) (by omega) (by omega) (by omega) hL hZ (by have := hL.1; simpa using this) fun c2 l2 hF2 hL2 => ?_
      refine xs_scan1 HH hk hc (by omega) (ve_Ft hFF (ve_Fs hF2 (by omega))) (ve_o hF2 (by omega) hA) ?_ h
      unfold am_z
      rw [if_pos e, if_neg (by rw [hd]; decide)]
      exact hL2
    · refine xs_scan1 HH hk hc (by omega) hFF hA ?_ h
      unfold am_z
      rw [if_pos e, if_pos hd]
      exact hZ
  · refine xs_col (by omega) (by omega) (h3 (by omega)) (t6 (Or.inl hk) (by omega)) (hw16 (by omega)) (fun hR c l hF hL => ?_) (fun hR => ?_)
    · refine br_f (by decide) ?_
      refine xv_copy (q := 3) (s := 4 + 3 * r.length) (by omega) (by omega) (by omega) (ve_o hF (by omega) (h3 (by omega))) fun c2 l2 hF2 hL2 => ?_
      refine xs_scan1 HH hk hc (by omega) (ve_Ft (ve_Fs hF (by omega)) (ve_Fs hF2 (by omega))) ?_ ?_ h
      · unfold am_r
        rw [if_neg e]
        exact hL2
      · unfold am_z
        rw [if_neg e]
        exact ve_o hF2 (by omega) hL
    · refine br_t rfl ?_
      unfold am_scan at h
      rw [if_pos ⟨e, hR⟩] at h
      exact h _ _ _ _ _ _ _ _ _ (xm_Of h0 h1)
theorem xs_ep {f_vectorLimit f_textCount f_trainHeld f_rootNode f_nodeCount f_wordCount f_groupFirst f_atopWaiting f_groupCount f_adverbCount f_canonCount f_postponedCount f_failure f_lastStatus : Int32} {a_text a_nodeKind a_nodeFirst a_nodeSecond a_nodeThird a_words a_outerFirst a_outerAtop a_canon a_postponed a_cells a_lengths a_frameNode a_frameDyadic a_frameX a_frameY a_framePhase : Nat → Int32} {post : SX → Prop} {f sx sy n n1 p : Nat} {d : Bool} {x y : List Int32} (hf : f < 63) (hn : n < 64) (p16 : p < 16) (t1 : a_frameNode f = nI n) (k2 : a_nodeFirst n = nI n1) (t2 : a_frameDyadic f = xm_b d) (x1 : a_frameX f = nI sx) (y1 : a_frameY f = nI sy)
    (bx : sx < 4 + 3 * f) (hy : sy < 4 + 3 * f) (x5 : d = true → ve_L a_cells a_lengths sx x) (y5 : ve_L a_cells a_lengths sy y)
    (gx : d = true → x.length ≠ 1 → p < x.length) (gy : d = true → y.length ≠ 1 → p < y.length) (gm : d = false → p < y.length)
    (h : ∀ c l, ve_F (fun t => t = 3 ∨ 4 + 3 * f ≤ t) a_cells a_lengths c l → ve_F (fun t => t = 4 + 3 * f ∨ t = 4 + 3 * f + 1) a_cells a_lengths c l → (d = true → ve_L c l (4 + 3 * f) (if d = true then [pr_el x p] else [])) → ve_L c l (4 + 3 * f + 1) [if d = true then pr_el y p else y.getD p 0] → post (f_vectorLimit, f_textCount, f_trainHeld, f_rootNode, f_nodeCount, f_wordCount, f_groupFirst, f_atopWaiting, f_groupCount, f_adverbCount, f_canonCount, f_postponedCount, nI (f + 2), f_failure, f_lastStatus, a_text, a_nodeKind, a_nodeFirst, a_nodeSecond, a_nodeThird, a_words, a_outerFirst, a_outerAtop, a_canon, a_postponed, c, l, upd a_frameNode (f + 1) (nI n1), upd a_frameDyadic (f + 1) (xm_b d), upd a_frameX (f + 1) (nI (4 + 3 * f)), upd a_frameY (f + 1) (nI (4 + 3 * f + 1)), upd a_framePhase (f + 1) 0)) :
    wpX_enterPair post (f_vectorLimit, f_textCount, f_trainHeld, f_rootNode, f_nodeCount, f_wordCount, f_groupFirst, f_atopWaiting, f_groupCount, f_adverbCount, f_canonCount, f_postponedCount, nI (f + 1), f_failure, f_lastStatus, a_text, a_nodeKind, a_nodeFirst, a_nodeSecond, a_nodeThird, a_words, a_outerFirst, a_outerAtop, a_canon, a_postponed, a_cells, a_lengths, a_frameNode, a_frameDyadic, a_frameX, a_frameY, a_framePhase) (nI f) (nI p) := by
  have e1 : (nI f).toNatClampNeg = f := nI_clamp (by omega)
  have e2 : (nI n).toNatClampNeg = n := nI_clamp (by omega)
  have e4 : (nI (4 + 3 * f)).toNatClampNeg = 4 + 3 * f := nI_clamp (by omega)
  have e5 : (nI (4 + 3 * f + 1)).toNatClampNeg = 4 + 3 * f + 1 := nI_clamp (by omega)
  have i1 : vp_in (nI f) 64 := vp_in_nI (by omega) (by omega)
  have en : ∀ c l, ve_F (fun t => t = 4 + 3 * f ∨ t = 4 + 3 * f + 1) a_cells a_lengths c l → (d = true → ve_L c l (4 + 3 * f) (if d = true then [pr_el x p] else [])) → ve_L c l (4 + 3 * f + 1) [if d = true then pr_el y p else y.getD p 0] → wX_enterPair_92 post (nI f) (nI (4 + 3 * f)) (nI (4 + 3 * f + 1)) f_vectorLimit f_textCount f_trainHeld f_rootNode f_nodeCount f_wordCount f_groupFirst f_atopWaiting f_groupCount f_adverbCount f_canonCount f_postponedCount (nI (f + 1)) f_failure f_lastStatus a_text a_nodeKind a_nodeFirst a_nodeSecond a_nodeThird a_words a_outerFirst a_outerAtop a_canon a_postponed c l a_frameNode a_frameDyadic a_frameX a_frameY a_framePhase := by
    intro c l hF hA hB
    have hF2 : ve_F (fun t => t = 3 ∨ 4 + 3 * f ≤ t) a_cells a_lengths c l := ve_Fm hF fun t z => by
      have z' : t = 4 + 3 * f ∨ t = 4 + 3 * f + 1 := z
      omega
    refine ⟨i1, ?_⟩
    rw [e1, t1]
    refine ⟨vp_in_nI (by omega) (by omega), i1, ?_⟩
    rw [e2, k2, t2]
    exact xs_enter (by omega) (h c l hF2 hF hA hB)
  unfold wpX_enterPair
  refine xs_slA ?_
  refine xs_slB ?_
  refine ⟨vp_in_nI (by omega) (by omega), nm_r (e' := upd a_lengths (4 + 3 * f) 0) (by rw [e4]) ⟨vp_in_nI (by omega) (by omega), nm_r (e' := upd (upd a_lengths (4 + 3 * f) 0) (4 + 3 * f + 1) 0) (by rw [e5]) ⟨i1, ?_⟩⟩⟩
  have hF0 : ve_F (fun t => t = 4 + 3 * f ∨ t = 4 + 3 * f + 1) a_cells a_lengths a_cells (upd (upd a_lengths (4 + 3 * f) 0) (4 + 3 * f + 1) 0) :=
    ve_Ft (ve_Fm ve_Fl fun t z => Or.inl z) (ve_Fm ve_Fl fun t z => Or.inr z)
  have z1 : ve_L a_cells (upd (upd a_lengths (4 + 3 * f) 0) (4 + 3 * f + 1) 0) (4 + 3 * f) [] := ve_o ve_Fl (by omega) ve_nil
  have z2 : ve_L a_cells (upd (upd a_lengths (4 + 3 * f) 0) (4 + 3 * f + 1) 0) (4 + 3 * f + 1) [] := ve_nil
  have y5' := ve_o hF0 (by omega) y5
  rw [e1, t2]
  refine xs_b0 d (fun hd => ⟨i1, ?_⟩) (fun hd => ⟨i1, ?_⟩)
  · rw [y1]
    refine xv_el (xs := y) (zs := []) (by omega) (by omega) y5' (gm hd) z2 (by decide) fun c l hF hL => ?_
    refine en c l (ve_Ft hF0 (ve_Fm hF fun t z => Or.inr z)) (fun q => by rw [hd] at q; cases q) ?_
    rw [if_neg (by rw [hd]; decide)]
    exact hL
  · have x5' := ve_o hF0 (by omega) (x5 hd)
    rw [x1]
    refine xv_pe (by omega) p16 x5' (gx hd) ⟨i1, ?_⟩
    rw [y1]
    refine xv_pe (by omega) p16 y5' (gy hd) ?_
    refine xv_ap (s := 4 + 3 * f) (zs := []) (by omega) z1 (by decide) fun c l hF hL => ?_
    refine xv_ap (s := 4 + 3 * f + 1) (zs := []) (by omega) (ve_o hF (by omega) z2) (by decide) fun c2 l2 hF2 hL2 => ?_
    refine en c2 l2 (ve_Ft hF0 (ve_Ft (ve_Fm hF fun t z => Or.inl z) (ve_Fm hF2 fun t z => Or.inr z))) (fun _ => ?_) ?_
    · rw [if_pos hd]
      exact ve_o hF2 (by omega) hL
    · rw [if_pos hd]
      exact hL2
end
section
/-! the component: each, leaves, a frame step -/
theorem xs_each2 {f_vectorLimit f_textCount f_trainHeld f_rootNode f_nodeCount f_wordCount f_groupFirst f_atopWaiting f_groupCount f_adverbCount f_canonCount f_postponedCount f_lastStatus : Int32} {a_text a_nodeKind a_nodeFirst a_nodeSecond a_nodeThird a_words a_outerFirst a_outerAtop a_canon a_postponed a_cells a_lengths a_frameNode a_frameDyadic a_frameX a_frameY a_framePhase : Nat → Int32} {post : SX → Prop} {N : Nat} {K F S T : Nat → Nat} {ax ay R : List Int32} {n : Nat} {d : Bool} {p : Nat} {x y w : List Int32} {r : List am_F} (H : xs_H N K F S T ax ay R n d p x y w r a_nodeKind a_nodeFirst a_nodeSecond a_nodeThird a_cells a_lengths a_frameNode a_frameDyadic a_frameX a_frameY a_framePhase) (hk : K n = 34) (hc : 0 < n) {q : Nat} (hq : am_cnt d x y = some q) (q16 : q ≤ 16) (hz : ¬ (p ≠ 0 ∧ R.length ≠ 1)) {c1 l1 : Nat → Int32} (hF1 : ve_F (fun t => t = 4 + 3 * r.length + 2) a_cells a_lengths c1 l1) (hZ : ve_L c1 l1 (4 + 3 * r.length + 2) (am_ze p w R))
    (h : ∀ fl fc c l fn fd fx fy fp, xm_O K ax ay n d p x y r R (am_each (F n) d p x y w R) fl fc c l fn fd fx fy fp → post (f_vectorLimit, f_textCount, f_trainHeld, f_rootNode, f_nodeCount, f_wordCount, f_groupFirst, f_atopWaiting, f_groupCount, f_adverbCount, f_canonCount, f_postponedCount, fc, fl, f_lastStatus, a_text, a_nodeKind, a_nodeFirst, a_nodeSecond, a_nodeThird, a_words, a_outerFirst, a_outerAtop, a_canon, a_postponed, c, l, fn, fd, fx, fy, fp)) : wX_stepEach_86 post (nI r.length) (nI p) (nI (4 + 3 * r.length + 2)) (nI q) f_vectorLimit f_textCount f_trainHeld f_rootNode f_nodeCount f_wordCount f_groupFirst f_atopWaiting f_groupCount f_adverbCount f_canonCount f_postponedCount (nI (r.length + 1)) 0 f_lastStatus a_text a_nodeKind a_nodeFirst a_nodeSecond a_nodeThird a_words a_outerFirst a_outerAtop a_canon a_postponed c1 l1 a_frameNode a_frameDyadic a_frameX a_frameY a_framePhase := by
  obtain ⟨hT, hN, hn, hf, hp, ht, hr, h0, h1, h3, p16⟩ := H
  have ht' := ht
  obtain ⟨t1, t2, ⟨sx, x1, x2, x3, x4, x5⟩, ⟨sy, y1, y2, y3, y4, y5⟩, t5, t6⟩ := ht
  obtain ⟨k1, k2, k3, k4⟩ := hT n hn
  unfold am_each at h
  rw [hq] at h
  dsimp only at h
  rw [if_neg hz] at h
  refine pk_le q p (fun e => ?_) (fun e => ?_)
  · rw [if_neg (by omega)] at h
    refine xv_copy (s := 3) (by omega) (by omega) (by omega) hZ fun c l hF hL => ?_
    exact xs_leave (h _ _ _ _ _ _ _ _ _ (xm_Oq (xm_pop hr (ve_Ft (ve_Fs hF1 (by omega)) (ve_Fs hF (by omega))) h0 h1 hL)))
  · rw [if_pos e] at h
    have gg : (d = true → x.length ≠ 1 → p < x.length) ∧ (d = true → y.length ≠ 1 → p < y.length) ∧ (d = false → p < y.length) := by
      unfold am_cnt at hq
      refine ⟨fun hd => ?_, fun hd => ?_, fun hd => ?_⟩
      · rw [if_pos hd] at hq; exact (pr_cnt_lt hq e).1
      · rw [if_pos hd] at hq; exact (pr_cnt_lt hq e).2
      · rw [if_neg (by rw [hd]; decide)] at hq; cases hq; exact e
    refine xs_ep (n := n) (n1 := F n) (x := x) (y := y) (by omega) (by omega) (by omega) t1 k2 t2 x1 y1 x2 y2 (fun z => ve_o hF1 (by omega) (x5 z)) (ve_o hF1 (by omega) y5) gg.1 gg.2.1 gg.2.2 fun c l hF hF' hA hB => ?_
    refine h _ _ _ _ _ _ _ _ _ (xm_Op (xm_push R (am_ze p w R) (F n) d (4 + 3 * r.length) (4 + 3 * r.length + 1) _ _ hp ht' hr (ve_Ft (ve_Fs hF1 (by omega)) hF) h0 h1 (fun z => by omega) (fun _ => ve_o hF' (by omega) hZ) ⟨by omega, by omega, by omega⟩ ⟨by omega, by omega, by omega⟩ hA hB))
theorem xs_each1 {f_vectorLimit f_textCount f_trainHeld f_rootNode f_nodeCount f_wordCount f_groupFirst f_atopWaiting f_groupCount f_adverbCount f_canonCount f_postponedCount f_lastStatus : Int32} {a_text a_nodeKind a_nodeFirst a_nodeSecond a_nodeThird a_words a_outerFirst a_outerAtop a_canon a_postponed a_cells a_lengths a_frameNode a_frameDyadic a_frameX a_frameY a_framePhase : Nat → Int32} {post : SX → Prop} {N : Nat} {K F S T : Nat → Nat} {ax ay R : List Int32} {n : Nat} {d : Bool} {p : Nat} {x y w : List Int32} {r : List am_F} (H : xs_H N K F S T ax ay R n d p x y w r a_nodeKind a_nodeFirst a_nodeSecond a_nodeThird a_cells a_lengths a_frameNode a_frameDyadic a_frameX a_frameY a_framePhase) (hk : K n = 34) (hc : 0 < n) (hw16 : 0 < p → w.length < 16)
    (h : ∀ fl fc c l fn fd fx fy fp, xm_O K ax ay n d p x y r R (am_each (F n) d p x y w R) fl fc c l fn fd fx fy fp → post (f_vectorLimit, f_textCount, f_trainHeld, f_rootNode, f_nodeCount, f_wordCount, f_groupFirst, f_atopWaiting, f_groupCount, f_adverbCount, f_canonCount, f_postponedCount, fc, fl, f_lastStatus, a_text, a_nodeKind, a_nodeFirst, a_nodeSecond, a_nodeThird, a_words, a_outerFirst, a_outerAtop, a_canon, a_postponed, c, l, fn, fd, fx, fy, fp)) : wX_stepEach_47 post (nI r.length) (nI p) (nI (4 + 3 * r.length + 2)) (xq_c (am_cnt d x y)) f_vectorLimit f_textCount f_trainHeld f_rootNode f_nodeCount f_wordCount f_groupFirst f_atopWaiting f_groupCount f_adverbCount f_canonCount f_postponedCount (nI (r.length + 1)) 0 f_lastStatus a_text a_nodeKind a_nodeFirst a_nodeSecond a_nodeThird a_words a_outerFirst a_outerAtop a_canon a_postponed a_cells a_lengths a_frameNode a_frameDyadic a_frameX a_frameY a_framePhase := by
  have HH := H
  have h' := h
  obtain ⟨hT, hN, hn, hf, hp, ht, hr, h0, h1, h3, p16⟩ := H
  have ht' := ht
  obtain ⟨t1, t2, ⟨sx, x1, x2, x3, x4, x5⟩, ⟨sy, y1, y2, y3, y4, y5⟩, t5, t6⟩ := ht
  have e4 : (nI (4 + 3 * r.length + 2)).toNatClampNeg = 4 + 3 * r.length + 2 := nI_clamp (by omega)
  unfold am_each at h
  cases hq : am_cnt d x y with
  | none =>
    rw [hq] at h
    exact br_t rfl (h _ _ _ _ _ _ _ _ _ (xm_Of h0 h1))
  | some q =>
    have q16 : q ≤ 16 := by
      unfold am_cnt at hq
      split at hq
      · rename_i hd; exact pr_cnt_le hq (x5 hd).1 y5.1
      · cases hq; exact y5.1
    rw [hq] at h
    dsimp only at h
    refine br_f (xq_n1 q16) ?_
    refine pk_eq p 0 (fun e => ⟨vp_in_nI (by omega) (by omega), nm_r (e' := upd a_lengths (4 + 3 * r.length + 2) 0) (by rw [e4]) ?_⟩) (fun e => ?_)
    · refine xs_each2 HH hk hc hq q16 (by omega) ve_Fl ?_ h'
      unfold am_ze
      rw [if_pos e]
      exact ve_nil
    · refine xs_col (by omega) (by omega) (h3 (by omega)) (t6 (Or.inr hk) (by omega)) (hw16 (by omega)) (fun hR c l hF hL => ?_) (fun hR => ?_)
      · refine br_f (by decide) ?_
        refine xs_each2 HH hk hc hq q16 (by omega) hF ?_ h'
        unfold am_ze
        rw [if_neg e]
        exact hL
      · refine br_t rfl ?_
        rw [if_pos ⟨e, hR⟩] at h
        exact h _ _ _ _ _ _ _ _ _ (xm_Of h0 h1)
theorem xs_each {f_vectorLimit f_textCount f_trainHeld f_rootNode f_nodeCount f_wordCount f_groupFirst f_atopWaiting f_groupCount f_adverbCount f_canonCount f_postponedCount f_lastStatus : Int32} {a_text a_nodeKind a_nodeFirst a_nodeSecond a_nodeThird a_words a_outerFirst a_outerAtop a_canon a_postponed a_cells a_lengths a_frameNode a_frameDyadic a_frameX a_frameY a_framePhase : Nat → Int32} {post : SX → Prop} {N : Nat} {K F S T : Nat → Nat} {ax ay R : List Int32} {n : Nat} {d : Bool} {p : Nat} {x y w : List Int32} {r : List am_F} (H : xs_H N K F S T ax ay R n d p x y w r a_nodeKind a_nodeFirst a_nodeSecond a_nodeThird a_cells a_lengths a_frameNode a_frameDyadic a_frameX a_frameY a_framePhase) (hk : K n = 34) (hc : 0 < n) (hw16 : 0 < p → w.length < 16)
    (h : ∀ fl fc c l fn fd fx fy fp, xm_O K ax ay n d p x y r R (am_each (F n) d p x y w R) fl fc c l fn fd fx fy fp → post (f_vectorLimit, f_textCount, f_trainHeld, f_rootNode, f_nodeCount, f_wordCount, f_groupFirst, f_atopWaiting, f_groupCount, f_adverbCount, f_canonCount, f_postponedCount, fc, fl, f_lastStatus, a_text, a_nodeKind, a_nodeFirst, a_nodeSecond, a_nodeThird, a_words, a_outerFirst, a_outerAtop, a_canon, a_postponed, c, l, fn, fd, fx, fy, fp)) : wpX_stepEach post (f_vectorLimit, f_textCount, f_trainHeld, f_rootNode, f_nodeCount, f_wordCount, f_groupFirst, f_atopWaiting, f_groupCount, f_adverbCount, f_canonCount, f_postponedCount, nI (r.length + 1), 0, f_lastStatus, a_text, a_nodeKind, a_nodeFirst, a_nodeSecond, a_nodeThird, a_words, a_outerFirst, a_outerAtop, a_canon, a_postponed, a_cells, a_lengths, a_frameNode, a_frameDyadic, a_frameX, a_frameY, a_framePhase) (nI r.length) (nI p) := by
  have main := xs_each1 H hk hc hw16 h
  obtain ⟨hT, hN, hn, hf, hp, ht, hr, h0, h1, h3, p16⟩ := H
  obtain ⟨t1, t2, ⟨sx, x1, x2, x3, x4, x5⟩, ⟨sy, y1, y2, y3, y4, y5⟩, t5, t6⟩ := ht
  have e1 : (nI r.length).toNatClampNeg = r.length := nI_clamp (by omega)
  have i1 : vp_in (nI r.length) 64 := vp_in_nI (by omega) (by omega)
  have e3 : (nI sy).toNatClampNeg = sy := nI_clamp (by omega)
  refine ⟨i1, nm_r (e' := nI sx) (by rw [e1]; exact x1) ⟨i1, nm_r (e' := nI sy) (by rw [e1]; exact y1) (xs_slZ ⟨i1, ?_⟩)⟩⟩
  rw [e1, t2]
  refine xs_b0 d (fun hd => ⟨vp_in_nI (by omega) (by omega), ?_⟩) (fun hd => ?_)
  · rw [e3, y5.2.1]
    have : am_cnt d x y = some y.length := by unfold am_cnt; rw [if_neg (by rw [hd]; decide)]
    rw [this] at main
    exact main
  · have : am_cnt d x y = pr_cnt x.length y.length := by unfold am_cnt; rw [if_pos hd]
    rw [this] at main
    exact xv_pc (by omega) (by omega) (x5 hd) y5 main
theorem xv_dig {post : Int32 → Prop} {k : Nat} (hk : k < 128) (h1 : 48 ≤ k ∧ k ≤ 57 → post 1) (h0 : ¬ (48 ≤ k ∧ k ≤ 57) → post 0) : wpX_isDigit post (nI k) :=
  pk_lt k 48 (fun e => h0 (by omega)) (fun e => pk_lt 57 k (fun e' => h0 (by omega)) (fun e' => h1 ⟨e, e'⟩))
theorem xs_leaf {f_textCount f_trainHeld f_rootNode f_nodeCount f_wordCount f_groupFirst f_atopWaiting f_groupCount f_adverbCount f_canonCount f_postponedCount f_lastStatus : Int32} {a_text a_nodeKind a_nodeFirst a_nodeSecond a_nodeThird a_words a_outerFirst a_outerAtop a_canon a_postponed a_cells a_lengths a_frameNode a_frameDyadic a_frameX a_frameY a_framePhase : Nat → Int32} {post : SX → Prop} {N : Nat} {K F S T : Nat → Nat} {ax ay R : List Int32} {n : Nat} {d : Bool} {p : Nat} {x y w : List Int32} {r : List am_F} (H : xs_H N K F S T ax ay R n d p x y w r a_nodeKind a_nodeFirst a_nodeSecond a_nodeThird a_cells a_lengths a_frameNode a_frameDyadic a_frameX a_frameY a_framePhase) {lim : Nat} (hl : lim ≤ 16) (hk : K n < 128)
    (h : ∀ fl fc c l fn fd fx fy fp, xm_O K ax ay n d p x y r R (am_leaf lim (K n) d x y) fl fc c l fn fd fx fy fp → post (nI lim, f_textCount, f_trainHeld, f_rootNode, f_nodeCount, f_wordCount, f_groupFirst, f_atopWaiting, f_groupCount, f_adverbCount, f_canonCount, f_postponedCount, fc, fl, f_lastStatus, a_text, a_nodeKind, a_nodeFirst, a_nodeSecond, a_nodeThird, a_words, a_outerFirst, a_outerAtop, a_canon, a_postponed, c, l, fn, fd, fx, fy, fp)) : wpX_stepLeaf post (nI lim, f_textCount, f_trainHeld, f_rootNode, f_nodeCount, f_wordCount, f_groupFirst, f_atopWaiting, f_groupCount, f_adverbCount, f_canonCount, f_postponedCount, nI (r.length + 1), 0, f_lastStatus, a_text, a_nodeKind, a_nodeFirst, a_nodeSecond, a_nodeThird, a_words, a_outerFirst, a_outerAtop, a_canon, a_postponed, a_cells, a_lengths, a_frameNode, a_frameDyadic, a_frameX, a_frameY, a_framePhase) (nI r.length) := by
  obtain ⟨hT, hN, hn, hf, hp, ht, hr, h0, h1, h3, p16⟩ := H
  have ht' := ht
  obtain ⟨t1, t2, ⟨sx, x1, x2, x3, x4, x5⟩, ⟨sy, y1, y2, y3, y4, y5⟩, t5, t6⟩ := ht
  have e1 : (nI r.length).toNatClampNeg = r.length := nI_clamp (by omega)
  have e2 : (nI n).toNatClampNeg = n := nI_clamp (by omega)
  have i1 : vp_in (nI r.length) 64 := vp_in_nI (by omega) (by omega)
  have i2 : vp_in (nI n) 64 := vp_in_nI (by omega) (by omega)
  obtain ⟨k1, k2, k3, k4⟩ := hT n hn
  have hF0 : ve_F (fun t => t = 3) a_cells a_lengths a_cells (upd a_lengths 3 0) := ve_Fl
  have h30 : ve_L a_cells (upd a_lengths 3 0) 3 [] := ve_nil
  have pop : ∀ (v : List Int32) (c l : Nat → Int32), ve_F (fun t => t = 3) a_cells (upd a_lengths 3 0) c l → ve_L c l 3 v → xm_O K ax ay n d p x y r R (am_pop v) 0 (nI r.length) c l a_frameNode a_frameDyadic a_frameX a_frameY a_framePhase :=
    fun v c l hF hL => xm_Oq (xm_pop hr (ve_Ft (ve_Fs hF0 (by omega)) (ve_Fs hF (by omega))) h0 h1 hL)
  unfold am_leaf at h
  refine ⟨i1, ?_⟩
  rw [e1, t1]
  refine ⟨i2, nm_r (e' := nI (K n)) (by rw [e2]; exact k1) (nm_e ?_)⟩
  refine xv_dig hk (fun e => br_f (by decide) ?_) (fun e => br_t rfl ⟨i1, ?_⟩)
  · rw [if_pos e] at h
    rw [show (48 : Int32) = nI 48 from rfl, pk_sub e.1]
    refine xv_ap (s := 3) (zs := []) (by omega) h30 (by decide) fun c l hF hL => ?_
    exact xs_leave (h _ _ _ _ _ _ _ _ _ (pop _ c l hF hL))
  · rw [if_neg e] at h
    rw [t2]
    refine xs_b0 d (fun hd => ⟨i1, ?_⟩) (fun hd => ⟨i1, i1, ?_⟩)
    · rw [if_neg (by rw [hd]; decide)] at h
      rw [y1]
      refine xp_M hk (by omega) y4 (ve_o hF0 y4 y5) h30 fun c l hF hL => ?_
      exact xs_leave (h _ _ _ _ _ _ _ _ _ (pop _ c l hF hL))
    · rw [if_pos hd] at h
      rw [x1, y1]
      refine xd_D hl hk (by omega) (by omega) x4 y4 (ve_o hF0 x4 (x5 hd)) (ve_o hF0 y4 y5) h30 fun c l hv => ?_
      refine xs_leave (h _ _ _ _ _ _ _ _ _ ?_)
      unfold am_dy
      have hc := pr_D_c lim (K n) x y
      by_cases z : (pr_D lim (K n) x y).1 = 0
      · rw [if_pos z, z]
        exact pop _ c l hv.1 (hv.2 z)
      · rw [if_neg z]
        exact xm_Of (ve_o hv.1 (by decide) (ve_o hF0 (by decide) h0)) (ve_o hv.1 (by decide) (ve_o hF0 (by decide) h1))
end
section
/-! the component: a frame's step, and the loop's -/
theorem nd_k {K F S T C A D : Nat → Nat} {n : Nat} (h : nd_ok K F S T C A D n) : K n < 128 := by
  rcases h with ⟨h, -⟩ | ⟨h, -⟩ | ⟨h, -⟩ | ⟨h, -⟩ | ⟨h, -⟩
  · unfold pr_lf pr_vb pr_dig at h; omega
  · unfold pr_av at h; omega
  · omega
  · omega
  · omega
theorem nd_f1 {K F S T C A D : Nat → Nat} {n : Nat} (h : nd_ok K F S T C A D n) (hk : K n = 1) : F n < n ∧ S n < n ∧ T n < n := by
  rcases h with ⟨h, -⟩ | ⟨h, -⟩ | ⟨h, -⟩ | ⟨-, a, b, c, -⟩ | ⟨h, -⟩
  · unfold pr_lf pr_vb pr_dig at h; omega
  · unfold pr_av at h; omega
  · omega
  · exact ⟨a, b, c⟩
  · omega
theorem xs_frame {f_textCount f_trainHeld f_rootNode f_nodeCount f_wordCount f_groupFirst f_atopWaiting f_groupCount f_adverbCount f_canonCount f_postponedCount f_lastStatus : Int32} {a_text a_nodeKind a_nodeFirst a_nodeSecond a_nodeThird a_words a_outerFirst a_outerAtop a_canon a_postponed a_cells a_lengths a_frameNode a_frameDyadic a_frameX a_frameY a_framePhase : Nat → Int32} {post : SX → Prop} {lim N : Nat} {K F S T C A D : Nat → Nat} {ax ay R : List Int32} {n : Nat} {d : Bool} {p : Nat} {x y w : List Int32} {r : List am_F} (hl : lim ≤ 16) (hN : N ≤ 64)
    (hT : tr_X N K F S T a_nodeKind a_nodeFirst a_nodeSecond a_nodeThird) (hK : tr_ok N K F S T C A D) (ho : am_ok N K ((n, d, p, x, y, w) :: r))
    (hS : xm_S K ax ay ((n, d, p, x, y, w) :: r) R (nI (r.length + 1)) a_cells a_lengths a_frameNode a_frameDyadic a_frameX a_frameY a_framePhase)
    (h : ∀ fl fc c l fn fd fx fy fp, xm_O K ax ay n d p x y r R (am_act lim K F S T n d p x y w R) fl fc c l fn fd fx fy fp → post (nI lim, f_textCount, f_trainHeld, f_rootNode, f_nodeCount, f_wordCount, f_groupFirst, f_atopWaiting, f_groupCount, f_adverbCount, f_canonCount, f_postponedCount, fc, fl, f_lastStatus, a_text, a_nodeKind, a_nodeFirst, a_nodeSecond, a_nodeThird, a_words, a_outerFirst, a_outerAtop, a_canon, a_postponed, c, l, fn, fd, fx, fy, fp)) :
    wpX_stepFrame post (nI lim, f_textCount, f_trainHeld, f_rootNode, f_nodeCount, f_wordCount, f_groupFirst, f_atopWaiting, f_groupCount, f_adverbCount, f_canonCount, f_postponedCount, nI (r.length + 1), 0, f_lastStatus, a_text, a_nodeKind, a_nodeFirst, a_nodeSecond, a_nodeThird, a_words, a_outerFirst, a_outerAtop, a_canon, a_postponed, a_cells, a_lengths, a_frameNode, a_frameDyadic, a_frameX, a_frameY, a_framePhase) (nI r.length) := by
  obtain ⟨o1, o2, lc, -⟩ := ho
  obtain ⟨-, h0, h1, ⟨hp, ht, hr⟩, h3⟩ := hS
  have lc' := lc
  obtain ⟨p16, lx, ly, lw, l1, l2, l3⟩ := lc'
  have nd := (hK n o1).1
  have kk := nd_k nd
  have H : xs_H N K F S T ax ay R n d p x y w r a_nodeKind a_nodeFirst a_nodeSecond a_nodeThird a_cells a_lengths a_frameNode a_frameDyadic a_frameX a_frameY (upd a_framePhase r.length (nI (p + 1))) :=
    ⟨hT, hN, o1, o2, pk_us, ht, xm_k r (ve_Fr _ _ _) (fun j hj => ⟨rfl, rfl, rfl, rfl, pk_un (by omega)⟩) hr, h0, h1, h3, p16⟩
  have e1 : (nI r.length).toNatClampNeg = r.length := nI_clamp (by omega)
  have e2 : (nI n).toNatClampNeg = n := nI_clamp (by omega)
  have i1 : vp_in (nI r.length) 64 := vp_in_nI (by omega) (by omega)
  have i2 : vp_in (nI n) 64 := vp_in_nI (by omega) (by omega)
  refine ⟨i1, nm_r (e' := nI p) (by rw [e1]; exact hp) ⟨i1, nm_r (e' := upd a_framePhase r.length (nI (p + 1))) (by rw [e1, nI_1]) ⟨i1, ?_⟩⟩⟩
  rw [e1, ht.1]
  refine ⟨i2, nm_r (e' := nI (K n)) (by rw [e2]; exact (hT n o1).1) ?_⟩
  unfold am_act at h
  refine pk_eq (K n) 1 (fun e => ?_) (fun a1 => pk_eq (K n) 2 (fun e => ?_) (fun a2 => pk_eq (K n) 34 (fun e => ?_) (fun a3 => pk_eq (K n) 47 (fun e => ?_) (fun a4 => pk_eq (K n) 64 (fun e => ?_) (fun a5 => pk_eq (K n) 92 (fun e => ?_) (fun a6 => ?_))))))
  · rw [if_pos e] at h
    exact xs_fork H e (by have := nd_f1 nd e; omega) h
  · rw [if_neg a1, if_pos e] at h
    exact xs_hook H e (by have := am_fs nd (Or.inl e); omega) h
  · rw [if_neg a1, if_neg a2, if_neg (by omega), if_neg (by omega), if_neg (by omega), if_pos e] at h
    exact xs_each H e (by have := am_fa nd (Or.inr (Or.inr e)); omega) (fun z => by have := (l3 e z).1; omega) h
  · rw [if_neg a1, if_neg a2, if_neg (by omega), if_pos e] at h
    exact xs_red H e (by have := am_fa nd (Or.inl e); omega) h
  · rw [if_neg a1, if_neg a2, if_pos e] at h
    exact xs_atop H e (by have := am_fs nd (Or.inr e); omega) h
  · rw [if_neg a1, if_neg a2, if_neg (by omega), if_neg (by omega), if_pos e] at h
    exact xs_scan H e (by have := am_fa nd (Or.inr (Or.inl e)); omega) (fun z => by have := l2 e z; omega) h
  · rw [if_neg a1, if_neg a2, if_neg a5, if_neg a4, if_neg a6, if_neg a3] at h
    exact xs_leaf H hl kk h
def xr_R (lim : Nat) (K : Nat → Nat) (ax ay : List Int32) (f_textCount f_trainHeld f_rootNode f_nodeCount f_wordCount f_groupFirst f_atopWaiting f_groupCount f_adverbCount f_canonCount f_postponedCount f_lastStatus : Int32) (a_text a_nodeKind a_nodeFirst a_nodeSecond a_nodeThird a_words a_outerFirst a_outerAtop a_canon a_postponed : Nat → Int32) (fs : List am_F) (R : List Int32) (u : SX) : Prop :=
  ∃ fc c l fn fd fx fy fp, u = (nI lim, f_textCount, f_trainHeld, f_rootNode, f_nodeCount, f_wordCount, f_groupFirst, f_atopWaiting, f_groupCount, f_adverbCount, f_canonCount, f_postponedCount, fc, 0, f_lastStatus, a_text, a_nodeKind, a_nodeFirst, a_nodeSecond, a_nodeThird, a_words, a_outerFirst, a_outerAtop, a_canon, a_postponed, c, l, fn, fd, fx, fy, fp) ∧ xm_S K ax ay fs R fc c l fn fd fx fy fp
def xr_F (lim : Nat) (ax ay : List Int32) (f_textCount f_trainHeld f_rootNode f_nodeCount f_wordCount f_groupFirst f_atopWaiting f_groupCount f_adverbCount f_canonCount f_postponedCount f_lastStatus : Int32) (a_text a_nodeKind a_nodeFirst a_nodeSecond a_nodeThird a_words a_outerFirst a_outerAtop a_canon a_postponed : Nat → Int32) (e : Nat) (u : SX) : Prop :=
  ∃ fc c l fn fd fx fy fp, u = (nI lim, f_textCount, f_trainHeld, f_rootNode, f_nodeCount, f_wordCount, f_groupFirst, f_atopWaiting, f_groupCount, f_adverbCount, f_canonCount, f_postponedCount, fc, nI e, f_lastStatus, a_text, a_nodeKind, a_nodeFirst, a_nodeSecond, a_nodeThird, a_words, a_outerFirst, a_outerAtop, a_canon, a_postponed, c, l, fn, fd, fx, fy, fp) ∧ ve_L c l 0 ax ∧ ve_L c l 1 ay
def xr_W (post : Int32 → SX → Prop) (k i : Nat) (u : SX) : Prop :=
  match u with
  | (f_vectorLimit, f_textCount, f_trainHeld, f_rootNode, f_nodeCount, f_wordCount, f_groupFirst, f_atopWaiting, f_groupCount, f_adverbCount, f_canonCount, f_postponedCount, f_frameCount, f_failure, f_lastStatus, a_text, a_nodeKind, a_nodeFirst, a_nodeSecond, a_nodeThird, a_words, a_outerFirst, a_outerAtop, a_canon, a_postponed, a_cells, a_lengths, a_frameNode, a_frameDyadic, a_frameX, a_frameY, a_framePhase) => wX_apply_53 post k (nI i) f_vectorLimit f_textCount f_trainHeld f_rootNode f_nodeCount f_wordCount f_groupFirst f_atopWaiting f_groupCount f_adverbCount f_canonCount f_postponedCount f_frameCount f_failure f_lastStatus a_text a_nodeKind a_nodeFirst a_nodeSecond a_nodeThird a_words a_outerFirst a_outerAtop a_canon a_postponed a_cells a_lengths a_frameNode a_frameDyadic a_frameX a_frameY a_framePhase
theorem xr_o {lim : Nat} {K : Nat → Nat} {ax ay : List Int32} (f_textCount f_trainHeld f_rootNode f_nodeCount f_wordCount f_groupFirst f_atopWaiting f_groupCount f_adverbCount f_canonCount f_postponedCount f_lastStatus : Int32) (a_text a_nodeKind a_nodeFirst a_nodeSecond a_nodeThird a_words a_outerFirst a_outerAtop a_canon a_postponed : Nat → Int32) {n : Nat} {d : Bool} {p : Nat} {x y : List Int32} {r : List am_F} {R : List Int32} {o : am_O} {fl fc : Int32} {c l fn fd fx fy fp : Nat → Int32}
    (h : xm_O K ax ay n d p x y r R o fl fc c l fn fd fx fy fp) :
    am_out (xr_F lim ax ay f_textCount f_trainHeld f_rootNode f_nodeCount f_wordCount f_groupFirst f_atopWaiting f_groupCount f_adverbCount f_canonCount f_postponedCount f_lastStatus a_text a_nodeKind a_nodeFirst a_nodeSecond a_nodeThird a_words a_outerFirst a_outerAtop a_canon a_postponed) (xr_R lim K ax ay f_textCount f_trainHeld f_rootNode f_nodeCount f_wordCount f_groupFirst f_atopWaiting f_groupCount f_adverbCount f_canonCount f_postponedCount f_lastStatus a_text a_nodeKind a_nodeFirst a_nodeSecond a_nodeThird a_words a_outerFirst a_outerAtop a_canon a_postponed) n d p x y r R o (nI lim, f_textCount, f_trainHeld, f_rootNode, f_nodeCount, f_wordCount, f_groupFirst, f_atopWaiting, f_groupCount, f_adverbCount, f_canonCount, f_postponedCount, fc, fl, f_lastStatus, a_text, a_nodeKind, a_nodeFirst, a_nodeSecond, a_nodeThird, a_words, a_outerFirst, a_outerAtop, a_canon, a_postponed, c, l, fn, fd, fx, fy, fp) := by
  match o, h with
  | Sum.inl e, h => obtain ⟨rfl, h0, h1⟩ := h; exact ⟨_, _, _, _, _, _, _, _, rfl, h0, h1⟩
  | Sum.inr (Sum.inl v), h => obtain ⟨rfl, h0⟩ := h; exact ⟨_, _, _, _, _, _, _, _, rfl, h0⟩
  | Sum.inr (Sum.inr (w', n', d', x', y')), h => obtain ⟨rfl, h0⟩ := h; exact ⟨_, _, _, _, _, _, _, _, rfl, h0⟩
theorem xr_s {lim N : Nat} {K F S T C A D : Nat → Nat} {ax ay : List Int32} (f_textCount f_trainHeld f_rootNode f_nodeCount f_wordCount f_groupFirst f_atopWaiting f_groupCount f_adverbCount f_canonCount f_postponedCount f_lastStatus : Int32) (a_text a_nodeKind a_nodeFirst a_nodeSecond a_nodeThird a_words a_outerFirst a_outerAtop a_canon a_postponed : Nat → Int32) (hl : lim ≤ 16) (hN : N ≤ 64)
    (hT : tr_X N K F S T a_nodeKind a_nodeFirst a_nodeSecond a_nodeThird) (hK : tr_ok N K F S T C A D) :
    am_stp lim N K F S T 1000000 (xr_F lim ax ay f_textCount f_trainHeld f_rootNode f_nodeCount f_wordCount f_groupFirst f_atopWaiting f_groupCount f_adverbCount f_canonCount f_postponedCount f_lastStatus a_text a_nodeKind a_nodeFirst a_nodeSecond a_nodeThird a_words a_outerFirst a_outerAtop a_canon a_postponed) (xr_R lim K ax ay f_textCount f_trainHeld f_rootNode f_nodeCount f_wordCount f_groupFirst f_atopWaiting f_groupCount f_adverbCount f_canonCount f_postponedCount f_lastStatus a_text a_nodeKind a_nodeFirst a_nodeSecond a_nodeThird a_words a_outerFirst a_outerAtop a_canon a_postponed) xr_W := by
  intro n d p x y w r R u hok hu post k i hi h
  obtain ⟨fc, c, l, fn, fd, fx, fy, fp, rfl, hS⟩ := hu
  have e : fc = nI (r.length + 1) := hS.1
  subst e
  have o2 := hok.2.1
  refine br_f (nI_ge (b := 1000000) hi (by decide)) (br_f (nI_nle (by omega) (by omega)) (br_t rfl ?_))
  rw [nI_pred]
  refine xs_frame hl hN hT hK hok hS fun fl fc' c' l' fn' fd' fx' fy' fp' ho => nm_r (nI_1 i) ?_
  exact h _ (xr_o f_textCount f_trainHeld f_rootNode f_nodeCount f_wordCount f_groupFirst f_atopWaiting f_groupCount f_adverbCount f_canonCount f_postponedCount f_lastStatus a_text a_nodeKind a_nodeFirst a_nodeSecond a_nodeThird a_words a_outerFirst a_outerAtop a_canon a_postponed ho)
end
section
/-! the reference's vectors -/
theorem yv_copyL {g_lim g_tlen g_held g_root g_clen g_xn g_yn g_rn g_stat g_nn g_wsp g_depth g_sp g_err : Int32} {b_text b_canon b_xs b_ys b_res b_kind b_nch b_na b_nb b_nc b_ws b_fb b_pend b_cst b_fnode b_fmode b_fph b_fi b_vec b_vlen : Nat → Int32} {post : SY → Prop} {q s : Nat} (hq : q < 645) (hs : s < 645) (hqs : q ≠ s)
    (h : ∀ c l, ve_F (fun t => t = s) b_vec b_vlen c l → (∀ xs, ve_L b_vec b_vlen q xs → ve_L c l s xs) → post (g_lim, g_tlen, g_held, g_root, g_clen, g_xn, g_yn, g_rn, g_stat, g_nn, g_wsp, g_depth, g_sp, g_err, b_text, b_canon, b_xs, b_ys, b_res, b_kind, b_nch, b_na, b_nb, b_nc, b_ws, b_fb, b_pend, b_cst, b_fnode, b_fmode, b_fph, b_fi, c, l)) :
    ∀ (d i : Nat) (c : Nat → Int32), i + d = 16 → (∀ j, j < i → c (16 * s + j) = b_vec (16 * q + j)) → ve_F (fun t => t = s) b_vec b_vlen c b_vlen →
    ∀ n, d < n → wY_copySlot_25 post (nI q) (nI s) g_lim g_tlen g_held g_root g_clen g_xn g_yn g_rn g_stat g_nn g_wsp g_depth g_sp g_err n (nI i) b_text b_canon b_xs b_ys b_res b_kind b_nch b_na b_nb b_nc b_ws b_fb b_pend b_cst b_fnode b_fmode b_fph b_fi c b_vlen := by
  have e1 : (nI q).toNatClampNeg = q := nI_clamp (by omega)
  have e2 : (nI s).toNatClampNeg = s := nI_clamp (by omega)
  intro d
  induction d with
  | zero =>
    intro i c hi hc hF n hn
    obtain ⟨n, rfl⟩ : ∃ k, n = k + 1 := ⟨n - 1, by omega⟩
    have e : i = 16 := by omega
    subst e
    refine br_t (by decide) ⟨vp_in_nI hq (by omega), vp_in_nI hs (by omega), nm_r (e' := upd b_vlen s (b_vlen q)) (by rw [e1, e2]) (h c _ (ve_Ft hF ve_Fl) fun xs hx => ?_)⟩
    exact ⟨hx.1, pk_us.trans hx.2.1, fun j hj => (hc j (by have := hx.1; omega)).trans (hx.2.2 j hj)⟩
  | succ d ih =>
    intro i c hi hc hF n hn
    obtain ⟨n, rfl⟩ : ∃ k, n = k + 1 := ⟨n - 1, by omega⟩
    have e3 : (nI (16 * q + i)).toNatClampNeg = 16 * q + i := nI_clamp (by omega)
    have e4 : (nI (16 * s + i)).toNatClampNeg = 16 * s + i := nI_clamp (by omega)
    refine br_f (nI_ge (b := 16) (by omega) (by decide)) ⟨by rw [ax_mul]; exact vp_in_nI (by omega) (by omega), by rw [ax_mul]; exact vp_in_nI (by omega) (by omega), nm_r (e' := upd c (16 * s + i) (b_vec (16 * q + i))) (by rw [ax_mul, ax_mul, e3, e4, (hF q hqs).2 i (by omega)]) (nm_r (nI_1 i) ?_)⟩
    refine ih (i + 1) _ (by omega) (fun j hj => ?_) (ve_Ft hF (ve_Fc (by omega))) n (by omega)
    by_cases z : j = i
    · rw [z]; exact pk_us
    · rw [pk_un (by omega)]; exact hc j (by omega)
theorem yv_copy {g_lim g_tlen g_held g_root g_clen g_xn g_yn g_rn g_stat g_nn g_wsp g_depth g_sp g_err : Int32} {b_text b_canon b_xs b_ys b_res b_kind b_nch b_na b_nb b_nc b_ws b_fb b_pend b_cst b_fnode b_fmode b_fph b_fi b_vec b_vlen : Nat → Int32} {post : SY → Prop} {q s : Nat} (hq : q < 645) (hs : s < 645) (hqs : q ≠ s)
    (h : ∀ c l, ve_F (fun t => t = s) b_vec b_vlen c l → (∀ xs, ve_L b_vec b_vlen q xs → ve_L c l s xs) → post (g_lim, g_tlen, g_held, g_root, g_clen, g_xn, g_yn, g_rn, g_stat, g_nn, g_wsp, g_depth, g_sp, g_err, b_text, b_canon, b_xs, b_ys, b_res, b_kind, b_nch, b_na, b_nb, b_nc, b_ws, b_fb, b_pend, b_cst, b_fnode, b_fmode, b_fph, b_fi, c, l)) :
    wpY_copySlot post (g_lim, g_tlen, g_held, g_root, g_clen, g_xn, g_yn, g_rn, g_stat, g_nn, g_wsp, g_depth, g_sp, g_err, b_text, b_canon, b_xs, b_ys, b_res, b_kind, b_nch, b_na, b_nb, b_nc, b_ws, b_fb, b_pend, b_cst, b_fnode, b_fmode, b_fph, b_fi, b_vec, b_vlen) (nI q) (nI s) := by
  refine br_f (nI_pos (by omega)) (br_f (nI_ge (b := 645) hq (by decide)) (br_f (nI_pos (by omega)) (br_t (nI_lt (b := 645) hs (by decide)) ⟨17, ?_⟩)))
  exact yv_copyL hq hs hqs h 16 0 b_vec (by omega) (fun j hj => by omega) (ve_Fr _ _ _) 17 (by omega)
theorem yv_one {g_lim g_tlen g_held g_root g_clen g_xn g_yn g_rn g_stat g_nn g_wsp g_depth g_sp g_err : Int32} {b_text b_canon b_xs b_ys b_res b_kind b_nch b_na b_nb b_nc b_ws b_fb b_pend b_cst b_fnode b_fmode b_fph b_fi b_vec b_vlen : Nat → Int32} {post : SY → Prop} {s : Nat} {v : Int32} (hs : s < 645)
    (h : ∀ c l, ve_F (fun t => t = s) b_vec b_vlen c l → ve_L c l s [v] → post (g_lim, g_tlen, g_held, g_root, g_clen, g_xn, g_yn, g_rn, g_stat, g_nn, g_wsp, g_depth, g_sp, g_err, b_text, b_canon, b_xs, b_ys, b_res, b_kind, b_nch, b_na, b_nb, b_nc, b_ws, b_fb, b_pend, b_cst, b_fnode, b_fmode, b_fph, b_fi, c, l)) :
    wpY_setOne post (g_lim, g_tlen, g_held, g_root, g_clen, g_xn, g_yn, g_rn, g_stat, g_nn, g_wsp, g_depth, g_sp, g_err, b_text, b_canon, b_xs, b_ys, b_res, b_kind, b_nch, b_na, b_nb, b_nc, b_ws, b_fb, b_pend, b_cst, b_fnode, b_fmode, b_fph, b_fi, b_vec, b_vlen) (nI s) v := by
  have e1 : (nI s).toNatClampNeg = s := nI_clamp (by omega)
  have e2 : (nI (16 * s)).toNatClampNeg = 16 * s := nI_clamp (by omega)
  refine br_f (nI_pos (by omega)) (br_t (nI_lt (b := 645) hs (by decide)) ⟨by rw [ax_mul0]; exact vp_in_nI (by omega) (by omega), nm_r (e' := upd b_vec (16 * s) v) (by rw [ax_mul0, e2]) ⟨vp_in_nI hs (by omega), nm_r (e' := upd b_vlen s 1) (by rw [e1]) (h _ _ ?_ ve_one)⟩⟩)
  have := ve_Fu (c := b_vec) (l := b_vlen) (s := s) (n := 0) (x := v) (y := 1) (by decide)
  rw [Nat.add_zero] at this
  exact this
theorem yv_put {g_lim g_tlen g_held g_root g_clen g_xn g_yn g_rn g_stat g_nn g_wsp g_depth g_sp g_err : Int32} {b_text b_canon b_xs b_ys b_res b_kind b_nch b_na b_nb b_nc b_ws b_fb b_pend b_cst b_fnode b_fmode b_fph b_fi b_vec b_vlen : Nat → Int32} {post : SY → Prop} {s : Nat} {w : List Int32} {v : Int32} (hs : s < 645) (hw : ve_L b_vec b_vlen s w) (hw16 : w.length < 16)
    (h : ∀ c l, ve_F (fun t => t = s) b_vec b_vlen c l → ve_L c l s (w ++ [v]) → post (g_lim, g_tlen, g_held, g_root, g_clen, g_xn, g_yn, g_rn, g_stat, g_nn, g_wsp, g_depth, g_sp, g_err, b_text, b_canon, b_xs, b_ys, b_res, b_kind, b_nch, b_na, b_nb, b_nc, b_ws, b_fb, b_pend, b_cst, b_fnode, b_fmode, b_fph, b_fi, c, l)) :
    wpY_put post (g_lim, g_tlen, g_held, g_root, g_clen, g_xn, g_yn, g_rn, g_stat, g_nn, g_wsp, g_depth, g_sp, g_err, b_text, b_canon, b_xs, b_ys, b_res, b_kind, b_nch, b_na, b_nb, b_nc, b_ws, b_fb, b_pend, b_cst, b_fnode, b_fmode, b_fph, b_fi, b_vec, b_vlen) (nI s) (nI w.length) v := by
  have e1 : (nI s).toNatClampNeg = s := nI_clamp (by omega)
  have e2 : (nI (16 * s + w.length)).toNatClampNeg = 16 * s + w.length := nI_clamp (by omega)
  exact br_f (nI_pos (by omega)) (br_f (nI_ge (b := 645) hs (by decide)) (br_f (nI_pos (by omega)) (br_t (nI_lt (b := 16) hw16 (by decide)) ⟨by rw [ax_mul]; exact vp_in_nI (by omega) (by omega), nm_r (e' := upd b_vec (16 * s + w.length) v) (by rw [ax_mul, e2]) ⟨vp_in_nI hs (by omega), nm_r (e' := upd b_vlen s (nI (w.length + 1))) (by rw [e1, nI_1]) (h _ _ (ve_Fu hw16) (ve_app v hw hw16))⟩⟩)))
theorem yv_pairs {g_lim g_tlen g_held g_root g_clen g_xn g_yn g_rn g_stat g_nn g_wsp g_depth g_sp g_err : Int32} {b_text b_canon b_xs b_ys b_res b_kind b_nch b_na b_nb b_nc b_ws b_fb b_pend b_cst b_fnode b_fmode b_fph b_fi b_vec b_vlen : Nat → Int32} {post : Int32 → Prop} {q s : Nat} {xs ys : List Int32} (hq : q < 645) (hs : s < 645)
    (hx : ve_L b_vec b_vlen q xs) (hy : ve_L b_vec b_vlen s ys) (h : post (xq_c (pr_cnt xs.length ys.length))) :
    wpY_pairs post (g_lim, g_tlen, g_held, g_root, g_clen, g_xn, g_yn, g_rn, g_stat, g_nn, g_wsp, g_depth, g_sp, g_err, b_text, b_canon, b_xs, b_ys, b_res, b_kind, b_nch, b_na, b_nb, b_nc, b_ws, b_fb, b_pend, b_cst, b_fnode, b_fmode, b_fph, b_fi, b_vec, b_vlen) (nI q) (nI s) := by
  have e1 : (nI q).toNatClampNeg = q := nI_clamp (by omega)
  have e2 : (nI s).toNatClampNeg = s := nI_clamp (by omega)
  refine ⟨vp_in_nI hq (by omega), nm_r (e' := nI xs.length) (by rw [e1]; exact hx.2.1) ⟨vp_in_nI hs (by omega), nm_r (e' := nI ys.length) (by rw [e2]; exact hy.2.1) ?_⟩⟩
  exact xq_br hx.1 hy.1 h
theorem yv_call {g_lim g_tlen g_held g_root g_clen g_xn g_yn g_rn g_stat g_nn g_wsp g_depth g_err : Int32} {b_text b_canon b_xs b_ys b_res b_kind b_nch b_na b_nb b_nc b_ws b_fb b_pend b_cst b_fnode b_fmode b_fph b_fi b_vec b_vlen : Nat → Int32} {post : SY → Prop} {f n' nx : Nat} {m : Int32} (hf : f < 127)
    (h : post (g_lim, g_tlen, g_held, g_root, g_clen, g_xn, g_yn, g_rn, g_stat, g_nn, g_wsp, g_depth, nI (f + 1), g_err, b_text, b_canon, b_xs, b_ys, b_res, b_kind, b_nch, b_na, b_nb, b_nc, b_ws, b_fb, b_pend, b_cst, upd b_fnode (f + 1) (nI n'), upd b_fmode (f + 1) m, upd (upd b_fph f (nI nx)) (f + 1) 0, upd b_fi (f + 1) 0, b_vec, b_vlen)) :
    wpY_call post (g_lim, g_tlen, g_held, g_root, g_clen, g_xn, g_yn, g_rn, g_stat, g_nn, g_wsp, g_depth, nI f, g_err, b_text, b_canon, b_xs, b_ys, b_res, b_kind, b_nch, b_na, b_nb, b_nc, b_ws, b_fb, b_pend, b_cst, b_fnode, b_fmode, b_fph, b_fi, b_vec, b_vlen) (nI n') m (nI nx) := by
  have e1 : (nI f).toNatClampNeg = f := nI_clamp (by omega)
  have e2 : (nI (f + 1)).toNatClampNeg = f + 1 := nI_clamp (by omega)
  have i2 : vp_in (nI (f + 1)) 128 := vp_in_nI (by omega) (by omega)
  have l2 : nI (f + 1) < 128 := nI_lt (b := 128) (by omega) (by decide)
  simp only [wpY_call, e1, nI_1, e2, forall_eq, l2]
  exact ⟨vp_in_nI (by omega) (by omega), fun _ => ⟨i2, i2, i2, i2, h⟩, fun z => absurd trivial z⟩
end
section
/-! the reference's primitives -/
def yp_I (s : Nat) (L : List Int32) (i : Nat) (c0 l0 c : Nat → Int32) : Prop := (∀ j, j < i → c (16 * s + j) = L.getD j 0) ∧ ve_F (fun t => t = s) c0 l0 c l0
theorem yp_0 (s : Nat) (L : List Int32) (c0 l0 : Nat → Int32) : yp_I s L 0 c0 l0 c0 := ⟨fun j hj => absurd hj (Nat.not_lt_zero _), ve_Fr _ _ _⟩
theorem yp_s {s : Nat} {L : List Int32} {i : Nat} {c0 l0 c : Nat → Int32} {v : Int32} (h : yp_I s L i c0 l0 c) (hi : i < 16) (hv : v = L.getD i 0) : yp_I s L (i + 1) c0 l0 (upd c (16 * s + i) v) := by
  refine ⟨fun j hj => ?_, ve_Ft h.2 (ve_Fc hi)⟩
  by_cases z : j = i
  · rw [z, ← hv]; exact pk_us
  · rw [pk_un (by omega)]; exact h.1 j (by omega)
theorem yp_e {s : Nat} {L : List Int32} {c0 l0 c : Nat → Int32} (h : yp_I s L L.length c0 l0 c) (hL : L.length ≤ 16) : ve_F (fun t => t = s) c0 l0 c (upd l0 s (nI L.length)) ∧ ve_L c (upd l0 s (nI L.length)) s L :=
  ⟨ve_Ft h.2 ve_Fl, hL, pk_us, h.1⟩
theorem yp_o {s q : Nat} {L xs : List Int32} {i : Nat} {c0 l0 c : Nat → Int32} (h : yp_I s L i c0 l0 c) (hq : q ≠ s) (hx : ve_L c0 l0 q xs) {j : Nat} (hj : j < xs.length) : c (16 * q + j) = xs.getD j 0 :=
  ((h.2 q hq).2 j (by have := hx.1; omega)).trans (hx.2.2 j hj)
theorem yp_a {s : Nat} {L : List Int32} {c0 l0 c : Nat → Int32} (v : Int32) (h : yp_I s L L.length c0 l0 c) (hi : L.length < 16) : yp_I s (L ++ [v]) (L ++ [v]).length c0 l0 (upd c (16 * s + L.length) v) := by
  refine ⟨fun j hj => ?_, ve_Ft h.2 (ve_Fc hi)⟩
  rw [ve_len] at hj
  by_cases z : j = L.length
  · rw [z, ve_gr]; exact pk_us
  · rw [ve_gl (by omega), pk_un (by omega)]; exact h.1 j (by omega)
theorem ax_ad (a b : Nat) : nI a + nI b = nI (a + b) := nI_add a b
theorem yp_j2 {g_lim g_tlen g_held g_root g_clen g_xn g_yn g_rn g_stat g_nn g_wsp g_depth g_sp g_err : Int32} {b_text b_canon b_xs b_ys b_res b_kind b_nch b_na b_nb b_nc b_ws b_fb b_pend b_cst b_fnode b_fmode b_fph b_fi b_vec b_vlen : Nat → Int32} {post : SY → Prop} {sy sr : Nat} {xs ys : List Int32} (hsy : sy < 645) (hsr : sr < 645) (hyr : sy ≠ sr) (hy : ve_L b_vec b_vlen sy ys) (hl : xs.length + ys.length ≤ 16)
    (h : ∀ c l, ve_F (fun t => t = sr) b_vec b_vlen c l → ve_L c l sr (xs ++ ys) → post (g_lim, g_tlen, g_held, g_root, g_clen, g_xn, g_yn, g_rn, g_stat, g_nn, g_wsp, g_depth, g_sp, g_err, b_text, b_canon, b_xs, b_ys, b_res, b_kind, b_nch, b_na, b_nb, b_nc, b_ws, b_fb, b_pend, b_cst, b_fnode, b_fmode, b_fph, b_fi, c, l)) : ∀ (r i : Nat) (c : Nat → Int32), i + r = ys.length → yp_I sr (xs ++ ys) (xs.length + i) b_vec b_vlen c →
    ∀ n, r < n → wY_prim_214 post (nI sr) (nI xs.length) (nI ys.length) (nI (16 * sy)) (nI (16 * sr)) g_lim g_tlen g_held g_root g_clen g_xn g_yn g_rn g_stat g_nn g_wsp g_depth g_sp g_err n (nI i) b_text b_canon b_xs b_ys b_res b_kind b_nch b_na b_nb b_nc b_ws b_fb b_pend b_cst b_fnode b_fmode b_fph b_fi c b_vlen := by
  have e1 : (nI sr).toNatClampNeg = sr := nI_clamp (by omega)
  intro r
  induction r with
  | zero =>
    intro i c hi hI n hn
    obtain ⟨n, rfl⟩ : ∃ k, n = k + 1 := ⟨n - 1, by omega⟩
    have e : i = ys.length := by omega
    subst e
    have e2 : (xs ++ ys).length = xs.length + ys.length := List.length_append
    rw [← e2] at hI
    have g := yp_e hI (by omega)
    refine br_t (nI_le (Nat.le_refl _) (by omega)) ⟨vp_in_nI hsr (by omega), nm_r (e' := upd b_vlen sr (nI (xs ++ ys).length)) (by rw [e1, nI_add, e2]) (h _ _ g.1 g.2)⟩
  | succ r ih =>
    intro i c hi hI n hn
    obtain ⟨n, rfl⟩ : ∃ k, n = k + 1 := ⟨n - 1, by omega⟩
    have e3 : (nI (16 * sy + i)).toNatClampNeg = 16 * sy + i := nI_clamp (by omega)
    have e4 : (nI (16 * sr + xs.length + i)).toNatClampNeg = 16 * sr + xs.length + i := nI_clamp (by omega)
    refine br_f (nI_ge (by omega) (by omega)) ?_
    rw [nI_add]
    refine br_f (nI_ge (b := 16) (by omega) (by decide)) ?_
    rw [nI_add, nI_add, nI_add]
    refine ⟨vp_in_nI (by omega) (by omega), vp_in_nI (by omega) (by omega), nm_r (e' := upd c (16 * sr + (xs.length + i)) (ys.getD i 0)) (by rw [e3, e4, yp_o hI hyr hy (by omega), Nat.add_assoc]) (nm_r (nI_1 i) ?_)⟩
    have g := yp_s (i := xs.length + i) (v := ys.getD i 0) hI (by omega) (by rw [List.getD_eq_getElem?_getD, List.getD_eq_getElem?_getD, List.getElem?_append_right (by omega), Nat.add_sub_cancel_left])
    exact ih (i + 1) _ (by omega) g n (by omega)
theorem yp_j1 {g_lim g_tlen g_held g_root g_clen g_xn g_yn g_rn g_stat g_nn g_wsp g_depth g_sp g_err : Int32} {b_text b_canon b_xs b_ys b_res b_kind b_nch b_na b_nb b_nc b_ws b_fb b_pend b_cst b_fnode b_fmode b_fph b_fi b_vec b_vlen : Nat → Int32} {post : SY → Prop} {sx sy sr : Nat} {xs ys : List Int32} (hsx : sx < 645) (hsy : sy < 645) (hsr : sr < 645) (hxr : sx ≠ sr) (hyr : sy ≠ sr) (hx : ve_L b_vec b_vlen sx xs) (hy : ve_L b_vec b_vlen sy ys) (hl : xs.length + ys.length ≤ 16)
    (h : ∀ c l, ve_F (fun t => t = sr) b_vec b_vlen c l → ve_L c l sr (xs ++ ys) → post (g_lim, g_tlen, g_held, g_root, g_clen, g_xn, g_yn, g_rn, g_stat, g_nn, g_wsp, g_depth, g_sp, g_err, b_text, b_canon, b_xs, b_ys, b_res, b_kind, b_nch, b_na, b_nb, b_nc, b_ws, b_fb, b_pend, b_cst, b_fnode, b_fmode, b_fph, b_fi, c, l)) : ∀ (r i : Nat) (c : Nat → Int32), i + r = xs.length → yp_I sr (xs ++ ys) i b_vec b_vlen c →
    ∀ n, r < n → wY_prim_171 post (nI sr) (nI xs.length) (nI ys.length) (nI (16 * sx)) (nI (16 * sy)) (nI (16 * sr)) g_lim g_tlen g_held g_root g_clen g_xn g_yn g_rn g_stat g_nn g_wsp g_depth g_sp g_err n (nI i) b_text b_canon b_xs b_ys b_res b_kind b_nch b_na b_nb b_nc b_ws b_fb b_pend b_cst b_fnode b_fmode b_fph b_fi c b_vlen := by
  intro r
  induction r with
  | zero =>
    intro i c hi hI n hn
    obtain ⟨n, rfl⟩ : ∃ k, n = k + 1 := ⟨n - 1, by omega⟩
    have e : i = xs.length := by omega
    subst e
    exact br_t (nI_le (Nat.le_refl _) (by omega)) ⟨ys.length + 1, yp_j2 hsy hsr hyr hy hl h ys.length 0 c (by omega) hI _ (by omega)⟩
  | succ r ih =>
    intro i c hi hI n hn
    obtain ⟨n, rfl⟩ : ∃ k, n = k + 1 := ⟨n - 1, by omega⟩
    have e3 : (nI (16 * sx + i)).toNatClampNeg = 16 * sx + i := nI_clamp (by omega)
    have e4 : (nI (16 * sr + i)).toNatClampNeg = 16 * sr + i := nI_clamp (by omega)
    refine br_f (nI_ge (by omega) (by omega)) (br_f (nI_ge (b := 16) (by omega) (by decide)) ?_)
    rw [nI_add, nI_add]
    refine ⟨vp_in_nI (by omega) (by omega), vp_in_nI (by omega) (by omega), nm_r (e' := upd c (16 * sr + i) (xs.getD i 0)) (by rw [e3, e4, yp_o hI hxr hx (by omega)]) (nm_r (nI_1 i) ?_)⟩
    refine ih (i + 1) _ (by omega) (yp_s hI (by omega) ?_) n (by omega)
    rw [List.getD_eq_getElem?_getD, List.getD_eq_getElem?_getD, List.getElem?_append_left (by omega)]
theorem yp_rev {g_lim g_tlen g_held g_root g_clen g_xn g_yn g_rn g_stat g_nn g_wsp g_depth g_sp g_err : Int32} {b_text b_canon b_xs b_ys b_res b_kind b_nch b_na b_nb b_nc b_ws b_fb b_pend b_cst b_fnode b_fmode b_fph b_fi b_vec b_vlen : Nat → Int32} {post : SY → Prop} {sy sr : Nat} {ys : List Int32} (hsy : sy < 645) (hsr : sr < 645) (hyr : sy ≠ sr) (hy : ve_L b_vec b_vlen sy ys)
    (h : ∀ c l, ve_F (fun t => t = sr) b_vec b_vlen c l → ve_L c l sr ((List.range ys.length).map (fun i => ys.getD (ys.length - 1 - i) 0)) → post (g_lim, g_tlen, g_held, g_root, g_clen, g_xn, g_yn, g_rn, g_stat, g_nn, g_wsp, g_depth, g_sp, g_err, b_text, b_canon, b_xs, b_ys, b_res, b_kind, b_nch, b_na, b_nb, b_nc, b_ws, b_fb, b_pend, b_cst, b_fnode, b_fmode, b_fph, b_fi, c, l)) : ∀ (r i : Nat) (c : Nat → Int32), i + r = ys.length → yp_I sr ((List.range ys.length).map (fun i => ys.getD (ys.length - 1 - i) 0)) i b_vec b_vlen c →
    ∀ n, r < n → wY_prim_287 post (nI sr) (nI ys.length) (nI (16 * sy)) (nI (16 * sr)) g_lim g_tlen g_held g_root g_clen g_xn g_yn g_rn g_stat g_nn g_wsp g_depth g_sp g_err n (nI i) b_text b_canon b_xs b_ys b_res b_kind b_nch b_na b_nb b_nc b_ws b_fb b_pend b_cst b_fnode b_fmode b_fph b_fi c b_vlen := by
  have e1 : (nI sr).toNatClampNeg = sr := nI_clamp (by omega)
  have y16 := hy.1
  intro r
  induction r with
  | zero =>
    intro i c hi hI n hn
    obtain ⟨n, rfl⟩ : ∃ k, n = k + 1 := ⟨n - 1, by omega⟩
    have e : i = ys.length := by omega
    subst e
    have e2 : ((List.range ys.length).map (fun i => ys.getD (ys.length - 1 - i) 0)).length = ys.length := ve_ml _ _
    have g := yp_e (by rw [e2]; exact hI) (by rw [e2]; exact y16)
    rw [e2] at g
    refine br_t (nI_le (Nat.le_refl _) (by omega)) ⟨vp_in_nI hsr (by omega), nm_r (e' := upd b_vlen sr (nI ys.length)) (by rw [e1]) (h _ _ g.1 g.2)⟩
  | succ r ih =>
    intro i c hi hI n hn
    obtain ⟨n, rfl⟩ : ∃ k, n = k + 1 := ⟨n - 1, by omega⟩
    have e3 : nI (16 * sy) + nI ys.length - 1 - nI i = nI (16 * sy + (ys.length - 1 - i)) := by
      rw [nI_add, show 16 * sy + ys.length = (16 * sy + ys.length - 1) + 1 by omega, nI_pred, pk_sub (by omega)]
      exact congrArg nI (by omega)
    have e5 : (nI (16 * sy + (ys.length - 1 - i))).toNatClampNeg = 16 * sy + (ys.length - 1 - i) := nI_clamp (by omega)
    have e4 : (nI (16 * sr + i)).toNatClampNeg = 16 * sr + i := nI_clamp (by omega)
    refine br_f (nI_ge (by omega) (by omega)) (br_f (nI_ge (b := 16) (by omega) (by decide)) ?_)
    rw [e3, nI_add]
    refine ⟨vp_in_nI (by omega) (by omega), vp_in_nI (by omega) (by omega), nm_r (e' := upd c (16 * sr + i) (ys.getD (ys.length - 1 - i) 0)) (by rw [e5, e4, yp_o hI hyr hy (by omega)]) (nm_r (nI_1 i) ?_)⟩
    refine ih (i + 1) _ (by omega) (yp_s hI (by omega) ?_) n (by omega)
    rw [ve_mg _ (by omega)]
theorem yp_rot {g_lim g_tlen g_held g_root g_clen g_xn g_yn g_rn g_stat g_nn g_wsp g_depth g_sp g_err : Int32} {b_text b_canon b_xs b_ys b_res b_kind b_nch b_na b_nb b_nc b_ws b_fb b_pend b_cst b_fnode b_fmode b_fph b_fi b_vec b_vlen : Nat → Int32} {post : SY → Prop} {sy sr k : Nat} {ys : List Int32} (hsy : sy < 645) (hsr : sr < 645) (hyr : sy ≠ sr) (hy : ve_L b_vec b_vlen sy ys) (hk : k < ys.length) {l1 : Nat → Int32} (hl1 : l1 = upd b_vlen sr 0)
    (h : ∀ c l, ve_F (fun t => t = sr) b_vec b_vlen c l → ve_L c l sr ((List.range ys.length).map (fun i => ys.getD ((i + k) % ys.length) 0)) → post (g_lim, g_tlen, g_held, g_root, g_clen, g_xn, g_yn, g_rn, g_stat, g_nn, g_wsp, g_depth, g_sp, g_err, b_text, b_canon, b_xs, b_ys, b_res, b_kind, b_nch, b_na, b_nb, b_nc, b_ws, b_fb, b_pend, b_cst, b_fnode, b_fmode, b_fph, b_fi, c, l)) : ∀ (r i : Nat) (c : Nat → Int32), i + r = ys.length → yp_I sr ((List.range ys.length).map (fun i => ys.getD ((i + k) % ys.length) 0)) i b_vec b_vlen c →
    ∀ n, r < n → wY_prim_401 post (nI sr) (nI ys.length) (nI (16 * sy)) (nI (16 * sr)) (nI k) g_lim g_tlen g_held g_root g_clen g_xn g_yn g_rn g_stat g_nn g_wsp g_depth g_sp g_err n (nI i) b_text b_canon b_xs b_ys b_res b_kind b_nch b_na b_nb b_nc b_ws b_fb b_pend b_cst b_fnode b_fmode b_fph b_fi c l1 := by
  have e1 : (nI sr).toNatClampNeg = sr := nI_clamp (by omega)
  have y16 := hy.1
  intro r
  induction r with
  | zero =>
    intro i c hi hI n hn
    obtain ⟨n, rfl⟩ : ∃ k, n = k + 1 := ⟨n - 1, by omega⟩
    have e : i = ys.length := by omega
    subst e
    have e2 : ((List.range ys.length).map (fun i => ys.getD ((i + k) % ys.length) 0)).length = ys.length := ve_ml _ _
    have g := yp_e (by rw [e2]; exact hI) (by rw [e2]; exact y16)
    rw [e2] at g
    have e3 : upd l1 sr (nI ys.length) = upd b_vlen sr (nI ys.length) := by
      rw [hl1]
      funext j
      unfold upd
      split <;> rfl
    refine br_t (nI_le (Nat.le_refl _) (by omega)) ⟨vp_in_nI hsr (by omega), nm_r (e' := upd b_vlen sr (nI ys.length)) (by rw [e1, e3]) (h _ _ g.1 g.2)⟩
  | succ r ih =>
    intro i c hi hI n hn
    obtain ⟨n, rfl⟩ : ∃ k, n = k + 1 := ⟨n - 1, by omega⟩
    have hm : (i + k) % ys.length < ys.length := Nat.mod_lt _ (by omega)
    have e5 : (nI (16 * sy + (i + k) % ys.length)).toNatClampNeg = 16 * sy + (i + k) % ys.length := nI_clamp (by omega)
    have e4 : (nI (16 * sr + i)).toNatClampNeg = 16 * sr + i := nI_clamp (by omega)
    refine br_f (nI_ge (by omega) (by omega)) (br_f (nI_ge (b := 16) (by omega) (by decide)) ⟨nI_ne0 (by omega) (by omega), ?_⟩)
    rw [nI_add i k, pk_rem (by omega) (by omega) (by omega), nI_add, nI_add]
    refine ⟨vp_in_nI (by omega) (by omega), vp_in_nI (by omega) (by omega), nm_r (e' := upd c (16 * sr + i) (ys.getD ((i + k) % ys.length) 0)) (by rw [e5, e4, yp_o hI hyr hy (by omega)]) (nm_r (nI_1 i) ?_)⟩
    refine ih (i + 1) _ (by omega) (yp_s hI (by omega) ?_) n (by omega)
    rw [ve_mg _ (by omega)]
end
section
/-! the reference's counted copy and its maps -/
theorem yp_cpI {g_lim g_tlen g_held g_root g_clen g_xn g_yn g_rn g_stat g_nn g_wsp g_depth g_sp g_err : Int32} {b_text b_canon b_xs b_ys b_res b_kind b_nch b_na b_nb b_nc b_ws b_fb b_pend b_cst b_fnode b_fmode b_fph b_fi b_vec b_vlen : Nat → Int32} {post : SY → Prop} {J : Int32 → Int32 → (Nat → Int32) → (Nat → Int32) → (Nat → Int32) → (Nat → Int32) → (Nat → Int32) → (Nat → Int32) → (Nat → Int32) → (Nat → Int32) → (Nat → Int32) → (Nat → Int32) → (Nat → Int32) → (Nat → Int32) → (Nat → Int32) → (Nat → Int32) → (Nat → Int32) → (Nat → Int32) → (Nat → Int32) → (Nat → Int32) → (Nat → Int32) → (Nat → Int32) → Prop} {x7 x8 x9 : Int32} {sy sr i q : Nat} {v : Int32} {acc ys : List Int32} (hsy : sy < 645) (hsr : sr < 645) (hyr : sy ≠ sr) (hy : ve_L b_vec b_vlen sy ys) (hi : i < ys.length) (hv : ys.getD i 0 = v) (hq : acc.length + q ≤ 16)
    (h : ∀ c, yp_I sr (acc ++ List.replicate q v) (acc ++ List.replicate q v).length b_vec b_vlen c → J (nI (acc ++ List.replicate q v).length) (nI (i + 1)) b_text b_canon b_xs b_ys b_res b_kind b_nch b_na b_nb b_nc b_ws b_fb b_pend b_cst b_fnode b_fmode b_fph b_fi c b_vlen) :
    ∀ (r j : Nat) (c : Nat → Int32), j + r = q → yp_I sr (acc ++ List.replicate j v) (acc ++ List.replicate j v).length b_vec b_vlen c →
    ∀ n, r < n → wY_prim_557 post J (nI sr) x7 x8 x9 (nI (16 * sy)) (nI (16 * sr)) (nI i) (nI q) g_lim g_tlen g_held g_root g_clen g_xn g_yn g_rn g_stat g_nn g_wsp g_depth g_sp g_err n (nI (acc ++ List.replicate j v).length) (nI j) b_text b_canon b_xs b_ys b_res b_kind b_nch b_na b_nb b_nc b_ws b_fb b_pend b_cst b_fnode b_fmode b_fph b_fi c b_vlen := by
  have y16 := hy.1
  intro r
  induction r with
  | zero =>
    intro j c hj hI n hn
    obtain ⟨n, rfl⟩ : ∃ k, n = k + 1 := ⟨n - 1, by omega⟩
    have e : j = q := by omega
    subst e
    exact br_t (nI_le (Nat.le_refl _) (by omega)) (nm_r (nI_1 i) (h c hI))
  | succ r ih =>
    intro j c hj hI n hn
    obtain ⟨n, rfl⟩ : ∃ k, n = k + 1 := ⟨n - 1, by omega⟩
    have len : (acc ++ List.replicate j v).length = acc.length + j := by rw [List.length_append, List.length_replicate]
    have e3 : (nI (16 * sy + i)).toNatClampNeg = 16 * sy + i := nI_clamp (by omega)
    have e4 : (nI (16 * sr + (acc ++ List.replicate j v).length)).toNatClampNeg = 16 * sr + (acc ++ List.replicate j v).length := nI_clamp (by omega)
    refine br_f (nI_ge (by omega) (by omega)) (br_f (nI_ge (b := 16) (by omega) (by decide)) ?_)
    rw [nI_add, nI_add]
    have g := yp_a v hI (by omega)
    have e6 : acc ++ List.replicate j v ++ [v] = acc ++ List.replicate (j + 1) v := by rw [List.append_assoc, ← List.replicate_succ']
    have e7 : (acc ++ List.replicate (j + 1) v).length = (acc ++ List.replicate j v).length + 1 := by rw [← e6, ve_len]
    rw [e6] at g
    refine ⟨vp_in_nI (by omega) (by omega), vp_in_nI (by omega) (by omega), nm_r (e' := upd c (16 * sr + (acc ++ List.replicate j v).length) v) (by rw [e3, e4, yp_o hI hyr hy hi, hv]) (nm_r (e' := nI (acc ++ List.replicate (j + 1) v).length) (by rw [nI_1, e7]) (nm_r (nI_1 j) ?_))⟩
    exact ih (j + 1) _ (by omega) g n (by omega)
theorem yp_cpL {g_tlen g_held g_root g_clen g_xn g_yn g_rn g_stat g_nn g_wsp g_depth g_sp : Int32} {b_text b_canon b_xs b_ys b_res b_kind b_nch b_na b_nb b_nc b_ws b_fb b_pend b_cst b_fnode b_fmode b_fph b_fi b_vec b_vlen : Nat → Int32} {post : SY → Prop} {lim sx sy sr : Nat} {xs ys : List Int32} (hl : lim ≤ 16) (hsx : sx < 645) (hsy : sy < 645) (hsr : sr < 645) (hxr : sx ≠ sr) (hyr : sy ≠ sr) (hx : ve_L b_vec b_vlen sx xs) (hy : ve_L b_vec b_vlen sy ys) (hc : xs.length ≠ ys.length → xs.length = 1) :
    ∀ (r i : Nat) (acc : List Int32) (c : Nat → Int32), i + r = ys.length → acc.length ≤ lim → yp_I sr acc acc.length b_vec b_vlen c →
    (∀ c l, vd_R sr (pr_cp lim xs ys r i acc) b_vec b_vlen c l → post (nI lim, g_tlen, g_held, g_root, g_clen, g_xn, g_yn, g_rn, g_stat, g_nn, g_wsp, g_depth, g_sp, nI (pr_cp lim xs ys r i acc).1, b_text, b_canon, b_xs, b_ys, b_res, b_kind, b_nch, b_na, b_nb, b_nc, b_ws, b_fb, b_pend, b_cst, b_fnode, b_fmode, b_fph, b_fi, c, l)) →
    ∀ n, r < n → wY_prim_488 post (nI sr) (nI xs.length) (nI ys.length) (nI (16 * sx)) (nI (16 * sy)) (nI (16 * sr)) (nI lim) g_tlen g_held g_root g_clen g_xn g_yn g_rn g_stat g_nn g_wsp g_depth g_sp 0 n (nI acc.length) (nI i) b_text b_canon b_xs b_ys b_res b_kind b_nch b_na b_nb b_nc b_ws b_fb b_pend b_cst b_fnode b_fmode b_fph b_fi c b_vlen := by
  have e1 : (nI sr).toNatClampNeg = sr := nI_clamp (by omega)
  have y16 := hy.1
  have x16 := hx.1
  intro r
  induction r with
  | zero =>
    intro i acc c hi ha hI h n hn
    obtain ⟨n, rfl⟩ : ∃ k, n = k + 1 := ⟨n - 1, by omega⟩
    have g := yp_e hI (by omega)
    exact br_t (nI_le (by omega) (by omega)) ⟨vp_in_nI hsr (by omega), nm_r (e' := upd b_vlen sr (nI acc.length)) (by rw [e1]) (h _ _ ⟨g.1, fun _ => g.2⟩)⟩
  | succ r ih =>
    intro i acc c hi ha hI h n hn
    obtain ⟨n, rfl⟩ : ∃ k, n = k + 1 := ⟨n - 1, by omega⟩
    refine br_f (nI_ge (by omega) (by omega)) (br_f (nI_ge (b := 16) (by omega) (by decide)) ?_)
    have main : ∀ (z : Nat), z < 16 → c (16 * sx + z) = pr_el xs i → wY_prim_521 post (wY_prim_488 post (nI sr) (nI xs.length) (nI ys.length) (nI (16 * sx)) (nI (16 * sy)) (nI (16 * sr)) (nI lim) g_tlen g_held g_root g_clen g_xn g_yn g_rn g_stat g_nn g_wsp g_depth g_sp 0 n) (nI sr) (nI xs.length) (nI ys.length) (nI (16 * sx)) (nI (16 * sy)) (nI (16 * sr)) (nI acc.length) (nI i) (nI z) (nI (16 * sx)) (nI lim) g_tlen g_held g_root g_clen g_xn g_yn g_rn g_stat g_nn g_wsp g_depth g_sp 0 b_text b_canon b_xs b_ys b_res b_kind b_nch b_na b_nb b_nc b_ws b_fb b_pend b_cst b_fnode b_fmode b_fph b_fi c b_vlen := by
      intro z hz hv
      have e3 : (nI (16 * sx + z)).toNatClampNeg = 16 * sx + z := nI_clamp (by omega)
      unfold wY_prim_521
      rw [nI_add]
      refine ⟨vp_in_nI (by omega) (by omega), nm_r (e' := pr_el xs i) (by rw [e3]; exact hv) ?_⟩
      unfold pr_cp at h
      refine br_c (fun z0 => ?_) (fun z0 => ?_)
      · rw [if_neg (Int32.not_lt.mpr z0)] at h
        rw [pk_sub ha]
        refine br_c (fun z1 => ?_) (fun z1 => ?_)
        · rw [if_neg (Int32.not_lt.mpr z1)] at h
          obtain ⟨q, hq, e1, e2⟩ := pr_cpq (b := lim - acc.length) (by omega) (Int32.not_lt.mpr z0) (Int32.not_lt.mpr z1)
          rw [e1]
          rw [e2] at h
          have r0 : acc ++ List.replicate 0 (ys.getD i 0) = acc := by rw [List.replicate_zero, List.append_nil]
          have cpi := yp_cpI (post := post) (J := wY_prim_488 post (nI sr) (nI xs.length) (nI ys.length) (nI (16 * sx)) (nI (16 * sy)) (nI (16 * sr)) (nI lim) g_tlen g_held g_root g_clen g_xn g_yn g_rn g_stat g_nn g_wsp g_depth g_sp 0 n) (x7 := nI xs.length) (x8 := nI ys.length) (x9 := nI (16 * sx)) (acc := acc) (q := q) (g_lim := nI lim) (g_tlen := g_tlen) (g_held := g_held) (g_root := g_root) (g_clen := g_clen) (g_xn := g_xn) (g_yn := g_yn) (g_rn := g_rn) (g_stat := g_stat) (g_nn := g_nn) (g_wsp := g_wsp) (g_depth := g_depth) (g_sp := g_sp) (g_err := 0) (b_text := b_text) (b_canon := b_canon) (b_xs := b_xs) (b_ys := b_ys) (b_res := b_res) (b_kind := b_kind) (b_nch := b_nch) (b_na := b_na) (b_nb := b_nb) (b_nc := b_nc) (b_ws := b_ws) (b_fb := b_fb) (b_pend := b_pend) (b_cst := b_cst) (b_fnode := b_fnode) (b_fmode := b_fmode) (b_fph := b_fph) (b_fi := b_fi) (b_vec := b_vec) (b_vlen := b_vlen) hsy hsr hyr hy (by omega : i < ys.length) rfl (by omega) (fun c' hI' => ih (i + 1) _ c' (by omega) (by rw [List.length_append, List.length_replicate]; omega) hI' h n (by omega)) q 0 c (by omega) (by rw [r0]; exact hI) (q + 1) (by omega)
          rw [r0] at cpi
          exact ⟨q + 1, cpi⟩
        · rw [if_pos (Int32.not_le.mp z1)] at h
          exact h c b_vlen ⟨hI.2, fun z => by cases z⟩
      · rw [if_pos (Int32.not_le.mp z0)] at h
        exact h c b_vlen ⟨hI.2, fun z => by cases z⟩
    refine pk_eq xs.length ys.length (fun e => ?_) (fun e => ?_)
    · refine main i (by omega) ?_
      rw [yp_o hI hxr hx (by omega)]
      unfold pr_el
      split
      · rename_i e5
        have : i = 0 := by omega
        rw [this]
      · rfl
    · have e5 := hc e
      refine main 0 (by omega) ?_
      rw [yp_o hI hxr hx (by omega)]
      unfold pr_el
      rw [if_pos e5]
theorem yp_875 {g_lim g_tlen g_held g_root g_clen g_xn g_yn g_rn g_stat g_nn g_wsp g_depth g_sp g_err : Int32} {b_text b_canon b_xs b_ys b_res b_kind b_nch b_na b_nb b_nc b_ws b_fb b_pend b_cst b_fnode b_fmode b_fph b_fi b_vec b_vlen : Nat → Int32} {post : SY → Prop} {J : Int32 → (Nat → Int32) → (Nat → Int32) → (Nat → Int32) → (Nat → Int32) → (Nat → Int32) → (Nat → Int32) → (Nat → Int32) → (Nat → Int32) → (Nat → Int32) → (Nat → Int32) → (Nat → Int32) → (Nat → Int32) → (Nat → Int32) → (Nat → Int32) → (Nat → Int32) → (Nat → Int32) → (Nat → Int32) → (Nat → Int32) → (Nat → Int32) → (Nat → Int32) → Prop} {x2 x3 x6 x7 x8 x9 x10 x12 v : Int32} {sr i : Nat} (hsr : sr < 645) (hi : i < 16)
    (h : J (nI (i + 1)) b_text b_canon b_xs b_ys b_res b_kind b_nch b_na b_nb b_nc b_ws b_fb b_pend b_cst b_fnode b_fmode b_fph b_fi (upd b_vec (16 * sr + i) v) b_vlen) : wY_prim_875 post J x2 x3 x6 x7 x8 x9 x10 (nI (16 * sr)) x12 (nI i) v g_lim g_tlen g_held g_root g_clen g_xn g_yn g_rn g_stat g_nn g_wsp g_depth g_sp g_err b_text b_canon b_xs b_ys b_res b_kind b_nch b_na b_nb b_nc b_ws b_fb b_pend b_cst b_fnode b_fmode b_fph b_fi b_vec b_vlen := by
  have e4 : (nI (16 * sr + i)).toNatClampNeg = 16 * sr + i := nI_clamp (by omega)
  unfold wY_prim_875
  rw [nI_add]
  exact ⟨vp_in_nI (by omega) (by omega), nm_r (by rw [e4]) (nm_r (nI_1 i) h)⟩
theorem yp_708m {g_lim g_tlen g_held g_root g_clen g_xn g_yn g_rn g_stat g_nn g_wsp g_depth g_sp g_err : Int32} {b_text b_canon b_xs b_ys b_res b_kind b_nch b_na b_nb b_nc b_ws b_fb b_pend b_cst b_fnode b_fmode b_fph b_fi b_vec b_vlen : Nat → Int32} {post : SY → Prop} {J : Int32 → (Nat → Int32) → (Nat → Int32) → (Nat → Int32) → (Nat → Int32) → (Nat → Int32) → (Nat → Int32) → (Nat → Int32) → (Nat → Int32) → (Nat → Int32) → (Nat → Int32) → (Nat → Int32) → (Nat → Int32) → (Nat → Int32) → (Nat → Int32) → (Nat → Int32) → (Nat → Int32) → (Nat → Int32) → (Nat → Int32) → (Nat → Int32) → (Nat → Int32) → Prop} {x6 x7 x8 x9 x10 x12 x14 : Int32} {k sr i a b : Nat} (hk : k < 128) (hsr : sr < 645) (hi : i < 16) (hab : a + b < 10320)
    (h : J (nI (i + 1)) b_text b_canon b_xs b_ys b_res b_kind b_nch b_na b_nb b_nc b_ws b_fb b_pend b_cst b_fnode b_fmode b_fph b_fi (upd b_vec (16 * sr + i) (pr_m1 k (b_vec (a + b)))) b_vlen) : wY_prim_708 post J (nI k) 1 x6 x7 x8 x9 x10 (nI (16 * sr)) x12 (nI i) x14 (nI b) (nI a) g_lim g_tlen g_held g_root g_clen g_xn g_yn g_rn g_stat g_nn g_wsp g_depth g_sp g_err b_text b_canon b_xs b_ys b_res b_kind b_nch b_na b_nb b_nc b_ws b_fb b_pend b_cst b_fnode b_fmode b_fph b_fi b_vec b_vlen := by
  have e4 : (nI (a + b)).toNatClampNeg = a + b := nI_clamp (by omega)
  unfold wY_prim_708
  rw [nI_add]
  refine ⟨vp_in_nI (by omega) (by omega), nm_r (e' := b_vec (a + b)) (by rw [e4]) (br_t rfl ?_)⟩
  generalize b_vec (a + b) = v at h
  unfold pr_m1 at h
  refine pk_eq k 43 (fun e1 => ?_) (fun e1 => pk_eq k 45 (fun e2 => ?_) (fun e2 => pk_eq k 42 (fun e => ?_) (fun e => pk_eq k 60 (fun e3 => ?_) (fun e3 => ?_))))
  · rw [if_pos e1] at h; exact yp_875 hsr hi h
  · rw [if_neg e1, if_pos e2] at h; exact yp_875 hsr hi h
  · rw [if_neg e1, if_neg e2, if_pos e] at h
    refine br_c (fun h0 => br_c (fun h1 => ?_) (fun h1 => ?_)) (fun h0 => ?_)
    · rw [if_neg (Int32.not_lt.mpr h1), if_neg (Int32.not_lt.mpr h0)] at h; exact yp_875 hsr hi h
    · rw [if_pos (Int32.not_le.mp h1)] at h; exact yp_875 hsr hi h
    · rw [if_neg (Int32.not_lt.mpr (Int32.le_of_lt (Int32.not_le.mp h0))), if_pos (Int32.not_le.mp h0)] at h; exact yp_875 hsr hi h
  · rw [if_neg e1, if_neg e2, if_neg e, if_pos e3] at h; exact yp_875 hsr hi h
  · rw [if_neg e1, if_neg e2, if_neg e, if_neg e3] at h; exact yp_875 hsr hi h
theorem yp_708d {g_lim g_tlen g_held g_root g_clen g_xn g_yn g_rn g_stat g_nn g_wsp g_depth g_sp g_err : Int32} {b_text b_canon b_xs b_ys b_res b_kind b_nch b_na b_nb b_nc b_ws b_fb b_pend b_cst b_fnode b_fmode b_fph b_fi b_vec b_vlen : Nat → Int32} {post : SY → Prop} {J : Int32 → (Nat → Int32) → (Nat → Int32) → (Nat → Int32) → (Nat → Int32) → (Nat → Int32) → (Nat → Int32) → (Nat → Int32) → (Nat → Int32) → (Nat → Int32) → (Nat → Int32) → (Nat → Int32) → (Nat → Int32) → (Nat → Int32) → (Nat → Int32) → (Nat → Int32) → (Nat → Int32) → (Nat → Int32) → (Nat → Int32) → (Nat → Int32) → (Nat → Int32) → Prop} {x6 x7 x8 x9 x10 x12 x14 : Int32} {k sr i a b : Nat} (hk : k < 128) (hsr : sr < 645) (hi : i < 16) (hab : a + b < 10320)
    (h : J (nI (i + 1)) b_text b_canon b_xs b_ys b_res b_kind b_nch b_na b_nb b_nc b_ws b_fb b_pend b_cst b_fnode b_fmode b_fph b_fi (upd b_vec (16 * sr + i) (pr_m2 k x14 (b_vec (a + b)))) b_vlen) : wY_prim_708 post J (nI k) 2 x6 x7 x8 x9 x10 (nI (16 * sr)) x12 (nI i) x14 (nI b) (nI a) g_lim g_tlen g_held g_root g_clen g_xn g_yn g_rn g_stat g_nn g_wsp g_depth g_sp g_err b_text b_canon b_xs b_ys b_res b_kind b_nch b_na b_nb b_nc b_ws b_fb b_pend b_cst b_fnode b_fmode b_fph b_fi b_vec b_vlen := by
  have e4 : (nI (a + b)).toNatClampNeg = a + b := nI_clamp (by omega)
  unfold wY_prim_708
  rw [nI_add]
  refine ⟨vp_in_nI (by omega) (by omega), nm_r (e' := b_vec (a + b)) (by rw [e4]) (br_f (by decide) ?_)⟩
  generalize b_vec (a + b) = v at h
  unfold pr_m2 at h
  refine pk_eq k 43 (fun e1 => ?_) (fun e1 => pk_eq k 45 (fun e2 => ?_) (fun e2 => pk_eq k 42 (fun e => ?_) (fun e => pk_eq k 60 (fun e3 => ?_) (fun e3 => ?_))))
  · rw [if_pos e1] at h; exact yp_875 hsr hi h
  · rw [if_neg e1, if_pos e2] at h; exact yp_875 hsr hi h
  · rw [if_neg e1, if_neg e2, if_pos e] at h; exact yp_875 hsr hi h
  · rw [if_neg e1, if_neg e2, if_neg e, if_pos e3] at h
    refine br_c (fun h0 => ?_) (fun h0 => ?_)
    · rw [if_neg (Int32.not_lt.mpr h0)] at h; exact yp_875 hsr hi h
    · rw [if_pos (Int32.not_le.mp h0)] at h; exact yp_875 hsr hi h
  · rw [if_neg e1, if_neg e2, if_neg e, if_neg e3] at h
    refine br_c (fun h0 => ?_) (fun h0 => ?_)
    · rw [if_neg (Int32.not_lt.mpr h0)] at h; exact yp_875 hsr hi h
    · rw [if_pos (Int32.not_le.mp h0)] at h; exact yp_875 hsr hi h
end
section
/-! the reference's primitives, put together -/
theorem yp_649m {g_lim g_tlen g_held g_root g_clen g_xn g_yn g_rn g_stat g_nn g_wsp g_depth g_sp g_err : Int32} {b_text b_canon b_xs b_ys b_res b_kind b_nch b_na b_nb b_nc b_ws b_fb b_pend b_cst b_fnode b_fmode b_fph b_fi b_vec b_vlen : Nat → Int32} {post : SY → Prop} {x7 : Int32} {k sx sy sr : Nat} {ys : List Int32} (hk : k < 128) (hsx : sx < 645) (hsy : sy < 645) (hsr : sr < 645) (hyr : sy ≠ sr) (hy : ve_L b_vec b_vlen sy ys)
    (h : ∀ c l, ve_F (fun t => t = sr) b_vec b_vlen c l → ve_L c l sr ((List.range ys.length).map (fun i => pr_m1 k (ys.getD i 0))) → post (g_lim, g_tlen, g_held, g_root, g_clen, g_xn, g_yn, g_rn, g_stat, g_nn, g_wsp, g_depth, g_sp, g_err, b_text, b_canon, b_xs, b_ys, b_res, b_kind, b_nch, b_na, b_nb, b_nc, b_ws, b_fb, b_pend, b_cst, b_fnode, b_fmode, b_fph, b_fi, c, l)) :
    ∀ (r i : Nat) (c : Nat → Int32), i + r = ys.length → yp_I sr ((List.range ys.length).map (fun i => pr_m1 k (ys.getD i 0))) i b_vec b_vlen c →
    ∀ n, r < n → wY_prim_649 post (nI k) 1 (nI sr) x7 (nI ys.length) (nI (16 * sx)) (nI (16 * sy)) (nI (16 * sr)) (nI ys.length) g_lim g_tlen g_held g_root g_clen g_xn g_yn g_rn g_stat g_nn g_wsp g_depth g_sp g_err n (nI i) b_text b_canon b_xs b_ys b_res b_kind b_nch b_na b_nb b_nc b_ws b_fb b_pend b_cst b_fnode b_fmode b_fph b_fi c b_vlen := by
  have e1 : (nI sr).toNatClampNeg = sr := nI_clamp (by omega)
  have y16 := hy.1
  intro r
  induction r with
  | zero =>
    intro i c hi hI n hn
    obtain ⟨n, rfl⟩ : ∃ k, n = k + 1 := ⟨n - 1, by omega⟩
    have e : i = ys.length := by omega
    subst e
    have e2 : ((List.range ys.length).map (fun i => pr_m1 k (ys.getD i 0))).length = ys.length := ve_ml _ _
    have g := yp_e (by rw [e2]; exact hI) (by rw [e2]; exact y16)
    rw [e2] at g
    refine br_t (nI_le (Nat.le_refl _) (by omega)) ⟨vp_in_nI hsr (by omega), nm_r (e' := upd b_vlen sr (nI ys.length)) (by rw [e1]) (h _ _ g.1 g.2)⟩
  | succ r ih =>
    intro i c hi hI n hn
    obtain ⟨n, rfl⟩ : ∃ k, n = k + 1 := ⟨n - 1, by omega⟩
    refine br_f (nI_ge (by omega) (by omega)) (br_f (nI_ge (b := 16) (by omega) (by decide)) ?_)
    have main : ∀ z : Nat, z < 16 → wY_prim_681 post (wY_prim_649 post (nI k) 1 (nI sr) x7 (nI ys.length) (nI (16 * sx)) (nI (16 * sy)) (nI (16 * sr)) (nI ys.length) g_lim g_tlen g_held g_root g_clen g_xn g_yn g_rn g_stat g_nn g_wsp g_depth g_sp g_err n) (nI k) 1 (nI sr) x7 (nI ys.length) (nI (16 * sx)) (nI (16 * sy)) (nI (16 * sr)) (nI ys.length) (nI i) (nI z) (nI (16 * sx)) g_lim g_tlen g_held g_root g_clen g_xn g_yn g_rn g_stat g_nn g_wsp g_depth g_sp g_err b_text b_canon b_xs b_ys b_res b_kind b_nch b_na b_nb b_nc b_ws b_fb b_pend b_cst b_fnode b_fmode b_fph b_fi c b_vlen := by
      intro z hz
      unfold wY_prim_681
      rw [nI_add]
      refine ⟨vp_in_nI (by omega) (by omega), nm_e (br_f (by decide) ?_)⟩
      unfold wY_prim_706
      refine yp_708m hk hsr (by omega) (by omega) (ih (i + 1) _ (by omega) (yp_s hI (by omega) ?_) n (by omega))
      rw [ve_mg _ (by omega), yp_o hI hyr hy (by omega)]
    exact br_c (fun _ => main 0 (by omega)) (fun _ => main i (by omega))
theorem yp_649d {g_lim g_tlen g_held g_root g_clen g_xn g_yn g_rn g_stat g_nn g_wsp g_depth g_sp g_err : Int32} {b_text b_canon b_xs b_ys b_res b_kind b_nch b_na b_nb b_nc b_ws b_fb b_pend b_cst b_fnode b_fmode b_fph b_fi b_vec b_vlen : Nat → Int32} {post : SY → Prop} {k sx sy sr q : Nat} {xs ys : List Int32} (hk : k < 128) (hsx : sx < 645) (hsy : sy < 645) (hsr : sr < 645) (hxr : sx ≠ sr) (hyr : sy ≠ sr) (hx : ve_L b_vec b_vlen sx xs) (hy : ve_L b_vec b_vlen sy ys) (hq : pr_cnt xs.length ys.length = some q) (q16 : q ≤ 16)
    (h : ∀ c l, ve_F (fun t => t = sr) b_vec b_vlen c l → ve_L c l sr ((List.range q).map (fun i => pr_m2 k (pr_el xs i) (pr_el ys i))) → post (g_lim, g_tlen, g_held, g_root, g_clen, g_xn, g_yn, g_rn, g_stat, g_nn, g_wsp, g_depth, g_sp, g_err, b_text, b_canon, b_xs, b_ys, b_res, b_kind, b_nch, b_na, b_nb, b_nc, b_ws, b_fb, b_pend, b_cst, b_fnode, b_fmode, b_fph, b_fi, c, l)) :
    ∀ (r i : Nat) (c : Nat → Int32), i + r = q → yp_I sr ((List.range q).map (fun i => pr_m2 k (pr_el xs i) (pr_el ys i))) i b_vec b_vlen c →
    ∀ n, r < n → wY_prim_649 post (nI k) 2 (nI sr) (nI xs.length) (nI ys.length) (nI (16 * sx)) (nI (16 * sy)) (nI (16 * sr)) (nI q) g_lim g_tlen g_held g_root g_clen g_xn g_yn g_rn g_stat g_nn g_wsp g_depth g_sp g_err n (nI i) b_text b_canon b_xs b_ys b_res b_kind b_nch b_na b_nb b_nc b_ws b_fb b_pend b_cst b_fnode b_fmode b_fph b_fi c b_vlen := by
  have e1 : (nI sr).toNatClampNeg = sr := nI_clamp (by omega)
  have y16 := hy.1
  have x16 := hx.1
  intro r
  induction r with
  | zero =>
    intro i c hi hI n hn
    obtain ⟨n, rfl⟩ : ∃ k, n = k + 1 := ⟨n - 1, by omega⟩
    have e : i = q := by omega
    subst e
    have e2 : ((List.range i).map (fun i => pr_m2 k (pr_el xs i) (pr_el ys i))).length = i := ve_ml _ _
    have g := yp_e (by rw [e2]; exact hI) (by rw [e2]; exact q16)
    rw [e2] at g
    refine br_t (nI_le (Nat.le_refl _) (by omega)) ⟨vp_in_nI hsr (by omega), nm_r (e' := upd b_vlen sr (nI i)) (by rw [e1]) (h _ _ g.1 g.2)⟩
  | succ r ih =>
    intro i c hi hI n hn
    obtain ⟨n, rfl⟩ : ∃ k, n = k + 1 := ⟨n - 1, by omega⟩
    obtain ⟨g1, g2⟩ := pr_cnt_lt hq (i := i) (by omega)
    refine br_f (nI_ge (by omega) (by omega)) (br_f (nI_ge (b := 16) (by omega) (by decide)) ?_)
    have main : ∀ z : Nat, z < 16 → c (16 * sx + z) = pr_el xs i → wY_prim_681 post (wY_prim_649 post (nI k) 2 (nI sr) (nI xs.length) (nI ys.length) (nI (16 * sx)) (nI (16 * sy)) (nI (16 * sr)) (nI q) g_lim g_tlen g_held g_root g_clen g_xn g_yn g_rn g_stat g_nn g_wsp g_depth g_sp g_err n) (nI k) 2 (nI sr) (nI xs.length) (nI ys.length) (nI (16 * sx)) (nI (16 * sy)) (nI (16 * sr)) (nI q) (nI i) (nI z) (nI (16 * sx)) g_lim g_tlen g_held g_root g_clen g_xn g_yn g_rn g_stat g_nn g_wsp g_depth g_sp g_err b_text b_canon b_xs b_ys b_res b_kind b_nch b_na b_nb b_nc b_ws b_fb b_pend b_cst b_fnode b_fmode b_fph b_fi c b_vlen := by
      intro z hz hv
      have e3 : (nI (16 * sx + z)).toNatClampNeg = 16 * sx + z := nI_clamp (by omega)
      unfold wY_prim_681
      rw [nI_add]
      refine ⟨vp_in_nI (by omega) (by omega), nm_r (e' := pr_el xs i) (by rw [e3]; exact hv) (br_t rfl ?_)⟩
      refine pk_eq ys.length 1 (fun e => ?_) (fun e => ?_)
      · refine yp_708d (b := 0) hk hsr (by omega) (by omega) (ih (i + 1) _ (by omega) (yp_s hI (by omega) ?_) n (by omega))
        have e5 : pr_el ys i = ys.getD 0 0 := by unfold pr_el; rw [if_pos e]
        rw [ve_mg _ (by omega), yp_o hI hyr hy (by omega), e5]
      · unfold wY_prim_706
        refine yp_708d hk hsr (by omega) (by omega) (ih (i + 1) _ (by omega) (yp_s hI (by omega) ?_) n (by omega))
        have e5 : pr_el ys i = ys.getD i 0 := by unfold pr_el; rw [if_neg e]
        rw [ve_mg _ (by omega), yp_o hI hyr hy (g2 e), e5]
    refine pk_eq xs.length 1 (fun e => main 0 (by omega) ?_) (fun e => main i (by omega) ?_)
    · rw [yp_o hI hxr hx (by omega)]; unfold pr_el; rw [if_pos e]
    · rw [yp_o hI hxr hx (g1 e)]; unfold pr_el; rw [if_neg e]
theorem yp_M {g_lim g_tlen g_held g_root g_clen g_xn g_yn g_rn g_stat g_nn g_wsp g_depth g_sp g_err : Int32} {b_text b_canon b_xs b_ys b_res b_kind b_nch b_na b_nb b_nc b_ws b_fb b_pend b_cst b_fnode b_fmode b_fph b_fi b_vec b_vlen : Nat → Int32} {post : SY → Prop} {x7 : Int32} {k sx sy sr : Nat} {ys : List Int32} (hk : k < 128) (hsx : sx < 645) (hsy : sy < 645) (hsr : sr < 645) (hyr : sy ≠ sr) (hy : ve_L b_vec b_vlen sy ys)
    (h : ∀ c l, ve_F (fun t => t = sr) b_vec b_vlen c l → ve_L c l sr (pr_M k ys) → post (g_lim, g_tlen, g_held, g_root, g_clen, g_xn, g_yn, g_rn, g_stat, g_nn, g_wsp, g_depth, g_sp, g_err, b_text, b_canon, b_xs, b_ys, b_res, b_kind, b_nch, b_na, b_nb, b_nc, b_ws, b_fb, b_pend, b_cst, b_fnode, b_fmode, b_fph, b_fi, c, l)) :
    wY_prim_77 post (nI k) 1 (nI sx) (nI sy) (nI sr) x7 (nI ys.length) (nI (16 * sx)) (nI (16 * sy)) (nI (16 * sr)) g_lim g_tlen g_held g_root g_clen g_xn g_yn g_rn g_stat g_nn g_wsp g_depth g_sp g_err b_text b_canon b_xs b_ys b_res b_kind b_nch b_na b_nb b_nc b_ws b_fb b_pend b_cst b_fnode b_fmode b_fph b_fi b_vec b_vlen := by
  have y16 := hy.1
  have cp : pr_M k ys = ys → wpY_copySlot post (g_lim, g_tlen, g_held, g_root, g_clen, g_xn, g_yn, g_rn, g_stat, g_nn, g_wsp, g_depth, g_sp, g_err, b_text, b_canon, b_xs, b_ys, b_res, b_kind, b_nch, b_na, b_nb, b_nc, b_ws, b_fb, b_pend, b_cst, b_fnode, b_fmode, b_fph, b_fi, b_vec, b_vlen) (nI sy) (nI sr) := by
    intro z
    rw [z] at h
    exact yv_copy hsy hsr hyr fun c l hF hL => h c l hF (hL ys hy)
  refine pk_eq k 93 (fun e => ?_) (fun a1 => br_t rfl (pk_eq k 91 (fun e => ?_) (fun a2 => pk_eq k 44 (fun e => ?_) (fun a3 => ?_))))
  · exact cp (by unfold pr_M; rw [if_pos (by omega)])
  · exact cp (by unfold pr_M; rw [if_pos (by omega)])
  · exact cp (by unfold pr_M; rw [if_pos (by omega)])
  · unfold pr_M at h
    rw [if_neg (by omega)] at h
    unfold wY_prim_109
    refine pk_eq k 91 (fun e => absurd e a2) (fun _ => pk_eq k 35 (fun e => br_t rfl ?_) (fun a4 => ?_))
    · rw [if_pos e] at h
      exact yv_one hsr fun c l hF hL => h c l hF hL
    · rw [if_neg a4] at h
      unfold wY_prim_144
      refine pk_eq k 44 (fun e => absurd e a3) (fun _ => pk_eq k 124 (fun e => br_t rfl ?_) (fun a5 => ?_))
      · rw [if_pos e] at h
        exact ⟨ys.length + 1, yp_rev hsy hsr hyr hy h ys.length 0 b_vec (by omega) (yp_0 _ _ _ _) _ (by omega)⟩
      · rw [if_neg a5] at h
        unfold wY_prim_342
        refine pk_eq k 124 (fun e => absurd e a5) (fun _ => pk_eq k 35 (fun e => absurd e a4) (fun _ => br_f (by decide) ?_))
        unfold wY_prim_635
        refine br_t (nI_pos' (by omega)) ⟨ys.length + 1, ?_⟩
        exact yp_649m hk hsx hsy hsr hyr hy h ys.length 0 b_vec (by omega) (yp_0 _ _ _ _) _ (by omega)
theorem yp_n1 : ¬ (0 : Int32) ≤ -1 := by decide
theorem yp_D {g_tlen g_held g_root g_clen g_xn g_yn g_rn g_stat g_nn g_wsp g_depth g_sp : Int32} {b_text b_canon b_xs b_ys b_res b_kind b_nch b_na b_nb b_nc b_ws b_fb b_pend b_cst b_fnode b_fmode b_fph b_fi b_vec b_vlen : Nat → Int32} {post : SY → Prop} {lim k sx sy sr : Nat} {xs ys : List Int32} (hl : lim ≤ 16) (hk : k < 128) (hsx : sx < 645) (hsy : sy < 645) (hsr : sr < 645) (hxr : sx ≠ sr) (hyr : sy ≠ sr) (hx : ve_L b_vec b_vlen sx xs) (hy : ve_L b_vec b_vlen sy ys)
    (h : ∀ c l, vd_R sr (pr_D lim k xs ys) b_vec b_vlen c l → post (nI lim, g_tlen, g_held, g_root, g_clen, g_xn, g_yn, g_rn, g_stat, g_nn, g_wsp, g_depth, g_sp, nI (pr_D lim k xs ys).1, b_text, b_canon, b_xs, b_ys, b_res, b_kind, b_nch, b_na, b_nb, b_nc, b_ws, b_fb, b_pend, b_cst, b_fnode, b_fmode, b_fph, b_fi, c, l)) :
    wY_prim_77 post (nI k) 2 (nI sx) (nI sy) (nI sr) (nI xs.length) (nI ys.length) (nI (16 * sx)) (nI (16 * sy)) (nI (16 * sr)) (nI lim) g_tlen g_held g_root g_clen g_xn g_yn g_rn g_stat g_nn g_wsp g_depth g_sp 0 b_text b_canon b_xs b_ys b_res b_kind b_nch b_na b_nb b_nc b_ws b_fb b_pend b_cst b_fnode b_fmode b_fph b_fi b_vec b_vlen := by
  have y16 := hy.1
  have x16 := hx.1
  have e1 : (nI sr).toNatClampNeg = sr := nI_clamp (by omega)
  have e2 : (nI (16 * sx)).toNatClampNeg = 16 * sx := nI_clamp (by omega)
  unfold pr_D at h
  refine pk_eq k 93 (fun e => ?_) (fun a1 => br_f (by decide) ?_)
  · rw [if_neg (by omega), if_pos e] at h
    exact yv_copy hsy hsr hyr fun c l hF hL => h c l ⟨hF, fun _ => hL ys hy⟩
  · unfold wY_prim_109
    refine pk_eq k 91 (fun e => ?_) (fun a2 => ?_)
    · rw [if_pos e] at h
      exact yv_copy hsx hsr hxr fun c l hF hL => h c l ⟨hF, fun _ => hL xs hx⟩
    · rw [if_neg a2, if_neg a1] at h
      have m144 : wY_prim_144 post (nI k) 2 (nI sx) (nI sy) (nI sr) (nI xs.length) (nI ys.length) (nI (16 * sx)) (nI (16 * sy)) (nI (16 * sr)) (nI lim) g_tlen g_held g_root g_clen g_xn g_yn g_rn g_stat g_nn g_wsp g_depth g_sp 0 b_text b_canon b_xs b_ys b_res b_kind b_nch b_na b_nb b_nc b_ws b_fb b_pend b_cst b_fnode b_fmode b_fph b_fi b_vec b_vlen := by
        unfold wY_prim_144
        refine pk_eq k 44 (fun e => ?_) (fun a3 => ?_)
        · rw [if_neg (by omega), if_pos e] at h
          rw [nI_add]
          refine pk_le (xs.length + ys.length) lim (fun z => ?_) (fun z => ?_)
          · rw [if_neg (by omega)] at h
            exact ⟨xs.length + 1, yp_j1 hsx hsy hsr hxr hyr hx hy (by omega) (fun c l hF hL => h c l ⟨hF, fun _ => hL⟩) xs.length 0 b_vec (by omega) (yp_0 _ _ _ _) _ (by omega)⟩
          · rw [if_pos (by omega)] at h
            exact h b_vec b_vlen ⟨ve_Fr _ _ _, fun z => by cases z⟩
        · have m342 : wY_prim_342 post (nI k) 2 (nI sx) (nI sy) (nI sr) (nI xs.length) (nI ys.length) (nI (16 * sx)) (nI (16 * sy)) (nI (16 * sr)) (nI lim) g_tlen g_held g_root g_clen g_xn g_yn g_rn g_stat g_nn g_wsp g_depth g_sp 0 b_text b_canon b_xs b_ys b_res b_kind b_nch b_na b_nb b_nc b_ws b_fb b_pend b_cst b_fnode b_fmode b_fph b_fi b_vec b_vlen := by
            unfold wY_prim_342
            refine pk_eq k 124 (fun e => ?_) (fun a4 => pk_eq k 35 (fun e => ?_) (fun a5 => br_t rfl ?_))
            · rw [if_neg (by omega), if_neg a3, if_pos e] at h
              refine pk_eq xs.length 1 (fun z => ⟨vp_in_nI hsr (by omega), nm_r (e' := upd b_vlen sr 0) (by rw [e1]) ?_⟩) (fun z => ?_)
              · rw [if_neg (by omega)] at h
                refine pk_eq ys.length 0 (fun q => ?_) (fun q => ⟨vp_in_nI (by omega) (by omega), nI_ne0 (by omega) (by omega), ?_⟩)
                · refine h b_vec _ ⟨ve_Fl, fun _ => ?_⟩
                  have : pr_rot xs ys = [] := by unfold pr_rot; rw [q]; rfl
                  rw [this]; exact ve_nil
                · have hv := hx.2.2 0 (by omega)
                  rw [Nat.add_zero] at hv
                  rw [e2, hv]
                  have fin : ∃ n, wY_prim_401 post (nI sr) (nI ys.length) (nI (16 * sy)) (nI (16 * sr)) (nI (pr_k (xs.getD 0 0) ys.length)) (nI lim) g_tlen g_held g_root g_clen g_xn g_yn g_rn g_stat g_nn g_wsp g_depth g_sp 0 n (nI 0) b_text b_canon b_xs b_ys b_res b_kind b_nch b_na b_nb b_nc b_ws b_fb b_pend b_cst b_fnode b_fmode b_fph b_fi b_vec (upd b_vlen sr 0) :=
                    ⟨ys.length + 1, yp_rot hsy hsr hyr hy (pr_kN _ (by omega)).1 rfl (fun c l hF hL => h c l ⟨hF, fun _ => hL⟩) ys.length 0 b_vec (by omega) (yp_0 _ _ _ _) _ (by omega)⟩
                  refine nm_e (br_c (fun w => ?_) (fun w => nm_e ?_))
                  · rw [pr_kp _ y16 (by omega) (Int32.not_lt.mpr w)]; exact fin
                  · rw [pr_kn _ y16 (by omega) (Int32.not_le.mp w)]; exact fin
              · rw [if_pos z] at h
                exact h b_vec b_vlen ⟨ve_Fr _ _ _, fun z => by cases z⟩
            · rw [if_pos e] at h
              refine pk_eq xs.length ys.length (fun z => ?_) (fun z => pk_eq xs.length 1 (fun z1 => ?_) (fun z1 => ?_))
              · rw [if_neg (by omega)] at h
                exact ⟨ys.length + 1, yp_cpL hl hsx hsy hsr hxr hyr hx hy (fun q => absurd z q) ys.length 0 [] b_vec (by omega) (Nat.zero_le _) (yp_0 _ _ _ _) h _ (by omega)⟩
              · rw [if_neg (by omega)] at h
                exact ⟨ys.length + 1, yp_cpL hl hsx hsy hsr hxr hyr hx hy (fun _ => z1) ys.length 0 [] b_vec (by omega) (Nat.zero_le _) (yp_0 _ _ _ _) h _ (by omega)⟩
              · rw [if_pos ⟨z, z1⟩] at h
                exact h b_vec b_vlen ⟨ve_Fr _ _ _, fun z => by cases z⟩
            · rw [if_neg a5, if_neg a3, if_neg a4] at h
              refine yv_pairs hsx hsy hx hy ?_
              unfold wY_prim_635
              cases hq : pr_cnt xs.length ys.length with
              | none =>
                rw [hq] at h
                exact br_f yp_n1 (h b_vec b_vlen ⟨ve_Fr _ _ _, fun z => by cases z⟩)
              | some q =>
                rw [hq] at h
                have q16 := pr_cnt_le hq x16 y16
                exact br_t (nI_pos' (by omega)) ⟨q + 1, yp_649d hk hsx hsy hsr hxr hyr hx hy hq q16 (fun c l hF hL => h c l ⟨hF, fun _ => hL⟩) q 0 b_vec (by omega) (yp_0 _ _ _ _) _ (by omega)⟩
          exact pk_eq k 124 (fun _ => br_f (by decide) m342) (fun _ => m342)
      exact pk_eq k 35 (fun _ => br_f (by decide) m144) (fun _ => m144)
def pl_o (lim k : Nat) (d : Bool) (x y : List Int32) : Nat × List Int32 := if 48 ≤ k ∧ k ≤ 57 then (0, [nI (k - 48)]) else if d = true then pr_D lim k x y else (0, pr_M k y)
theorem pl_a (lim k : Nat) (d : Bool) (x y : List Int32) : am_leaf lim k d x y = am_dy (pl_o lim k d x y) := by
  unfold am_leaf pl_o
  split
  · rfl
  · split
    · rfl
    · rfl
theorem yp_prim {g_tlen g_held g_root g_clen g_xn g_yn g_rn g_stat g_nn g_wsp g_depth g_sp : Int32} {b_text b_canon b_xs b_ys b_res b_kind b_nch b_na b_nb b_nc b_ws b_fb b_pend b_cst b_fnode b_fmode b_fph b_fi b_vec b_vlen : Nat → Int32} {post : SY → Prop} {lim k f : Nat} {d : Bool} {x y : List Int32} (hl : lim ≤ 16) (hk : k < 128) (hf : f < 128) (hx : d = true → ve_L b_vec b_vlen (5 * f) x) (hy : ve_L b_vec b_vlen (5 * f + 1) y)
    (h : ∀ c l, vd_R (5 * f + 3) (pl_o lim k d x y) b_vec b_vlen c l → post (nI lim, g_tlen, g_held, g_root, g_clen, g_xn, g_yn, g_rn, g_stat, g_nn, g_wsp, g_depth, g_sp, nI (pl_o lim k d x y).1, b_text, b_canon, b_xs, b_ys, b_res, b_kind, b_nch, b_na, b_nb, b_nc, b_ws, b_fb, b_pend, b_cst, b_fnode, b_fmode, b_fph, b_fi, c, l)) :
    wpY_prim post (nI lim, g_tlen, g_held, g_root, g_clen, g_xn, g_yn, g_rn, g_stat, g_nn, g_wsp, g_depth, g_sp, 0, b_text, b_canon, b_xs, b_ys, b_res, b_kind, b_nch, b_na, b_nb, b_nc, b_ws, b_fb, b_pend, b_cst, b_fnode, b_fmode, b_fph, b_fi, b_vec, b_vlen) (nI (5 * f)) (nI k) (xm_m d) := by
  have e1 : (nI (5 * f)).toNatClampNeg = 5 * f := nI_clamp (by omega)
  have e2 : (nI (5 * f + 1)).toNatClampNeg = 5 * f + 1 := nI_clamp (by omega)
  refine nm_r (e' := nI (5 * f)) (Int32.add_zero _) (nm_r (e' := nI (5 * f + 1)) (nI_1 _) (nm_r (e' := nI (5 * f + 3)) (nI_add (5 * f) 3) ⟨vp_in_nI (by omega) (by omega), nm_e ⟨vp_in_nI (by omega) (by omega), nm_r (e' := nI y.length) (by rw [e2]; exact hy.2.1) (nm_r (e' := nI (16 * (5 * f))) (ax_mul0 _) (nm_r (e' := nI (16 * (5 * f + 1))) (ax_mul0 _) (nm_r (e' := nI (16 * (5 * f + 3))) (ax_mul0 _) ?_)))⟩⟩))
  rw [e1]
  unfold pl_o at h
  have nd : ¬ (48 ≤ k ∧ k ≤ 57) → wY_prim_77 post (nI k) (xm_m d) (nI (5 * f)) (nI (5 * f + 1)) (nI (5 * f + 3)) (b_vlen (5 * f)) (nI y.length) (nI (16 * (5 * f))) (nI (16 * (5 * f + 1))) (nI (16 * (5 * f + 3))) (nI lim) g_tlen g_held g_root g_clen g_xn g_yn g_rn g_stat g_nn g_wsp g_depth g_sp 0 b_text b_canon b_xs b_ys b_res b_kind b_nch b_na b_nb b_nc b_ws b_fb b_pend b_cst b_fnode b_fmode b_fph b_fi b_vec b_vlen := by
    intro z
    rw [if_neg z] at h
    cases d with
    | true =>
      rw [if_pos rfl] at h
      rw [(hx rfl).2.1]
      exact yp_D hl hk (by omega) (by omega) (by omega) (by omega) (by omega) (hx rfl) hy h
    | false =>
      rw [if_neg (by decide)] at h
      exact yp_M hk (by omega) (by omega) (by omega) (by omega) hy fun c l hF hL => h c l ⟨hF, fun _ => hL⟩
  refine pk_lt k 48 (fun z => nd (by omega)) (fun z => pk_lt 57 k (fun z1 => nd (by omega)) (fun z1 => ?_))
  rw [if_pos ⟨z, z1⟩] at h
  rw [show (48 : Int32) = nI 48 from rfl, pk_sub z]
  exact yv_one (by omega) fun c l hF hL => h c l ⟨hF, fun _ => hL⟩
end
section
/-! the reference's steps -/
def ys_H (N : Nat) (K F S T : Nat → Nat) (R : List Int32) (n : Nat) (d : Bool) (p : Nat) (x y w : List Int32) (r : List am_F) (ky ch na nb nc c l fn fm fp fi : Nat → Int32) : Prop :=
  tr_Y N K F S T ky ch na nb nc ∧ N ≤ 64 ∧ n < N ∧ n + r.length < 63 ∧ fp r.length = nI (ym_ph (K n) p) ∧ ym_top K c l fn fm fi r.length n d p x y w ∧ ym_F K c l fn fm fp fi r ∧ (0 < p → ve_L c l (5 * (r.length + 1) + 3) R) ∧ p ≤ 16
theorem ym_Op {K : Nat → Nat} {n : Nat} {d : Bool} {p : Nat} {x y : List Int32} {r : List am_F} {R w' : List Int32} {n' : Nat} {d' : Bool} {x' y' : List Int32} {sp : Int32} {c l fn fm fp fi : Nat → Int32}
    (h : ym_S K ((n', d', 0, x', y', []) :: (n, d, p + 1, x, y, w') :: r) R sp c l fn fm fp fi) : ym_O K n d p x y r R (am_push w' n' d' x' y') 0 sp c l fn fm fp fi := ⟨rfl, h⟩
theorem ym_Oq {K : Nat → Nat} {n : Nat} {d : Bool} {p : Nat} {x y : List Int32} {r : List am_F} {R v : List Int32} {sp : Int32} {c l fn fm fp fi : Nat → Int32}
    (h : ym_S K r v sp c l fn fm fp fi) : ym_O K n d p x y r R (am_pop v) 0 sp c l fn fm fp fi := ⟨rfl, h⟩
theorem ym_Of {K : Nat → Nat} {n : Nat} {d : Bool} {p : Nat} {x y : List Int32} {r : List am_F} {R : List Int32} {e : Nat} {sp : Int32} {c l fn fm fp fi : Nat → Int32} :
    ym_O K n d p x y r R (am_fail e) (nI e) sp c l fn fm fp fi := rfl
theorem ym_pushn {K : Nat → Nat} {c l fn fm fp fi fi1 c' l' : Nat → Int32} {n : Nat} {d : Bool} {p : Nat} {x y w : List Int32} {r : List am_F}
    (nx : Nat) (hnx : ym_ph (K n) (p + 1) = nx) (R : List Int32) (w' : List Int32) (n' : Nat) (d' : Bool) (x' y' : List Int32)
    (ht : ym_top K c l fn fm fi r.length n d p x y w) (hr : ym_F K c l fn fm fp fi r)
    (hF : ve_F (fun t => 5 * r.length + 2 ≤ t) c l c' l') (hfi : ∀ j, j < r.length → fi1 j = fi j)
    (hfi2 : K n = 47 ∨ K n = 92 ∨ K n = 34 → fi1 r.length = nI (ym_fi (K n) d (p + 1)))
    (hw1 : K n = 1 → p + 1 = 2 → ve_L c' l' (5 * r.length + 2) w') (hw2 : K n = 92 ∨ K n = 34 → ve_L c' l' (5 * r.length + 4) w')
    (hx : d' = true → ve_L c' l' (5 * (r.length + 1)) x') (hy : ve_L c' l' (5 * (r.length + 1) + 1) y') :
    ym_S K ((n', d', 0, x', y', []) :: (n, d, p + 1, x, y, w') :: r) R (nI (r.length + 1)) c' l'
      (upd fn (r.length + 1) (nI n')) (upd fm (r.length + 1) (xm_m d')) (upd (upd fp r.length (nI nx)) (r.length + 1) 0) (upd fi1 (r.length + 1) 0) := by
  subst hnx
  exact ym_push R w' n' d' x' y' ht hr hF hfi hfi2 hw1 hw2 hx hy
theorem ve_Fg {c l c' l' : Nat → Int32} {s q : Nat} (h : ve_F (fun t => t = s) c l c' l') (hs : q ≤ s) : ve_F (fun t => q ≤ t) c l c' l' :=
  ve_Fm h fun t z => by have z' : t = s := z; show q ≤ t; omega
theorem ys_m1 (m : Nat) : nI m - 1 + 1 = nI m := by
  generalize nI m = z
  grind
theorem ym_ph0 {k p : Nat} (h1 : k ≠ 47) (h2 : k ≠ 92) (h3 : k ≠ 34) : ym_ph k p = p := by
  unfold ym_ph; rw [if_neg (by omega)]
theorem ys_403 {g_lim g_tlen g_held g_root g_clen g_xn g_yn g_rn g_stat g_nn g_wsp g_depth g_err : Int32} {b_text b_canon b_xs b_ys b_res b_kind b_nch b_na b_nb b_nc b_ws b_fb b_pend b_cst b_fnode b_fmode b_fph b_fi b_vec b_vlen : Nat → Int32} {post : SY → Prop} {lim N : Nat} {K F S T : Nat → Nat} {R : List Int32} {n : Nat} {d : Bool} {p : Nat} {x y w : List Int32} {r : List am_F} (H : ys_H N K F S T R n d p x y w r b_kind b_nch b_na b_nb b_nc b_vec b_vlen b_fnode b_fmode b_fph b_fi) (hp0 : 0 < p) (h : ∀ sp c l, ym_S K r R sp c l b_fnode b_fmode b_fph b_fi → post (g_lim, g_tlen, g_held, g_root, g_clen, g_xn, g_yn, g_rn, g_stat, g_nn, g_wsp, g_depth, sp, g_err, b_text, b_canon, b_xs, b_ys, b_res, b_kind, b_nch, b_na, b_nb, b_nc, b_ws, b_fb, b_pend, b_cst, b_fnode, b_fmode, b_fph, b_fi, c, l)) :
    wY_step_403 post (nI (5 * r.length)) (nI (5 * (r.length + 1))) g_lim g_tlen g_held g_root g_clen g_xn g_yn g_rn g_stat g_nn g_wsp g_depth (nI r.length) g_err b_text b_canon b_xs b_ys b_res b_kind b_nch b_na b_nb b_nc b_ws b_fb b_pend b_cst b_fnode b_fmode b_fph b_fi b_vec b_vlen := by
  obtain ⟨hT, hN, hn, hf, hp, ht, hr, h3, p16⟩ := H
  unfold wY_step_403
  rw [show nI (5 * (r.length + 1)) + 3 = nI (5 * (r.length + 1) + 3) from nI_add _ 3, show nI (5 * r.length) + 3 = nI (5 * r.length + 3) from nI_add _ 3]
  refine yv_copy (by omega) (by omega) (by omega) fun c l hF hL => nm_e (h _ c l ?_)
  exact ym_pop hr (ve_Fg hF (by omega)) (fun _ _ => rfl) (fun _ _ => rfl) (ys_m1 _) (hL R (h3 hp0))
theorem ys_fork {g_tlen g_held g_root g_clen g_xn g_yn g_rn g_stat g_nn g_wsp g_depth : Int32} {b_text b_canon b_xs b_ys b_res b_kind b_nch b_na b_nb b_nc b_ws b_fb b_pend b_cst b_fnode b_fmode b_fph b_fi b_vec b_vlen : Nat → Int32} {post : SY → Prop} {lim N : Nat} {K F S T : Nat → Nat} {R : List Int32} {n : Nat} {d : Bool} {p : Nat} {x y w : List Int32} {r : List am_F} (H : ys_H N K F S T R n d p x y w r b_kind b_nch b_na b_nb b_nc b_vec b_vlen b_fnode b_fmode b_fph b_fi) (hk : K n = 1) (hc : 0 < n)
    (h : ∀ er sp c l fn fm fp fi, ym_O K n d p x y r R (am_fork (F n) (S n) (T n) d p x y w R) er sp c l fn fm fp fi → post (nI lim, g_tlen, g_held, g_root, g_clen, g_xn, g_yn, g_rn, g_stat, g_nn, g_wsp, g_depth, sp, er, b_text, b_canon, b_xs, b_ys, b_res, b_kind, b_nch, b_na, b_nb, b_nc, b_ws, b_fb, b_pend, b_cst, fn, fm, fp, fi, c, l)) : wpY_step post (nI lim, g_tlen, g_held, g_root, g_clen, g_xn, g_yn, g_rn, g_stat, g_nn, g_wsp, g_depth, nI r.length, 0, b_text, b_canon, b_xs, b_ys, b_res, b_kind, b_nch, b_na, b_nb, b_nc, b_ws, b_fb, b_pend, b_cst, b_fnode, b_fmode, b_fph, b_fi, b_vec, b_vlen) := by
  have HH := H
  obtain ⟨hT, hN, hn, hf, hp, ht, hr, h3, p16⟩ := H
  have ht' := ht
  obtain ⟨t1, t2, t3, tx, ty, t5, t6⟩ := ht
  have e1 : (nI r.length).toNatClampNeg = r.length := nI_clamp (by omega)
  have e2 : (nI n).toNatClampNeg = n := nI_clamp (by omega)
  have i1 : vp_in (nI r.length) 128 := vp_in_nI (by omega) (by omega)
  have i2 : vp_in (nI n) 128 := vp_in_nI (by omega) (by omega)
  obtain ⟨k1, k2, k3, k4, k5⟩ := hT n hn
  have a0 : nI (5 * r.length) + 0 = nI (5 * r.length) := Int32.add_zero _
  have a1 : nI (5 * r.length) + 1 = nI (5 * r.length + 1) := nI_1 _
  have a2 : nI (5 * r.length) + 2 = nI (5 * r.length + 2) := nI_add _ 2
  have b0 : nI (5 * (r.length + 1)) + 0 = nI (5 * (r.length + 1)) := Int32.add_zero _
  have b1 : nI (5 * (r.length + 1)) + 1 = nI (5 * (r.length + 1) + 1) := nI_1 _
  have b3 : nI (5 * (r.length + 1)) + 3 = nI (5 * (r.length + 1) + 3) := nI_add _ 3
  have ph := fun q => ym_ph0 (k := K n) (p := q) (by omega) (by omega) (by omega)
  have ky : tr_ky (K n) = 3 := by unfold tr_ky; rw [if_pos hk]
  have hfi2 : ∀ q, K n = 47 ∨ K n = 92 ∨ K n = 34 → b_fi r.length = nI (ym_fi (K n) d q) := fun q z => by omega
  refine br_f (nI_pos (by omega)) (br_t (nI_lt (b := 128) (by omega) (by decide)) ⟨i1, nm_r (e' := nI n) (by rw [e1]; exact t1) ⟨i1, nm_r (e' := xm_m d) (by rw [e1]; exact t2) ⟨i1, nm_r (e' := nI (ym_ph (K n) p)) (by rw [e1]; exact hp) (nm_r (e' := nI (5 * r.length)) ((pk_mul _ 5).trans (congrArg nI (Nat.mul_comm _ _))) (nm_r (e' := nI (5 * (r.length + 1))) (nI_add (5 * r.length) 5) ⟨i2, nm_r (e' := nI (tr_ky (K n))) (by rw [e2]; exact k1) ?_⟩))⟩⟩⟩)
  rw [ky, ph]
  refine br_f (by decide) (br_f (by decide) ?_)
  unfold am_fork at h
  have m : wY_step_144 post (nI n) (xm_m d) (nI p) (nI (5 * r.length)) (nI (5 * (r.length + 1))) (nI 3) (nI lim) g_tlen g_held g_root g_clen g_xn g_yn g_rn g_stat g_nn g_wsp g_depth (nI r.length) 0 b_text b_canon b_xs b_ys b_res b_kind b_nch b_na b_nb b_nc b_ws b_fb b_pend b_cst b_fnode b_fmode b_fph b_fi b_vec b_vlen := by
    unfold wY_step_144
    refine pk_eq p 0 (fun e => ?_) (fun e => pk_eq p 1 (fun e' => br_f (by decide) ?_) (fun e' => ?_))
    · rw [if_pos e] at h
      rw [a0, b0, a1, b1]
      refine yv_copy (by omega) (by omega) (by omega) fun c l hF hL => ?_
      refine yv_copy (by omega) (by omega) (by omega) fun c2 l2 hF2 hL2 => br_t rfl ⟨i2, ?_⟩
      rw [e2, k5]
      unfold wY_step_195
      refine yv_call (nx := 1) (by omega) (h _ _ _ _ _ _ _ _ (ym_Op (ym_pushn 1 (by rw [ph, e]) R w (T n) d x y ht' hr (ve_Ft (ve_Fg hF (by omega)) (ve_Fg hF2 (by omega))) (fun _ _ => rfl) (hfi2 _) (fun _ z => by omega) (fun z => by omega) (fun z => ve_o hF2 (by omega) (hL x (tx z))) (hL2 y (ve_o hF (by omega) ty)))))
    · rw [if_neg e, if_pos e'] at h
      unfold wY_step_262
      refine pk_eq p 1 (fun _ => br_f (by decide) ?_) (fun z => absurd e' z)
      unfold wY_step_299
      refine pk_eq p 1 (fun _ => ?_) (fun z => absurd e' z)
      rw [a0, b0, a1, b1, a2, b3]
      refine yv_copy (by omega) (by omega) (by omega) fun c l hF hL => ?_
      refine yv_copy (by omega) (by omega) (by omega) fun c2 l2 hF2 hL2 => ?_
      refine yv_copy (by omega) (by omega) (by omega) fun c3 l3 hF3 hL3 => ⟨i2, ?_⟩
      rw [e2, k3]
      refine yv_call (nx := 2) (by omega) (h _ _ _ _ _ _ _ _ (ym_Op (ym_pushn 2 (by rw [ph, e']) R R (F n) d x y ht' hr (ve_Ft (ve_Fg hF (by omega)) (ve_Ft (ve_Fg hF2 (by omega)) (ve_Fg hF3 (by omega)))) (fun _ _ => rfl) (hfi2 _) (fun _ _ => ve_o hF3 (by omega) (ve_o hF2 (by omega) (hL R (h3 (by omega))))) (fun z => by omega) (fun z => ve_o hF3 (by omega) (hL2 x (ve_o hF (by omega) (tx z)))) (hL3 y (ve_o hF2 (by omega) (ve_o hF (by omega) ty))))))
    · unfold wY_step_262
      refine pk_eq p 1 (fun z => absurd z e') (fun _ => ?_)
      unfold wY_step_299
      refine pk_eq p 1 (fun z => absurd z e') (fun _ => pk_eq p 2 (fun e'' => br_t rfl ?_) (fun e'' => ?_))
      · rw [if_neg e, if_neg e', if_pos e''] at h
        rw [b0, b1, a2, b3]
        refine yv_copy (by omega) (by omega) (by omega) fun c l hF hL => ?_
        refine yv_copy (by omega) (by omega) (by omega) fun c2 l2 hF2 hL2 => ⟨i2, ?_⟩
        rw [e2, k4]
        refine yv_call (nx := 3) (m := xm_m true) (by omega) (h _ _ _ _ _ _ _ _ (ym_Op (ym_pushn 3 (by rw [ph, e'']) R w (S n) true R w ht' hr (ve_Ft (ve_Fg hF (by omega)) (ve_Fg hF2 (by omega))) (fun _ _ => rfl) (hfi2 _) (fun _ z => by omega) (fun z => by omega) (fun _ => ve_o hF2 (by omega) (hL R (h3 (by omega)))) (hL2 w (ve_o hF (by omega) (t5 hk e''))))))
      · rw [if_neg e, if_neg e', if_neg e''] at h
        exact ys_403 (lim := lim) HH (by omega) fun sp c l hS => h _ _ _ _ _ _ _ _ (ym_Oq hS)
  exact br_c (fun _ => br_f (by decide) m) (fun _ => m)
theorem ys_atop {g_tlen g_held g_root g_clen g_xn g_yn g_rn g_stat g_nn g_wsp g_depth : Int32} {b_text b_canon b_xs b_ys b_res b_kind b_nch b_na b_nb b_nc b_ws b_fb b_pend b_cst b_fnode b_fmode b_fph b_fi b_vec b_vlen : Nat → Int32} {post : SY → Prop} {lim N : Nat} {K F S T : Nat → Nat} {R : List Int32} {n : Nat} {d : Bool} {p : Nat} {x y w : List Int32} {r : List am_F} (H : ys_H N K F S T R n d p x y w r b_kind b_nch b_na b_nb b_nc b_vec b_vlen b_fnode b_fmode b_fph b_fi) (hk : K n = 64) (hc : 0 < n)
    (h : ∀ er sp c l fn fm fp fi, ym_O K n d p x y r R (am_atop (F n) (S n) d p x y w R) er sp c l fn fm fp fi → post (nI lim, g_tlen, g_held, g_root, g_clen, g_xn, g_yn, g_rn, g_stat, g_nn, g_wsp, g_depth, sp, er, b_text, b_canon, b_xs, b_ys, b_res, b_kind, b_nch, b_na, b_nb, b_nc, b_ws, b_fb, b_pend, b_cst, fn, fm, fp, fi, c, l)) : wpY_step post (nI lim, g_tlen, g_held, g_root, g_clen, g_xn, g_yn, g_rn, g_stat, g_nn, g_wsp, g_depth, nI r.length, 0, b_text, b_canon, b_xs, b_ys, b_res, b_kind, b_nch, b_na, b_nb, b_nc, b_ws, b_fb, b_pend, b_cst, b_fnode, b_fmode, b_fph, b_fi, b_vec, b_vlen) := by
  have HH := H
  obtain ⟨hT, hN, hn, hf, hp, ht, hr, h3, p16⟩ := H
  have ht' := ht
  obtain ⟨t1, t2, t3, tx, ty, t5, t6⟩ := ht
  have e1 : (nI r.length).toNatClampNeg = r.length := nI_clamp (by omega)
  have e2 : (nI n).toNatClampNeg = n := nI_clamp (by omega)
  have i1 : vp_in (nI r.length) 128 := vp_in_nI (by omega) (by omega)
  have i2 : vp_in (nI n) 128 := vp_in_nI (by omega) (by omega)
  obtain ⟨k1, k2, k3, k4, k5⟩ := hT n hn
  have a0 : nI (5 * r.length) + 0 = nI (5 * r.length) := Int32.add_zero _
  have a1 : nI (5 * r.length) + 1 = nI (5 * r.length + 1) := nI_1 _
  have b0 : nI (5 * (r.length + 1)) + 0 = nI (5 * (r.length + 1)) := Int32.add_zero _
  have b1 : nI (5 * (r.length + 1)) + 1 = nI (5 * (r.length + 1) + 1) := nI_1 _
  have b3 : nI (5 * (r.length + 1)) + 3 = nI (5 * (r.length + 1) + 3) := nI_add _ 3
  have ph := fun q => ym_ph0 (k := K n) (p := q) (by omega) (by omega) (by omega)
  have ky : tr_ky (K n) = 2 := by unfold tr_ky; rw [hk]; rfl
  have hfi2 : ∀ q, K n = 47 ∨ K n = 92 ∨ K n = 34 → b_fi r.length = nI (ym_fi (K n) d q) := fun q z => by omega
  refine br_f (nI_pos (by omega)) (br_t (nI_lt (b := 128) (by omega) (by decide)) ⟨i1, nm_r (e' := nI n) (by rw [e1]; exact t1) ⟨i1, nm_r (e' := xm_m d) (by rw [e1]; exact t2) ⟨i1, nm_r (e' := nI (ym_ph (K n) p)) (by rw [e1]; exact hp) (nm_r (e' := nI (5 * r.length)) ((pk_mul _ 5).trans (congrArg nI (Nat.mul_comm _ _))) (nm_r (e' := nI (5 * (r.length + 1))) (nI_add (5 * r.length) 5) ⟨i2, nm_r (e' := nI (tr_ky (K n))) (by rw [e2]; exact k1) ?_⟩))⟩⟩⟩)
  rw [ky, ph]
  refine br_f (by decide) (br_f (by decide) ?_)
  unfold am_atop at h
  have m : wY_step_144 post (nI n) (xm_m d) (nI p) (nI (5 * r.length)) (nI (5 * (r.length + 1))) (nI 2) (nI lim) g_tlen g_held g_root g_clen g_xn g_yn g_rn g_stat g_nn g_wsp g_depth (nI r.length) 0 b_text b_canon b_xs b_ys b_res b_kind b_nch b_na b_nb b_nc b_ws b_fb b_pend b_cst b_fnode b_fmode b_fph b_fi b_vec b_vlen := by
    unfold wY_step_144
    refine pk_eq p 0 (fun e => ?_) (fun e => pk_eq p 1 (fun e' => br_f (by decide) ?_) (fun e' => ?_))
    · rw [if_pos e] at h
      rw [a0, b0, a1, b1]
      refine yv_copy (by omega) (by omega) (by omega) fun c l hF hL => ?_
      refine yv_copy (by omega) (by omega) (by omega) fun c2 l2 hF2 hL2 => br_f (by decide) ⟨i2, ?_⟩
      rw [e2, k4]
      unfold wY_step_195
      refine yv_call (nx := 1) (by omega) (h _ _ _ _ _ _ _ _ (ym_Op (ym_pushn 1 (by rw [ph, e]) R w (S n) d x y ht' hr (ve_Ft (ve_Fg hF (by omega)) (ve_Fg hF2 (by omega))) (fun _ _ => rfl) (hfi2 _) (fun z => by omega) (fun z => by omega) (fun z => ve_o hF2 (by omega) (hL x (tx z))) (hL2 y (ve_o hF (by omega) ty)))))
    · rw [if_neg e, if_pos e'] at h
      unfold wY_step_262
      refine pk_eq p 1 (fun _ => br_t rfl ?_) (fun z => absurd e' z)
      rw [b1, b3]
      refine yv_copy (by omega) (by omega) (by omega) fun c l hF hL => ⟨i2, ?_⟩
      rw [e2, k3]
      refine yv_call (nx := 2) (m := xm_m false) (by omega) (h _ _ _ _ _ _ _ _ (ym_Op (ym_pushn 2 (by rw [ph, e']) R w (F n) false [] R ht' hr (ve_Fg hF (by omega)) (fun _ _ => rfl) (hfi2 _) (fun z => by omega) (fun z => by omega) (fun z => by cases z) (hL R (h3 (by omega))))))
    · rw [if_neg e, if_neg e'] at h
      unfold wY_step_262
      refine pk_eq p 1 (fun z => absurd z e') (fun _ => ?_)
      unfold wY_step_299
      have m403 := ys_403 (post := post) (lim := lim) (g_lim := nI lim) (g_err := 0) HH (by omega) fun sp c l hS => h _ _ _ _ _ _ _ _ (ym_Oq hS)
      exact pk_eq p 1 (fun z => absurd z e') (fun _ => br_c (fun _ => br_f (by decide) m403) (fun _ => m403))
  exact br_c (fun _ => br_f (by decide) m) (fun _ => m)
theorem ys_d1 (d : Bool) {A B : Prop} (a : d = false → A) (b : d = true → B) : (xm_m d = 1 → A) ∧ (¬ xm_m d = 1 → B) := by
  cases d
  · exact ⟨fun _ => a rfl, fun z => absurd rfl z⟩
  · exact ⟨fun z => absurd z (by decide), fun _ => b rfl⟩
theorem ys_d2 (d : Bool) {A B : Prop} (a : d = true → A) (b : d = false → B) : (xm_m d = 2 → A) ∧ (¬ xm_m d = 2 → B) := by
  cases d
  · exact ⟨fun z => absurd z (by decide), fun _ => b rfl⟩
  · exact ⟨fun _ => a rfl, fun z => absurd rfl z⟩
theorem ys_hook {g_tlen g_held g_root g_clen g_xn g_yn g_rn g_stat g_nn g_wsp g_depth : Int32} {b_text b_canon b_xs b_ys b_res b_kind b_nch b_na b_nb b_nc b_ws b_fb b_pend b_cst b_fnode b_fmode b_fph b_fi b_vec b_vlen : Nat → Int32} {post : SY → Prop} {lim N : Nat} {K F S T : Nat → Nat} {R : List Int32} {n : Nat} {d : Bool} {p : Nat} {x y w : List Int32} {r : List am_F} (H : ys_H N K F S T R n d p x y w r b_kind b_nch b_na b_nb b_nc b_vec b_vlen b_fnode b_fmode b_fph b_fi) (hk : K n = 2) (hc : 0 < n)
    (h : ∀ er sp c l fn fm fp fi, ym_O K n d p x y r R (am_hook (F n) (S n) d p x y w R) er sp c l fn fm fp fi → post (nI lim, g_tlen, g_held, g_root, g_clen, g_xn, g_yn, g_rn, g_stat, g_nn, g_wsp, g_depth, sp, er, b_text, b_canon, b_xs, b_ys, b_res, b_kind, b_nch, b_na, b_nb, b_nc, b_ws, b_fb, b_pend, b_cst, fn, fm, fp, fi, c, l)) : wpY_step post (nI lim, g_tlen, g_held, g_root, g_clen, g_xn, g_yn, g_rn, g_stat, g_nn, g_wsp, g_depth, nI r.length, 0, b_text, b_canon, b_xs, b_ys, b_res, b_kind, b_nch, b_na, b_nb, b_nc, b_ws, b_fb, b_pend, b_cst, b_fnode, b_fmode, b_fph, b_fi, b_vec, b_vlen) := by
  have HH := H
  obtain ⟨hT, hN, hn, hf, hp, ht, hr, h3, p16⟩ := H
  have ht' := ht
  obtain ⟨t1, t2, t3, tx, ty, t5, t6⟩ := ht
  have e1 : (nI r.length).toNatClampNeg = r.length := nI_clamp (by omega)
  have e2 : (nI n).toNatClampNeg = n := nI_clamp (by omega)
  have i1 : vp_in (nI r.length) 128 := vp_in_nI (by omega) (by omega)
  have i2 : vp_in (nI n) 128 := vp_in_nI (by omega) (by omega)
  obtain ⟨k1, k2, k3, k4, k5⟩ := hT n hn
  have a0 : nI (5 * r.length) + 0 = nI (5 * r.length) := Int32.add_zero _
  have a1 : nI (5 * r.length) + 1 = nI (5 * r.length + 1) := nI_1 _
  have b0 : nI (5 * (r.length + 1)) + 0 = nI (5 * (r.length + 1)) := Int32.add_zero _
  have b1 : nI (5 * (r.length + 1)) + 1 = nI (5 * (r.length + 1) + 1) := nI_1 _
  have b3 : nI (5 * (r.length + 1)) + 3 = nI (5 * (r.length + 1) + 3) := nI_add _ 3
  have ph := fun q => ym_ph0 (k := K n) (p := q) (by omega) (by omega) (by omega)
  have ky : tr_ky (K n) = 4 := by unfold tr_ky; rw [hk]; rfl
  have hfi2 : ∀ q, K n = 47 ∨ K n = 92 ∨ K n = 34 → b_fi r.length = nI (ym_fi (K n) d q) := fun q z => by omega
  refine br_f (nI_pos (by omega)) (br_t (nI_lt (b := 128) (by omega) (by decide)) ⟨i1, nm_r (e' := nI n) (by rw [e1]; exact t1) ⟨i1, nm_r (e' := xm_m d) (by rw [e1]; exact t2) ⟨i1, nm_r (e' := nI (ym_ph (K n) p)) (by rw [e1]; exact hp) (nm_r (e' := nI (5 * r.length)) ((pk_mul _ 5).trans (congrArg nI (Nat.mul_comm _ _))) (nm_r (e' := nI (5 * (r.length + 1))) (nI_add (5 * r.length) 5) ⟨i2, nm_r (e' := nI (tr_ky (K n))) (by rw [e2]; exact k1) ?_⟩))⟩⟩⟩)
  rw [ky, ph]
  refine br_f (by decide) (br_f (by decide) ?_)
  unfold am_hook at h
  refine pk_eq p 0 (fun e => br_t rfl ?_) (fun e => ?_)
  · rw [if_pos e] at h
    rw [a1, b1]
    refine yv_copy (by omega) (by omega) (by omega) fun c l hF hL => ⟨i2, ?_⟩
    rw [e2, k4]
    refine yv_call (nx := 1) (m := xm_m false) (by omega) (h _ _ _ _ _ _ _ _ (ym_Op (ym_pushn 1 (by rw [ph, e]) R w (S n) false [] y ht' hr (ve_Fg hF (by omega)) (fun _ _ => rfl) (hfi2 _) (fun z => by omega) (fun z => by omega) (fun z => by cases z) (hL y ty))))
  · unfold wY_step_144
    refine pk_eq p 0 (fun z => absurd z e) (fun _ => pk_eq p 1 (fun e' => br_t rfl ?_) (fun e' => ?_))
    · rw [if_neg e, if_pos e'] at h
      rw [b1, b3]
      refine yv_copy (by omega) (by omega) (by omega) fun c l hF hL => ?_
      refine ys_d1 d (fun hd => ?_) (fun hd => ?_)
      · rw [if_neg (by rw [hd]; decide)] at h
        unfold wY_step_242
        rw [a1, b0]
        refine yv_copy (by omega) (by omega) (by omega) fun c2 l2 hF2 hL2 => ⟨i2, ?_⟩
        rw [e2, k3]
        refine yv_call (nx := 2) (m := xm_m true) (by omega) (h _ _ _ _ _ _ _ _ (ym_Op (ym_pushn 2 (by rw [ph, e']) R w (F n) true y R ht' hr (ve_Ft (ve_Fg hF (by omega)) (ve_Fg hF2 (by omega))) (fun _ _ => rfl) (hfi2 _) (fun z => by omega) (fun z => by omega) (fun _ => hL2 y (ve_o hF (by omega) ty)) (ve_o hF2 (by omega) (hL R (h3 (by omega)))))))
      · rw [if_pos hd] at h
        unfold wY_step_242
        rw [a0, b0]
        refine yv_copy (by omega) (by omega) (by omega) fun c2 l2 hF2 hL2 => ⟨i2, ?_⟩
        rw [e2, k3]
        refine yv_call (nx := 2) (m := xm_m true) (by omega) (h _ _ _ _ _ _ _ _ (ym_Op (ym_pushn 2 (by rw [ph, e']) R w (F n) true x R ht' hr (ve_Ft (ve_Fg hF (by omega)) (ve_Fg hF2 (by omega))) (fun _ _ => rfl) (hfi2 _) (fun z => by omega) (fun z => by omega) (fun _ => hL2 x (ve_o hF (by omega) (tx hd))) (ve_o hF2 (by omega) (hL R (h3 (by omega)))))))
    · rw [if_neg e, if_neg e'] at h
      unfold wY_step_262
      refine pk_eq p 1 (fun z => absurd z e') (fun _ => ?_)
      unfold wY_step_299
      have m403 := ys_403 (post := post) (lim := lim) (g_lim := nI lim) (g_err := 0) HH (by omega) fun sp c l hS => h _ _ _ _ _ _ _ _ (ym_Oq hS)
      exact pk_eq p 1 (fun z => absurd z e') (fun _ => br_c (fun _ => br_f (by decide) m403) (fun _ => m403))
end
section
/-! the reference's adverbs -/
theorem ax_s1 (f i : Nat) : (nI (5 * f) + 1) * 16 + nI i = nI (16 * (5 * f + 1) + i) := by
  rw [nI_1, ax_mul]
theorem ax_s0 (f i : Nat) : (nI (5 * f) + 0) * 16 + nI i = nI (16 * (5 * f) + i) := by
  rw [Int32.add_zero, ax_mul]
theorem ya_620 {g_tlen g_held g_root g_clen g_xn g_yn g_rn g_stat g_nn g_wsp g_depth : Int32} {b_text b_canon b_xs b_ys b_res b_kind b_nch b_na b_nb b_nc b_ws b_fb b_pend b_cst b_fnode b_fmode b_fph b_fi b_vec b_vlen : Nat → Int32} {post : SY → Prop} {lim N : Nat} {K F S T : Nat → Nat} {R : List Int32} {n : Nat} {d : Bool} {p : Nat} {x y w : List Int32} {r : List am_F} (H : ys_H N K F S T R n d p x y w r b_kind b_nch b_na b_nb b_nc b_vec b_vlen b_fnode b_fmode b_fph b_fi) (hc : 0 < n) (ha : K n = 47 ∨ K n = 92 ∨ K n = 34) {d' : Bool} {md : Int32} (hmd : md = xm_m d') {c1 l1 fi1 : Nat → Int32} (hF1 : ve_F (fun t => 5 * r.length + 2 ≤ t) b_vec b_vlen c1 l1) (hfi : ∀ j, j < r.length → fi1 j = b_fi j) (hfi2 : fi1 r.length = nI (ym_fi (K n) d (p + 1))) {w' x' y' : List Int32} (hw2 : K n = 92 ∨ K n = 34 → ve_L c1 l1 (5 * r.length + 4) w')
    (hx : d' = true → ve_L c1 l1 (5 * (r.length + 1)) x') (hy : ve_L c1 l1 (5 * (r.length + 1) + 1) y')
    (h : ∀ er sp c l fn fm fp fi, ym_O K n d p x y r R (am_push w' (F n) d' x' y') er sp c l fn fm fp fi → post (nI lim, g_tlen, g_held, g_root, g_clen, g_xn, g_yn, g_rn, g_stat, g_nn, g_wsp, g_depth, sp, er, b_text, b_canon, b_xs, b_ys, b_res, b_kind, b_nch, b_na, b_nb, b_nc, b_ws, b_fb, b_pend, b_cst, fn, fm, fp, fi, c, l)) :
    wpY_call post (nI lim, g_tlen, g_held, g_root, g_clen, g_xn, g_yn, g_rn, g_stat, g_nn, g_wsp, g_depth, nI r.length, 0, b_text, b_canon, b_xs, b_ys, b_res, b_kind, b_nch, b_na, b_nb, b_nc, b_ws, b_fb, b_pend, b_cst, b_fnode, b_fmode, b_fph, fi1, c1, l1) (nI (F n)) md 1 := by
  obtain ⟨hT, hN, hn, hf, hp, ht, hr, h3, p16⟩ := H
  subst hmd
  have ph : ym_ph (K n) (p + 1) = 1 := by
    unfold ym_ph; rw [if_pos ha]; omega
  exact yv_call (nx := 1) (by omega) (h _ _ _ _ _ _ _ _ (ym_Op (ym_pushn 1 ph R w' (F n) d' x' y' ht hr hF1 hfi (fun _ => hfi2) (fun z => by omega) hw2 hx hy)))
theorem ya_fold {g_tlen g_held g_root g_clen g_xn g_yn g_rn g_stat g_nn g_wsp g_depth : Int32} {b_text b_canon b_xs b_ys b_res b_kind b_nch b_na b_nb b_nc b_ws b_fb b_pend b_cst b_fnode b_fmode b_fph b_fi b_vec b_vlen : Nat → Int32} {post : SY → Prop} {lim N : Nat} {K F S T : Nat → Nat} {R : List Int32} {n : Nat} {d : Bool} {p : Nat} {x y w : List Int32} {r : List am_F} (H : ys_H N K F S T R n d p x y w r b_kind b_nch b_na b_nb b_nc b_vec b_vlen b_fnode b_fmode b_fph b_fi) (hc : 0 < n) (hk : K n = 47 ∨ K n = 92) {c1 l1 fi1 : Nat → Int32} (hF1 : ve_F (fun t => 5 * r.length + 2 ≤ t) b_vec b_vlen c1 l1) (hfi : ∀ j, j < r.length → fi1 j = b_fi j)
    {m : Nat} (hm : fi1 r.length = nI m) (hm17 : m ≤ 17) (hm1 : m < y.length → m = am_nx d p) (hm2 : ¬ m < y.length → ¬ am_nx d p < y.length)
    {a w' v : List Int32} (hA : ve_L c1 l1 (if K n = 47 then 5 * r.length + 3 else 5 * r.length + 2) a) (hZ : K n = 92 → ve_L c1 l1 (5 * r.length + 4) w') (hv1 : K n = 47 → v = a) (hv2 : K n = 92 → v = w')
    (h : ∀ er sp c l fn fm fp fi, ym_O K n d p x y r R (if am_nx d p < y.length then am_push w' (F n) true a [y.getD (am_nx d p) 0] else am_pop v) er sp c l fn fm fp fi → post (nI lim, g_tlen, g_held, g_root, g_clen, g_xn, g_yn, g_rn, g_stat, g_nn, g_wsp, g_depth, sp, er, b_text, b_canon, b_xs, b_ys, b_res, b_kind, b_nch, b_na, b_nb, b_nc, b_ws, b_fb, b_pend, b_cst, fn, fm, fp, fi, c, l)) :
    wY_stepAdv_354 post (nI r.length) (xm_m d) (nI (5 * r.length)) (nI (5 * (r.length + 1))) (nI (F n)) (nI (K n)) (nI y.length) (nI lim) g_tlen g_held g_root g_clen g_xn g_yn g_rn g_stat g_nn g_wsp g_depth (nI r.length) 0 b_text b_canon b_xs b_ys b_res b_kind b_nch b_na b_nb b_nc b_ws b_fb b_pend b_cst b_fnode b_fmode b_fph fi1 c1 l1 := by
  have HH := H
  have hk3 : K n = 47 ∨ K n = 92 ∨ K n = 34 := hk.elim Or.inl (fun e => Or.inr (Or.inl e))
  have h92 : K n = 92 ∨ K n = 34 → K n = 92 := fun q => by rcases hk with e | e <;> omega
  have kn34 : ¬ K n = 34 := by rcases hk with e | e <;> omega
  have kn92 : ¬ K n = 47 → K n = 92 := fun e => hk.elim (fun z => absurd z e) id
  have kb : K n < 2 ^ 31 := by rcases hk with e | e <;> omega
  obtain ⟨hT, hN, hn, hf, hp, ht, hr, h3, p16⟩ := H
  have ht' := ht
  obtain ⟨t1, t2, t3, tx, ty, t5, t6⟩ := ht
  have e1 : (nI r.length).toNatClampNeg = r.length := nI_clamp (by omega)
  have i1 : vp_in (nI r.length) 128 := vp_in_nI (by omega) (by omega)
  have a2 : nI (5 * r.length) + 2 = nI (5 * r.length + 2) := nI_add _ 2
  have b0 : nI (5 * (r.length + 1)) + 0 = nI (5 * (r.length + 1)) := Int32.add_zero _
  have b1 : nI (5 * (r.length + 1)) + 1 = nI (5 * (r.length + 1) + 1) := nI_1 _
  have a3 : nI (5 * r.length) + 3 = nI (5 * r.length + 3) := nI_add _ 3
  have a4 : nI (5 * r.length) + 4 = nI (5 * r.length + 4) := nI_add _ 4
  have y16 := ty.1
  have ty1 := ve_o hF1 (by omega) ty
  have hnx := am_nxs d p
  unfold wY_stepAdv_354
  refine ⟨i1, nm_r (e' := nI m) (by rw [e1]; exact hm) (pk_eq (K n) 34 (fun z => absurd z kn34) (fun _ => ?_) rfl rfl kb)⟩
  unfold wY_stepAdv_392
  refine pk_le y.length m (fun z => ?_) (fun z => ?_)
  · rw [if_neg (hm2 (by omega))] at h
    unfold wY_stepAdv_406
    refine pk_eq (K n) 47 (fun e => nm_e (h _ _ _ _ _ _ _ _ (ym_Oq ?_))) (fun e => ?_) rfl rfl kb
    · rw [if_pos e] at hA
      rw [hv1 e]
      exact ym_pop hr (ve_Fm hF1 fun t z => by have z' : 5 * r.length + 2 ≤ t := z; show 5 * r.length ≤ t; omega) hfi (fun _ _ => rfl) (ys_m1 _) hA
    · rw [a4, a3]
      refine yv_copy (by omega) (by omega) (by omega) fun c l hF hL => nm_e (h _ _ _ _ _ _ _ _ (ym_Oq ?_))
      rw [hv2 (kn92 e)]
      exact ym_pop hr (ve_Ft (ve_Fm hF1 fun t z => by have z' : 5 * r.length + 2 ≤ t := z; show 5 * r.length ≤ t; omega) (ve_Fg hF (by omega))) hfi (fun _ _ => rfl) (ys_m1 _) (hL w' (hZ (kn92 e)))
  · have em := hm1 z
    rw [← em, if_pos z] at h
    clear hm1 hm2 hv1 hv2 t3 t5 t6
    refine br_t (nI_lt (b := 16) (by omega) (by decide)) (pk_eq (K n) 34 (fun z => absurd z kn34) (fun _ => ?_) rfl rfl kb)
    have g1 : 5 * r.length + 2 ≤ 5 * (r.length + 1) := by omega
    have g2 : 5 * r.length + 2 ≤ 5 * (r.length + 1) + 1 := by omega
    have g3 : 5 * r.length + 4 ≠ 5 * (r.length + 1) := by omega
    have g4 : 5 * r.length + 4 ≠ 5 * (r.length + 1) + 1 := by omega
    have g5 : 5 * (r.length + 1) ≠ 5 * (r.length + 1) + 1 := by omega
    have fin : ∀ q, q < 645 → q ≠ 5 * (r.length + 1) → ve_L c1 l1 q a → wY_stepAdv_590 post (nI (5 * r.length)) (nI (5 * (r.length + 1))) (nI (F n)) (nI m) (nI q) (nI lim) g_tlen g_held g_root g_clen g_xn g_yn g_rn g_stat g_nn g_wsp g_depth (nI r.length) 0 b_text b_canon b_xs b_ys b_res b_kind b_nch b_na b_nb b_nc b_ws b_fb b_pend b_cst b_fnode b_fmode b_fph fi1 c1 l1 := by
      intro q hq hq2 hqa
      have e7 : (nI (16 * (5 * r.length + 1) + m)).toNatClampNeg = 16 * (5 * r.length + 1) + m := nI_clamp (by omega)
      unfold wY_stepAdv_590
      rw [b0, b1, ax_s1]
      refine yv_copy hq (by omega) hq2 fun c l hF hL => ⟨vp_in_nI (by omega) (by omega), ?_⟩
      rw [e7, (ve_o hF (by omega) ty1).2.2 m z]
      refine yv_one (by omega) fun c2 l2 hF2 hL2 => ?_
      unfold wY_stepAdv_620
      refine ya_620 HH hc hk3 (d' := true) rfl (ve_Ft hF1 (ve_Ft (ve_Fg hF g1) (ve_Fg hF2 g2))) hfi ?_ (w' := w') (fun q => ve_o hF2 g4 (ve_o hF g3 (hZ (h92 q)))) (fun _ => ve_o hF2 g5 (hL a hqa)) hL2 h
      unfold ym_fi
      rw [if_neg kn34, hm, hnx, em, Nat.add_sub_cancel]
    unfold wY_stepAdv_480
    refine pk_eq (K n) 34 (fun z => absurd z kn34) (fun _ => pk_eq (K n) 47 (fun e => ?_) (fun e => ?_) rfl rfl kb) rfl rfl kb
    · rw [if_pos e] at hA
      rw [a3]
      exact fin _ (by omega) (by omega) hA
    · rw [if_neg e] at hA
      rw [a2]
      exact fin _ (by omega) (by omega) hA
theorem ya_each {g_tlen g_held g_root g_clen g_xn g_yn g_rn g_stat g_nn g_wsp g_depth : Int32} {b_text b_canon b_xs b_ys b_res b_kind b_nch b_na b_nb b_nc b_ws b_fb b_pend b_cst b_fnode b_fmode b_fph b_fi b_vec b_vlen : Nat → Int32} {post : SY → Prop} {lim N : Nat} {K F S T : Nat → Nat} {R : List Int32} {n : Nat} {d : Bool} {p : Nat} {x y w : List Int32} {r : List am_F} (H : ys_H N K F S T R n d p x y w r b_kind b_nch b_na b_nb b_nc b_vec b_vlen b_fnode b_fmode b_fph b_fi) (hc : 0 < n) (hk : K n = 34) {c1 l1 fi1 : Nat → Int32} (hF1 : ve_F (fun t => 5 * r.length + 2 ≤ t) b_vec b_vlen c1 l1) (hfi : ∀ j, j < r.length → fi1 j = b_fi j)
    (hm : fi1 r.length = nI p) {q : Nat} (hq : am_cnt d x y = some q) {w' : List Int32} (hZ : ve_L c1 l1 (5 * r.length + 4) w')
    (h : ∀ er sp c l fn fm fp fi, ym_O K n d p x y r R (if p < q then am_push w' (F n) d (if d = true then [pr_el x p] else []) [if d = true then pr_el y p else y.getD p 0] else am_pop w') er sp c l fn fm fp fi → post (nI lim, g_tlen, g_held, g_root, g_clen, g_xn, g_yn, g_rn, g_stat, g_nn, g_wsp, g_depth, sp, er, b_text, b_canon, b_xs, b_ys, b_res, b_kind, b_nch, b_na, b_nb, b_nc, b_ws, b_fb, b_pend, b_cst, fn, fm, fp, fi, c, l)) :
    wY_stepAdv_354 post (nI r.length) (xm_m d) (nI (5 * r.length)) (nI (5 * (r.length + 1))) (nI (F n)) (nI (K n)) (nI y.length) (nI lim) g_tlen g_held g_root g_clen g_xn g_yn g_rn g_stat g_nn g_wsp g_depth (nI r.length) 0 b_text b_canon b_xs b_ys b_res b_kind b_nch b_na b_nb b_nc b_ws b_fb b_pend b_cst b_fnode b_fmode b_fph fi1 c1 l1 := by
  have HH := H
  obtain ⟨hT, hN, hn, hf, hp, ht, hr, h3, p16⟩ := H
  have ht' := ht
  obtain ⟨t1, t2, t3, tx, ty, t5, t6⟩ := ht
  have e1 : (nI r.length).toNatClampNeg = r.length := nI_clamp (by omega)
  have i1 : vp_in (nI r.length) 128 := vp_in_nI (by omega) (by omega)
  have a0 : nI (5 * r.length) + 0 = nI (5 * r.length) := Int32.add_zero _
  have a1 : nI (5 * r.length) + 1 = nI (5 * r.length + 1) := nI_1 _
  have b0 : nI (5 * (r.length + 1)) + 0 = nI (5 * (r.length + 1)) := Int32.add_zero _
  have b1 : nI (5 * (r.length + 1)) + 1 = nI (5 * (r.length + 1) + 1) := nI_1 _
  have a3 : nI (5 * r.length) + 3 = nI (5 * r.length + 3) := nI_add _ 3
  have a4 : nI (5 * r.length) + 4 = nI (5 * r.length + 4) := nI_add _ 4
  have e0 : (nI (5 * r.length)).toNatClampNeg = 5 * r.length := nI_clamp (by omega)
  have y16 := ty.1
  have ty1 := ve_o hF1 (by omega) ty
  have tx1 := fun hd => ve_o hF1 (by omega) (tx hd)
  have q16 : q ≤ 16 := by
    unfold am_cnt at hq
    split at hq
    · rename_i hd; exact pr_cnt_le hq (tx hd).1 y16
    · cases hq; exact y16
  have hfi2 : fi1 r.length = nI (ym_fi (K n) d (p + 1)) := by unfold ym_fi; rw [if_pos hk]; exact hm
  have m392 : wY_stepAdv_392 post (xm_m d) (nI (5 * r.length)) (nI (5 * (r.length + 1))) (nI (F n)) (nI (K n)) (nI y.length) (nI p) (nI q) (nI lim) g_tlen g_held g_root g_clen g_xn g_yn g_rn g_stat g_nn g_wsp g_depth (nI r.length) 0 b_text b_canon b_xs b_ys b_res b_kind b_nch b_na b_nb b_nc b_ws b_fb b_pend b_cst b_fnode b_fmode b_fph fi1 c1 l1 := by
    unfold wY_stepAdv_392
    refine pk_le q p (fun z => ?_) (fun z => ?_)
    · rw [if_neg (by omega)] at h
      unfold wY_stepAdv_406
      refine pk_eq (K n) 47 (fun e => by omega) (fun e => ?_) rfl rfl (by omega)
      rw [a4, a3]
      refine yv_copy (by omega) (by omega) (by omega) fun c l hF hL => nm_e (h _ _ _ _ _ _ _ _ (ym_Oq ?_))
      exact ym_pop hr (ve_Ft (ve_Fm hF1 fun t z => by have z' : 5 * r.length + 2 ≤ t := z; show 5 * r.length ≤ t; omega) (ve_Fg hF (by omega))) hfi (fun _ _ => rfl) (ys_m1 _) (hL w' hZ)
    · rw [if_pos z] at h
      refine br_t (nI_lt (b := 16) (by omega) (by decide)) (pk_eq (K n) 34 (fun _ => ys_d1 d (fun hd => ?_) (fun hd => ?_)) (fun e => absurd hk e) rfl rfl (by omega))
      · have e7 : (nI (16 * (5 * r.length + 1) + p)).toNatClampNeg = 16 * (5 * r.length + 1) + p := nI_clamp (by omega)
        have zy : p < y.length := by
          unfold am_cnt at hq
          rw [if_neg (by rw [hd]; decide)] at hq
          cases hq; exact z
        rw [ax_s1, b1]
        refine ⟨vp_in_nI (by omega) (by omega), ?_⟩
        rw [e7, ty1.2.2 p zy]
        refine yv_one (by omega) fun c l hF hL => ?_
        rw [if_neg (by rw [hd]; decide), if_neg (by rw [hd]; decide)] at h
        exact ya_620 HH hc (by omega) (d' := d) (by rw [hd]; rfl) (ve_Ft hF1 (ve_Fg hF (by omega))) hfi hfi2 (fun _ => ve_o hF (by omega) hZ) (fun z => by rw [hd] at z; cases z) hL h
      · unfold am_cnt at hq
        rw [if_pos hd] at hq
        obtain ⟨g1, g2⟩ := pr_cnt_lt hq z
        rw [if_pos hd, if_pos hd] at h
        unfold wY_stepAdv_480
        refine pk_eq (K n) 34 (fun _ => ?_) (fun e => absurd hk e) rfl rfl (by omega)
        have m544 : ∀ b, b < 16 → c1 (16 * (5 * r.length + 1) + b) = pr_el y p → wY_stepAdv_544 post (nI (5 * (r.length + 1))) (nI (F n)) (pr_el x p) (nI b) ((nI (5 * r.length) + 1) * 16) (nI lim) g_tlen g_held g_root g_clen g_xn g_yn g_rn g_stat g_nn g_wsp g_depth (nI r.length) 0 b_text b_canon b_xs b_ys b_res b_kind b_nch b_na b_nb b_nc b_ws b_fb b_pend b_cst b_fnode b_fmode b_fph fi1 c1 l1 := by
          intro b hb hv
          have e7 : (nI (16 * (5 * r.length + 1) + b)).toNatClampNeg = 16 * (5 * r.length + 1) + b := nI_clamp (by omega)
          unfold wY_stepAdv_544
          rw [ax_s1, b0, b1]
          refine ⟨vp_in_nI (by omega) (by omega), nm_r (e' := pr_el y p) (by rw [e7]; exact hv) ?_⟩
          refine yv_one (by omega) fun c l hF hL => ?_
          refine yv_one (by omega) fun c2 l2 hF2 hL2 => ?_
          unfold wY_stepAdv_620
          exact ya_620 HH hc (by omega) (d' := d) (by rw [hd]; rfl) (ve_Ft hF1 (ve_Ft (ve_Fg hF (by omega)) (ve_Fg hF2 (by omega)))) hfi hfi2 (fun _ => ve_o hF2 (by omega) (ve_o hF (by omega) hZ)) (fun _ => ve_o hF2 (by omega) hL) hL2 h
        have m517 : ∀ a, a < 16 → c1 (16 * (5 * r.length) + a) = pr_el x p → wY_stepAdv_517 post (nI (5 * r.length)) (nI (5 * (r.length + 1))) (nI (F n)) (nI y.length) (nI p) (nI a) ((nI (5 * r.length) + 0) * 16) (nI lim) g_tlen g_held g_root g_clen g_xn g_yn g_rn g_stat g_nn g_wsp g_depth (nI r.length) 0 b_text b_canon b_xs b_ys b_res b_kind b_nch b_na b_nb b_nc b_ws b_fb b_pend b_cst b_fnode b_fmode b_fph fi1 c1 l1 := by
          intro a ha hv
          have e7 : (nI (16 * (5 * r.length) + a)).toNatClampNeg = 16 * (5 * r.length) + a := nI_clamp (by omega)
          unfold wY_stepAdv_517
          rw [ax_s0]
          refine ⟨vp_in_nI (by omega) (by omega), nm_r (e' := pr_el x p) (by rw [e7]; exact hv) ?_⟩
          refine pk_eq y.length 1 (fun e => m544 0 (by omega) ?_) (fun e => m544 p (by omega) ?_)
          · rw [ty1.2.2 0 (by omega)]; unfold pr_el; rw [if_pos e]
          · rw [ty1.2.2 p (g2 e)]; unfold pr_el; rw [if_neg e]
        have vx : l1 (nI (5 * r.length) + 0).toNatClampNeg = nI x.length := by rw [a0, e0]; exact (tx1 hd).2.1
        refine ⟨by rw [a0]; exact vp_in_nI (by omega) (by omega), ?_⟩
        rw [vx]
        refine pk_eq x.length 1 (fun e => m517 0 (by omega) ?_) (fun e => m517 p (by omega) ?_) rfl rfl (by have := (tx hd).1; omega)
        · rw [(tx1 hd).2.2 0 (by omega)]; unfold pr_el; rw [if_pos e]
        · rw [(tx1 hd).2.2 p (g1 e)]; unfold pr_el; rw [if_neg e]
  unfold wY_stepAdv_354
  refine ⟨i1, nm_r (e' := nI p) (by rw [e1]; exact hm) (pk_eq (K n) 34 (fun _ => ys_d2 d (fun hd => ?_) (fun hd => ?_)) (fun e => absurd hk e) rfl rfl (by omega))⟩
  · rw [a0, a1]
    refine yv_pairs (by omega) (by omega) (tx1 hd) ty1 ?_
    unfold am_cnt at hq
    rw [if_pos hd] at hq
    rw [hq]
    exact m392
  · unfold am_cnt at hq
    rw [if_neg (by rw [hd]; decide)] at hq
    cases hq
    exact m392
end
section
/-! the reference's adverbs, from their first row -/
theorem ya_344 {g_lim g_tlen g_held g_root g_clen g_xn g_yn g_rn g_stat g_nn g_wsp g_depth g_sp g_err : Int32} {b_text b_canon b_xs b_ys b_res b_kind b_nch b_na b_nb b_nc b_ws b_fb b_pend b_cst b_fnode b_fmode b_fph b_fi b_vec b_vlen : Nat → Int32} {post : SY → Prop} {f m : Nat} {x3 x5 x6 x7 x8 x9 : Int32} (hf : f < 128) (hm : b_fi f = nI m)
    (h : wY_stepAdv_354 post (nI f) x3 x5 x6 x7 x8 x9 g_lim g_tlen g_held g_root g_clen g_xn g_yn g_rn g_stat g_nn g_wsp g_depth g_sp g_err b_text b_canon b_xs b_ys b_res b_kind b_nch b_na b_nb b_nc b_ws b_fb b_pend b_cst b_fnode b_fmode b_fph (upd b_fi f (nI (m + 1))) b_vec b_vlen) : wY_stepAdv_344 post (nI f) x3 x5 x6 x7 x8 x9 g_lim g_tlen g_held g_root g_clen g_xn g_yn g_rn g_stat g_nn g_wsp g_depth g_sp g_err b_text b_canon b_xs b_ys b_res b_kind b_nch b_na b_nb b_nc b_ws b_fb b_pend b_cst b_fnode b_fmode b_fph b_fi b_vec b_vlen := by
  have e1 : (nI f).toNatClampNeg = f := nI_clamp (by omega)
  exact ⟨vp_in_nI hf (by omega), vp_in_nI hf (by omega), nm_r (e' := upd b_fi f (nI (m + 1))) (by rw [e1, hm, nI_1]) h⟩
theorem ym_ph1 {k p : Nat} (h : k = 47 ∨ k = 92 ∨ k = 34) (hp : ¬ p = 0) : ym_ph k p = 1 := by
  unfold ym_ph; rw [if_pos h]; omega
theorem ym_ph2 {k p : Nat} (h : p = 0) : ym_ph k p = 0 := by
  unfold ym_ph; rw [h]; split <;> rfl
theorem am_nx1 {d : Bool} {p : Nat} (h : ¬ p = 0) : am_nx d p - 1 + 1 = am_nx d p := by
  have := am_nxp d p; omega
theorem am_nx17 {d : Bool} {p : Nat} (h : p ≤ 16) : am_nx d p ≤ 17 := by
  unfold am_nx; split <;> omega
theorem ya_red {g_tlen g_held g_root g_clen g_xn g_yn g_rn g_stat g_nn g_wsp g_depth : Int32} {b_text b_canon b_xs b_ys b_res b_kind b_nch b_na b_nb b_nc b_ws b_fb b_pend b_cst b_fnode b_fmode b_fph b_fi b_vec b_vlen : Nat → Int32} {post : SY → Prop} {lim N : Nat} {K F S T : Nat → Nat} {R : List Int32} {n : Nat} {d : Bool} {p : Nat} {x y w : List Int32} {r : List am_F} (H : ys_H N K F S T R n d p x y w r b_kind b_nch b_na b_nb b_nc b_vec b_vlen b_fnode b_fmode b_fph b_fi) (hk : K n = 47) (hc : 0 < n)
    (h : ∀ er sp c l fn fm fp fi, ym_O K n d p x y r R (am_red (F n) d p x y w R) er sp c l fn fm fp fi → post (nI lim, g_tlen, g_held, g_root, g_clen, g_xn, g_yn, g_rn, g_stat, g_nn, g_wsp, g_depth, sp, er, b_text, b_canon, b_xs, b_ys, b_res, b_kind, b_nch, b_na, b_nb, b_nc, b_ws, b_fb, b_pend, b_cst, fn, fm, fp, fi, c, l)) : wpY_stepAdv post (nI lim, g_tlen, g_held, g_root, g_clen, g_xn, g_yn, g_rn, g_stat, g_nn, g_wsp, g_depth, nI r.length, 0, b_text, b_canon, b_xs, b_ys, b_res, b_kind, b_nch, b_na, b_nb, b_nc, b_ws, b_fb, b_pend, b_cst, b_fnode, b_fmode, b_fph, b_fi, b_vec, b_vlen) (nI r.length) (nI n) (xm_m d) (nI (ym_ph (K n) p)) := by
  have HH := H
  obtain ⟨hT, hN, hn, hf, hp, ht, hr, h3, p16⟩ := H
  have ht' := ht
  obtain ⟨t1, t2, t3, tx, ty, t5, t6⟩ := ht
  have e1 : (nI r.length).toNatClampNeg = r.length := nI_clamp (by omega)
  have e2 : (nI n).toNatClampNeg = n := nI_clamp (by omega)
  have e3 : (nI (5 * r.length + 1)).toNatClampNeg = 5 * r.length + 1 := nI_clamp (by omega)
  have e4 : (nI (5 * r.length + 4)).toNatClampNeg = 5 * r.length + 4 := nI_clamp (by omega)
  have e5 : (nI (16 * (5 * r.length + 1))).toNatClampNeg = 16 * (5 * r.length + 1) := nI_clamp (by omega)
  have i1 : vp_in (nI r.length) 128 := vp_in_nI (by omega) (by omega)
  have i2 : vp_in (nI n) 128 := vp_in_nI (by omega) (by omega)
  obtain ⟨k1, k2, k3, k4, k5⟩ := hT n hn
  have a0 : nI (5 * r.length) + 0 = nI (5 * r.length) := Int32.add_zero _
  have a1 : nI (5 * r.length) + 1 = nI (5 * r.length + 1) := nI_1 _
  have a3 : nI (5 * r.length) + 3 = nI (5 * r.length + 3) := nI_add _ 3
  have a4 : nI (5 * r.length) + 4 = nI (5 * r.length + 4) := nI_add _ 4
  have ph1 := fun q => ym_ph1 (k := K n) (p := p) (Or.inl hk) q
  have cy : tr_cy (K n) = K n := by unfold tr_cy; rw [if_neg (by omega)]
  have n17 := am_nx17 (d := d) p16
  have kb : K n < 2 ^ 31 := by omega
  have y16 := ty.1
  unfold am_red at h
  refine nm_r (e' := nI (5 * r.length)) ((pk_mul _ 5).trans (congrArg nI (Nat.mul_comm _ _))) (nm_r (e' := nI (5 * (r.length + 1))) (nI_add (5 * r.length) 5) ⟨i2, nm_r (e' := nI (F n)) (by rw [e2]; exact k3) ⟨i2, nm_r (e' := nI (K n)) (by rw [e2, k2, cy]) ⟨by rw [a1]; exact vp_in_nI (by omega) (by omega), nm_r (e' := nI y.length) (by rw [a1, e3]; exact ty.2.1) ?_⟩⟩⟩)
  by_cases p0 : p = 0
  · rw [ym_ph2 p0]
    refine br_t rfl ⟨i1, nm_r (e' := upd b_fi r.length 0) (by rw [e1]) ⟨by rw [a4]; exact vp_in_nI (by omega) (by omega), nm_r (e' := upd b_vlen (5 * r.length + 4) 0) (by rw [a4, e4]) ?_⟩⟩
    refine br_t (by rw [hk]; rfl) (ys_d1 d (fun hd => ?_) (fun hd => ?_))
    · refine pk_eq y.length 0 (fun z => ?_) (fun z => ⟨by rw [a1, ax_mul0]; exact vp_in_nI (by omega) (by omega), ?_⟩)
      · rw [if_pos ⟨p0, hd, z⟩] at h
        exact h _ _ _ _ _ _ _ _ ym_Of
      · rw [if_neg (fun q => z q.2.2)] at h
        have y0 := ty.2.2 0 (by omega)
        rw [Nat.add_zero] at y0
        rw [a1, ax_mul0, e5, y0, a3]
        refine yv_one (by omega) fun c l hF hL => ⟨i1, nm_r (e' := upd (upd b_fi r.length 0) r.length 1) (by rw [e1]) ?_⟩
        have enx : am_nx d p = 1 := by rw [hd, p0]; rfl
        refine ya_fold HH hc (Or.inl hk) (ve_Ft (ve_Fg ve_Fl (by omega)) (ve_Fg hF (by omega))) (fun j hj => by rw [pk_un (by omega), pk_un (by omega)]) (m := 1) pk_us (by omega) (fun _ => enx.symm) (fun q => by rw [enx]; exact q) (a := am_r d p x y R) (w' := w) ?_ (fun z => by omega) (fun _ => rfl) (fun z => by omega) h
        rw [if_pos hk]
        unfold am_r
        rw [if_pos p0, if_neg (by rw [hd]; decide), ve_t1 (by omega)]
        exact hL
    · rw [if_neg (fun q => by rw [hd] at q; exact absurd q.2.1 (by decide))] at h
      unfold wY_stepAdv_113
      refine br_t (by rw [hk]; rfl) ?_
      rw [a0, a3]
      refine yv_copy (by omega) (by omega) (by omega) fun c l hF hL => ?_
      have enx : am_nx d p = 0 := by rw [hd, p0]; rfl
      refine ya_fold HH hc (Or.inl hk) (ve_Ft (ve_Fg ve_Fl (by omega)) (ve_Fg hF (by omega))) (fun j hj => by rw [pk_un (by omega)]) (m := 0) pk_us (by omega) (fun _ => enx.symm) (fun q => by rw [enx]; exact q) (a := am_r d p x y R) (w' := w) ?_ (fun z => by omega) (fun _ => rfl) (fun z => by omega) h
      rw [if_pos hk]
      unfold am_r
      rw [if_pos p0, if_pos hd]
      exact hL x (ve_o ve_Fl (by omega) (tx hd))
  · rw [if_neg (fun q => p0 q.1)] at h
    refine br_f (by rw [ph1 p0]; decide) (nm_r (e' := nI (5 * (r.length + 1) + 3)) (nI_add _ 3) ?_)
    refine br_t (by rw [hk]; rfl) ?_
    rw [a3]
    refine yv_copy (by omega) (by omega) (by omega) fun c l hF hL => ?_
    have fm := t3 (Or.inl hk) (by omega)
    unfold ym_fi at fm
    rw [if_neg (by omega)] at fm
    refine ya_344 (by omega) fm ?_
    rw [am_nx1 p0]
    refine ya_fold HH hc (Or.inl hk) (ve_Fg hF (by omega)) (fun j hj => by rw [pk_un (by omega)]) (m := am_nx d p) pk_us n17 (fun _ => rfl) (fun q => q) (a := am_r d p x y R) (w' := w) ?_ (fun z => by omega) (fun _ => rfl) (fun z => by omega) h
    rw [if_pos hk]
    unfold am_r
    rw [if_neg p0]
    exact hL R (h3 (by omega))
theorem ya_scan {g_tlen g_held g_root g_clen g_xn g_yn g_rn g_stat g_nn g_wsp g_depth : Int32} {b_text b_canon b_xs b_ys b_res b_kind b_nch b_na b_nb b_nc b_ws b_fb b_pend b_cst b_fnode b_fmode b_fph b_fi b_vec b_vlen : Nat → Int32} {post : SY → Prop} {lim N : Nat} {K F S T : Nat → Nat} {R : List Int32} {n : Nat} {d : Bool} {p : Nat} {x y w : List Int32} {r : List am_F} (H : ys_H N K F S T R n d p x y w r b_kind b_nch b_na b_nb b_nc b_vec b_vlen b_fnode b_fmode b_fph b_fi) (hk : K n = 92) (hc : 0 < n) (hw : 0 < p → w.length < 16 ∧ w.length + 1 = am_nx d p)
    (h : ∀ er sp c l fn fm fp fi, ym_O K n d p x y r R (am_scan (F n) d p x y w R) er sp c l fn fm fp fi → post (nI lim, g_tlen, g_held, g_root, g_clen, g_xn, g_yn, g_rn, g_stat, g_nn, g_wsp, g_depth, sp, er, b_text, b_canon, b_xs, b_ys, b_res, b_kind, b_nch, b_na, b_nb, b_nc, b_ws, b_fb, b_pend, b_cst, fn, fm, fp, fi, c, l)) : wpY_stepAdv post (nI lim, g_tlen, g_held, g_root, g_clen, g_xn, g_yn, g_rn, g_stat, g_nn, g_wsp, g_depth, nI r.length, 0, b_text, b_canon, b_xs, b_ys, b_res, b_kind, b_nch, b_na, b_nb, b_nc, b_ws, b_fb, b_pend, b_cst, b_fnode, b_fmode, b_fph, b_fi, b_vec, b_vlen) (nI r.length) (nI n) (xm_m d) (nI (ym_ph (K n) p)) := by
  have HH := H
  obtain ⟨hT, hN, hn, hf, hp, ht, hr, h3, p16⟩ := H
  have ht' := ht
  obtain ⟨t1, t2, t3, tx, ty, t5, t6⟩ := ht
  have e1 : (nI r.length).toNatClampNeg = r.length := nI_clamp (by omega)
  have e2 : (nI n).toNatClampNeg = n := nI_clamp (by omega)
  have e3 : (nI (5 * r.length + 1)).toNatClampNeg = 5 * r.length + 1 := nI_clamp (by omega)
  have e4 : (nI (5 * r.length + 4)).toNatClampNeg = 5 * r.length + 4 := nI_clamp (by omega)
  have e5 : (nI (16 * (5 * r.length + 1))).toNatClampNeg = 16 * (5 * r.length + 1) := nI_clamp (by omega)
  have e6 : (nI (5 * (r.length + 1) + 3)).toNatClampNeg = 5 * (r.length + 1) + 3 := nI_clamp (by omega)
  have e7 : (nI (16 * (5 * (r.length + 1) + 3))).toNatClampNeg = 16 * (5 * (r.length + 1) + 3) := nI_clamp (by omega)
  have i1 : vp_in (nI r.length) 128 := vp_in_nI (by omega) (by omega)
  have i2 : vp_in (nI n) 128 := vp_in_nI (by omega) (by omega)
  obtain ⟨k1, k2, k3, k4, k5⟩ := hT n hn
  have a0 : nI (5 * r.length) + 0 = nI (5 * r.length) := Int32.add_zero _
  have a1 : nI (5 * r.length) + 1 = nI (5 * r.length + 1) := nI_1 _
  have a2 : nI (5 * r.length) + 2 = nI (5 * r.length + 2) := nI_add _ 2
  have a4 : nI (5 * r.length) + 4 = nI (5 * r.length + 4) := nI_add _ 4
  have ph1 := fun q => ym_ph1 (k := K n) (p := p) (Or.inr (Or.inl hk)) q
  have cy : tr_cy (K n) = K n := by unfold tr_cy; rw [if_neg (by omega)]
  have n17 := am_nx17 (d := d) p16
  have k47 : ¬ nI (K n) = 47 := by rw [hk]; decide
  have k34 : ¬ nI (K n) = 34 := by rw [hk]; decide
  have kn47 : ¬ K n = 47 := by omega
  have y16 := ty.1
  unfold am_scan at h
  refine nm_r (e' := nI (5 * r.length)) ((pk_mul _ 5).trans (congrArg nI (Nat.mul_comm _ _))) (nm_r (e' := nI (5 * (r.length + 1))) (nI_add (5 * r.length) 5) ⟨i2, nm_r (e' := nI (F n)) (by rw [e2]; exact k3) ⟨i2, nm_r (e' := nI (K n)) (by rw [e2, k2, cy]) ⟨by rw [a1]; exact vp_in_nI (by omega) (by omega), nm_r (e' := nI y.length) (by rw [a1, e3]; exact ty.2.1) ?_⟩⟩⟩)
  by_cases p0 : p = 0
  · rw [if_neg (fun q => q.1 p0)] at h
    rw [ym_ph2 p0]
    refine br_t rfl ⟨i1, nm_r (e' := upd b_fi r.length 0) (by rw [e1]) ⟨by rw [a4]; exact vp_in_nI (by omega) (by omega), nm_r (e' := upd b_vlen (5 * r.length + 4) 0) (by rw [a4, e4]) ?_⟩⟩
    have m113 : wY_stepAdv_113 post (nI r.length) (xm_m d) (nI (5 * r.length)) (nI (5 * (r.length + 1))) (nI (F n)) (nI (K n)) (nI y.length) (nI lim) g_tlen g_held g_root g_clen g_xn g_yn g_rn g_stat g_nn g_wsp g_depth (nI r.length) 0 b_text b_canon b_xs b_ys b_res b_kind b_nch b_na b_nb b_nc b_ws b_fb b_pend b_cst b_fnode b_fmode b_fph (upd b_fi r.length 0) b_vec (upd b_vlen (5 * r.length + 4) 0) := by
      unfold wY_stepAdv_113
      refine br_f k47 (br_t (by rw [hk]; rfl) (ys_d1 d (fun hd => ?_) (fun hd => ?_)))
      · refine pk_le y.length 0 (fun z => ?_) (fun z => ⟨by rw [a1, ax_mul0]; exact vp_in_nI (by omega) (by omega), ?_⟩)
        · have yn : y.length = 0 := by omega
          unfold wY_stepAdv_196
          refine br_t (by rw [hk]; rfl) (ys_d2 d (fun hd' => by rw [hd] at hd'; cases hd') (fun _ => ?_))
          unfold wY_stepAdv_223
          refine br_f k34 ?_
          -- an empty scan: the slot of r is never read
          rw [if_neg (by rw [yn]; exact Nat.not_lt_zero _)] at h
          have hz : am_z d p y w R = [] := by
            unfold am_z
            rw [if_pos p0, if_neg (by rw [hd]; decide), ve_nI yn]; rfl
          rw [hz] at h
          unfold wY_stepAdv_354
          refine ⟨i1, nm_r (e' := nI 0) (by rw [e1]; exact pk_us) (br_f k34 ?_)⟩
          unfold wY_stepAdv_392
          refine br_t (by rw [yn]; decide) ?_
          unfold wY_stepAdv_406
          refine br_f k47 ?_
          rw [a4, show nI (5 * r.length) + 3 = nI (5 * r.length + 3) from nI_add _ 3]
          refine yv_copy (by omega) (by omega) (by omega) fun c l hF hL => nm_e (h _ _ _ _ _ _ _ _ (ym_Oq ?_))
          exact ym_pop hr (ve_Ft (ve_Fg ve_Fl (by omega)) (ve_Fg hF (by omega))) (fun j hj => by rw [pk_un (by omega)]) (fun _ _ => rfl) (ys_m1 _) (hL [] ve_nil)
        · have y0 := ty.2.2 0 (by omega)
          rw [Nat.add_zero] at y0
          rw [a1, ax_mul0, a2, a4]
          refine nm_r (e' := y.getD 0 0) (by rw [e5, y0]) ?_
          refine yv_one (by omega) fun c l hF hL => ?_
          refine yv_one (by omega) fun c2 l2 hF2 hL2 => ⟨i1, nm_r (e' := upd (upd b_fi r.length 0) r.length 1) (by rw [e1]) ?_⟩
          have enx : am_nx d p = 1 := by rw [hd, p0]; rfl
          refine ya_fold HH hc (Or.inr hk) (ve_Ft (ve_Fg ve_Fl (by omega)) (ve_Ft (ve_Fg hF (by omega)) (ve_Fg hF2 (by omega)))) (fun j hj => by rw [pk_un (by omega), pk_un (by omega)]) (m := 1) pk_us (by omega) (fun _ => enx.symm) (fun q => by rw [enx]; exact q) (a := am_r d p x y R) (w' := am_z d p y w R) ?_ (fun _ => ?_) (fun z => absurd z kn47) (fun _ => rfl) h
          · rw [if_neg kn47]
            unfold am_r
            rw [if_pos p0, if_neg (by rw [hd]; decide), ve_t1 (by omega)]
            exact ve_o hF2 (by omega) hL
          · unfold am_z
            rw [if_pos p0, if_neg (by rw [hd]; decide), ve_t1 (by omega)]
            exact hL2
      · unfold wY_stepAdv_196
        refine br_t (by rw [hk]; rfl) (ys_d2 d (fun _ => ?_) (fun hd' => by rw [hd] at hd'; cases hd'))
        rw [a0, a2]
        refine yv_copy (by omega) (by omega) (by omega) fun c l hF hL => ?_
        have enx : am_nx d p = 0 := by rw [hd, p0]; rfl
        refine ya_fold HH hc (Or.inr hk) (ve_Ft (ve_Fg ve_Fl (by omega)) (ve_Fg hF (by omega))) (fun j hj => by rw [pk_un (by omega)]) (m := 0) pk_us (by omega) (fun _ => enx.symm) (fun q => by rw [enx]; exact q) (a := am_r d p x y R) (w' := am_z d p y w R) ?_ (fun _ => ?_) (fun z => absurd z kn47) (fun _ => rfl) h
        · rw [if_neg kn47]
          unfold am_r
          rw [if_pos p0, if_pos hd]
          exact hL x (ve_o ve_Fl (by omega) (tx hd))
        · unfold am_z
          rw [if_pos p0, if_pos hd]
          exact ve_o hF (by omega) ve_nil
    exact br_f k47 m113
  · refine br_f (by rw [ph1 p0]; decide) (nm_r (e' := nI (5 * (r.length + 1) + 3)) (nI_add _ 3) ?_)
    refine br_f k47 ⟨vp_in_nI (by omega) (by omega), ?_⟩
    have hR := h3 (by omega)
    have r16 := hR.1
    obtain ⟨w16, wnx⟩ := hw (by omega)
    have fm := t3 (Or.inr (Or.inl hk)) (by omega)
    unfold ym_fi at fm
    rw [if_neg (by omega)] at fm
    have fw : b_fi r.length = nI w.length := by rw [fm]; exact congrArg nI (by omega)
    rw [e6, hR.2.1]
    refine pk_eq R.length 1 (fun z => ⟨by rw [ax_mul0]; exact vp_in_nI (by omega) (by omega), ?_⟩) (fun z => ?_)
    · rw [if_neg (fun q => q.2 z)] at h
      have v0 := hR.2.2 0 (by omega)
      rw [Nat.add_zero] at v0
      rw [ax_mul0]
      refine nm_r (e' := R.getD 0 0) (by rw [e7, v0]) ⟨i1, ?_⟩
      rw [e1, fw, a4]
      refine yv_put (by omega) (t6 (Or.inl hk) (by omega)) w16 fun c l hF hL => br_t (by rw [hk]; rfl) ?_
      rw [a2]
      refine yv_copy (by omega) (by omega) (by omega) fun c2 l2 hF2 hL2 => ?_
      refine ya_344 (by omega) fw ?_
      rw [wnx]
      refine ya_fold HH hc (Or.inr hk) (ve_Ft (ve_Fg hF (by omega)) (ve_Fg hF2 (by omega))) (fun j hj => by rw [pk_un (by omega)]) (m := am_nx d p) pk_us n17 (fun _ => rfl) (fun q => q) (a := am_r d p x y R) (w' := am_z d p y w R) ?_ (fun _ => ?_) (fun z => absurd z kn47) (fun _ => rfl) h
      · rw [if_neg kn47]
        unfold am_r
        rw [if_neg p0]
        exact hL2 R (ve_o hF (by omega) hR)
      · unfold am_z
        rw [if_neg p0, ve_1 z]
        exact ve_o hF2 (by omega) hL
    · rw [if_pos ⟨p0, z⟩] at h
      exact h _ _ _ _ _ _ _ _ ym_Of
theorem ya_eachs {g_tlen g_held g_root g_clen g_xn g_yn g_rn g_stat g_nn g_wsp g_depth : Int32} {b_text b_canon b_xs b_ys b_res b_kind b_nch b_na b_nb b_nc b_ws b_fb b_pend b_cst b_fnode b_fmode b_fph b_fi b_vec b_vlen : Nat → Int32} {post : SY → Prop} {lim N : Nat} {K F S T : Nat → Nat} {R : List Int32} {n : Nat} {d : Bool} {p : Nat} {x y w : List Int32} {r : List am_F} (H : ys_H N K F S T R n d p x y w r b_kind b_nch b_na b_nb b_nc b_vec b_vlen b_fnode b_fmode b_fph b_fi) (hk : K n = 34) (hc : 0 < n) (hw : 0 < p → w.length < 16 ∧ w.length + 1 = p ∧ ∃ q, am_cnt d x y = some q)
    (h : ∀ er sp c l fn fm fp fi, ym_O K n d p x y r R (am_each (F n) d p x y w R) er sp c l fn fm fp fi → post (nI lim, g_tlen, g_held, g_root, g_clen, g_xn, g_yn, g_rn, g_stat, g_nn, g_wsp, g_depth, sp, er, b_text, b_canon, b_xs, b_ys, b_res, b_kind, b_nch, b_na, b_nb, b_nc, b_ws, b_fb, b_pend, b_cst, fn, fm, fp, fi, c, l)) : wpY_stepAdv post (nI lim, g_tlen, g_held, g_root, g_clen, g_xn, g_yn, g_rn, g_stat, g_nn, g_wsp, g_depth, nI r.length, 0, b_text, b_canon, b_xs, b_ys, b_res, b_kind, b_nch, b_na, b_nb, b_nc, b_ws, b_fb, b_pend, b_cst, b_fnode, b_fmode, b_fph, b_fi, b_vec, b_vlen) (nI r.length) (nI n) (xm_m d) (nI (ym_ph (K n) p)) := by
  have HH := H
  obtain ⟨hT, hN, hn, hf, hp, ht, hr, h3, p16⟩ := H
  have ht' := ht
  obtain ⟨t1, t2, t3, tx, ty, t5, t6⟩ := ht
  have e1 : (nI r.length).toNatClampNeg = r.length := nI_clamp (by omega)
  have e2 : (nI n).toNatClampNeg = n := nI_clamp (by omega)
  have e3 : (nI (5 * r.length + 1)).toNatClampNeg = 5 * r.length + 1 := nI_clamp (by omega)
  have e4 : (nI (5 * r.length + 4)).toNatClampNeg = 5 * r.length + 4 := nI_clamp (by omega)
  have e6 : (nI (5 * (r.length + 1) + 3)).toNatClampNeg = 5 * (r.length + 1) + 3 := nI_clamp (by omega)
  have e7 : (nI (16 * (5 * (r.length + 1) + 3))).toNatClampNeg = 16 * (5 * (r.length + 1) + 3) := nI_clamp (by omega)
  have i1 : vp_in (nI r.length) 128 := vp_in_nI (by omega) (by omega)
  have i2 : vp_in (nI n) 128 := vp_in_nI (by omega) (by omega)
  obtain ⟨k1, k2, k3, k4, k5⟩ := hT n hn
  have a0 : nI (5 * r.length) + 0 = nI (5 * r.length) := Int32.add_zero _
  have a1 : nI (5 * r.length) + 1 = nI (5 * r.length + 1) := nI_1 _
  have a4 : nI (5 * r.length) + 4 = nI (5 * r.length + 4) := nI_add _ 4
  have ph1 := fun q => ym_ph1 (k := K n) (p := p) (Or.inr (Or.inr hk)) q
  have cy : tr_cy (K n) = K n := by unfold tr_cy; rw [if_neg (by omega)]
  have k47 : ¬ nI (K n) = 47 := by rw [hk]; decide
  have k92 : ¬ nI (K n) = 92 := by rw [hk]; decide
  have y16 := ty.1
  unfold am_each at h
  refine nm_r (e' := nI (5 * r.length)) ((pk_mul _ 5).trans (congrArg nI (Nat.mul_comm _ _))) (nm_r (e' := nI (5 * (r.length + 1))) (nI_add (5 * r.length) 5) ⟨i2, nm_r (e' := nI (F n)) (by rw [e2]; exact k3) ⟨i2, nm_r (e' := nI (K n)) (by rw [e2, k2, cy]) ⟨by rw [a1]; exact vp_in_nI (by omega) (by omega), nm_r (e' := nI y.length) (by rw [a1, e3]; exact ty.2.1) ?_⟩⟩⟩)
  by_cases p0 : p = 0
  · rw [ym_ph2 p0]
    refine br_t rfl ⟨i1, nm_r (e' := upd b_fi r.length 0) (by rw [e1]) ⟨by rw [a4]; exact vp_in_nI (by omega) (by omega), nm_r (e' := upd b_vlen (5 * r.length + 4) 0) (by rw [a4, e4]) ?_⟩⟩
    have m113 : wY_stepAdv_113 post (nI r.length) (xm_m d) (nI (5 * r.length)) (nI (5 * (r.length + 1))) (nI (F n)) (nI (K n)) (nI y.length) (nI lim) g_tlen g_held g_root g_clen g_xn g_yn g_rn g_stat g_nn g_wsp g_depth (nI r.length) 0 b_text b_canon b_xs b_ys b_res b_kind b_nch b_na b_nb b_nc b_ws b_fb b_pend b_cst b_fnode b_fmode b_fph (upd b_fi r.length 0) b_vec (upd b_vlen (5 * r.length + 4) 0) := by
      unfold wY_stepAdv_113
      refine br_f k47 (br_f k92 ?_)
      unfold wY_stepAdv_196
      refine br_f k92 ?_
      unfold wY_stepAdv_223
      have fin : ∀ q, am_cnt d x y = some q → wY_stepAdv_354 post (nI r.length) (xm_m d) (nI (5 * r.length)) (nI (5 * (r.length + 1))) (nI (F n)) (nI (K n)) (nI y.length) (nI lim) g_tlen g_held g_root g_clen g_xn g_yn g_rn g_stat g_nn g_wsp g_depth (nI r.length) 0 b_text b_canon b_xs b_ys b_res b_kind b_nch b_na b_nb b_nc b_ws b_fb b_pend b_cst b_fnode b_fmode b_fph (upd b_fi r.length 0) b_vec (upd b_vlen (5 * r.length + 4) 0) := by
        intro q hq
        rw [hq] at h
        dsimp only at h
        rw [if_neg (fun q => q.1 p0)] at h
        have hz : am_ze p w R = [] := by unfold am_ze; rw [if_pos p0]
        rw [hz] at h
        exact ya_each HH hc hk (ve_Fg ve_Fl (by omega)) (fun j hj => by rw [pk_un (by omega)]) (by rw [p0]; exact pk_us) hq ve_nil h
      refine br_t (by rw [hk]; rfl) (ys_d2 d (fun hd => ?_) (fun hd => ?_))
      · have ec : am_cnt d x y = pr_cnt x.length y.length := by unfold am_cnt; rw [if_pos hd]
        rw [a0, a1]
        refine yv_pairs (xs := x) (ys := y) (by omega) (by omega) (ve_o ve_Fl (by omega) (tx hd)) (ve_o ve_Fl (by omega) ty) ?_
        cases hq : pr_cnt x.length y.length with
        | none =>
          rw [ec, hq] at h
          exact br_f yp_n1 (h _ _ _ _ _ _ _ _ ym_Of)
        | some q =>
          have q16 := pr_cnt_le hq (tx hd).1 y16
          exact br_t (nI_pos' (by omega)) (fin q (ec.trans hq))
      · exact fin y.length (by unfold am_cnt; rw [if_neg (by rw [hd]; decide)])
    exact br_f k47 m113
  · refine br_f (by rw [ph1 p0]; decide) (nm_r (e' := nI (5 * (r.length + 1) + 3)) (nI_add _ 3) ?_)
    refine br_f k47 ⟨vp_in_nI (by omega) (by omega), ?_⟩
    have hR := h3 (by omega)
    have r16 := hR.1
    obtain ⟨w16, wp, q, hq⟩ := hw (by omega)
    have fm := t3 (Or.inr (Or.inr hk)) (by omega)
    unfold ym_fi at fm
    rw [if_pos hk] at fm
    have fw : b_fi r.length = nI w.length := by rw [fm]; exact congrArg nI (by omega)
    rw [hq] at h
    dsimp only at h
    rw [e6, hR.2.1]
    refine pk_eq R.length 1 (fun z => ⟨by rw [ax_mul0]; exact vp_in_nI (by omega) (by omega), ?_⟩) (fun z => ?_)
    · rw [if_neg (fun q => q.2 z)] at h
      have v0 := hR.2.2 0 (by omega)
      rw [Nat.add_zero] at v0
      rw [ax_mul0]
      refine nm_r (e' := R.getD 0 0) (by rw [e7, v0]) ⟨i1, ?_⟩
      rw [e1, fw, a4]
      refine yv_put (by omega) (t6 (Or.inr hk) (by omega)) w16 fun c l hF hL => br_f k92 ?_
      refine ya_344 (by omega) fw ?_
      have hz : am_ze p w R = w ++ [R.getD 0 0] := by unfold am_ze; rw [if_neg p0, ← ve_1 z]
      rw [hz] at h
      exact ya_each HH hc hk (ve_Fg hF (by omega)) (fun j hj => by rw [pk_un (by omega)]) (by rw [wp]; exact pk_us) hq hL h
    · rw [if_pos ⟨p0, z⟩] at h
      exact h _ _ _ _ _ _ _ _ ym_Of
end
section
/-! the reference: a step, and the loop's -/
theorem ys_leaf {g_tlen g_held g_root g_clen g_xn g_yn g_rn g_stat g_nn g_wsp g_depth : Int32} {b_text b_canon b_xs b_ys b_res b_kind b_nch b_na b_nb b_nc b_ws b_fb b_pend b_cst b_fnode b_fmode b_fph b_fi b_vec b_vlen : Nat → Int32} {post : SY → Prop} {lim N : Nat} {K F S T : Nat → Nat} {R : List Int32} {n : Nat} {d : Bool} {p : Nat} {x y w : List Int32} {r : List am_F} (H : ys_H N K F S T R n d p x y w r b_kind b_nch b_na b_nb b_nc b_vec b_vlen b_fnode b_fmode b_fph b_fi) (hl : lim ≤ 16) (hk : K n < 128) (hk0 : tr_ky (K n) = 0) (hcy : tr_cy (K n) = K n)
    (h : ∀ er sp c l fn fm fp fi, ym_O K n d p x y r R (am_leaf lim (K n) d x y) er sp c l fn fm fp fi → post (nI lim, g_tlen, g_held, g_root, g_clen, g_xn, g_yn, g_rn, g_stat, g_nn, g_wsp, g_depth, sp, er, b_text, b_canon, b_xs, b_ys, b_res, b_kind, b_nch, b_na, b_nb, b_nc, b_ws, b_fb, b_pend, b_cst, fn, fm, fp, fi, c, l)) : wpY_step post (nI lim, g_tlen, g_held, g_root, g_clen, g_xn, g_yn, g_rn, g_stat, g_nn, g_wsp, g_depth, nI r.length, 0, b_text, b_canon, b_xs, b_ys, b_res, b_kind, b_nch, b_na, b_nb, b_nc, b_ws, b_fb, b_pend, b_cst, b_fnode, b_fmode, b_fph, b_fi, b_vec, b_vlen) := by
  obtain ⟨hT, hN, hn, hf, hp, ht, hr, h3, p16⟩ := H
  obtain ⟨t1, t2, t3, tx, ty, t5, t6⟩ := ht
  have e1 : (nI r.length).toNatClampNeg = r.length := nI_clamp (by omega)
  have e2 : (nI n).toNatClampNeg = n := nI_clamp (by omega)
  have i1 : vp_in (nI r.length) 128 := vp_in_nI (by omega) (by omega)
  have i2 : vp_in (nI n) 128 := vp_in_nI (by omega) (by omega)
  obtain ⟨k1, k2, k3, k4, k5⟩ := hT n hn
  refine br_f (nI_pos (by omega)) (br_t (nI_lt (b := 128) (by omega) (by decide)) ⟨i1, nm_r (e' := nI n) (by rw [e1]; exact t1) ⟨i1, nm_r (e' := xm_m d) (by rw [e1]; exact t2) ⟨i1, nm_r (e' := nI (ym_ph (K n) p)) (by rw [e1]; exact hp) (nm_r (e' := nI (5 * r.length)) ((pk_mul _ 5).trans (congrArg nI (Nat.mul_comm _ _))) (nm_r (e' := nI (5 * (r.length + 1))) (nI_add (5 * r.length) 5) ⟨i2, nm_r (e' := nI (tr_ky (K n))) (by rw [e2]; exact k1) ?_⟩))⟩⟩⟩)
  rw [hk0]
  refine br_t rfl ⟨i2, ?_⟩
  rw [e2, k2, hcy]
  refine yp_prim hl hk (by omega) tx ty fun c l hv => nm_e (h _ _ _ _ _ _ _ _ ?_)
  rw [pl_a]
  unfold am_dy
  by_cases z : (pl_o lim (K n) d x y).1 = 0
  · rw [if_pos z, z]
    exact ym_Oq (ym_pop hr (ve_Fg hv.1 (by omega)) (fun _ _ => rfl) (fun _ _ => rfl) (ys_m1 _) (hv.2 z))
  · rw [if_neg z]
    exact ym_Of
theorem ys_adv {g_tlen g_held g_root g_clen g_xn g_yn g_rn g_stat g_nn g_wsp g_depth : Int32} {b_text b_canon b_xs b_ys b_res b_kind b_nch b_na b_nb b_nc b_ws b_fb b_pend b_cst b_fnode b_fmode b_fph b_fi b_vec b_vlen : Nat → Int32} {post : SY → Prop} {lim N : Nat} {K F S T : Nat → Nat} {R : List Int32} {n : Nat} {d : Bool} {p : Nat} {x y w : List Int32} {r : List am_F} (H : ys_H N K F S T R n d p x y w r b_kind b_nch b_na b_nb b_nc b_vec b_vlen b_fnode b_fmode b_fph b_fi) (hk1 : tr_ky (K n) = 1)
    (h : wpY_stepAdv post (nI lim, g_tlen, g_held, g_root, g_clen, g_xn, g_yn, g_rn, g_stat, g_nn, g_wsp, g_depth, nI r.length, 0, b_text, b_canon, b_xs, b_ys, b_res, b_kind, b_nch, b_na, b_nb, b_nc, b_ws, b_fb, b_pend, b_cst, b_fnode, b_fmode, b_fph, b_fi, b_vec, b_vlen) (nI r.length) (nI n) (xm_m d) (nI (ym_ph (K n) p))) : wpY_step post (nI lim, g_tlen, g_held, g_root, g_clen, g_xn, g_yn, g_rn, g_stat, g_nn, g_wsp, g_depth, nI r.length, 0, b_text, b_canon, b_xs, b_ys, b_res, b_kind, b_nch, b_na, b_nb, b_nc, b_ws, b_fb, b_pend, b_cst, b_fnode, b_fmode, b_fph, b_fi, b_vec, b_vlen) := by
  obtain ⟨hT, hN, hn, hf, hp, ht, hr, h3, p16⟩ := H
  obtain ⟨t1, t2, t3, tx, ty, t5, t6⟩ := ht
  have e1 : (nI r.length).toNatClampNeg = r.length := nI_clamp (by omega)
  have e2 : (nI n).toNatClampNeg = n := nI_clamp (by omega)
  have i1 : vp_in (nI r.length) 128 := vp_in_nI (by omega) (by omega)
  have i2 : vp_in (nI n) 128 := vp_in_nI (by omega) (by omega)
  obtain ⟨k1, k2, k3, k4, k5⟩ := hT n hn
  refine br_f (nI_pos (by omega)) (br_t (nI_lt (b := 128) (by omega) (by decide)) ⟨i1, nm_r (e' := nI n) (by rw [e1]; exact t1) ⟨i1, nm_r (e' := xm_m d) (by rw [e1]; exact t2) ⟨i1, nm_r (e' := nI (ym_ph (K n) p)) (by rw [e1]; exact hp) (nm_r (e' := nI (5 * r.length)) ((pk_mul _ 5).trans (congrArg nI (Nat.mul_comm _ _))) (nm_r (e' := nI (5 * (r.length + 1))) (nI_add (5 * r.length) 5) ⟨i2, nm_r (e' := nI (tr_ky (K n))) (by rw [e2]; exact k1) ?_⟩))⟩⟩⟩)
  rw [hk1]
  exact br_f (by decide) (br_t rfl h)
theorem ys_frame {g_tlen g_held g_root g_clen g_xn g_yn g_rn g_stat g_nn g_wsp g_depth : Int32} {b_text b_canon b_xs b_ys b_res b_kind b_nch b_na b_nb b_nc b_ws b_fb b_pend b_cst b_fnode b_fmode b_fph b_fi b_vec b_vlen : Nat → Int32} {post : SY → Prop} {lim N : Nat} {K F S T C A D : Nat → Nat} {R : List Int32} {n : Nat} {d : Bool} {p : Nat} {x y w : List Int32} {r : List am_F} (hl : lim ≤ 16) (hN : N ≤ 64)
    (hT : tr_Y N K F S T b_kind b_nch b_na b_nb b_nc) (hK : tr_ok N K F S T C A D) (ho : am_ok N K ((n, d, p, x, y, w) :: r))
    (hS : ym_S K ((n, d, p, x, y, w) :: r) R (nI r.length) b_vec b_vlen b_fnode b_fmode b_fph b_fi)
    (h : ∀ er sp c l fn fm fp fi, ym_O K n d p x y r R (am_act lim K F S T n d p x y w R) er sp c l fn fm fp fi → post (nI lim, g_tlen, g_held, g_root, g_clen, g_xn, g_yn, g_rn, g_stat, g_nn, g_wsp, g_depth, sp, er, b_text, b_canon, b_xs, b_ys, b_res, b_kind, b_nch, b_na, b_nb, b_nc, b_ws, b_fb, b_pend, b_cst, fn, fm, fp, fi, c, l)) : wpY_step post (nI lim, g_tlen, g_held, g_root, g_clen, g_xn, g_yn, g_rn, g_stat, g_nn, g_wsp, g_depth, nI r.length, 0, b_text, b_canon, b_xs, b_ys, b_res, b_kind, b_nch, b_na, b_nb, b_nc, b_ws, b_fb, b_pend, b_cst, b_fnode, b_fmode, b_fph, b_fi, b_vec, b_vlen) := by
  obtain ⟨o1, o2, lc, -⟩ := ho
  obtain ⟨-, ⟨hp, ht, hr⟩, h3⟩ := hS
  have lc' := lc
  obtain ⟨p16, lx, ly, lw, l1, l2, l3⟩ := lc'
  have nd := (hK n o1).1
  have kk := nd_k nd
  have H : ys_H N K F S T R n d p x y w r b_kind b_nch b_na b_nb b_nc b_vec b_vlen b_fnode b_fmode b_fph b_fi := ⟨hT, hN, o1, o2, hp, ht, hr, h3, p16⟩
  unfold am_act at h
  by_cases a1 : K n = 1
  · rw [if_pos a1] at h
    exact ys_fork H a1 (by have := nd_f1 nd a1; omega) h
  · rw [if_neg a1] at h
    by_cases a2 : K n = 2
    · rw [if_pos a2] at h
      exact ys_hook H a2 (by have := am_fs nd (Or.inl a2); omega) h
    · rw [if_neg a2] at h
      by_cases a3 : K n = 64
      · rw [if_pos a3] at h
        exact ys_atop H a3 (by have := am_fs nd (Or.inr a3); omega) h
      · rw [if_neg a3] at h
        by_cases a4 : K n = 47
        · rw [if_pos a4] at h
          exact ys_adv (lim := lim) H (by rw [a4]; rfl) (ya_red H a4 (by have := am_fa nd (Or.inl a4); omega) h)
        · rw [if_neg a4] at h
          by_cases a5 : K n = 92
          · rw [if_pos a5] at h
            exact ys_adv (lim := lim) H (by rw [a5]; rfl) (ya_scan H a5 (by have := am_fa nd (Or.inr (Or.inl a5)); omega) (fun z => by have := l2 a5 z; exact ⟨by omega, this.2⟩) h)
          · rw [if_neg a5] at h
            by_cases a6 : K n = 34
            · rw [if_pos a6] at h
              exact ys_adv (lim := lim) H (by rw [a6]; rfl) (ya_eachs H a6 (by have := am_fa nd (Or.inr (Or.inr a6)); omega) (fun z => by obtain ⟨b1, q, b2, b3⟩ := l3 a6 z; exact ⟨by omega, b1, q, b2⟩) h)
            · rw [if_neg a6] at h
              refine ys_leaf H hl kk ?_ ?_ h
              · unfold tr_ky
                rw [if_neg a1, if_neg a2, if_neg a3, if_neg (by omega)]
              · unfold tr_cy
                rw [if_neg (by omega)]
def yr_R (lim : Nat) (K : Nat → Nat) (g_tlen g_held g_root g_clen g_xn g_yn g_rn g_stat g_nn g_wsp g_depth : Int32) (b_text b_canon b_xs b_ys b_res b_kind b_nch b_na b_nb b_nc b_ws b_fb b_pend b_cst : Nat → Int32) (fs : List am_F) (R : List Int32) (v : SY) : Prop :=
  ∃ sp c l fn fm fp fi, v = (nI lim, g_tlen, g_held, g_root, g_clen, g_xn, g_yn, g_rn, g_stat, g_nn, g_wsp, g_depth, sp, 0, b_text, b_canon, b_xs, b_ys, b_res, b_kind, b_nch, b_na, b_nb, b_nc, b_ws, b_fb, b_pend, b_cst, fn, fm, fp, fi, c, l) ∧ ym_S K fs R sp c l fn fm fp fi
def yr_F (lim : Nat) (g_tlen g_held g_root g_clen g_xn g_yn g_rn g_stat g_nn g_wsp g_depth : Int32) (b_text b_canon b_xs b_ys b_res b_kind b_nch b_na b_nb b_nc b_ws b_fb b_pend b_cst : Nat → Int32) (e : Nat) (v : SY) : Prop :=
  ∃ sp c l fn fm fp fi, v = (nI lim, g_tlen, g_held, g_root, g_clen, g_xn, g_yn, g_rn, g_stat, g_nn, g_wsp, g_depth, sp, nI e, b_text, b_canon, b_xs, b_ys, b_res, b_kind, b_nch, b_na, b_nb, b_nc, b_ws, b_fb, b_pend, b_cst, fn, fm, fp, fi, c, l)
def yr_W (post : Int32 → SY → Prop) (k i : Nat) (v : SY) : Prop :=
  match v with
  | (g_lim, g_tlen, g_held, g_root, g_clen, g_xn, g_yn, g_rn, g_stat, g_nn, g_wsp, g_depth, g_sp, g_err, b_text, b_canon, b_xs, b_ys, b_res, b_kind, b_nch, b_na, b_nb, b_nc, b_ws, b_fb, b_pend, b_cst, b_fnode, b_fmode, b_fph, b_fi, b_vec, b_vlen) => wY_apply_127 post k (nI i) g_lim g_tlen g_held g_root g_clen g_xn g_yn g_rn g_stat g_nn g_wsp g_depth g_sp g_err b_text b_canon b_xs b_ys b_res b_kind b_nch b_na b_nb b_nc b_ws b_fb b_pend b_cst b_fnode b_fmode b_fph b_fi b_vec b_vlen
theorem yr_o {lim : Nat} {K : Nat → Nat} (g_tlen g_held g_root g_clen g_xn g_yn g_rn g_stat g_nn g_wsp g_depth : Int32) (b_text b_canon b_xs b_ys b_res b_kind b_nch b_na b_nb b_nc b_ws b_fb b_pend b_cst : Nat → Int32) {n : Nat} {d : Bool} {p : Nat} {x y : List Int32} {r : List am_F} {R : List Int32} {o : am_O} {er sp : Int32} {c l fn fm fp fi : Nat → Int32}
    (h : ym_O K n d p x y r R o er sp c l fn fm fp fi) :
    am_out (yr_F lim g_tlen g_held g_root g_clen g_xn g_yn g_rn g_stat g_nn g_wsp g_depth b_text b_canon b_xs b_ys b_res b_kind b_nch b_na b_nb b_nc b_ws b_fb b_pend b_cst) (yr_R lim K g_tlen g_held g_root g_clen g_xn g_yn g_rn g_stat g_nn g_wsp g_depth b_text b_canon b_xs b_ys b_res b_kind b_nch b_na b_nb b_nc b_ws b_fb b_pend b_cst) n d p x y r R o (nI lim, g_tlen, g_held, g_root, g_clen, g_xn, g_yn, g_rn, g_stat, g_nn, g_wsp, g_depth, sp, er, b_text, b_canon, b_xs, b_ys, b_res, b_kind, b_nch, b_na, b_nb, b_nc, b_ws, b_fb, b_pend, b_cst, fn, fm, fp, fi, c, l) := by
  match o, h with
  | Sum.inl e, h => cases h; exact ⟨_, _, _, _, _, _, _, rfl⟩
  | Sum.inr (Sum.inl v), h => obtain ⟨rfl, h0⟩ := h; exact ⟨_, _, _, _, _, _, _, rfl, h0⟩
  | Sum.inr (Sum.inr (w', n', d', x', y')), h => obtain ⟨rfl, h0⟩ := h; exact ⟨_, _, _, _, _, _, _, rfl, h0⟩
theorem yr_s {lim N : Nat} {K F S T C A D : Nat → Nat} (g_tlen g_held g_root g_clen g_xn g_yn g_rn g_stat g_nn g_wsp g_depth : Int32) (b_text b_canon b_xs b_ys b_res b_kind b_nch b_na b_nb b_nc b_ws b_fb b_pend b_cst : Nat → Int32) (hl : lim ≤ 16) (hN : N ≤ 64)
    (hT : tr_Y N K F S T b_kind b_nch b_na b_nb b_nc) (hK : tr_ok N K F S T C A D) :
    am_stp lim N K F S T 16777216 (yr_F lim g_tlen g_held g_root g_clen g_xn g_yn g_rn g_stat g_nn g_wsp g_depth b_text b_canon b_xs b_ys b_res b_kind b_nch b_na b_nb b_nc b_ws b_fb b_pend b_cst) (yr_R lim K g_tlen g_held g_root g_clen g_xn g_yn g_rn g_stat g_nn g_wsp g_depth b_text b_canon b_xs b_ys b_res b_kind b_nch b_na b_nb b_nc b_ws b_fb b_pend b_cst) yr_W := by
  intro n d p x y w r R v hok hv post k i hi h
  obtain ⟨sp, c, l, fn, fm, fp, fi, rfl, hS⟩ := hv
  have e : sp = nI r.length := ym_sp hS.1
  subst e
  have o2 := hok.2.1
  refine br_f (nI_ge (b := 16777216) hi (by decide)) (br_f (nI_pos (by omega)) (br_t rfl ?_))
  refine ys_frame hl hN hT hK hok hS fun er sp' c' l' fn' fm' fp' fi' ho => nm_r (nI_1 i) ?_
  exact h _ (yr_o g_tlen g_held g_root g_clen g_xn g_yn g_rn g_stat g_nn g_wsp g_depth b_text b_canon b_xs b_ys b_res b_kind b_nch b_na b_nb b_nc b_ws b_fb b_pend b_cst ho)
end
section
/-! apply: both sides run to the same end -/
theorem ap_ne {e : Nat} (h0 : e ≠ 0) (h : e ≤ 3) : ¬ nI e = 0 := nI_ne0 (by omega) (by omega)
theorem ap_Xe {f_textCount f_trainHeld f_rootNode f_nodeCount f_wordCount f_groupFirst f_atopWaiting f_groupCount f_adverbCount f_canonCount f_postponedCount f_lastStatus : Int32} {a_text a_nodeKind a_nodeFirst a_nodeSecond a_nodeThird a_words a_outerFirst a_outerAtop a_canon a_postponed : Nat → Int32} {post : Int32 → SX → Prop} {lim e q : Nat} {K : Nat → Nat} {ax ay R : List Int32} {u : SX} (he : e ≤ 3)
    (hu : am_fin (xr_F lim ax ay f_textCount f_trainHeld f_rootNode f_nodeCount f_wordCount f_groupFirst f_atopWaiting f_groupCount f_adverbCount f_canonCount f_postponedCount f_lastStatus a_text a_nodeKind a_nodeFirst a_nodeSecond a_nodeThird a_words a_outerFirst a_outerAtop a_canon a_postponed) (xr_R lim K ax ay f_textCount f_trainHeld f_rootNode f_nodeCount f_wordCount f_groupFirst f_atopWaiting f_groupCount f_adverbCount f_canonCount f_postponedCount f_lastStatus a_text a_nodeKind a_nodeFirst a_nodeSecond a_nodeThird a_words a_outerFirst a_outerAtop a_canon a_postponed) e R u)
    (h : ∀ fl fc c l fn fd fx fy fp, ve_L c l 0 ax → ve_L c l 1 ay → ve_L c l 2 (if e = 0 then R else []) → post (nI e) (nI lim, f_textCount, f_trainHeld, f_rootNode, f_nodeCount, f_wordCount, f_groupFirst, f_atopWaiting, f_groupCount, f_adverbCount, f_canonCount, f_postponedCount, fc, fl, nI e, a_text, a_nodeKind, a_nodeFirst, a_nodeSecond, a_nodeThird, a_words, a_outerFirst, a_outerAtop, a_canon, a_postponed, c, l, fn, fd, fx, fy, fp)) : xr_W post 1 q u := by
  rcases hu with ⟨e0, fc, c, l, fn, fd, fx, fy, fp, rfl, hS⟩ | ⟨e0, fc, c, l, fn, fd, fx, fy, fp, rfl, h0, h1⟩
  · subst e0
    obtain ⟨hc, h0, h1, -, h3⟩ := hS
    have m89 : wX_apply_89 post (nI lim) f_textCount f_trainHeld f_rootNode f_nodeCount f_wordCount f_groupFirst f_atopWaiting f_groupCount f_adverbCount f_canonCount f_postponedCount fc 0 f_lastStatus a_text a_nodeKind a_nodeFirst a_nodeSecond a_nodeThird a_words a_outerFirst a_outerAtop a_canon a_postponed c l fn fd fx fy fp := by
      refine br_t rfl ?_
      refine xv_copy (q := 3) (s := 2) (by omega) (by omega) (by decide) (h3 trivial) fun c' l' hF hL => ?_
      exact h _ _ _ _ _ _ _ _ _ (ve_o hF (by decide) h0) (ve_o hF (by decide) h1) hL
    have fc0 : fc ≤ 0 := by rw [hc]; decide
    exact br_c (fun _ => m89) (fun _ => br_t fc0 m89)
  · have m89 : wX_apply_89 post (nI lim) f_textCount f_trainHeld f_rootNode f_nodeCount f_wordCount f_groupFirst f_atopWaiting f_groupCount f_adverbCount f_canonCount f_postponedCount fc (nI e) f_lastStatus a_text a_nodeKind a_nodeFirst a_nodeSecond a_nodeThird a_words a_outerFirst a_outerAtop a_canon a_postponed c l fn fd fx fy fp := by
      refine br_f (ap_ne e0 he) (nm_e ?_)
      refine h _ _ _ _ _ _ _ _ _ (ve_o ve_Fl (by decide) h0) (ve_o ve_Fl (by decide) h1) ?_
      rw [if_neg e0]
      exact ve_nil
    exact br_c (fun _ => m89) (fun _ => br_c (fun _ => m89) (fun _ => br_f (ap_ne e0 he) m89))
theorem ap_res {g_lim g_tlen g_held g_root g_clen g_xn g_yn g_rn g_stat g_nn g_wsp g_depth g_sp g_err : Int32} {b_text b_canon b_xs b_ys b_kind b_nch b_na b_nb b_nc b_ws b_fb b_pend b_cst b_fnode b_fmode b_fph b_fi b_vec b_vlen : Nat → Int32} {post : Int32 → SY → Prop} {R : List Int32} (hR : ve_L b_vec b_vlen 3 R)
    (h : ∀ rs, (∀ i, i < R.length → rs i = R.getD i 0) → post g_err (g_lim, g_tlen, g_held, g_root, g_clen, g_xn, g_yn, g_rn, g_err, g_nn, g_wsp, g_depth, g_sp, g_err, b_text, b_canon, b_xs, b_ys, rs, b_kind, b_nch, b_na, b_nb, b_nc, b_ws, b_fb, b_pend, b_cst, b_fnode, b_fmode, b_fph, b_fi, b_vec, b_vlen)) :
    ∀ (d i : Nat) (rs : Nat → Int32), i + d = 16 → (∀ j, j < i → rs j = b_vec (48 + j)) → ∀ n, d < n → wY_apply_181 post g_lim g_tlen g_held g_root g_clen g_xn g_yn g_rn g_stat g_nn g_wsp g_depth g_sp g_err n (nI i) b_text b_canon b_xs b_ys rs b_kind b_nch b_na b_nb b_nc b_ws b_fb b_pend b_cst b_fnode b_fmode b_fph b_fi b_vec b_vlen := by
  intro d
  induction d with
  | zero =>
    intro i rs hi hI n hn
    obtain ⟨n, rfl⟩ : ∃ k, n = k + 1 := ⟨n - 1, by omega⟩
    have e : i = 16 := by omega
    subst e
    refine br_t (by decide) (h rs fun j hj => ?_)
    rw [hI j (by have := hR.1; omega)]
    exact hR.2.2 j hj
  | succ d ih =>
    intro i rs hi hI n hn
    obtain ⟨n, rfl⟩ : ∃ k, n = k + 1 := ⟨n - 1, by omega⟩
    have e1 : (nI i).toNatClampNeg = i := nI_clamp (by omega)
    have e2 : (nI (48 + i)).toNatClampNeg = 48 + i := nI_clamp (by omega)
    have e3 : (48 : Int32) + nI i = nI (48 + i) := nI_add 48 i
    refine br_f (nI_ge (b := 16) (by omega) (by decide)) ⟨by rw [e3]; exact vp_in_nI (by omega) (by omega), vp_in_nI (by omega) (by omega), nm_r (e' := upd rs i (b_vec (48 + i))) (by rw [e3, e1, e2]) (nm_r (nI_1 i) ?_)⟩
    refine ih (i + 1) _ (by omega) (fun j hj => ?_) n (by omega)
    by_cases z : j = i
    · rw [z]; exact pk_us
    · rw [pk_un z]; exact hI j (by omega)
theorem ap_Ye {g_tlen g_held g_root g_clen g_xn g_yn g_rn g_stat g_nn g_wsp g_depth : Int32} {b_text b_canon b_xs b_ys b_res b_kind b_nch b_na b_nb b_nc b_ws b_fb b_pend b_cst : Nat → Int32} {post : Int32 → SY → Prop} {lim e q : Nat} {K : Nat → Nat} {R : List Int32} {v : SY} (he : e ≤ 3)
    (hv : am_fin (yr_F lim g_tlen g_held g_root g_clen g_xn g_yn g_rn g_stat g_nn g_wsp g_depth b_text b_canon b_xs b_ys b_res b_kind b_nch b_na b_nb b_nc b_ws b_fb b_pend b_cst) (yr_R lim K g_tlen g_held g_root g_clen g_xn g_yn g_rn g_stat g_nn g_wsp g_depth b_text b_canon b_xs b_ys b_res b_kind b_nch b_na b_nb b_nc b_ws b_fb b_pend b_cst) e R v)
    (h : ∀ er sp c l fn fm fp fi rs, (∀ i, i < (if e = 0 then R else []).length → rs i = (if e = 0 then R else []).getD i 0) → post (nI e) (nI lim, g_tlen, g_held, g_root, g_clen, g_xn, g_yn, nI (if e = 0 then R else []).length, nI e, g_nn, g_wsp, g_depth, sp, er, b_text, b_canon, b_xs, b_ys, rs, b_kind, b_nch, b_na, b_nb, b_nc, b_ws, b_fb, b_pend, b_cst, fn, fm, fp, fi, c, l)) : yr_W post 1 q v := by
  rcases hv with ⟨e0, sp, c, l, fn, fm, fp, fi, rfl, hS⟩ | ⟨e0, sp, c, l, fn, fm, fp, fi, rfl⟩
  · subst e0
    obtain ⟨hc, -, h3⟩ := hS
    have hR : ve_L c l 3 R := h3 trivial
    have hc' : sp + 1 = 0 := hc
    have sp0 : sp < 0 := by
      have : sp = -1 := by grind
      rw [this]; decide
    have m157 : wY_apply_157 post (nI lim) g_tlen g_held g_root g_clen g_xn g_yn g_rn g_stat g_nn g_wsp g_depth sp 0 b_text b_canon b_xs b_ys b_res b_kind b_nch b_na b_nb b_nc b_ws b_fb b_pend b_cst fn fm fp fi c l := by
      refine br_t rfl (nm_r (e' := nI R.length) hR.2.1 ⟨17, ?_⟩)
      refine ap_res hR (fun rs hrs => ?_) 16 0 b_res (by omega) (fun j hj => by omega) 17 (by omega)
      exact h _ _ _ _ _ _ _ _ rs hrs
    exact br_c (fun _ => m157) (fun _ => br_t sp0 m157)
  · have m157 : wY_apply_157 post (nI lim) g_tlen g_held g_root g_clen g_xn g_yn g_rn g_stat g_nn g_wsp g_depth sp (nI e) b_text b_canon b_xs b_ys b_res b_kind b_nch b_na b_nb b_nc b_ws b_fb b_pend b_cst fn fm fp fi c l := by
      refine br_f (ap_ne e0 he) ?_
      have g := h (nI e) sp c l fn fm fp fi b_res
      rw [if_neg e0] at g
      exact g (fun i hi => absurd hi (Nat.not_lt_zero _))
    exact br_c (fun _ => m157) (fun _ => br_c (fun _ => m157) (fun _ => br_f (ap_ne e0 he) m157))
theorem ap_cp {g_lim g_tlen g_held g_root g_clen g_xn g_yn g_rn g_stat g_nn g_wsp g_depth g_sp g_err : Int32} {b_text b_canon b_xs b_ys b_res b_kind b_nch b_na b_nb b_nc b_ws b_fb b_pend b_cst b_fnode b_fmode b_fph b_fi b_vlen : Nat → Int32} {post : Int32 → SY → Prop} {x1 : Int32} {ax ay : List Int32} (hx : ax.length ≤ 16) (hy : ay.length ≤ 16) (xn : g_xn = nI ax.length) (yn : g_yn = nI ay.length) (vx : ∀ i, i < ax.length → b_xs i = ax.getD i 0) (vy : ∀ i, i < ay.length → b_ys i = ay.getD i 0)
    (h : ∀ c l, ve_L c l 0 ax → ve_L c l 1 ay → ∃ n, wY_apply_127 post n 0 g_lim g_tlen g_held g_root g_clen g_xn g_yn g_rn g_stat g_nn g_wsp g_depth 0 0 b_text b_canon b_xs b_ys b_res b_kind b_nch b_na b_nb b_nc b_ws b_fb b_pend b_cst (upd b_fnode 0 g_root) (upd b_fmode 0 x1) (upd b_fph 0 0) (upd b_fi 0 0) c l) :
    ∀ (d i : Nat) (c : Nat → Int32), i + d = 16 → (∀ j, j < i → c j = b_xs j ∧ c (16 + j) = b_ys j) → ∀ n, d < n → wY_apply_23 post x1 g_lim g_tlen g_held g_root g_clen g_xn g_yn g_rn g_stat g_nn g_wsp g_depth g_sp g_err n (nI i) b_text b_canon b_xs b_ys b_res b_kind b_nch b_na b_nb b_nc b_ws b_fb b_pend b_cst b_fnode b_fmode b_fph b_fi c b_vlen := by
  intro d
  induction d with
  | zero =>
    intro i c hi hI n hn
    obtain ⟨n, rfl⟩ : ∃ k, n = k + 1 := ⟨n - 1, by omega⟩
    have e : i = 16 := by omega
    subst e
    refine br_t (by decide) (nm_e (nm_e (nm_e (nm_e (nm_e (nm_e (h c _ ⟨hx, ?_, fun j hj => ?_⟩ ⟨hy, ?_, fun j hj => ?_⟩)))))))
    · rw [pk_un (by decide), xn]; exact pk_us
    · rw [Nat.mul_zero, Nat.zero_add, (hI j (by omega)).1]; exact vx j hj
    · rw [yn]; exact pk_us
    · rw [Nat.mul_one, (hI j (by omega)).2]; exact vy j hj
  | succ d ih =>
    intro i c hi hI n hn
    obtain ⟨n, rfl⟩ : ∃ k, n = k + 1 := ⟨n - 1, by omega⟩
    have e1 : (nI i).toNatClampNeg = i := nI_clamp (by omega)
    have e2 : (nI (16 + i)).toNatClampNeg = 16 + i := nI_clamp (by omega)
    have e3 : (16 : Int32) + nI i = nI (16 + i) := nI_add 16 i
    have e4 : (0 : Int32) + nI i = nI i := Int32.zero_add _
    refine br_f (nI_ge (b := 16) (by omega) (by decide)) ⟨vp_in_nI (by omega) (by omega), by rw [e4]; exact vp_in_nI (by omega) (by omega), nm_r (e' := upd c i (b_xs i)) (by rw [e4, e1]) ⟨vp_in_nI (by omega) (by omega), by rw [e3]; exact vp_in_nI (by omega) (by omega), nm_r (e' := upd (upd c i (b_xs i)) (16 + i) (b_ys i)) (by rw [e3, e1, e2]) (nm_r (nI_1 i) ?_)⟩⟩
    refine ih (i + 1) _ (by omega) (fun j hj => ?_) n (by omega)
    by_cases z : j = i
    · subst z
      exact ⟨(pk_un (by omega)).trans pk_us, pk_us⟩
    · exact ⟨(pk_un (by omega)).trans ((pk_un z).trans (hI j (by omega)).1), (pk_un (by omega)).trans ((pk_un (by omega)).trans (hI j (by omega)).2)⟩
theorem ap_D {C A D : Nat → Nat} {n : Nat} (h : nd_b C A D n) (hc : C n ≤ 64) (ha : A n ≤ 2) : D n ≤ 1000000 := by
  unfold nd_b at h
  have h1 : 17 ^ A n ≤ 17 ^ 2 := Nat.pow_le_pow_right (by decide) ha
  have h2 : 4 * C n * 17 ^ A n ≤ 4 * 64 * 17 ^ 2 := Nat.mul_le_mul (Nat.mul_le_mul_left 4 hc) h1
  have h3 : 4 * 64 * 17 ^ 2 ≤ 1000000 := by decide
  omega
theorem ap_both {f_textCount f_trainHeld f_rootNode f_nodeCount f_wordCount f_groupFirst f_atopWaiting f_groupCount f_adverbCount f_canonCount f_postponedCount f_lastStatus : Int32} {a_text a_nodeKind a_nodeFirst a_nodeSecond a_nodeThird a_words a_outerFirst a_outerAtop a_canon a_postponed a_cells a_lengths a_frameNode a_frameDyadic a_frameX a_frameY a_framePhase : Nat → Int32} {g_tlen g_held g_root g_clen g_xn g_yn g_rn g_stat g_nn g_wsp g_depth g_sp g_err : Int32} {b_text b_canon b_xs b_ys b_res b_kind b_nch b_na b_nb b_nc b_ws b_fb b_pend b_cst b_fnode b_fmode b_fph b_fi b_vec b_vlen : Nat → Int32} {lim N q0 : Nat} {K F S T C A D : Nat → Nat} {ax ay : List Int32} (d : Bool) (hl : lim ≤ 16) (hN : N ≤ 63)
    (hK : tr_ok N K F S T C A D) (hTX : tr_X N K F S T a_nodeKind a_nodeFirst a_nodeSecond a_nodeThird) (hTY : tr_Y N K F S T b_kind b_nch b_na b_nb b_nc)
    (hq : q0 < N) (hC : C q0 ≤ 64) (hA : A q0 ≤ 2) (hrX : f_rootNode = nI q0) (hrY : g_root = nI q0)
    (h0 : ve_L a_cells a_lengths 0 ax) (h1 : ve_L a_cells a_lengths 1 ay)
    (xn : g_xn = nI ax.length) (yn : g_yn = nI ay.length) (vx : ∀ i, i < ax.length → b_xs i = ax.getD i 0) (vy : ∀ i, i < ay.length → b_ys i = ay.getD i 0) :
    ∃ e R, e ≤ 3 ∧
      (∀ post : Int32 → SX → Prop, (∀ fl fc c l fn fd fx fy fp, ve_L c l 0 ax → ve_L c l 1 ay → ve_L c l 2 (if e = 0 then R else []) → post (nI e) (nI lim, f_textCount, f_trainHeld, f_rootNode, f_nodeCount, f_wordCount, f_groupFirst, f_atopWaiting, f_groupCount, f_adverbCount, f_canonCount, f_postponedCount, fc, fl, nI e, a_text, a_nodeKind, a_nodeFirst, a_nodeSecond, a_nodeThird, a_words, a_outerFirst, a_outerAtop, a_canon, a_postponed, c, l, fn, fd, fx, fy, fp)) →
        wX_apply_46 post (xm_b d) f_rootNode (nI lim) f_textCount f_trainHeld f_rootNode f_nodeCount f_wordCount f_groupFirst f_atopWaiting f_groupCount f_adverbCount f_canonCount f_postponedCount 0 0 f_lastStatus a_text a_nodeKind a_nodeFirst a_nodeSecond a_nodeThird a_words a_outerFirst a_outerAtop a_canon a_postponed a_cells a_lengths a_frameNode a_frameDyadic a_frameX a_frameY a_framePhase) ∧
      (∀ post : Int32 → SY → Prop, (∀ er sp c l fn fm fp fi rs, (∀ i, i < (if e = 0 then R else []).length → rs i = (if e = 0 then R else []).getD i 0) → post (nI e) (nI lim, g_tlen, g_held, g_root, g_clen, g_xn, g_yn, nI (if e = 0 then R else []).length, nI e, g_nn, g_wsp, g_depth, sp, er, b_text, b_canon, b_xs, b_ys, rs, b_kind, b_nch, b_na, b_nb, b_nc, b_ws, b_fb, b_pend, b_cst, fn, fm, fp, fi, c, l)) →
        ∃ n, wY_apply_23 post (xm_m d) (nI lim) g_tlen g_held g_root g_clen g_xn g_yn g_rn g_stat g_nn g_wsp g_depth g_sp g_err n 0 b_text b_canon b_xs b_ys b_res b_kind b_nch b_na b_nb b_nc b_ws b_fb b_pend b_cst b_fnode b_fmode b_fph b_fi b_vec b_vlen) := by
  subst hrX
  subst hrY
  have hM : am_M K F S T D [(q0, d, 0, ax, ay, [])] ≤ D q0 := by
    show am_rem K F S T D q0 0 + 0 ≤ D q0
    rw [Nat.add_zero, ← am_pl K F S T C A D (hK q0 hq).1]
    exact Nat.le_refl _
  have hok : am_ok N K [(q0, d, 0, ax, ay, [])] := ⟨hq, by show q0 + 0 < 63; omega, am_lc0 _ _ h0.1 h1.1, trivial⟩
  have hD := ap_D (hK q0 hq).2 hC hA
  obtain ⟨e, R, q, hqM, he, hX, hY⟩ := am_run hK (xr_s (ax := ax) (ay := ay) f_textCount f_trainHeld (nI q0) f_nodeCount f_wordCount f_groupFirst f_atopWaiting f_groupCount f_adverbCount f_canonCount f_postponedCount f_lastStatus a_text a_nodeKind a_nodeFirst a_nodeSecond a_nodeThird a_words a_outerFirst a_outerAtop a_canon a_postponed hl (by omega) hTX hK) (yr_s g_tlen g_held (nI q0) g_clen g_xn g_yn g_rn g_stat g_nn g_wsp g_depth b_text b_canon b_xs b_ys b_res b_kind b_nch b_na b_nb b_nc b_ws b_fb b_pend b_cst hl (by omega) hTY hK) hl (D q0) [(q0, d, 0, ax, ay, [])] [] hM hok (fun z => absurd z (Nat.lt_irrefl 0))
  refine ⟨e, R, he, fun post hp => ?_, fun post hp => ?_⟩
  · unfold wX_apply_46
    refine xs_enter (m := 0) (sx := 0) (sy := 1) (by decide) ⟨1 + q, ?_⟩
    have g := hX (nI lim, f_textCount, f_trainHeld, nI q0, f_nodeCount, f_wordCount, f_groupFirst, f_atopWaiting, f_groupCount, f_adverbCount, f_canonCount, f_postponedCount, nI 1, 0, f_lastStatus, a_text, a_nodeKind, a_nodeFirst, a_nodeSecond, a_nodeThird, a_words, a_outerFirst, a_outerAtop, a_canon, a_postponed, a_cells, a_lengths, upd a_frameNode 0 (nI q0), upd a_frameDyadic 0 (xm_b d), upd a_frameX 0 (nI 0), upd a_frameY 0 (nI 1), upd a_framePhase 0 0) ⟨_, _, _, _, _, _, _, _, rfl, ⟨rfl, h0, h1, ⟨?_, ⟨?_, ?_, ⟨0, ?_, by decide, by decide, by decide, fun _ => h0⟩, ⟨1, ?_, by decide, by decide, by decide, h1⟩, fun _ z => by omega, fun _ z => absurd z (Nat.lt_irrefl 0)⟩, trivial⟩, fun z => absurd z (Nat.lt_irrefl 0)⟩⟩ post 1 0 (by omega) (fun u' hu' => ap_Xe he hu' hp)
    · exact g
    · exact pk_us
    · exact pk_us
    · exact pk_us
    · exact pk_us
    · exact pk_us
  · refine ⟨17, ?_⟩
    refine ap_cp h0.1 h1.1 xn yn vx vy (fun c l c0 c1 => ⟨1 + q, ?_⟩) 16 0 b_vec (by omega) (fun j hj => by omega) 17 (by omega)
    have g := hY (nI lim, g_tlen, g_held, nI q0, g_clen, g_xn, g_yn, g_rn, g_stat, g_nn, g_wsp, g_depth, 0, 0, b_text, b_canon, b_xs, b_ys, b_res, b_kind, b_nch, b_na, b_nb, b_nc, b_ws, b_fb, b_pend, b_cst, upd b_fnode 0 (nI q0), upd b_fmode 0 (xm_m d), upd b_fph 0 0, upd b_fi 0 0, c, l) ⟨_, _, _, _, _, _, _, rfl, ⟨rfl, ⟨?_, ⟨?_, ?_, fun _ z => absurd z (Nat.lt_irrefl 0), fun _ => c0, c1, fun _ z => by omega, fun _ z => absurd z (Nat.lt_irrefl 0)⟩, trivial⟩, fun z => absurd z (Nat.lt_irrefl 0)⟩⟩ post 1 0 (by omega) (fun v' hv' => ap_Ye he hv' hp)
    · exact g
    · rw [ym_ph2 rfl]; exact pk_us
    · exact pk_us
    · exact pk_us
end
section
/-! the canonical form on both sides -/
def cn_un (K F S T : Nat → Nat) (n : Nat) : List cn_I :=
  if K n = 1 then [(false, 40), (true, F n), (true, S n), (true, T n), (false, 41)]
  else if K n = 2 then [(false, 40), (true, F n), (true, S n), (false, 41)]
  else if K n = 64 then (if nd_pr (K (S n)) = 0 then [(true, F n), (false, 64), (true, S n)] else [(true, F n), (false, 64), (false, 40), (true, S n), (false, 41)])
  else if K n = 47 ∨ K n = 92 ∨ K n = 34 then [(true, F n), (false, K n)]
  else []
def cn_em (K : Nat → Nat) (n : Nat) : List Nat := if K n = 1 ∨ K n = 2 ∨ K n = 64 ∨ K n = 47 ∨ K n = 92 ∨ K n = 34 then [] else [K n]
def cn_O (a : Nat → Int32) (o : List Nat) : Prop := ∀ j, j < o.length → a j = nI (o.getD j 0)
theorem cn_Oe {a : Nat → Int32} {o : List Nat} (h : cn_O a o) (c : Nat) : cn_O (upd a o.length (nI c)) (o ++ [c]) := by
  intro j hj
  rw [List.length_append] at hj
  have hj' : j < o.length + 1 := hj
  by_cases z : j = o.length
  · rw [z, List.getD_eq_getElem?_getD, List.getElem?_append_right (Nat.le_refl _), Nat.sub_self]; exact pk_us
  · rw [List.getD_eq_getElem?_getD, List.getElem?_append_left (by omega), ← List.getD_eq_getElem?_getD, pk_un z]
    exact h j (by omega)
theorem cn_len1 {o : List Nat} {c : Nat} : (o ++ [c]).length = o.length + 1 := by rw [List.length_append]; rfl
theorem ax_nc {c : Nat} (h : c < 65536) : vp_nar .char (nI c) = nI c := by
  unfold vp_nar
  rw [(pk_charN h).1]
theorem ax_ch {c : Nat} (h : c < 65536) : ((nI c).toUInt32 % 65536).toInt32 = nI c := by
  rw [pk_char, pk_tn (by omega), Nat.mod_eq_of_lt h]
theorem cn_wt {N : Nat} {K F S T C A D : Nat → Nat} (hK : tr_ok N K F S T C A D) {n : Nat} (hn : n < N) (r : List cn_I) (hr : cn_ok N r) :
    cn_w C (cn_un K F S T n ++ r) + 1 ≤ 2 * C n + cn_w C r ∧ cn_c C (cn_un K F S T n ++ r) + (cn_em K n).length = C n + cn_c C r ∧ cn_ok N (cn_un K F S T n ++ r) := by
  have nd := (hK n hn).1
  unfold cn_un
  rcases nd with ⟨h, e, -⟩ | ⟨h, f, e, -⟩ | ⟨h, f, s, e, -⟩ | ⟨h, f, s, t, e, -⟩ | ⟨h, f, s, e, -⟩
  · unfold pr_lf pr_vb pr_dig at h
    have em : cn_em K n = [K n] := if_neg (by omega)
    rw [em, if_neg (by omega), if_neg (by omega), if_neg (by omega), if_neg (by omega), e]
    refine ⟨?_, ?_, hr⟩
    · show cn_w C r + 1 ≤ 2 * 1 + cn_w C r
      omega
    · show cn_c C r + 1 = 1 + cn_c C r
      omega
  · unfold pr_av at h
    have em : cn_em K n = [] := if_pos (by omega)
    rw [em, if_neg (by omega), if_neg (by omega), if_neg (by omega), if_pos h, e]
    refine ⟨?_, ?_, ⟨by omega, by omega, by omega, hr⟩⟩
    · show 2 * C (F n) + (1 + cn_w C r) + 1 ≤ _
      omega
    · show C (F n) + (1 + cn_c C r) + 0 = _
      omega
  · have em : cn_em K n = [] := if_pos (by omega)
    rw [em, if_neg (by omega), if_neg (by omega), if_pos h, e]
    by_cases z : nd_pr (K (S n)) = 0
    · rw [if_pos z, z]
      refine ⟨?_, ?_, ⟨by omega, by decide, by decide, by omega, hr⟩⟩
      · show 2 * C (F n) + (1 + (2 * C (S n) + cn_w C r)) + 1 ≤ _
        omega
      · show C (F n) + (1 + (C (S n) + cn_c C r)) + 0 = _
        omega
    · have z2 : nd_pr (K (S n)) = 2 := by
        unfold nd_pr at z ⊢
        split at z
        · rw [if_pos ‹_›]
        · exact absurd rfl z
      rw [if_neg z, z2]
      refine ⟨?_, ?_, ⟨by omega, by decide, by decide, by decide, by decide, by omega, by decide, by decide, hr⟩⟩
      · show 2 * C (F n) + (1 + (1 + (2 * C (S n) + (1 + cn_w C r)))) + 1 ≤ _
        omega
      · show C (F n) + (1 + (1 + (C (S n) + (1 + cn_c C r)))) + 0 = _
        omega
  · have em : cn_em K n = [] := if_pos (by omega)
    rw [em, if_pos h, e]
    refine ⟨?_, ?_, ⟨by decide, by decide, by omega, by omega, by omega, by decide, by decide, hr⟩⟩
    · show 1 + (2 * C (F n) + (2 * C (S n) + (2 * C (T n) + (1 + cn_w C r)))) + 1 ≤ _
      omega
    · show 1 + (C (F n) + (C (S n) + (C (T n) + (1 + cn_c C r)))) + 0 = _
      omega
  · have em : cn_em K n = [] := if_pos (by omega)
    rw [em, if_neg (by omega), if_pos h, e]
    refine ⟨?_, ?_, ⟨by decide, by decide, by omega, by omega, by decide, by decide, hr⟩⟩
    · show 1 + (2 * C (F n) + (2 * C (S n) + (1 + cn_w C r))) + 1 ≤ _
      omega
    · show 1 + (C (F n) + (C (S n) + (1 + cn_c C r))) + 0 = _
      omega
theorem xc_p {f_vectorLimit f_textCount f_trainHeld f_rootNode f_nodeCount f_wordCount f_groupFirst f_atopWaiting f_groupCount f_adverbCount f_canonCount f_frameCount f_failure f_lastStatus : Int32} {a_text a_nodeKind a_nodeFirst a_nodeSecond a_nodeThird a_words a_outerFirst a_outerAtop a_canon a_postponed a_cells a_lengths a_frameNode a_frameDyadic a_frameX a_frameY a_framePhase : Nat → Int32} {post : SX → Prop} {st : List cn_I} (it : cn_I) {v : Int32} (hv : v = cn_ex it) (hs : cn_S cn_ex a_postponed st) (hl : st.length < 128)
    (h : ∀ ap, cn_S cn_ex ap (it :: st) → post (f_vectorLimit, f_textCount, f_trainHeld, f_rootNode, f_nodeCount, f_wordCount, f_groupFirst, f_atopWaiting, f_groupCount, f_adverbCount, f_canonCount, nI (it :: st).length, f_frameCount, f_failure, f_lastStatus, a_text, a_nodeKind, a_nodeFirst, a_nodeSecond, a_nodeThird, a_words, a_outerFirst, a_outerAtop, a_canon, ap, a_cells, a_lengths, a_frameNode, a_frameDyadic, a_frameX, a_frameY, a_framePhase)) : wpX_postpone post (f_vectorLimit, f_textCount, f_trainHeld, f_rootNode, f_nodeCount, f_wordCount, f_groupFirst, f_atopWaiting, f_groupCount, f_adverbCount, f_canonCount, nI st.length, f_frameCount, f_failure, f_lastStatus, a_text, a_nodeKind, a_nodeFirst, a_nodeSecond, a_nodeThird, a_words, a_outerFirst, a_outerAtop, a_canon, a_postponed, a_cells, a_lengths, a_frameNode, a_frameDyadic, a_frameX, a_frameY, a_framePhase) v := by
  subst hv
  have e1 : (nI st.length).toNatClampNeg = st.length := nI_clamp (by omega)
  exact ⟨vp_in_nI hl (by omega), nm_r (e' := upd a_postponed st.length (cn_ex it)) (by rw [e1]) (nm_r (nI_1 _) (h _ (cn_push it hs)))⟩
theorem xc_e {f_vectorLimit f_textCount f_trainHeld f_rootNode f_nodeCount f_wordCount f_groupFirst f_atopWaiting f_groupCount f_adverbCount f_postponedCount f_frameCount f_failure f_lastStatus : Int32} {a_text a_nodeKind a_nodeFirst a_nodeSecond a_nodeThird a_words a_outerFirst a_outerAtop a_canon a_postponed a_cells a_lengths a_frameNode a_frameDyadic a_frameX a_frameY a_framePhase : Nat → Int32} {post : SX → Prop} {o : List Nat} {c : Nat} (hc : c < 128) (ho : cn_O a_canon o) (hl : o.length < 64)
    (h : ∀ ac, cn_O ac (o ++ [c]) → post (f_vectorLimit, f_textCount, f_trainHeld, f_rootNode, f_nodeCount, f_wordCount, f_groupFirst, f_atopWaiting, f_groupCount, f_adverbCount, nI (o ++ [c]).length, f_postponedCount, f_frameCount, f_failure, f_lastStatus, a_text, a_nodeKind, a_nodeFirst, a_nodeSecond, a_nodeThird, a_words, a_outerFirst, a_outerAtop, ac, a_postponed, a_cells, a_lengths, a_frameNode, a_frameDyadic, a_frameX, a_frameY, a_framePhase)) : wpX_writeCanonChar post (f_vectorLimit, f_textCount, f_trainHeld, f_rootNode, f_nodeCount, f_wordCount, f_groupFirst, f_atopWaiting, f_groupCount, f_adverbCount, nI o.length, f_postponedCount, f_frameCount, f_failure, f_lastStatus, a_text, a_nodeKind, a_nodeFirst, a_nodeSecond, a_nodeThird, a_words, a_outerFirst, a_outerAtop, a_canon, a_postponed, a_cells, a_lengths, a_frameNode, a_frameDyadic, a_frameX, a_frameY, a_framePhase) (nI c) := by
  have e1 : (nI o.length).toNatClampNeg = o.length := nI_clamp (by omega)
  exact ⟨vp_in_nI hl (by omega), nm_r (e' := upd a_canon o.length (nI c)) (by rw [e1, ax_ch (by omega), ax_nc (by omega)]) (nm_r (e' := nI (o ++ [c]).length) (by rw [nI_1, cn_len1]) (h _ (cn_Oe ho c)))⟩
theorem xv_adv {post : Int32 → Prop} {k : Nat} (hk : k < 128) (h1 : k = 47 ∨ k = 92 ∨ k = 34 → post 1) (h0 : ¬ (k = 47 ∨ k = 92 ∨ k = 34) → post 0) : wpX_isAdverb post (nI k) :=
  pk_eq k 47 (fun e => h1 (Or.inl e)) (fun a => pk_eq k 92 (fun e => h1 (Or.inr (Or.inl e))) (fun b => pk_eq k 34 (fun e => h1 (Or.inr (Or.inr e))) (fun c => h0 (by omega))))
theorem xc_ar {f_vectorLimit f_textCount f_trainHeld f_rootNode f_nodeCount f_wordCount f_groupFirst f_atopWaiting f_groupCount f_adverbCount f_canonCount f_frameCount f_failure f_lastStatus : Int32} {a_text a_nodeKind a_nodeFirst a_nodeSecond a_nodeThird a_words a_outerFirst a_outerAtop a_canon a_postponed a_cells a_lengths a_frameNode a_frameDyadic a_frameX a_frameY a_framePhase : Nat → Int32} {post : SX → Prop} {m : Nat} {k : Nat} {r : List cn_I} (hm : m < 64) (hk : k < 128) (hkm : a_nodeKind m = nI k) (hs : cn_S cn_ex a_postponed r) (hl : r.length + 3 ≤ 128)
    (h0 : nd_pr k = 0 → ∀ ap, cn_S cn_ex ap ((true, m) :: r) → post (f_vectorLimit, f_textCount, f_trainHeld, f_rootNode, f_nodeCount, f_wordCount, f_groupFirst, f_atopWaiting, f_groupCount, f_adverbCount, f_canonCount, nI ((true, m) :: r).length, f_frameCount, f_failure, f_lastStatus, a_text, a_nodeKind, a_nodeFirst, a_nodeSecond, a_nodeThird, a_words, a_outerFirst, a_outerAtop, a_canon, ap, a_cells, a_lengths, a_frameNode, a_frameDyadic, a_frameX, a_frameY, a_framePhase))
    (h1 : nd_pr k ≠ 0 → ∀ ap, cn_S cn_ex ap ((false, 40) :: (true, m) :: (false, 41) :: r) → post (f_vectorLimit, f_textCount, f_trainHeld, f_rootNode, f_nodeCount, f_wordCount, f_groupFirst, f_atopWaiting, f_groupCount, f_adverbCount, f_canonCount, nI ((false, 40) :: (true, m) :: (false, 41) :: r).length, f_frameCount, f_failure, f_lastStatus, a_text, a_nodeKind, a_nodeFirst, a_nodeSecond, a_nodeThird, a_words, a_outerFirst, a_outerAtop, a_canon, ap, a_cells, a_lengths, a_frameNode, a_frameDyadic, a_frameX, a_frameY, a_framePhase)) :
    wpX_postponeAtopRight post (f_vectorLimit, f_textCount, f_trainHeld, f_rootNode, f_nodeCount, f_wordCount, f_groupFirst, f_atopWaiting, f_groupCount, f_adverbCount, f_canonCount, nI r.length, f_frameCount, f_failure, f_lastStatus, a_text, a_nodeKind, a_nodeFirst, a_nodeSecond, a_nodeThird, a_words, a_outerFirst, a_outerAtop, a_canon, a_postponed, a_cells, a_lengths, a_frameNode, a_frameDyadic, a_frameX, a_frameY, a_framePhase) (nI m) := by
  have e3 : (nI m).toNatClampNeg = m := nI_clamp (by omega)
  have par : nd_pr k ≠ 0 → wX_postponeAtopRight_20 post (nI m) f_vectorLimit f_textCount f_trainHeld f_rootNode f_nodeCount f_wordCount f_groupFirst f_atopWaiting f_groupCount f_adverbCount f_canonCount (nI r.length) f_frameCount f_failure f_lastStatus a_text a_nodeKind a_nodeFirst a_nodeSecond a_nodeThird a_words a_outerFirst a_outerAtop a_canon a_postponed a_cells a_lengths a_frameNode a_frameDyadic a_frameX a_frameY a_framePhase := by
    intro q
    unfold wX_postponeAtopRight_20 wX_postponeAtopRight_25
    refine br_f (by decide) ?_
    refine xc_p (false, 41) rfl hs (by omega) fun ap1 s1 => ?_
    unfold wX_postponeAtopRight_36
    refine xc_p (st := (false, 41) :: r) (true, m) rfl s1 (by show r.length + 1 < 128; omega) fun ap2 s2 => br_f (by decide) ?_
    refine xc_p (st := (true, m) :: (false, 41) :: r) (false, 40) rfl s2 (by show r.length + 2 < 128; omega) fun ap3 s3 => ?_
    exact h1 q ap3 s3
  refine ⟨vp_in_nI (by omega) (by omega), nm_r (e' := nI k) (by rw [e3]; exact hkm) ?_⟩
  refine pk_eq k 64 (fun q => par ?_) (fun b1 => ?_)
  · unfold nd_pr; rw [if_pos (by omega)]; decide
  · refine xv_adv hk (fun q => br_f (by decide) (par ?_)) (fun q => br_t rfl ?_)
    · unfold nd_pr; rw [if_pos (by omega)]; decide
    · have np : nd_pr k = 0 := by unfold nd_pr; rw [if_neg (by omega)]
      unfold wX_postponeAtopRight_25
      refine br_t rfl ?_
      unfold wX_postponeAtopRight_36
      refine xc_p (true, m) rfl hs (by omega) fun ap2 s2 => br_t rfl ?_
      exact h0 np ap2 s2
theorem xc_un {f_vectorLimit f_textCount f_trainHeld f_rootNode f_nodeCount f_wordCount f_groupFirst f_atopWaiting f_groupCount f_adverbCount f_frameCount f_failure f_lastStatus : Int32} {a_text a_nodeKind a_nodeFirst a_nodeSecond a_nodeThird a_words a_outerFirst a_outerAtop a_canon a_postponed a_cells a_lengths a_frameNode a_frameDyadic a_frameX a_frameY a_framePhase : Nat → Int32} {post : SX → Prop} {N : Nat} {K F S T C A D : Nat → Nat} {n : Nat} {r : List cn_I} {o : List Nat} (hK : tr_ok N K F S T C A D) (hN : N ≤ 64) (hn : n < N)
    (hT : tr_X N K F S T a_nodeKind a_nodeFirst a_nodeSecond a_nodeThird) (hs : cn_S cn_ex a_postponed r) (hl : r.length + (cn_un K F S T n).length ≤ 128) (ho : cn_O a_canon o) (ho2 : o.length + (cn_em K n).length ≤ 64)
    (h : ∀ ap ac, cn_S cn_ex ap (cn_un K F S T n ++ r) → cn_O ac (o ++ cn_em K n) → post (f_vectorLimit, f_textCount, f_trainHeld, f_rootNode, f_nodeCount, f_wordCount, f_groupFirst, f_atopWaiting, f_groupCount, f_adverbCount, nI (o ++ cn_em K n).length, nI (cn_un K F S T n ++ r).length, f_frameCount, f_failure, f_lastStatus, a_text, a_nodeKind, a_nodeFirst, a_nodeSecond, a_nodeThird, a_words, a_outerFirst, a_outerAtop, ac, ap, a_cells, a_lengths, a_frameNode, a_frameDyadic, a_frameX, a_frameY, a_framePhase)) :
    wpX_unfoldNode post (f_vectorLimit, f_textCount, f_trainHeld, f_rootNode, f_nodeCount, f_wordCount, f_groupFirst, f_atopWaiting, f_groupCount, f_adverbCount, nI o.length, nI r.length, f_frameCount, f_failure, f_lastStatus, a_text, a_nodeKind, a_nodeFirst, a_nodeSecond, a_nodeThird, a_words, a_outerFirst, a_outerAtop, a_canon, a_postponed, a_cells, a_lengths, a_frameNode, a_frameDyadic, a_frameX, a_frameY, a_framePhase) (nI n) := by
  have nd := (hK n hn).1
  have kk := nd_k nd
  have e2 : (nI n).toNatClampNeg = n := nI_clamp (by omega)
  have i2 : vp_in (nI n) 64 := vp_in_nI (by omega) (by omega)
  obtain ⟨k1, k2, k3, k4⟩ := hT n hn
  refine ⟨i2, nm_r (e' := nI (K n)) (by rw [e2]; exact k1) ?_⟩
  unfold cn_un at h hl
  refine pk_eq (K n) 1 (fun z => ?_) (fun a1 => pk_eq (K n) 2 (fun z => ?_) (fun a2 => pk_eq (K n) 64 (fun z => ⟨i2, ?_⟩) (fun a3 => ?_)))
  · rw [if_pos z] at h hl
    rw [show cn_em K n = [] from if_pos (by omega), List.append_nil] at h
    have hl' : r.length + 5 ≤ 128 := hl
    unfold wX_unfoldNode_17
    refine xc_p (false, 41) rfl hs (by omega) fun ap1 s1 => pk_eq (K n) 1 (fun _ => ⟨i2, ?_⟩) (fun q => absurd z q)
    rw [e2, k4]
    refine xc_p (st := (false, 41) :: r) (true, T n) rfl s1 (by show r.length + 1 < 128; omega) fun ap2 s2 => ?_
    unfold wX_unfoldNode_38
    refine ⟨i2, ?_⟩
    rw [e2, k3]
    refine xc_p (st := (true, T n) :: (false, 41) :: r) (true, S n) rfl s2 (by show r.length + 2 < 128; omega) fun ap3 s3 => ⟨i2, ?_⟩
    rw [k2]
    refine xc_p (st := (true, S n) :: (true, T n) :: (false, 41) :: r) (true, F n) rfl s3 (by show r.length + 3 < 128; omega) fun ap4 s4 => ?_
    refine xc_p (st := (true, F n) :: (true, S n) :: (true, T n) :: (false, 41) :: r) (false, 40) rfl s4 (by show r.length + 4 < 128; omega) fun ap5 s5 => ?_
    exact h ap5 a_canon s5 ho
  · rw [if_neg a1, if_pos z] at h hl
    rw [show cn_em K n = [] from if_pos (by omega), List.append_nil] at h
    have hl' : r.length + 4 ≤ 128 := hl
    unfold wX_unfoldNode_17
    refine xc_p (false, 41) rfl hs (by omega) fun ap1 s1 => pk_eq (K n) 1 (fun q => absurd q a1) (fun _ => ?_)
    unfold wX_unfoldNode_38
    refine ⟨i2, ?_⟩
    rw [e2, k3]
    refine xc_p (st := (false, 41) :: r) (true, S n) rfl s1 (by show r.length + 1 < 128; omega) fun ap3 s3 => ⟨i2, ?_⟩
    rw [k2]
    refine xc_p (st := (true, S n) :: (false, 41) :: r) (true, F n) rfl s3 (by show r.length + 2 < 128; omega) fun ap4 s4 => ?_
    refine xc_p (st := (true, F n) :: (true, S n) :: (false, 41) :: r) (false, 40) rfl s4 (by show r.length + 3 < 128; omega) fun ap5 s5 => ?_
    exact h ap5 a_canon s5 ho
  · rw [if_neg a1, if_neg a2, if_pos z] at h hl
    rw [show cn_em K n = [] from if_pos (by omega), List.append_nil] at h
    have fs := am_fs nd (Or.inr z)
    have ks := nd_k (hK (S n) (by omega)).1
    rw [e2, k3]
    by_cases q : nd_pr (K (S n)) = 0
    · rw [if_pos q] at h hl
      have hl' : r.length + 3 ≤ 128 := hl
      refine xc_ar (by omega) ks (hT (S n) (by omega)).1 hs (by omega) (fun _ ap2 s2 => ?_) (fun z => absurd q z)
      refine xc_p (st := (true, S n) :: r) (false, 64) rfl s2 (by show r.length + 1 < 128; omega) fun ap4 s4 => ⟨i2, ?_⟩
      rw [k2]
      refine xc_p (st := (false, 64) :: (true, S n) :: r) (true, F n) rfl s4 (by show r.length + 2 < 128; omega) fun ap5 s5 => ?_
      exact h ap5 a_canon s5 ho
    · rw [if_neg q] at h hl
      have hl' : r.length + 5 ≤ 128 := hl
      refine xc_ar (by omega) ks (hT (S n) (by omega)).1 hs (by omega) (fun z => absurd z q) (fun _ ap3 s3 => ?_)
      refine xc_p (st := (false, 40) :: (true, S n) :: (false, 41) :: r) (false, 64) rfl s3 (by show r.length + 3 < 128; omega) fun ap4 s4 => ⟨i2, ?_⟩
      rw [k2]
      refine xc_p (st := (false, 64) :: (false, 40) :: (true, S n) :: (false, 41) :: r) (true, F n) rfl s4 (by show r.length + 4 < 128; omega) fun ap5 s5 => ?_
      exact h ap5 a_canon s5 ho
  · rw [if_neg a1, if_neg a2, if_neg a3] at h hl
    refine xv_adv kk (fun z => br_f (by decide) ?_) (fun z => br_t rfl ?_)
    · rw [if_pos z] at h hl
      rw [show cn_em K n = [] from if_pos (by omega), List.append_nil] at h
      have hl' : r.length + 2 ≤ 128 := hl
      refine xc_p (false, K n) rfl hs (by omega) fun ap1 s1 => ⟨i2, ?_⟩
      rw [e2, k2]
      refine xc_p (st := (false, K n) :: r) (true, F n) rfl s1 (by show r.length + 1 < 128; omega) fun ap2 s2 => ?_
      exact h ap2 a_canon s2 ho
    · rw [if_neg z] at h
      rw [show cn_em K n = [K n] from if_neg (by omega)] at h ho2
      have ho2' : o.length + 1 ≤ 64 := ho2
      exact xc_e kk ho (by omega) fun ac hac => h a_postponed ac hs hac
end
section
/-! the canonical form: the reference's loop, then both -/
theorem yc_p {g_lim g_tlen g_held g_root g_clen g_xn g_yn g_rn g_stat g_nn g_wsp g_depth g_sp g_err : Int32} {b_text b_canon b_xs b_ys b_res b_kind b_nch b_na b_nb b_nc b_ws b_fb b_pend b_cst b_fnode b_fmode b_fph b_fi b_vec b_vlen : Nat → Int32} {post : Int32 → SY → Prop} {st : List cn_I} (it : cn_I) {v : Int32} (hv : v = cn_ey it) (hs : cn_S cn_ey b_cst st) (hl : st.length < 512)
    (h : ∀ cs, cn_S cn_ey cs (it :: st) → post (nI (it :: st).length) (g_lim, g_tlen, g_held, g_root, g_clen, g_xn, g_yn, g_rn, g_stat, g_nn, g_wsp, g_depth, g_sp, g_err, b_text, b_canon, b_xs, b_ys, b_res, b_kind, b_nch, b_na, b_nb, b_nc, b_ws, b_fb, b_pend, cs, b_fnode, b_fmode, b_fph, b_fi, b_vec, b_vlen)) : wpY_pushC post (g_lim, g_tlen, g_held, g_root, g_clen, g_xn, g_yn, g_rn, g_stat, g_nn, g_wsp, g_depth, g_sp, g_err, b_text, b_canon, b_xs, b_ys, b_res, b_kind, b_nch, b_na, b_nb, b_nc, b_ws, b_fb, b_pend, b_cst, b_fnode, b_fmode, b_fph, b_fi, b_vec, b_vlen) (nI st.length) v := by
  subst hv
  have e1 : (nI st.length).toNatClampNeg = st.length := nI_clamp (by omega)
  refine br_f (nI_pos (by omega)) (br_t (nI_lt (b := 512) hl (by decide)) ⟨vp_in_nI hl (by omega), nm_r (e' := upd b_cst st.length (cn_ey it)) (by rw [e1]) ?_⟩)
  rw [nI_1]
  exact h _ (cn_push it hs)
theorem yc_e {g_lim g_tlen g_held g_root g_xn g_yn g_rn g_stat g_nn g_wsp g_depth g_sp g_err : Int32} {b_text b_canon b_xs b_ys b_res b_kind b_nch b_na b_nb b_nc b_ws b_fb b_pend b_cst b_fnode b_fmode b_fph b_fi b_vec b_vlen : Nat → Int32} {post : SY → Prop} {o : List Nat} {c : Nat} (hc : c < 128) (ho : cn_O b_canon o) (hl : o.length < 64)
    (h : ∀ ac, cn_O ac (o ++ [c]) → post (g_lim, g_tlen, g_held, g_root, nI (o ++ [c]).length, g_xn, g_yn, g_rn, g_stat, g_nn, g_wsp, g_depth, g_sp, g_err, b_text, ac, b_xs, b_ys, b_res, b_kind, b_nch, b_na, b_nb, b_nc, b_ws, b_fb, b_pend, b_cst, b_fnode, b_fmode, b_fph, b_fi, b_vec, b_vlen)) : wpY_emit post (g_lim, g_tlen, g_held, g_root, nI o.length, g_xn, g_yn, g_rn, g_stat, g_nn, g_wsp, g_depth, g_sp, g_err, b_text, b_canon, b_xs, b_ys, b_res, b_kind, b_nch, b_na, b_nb, b_nc, b_ws, b_fb, b_pend, b_cst, b_fnode, b_fmode, b_fph, b_fi, b_vec, b_vlen) (nI c) := by
  have e1 : (nI o.length).toNatClampNeg = o.length := nI_clamp (by omega)
  exact br_f (nI_ge (b := 128) (by omega) (by decide)) ⟨vp_in_nI (by omega) (by omega), nm_r (e' := upd b_canon o.length (nI c)) (by rw [e1, ax_nc (by omega)]) (nm_r (e' := nI (o ++ [c]).length) (by rw [nI_1, cn_len1]) (h _ (cn_Oe ho c)))⟩
theorem yc_240 {g_lim g_tlen g_held g_root g_clen g_xn g_yn g_rn g_stat g_nn g_wsp g_depth g_sp g_err : Int32} {b_text b_canon b_xs b_ys b_res b_kind b_nch b_na b_nb b_nc b_ws b_fb b_pend b_cst b_fnode b_fmode b_fph b_fi b_vec b_vlen : Nat → Int32} {post : SY → Prop} {J : Int32 → Int32 → Int32 → Int32 → Int32 → Int32 → Int32 → Int32 → Int32 → Int32 → Int32 → Int32 → Int32 → Int32 → Int32 → Int32 → (Nat → Int32) → (Nat → Int32) → (Nat → Int32) → (Nat → Int32) → (Nat → Int32) → (Nat → Int32) → (Nat → Int32) → (Nat → Int32) → (Nat → Int32) → (Nat → Int32) → (Nat → Int32) → (Nat → Int32) → (Nat → Int32) → (Nat → Int32) → (Nat → Int32) → (Nat → Int32) → (Nat → Int32) → (Nat → Int32) → (Nat → Int32) → (Nat → Int32) → Prop} {r : List cn_I} {n a b i : Nat} (hn : n < 128) (ha : b_na n = nI a) (hb : b_nb n = nI b) (hs : cn_S cn_ey b_cst r) (hl : r.length + 3 ≤ 512)
    (h : ∀ cs, cn_S cn_ey cs ((false, 40) :: (true, a) :: (true, b) :: r) → J (nI ((false, 40) :: (true, a) :: (true, b) :: r).length) (nI (i + 1)) g_lim g_tlen g_held g_root g_clen g_xn g_yn g_rn g_stat g_nn g_wsp g_depth g_sp g_err b_text b_canon b_xs b_ys b_res b_kind b_nch b_na b_nb b_nc b_ws b_fb b_pend cs b_fnode b_fmode b_fph b_fi b_vec b_vlen) :
    wY_makeCanon_240 post J (nI r.length) (nI i) (nI n) g_lim g_tlen g_held g_root g_clen g_xn g_yn g_rn g_stat g_nn g_wsp g_depth g_sp g_err b_text b_canon b_xs b_ys b_res b_kind b_nch b_na b_nb b_nc b_ws b_fb b_pend b_cst b_fnode b_fmode b_fph b_fi b_vec b_vlen := by
  have e2 : (nI n).toNatClampNeg = n := nI_clamp (by omega)
  have i2 : vp_in (nI n) 128 := vp_in_nI (by omega) (by omega)
  unfold wY_makeCanon_240
  refine ⟨i2, ?_⟩
  rw [e2, hb]
  refine yc_p (true, b) rfl hs (by omega) fun c1 s1 => ⟨i2, ?_⟩
  rw [ha]
  refine yc_p (st := (true, b) :: r) (true, a) rfl s1 (by show r.length + 1 < 512; omega) fun c2 s2 => ?_
  refine yc_p (st := (true, a) :: (true, b) :: r) (false, 40) (by decide) s2 (by show r.length + 2 < 512; omega) fun c3 s3 => nm_r (nI_1 i) ?_
  exact h c3 s3
theorem yc_191 {g_lim g_tlen g_held g_root g_clen g_xn g_yn g_rn g_stat g_nn g_wsp g_depth g_sp g_err : Int32} {b_text b_canon b_xs b_ys b_res b_kind b_nch b_na b_nb b_nc b_ws b_fb b_pend b_cst b_fnode b_fmode b_fph b_fi b_vec b_vlen : Nat → Int32} {post : SY → Prop} {J : Int32 → Int32 → Int32 → Int32 → Int32 → Int32 → Int32 → Int32 → Int32 → Int32 → Int32 → Int32 → Int32 → Int32 → Int32 → Int32 → (Nat → Int32) → (Nat → Int32) → (Nat → Int32) → (Nat → Int32) → (Nat → Int32) → (Nat → Int32) → (Nat → Int32) → (Nat → Int32) → (Nat → Int32) → (Nat → Int32) → (Nat → Int32) → (Nat → Int32) → (Nat → Int32) → (Nat → Int32) → (Nat → Int32) → (Nat → Int32) → (Nat → Int32) → (Nat → Int32) → (Nat → Int32) → (Nat → Int32) → Prop} {r : List cn_I} {n a i : Nat} (hn : n < 128) (ha : b_na n = nI a) (hs : cn_S cn_ey b_cst r) (hl : r.length + 2 ≤ 512)
    (h : ∀ cs, cn_S cn_ey cs ((true, a) :: (false, 64) :: r) → J (nI ((true, a) :: (false, 64) :: r).length) (nI (i + 1)) g_lim g_tlen g_held g_root g_clen g_xn g_yn g_rn g_stat g_nn g_wsp g_depth g_sp g_err b_text b_canon b_xs b_ys b_res b_kind b_nch b_na b_nb b_nc b_ws b_fb b_pend cs b_fnode b_fmode b_fph b_fi b_vec b_vlen) :
    wY_makeCanon_191 post J (nI r.length) (nI i) (nI n) g_lim g_tlen g_held g_root g_clen g_xn g_yn g_rn g_stat g_nn g_wsp g_depth g_sp g_err b_text b_canon b_xs b_ys b_res b_kind b_nch b_na b_nb b_nc b_ws b_fb b_pend b_cst b_fnode b_fmode b_fph b_fi b_vec b_vlen := by
  have e2 : (nI n).toNatClampNeg = n := nI_clamp (by omega)
  have i2 : vp_in (nI n) 128 := vp_in_nI (by omega) (by omega)
  unfold wY_makeCanon_191
  refine yc_p (false, 64) (by decide) hs (by omega) fun c1 s1 => ⟨i2, ?_⟩
  rw [e2, ha]
  refine yc_p (st := (false, 64) :: r) (true, a) rfl s1 (by show r.length + 1 < 512; omega) fun c2 s2 => nm_r (nI_1 i) ?_
  exact h c2 s2
theorem yc_nd {g_lim g_tlen g_held g_root g_xn g_yn g_rn g_stat g_nn g_wsp g_depth g_sp g_err : Int32} {b_text b_canon b_xs b_ys b_res b_kind b_nch b_na b_nb b_nc b_ws b_fb b_pend b_cst b_fnode b_fmode b_fph b_fi b_vec b_vlen : Nat → Int32} {post : SY → Prop} {k i : Nat} {N : Nat} {K F S T C A D : Nat → Nat} {n : Nat} {r : List cn_I} {o : List Nat} (hK : tr_ok N K F S T C A D) (hN : N ≤ 64) (hn : n < N) (hi : i < 1024)
    (hT : tr_Y N K F S T b_kind b_nch b_na b_nb b_nc) (hs : cn_S cn_ey b_cst ((true, n) :: r)) (hl : r.length + 5 ≤ 512) (ho : cn_O b_canon o) (ho2 : o.length + (cn_em K n).length ≤ 64)
    (h : ∀ cs ac, cn_S cn_ey cs (cn_un K F S T n ++ r) → cn_O ac (o ++ cn_em K n) → wY_makeCanon_17 post k (nI (cn_un K F S T n ++ r).length) (nI (i + 1)) g_lim g_tlen g_held g_root (nI (o ++ cn_em K n).length) g_xn g_yn g_rn g_stat g_nn g_wsp g_depth g_sp g_err b_text ac b_xs b_ys b_res b_kind b_nch b_na b_nb b_nc b_ws b_fb b_pend cs b_fnode b_fmode b_fph b_fi b_vec b_vlen) :
    wY_makeCanon_17 post (k + 1) (nI (r.length + 1)) (nI i) g_lim g_tlen g_held g_root (nI o.length) g_xn g_yn g_rn g_stat g_nn g_wsp g_depth g_sp g_err b_text b_canon b_xs b_ys b_res b_kind b_nch b_na b_nb b_nc b_ws b_fb b_pend b_cst b_fnode b_fmode b_fph b_fi b_vec b_vlen := by
  have nd := (hK n hn).1
  have kk := nd_k nd
  have e1 : (nI r.length).toNatClampNeg = r.length := nI_clamp (by omega)
  have e2 : (nI n).toNatClampNeg = n := nI_clamp (by omega)
  have i2 : vp_in (nI n) 128 := vp_in_nI (by omega) (by omega)
  obtain ⟨k1, k2, k3, k4, k5⟩ := hT n hn
  obtain ⟨hs1, hs2⟩ := hs
  refine br_f (nI_ge (b := 1024) hi (by decide)) (br_f (nI_nle (by omega) (by omega)) (nm_r (e' := nI r.length) (pk_m1 _) ⟨vp_in_nI (by omega) (by omega), nm_r (e' := nI n) (by rw [e1]; exact hs1) (br_t (nI_pos' (by omega)) ⟨i2, nm_r (e' := nI (tr_ky (K n))) (by rw [e2]; exact k1) ?_⟩)⟩))
  unfold cn_un at h
  by_cases a1 : K n = 1
  · rw [if_pos a1, show cn_em K n = [] from if_pos (by omega), List.append_nil] at h
    rw [show tr_ky (K n) = 3 by rw [a1]; rfl]
    refine br_f (by decide) (br_f (by decide) (br_f (by decide) ?_))
    refine yc_p (false, 41) (by decide) hs2 (by omega) fun c1 s1 => br_t rfl ⟨i2, ?_⟩
    rw [e2, k5]
    refine yc_p (st := (false, 41) :: r) (true, T n) rfl s1 (by show r.length + 1 < 512; omega) fun c2 s2 => ?_
    exact yc_240 (r := (true, T n) :: (false, 41) :: r) (by omega) k3 k4 s2 (by show r.length + 2 + 3 ≤ 512; omega) fun cs hcs => h cs b_canon hcs ho
  · rw [if_neg a1] at h
    by_cases a2 : K n = 2
    · rw [if_pos a2, show cn_em K n = [] from if_pos (by omega), List.append_nil] at h
      rw [show tr_ky (K n) = 4 by rw [a2]; rfl]
      refine br_f (by decide) (br_f (by decide) (br_f (by decide) ?_))
      refine yc_p (false, 41) (by decide) hs2 (by omega) fun c1 s1 => br_f (by decide) ?_
      exact yc_240 (r := (false, 41) :: r) (by omega) k3 k4 s1 (by show r.length + 1 + 3 ≤ 512; omega) fun cs hcs => h cs b_canon hcs ho
    · rw [if_neg a2] at h
      by_cases a3 : K n = 64
      · rw [if_pos a3, show cn_em K n = [] from if_pos (by omega), List.append_nil] at h
        rw [show tr_ky (K n) = 2 by rw [a3]; rfl]
        have fs := am_fs nd (Or.inr a3)
        have e3 : (nI (S n)).toNatClampNeg = S n := nI_clamp (by omega)
        have i3 : vp_in (nI (S n)) 128 := vp_in_nI (by omega) (by omega)
        have ks := (hT (S n) (by omega)).1
        refine br_f (by decide) (br_f (by decide) (br_t rfl ⟨i2, nm_r (e' := nI (S n)) (by rw [e2]; exact k4) ⟨i3, ?_⟩⟩))
        rw [e3, ks]
        have par : nd_pr (K (S n)) ≠ 0 → wY_makeCanon_150 post (wY_makeCanon_17 post k) (nI r.length) (nI i) (nI n) (nI (S n)) g_lim g_tlen g_held g_root (nI o.length) g_xn g_yn g_rn g_stat g_nn g_wsp g_depth g_sp g_err b_text b_canon b_xs b_ys b_res b_kind b_nch b_na b_nb b_nc b_ws b_fb b_pend b_cst b_fnode b_fmode b_fph b_fi b_vec b_vlen := by
          intro q
          rw [if_neg q] at h
          unfold wY_makeCanon_150 wY_makeCanon_155
          refine br_f (by decide) ?_
          refine yc_p (false, 41) (by decide) hs2 (by omega) fun c1 s1 => ?_
          unfold wY_makeCanon_170
          refine yc_p (st := (false, 41) :: r) (true, S n) rfl s1 (by show r.length + 1 < 512; omega) fun c2 s2 => br_f (by decide) ?_
          refine yc_p (st := (true, S n) :: (false, 41) :: r) (false, 40) (by decide) s2 (by show r.length + 2 < 512; omega) fun c3 s3 => ?_
          exact yc_191 (r := (false, 40) :: (true, S n) :: (false, 41) :: r) (by omega) k3 s3 (by show r.length + 3 + 2 ≤ 512; omega) fun cs hcs => h cs b_canon hcs ho
        by_cases b1 : K (S n) = 47 ∨ K (S n) = 92 ∨ K (S n) = 34
        · refine br_t ?_ (par ?_)
          · rw [show tr_ky (K (S n)) = 1 by unfold tr_ky; rw [if_neg (by omega), if_neg (by omega), if_neg (by omega), if_pos b1]]; rfl
          · unfold nd_pr; rw [if_pos (by omega)]; decide
        · by_cases b2 : K (S n) = 64
          · rw [show tr_ky (K (S n)) = 2 by rw [b2]; rfl]
            refine br_f (by decide) ⟨i3, br_t rfl (par ?_)⟩
            unfold nd_pr; rw [if_pos (by omega)]; decide
          · have np : nd_pr (K (S n)) = 0 := by unfold nd_pr; rw [if_neg (by omega)]
            have t0 : tr_ky (K (S n)) = 3 ∨ tr_ky (K (S n)) = 4 ∨ tr_ky (K (S n)) = 0 := by
              unfold tr_ky
              split
              · exact Or.inl rfl
              · split
                · exact Or.inr (Or.inl rfl)
                · exact Or.inr (Or.inr (by first | rfl | (rw [if_neg b2, if_neg b1])))
            have t1 : ¬ nI (tr_ky (K (S n))) = 1 := by rcases t0 with z | z | z <;> rw [z] <;> decide
            have t2 : ¬ nI (tr_ky (K (S n))) = 2 := by rcases t0 with z | z | z <;> rw [z] <;> decide
            refine br_f t1 ⟨i3, br_f t2 ?_⟩
            rw [if_pos np] at h
            unfold wY_makeCanon_155
            refine br_t rfl ?_
            unfold wY_makeCanon_170
            refine yc_p (true, S n) rfl hs2 (by omega) fun c2 s2 => br_t rfl ?_
            exact yc_191 (r := (true, S n) :: r) (by omega) k3 s2 (by show r.length + 1 + 2 ≤ 512; omega) fun cs hcs => h cs b_canon hcs ho
      · rw [if_neg a3] at h
        by_cases a4 : K n = 47 ∨ K n = 92 ∨ K n = 34
        · rw [if_pos a4, show cn_em K n = [] from if_pos (by omega), List.append_nil] at h
          rw [show tr_ky (K n) = 1 by unfold tr_ky; rw [if_neg a1, if_neg a2, if_neg a3, if_pos a4]]
          refine br_f (by decide) (br_t rfl ⟨i2, ?_⟩)
          rw [e2, k2, show tr_cy (K n) = K n by unfold tr_cy; rw [if_neg (by omega)]]
          refine yc_p (false, K n) rfl hs2 (by omega) fun c1 s1 => ⟨i2, ?_⟩
          rw [k3]
          refine yc_p (st := (false, K n) :: r) (true, F n) rfl s1 (by show r.length + 1 < 512; omega) fun c2 s2 => nm_r (nI_1 i) ?_
          exact h c2 b_canon s2 ho
        · rw [if_neg a4] at h
          have em : cn_em K n = [K n] := if_neg (by omega)
          rw [em] at h ho2
          have ho2' : o.length + 1 ≤ 64 := ho2
          rw [show tr_ky (K n) = 0 by unfold tr_ky; rw [if_neg a1, if_neg a2, if_neg a3, if_neg a4]]
          refine br_t rfl ⟨i2, ?_⟩
          rw [e2, k2, show tr_cy (K n) = K n by unfold tr_cy; rw [if_neg (by omega)]]
          exact yc_e kk ho (by omega) fun ac hac => nm_r (nI_1 i) (h b_cst ac hs2 hac)
theorem cn_ap {o : List Nat} {c : Nat} (h : ∀ j, j < o.length → o.getD j 0 < 128) (hc : c < 128) : ∀ j, j < (o ++ [c]).length → (o ++ [c]).getD j 0 < 128 := by
  intro j hj
  rw [cn_len1] at hj
  by_cases z : j = o.length
  · rw [z, List.getD_eq_getElem?_getD, List.getElem?_append_right (Nat.le_refl _), Nat.sub_self]; exact hc
  · rw [List.getD_eq_getElem?_getD, List.getElem?_append_left (by omega), ← List.getD_eq_getElem?_getD]
    exact h j (by omega)
theorem cn_both {N : Nat} {K F S T C A D : Nat → Nat} (hK : tr_ok N K F S T C A D) (hN : N ≤ 64) :
    ∀ (W : Nat) (st : List cn_I) (o : List Nat), cn_w C st ≤ W → W ≤ 128 → cn_ok N st → o.length + cn_c C st ≤ 64 → (∀ j, j < o.length → o.getD j 0 < 128) →
    ∃ o' : List Nat, o'.length ≤ 64 ∧ (∀ j, j < o'.length → o'.getD j 0 < 128) ∧
      (∀ {f_vectorLimit f_textCount f_trainHeld f_rootNode f_nodeCount f_wordCount f_groupFirst f_atopWaiting f_groupCount f_adverbCount f_frameCount f_failure f_lastStatus : Int32} {a_text a_nodeKind a_nodeFirst a_nodeSecond a_nodeThird a_words a_outerFirst a_outerAtop a_cells a_lengths a_frameNode a_frameDyadic a_frameX a_frameY a_framePhase : Nat → Int32} (post : SX → Prop) (ap ac : Nat → Int32) (i k : Nat), tr_X N K F S T a_nodeKind a_nodeFirst a_nodeSecond a_nodeThird → i + W ≤ 128 → W < k → cn_S cn_ex ap st → cn_O ac o →
        (∀ pc ap' ac', cn_O ac' o' → post (f_vectorLimit, f_textCount, f_trainHeld, f_rootNode, f_nodeCount, f_wordCount, f_groupFirst, f_atopWaiting, f_groupCount, f_adverbCount, nI o'.length, pc, f_frameCount, f_failure, f_lastStatus, a_text, a_nodeKind, a_nodeFirst, a_nodeSecond, a_nodeThird, a_words, a_outerFirst, a_outerAtop, ac', ap', a_cells, a_lengths, a_frameNode, a_frameDyadic, a_frameX, a_frameY, a_framePhase)) →
        wX_writeCanon_20 post k (nI i) f_vectorLimit f_textCount f_trainHeld f_rootNode f_nodeCount f_wordCount f_groupFirst f_atopWaiting f_groupCount f_adverbCount (nI o.length) (nI st.length) f_frameCount f_failure f_lastStatus a_text a_nodeKind a_nodeFirst a_nodeSecond a_nodeThird a_words a_outerFirst a_outerAtop ac ap a_cells a_lengths a_frameNode a_frameDyadic a_frameX a_frameY a_framePhase) ∧
      (∀ {g_lim g_tlen g_held g_root g_xn g_yn g_rn g_stat g_nn g_wsp g_depth g_sp g_err : Int32} {b_text b_xs b_ys b_res b_kind b_nch b_na b_nb b_nc b_ws b_fb b_pend b_fnode b_fmode b_fph b_fi b_vec b_vlen : Nat → Int32} (post : SY → Prop) (cs ac : Nat → Int32) (i k : Nat), tr_Y N K F S T b_kind b_nch b_na b_nb b_nc → i + W ≤ 128 → W < k → cn_S cn_ey cs st → cn_O ac o →
        (∀ cs' ac', cn_O ac' o' → post (g_lim, g_tlen, g_held, g_root, nI o'.length, g_xn, g_yn, g_rn, g_stat, g_nn, g_wsp, g_depth, g_sp, g_err, b_text, ac', b_xs, b_ys, b_res, b_kind, b_nch, b_na, b_nb, b_nc, b_ws, b_fb, b_pend, cs', b_fnode, b_fmode, b_fph, b_fi, b_vec, b_vlen)) →
        wY_makeCanon_17 post k (nI st.length) (nI i) g_lim g_tlen g_held g_root (nI o.length) g_xn g_yn g_rn g_stat g_nn g_wsp g_depth g_sp g_err b_text ac b_xs b_ys b_res b_kind b_nch b_na b_nb b_nc b_ws b_fb b_pend cs b_fnode b_fmode b_fph b_fi b_vec b_vlen) := by
  have C1 := cn_C1 hK
  have base : ∀ (W : Nat) (o : List Nat), o.length ≤ 64 → (∀ j, j < o.length → o.getD j 0 < 128) → ∃ o' : List Nat, o'.length ≤ 64 ∧ (∀ j, j < o'.length → o'.getD j 0 < 128) ∧
      (∀ {f_vectorLimit f_textCount f_trainHeld f_rootNode f_nodeCount f_wordCount f_groupFirst f_atopWaiting f_groupCount f_adverbCount f_frameCount f_failure f_lastStatus : Int32} {a_text a_nodeKind a_nodeFirst a_nodeSecond a_nodeThird a_words a_outerFirst a_outerAtop a_cells a_lengths a_frameNode a_frameDyadic a_frameX a_frameY a_framePhase : Nat → Int32} (post : SX → Prop) (ap ac : Nat → Int32) (i k : Nat), tr_X N K F S T a_nodeKind a_nodeFirst a_nodeSecond a_nodeThird → i + W ≤ 128 → W < k → cn_S cn_ex ap [] → cn_O ac o →
        (∀ pc ap' ac', cn_O ac' o' → post (f_vectorLimit, f_textCount, f_trainHeld, f_rootNode, f_nodeCount, f_wordCount, f_groupFirst, f_atopWaiting, f_groupCount, f_adverbCount, nI o'.length, pc, f_frameCount, f_failure, f_lastStatus, a_text, a_nodeKind, a_nodeFirst, a_nodeSecond, a_nodeThird, a_words, a_outerFirst, a_outerAtop, ac', ap', a_cells, a_lengths, a_frameNode, a_frameDyadic, a_frameX, a_frameY, a_framePhase)) →
        wX_writeCanon_20 post k (nI i) f_vectorLimit f_textCount f_trainHeld f_rootNode f_nodeCount f_wordCount f_groupFirst f_atopWaiting f_groupCount f_adverbCount (nI o.length) (nI 0) f_frameCount f_failure f_lastStatus a_text a_nodeKind a_nodeFirst a_nodeSecond a_nodeThird a_words a_outerFirst a_outerAtop ac ap a_cells a_lengths a_frameNode a_frameDyadic a_frameX a_frameY a_framePhase) ∧
      (∀ {g_lim g_tlen g_held g_root g_xn g_yn g_rn g_stat g_nn g_wsp g_depth g_sp g_err : Int32} {b_text b_xs b_ys b_res b_kind b_nch b_na b_nb b_nc b_ws b_fb b_pend b_fnode b_fmode b_fph b_fi b_vec b_vlen : Nat → Int32} (post : SY → Prop) (cs ac : Nat → Int32) (i k : Nat), tr_Y N K F S T b_kind b_nch b_na b_nb b_nc → i + W ≤ 128 → W < k → cn_S cn_ey cs [] → cn_O ac o →
        (∀ cs' ac', cn_O ac' o' → post (g_lim, g_tlen, g_held, g_root, nI o'.length, g_xn, g_yn, g_rn, g_stat, g_nn, g_wsp, g_depth, g_sp, g_err, b_text, ac', b_xs, b_ys, b_res, b_kind, b_nch, b_na, b_nb, b_nc, b_ws, b_fb, b_pend, cs', b_fnode, b_fmode, b_fph, b_fi, b_vec, b_vlen)) →
        wY_makeCanon_17 post k (nI 0) (nI i) g_lim g_tlen g_held g_root (nI o.length) g_xn g_yn g_rn g_stat g_nn g_wsp g_depth g_sp g_err b_text ac b_xs b_ys b_res b_kind b_nch b_na b_nb b_nc b_ws b_fb b_pend cs b_fnode b_fmode b_fph b_fi b_vec b_vlen) := by
    intro W o ho hc
    refine ⟨o, ho, hc, fun post ap ac i k hTX hi hk hs hO h => ?_, fun post cs ac i k hTY hi hk hs hO h => ?_⟩
    · obtain ⟨k, rfl⟩ : ∃ q, k = q + 1 := ⟨k - 1, by omega⟩
      exact br_c (fun _ => h _ _ _ hO) (fun _ => br_t (by decide) (h _ _ _ hO))
    · obtain ⟨k, rfl⟩ : ∃ q, k = q + 1 := ⟨k - 1, by omega⟩
      exact br_c (fun _ => h _ _ hO) (fun _ => br_t (by decide) (h _ _ hO))
  intro W
  induction W with
  | zero =>
    intro st o hW hW2 hok ho hc
    have hl := cn_len C1 st hok
    match st, hl with
    | [], _ => exact base 0 o (by omega) hc
    | it :: r, hl => have : r.length + 1 ≤ cn_w C (it :: r) := hl; omega
  | succ W ih =>
    intro st o hW hW2 hok ho hc
    have hl := cn_len C1 st hok
    match st, hl, hW, hok, ho with
    | [], _, _, _, ho => exact base _ o (by omega) hc
    | (false, c) :: r, hl, hW, hok, ho =>
      have hl' : r.length + 1 ≤ cn_w C ((false, c) :: r) := hl
      have hW' : 1 + cn_w C r ≤ W + 1 := hW
      have ho' : o.length + (1 + cn_c C r) ≤ 64 := ho
      obtain ⟨c0, c128, hok'⟩ := hok
      obtain ⟨o', h1, h2, hX, hY⟩ := ih r (o ++ [c]) (by omega) (by omega) hok' (by rw [cn_len1]; omega) (cn_ap hc c128)
      have e1 : (nI r.length).toNatClampNeg = r.length := nI_clamp (by omega)
      refine ⟨o', h1, h2, fun post ap ac i k hTX hi hk hs hO h => ?_, fun post cs ac i k hTY hi hk hs hO h => ?_⟩
      · obtain ⟨k, rfl⟩ : ∃ q, k = q + 1 := ⟨k - 1, by omega⟩
        refine br_f (nI_ge (b := 128) (by omega) (by decide)) (br_f (nI_nle (n := r.length + 1) (by omega) (by omega)) (nm_r (e' := nI r.length) (nI_pred _) ⟨vp_in_nI (by omega) (by omega), nm_r (e' := -nI c) (by rw [e1]; exact hs.1) (br_f (Int32.not_le.mpr (cn_neg c0 c128)) ?_)⟩))
        rw [cn_nn]
        exact xc_e c128 hO (by omega) fun ac' hac => nm_r (nI_1 i) (hX post ap ac' (i + 1) k hTX (by omega) (by omega) hs.2 hac h)
      · obtain ⟨k, rfl⟩ : ∃ q, k = q + 1 := ⟨k - 1, by omega⟩
        refine br_f (nI_ge (b := 1024) (by omega) (by decide)) (br_f (nI_nle (n := r.length + 1) (by omega) (by omega)) (nm_r (e' := nI r.length) (pk_m1 _) ⟨vp_in_nI (by omega) (by omega), nm_r (e' := -1 - nI c) (by rw [e1]; exact hs.1) (br_f (Int32.not_le.mpr (cn_neg2 c128)) ?_)⟩))
        rw [cn_n2, ax_ch (by omega)]
        exact yc_e c128 hO (by omega) fun ac' hac => nm_r (nI_1 i) (hY post cs ac' (i + 1) k hTY (by omega) (by omega) hs.2 hac h)
    | (true, n) :: r, hl, hW, hok, ho =>
      have hl' : r.length + 1 ≤ cn_w C ((true, n) :: r) := hl
      have hW' : 2 * C n + cn_w C r ≤ W + 1 := hW
      have ho' : o.length + (C n + cn_c C r) ≤ 64 := ho
      obtain ⟨hn, hok'⟩ := hok
      obtain ⟨w1, w2, w3⟩ := cn_wt hK hn r hok'
      have hl2 := cn_len C1 _ w3
      rw [List.length_append] at hl2
      have hoe : (o ++ cn_em K n).length = o.length + (cn_em K n).length := List.length_append
      have hce : ∀ j, j < (o ++ cn_em K n).length → (o ++ cn_em K n).getD j 0 < 128 := by
        unfold cn_em
        split
        · rw [List.append_nil]; exact hc
        · exact cn_ap hc (nd_k (hK n hn).1)
      obtain ⟨o', h1, h2, hX, hY⟩ := ih (cn_un K F S T n ++ r) (o ++ cn_em K n) (by omega) (by omega) w3 (by omega) hce
      have e1 : (nI r.length).toNatClampNeg = r.length := nI_clamp (by omega)
      refine ⟨o', h1, h2, fun post ap ac i k hTX hi hk hs hO h => ?_, fun post cs ac i k hTY hi hk hs hO h => ?_⟩
      · obtain ⟨k, rfl⟩ : ∃ q, k = q + 1 := ⟨k - 1, by omega⟩
        refine br_f (nI_ge (b := 128) (by omega) (by decide)) (br_f (nI_nle (n := r.length + 1) (by omega) (by omega)) (nm_r (e' := nI r.length) (nI_pred _) ⟨vp_in_nI (by omega) (by omega), nm_r (e' := nI n) (by rw [e1]; exact hs.1) (br_t (nI_pos' (by omega)) ?_)⟩))
        exact xc_un hK hN hn hTX hs.2 (by omega) hO (by omega) fun ap' ac' hap hac => nm_r (nI_1 i) (hX post ap' ac' (i + 1) k hTX (by omega) (by omega) hap hac h)
      · obtain ⟨k, rfl⟩ : ∃ q, k = q + 1 := ⟨k - 1, by omega⟩
        exact yc_nd hK hN hn (by omega) hTY hs (by omega) hO (by omega) fun cs' ac' hcs hac => hY post cs' ac' (i + 1) k hTY (by omega) (by omega) hcs hac h
end
section
/-! nodes, primaries and trains on both sides -/
theorem xn_node {f_vectorLimit f_textCount f_trainHeld f_rootNode f_wordCount f_groupFirst f_atopWaiting f_groupCount f_adverbCount f_canonCount f_postponedCount f_frameCount f_failure f_lastStatus : Int32} {a_text a_nodeKind a_nodeFirst a_nodeSecond a_nodeThird a_words a_outerFirst a_outerAtop a_canon a_postponed a_cells a_lengths a_frameNode a_frameDyadic a_frameX a_frameY a_framePhase : Nat → Int32} {post : Int32 → SX → Prop} {N k a b c : Nat} (hN : N < 64)
    (h : post (nI N) (f_vectorLimit, f_textCount, f_trainHeld, f_rootNode, nI (N + 1), f_wordCount, f_groupFirst, f_atopWaiting, f_groupCount, f_adverbCount, f_canonCount, f_postponedCount, f_frameCount, f_failure, f_lastStatus, a_text, upd a_nodeKind N (nI k), upd a_nodeFirst N (nI a), upd a_nodeSecond N (nI b), upd a_nodeThird N (nI c), a_words, a_outerFirst, a_outerAtop, a_canon, a_postponed, a_cells, a_lengths, a_frameNode, a_frameDyadic, a_frameX, a_frameY, a_framePhase)) :
    wpX_makeNode post (f_vectorLimit, f_textCount, f_trainHeld, f_rootNode, nI N, f_wordCount, f_groupFirst, f_atopWaiting, f_groupCount, f_adverbCount, f_canonCount, f_postponedCount, f_frameCount, f_failure, f_lastStatus, a_text, a_nodeKind, a_nodeFirst, a_nodeSecond, a_nodeThird, a_words, a_outerFirst, a_outerAtop, a_canon, a_postponed, a_cells, a_lengths, a_frameNode, a_frameDyadic, a_frameX, a_frameY, a_framePhase) (nI k) (nI a) (nI b) (nI c) := by
  have e1 : (nI N).toNatClampNeg = N := nI_clamp (by omega)
  have i1 : vp_in (nI N) 64 := vp_in_nI hN (by omega)
  simp only [wpX_makeNode, e1, nI_1, forall_eq]
  exact ⟨i1, i1, i1, i1, h⟩
theorem yn_node {g_lim g_tlen g_held g_root g_clen g_xn g_yn g_rn g_stat g_wsp g_depth g_sp g_err : Int32} {b_text b_canon b_xs b_ys b_res b_kind b_nch b_na b_nb b_nc b_ws b_fb b_pend b_cst b_fnode b_fmode b_fph b_fi b_vec b_vlen : Nat → Int32} {post : Int32 → SY → Prop} {N k ch a b c : Nat} (hN : N < 128) (hc : ch < 65536)
    (h : post (nI N) (g_lim, g_tlen, g_held, g_root, g_clen, g_xn, g_yn, g_rn, g_stat, nI (N + 1), g_wsp, g_depth, g_sp, g_err, b_text, b_canon, b_xs, b_ys, b_res, upd b_kind N (nI k), upd b_nch N (nI ch), upd b_na N (nI a), upd b_nb N (nI b), upd b_nc N (nI c), b_ws, b_fb, b_pend, b_cst, b_fnode, b_fmode, b_fph, b_fi, b_vec, b_vlen)) :
    wpY_newNode post (g_lim, g_tlen, g_held, g_root, g_clen, g_xn, g_yn, g_rn, g_stat, nI N, g_wsp, g_depth, g_sp, g_err, b_text, b_canon, b_xs, b_ys, b_res, b_kind, b_nch, b_na, b_nb, b_nc, b_ws, b_fb, b_pend, b_cst, b_fnode, b_fmode, b_fph, b_fi, b_vec, b_vlen) (nI k) (nI ch) (nI a) (nI b) (nI c) := by
  have e1 : (nI N).toNatClampNeg = N := nI_clamp (by omega)
  have i1 : vp_in (nI N) 128 := vp_in_nI hN (by omega)
  have l1 : nI N < 128 := nI_lt (b := 128) hN (by decide)
  refine br_t l1 ?_
  simp only [e1, nI_1, forall_eq, ax_nc hc, nI_pred]
  exact ⟨i1, i1, i1, i1, i1, h⟩
theorem xn_plain {f_vectorLimit f_textCount f_trainHeld f_rootNode f_nodeCount f_groupFirst f_groupCount f_adverbCount f_canonCount f_postponedCount f_frameCount f_failure f_lastStatus : Int32} {a_text a_nodeKind a_nodeFirst a_nodeSecond a_nodeThird a_words a_outerFirst a_outerAtop a_canon a_postponed a_cells a_lengths a_frameNode a_frameDyadic a_frameX a_frameY a_framePhase : Nat → Int32} {post : SX → Prop} {wc p : Nat} (hw : wc < 32)
    (h : post (f_vectorLimit, f_textCount, f_trainHeld, f_rootNode, f_nodeCount, nI (wc + 1), f_groupFirst, 0, f_groupCount, f_adverbCount, f_canonCount, f_postponedCount, f_frameCount, f_failure, f_lastStatus, a_text, a_nodeKind, a_nodeFirst, a_nodeSecond, a_nodeThird, upd a_words wc (nI p), a_outerFirst, a_outerAtop, a_canon, a_postponed, a_cells, a_lengths, a_frameNode, a_frameDyadic, a_frameX, a_frameY, a_framePhase)) : wpX_addPrimary post (f_vectorLimit, f_textCount, f_trainHeld, f_rootNode, f_nodeCount, nI wc, f_groupFirst, 0, f_groupCount, f_adverbCount, f_canonCount, f_postponedCount, f_frameCount, f_failure, f_lastStatus, a_text, a_nodeKind, a_nodeFirst, a_nodeSecond, a_nodeThird, a_words, a_outerFirst, a_outerAtop, a_canon, a_postponed, a_cells, a_lengths, a_frameNode, a_frameDyadic, a_frameX, a_frameY, a_framePhase) (nI p) := by
  have e1 : (nI wc).toNatClampNeg = wc := nI_clamp (by omega)
  exact br_t rfl ⟨vp_in_nI hw (by omega), nm_r (e' := upd a_words wc (nI p)) (by rw [e1]) (nm_r (nI_1 _) h)⟩
theorem xn_atop {f_vectorLimit f_textCount f_trainHeld f_rootNode f_groupFirst f_groupCount f_adverbCount f_canonCount f_postponedCount f_frameCount f_failure f_lastStatus : Int32} {a_text a_nodeKind a_nodeFirst a_nodeSecond a_nodeThird a_words a_outerFirst a_outerAtop a_canon a_postponed a_cells a_lengths a_frameNode a_frameDyadic a_frameX a_frameY a_framePhase : Nat → Int32} {post : SX → Prop} {N m a p : Nat} (hm : m < 32) (hN : N < 64) (ha : a_words m = nI a)
    (h : post (f_vectorLimit, f_textCount, f_trainHeld, f_rootNode, nI (N + 1), nI (m + 1), f_groupFirst, 0, f_groupCount, f_adverbCount, f_canonCount, f_postponedCount, f_frameCount, f_failure, f_lastStatus, a_text, upd a_nodeKind N (nI 64), upd a_nodeFirst N (nI a), upd a_nodeSecond N (nI p), upd a_nodeThird N (nI 0), upd a_words m (nI N), a_outerFirst, a_outerAtop, a_canon, a_postponed, a_cells, a_lengths, a_frameNode, a_frameDyadic, a_frameX, a_frameY, a_framePhase)) :
    wpX_addPrimary post (f_vectorLimit, f_textCount, f_trainHeld, f_rootNode, nI N, nI (m + 1), f_groupFirst, 1, f_groupCount, f_adverbCount, f_canonCount, f_postponedCount, f_frameCount, f_failure, f_lastStatus, a_text, a_nodeKind, a_nodeFirst, a_nodeSecond, a_nodeThird, a_words, a_outerFirst, a_outerAtop, a_canon, a_postponed, a_cells, a_lengths, a_frameNode, a_frameDyadic, a_frameX, a_frameY, a_framePhase) (nI p) := by
  have e1 : (nI m).toNatClampNeg = m := nI_clamp (by omega)
  have i1 : vp_in (nI m) 32 := vp_in_nI hm (by omega)
  refine br_f (by decide) ?_
  rw [nI_pred, e1, ha]
  refine ⟨i1, ?_⟩
  exact xn_node (k := 64) (c := 0) hN ⟨i1, nm_e h⟩
theorem yn_plain {g_lim g_tlen g_held g_root g_clen g_xn g_yn g_rn g_stat g_nn g_sp g_err : Int32} {b_text b_canon b_xs b_ys b_res b_kind b_nch b_na b_nb b_nc b_ws b_fb b_pend b_cst b_fnode b_fmode b_fph b_fi b_vec b_vlen : Nat → Int32} {post : SY → Prop} {wc p G : Nat} (hw : wc < 40) (hG : G < 40) (hp : b_pend G = 0)
    (h : post (g_lim, g_tlen, g_held, g_root, g_clen, g_xn, g_yn, g_rn, g_stat, g_nn, nI (wc + 1), nI G, g_sp, g_err, b_text, b_canon, b_xs, b_ys, b_res, b_kind, b_nch, b_na, b_nb, b_nc, upd b_ws wc (nI p), b_fb, b_pend, b_cst, b_fnode, b_fmode, b_fph, b_fi, b_vec, b_vlen)) : wpY_deliver post (g_lim, g_tlen, g_held, g_root, g_clen, g_xn, g_yn, g_rn, g_stat, g_nn, nI wc, nI G, g_sp, g_err, b_text, b_canon, b_xs, b_ys, b_res, b_kind, b_nch, b_na, b_nb, b_nc, b_ws, b_fb, b_pend, b_cst, b_fnode, b_fmode, b_fph, b_fi, b_vec, b_vlen) (nI p) := by
  have e1 : (nI wc).toNatClampNeg = wc := nI_clamp (by omega)
  have e2 : (nI G).toNatClampNeg = G := nI_clamp (by omega)
  refine ⟨vp_in_nI hG (by omega), br_t (by rw [e2]; exact hp) ?_⟩
  unfold wY_deliver_65
  exact br_f (nI_ge (b := 40) hw (by decide)) ⟨vp_in_nI hw (by omega), nm_r (e' := upd b_ws wc (nI p)) (by rw [e1]) (nm_r (nI_1 _) h)⟩
theorem ax_nb0 : vp_nar .boolean 0 = 0 := rfl
theorem ax_nb1 : vp_nar .boolean 1 = 1 := rfl
theorem yn_atop {g_lim g_tlen g_held g_root g_clen g_xn g_yn g_rn g_stat g_sp g_err : Int32} {b_text b_canon b_xs b_ys b_res b_kind b_nch b_na b_nb b_nc b_ws b_fb b_pend b_cst b_fnode b_fmode b_fph b_fi b_vec b_vlen : Nat → Int32} {post : SY → Prop} {N m a p G : Nat} (hm : m < 40) (hG : G < 40) (hN : N < 128) (hp : b_pend G = 1) (ha : b_ws m = nI a)
    (h : post (g_lim, g_tlen, g_held, g_root, g_clen, g_xn, g_yn, g_rn, g_stat, nI (N + 1), nI (m + 1), nI G, g_sp, g_err, b_text, b_canon, b_xs, b_ys, b_res, upd b_kind N (nI 2), upd b_nch N (nI 64), upd b_na N (nI a), upd b_nb N (nI p), upd b_nc N (nI 0), upd b_ws m (nI N), b_fb, upd b_pend G 0, b_cst, b_fnode, b_fmode, b_fph, b_fi, b_vec, b_vlen)) :
    wpY_deliver post (g_lim, g_tlen, g_held, g_root, g_clen, g_xn, g_yn, g_rn, g_stat, nI N, nI (m + 1), nI G, g_sp, g_err, b_text, b_canon, b_xs, b_ys, b_res, b_kind, b_nch, b_na, b_nb, b_nc, b_ws, b_fb, b_pend, b_cst, b_fnode, b_fmode, b_fph, b_fi, b_vec, b_vlen) (nI p) := by
  have e1 : (nI m).toNatClampNeg = m := nI_clamp (by omega)
  have e2 : (nI G).toNatClampNeg = G := nI_clamp (by omega)
  have i1 : vp_in (nI m) 40 := vp_in_nI hm (by omega)
  have i2 : vp_in (nI G) 40 := vp_in_nI hG (by omega)
  refine ⟨i2, br_f (by rw [e2, hp]; decide) (br_f (nI_nle (by omega) (by omega)) ?_)⟩
  rw [nI_pred, e1]
  refine ⟨i1, nm_r (e' := nI a) ha ?_⟩
  refine yn_node (k := 2) (ch := 64) (c := 0) hN (by decide) ⟨i1, nm_e ⟨i2, nm_r (e' := upd b_pend G 0) (by rw [e2, ax_nb0]) h⟩⟩
theorem tx_le {m lo : Nat} (hm : m < 2 ^ 30) (hl : lo < 2 ^ 30) : nI m + (-1) ≤ nI lo ↔ m ≤ lo + 1 := by
  cases m with
  | zero =>
    constructor
    · intro _; omega
    · intro _
      rw [Int32.le_iff_toInt_le, nI_toInt (by omega), show (nI 0 + (-1)).toInt = -1 from by decide]
      omega
  | succ m =>
    rw [pk_m1, nI_leI (by omega) (by omega)]
    omega
theorem tx_eq {m lo : Nat} (hm : m < 2 ^ 30) (hl : lo < 2 ^ 30) : nI m + (-1) = nI lo ↔ m = lo + 1 := by
  cases m with
  | zero =>
    constructor
    · intro h
      have := congrArg Int32.toInt h
      rw [nI_toInt (by omega), show (nI 0 + (-1)).toInt = -1 from by decide] at this
      omega
    · intro h; omega
  | succ m =>
    rw [pk_m1, nI_eq (by omega) (by omega)]
    omega
theorem ty_lt {m lo : Nat} (hm : m < 2 ^ 30) (hl : lo < 2 ^ 30) : nI m - 2 < nI lo ↔ m < lo + 2 := by
  rw [Int32.lt_iff_toInt_lt, show (2 : Int32) = nI 2 from rfl, pk_sub_toInt hm (by omega), nI_toInt (by omega)]
  omega
theorem ty_eq {m lo : Nat} (hm : m < 2 ^ 30) (hl : lo < 2 ^ 30) : nI m - 1 = nI lo ↔ m = lo + 1 := by
  rw [Int32.sub_eq_add_neg]
  exact tx_eq hm hl
theorem tx_s2 (m : Nat) : nI (m + 2) + (-1) + (-2) = nI m + (-1) := by
  rw [show nI (m + 2) = nI m + nI 2 from (nI_add m 2).symm, show nI 2 = 2 from rfl]
  generalize nI m = z
  grind
theorem ty_s2 (m : Nat) : nI (m + 2) + (-2) = nI m := by
  rw [show nI (m + 2) = nI m + nI 2 from (nI_add m 2).symm, show nI 2 = 2 from rfl]
  generalize nI m = z
  grind
theorem tx_w2 (m : Nat) : nI (m + 1) - 2 = nI m + (-1) := by
  rw [← nI_1]
  generalize nI m = z
  grind
theorem tr_both {N0 wc lo sC sA : Nat} {W : Nat → Nat} (hb : N0 + wc ≤ 64) (hw32 : wc ≤ 32) :
    ∀ (q m e N t : Nat) (K F S T C A D : Nat → Nat), m ≤ q → rd_T N0 wc lo m e sC sA N K F S T C A D W t →
    ∃ (N' t' : Nat) (K' F' S' T' C' A' D' : Nat → Nat), rd_R N0 (wc - lo) lo sC sA N' K' F' S' T' C' A' D' W t' ∧ (∀ {f_vectorLimit f_textCount f_trainHeld f_rootNode f_wordCount f_groupFirst f_atopWaiting f_groupCount f_adverbCount f_canonCount f_postponedCount f_frameCount f_failure f_lastStatus : Int32} {a_text a_words a_outerFirst a_outerAtop a_canon a_postponed a_cells a_lengths a_frameNode a_frameDyadic a_frameX a_frameY a_framePhase : Nat → Int32} (post : Int32 → SX → Prop) (kx fx sx tx : Nat → Int32), tr_X N K F S T kx fx sx tx → (∀ j, j < m + 1 → a_words j = nI (W j)) → (∀ kx' fx' sx' tx', tr_X N' K' F' S' T' kx' fx' sx' tx' → post (nI t') (f_vectorLimit, f_textCount, f_trainHeld, f_rootNode, nI N', f_wordCount, f_groupFirst, f_atopWaiting, f_groupCount, f_adverbCount, f_canonCount, f_postponedCount, f_frameCount, f_failure, f_lastStatus, a_text, kx', fx', sx', tx', a_words, a_outerFirst, a_outerAtop, a_canon, a_postponed, a_cells, a_lengths, a_frameNode, a_frameDyadic, a_frameX, a_frameY, a_framePhase)) → ∀ n, m < n → wX_makeTrain_19 post (nI lo) n (nI t) (nI m + (-1)) f_vectorLimit f_textCount f_trainHeld f_rootNode (nI N) f_wordCount f_groupFirst f_atopWaiting f_groupCount f_adverbCount f_canonCount f_postponedCount f_frameCount f_failure f_lastStatus a_text kx fx sx tx a_words a_outerFirst a_outerAtop a_canon a_postponed a_cells a_lengths a_frameNode a_frameDyadic a_frameX a_frameY a_framePhase) ∧ (∀ {g_lim g_tlen g_held g_root g_clen g_xn g_yn g_rn g_stat g_wsp g_depth g_sp g_err : Int32} {b_text b_canon b_xs b_ys b_res b_ws b_fb b_pend b_cst b_fnode b_fmode b_fph b_fi b_vec b_vlen : Nat → Int32} (post : Int32 → SY → Prop) (ky ch na nb nc : Nat → Int32), tr_Y N K F S T ky ch na nb nc → (∀ j, j < m + 1 → b_ws j = nI (W j)) → (∀ ky' ch' na' nb' nc', tr_Y N' K' F' S' T' ky' ch' na' nb' nc' → post (nI t') (g_lim, g_tlen, g_held, g_root, g_clen, g_xn, g_yn, g_rn, g_stat, nI N', g_wsp, g_depth, g_sp, g_err, b_text, b_canon, b_xs, b_ys, b_res, ky', ch', na', nb', nc', b_ws, b_fb, b_pend, b_cst, b_fnode, b_fmode, b_fph, b_fi, b_vec, b_vlen)) → ∀ n, m < n → wY_buildTrain_15 post (nI lo) n (nI m) (nI t) (nI e) g_lim g_tlen g_held g_root g_clen g_xn g_yn g_rn g_stat (nI N) g_wsp g_depth g_sp g_err b_text b_canon b_xs b_ys b_res ky ch na nb nc b_ws b_fb b_pend b_cst b_fnode b_fmode b_fph b_fi b_vec b_vlen) := by
  intro q
  induction q with
  | zero =>
    intro m e N t K F S T C A D hq hT
    have hT' := hT
    obtain ⟨h1, h2, h3, h4, h5, h6, h7, h8, h9⟩ := hT'
    have em : m = lo := by omega
    subst em
    refine ⟨N, t, K, F, S, T, C, A, D, rd_Re hT, fun post kx fx sx tx hx hw h n hn => ?_, fun post ky ch na nb nc hy hw h n hn => ?_⟩
    · obtain ⟨n, rfl⟩ : ∃ k, n = k + 1 := ⟨n - 1, by omega⟩
      refine br_t ((tx_le (by omega) (by omega)).mpr (by omega)) (br_f (fun z => ?_) (h _ _ _ _ hx))
      have := (tx_eq (by omega) (by omega)).mp z
      omega
    · obtain ⟨n, rfl⟩ : ∃ k, n = k + 1 := ⟨n - 1, by omega⟩
      refine br_f (nI_ge (b := 32) (by omega) (by decide)) (br_t ((ty_lt (by omega) (by omega)).mpr (by omega)) ?_)
      unfold wY_buildTrain_63
      refine br_f (fun z => ?_) (h _ _ _ _ _ hy)
      have := (ty_eq (by omega) (by omega)).mp z
      omega
  | succ q ih =>
    intro m e N t K F S T C A D hq hT
    have hT' := hT
    obtain ⟨h1, h2, h3, h4, h5, h6, h7, h8, h9⟩ := hT'
    by_cases c1 : m = lo
    · subst c1
      refine ⟨N, t, K, F, S, T, C, A, D, rd_Re hT, fun post kx fx sx tx hx hw h n hn => ?_, fun post ky ch na nb nc hy hw h n hn => ?_⟩
      · obtain ⟨n, rfl⟩ : ∃ k, n = k + 1 := ⟨n - 1, by omega⟩
        refine br_t ((tx_le (by omega) (by omega)).mpr (by omega)) (br_f (fun z => ?_) (h _ _ _ _ hx))
        have := (tx_eq (by omega) (by omega)).mp z
        omega
      · obtain ⟨n, rfl⟩ : ∃ k, n = k + 1 := ⟨n - 1, by omega⟩
        refine br_f (nI_ge (b := 32) (by omega) (by decide)) (br_t ((ty_lt (by omega) (by omega)).mpr (by omega)) ?_)
        unfold wY_buildTrain_63
        refine br_f (fun z => ?_) (h _ _ _ _ _ hy)
        have := (ty_eq (by omega) (by omega)).mp z
        omega
    · by_cases c2 : m = lo + 1
      · subst c2
        have e1 : (nI lo).toNatClampNeg = lo := nI_clamp (by omega)
        refine ⟨N + 1, N, _, _, _, _, _, _, _, rd_Rh hT, fun post kx fx sx tx hx hw h n hn => ?_, fun post ky ch na nb nc hy hw h n hn => ?_⟩
        · obtain ⟨n, rfl⟩ : ∃ k, n = k + 1 := ⟨n - 1, by omega⟩
          refine br_t ((tx_le (by omega) (by omega)).mpr (by omega)) (br_t ((tx_eq (by omega) (by omega)).mpr rfl) ⟨vp_in_nI (by omega) (by omega), ?_⟩)
          rw [e1, hw lo (by omega)]
          exact xn_node (k := 2) (c := 0) (by omega) (h _ _ _ _ (tr_Xu hx 2 (W lo) t 0))
        · obtain ⟨n, rfl⟩ : ∃ k, n = k + 1 := ⟨n - 1, by omega⟩
          refine br_f (nI_ge (b := 32) (by omega) (by decide)) (br_t ((ty_lt (by omega) (by omega)).mpr (by omega)) ?_)
          unfold wY_buildTrain_63
          refine br_t ((ty_eq (by omega) (by omega)).mpr rfl) ⟨vp_in_nI (by omega) (by omega), ?_⟩
          rw [e1, hw lo (by omega)]
          exact yn_node (k := 4) (ch := 32) (c := 0) (by omega) (by decide) (h _ _ _ _ _ (tr_Yu hy 2 (W lo) t 0))
      · obtain ⟨m, rfl⟩ : ∃ k, m = k + 2 := ⟨m - 2, by omega⟩
        obtain ⟨N', t', K', F', S', T', C', A', D', hR, hX, hY⟩ := ih m (e + 1) (N + 1) N _ _ _ _ _ _ _ (by omega) (rd_Tf hT (by omega))
        refine ⟨N', t', K', F', S', T', C', A', D', hR, fun post kx fx sx tx hx hw h n hn => ?_, fun post ky ch na nb nc hy hw h n hn => ?_⟩
        · obtain ⟨n, rfl⟩ : ∃ k, n = k + 1 := ⟨n - 1, by omega⟩
          have e1 : (nI m).toNatClampNeg = m := nI_clamp (by omega)
          have e2 : (nI (m + 1)).toNatClampNeg = m + 1 := nI_clamp (by omega)
          refine br_f (fun z => ?_) ?_
          · have := (tx_le (by omega) (by omega)).mp z
            omega
          · rw [show nI (m + 2) + (-1) = nI (m + 1) from pk_m1 _, nI_pred, e1, e2, hw m (by omega), hw (m + 1) (by omega)]
            refine ⟨vp_in_nI (by omega) (by omega), vp_in_nI (by omega) (by omega), ?_⟩
            refine xn_node (k := 1) (by omega) (nm_r (e' := nI m + (-1)) (by rw [← tx_s2 m]; exact congrArg (· + (-2)) (pk_m1 (m + 1)).symm) ?_)
            exact hX post _ _ _ _ (tr_Xu hx 1 (W m) (W (m + 1)) t) (fun j hj => hw j (by omega)) h n (by omega)
        · obtain ⟨n, rfl⟩ : ∃ k, n = k + 1 := ⟨n - 1, by omega⟩
          have e1 : (nI m).toNatClampNeg = m := nI_clamp (by omega)
          have e2 : (nI (m + 1)).toNatClampNeg = m + 1 := nI_clamp (by omega)
          refine br_f (nI_ge (b := 32) (by omega) (by decide)) (br_f (fun z => ?_) (nm_r (ty_s2 m) ⟨vp_in_nI (by omega) (by omega), ?_⟩))
          · have := (ty_lt (by omega) (by omega)).mp z
            omega
          · rw [nI_1, e1, e2, hw m (by omega), hw (m + 1) (by omega)]
            refine ⟨vp_in_nI (by omega) (by omega), ?_⟩
            refine yn_node (k := 3) (ch := 32) (by omega) (by decide) (nm_r (nI_1 e) ?_)
            exact hY post _ _ _ _ _ (tr_Yu hy 1 (W m) (W (m + 1)) t) (fun j hj => hw j (by omega)) h n (by omega)
theorem tr_train {N m lo : Nat} {K F S T C A D W : Nat → Nat} (hK : tr_ok N K F S T C A D) (hw : ∀ j, j < m + 1 → W j < N) (hl : lo ≤ m) (hb : N + (m + 1) ≤ 64) (hm : m < 32) :
    ∃ (N' t' : Nat) (K' F' S' T' C' A' D' : Nat → Nat), rd_R N (m + 1 - lo) lo (tr_sm C W (m + 1)) (tr_sm A W (m + 1)) N' K' F' S' T' C' A' D' W t' ∧
      (∀ {f_vectorLimit f_textCount f_trainHeld f_rootNode f_groupFirst f_atopWaiting f_groupCount f_adverbCount f_canonCount f_postponedCount f_frameCount f_failure f_lastStatus : Int32} {a_text a_nodeKind a_nodeFirst a_nodeSecond a_nodeThird a_words a_outerFirst a_outerAtop a_canon a_postponed a_cells a_lengths a_frameNode a_frameDyadic a_frameX a_frameY a_framePhase : Nat → Int32} (post : Int32 → SX → Prop), tr_X N K F S T a_nodeKind a_nodeFirst a_nodeSecond a_nodeThird → (∀ j, j < m + 1 → a_words j = nI (W j)) → (∀ kx' fx' sx' tx', tr_X N' K' F' S' T' kx' fx' sx' tx' → post (nI t') (f_vectorLimit, f_textCount, f_trainHeld, f_rootNode, nI N', nI (m + 1), f_groupFirst, f_atopWaiting, f_groupCount, f_adverbCount, f_canonCount, f_postponedCount, f_frameCount, f_failure, f_lastStatus, a_text, kx', fx', sx', tx', a_words, a_outerFirst, a_outerAtop, a_canon, a_postponed, a_cells, a_lengths, a_frameNode, a_frameDyadic, a_frameX, a_frameY, a_framePhase)) → wpX_makeTrain post (f_vectorLimit, f_textCount, f_trainHeld, f_rootNode, nI N, nI (m + 1), f_groupFirst, f_atopWaiting, f_groupCount, f_adverbCount, f_canonCount, f_postponedCount, f_frameCount, f_failure, f_lastStatus, a_text, a_nodeKind, a_nodeFirst, a_nodeSecond, a_nodeThird, a_words, a_outerFirst, a_outerAtop, a_canon, a_postponed, a_cells, a_lengths, a_frameNode, a_frameDyadic, a_frameX, a_frameY, a_framePhase) (nI lo)) ∧
      (∀ {g_lim g_tlen g_held g_root g_clen g_xn g_yn g_rn g_stat g_depth g_sp g_err : Int32} {b_text b_canon b_xs b_ys b_res b_kind b_nch b_na b_nb b_nc b_ws b_fb b_pend b_cst b_fnode b_fmode b_fph b_fi b_vec b_vlen : Nat → Int32} (post : Int32 → SY → Prop), tr_Y N K F S T b_kind b_nch b_na b_nb b_nc → (∀ j, j < m + 1 → b_ws j = nI (W j)) → (∀ ky' ch' na' nb' nc', tr_Y N' K' F' S' T' ky' ch' na' nb' nc' → post (nI t') (g_lim, g_tlen, g_held, g_root, g_clen, g_xn, g_yn, g_rn, g_stat, nI N', nI (m + 1), g_depth, g_sp, g_err, b_text, b_canon, b_xs, b_ys, b_res, ky', ch', na', nb', nc', b_ws, b_fb, b_pend, b_cst, b_fnode, b_fmode, b_fph, b_fi, b_vec, b_vlen)) → wpY_buildTrain post (g_lim, g_tlen, g_held, g_root, g_clen, g_xn, g_yn, g_rn, g_stat, nI N, nI (m + 1), g_depth, g_sp, g_err, b_text, b_canon, b_xs, b_ys, b_res, b_kind, b_nch, b_na, b_nb, b_nc, b_ws, b_fb, b_pend, b_cst, b_fnode, b_fmode, b_fph, b_fi, b_vec, b_vlen) (nI lo) (nI (m + 1))) := by
  obtain ⟨N', t', K', F', S', T', C', A', D', hR, hX, hY⟩ := tr_both (N0 := N) (wc := m + 1) (lo := lo) (W := W) hb (by omega) m m 0 N (W m) K F S T C A D (Nat.le_refl _) (rd_T0 hK hw hl)
  have e1 : (nI m).toNatClampNeg = m := nI_clamp (by omega)
  refine ⟨N', t', K', F', S', T', C', A', D', hR, fun post hx hwx h => ?_, fun post hy hwy h => ?_⟩
  · unfold wpX_makeTrain
    dsimp only
    rw [nI_pred, e1]
    exact ⟨vp_in_nI (by omega) (by omega), nm_r (hwx m (by omega)) (nm_r (tx_w2 m) ⟨m + 1, hX post _ _ _ _ hx hwx h _ (by omega)⟩)⟩
  · refine nm_r (nI_pred m) ⟨vp_in_nI (by omega) (by omega), nm_r (e' := nI (W m)) (by rw [e1]; exact hwy m (by omega)) ⟨m + 1, ?_⟩⟩
    exact hY post _ _ _ _ _ hy hwy h _ (by omega)
end
section
/-! one character on both sides -/
def rp_al (c : Nat) : Prop := pr_lf c ∨ pr_av c ∨ c = 64 ∨ c = 40 ∨ c = 41
theorem rp_alb {c : Nat} (h : rp_al c) : c < 128 := by
  unfold rp_al pr_lf pr_vb pr_dig pr_av at h; omega
def rp_X (f_vectorLimit f_textCount f_trainHeld f_rootNode f_canonCount f_postponedCount f_frameCount f_failure f_lastStatus : Int32) (a_text a_canon a_postponed a_cells a_lengths a_frameNode a_frameDyadic a_frameX a_frameY a_framePhase : Nat → Int32) (N wc G adc : Nat) (K F S T W B : Nat → Nat) (P : Nat → Bool) (u : SX) : Prop :=
  ∃ kx fx sx tx ws f o, u = (f_vectorLimit, f_textCount, f_trainHeld, f_rootNode, nI N, nI wc, nI (B G), xm_b (P G), nI G, nI adc, f_canonCount, f_postponedCount, f_frameCount, f_failure, f_lastStatus, a_text, kx, fx, sx, tx, ws, f, o, a_canon, a_postponed, a_cells, a_lengths, a_frameNode, a_frameDyadic, a_frameX, a_frameY, a_framePhase) ∧
    tr_X N K F S T kx fx sx tx ∧ (∀ j, j < wc → ws j = nI (W j)) ∧ (∀ j, j < G → f j = nI (B j) ∧ o j = xm_b (P j))
def rp_QX (f_vectorLimit f_textCount f_trainHeld f_rootNode f_canonCount f_postponedCount f_frameCount f_failure f_lastStatus : Int32) (a_text a_canon a_postponed a_cells a_lengths a_frameNode a_frameDyadic a_frameX a_frameY a_framePhase : Nat → Int32) (u : SX) : Prop :=
  ∃ n1 n2 n3 n4 n5 n6 kx fx sx tx ws f o, u = (f_vectorLimit, f_textCount, f_trainHeld, f_rootNode, n1, n2, n3, n4, n5, n6, f_canonCount, f_postponedCount, f_frameCount, f_failure, f_lastStatus, a_text, kx, fx, sx, tx, ws, f, o, a_canon, a_postponed, a_cells, a_lengths, a_frameNode, a_frameDyadic, a_frameX, a_frameY, a_framePhase)
def rp_Y (g_lim g_tlen g_held g_root g_clen g_xn g_yn g_rn g_stat g_sp g_err : Int32) (b_text b_canon b_xs b_ys b_res b_cst b_fnode b_fmode b_fph b_fi b_vec b_vlen : Nat → Int32) (N wc G adc : Nat) (K F S T W B : Nat → Nat) (P : Nat → Bool) (v : SY) : Prop :=
  ∃ ky ch na nb nc ws f pd, v = (g_lim, g_tlen, g_held, g_root, g_clen, g_xn, g_yn, g_rn, g_stat, nI N, nI wc, nI G, g_sp, g_err, b_text, b_canon, b_xs, b_ys, b_res, ky, ch, na, nb, nc, ws, f, pd, b_cst, b_fnode, b_fmode, b_fph, b_fi, b_vec, b_vlen) ∧
    tr_Y N K F S T ky ch na nb nc ∧ (∀ j, j < wc → ws j = nI (W j)) ∧ (∀ j, j ≤ G → f j = nI (B j) ∧ pd j = xm_b (P j))
def rp_QY (g_lim g_tlen g_held g_root g_clen g_xn g_yn g_rn g_stat g_sp g_err : Int32) (b_text b_canon b_xs b_ys b_res b_cst b_fnode b_fmode b_fph b_fi b_vec b_vlen : Nat → Int32) (v : SY) : Prop :=
  ∃ n1 n2 n3 ky ch na nb nc ws f pd, v = (g_lim, g_tlen, g_held, g_root, g_clen, g_xn, g_yn, g_rn, g_stat, n1, n2, n3, g_sp, g_err, b_text, b_canon, b_xs, b_ys, b_res, ky, ch, na, nb, nc, ws, f, pd, b_cst, b_fnode, b_fmode, b_fph, b_fi, b_vec, b_vlen)
theorem xv_vd {post : Int32 → Prop} {k : Nat} (hk : k < 128) (h1 : pr_lf k → post 1) (h0 : ¬ pr_lf k → post 0) : wpX_isVerbOrDigit post (nI k) := by
  unfold pr_lf pr_vb pr_dig at h1 h0
  exact pk_eq k 35 (fun e => h1 (by omega)) (fun e1 => pk_eq k 42 (fun e => h1 (by omega)) (fun e2 => pk_eq k 43 (fun e => h1 (by omega)) (fun e3 => pk_eq k 44 (fun e => h1 (by omega)) (fun e4 => pk_eq k 45 (fun e => h1 (by omega)) (fun e5 => pk_eq k 60 (fun e => h1 (by omega)) (fun e6 => pk_eq k 62 (fun e => h1 (by omega)) (fun e7 => pk_eq k 91 (fun e => h1 (by omega)) (fun e8 => pk_eq k 93 (fun e => h1 (by omega)) (fun e9 => pk_eq k 124 (fun e => h1 (by omega)) (fun e10 => xv_dig hk (fun e => ⟨rfl, h1 (Or.inr e)⟩) (fun e => ⟨rfl, h0 (by omega)⟩)))))))))))
theorem yv_vb {g_lim g_tlen g_held g_root g_clen g_xn g_yn g_rn g_stat g_nn g_wsp g_depth g_sp g_err : Int32} {b_text b_canon b_xs b_ys b_res b_kind b_nch b_na b_nb b_nc b_ws b_fb b_pend b_cst b_fnode b_fmode b_fph b_fi b_vec b_vlen : Nat → Int32} {post : Int32 → Prop} {k : Nat} (hk : k < 65536) (h1 : pr_vb k → post 1) (h0 : ¬ pr_vb k → post 0) : wpY_isVerb post (g_lim, g_tlen, g_held, g_root, g_clen, g_xn, g_yn, g_rn, g_stat, g_nn, g_wsp, g_depth, g_sp, g_err, b_text, b_canon, b_xs, b_ys, b_res, b_kind, b_nch, b_na, b_nb, b_nc, b_ws, b_fb, b_pend, b_cst, b_fnode, b_fmode, b_fph, b_fi, b_vec, b_vlen) (nI k) := by
  unfold pr_vb at h1 h0
  exact pk_eq k 43 (fun e => h1 (by omega)) (fun e1 => pk_eq k 45 (fun e => h1 (by omega)) (fun e2 => pk_eq k 42 (fun e => h1 (by omega)) (fun e3 => pk_eq k 60 (fun e => h1 (by omega)) (fun e4 => pk_eq k 62 (fun e => h1 (by omega)) (fun e5 => pk_eq k 91 (fun e => h1 (by omega)) (fun e6 => pk_eq k 93 (fun e => h1 (by omega)) (fun e7 => pk_eq k 35 (fun e => h1 (by omega)) (fun e8 => pk_eq k 44 (fun e => h1 (by omega)) (fun e9 => pk_eq k 124 (fun e => h1 (by omega)) (fun e10 => h0 (by omega)))))))))))
theorem xv_ww {f_vectorLimit f_textCount f_trainHeld f_rootNode f_nodeCount f_groupCount f_adverbCount f_canonCount f_postponedCount f_frameCount f_failure f_lastStatus : Int32} {a_text a_nodeKind a_nodeFirst a_nodeSecond a_nodeThird a_words a_outerFirst a_outerAtop a_canon a_postponed a_cells a_lengths a_frameNode a_frameDyadic a_frameX a_frameY a_framePhase : Nat → Int32} {post : Int32 → Prop} {wc g : Nat} {p : Bool} (hw : wc < 2 ^ 31) (hg : g < 2 ^ 31) (h1 : g < wc → p = false → post 1) (h0 : ¬ (g < wc ∧ p = false) → post 0) :
    wpX_wordIsWhole post (f_vectorLimit, f_textCount, f_trainHeld, f_rootNode, f_nodeCount, nI wc, nI g, xm_b p, f_groupCount, f_adverbCount, f_canonCount, f_postponedCount, f_frameCount, f_failure, f_lastStatus, a_text, a_nodeKind, a_nodeFirst, a_nodeSecond, a_nodeThird, a_words, a_outerFirst, a_outerAtop, a_canon, a_postponed, a_cells, a_lengths, a_frameNode, a_frameDyadic, a_frameX, a_frameY, a_framePhase) := by
  refine pk_le wc g (fun e => h0 (by omega)) (fun e => xs_b0 p (fun hp => h1 e hp) (fun hp => h0 (fun q => ?_)))
  rw [hp] at q
  exact absurd q.2 (by decide)
theorem yv_84 {g_lim g_tlen g_held g_root g_clen g_xn g_yn g_rn g_stat g_nn g_wsp g_depth g_sp g_err : Int32} {b_text b_canon b_xs b_ys b_res b_kind b_nch b_na b_nb b_nc b_ws b_fb b_pend b_cst b_fnode b_fmode b_fph b_fi b_vec b_vlen : Nat → Int32} {post : Int32 → SY → Prop} {J : Int32 → Int32 → Int32 → Int32 → Int32 → Int32 → Int32 → Int32 → Int32 → Int32 → Int32 → Int32 → Int32 → Int32 → Int32 → Int32 → (Nat → Int32) → (Nat → Int32) → (Nat → Int32) → (Nat → Int32) → (Nat → Int32) → (Nat → Int32) → (Nat → Int32) → (Nat → Int32) → (Nat → Int32) → (Nat → Int32) → (Nat → Int32) → (Nat → Int32) → (Nat → Int32) → (Nat → Int32) → (Nat → Int32) → (Nat → Int32) → (Nat → Int32) → (Nat → Int32) → (Nat → Int32) → (Nat → Int32) → Prop} {x1 x2 z0 : Int32} {c : Nat} (hc : c < 128)
    (h1 : pr_lf c → wY_parse_106 post J x1 x2 (nI c) g_lim g_tlen g_held g_root g_clen g_xn g_yn g_rn g_stat g_nn g_wsp g_depth g_sp g_err b_text b_canon b_xs b_ys b_res b_kind b_nch b_na b_nb b_nc b_ws b_fb b_pend b_cst b_fnode b_fmode b_fph b_fi b_vec b_vlen) (h0 : ¬ pr_lf c → wY_parse_126 post J x1 x2 (nI c) z0 g_lim g_tlen g_held g_root g_clen g_xn g_yn g_rn g_stat g_nn g_wsp g_depth g_sp g_err b_text b_canon b_xs b_ys b_res b_kind b_nch b_na b_nb b_nc b_ws b_fb b_pend b_cst b_fnode b_fmode b_fph b_fi b_vec b_vlen) : wY_parse_84 post J x1 x2 (nI c) z0 g_lim g_tlen g_held g_root g_clen g_xn g_yn g_rn g_stat g_nn g_wsp g_depth g_sp g_err b_text b_canon b_xs b_ys b_res b_kind b_nch b_na b_nb b_nc b_ws b_fb b_pend b_cst b_fnode b_fmode b_fph b_fi b_vec b_vlen := by
  unfold wY_parse_84
  refine yv_vb (by omega) (fun e => br_f (by decide) (h1 (Or.inl e))) (fun e => br_t rfl ?_)
  refine pk_lt c 48 (fun z => h0 ?_) (fun z => pk_lt 57 c (fun z1 => h0 ?_) (fun z1 => h1 (Or.inr ⟨z, z1⟩)))
  · unfold pr_lf pr_dig; intro q; rcases q with q | q
    · exact e q
    · omega
  · unfold pr_lf pr_dig; intro q; rcases q with q | q
    · exact e q
    · omega
def yp_W (post : Int32 → SY → Prop) (k adc i : Nat) (v : SY) : Prop :=
  match v with
  | (g_lim, g_tlen, g_held, g_root, g_clen, g_xn, g_yn, g_rn, g_stat, g_nn, g_wsp, g_depth, g_sp, g_err, b_text, b_canon, b_xs, b_ys, b_res, b_kind, b_nch, b_na, b_nb, b_nc, b_ws, b_fb, b_pend, b_cst, b_fnode, b_fmode, b_fph, b_fi, b_vec, b_vlen) => wY_parse_42 post k (nI adc) (nI i) g_lim g_tlen g_held g_root g_clen g_xn g_yn g_rn g_stat g_nn g_wsp g_depth g_sp g_err b_text b_canon b_xs b_ys b_res b_kind b_nch b_na b_nb b_nc b_ws b_fb b_pend b_cst b_fnode b_fmode b_fph b_fi b_vec b_vlen
def xp_W (post : Int32 → SX → Prop) (k i : Nat) (u : SX) : Prop :=
  match u with
  | (f_vectorLimit, f_textCount, f_trainHeld, f_rootNode, f_nodeCount, f_wordCount, f_groupFirst, f_atopWaiting, f_groupCount, f_adverbCount, f_canonCount, f_postponedCount, f_frameCount, f_failure, f_lastStatus, a_text, a_nodeKind, a_nodeFirst, a_nodeSecond, a_nodeThird, a_words, a_outerFirst, a_outerAtop, a_canon, a_postponed, a_cells, a_lengths, a_frameNode, a_frameDyadic, a_frameX, a_frameY, a_framePhase) => wX_parse_15 post k (nI i) f_vectorLimit f_textCount f_trainHeld f_rootNode f_nodeCount f_wordCount f_groupFirst f_atopWaiting f_groupCount f_adverbCount f_canonCount f_postponedCount f_frameCount f_failure f_lastStatus a_text a_nodeKind a_nodeFirst a_nodeSecond a_nodeThird a_words a_outerFirst a_outerAtop a_canon a_postponed a_cells a_lengths a_frameNode a_frameDyadic a_frameX a_frameY a_framePhase
theorem ax_fb (b : Bool) : narrow .boolean (.int (xm_b b)) = .int (xm_b b) ∧ fits .boolean (.int (xm_b b)) = true := by
  cases b
  · exact ⟨rfl, rfl⟩
  · exact ⟨rfl, rfl⟩
/-! what a character does: to fail, or to go on with new ghosts -/
def rp_fail (f_vectorLimit f_textCount f_trainHeld f_rootNode f_canonCount f_postponedCount f_frameCount f_failure f_lastStatus : Int32) (a_text a_canon a_postponed a_cells a_lengths a_frameNode a_frameDyadic a_frameX a_frameY a_framePhase : Nat → Int32) (g_lim g_tlen g_held g_root g_clen g_xn g_yn g_rn g_stat g_sp g_err : Int32) (b_text b_canon b_xs b_ys b_res b_cst b_fnode b_fmode b_fph b_fi b_vec b_vlen : Nat → Int32) (i c : Nat) (N wc G adc : Nat) (K F S T W B : Nat → Nat) (P : Nat → Bool) : Prop :=
  (∀ (u : SX) (post : Int32 → SX → Prop), rp_X f_vectorLimit f_textCount f_trainHeld f_rootNode f_canonCount f_postponedCount f_frameCount f_failure f_lastStatus a_text a_canon a_postponed a_cells a_lengths a_frameNode a_frameDyadic a_frameX a_frameY a_framePhase N wc G adc K F S T W B P u → (∀ u', rp_QX f_vectorLimit f_textCount f_trainHeld f_rootNode f_canonCount f_postponedCount f_frameCount f_failure f_lastStatus a_text a_canon a_postponed a_cells a_lengths a_frameNode a_frameDyadic a_frameX a_frameY a_framePhase u' → post 0 u') → wpX_readChar post u (nI c)) ∧
  (∀ (v : SY) (post : Int32 → SY → Prop) (k : Nat), rp_Y g_lim g_tlen g_held g_root g_clen g_xn g_yn g_rn g_stat g_sp g_err b_text b_canon b_xs b_ys b_res b_cst b_fnode b_fmode b_fph b_fi b_vec b_vlen N wc G adc K F S T W B P v → (∀ v', rp_QY g_lim g_tlen g_held g_root g_clen g_xn g_yn g_rn g_stat g_sp g_err b_text b_canon b_xs b_ys b_res b_cst b_fnode b_fmode b_fph b_fi b_vec b_vlen v' → post 0 v') → yp_W post (k + 1) adc i v)
def rp_on (f_vectorLimit f_textCount f_trainHeld f_rootNode f_canonCount f_postponedCount f_frameCount f_failure f_lastStatus : Int32) (a_text a_canon a_postponed a_cells a_lengths a_frameNode a_frameDyadic a_frameX a_frameY a_framePhase : Nat → Int32) (g_lim g_tlen g_held g_root g_clen g_xn g_yn g_rn g_stat g_sp g_err : Int32) (b_text b_canon b_xs b_ys b_res b_cst b_fnode b_fmode b_fph b_fi b_vec b_vlen : Nat → Int32) (i c : Nat) (N wc G adc : Nat) (K F S T W B : Nat → Nat) (P : Nat → Bool) (N' wc' G' adc' : Nat) (K' F' S' T' W' B' : Nat → Nat) (P' : Nat → Bool) : Prop :=
  (∀ (u : SX) (post : Int32 → SX → Prop), rp_X f_vectorLimit f_textCount f_trainHeld f_rootNode f_canonCount f_postponedCount f_frameCount f_failure f_lastStatus a_text a_canon a_postponed a_cells a_lengths a_frameNode a_frameDyadic a_frameX a_frameY a_framePhase N wc G adc K F S T W B P u → (∀ u', rp_X f_vectorLimit f_textCount f_trainHeld f_rootNode f_canonCount f_postponedCount f_frameCount f_failure f_lastStatus a_text a_canon a_postponed a_cells a_lengths a_frameNode a_frameDyadic a_frameX a_frameY a_framePhase N' wc' G' adc' K' F' S' T' W' B' P' u' → post 1 u') → wpX_readChar post u (nI c)) ∧
  (∀ (v : SY) (post : Int32 → SY → Prop) (k : Nat), rp_Y g_lim g_tlen g_held g_root g_clen g_xn g_yn g_rn g_stat g_sp g_err b_text b_canon b_xs b_ys b_res b_cst b_fnode b_fmode b_fph b_fi b_vec b_vlen N wc G adc K F S T W B P v → (∀ v', rp_Y g_lim g_tlen g_held g_root g_clen g_xn g_yn g_rn g_stat g_sp g_err b_text b_canon b_xs b_ys b_res b_cst b_fnode b_fmode b_fph b_fi b_vec b_vlen N' wc' G' adc' K' F' S' T' W' B' P' v' → yp_W post k adc' (i + 1) v') → yp_W post (k + 1) adc i v)
/-- the reference's loop comes to the character -/
theorem yp_ent {g_lim g_tlen g_held g_root g_clen g_xn g_yn g_rn g_stat g_nn g_sp g_err : Int32} {b_text b_canon b_xs b_ys b_res b_kind b_nch b_na b_nb b_nc b_ws b_fb b_pend b_cst b_fnode b_fmode b_fph b_fi b_vec b_vlen : Nat → Int32} {post : Int32 → SY → Prop} {k adc i c t wc G : Nat} {B : Nat → Nat} (hi : i < t) (ht : t ≤ 32) (htl : g_tlen = nI t) (htx : b_text i = nI c) (hG : G < 40) (hwc : wc < 2 ^ 31) (hBG : B G < 2 ^ 31) (hfb : b_fb G = nI (B G))
    (h : ∀ z0, (z0 = 0 → wc ≠ B G) → (¬ z0 = 0 → wc = B G) → wY_parse_84 post (wY_parse_42 post k) (nI adc) (nI i) (nI c) z0 g_lim g_tlen g_held g_root g_clen g_xn g_yn g_rn g_stat g_nn (nI wc) (nI G) g_sp g_err b_text b_canon b_xs b_ys b_res b_kind b_nch b_na b_nb b_nc b_ws b_fb b_pend b_cst b_fnode b_fmode b_fph b_fi b_vec b_vlen) :
    wY_parse_42 post (k + 1) (nI adc) (nI i) g_lim g_tlen g_held g_root g_clen g_xn g_yn g_rn g_stat g_nn (nI wc) (nI G) g_sp g_err b_text b_canon b_xs b_ys b_res b_kind b_nch b_na b_nb b_nc b_ws b_fb b_pend b_cst b_fnode b_fmode b_fph b_fi b_vec b_vlen := by
  have e1 : (nI i).toNatClampNeg = i := nI_clamp (by omega)
  have e2 : (nI G).toNatClampNeg = G := nI_clamp (by omega)
  rw [htl]
  refine br_f (nI_ge (by omega) (by omega)) (br_f (nI_ge (b := 32) (by omega) (by decide)) ⟨vp_in_nI (by omega) (by omega), nm_r (e' := nI c) (by rw [e1]; exact htx) ⟨vp_in_nI hG (by omega), ?_⟩⟩)
  rw [e2, hfb, ← htl]
  exact pk_eq wc (B G) (fun z => h 1 (fun q => absurd q (by decide)) (fun _ => z)) (fun z => h 0 (fun _ => z) (fun q => absurd rfl q))
end
section
/-! the characters, one kind after the other -/
theorem yp_to {g_lim g_tlen g_held g_root g_clen g_xn g_yn g_rn g_stat g_nn g_wsp g_depth g_sp g_err : Int32} {b_text b_canon b_xs b_ys b_res b_kind b_nch b_na b_nb b_nc b_ws b_fb b_pend b_cst b_fnode b_fmode b_fph b_fi b_vec b_vlen : Nat → Int32} {Q : SY → Prop} {post : Int32 → SY → Prop} {k adc i : Nat} (h : ∀ v', Q v' → yp_W post k adc i v') (q : Q (g_lim, g_tlen, g_held, g_root, g_clen, g_xn, g_yn, g_rn, g_stat, g_nn, g_wsp, g_depth, g_sp, g_err, b_text, b_canon, b_xs, b_ys, b_res, b_kind, b_nch, b_na, b_nb, b_nc, b_ws, b_fb, b_pend, b_cst, b_fnode, b_fmode, b_fph, b_fi, b_vec, b_vlen)) : wY_parse_42 post k (nI adc) (nI i) g_lim g_tlen g_held g_root g_clen g_xn g_yn g_rn g_stat g_nn g_wsp g_depth g_sp g_err b_text b_canon b_xs b_ys b_res b_kind b_nch b_na b_nb b_nc b_ws b_fb b_pend b_cst b_fnode b_fmode b_fph b_fi b_vec b_vlen := h _ q
theorem rp_Xi {f_vectorLimit f_textCount f_trainHeld f_rootNode f_canonCount f_postponedCount f_frameCount f_failure f_lastStatus : Int32} {a_text a_canon a_postponed a_cells a_lengths a_frameNode a_frameDyadic a_frameX a_frameY a_framePhase : Nat → Int32} {N wc G adc : Nat} {K F S T W B : Nat → Nat} {P : Nat → Bool} {n1 n2 n3 n4 n5 n6 : Int32} {kx fx sx tx ws f o : Nat → Int32} (e1 : n1 = nI N) (e2 : n2 = nI wc) (e3 : n3 = nI (B G)) (e4 : n4 = xm_b (P G)) (e5 : n5 = nI G) (e6 : n6 = nI adc)
    (hT : tr_X N K F S T kx fx sx tx) (hw : ∀ j, j < wc → ws j = nI (W j)) (hg : ∀ j, j < G → f j = nI (B j) ∧ o j = xm_b (P j)) : rp_X f_vectorLimit f_textCount f_trainHeld f_rootNode f_canonCount f_postponedCount f_frameCount f_failure f_lastStatus a_text a_canon a_postponed a_cells a_lengths a_frameNode a_frameDyadic a_frameX a_frameY a_framePhase N wc G adc K F S T W B P (f_vectorLimit, f_textCount, f_trainHeld, f_rootNode, n1, n2, n3, n4, n5, n6, f_canonCount, f_postponedCount, f_frameCount, f_failure, f_lastStatus, a_text, kx, fx, sx, tx, ws, f, o, a_canon, a_postponed, a_cells, a_lengths, a_frameNode, a_frameDyadic, a_frameX, a_frameY, a_framePhase) := by
  subst e1 e2 e3 e4 e5 e6
  exact ⟨_, _, _, _, _, _, _, rfl, hT, hw, hg⟩
theorem rp_Yi {g_lim g_tlen g_held g_root g_clen g_xn g_yn g_rn g_stat g_sp g_err : Int32} {b_text b_canon b_xs b_ys b_res b_cst b_fnode b_fmode b_fph b_fi b_vec b_vlen : Nat → Int32} {N wc G adc : Nat} {K F S T W B : Nat → Nat} {P : Nat → Bool} {n1 n2 n3 : Int32} {ky ch na nb nc ws f pd : Nat → Int32} (e1 : n1 = nI N) (e2 : n2 = nI wc) (e3 : n3 = nI G)
    (hT : tr_Y N K F S T ky ch na nb nc) (hw : ∀ j, j < wc → ws j = nI (W j)) (hg : ∀ j, j ≤ G → f j = nI (B j) ∧ pd j = xm_b (P j)) : rp_Y g_lim g_tlen g_held g_root g_clen g_xn g_yn g_rn g_stat g_sp g_err b_text b_canon b_xs b_ys b_res b_cst b_fnode b_fmode b_fph b_fi b_vec b_vlen N wc G adc K F S T W B P (g_lim, g_tlen, g_held, g_root, g_clen, g_xn, g_yn, g_rn, g_stat, n1, n2, n3, g_sp, g_err, b_text, b_canon, b_xs, b_ys, b_res, ky, ch, na, nb, nc, ws, f, pd, b_cst, b_fnode, b_fmode, b_fph, b_fi, b_vec, b_vlen) := by
  subst e1 e2 e3
  exact ⟨_, _, _, _, _, _, _, _, rfl, hT, hw, hg⟩
theorem rp_QXi {f_vectorLimit f_textCount f_trainHeld f_rootNode f_canonCount f_postponedCount f_frameCount f_failure f_lastStatus : Int32} {a_text a_canon a_postponed a_cells a_lengths a_frameNode a_frameDyadic a_frameX a_frameY a_framePhase : Nat → Int32} {n1 n2 n3 n4 n5 n6 : Int32} {kx fx sx tx ws f o : Nat → Int32} : rp_QX f_vectorLimit f_textCount f_trainHeld f_rootNode f_canonCount f_postponedCount f_frameCount f_failure f_lastStatus a_text a_canon a_postponed a_cells a_lengths a_frameNode a_frameDyadic a_frameX a_frameY a_framePhase (f_vectorLimit, f_textCount, f_trainHeld, f_rootNode, n1, n2, n3, n4, n5, n6, f_canonCount, f_postponedCount, f_frameCount, f_failure, f_lastStatus, a_text, kx, fx, sx, tx, ws, f, o, a_canon, a_postponed, a_cells, a_lengths, a_frameNode, a_frameDyadic, a_frameX, a_frameY, a_framePhase) := ⟨_, _, _, _, _, _, _, _, _, _, _, _, _, rfl⟩
theorem rp_QYi {g_lim g_tlen g_held g_root g_clen g_xn g_yn g_rn g_stat g_sp g_err : Int32} {b_text b_canon b_xs b_ys b_res b_cst b_fnode b_fmode b_fph b_fi b_vec b_vlen : Nat → Int32} {n1 n2 n3 : Int32} {ky ch na nb nc ws f pd : Nat → Int32} : rp_QY g_lim g_tlen g_held g_root g_clen g_xn g_yn g_rn g_stat g_sp g_err b_text b_canon b_xs b_ys b_res b_cst b_fnode b_fmode b_fph b_fi b_vec b_vlen (g_lim, g_tlen, g_held, g_root, g_clen, g_xn, g_yn, g_rn, g_stat, n1, n2, n3, g_sp, g_err, b_text, b_canon, b_xs, b_ys, b_res, ky, ch, na, nb, nc, ws, f, pd, b_cst, b_fnode, b_fmode, b_fph, b_fi, b_vec, b_vlen) := ⟨_, _, _, _, _, _, _, _, _, _, _, rfl⟩
theorem rc_open {f_vectorLimit f_textCount f_trainHeld f_rootNode f_canonCount f_postponedCount f_frameCount f_failure f_lastStatus : Int32} {a_text a_canon a_postponed a_cells a_lengths a_frameNode a_frameDyadic a_frameX a_frameY a_framePhase : Nat → Int32} {g_lim g_tlen g_held g_root g_clen g_xn g_yn g_rn g_stat g_sp g_err : Int32} {b_text b_canon b_xs b_ys b_res b_cst b_fnode b_fmode b_fph b_fi b_vec b_vlen : Nat → Int32} {i c t : Nat} {N wc G adc : Nat} {K F S T C A D W B : Nat → Nat} {P : Nat → Bool} (hS : rd_S i N wc G adc K F S T C A D W B P) (hi : i < t) (ht : t ≤ 32) (htl : g_tlen = nI t) (htx : b_text i = nI c) (hc : c = 40) : rp_on f_vectorLimit f_textCount f_trainHeld f_rootNode f_canonCount f_postponedCount f_frameCount f_failure f_lastStatus a_text a_canon a_postponed a_cells a_lengths a_frameNode a_frameDyadic a_frameX a_frameY a_framePhase g_lim g_tlen g_held g_root g_clen g_xn g_yn g_rn g_stat g_sp g_err b_text b_canon b_xs b_ys b_res b_cst b_fnode b_fmode b_fph b_fi b_vec b_vlen i c N wc G adc K F S T W B P N wc (G + 1) adc K F S T W (tr_u B (G + 1) wc) (rd_pu P (G + 1) false) := by
  subst hc
  obtain ⟨-, ⟨g1, g2, g3⟩, a1, a2, a3⟩ := hS
  refine ⟨fun u post hu h => ?_, fun v post k hv h => ?_⟩
  · obtain ⟨kx, fx, sx, tx, ws, f, o, rfl, hT, hw, hg⟩ := hu
    have e1 : (nI G).toNatClampNeg = G := nI_clamp (by omega)
    have i1 : vp_in (nI G) 32 := vp_in_nI (by omega) (by omega)
    refine br_t rfl ⟨i1, nm_r (e' := upd f G (nI (B G))) (by rw [e1]) ⟨i1, nm_r (e' := upd o G (xm_b (P G))) (by rw [e1, ax_nb]) (nm_r (nI_1 G) (h _ ?_))⟩⟩
    refine rp_Xi rfl rfl (by rw [tr_us]) (by rw [rd_ps]; rfl) rfl rfl hT hw fun j hj => ?_
    rw [tr_un (by omega), rd_pn (by omega)]
    by_cases z : j = G
    · subst z; exact ⟨pk_us, pk_us⟩
    · rw [pk_un z, pk_un z]; exact hg j (by omega)
  · obtain ⟨ky, ch, na, nb, nc, ws, f, pd, rfl, hT, hw, hg⟩ := hv
    refine yp_ent hi ht htl htx (by omega) (by omega) (by omega) (hg G (Nat.le_refl _)).1 fun z0 z1 z2 => ?_
    have e1 : (nI (G + 1)).toNatClampNeg = G + 1 := nI_clamp (by omega)
    have i1 : vp_in (nI (G + 1)) 40 := vp_in_nI (by omega) (by omega)
    refine yv_84 (by decide) (fun q => by unfold pr_lf pr_vb pr_dig at q; omega) (fun _ => ?_)
    unfold wY_parse_126
    refine br_t rfl (nm_r (nI_1 G) ⟨i1, nm_r (e' := upd f (G + 1) (nI wc)) (by rw [e1]) ⟨i1, nm_r (e' := upd pd (G + 1) 0) (by rw [e1, ax_nb0]) (nm_r (nI_1 i) (yp_to h ?_))⟩⟩)
    refine rp_Yi rfl rfl rfl hT hw fun j hj => ?_
    by_cases z : j = G + 1
    · subst z; rw [tr_us, rd_ps]; exact ⟨pk_us, pk_us⟩
    · rw [tr_un z, rd_pn z, pk_un z, pk_un z]; exact hg j (by omega)
theorem rc_leaf1 {f_vectorLimit f_textCount f_trainHeld f_rootNode f_canonCount f_postponedCount f_frameCount f_failure f_lastStatus : Int32} {a_text a_canon a_postponed a_cells a_lengths a_frameNode a_frameDyadic a_frameX a_frameY a_framePhase : Nat → Int32} {g_lim g_tlen g_held g_root g_clen g_xn g_yn g_rn g_stat g_sp g_err : Int32} {b_text b_canon b_xs b_ys b_res b_cst b_fnode b_fmode b_fph b_fi b_vec b_vlen : Nat → Int32} {i c t : Nat} {N wc G adc : Nat} {K F S T C A D W B : Nat → Nat} {P : Nat → Bool} (hS : rd_S i N wc G adc K F S T C A D W B P) (hi : i < t) (ht : t ≤ 32) (htl : g_tlen = nI t) (htx : b_text i = nI c) (hc : pr_lf c) (hp : P G = false) : rp_on f_vectorLimit f_textCount f_trainHeld f_rootNode f_canonCount f_postponedCount f_frameCount f_failure f_lastStatus a_text a_canon a_postponed a_cells a_lengths a_frameNode a_frameDyadic a_frameX a_frameY a_framePhase g_lim g_tlen g_held g_root g_clen g_xn g_yn g_rn g_stat g_sp g_err b_text b_canon b_xs b_ys b_res b_cst b_fnode b_fmode b_fph b_fi b_vec b_vlen i c N wc G adc K F S T W B P (N + 1) (wc + 1) G adc (tr_u K N c) (tr_u F N 0) (tr_u S N 0) (tr_u T N 0) (tr_u W wc N) B P := by
  obtain ⟨⟨w1, w2, w3, w4, w5⟩, ⟨g1, g2, g3⟩, a1, a2, a3⟩ := hS
  have hc' := hc
  unfold pr_lf pr_vb pr_dig at hc'
  have hww : ∀ (ws : Nat → Int32), (∀ j, j < wc → ws j = nI (W j)) → ∀ j, j < wc + 1 → upd ws wc (nI N) j = nI (tr_u W wc N j) := by
    intro ws hw j hj
    by_cases z : j = wc
    · subst z; rw [tr_us]; exact pk_us
    · rw [tr_un z, pk_un z]; exact hw j (by omega)
  refine ⟨fun u post hu h => ?_, fun v post k hv h => ?_⟩
  · obtain ⟨kx, fx, sx, tx, ws, f, o, rfl, hT, hw, hg⟩ := hu
    rw [hp]
    refine pk_eq c 40 (fun z => by omega) (fun _ => xv_vd (by omega) (fun _ => br_f (by decide) ?_) (fun q => absurd hc q)) rfl rfl (by omega)
    refine xn_node (a := 0) (b := 0) (c := 0) (by omega) ?_
    refine xn_plain (p := N) (by omega) (h _ ?_)
    exact rp_Xi rfl rfl rfl (by rw [hp]; rfl) rfl rfl (tr_Xu hT c 0 0 0) (hww ws hw) hg
  · obtain ⟨ky, ch, na, nb, nc, ws, f, pd, rfl, hT, hw, hg⟩ := hv
    refine yp_ent hi ht htl htx (by omega) (by omega) (by omega) (hg G (Nat.le_refl _)).1 fun z0 z1 z2 => ?_
    refine yv_84 (by omega) (fun _ => ?_) (fun q => absurd hc q)
    unfold wY_parse_106
    refine yn_node (k := 0) (a := 0) (b := 0) (c := 0) (by omega) (by omega) ?_
    refine yn_plain (by omega) (by omega) (by rw [(hg G (Nat.le_refl _)).2, hp]; rfl) (nm_r (nI_1 i) (yp_to h ?_))
    have t1 := tr_Yu hT c 0 0 0
    rw [show tr_ky c = 0 by unfold tr_ky; rw [if_neg (by omega), if_neg (by omega), if_neg (by omega), if_neg (by omega)], show tr_cy c = c by unfold tr_cy; rw [if_neg (by omega)]] at t1
    exact rp_Yi rfl rfl rfl t1 (hww ws hw) hg
theorem rc_leaf2 {f_vectorLimit f_textCount f_trainHeld f_rootNode f_canonCount f_postponedCount f_frameCount f_failure f_lastStatus : Int32} {a_text a_canon a_postponed a_cells a_lengths a_frameNode a_frameDyadic a_frameX a_frameY a_framePhase : Nat → Int32} {g_lim g_tlen g_held g_root g_clen g_xn g_yn g_rn g_stat g_sp g_err : Int32} {b_text b_canon b_xs b_ys b_res b_cst b_fnode b_fmode b_fph b_fi b_vec b_vlen : Nat → Int32} {m : Nat} {i c t : Nat} {N wc G adc : Nat} {K F S T C A D W B : Nat → Nat} {P : Nat → Bool} (hS : rd_S i N wc G adc K F S T C A D W B P) (hi : i < t) (ht : t ≤ 32) (htl : g_tlen = nI t) (htx : b_text i = nI c) (hm : wc = m + 1) (hc : pr_lf c) (hp : P G = true) : rp_on f_vectorLimit f_textCount f_trainHeld f_rootNode f_canonCount f_postponedCount f_frameCount f_failure f_lastStatus a_text a_canon a_postponed a_cells a_lengths a_frameNode a_frameDyadic a_frameX a_frameY a_framePhase g_lim g_tlen g_held g_root g_clen g_xn g_yn g_rn g_stat g_sp g_err b_text b_canon b_xs b_ys b_res b_cst b_fnode b_fmode b_fph b_fi b_vec b_vlen i c N wc G adc K F S T W B P (N + 2) (m + 1) G adc (tr_u (tr_u K N c) (N + 1) 64) (tr_u (tr_u F N 0) (N + 1) (W m)) (tr_u (tr_u S N 0) (N + 1) N) (tr_u (tr_u T N 0) (N + 1) 0) (tr_u W m (N + 1)) B (rd_pu P G false) := by
  subst hm
  obtain ⟨⟨w1, w2, w3, w4, w5⟩, ⟨g1, g2, g3⟩, a1, a2, a3⟩ := hS
  have hc' := hc
  unfold pr_lf pr_vb pr_dig at hc'
  have hww : ∀ (ws : Nat → Int32), (∀ j, j < m + 1 → ws j = nI (W j)) → ∀ j, j < m + 1 → upd ws m (nI (N + 1)) j = nI (tr_u W m (N + 1) j) := by
    intro ws hw j hj
    by_cases z : j = m
    · subst z; rw [tr_us]; exact pk_us
    · rw [tr_un z, pk_un z]; exact hw j (by omega)
  refine ⟨fun u post hu h => ?_, fun v post k hv h => ?_⟩
  · obtain ⟨kx, fx, sx, tx, ws, f, o, rfl, hT, hw, hg⟩ := hu
    rw [hp]
    refine pk_eq c 40 (fun z => by omega) (fun _ => xv_vd (by omega) (fun _ => br_f (by decide) ?_) (fun q => absurd hc q)) rfl rfl (by omega)
    refine xn_node (a := 0) (b := 0) (c := 0) (by omega) ?_
    refine xn_atop (N := N + 1) (p := N) (by omega) (by omega) (hw m (by omega)) (h _ ?_)
    refine rp_Xi rfl rfl rfl (by rw [rd_ps]; rfl) rfl rfl (tr_Xu (tr_Xu hT c 0 0 0) 64 (W m) N 0) (hww ws hw) fun j hj => ?_
    rw [rd_pn (by omega)]; exact hg j hj
  · obtain ⟨ky, ch, na, nb, nc, ws, f, pd, rfl, hT, hw, hg⟩ := hv
    refine yp_ent hi ht htl htx (by omega) (by omega) (by omega) (hg G (Nat.le_refl _)).1 fun z0 z1 z2 => ?_
    refine yv_84 (by omega) (fun _ => ?_) (fun q => absurd hc q)
    unfold wY_parse_106
    refine yn_node (k := 0) (a := 0) (b := 0) (c := 0) (by omega) (by omega) ?_
    refine yn_atop (N := N + 1) (p := N) (by omega) (by omega) (by omega) (by rw [(hg G (Nat.le_refl _)).2, hp]; rfl) (hw m (by omega)) (nm_r (nI_1 i) (yp_to h ?_))
    have t1 := tr_Yu hT c 0 0 0
    rw [show tr_ky c = 0 by unfold tr_ky; rw [if_neg (by omega), if_neg (by omega), if_neg (by omega), if_neg (by omega)], show tr_cy c = c by unfold tr_cy; rw [if_neg (by omega)]] at t1
    refine rp_Yi rfl rfl rfl (tr_Yu t1 64 (W m) N 0) (hww ws hw) fun j hj => ?_
    by_cases z : j = G
    · subst z; rw [rd_ps]; exact ⟨(hg j hj).1, pk_us⟩
    · rw [rd_pn z, pk_un z]; exact hg j hj
theorem rc_whole {wc b : Nat} {p : Bool} {z0 : Int32} (z1 : z0 = 0 → wc ≠ b) (z2 : ¬ z0 = 0 → wc = b) (hb : b < wc) : z0 = 0 := by
  by_cases q : z0 = 0
  · exact q
  · exact absurd (z2 q) (by omega)
theorem rc_wait {f_vectorLimit f_textCount f_trainHeld f_rootNode f_canonCount f_postponedCount f_frameCount f_failure f_lastStatus : Int32} {a_text a_canon a_postponed a_cells a_lengths a_frameNode a_frameDyadic a_frameX a_frameY a_framePhase : Nat → Int32} {g_lim g_tlen g_held g_root g_clen g_xn g_yn g_rn g_stat g_sp g_err : Int32} {b_text b_canon b_xs b_ys b_res b_cst b_fnode b_fmode b_fph b_fi b_vec b_vlen : Nat → Int32} {i c t : Nat} {N wc G adc : Nat} {K F S T C A D W B : Nat → Nat} {P : Nat → Bool} (hS : rd_S i N wc G adc K F S T C A D W B P) (hi : i < t) (ht : t ≤ 32) (htl : g_tlen = nI t) (htx : b_text i = nI c) (hc : c = 64) (hb : B G < wc) (hp : P G = false) : rp_on f_vectorLimit f_textCount f_trainHeld f_rootNode f_canonCount f_postponedCount f_frameCount f_failure f_lastStatus a_text a_canon a_postponed a_cells a_lengths a_frameNode a_frameDyadic a_frameX a_frameY a_framePhase g_lim g_tlen g_held g_root g_clen g_xn g_yn g_rn g_stat g_sp g_err b_text b_canon b_xs b_ys b_res b_cst b_fnode b_fmode b_fph b_fi b_vec b_vlen i c N wc G adc K F S T W B P N wc G adc K F S T W B (rd_pu P G true) := by
  subst hc
  obtain ⟨⟨w1, w2, w3, w4, w5⟩, ⟨g1, g2, g3⟩, a1, a2, a3⟩ := hS
  refine ⟨fun u post hu h => ?_, fun v post k hv h => ?_⟩
  · obtain ⟨kx, fx, sx, tx, ws, f, o, rfl, hT, hw, hg⟩ := hu
    refine br_f (by decide) (xv_vd (k := 64) (by decide) (fun q => by unfold pr_lf pr_vb pr_dig at q; omega) (fun _ => br_t rfl ?_))
    refine xv_ww (by omega) (by omega) (fun _ _ => br_f (by decide) (br_f (by decide) (br_t rfl (h _ ?_)))) (fun q => absurd ⟨hb, hp⟩ q)
    refine rp_Xi rfl rfl rfl (by rw [rd_ps]; rfl) rfl rfl hT hw fun j hj => ?_
    rw [rd_pn (by omega)]; exact hg j hj
  · obtain ⟨ky, ch, na, nb, nc, ws, f, pd, rfl, hT, hw, hg⟩ := hv
    refine yp_ent hi ht htl htx (by omega) (by omega) (by omega) (hg G (Nat.le_refl _)).1 fun z0 z1 z2 => ?_
    have e1 : (nI G).toNatClampNeg = G := nI_clamp (by omega)
    have i1 : vp_in (nI G) 40 := vp_in_nI (by omega) (by omega)
    have z := rc_whole (p := true) z1 z2 hb
    subst z
    refine yv_84 (by decide) (fun q => by unfold pr_lf pr_vb pr_dig at q; omega) (fun _ => ?_)
    unfold wY_parse_126
    refine br_f (by decide) (br_f (by decide) (br_t rfl (br_t rfl ⟨i1, br_t (by rw [e1, (hg G (Nat.le_refl _)).2, hp]; rfl) ⟨i1, nm_r (e' := upd pd G 1) (by rw [e1, ax_nb1]) (nm_r (nI_1 i) (yp_to h ?_))⟩⟩)))
    refine rp_Yi rfl rfl rfl hT hw fun j hj => ?_
    by_cases z : j = G
    · subst z; rw [rd_ps]; exact ⟨(hg j hj).1, pk_us⟩
    · rw [rd_pn z, pk_un z]; exact hg j hj
theorem rc_adv {f_vectorLimit f_textCount f_trainHeld f_rootNode f_canonCount f_postponedCount f_frameCount f_failure f_lastStatus : Int32} {a_text a_canon a_postponed a_cells a_lengths a_frameNode a_frameDyadic a_frameX a_frameY a_framePhase : Nat → Int32} {g_lim g_tlen g_held g_root g_clen g_xn g_yn g_rn g_stat g_sp g_err : Int32} {b_text b_canon b_xs b_ys b_res b_cst b_fnode b_fmode b_fph b_fi b_vec b_vlen : Nat → Int32} {m : Nat} {i c t : Nat} {N wc G adc : Nat} {K F S T C A D W B : Nat → Nat} {P : Nat → Bool} (hS : rd_S i N wc G adc K F S T C A D W B P) (hi : i < t) (ht : t ≤ 32) (htl : g_tlen = nI t) (htx : b_text i = nI c) (hm : wc = m + 1) (hc : pr_av c) (hb : B G < wc) (hp : P G = false) : rp_on f_vectorLimit f_textCount f_trainHeld f_rootNode f_canonCount f_postponedCount f_frameCount f_failure f_lastStatus a_text a_canon a_postponed a_cells a_lengths a_frameNode a_frameDyadic a_frameX a_frameY a_framePhase g_lim g_tlen g_held g_root g_clen g_xn g_yn g_rn g_stat g_sp g_err b_text b_canon b_xs b_ys b_res b_cst b_fnode b_fmode b_fph b_fi b_vec b_vlen i c N wc G adc K F S T W B P (N + 1) (m + 1) G (adc + 1) (tr_u K N c) (tr_u F N (W m)) (tr_u S N 0) (tr_u T N 0) (tr_u W m N) B P := by
  subst hm
  obtain ⟨⟨w1, w2, w3, w4, w5⟩, ⟨g1, g2, g3⟩, a1, a2, a3⟩ := hS
  have hc' := hc
  unfold pr_av at hc'
  have em : (nI m).toNatClampNeg = m := nI_clamp (by omega)
  have hww : ∀ (ws : Nat → Int32), (∀ j, j < m + 1 → ws j = nI (W j)) → ∀ j, j < m + 1 → upd ws m (nI N) j = nI (tr_u W m N j) := by
    intro ws hw j hj
    by_cases z : j = m
    · subst z; rw [tr_us]; exact pk_us
    · rw [tr_un z, pk_un z]; exact hw j (by omega)
  have nlf : ¬ pr_lf c := by unfold pr_lf pr_vb pr_dig; omega
  refine ⟨fun u post hu h => ?_, fun v post k hv h => ?_⟩
  · obtain ⟨kx, fx, sx, tx, ws, f, o, rfl, hT, hw, hg⟩ := hu
    refine pk_eq c 40 (fun z => by omega) (fun _ => xv_vd (by omega) (fun q => absurd q nlf) (fun _ => br_t rfl ?_)) rfl rfl (by omega)
    refine xv_ww (by omega) (by omega) (fun _ _ => br_f (by decide) (pk_eq c 41 (fun z => by omega) (fun _ => pk_eq c 64 (fun z => by omega) (fun _ => nm_r (nI_1 adc) ?_) rfl rfl (by omega)) rfl rfl (by omega))) (fun q => absurd ⟨hb, hp⟩ q)
    rw [nI_pred, em, hw m (by omega)]
    refine ⟨vp_in_nI (by omega) (by omega), ?_⟩
    refine xn_node (b := 0) (c := 0) (by omega) ⟨vp_in_nI (by omega) (by omega), nm_e (h _ ?_)⟩
    exact rp_Xi rfl rfl rfl rfl rfl rfl (tr_Xu hT c (W m) 0 0) (hww ws hw) hg
  · obtain ⟨ky, ch, na, nb, nc, ws, f, pd, rfl, hT, hw, hg⟩ := hv
    refine yp_ent hi ht htl htx (by omega) (by omega) (by omega) (hg G (Nat.le_refl _)).1 fun z0 z1 z2 => ?_
    have e1 : (nI G).toNatClampNeg = G := nI_clamp (by omega)
    have i1 : vp_in (nI G) 40 := vp_in_nI (by omega) (by omega)
    have z := rc_whole (p := true) z1 z2 hb
    subst z
    refine yv_84 (by omega) (fun q => absurd q nlf) (fun _ => ?_)
    unfold wY_parse_126
    refine pk_eq c 40 (fun z => by omega) (fun _ => pk_eq c 41 (fun z => by omega) (fun _ => pk_eq c 64 (fun z => by omega) (fun _ => br_t rfl ⟨i1, br_t (by rw [e1, (hg G (Nat.le_refl _)).2, hp]; rfl) (nm_r (nI_1 adc) ?_)⟩) rfl rfl (by omega)) rfl rfl (by omega)) rfl rfl (by omega)
    rw [nI_pred, em]
    refine ⟨vp_in_nI (by omega) (by omega), nm_r (hw m (by omega)) ?_⟩
    refine yn_node (k := 1) (b := 0) (c := 0) (by omega) (by omega) ⟨vp_in_nI (by omega) (by omega), nm_e (nm_r (nI_1 i) (yp_to h ?_))⟩
    have t1 := tr_Yu hT c (W m) 0 0
    rw [show tr_ky c = 1 by unfold tr_ky; rw [if_neg (by omega), if_neg (by omega), if_neg (by omega), if_pos hc'], show tr_cy c = c by unfold tr_cy; rw [if_neg (by omega)]] at t1
    exact rp_Yi rfl rfl rfl t1 (hww ws hw) hg
end
section
/-! the characters that fail or close -/
theorem rc_bad {f_vectorLimit f_textCount f_trainHeld f_rootNode f_canonCount f_postponedCount f_frameCount f_failure f_lastStatus : Int32} {a_text a_canon a_postponed a_cells a_lengths a_frameNode a_frameDyadic a_frameX a_frameY a_framePhase : Nat → Int32} {g_lim g_tlen g_held g_root g_clen g_xn g_yn g_rn g_stat g_sp g_err : Int32} {b_text b_canon b_xs b_ys b_res b_cst b_fnode b_fmode b_fph b_fi b_vec b_vlen : Nat → Int32} {i c t : Nat} {N wc G adc : Nat} {K F S T C A D W B : Nat → Nat} {P : Nat → Bool} (hS : rd_S i N wc G adc K F S T C A D W B P) (hi : i < t) (ht : t ≤ 32) (htl : g_tlen = nI t) (htx : b_text i = nI c) (hc : c < 128) (hn : ¬ pr_lf c) (h40 : c ≠ 40) (hw0 : ¬ (B G < wc ∧ P G = false)) : rp_fail f_vectorLimit f_textCount f_trainHeld f_rootNode f_canonCount f_postponedCount f_frameCount f_failure f_lastStatus a_text a_canon a_postponed a_cells a_lengths a_frameNode a_frameDyadic a_frameX a_frameY a_framePhase g_lim g_tlen g_held g_root g_clen g_xn g_yn g_rn g_stat g_sp g_err b_text b_canon b_xs b_ys b_res b_cst b_fnode b_fmode b_fph b_fi b_vec b_vlen i c N wc G adc K F S T W B P := by
  obtain ⟨⟨w1, w2, w3, w4, w5⟩, ⟨g1, g2, g3⟩, a1, a2, a3⟩ := hS
  refine ⟨fun u post hu h => ?_, fun v post k hv h => ?_⟩
  · obtain ⟨kx, fx, sx, tx, ws, f, o, rfl, hT, hw, hg⟩ := hu
    refine pk_eq c 40 (fun z => absurd z h40) (fun _ => xv_vd hc (fun q => absurd q hn) (fun _ => br_t rfl ?_)) rfl rfl (by omega)
    exact xv_ww (by omega) (by omega) (fun q1 q2 => absurd ⟨q1, q2⟩ hw0) (fun _ => br_t rfl (h _ rp_QXi))
  · obtain ⟨ky, ch, na, nb, nc, ws, f, pd, rfl, hT, hw, hg⟩ := hv
    refine yp_ent hi ht htl htx (by omega) (by omega) (by omega) (hg G (Nat.le_refl _)).1 fun z0 z1 z2 => ?_
    have e1 : (nI G).toNatClampNeg = G := nI_clamp (by omega)
    have i1 : vp_in (nI G) 40 := vp_in_nI (by omega) (by omega)
    have hx : z0 = 0 → ¬ pd (nI G).toNatClampNeg = 0 := by
      intro q
      have hb : B G < wc := by have := z1 q; omega
      rw [e1, (hg G (Nat.le_refl _)).2]
      cases hp : P G with
      | false => exact absurd ⟨hb, hp⟩ hw0
      | true => decide
    refine yv_84 hc (fun q => absurd q hn) (fun _ => ?_)
    unfold wY_parse_126
    refine pk_eq c 40 (fun z => absurd z h40) (fun _ => br_c (fun _ => br_c (fun _ => h _ rp_QYi) (fun _ => br_c (fun q => ⟨i1, br_f (hx q) (h _ rp_QYi)⟩) (fun _ => h _ rp_QYi))) (fun _ => br_c (fun _ => br_c (fun q => ⟨i1, br_f (hx q) (h _ rp_QYi)⟩) (fun _ => h _ rp_QYi)) (fun _ => br_c (fun q => ⟨i1, br_f (hx q) (h _ rp_QYi)⟩) (fun _ => h _ rp_QYi)))) rfl rfl (by omega)
theorem rc_bad0 {f_vectorLimit f_textCount f_trainHeld f_rootNode f_canonCount f_postponedCount f_frameCount f_failure f_lastStatus : Int32} {a_text a_canon a_postponed a_cells a_lengths a_frameNode a_frameDyadic a_frameX a_frameY a_framePhase : Nat → Int32} {g_lim g_tlen g_held g_root g_clen g_xn g_yn g_rn g_stat g_sp g_err : Int32} {b_text b_canon b_xs b_ys b_res b_cst b_fnode b_fmode b_fph b_fi b_vec b_vlen : Nat → Int32} {i c t : Nat} {N wc G adc : Nat} {K F S T C A D W B : Nat → Nat} {P : Nat → Bool} (hS : rd_S i N wc G adc K F S T C A D W B P) (hi : i < t) (ht : t ≤ 32) (htl : g_tlen = nI t) (htx : b_text i = nI c) (hc : c = 41) (hG0 : G = 0) : rp_fail f_vectorLimit f_textCount f_trainHeld f_rootNode f_canonCount f_postponedCount f_frameCount f_failure f_lastStatus a_text a_canon a_postponed a_cells a_lengths a_frameNode a_frameDyadic a_frameX a_frameY a_framePhase g_lim g_tlen g_held g_root g_clen g_xn g_yn g_rn g_stat g_sp g_err b_text b_canon b_xs b_ys b_res b_cst b_fnode b_fmode b_fph b_fi b_vec b_vlen i c N wc G adc K F S T W B P := by
  subst hc
  subst hG0
  obtain ⟨⟨w1, w2, w3, w4, w5⟩, ⟨g1, g2, g3⟩, a1, a2, a3⟩ := hS
  have nl : ¬ pr_lf 41 := by unfold pr_lf pr_vb pr_dig; omega
  refine ⟨fun u post hu h => ?_, fun v post k hv h => ?_⟩
  · obtain ⟨kx, fx, sx, tx, ws, f, o, rfl, hT, hw, hg⟩ := hu
    refine br_f (by decide) (xv_vd (k := 41) (by decide) (fun q => absurd q nl) (fun _ => br_t rfl ?_))
    refine xv_ww (by omega) (by omega) (fun _ _ => br_f (by decide) (br_t rfl ?_)) (fun _ => br_t rfl (h _ rp_QXi))
    exact br_t rfl ⟨rfl, h _ rp_QXi⟩
  · obtain ⟨ky, ch, na, nb, nc, ws, f, pd, rfl, hT, hw, hg⟩ := hv
    refine yp_ent (G := 0) hi ht htl htx (by omega) (by omega) (by omega) (hg 0 (Nat.le_refl _)).1 fun z0 z1 z2 => ?_
    refine yv_84 (by decide) (fun q => absurd q nl) (fun _ => ?_)
    unfold wY_parse_126
    exact br_f (by decide) (br_t rfl (br_t rfl (h _ rp_QYi)))
theorem rc_cl {f_vectorLimit f_textCount f_trainHeld f_rootNode f_canonCount f_postponedCount f_frameCount f_failure f_lastStatus : Int32} {a_text a_canon a_postponed a_cells a_lengths a_frameNode a_frameDyadic a_frameX a_frameY a_framePhase : Nat → Int32} {g_lim g_tlen g_held g_root g_clen g_xn g_yn g_rn g_stat g_sp g_err : Int32} {b_text b_canon b_xs b_ys b_res b_cst b_fnode b_fmode b_fph b_fi b_vec b_vlen : Nat → Int32} {i t m lo N' t' G0 : Nat} {N wc G adc : Nat} {K F S T C A D W B : Nat → Nat} {P : Nat → Bool} {K' F' S' T' : Nat → Nat} (hG0 : G = G0 + 1) (hS : rd_S i N wc G adc K F S T C A D W B P) (hi : i < t) (ht : t ≤ 32) (htl : g_tlen = nI t) (htx : b_text i = nI 41) (hm : wc = m + 1) (hlo : lo = B G) (hb : B G < wc) (hp : P G = false)
    (hX : (∀ {f_vectorLimit f_textCount f_trainHeld f_rootNode f_groupFirst f_atopWaiting f_groupCount f_adverbCount f_canonCount f_postponedCount f_frameCount f_failure f_lastStatus : Int32} {a_text a_nodeKind a_nodeFirst a_nodeSecond a_nodeThird a_words a_outerFirst a_outerAtop a_canon a_postponed a_cells a_lengths a_frameNode a_frameDyadic a_frameX a_frameY a_framePhase : Nat → Int32} (post : Int32 → SX → Prop), tr_X N K F S T a_nodeKind a_nodeFirst a_nodeSecond a_nodeThird → (∀ j, j < m + 1 → a_words j = nI (W j)) → (∀ kx' fx' sx' tx', tr_X N' K' F' S' T' kx' fx' sx' tx' → post (nI t') (f_vectorLimit, f_textCount, f_trainHeld, f_rootNode, nI N', nI (m + 1), f_groupFirst, f_atopWaiting, f_groupCount, f_adverbCount, f_canonCount, f_postponedCount, f_frameCount, f_failure, f_lastStatus, a_text, kx', fx', sx', tx', a_words, a_outerFirst, a_outerAtop, a_canon, a_postponed, a_cells, a_lengths, a_frameNode, a_frameDyadic, a_frameX, a_frameY, a_framePhase)) → wpX_makeTrain post (f_vectorLimit, f_textCount, f_trainHeld, f_rootNode, nI N, nI (m + 1), f_groupFirst, f_atopWaiting, f_groupCount, f_adverbCount, f_canonCount, f_postponedCount, f_frameCount, f_failure, f_lastStatus, a_text, a_nodeKind, a_nodeFirst, a_nodeSecond, a_nodeThird, a_words, a_outerFirst, a_outerAtop, a_canon, a_postponed, a_cells, a_lengths, a_frameNode, a_frameDyadic, a_frameX, a_frameY, a_framePhase) (nI lo))) (hY : (∀ {g_lim g_tlen g_held g_root g_clen g_xn g_yn g_rn g_stat g_depth g_sp g_err : Int32} {b_text b_canon b_xs b_ys b_res b_kind b_nch b_na b_nb b_nc b_ws b_fb b_pend b_cst b_fnode b_fmode b_fph b_fi b_vec b_vlen : Nat → Int32} (post : Int32 → SY → Prop), tr_Y N K F S T b_kind b_nch b_na b_nb b_nc → (∀ j, j < m + 1 → b_ws j = nI (W j)) → (∀ ky' ch' na' nb' nc', tr_Y N' K' F' S' T' ky' ch' na' nb' nc' → post (nI t') (g_lim, g_tlen, g_held, g_root, g_clen, g_xn, g_yn, g_rn, g_stat, nI N', nI (m + 1), g_depth, g_sp, g_err, b_text, b_canon, b_xs, b_ys, b_res, ky', ch', na', nb', nc', b_ws, b_fb, b_pend, b_cst, b_fnode, b_fmode, b_fph, b_fi, b_vec, b_vlen)) → wpY_buildTrain post (g_lim, g_tlen, g_held, g_root, g_clen, g_xn, g_yn, g_rn, g_stat, nI N, nI (m + 1), g_depth, g_sp, g_err, b_text, b_canon, b_xs, b_ys, b_res, b_kind, b_nch, b_na, b_nb, b_nc, b_ws, b_fb, b_pend, b_cst, b_fnode, b_fmode, b_fph, b_fi, b_vec, b_vlen) (nI lo) (nI (m + 1)))) {N2 wc2 : Nat} {K2 F2 S2 T2 W2 : Nat → Nat} {P2 : Nat → Bool}
    (hx2 : ∀ {f_vectorLimit f_textCount f_trainHeld f_rootNode f_canonCount f_postponedCount f_frameCount f_failure f_lastStatus : Int32} {a_text a_nodeKind a_nodeFirst a_nodeSecond a_nodeThird a_words a_canon a_postponed a_cells a_lengths a_frameNode a_frameDyadic a_frameX a_frameY a_framePhase : Nat → Int32} (f o : Nat → Int32) (post : SX → Prop), tr_X N' K' F' S' T' a_nodeKind a_nodeFirst a_nodeSecond a_nodeThird → (∀ j, j < lo → a_words j = nI (W j)) → (∀ j, j < G0 → f j = nI (B j) ∧ o j = xm_b (P j)) →
        (∀ u', rp_X f_vectorLimit f_textCount f_trainHeld f_rootNode f_canonCount f_postponedCount f_frameCount f_failure f_lastStatus a_text a_canon a_postponed a_cells a_lengths a_frameNode a_frameDyadic a_frameX a_frameY a_framePhase N2 wc2 G0 adc K2 F2 S2 T2 W2 B P2 u' → post u') → wpX_addPrimary post (f_vectorLimit, f_textCount, f_trainHeld, f_rootNode, nI N', nI lo, nI (B G0), xm_b (P G0), nI G0, nI adc, f_canonCount, f_postponedCount, f_frameCount, f_failure, f_lastStatus, a_text, a_nodeKind, a_nodeFirst, a_nodeSecond, a_nodeThird, a_words, f, o, a_canon, a_postponed, a_cells, a_lengths, a_frameNode, a_frameDyadic, a_frameX, a_frameY, a_framePhase) (nI t'))
    (hy2 : ∀ {g_lim g_tlen g_held g_root g_clen g_xn g_yn g_rn g_stat g_sp g_err : Int32} {b_text b_canon b_xs b_ys b_res b_kind b_nch b_na b_nb b_nc b_ws b_cst b_fnode b_fmode b_fph b_fi b_vec b_vlen : Nat → Int32} (f pd : Nat → Int32) (post : SY → Prop), tr_Y N' K' F' S' T' b_kind b_nch b_na b_nb b_nc → (∀ j, j < lo → b_ws j = nI (W j)) → (∀ j, j ≤ G0 → f j = nI (B j) ∧ pd j = xm_b (P j)) →
        (∀ v', rp_Y g_lim g_tlen g_held g_root g_clen g_xn g_yn g_rn g_stat g_sp g_err b_text b_canon b_xs b_ys b_res b_cst b_fnode b_fmode b_fph b_fi b_vec b_vlen N2 wc2 G0 adc K2 F2 S2 T2 W2 B P2 v' → post v') → wpY_deliver post (g_lim, g_tlen, g_held, g_root, g_clen, g_xn, g_yn, g_rn, g_stat, nI N', nI lo, nI G0, g_sp, g_err, b_text, b_canon, b_xs, b_ys, b_res, b_kind, b_nch, b_na, b_nb, b_nc, b_ws, f, pd, b_cst, b_fnode, b_fmode, b_fph, b_fi, b_vec, b_vlen) (nI t')) :
    rp_on f_vectorLimit f_textCount f_trainHeld f_rootNode f_canonCount f_postponedCount f_frameCount f_failure f_lastStatus a_text a_canon a_postponed a_cells a_lengths a_frameNode a_frameDyadic a_frameX a_frameY a_framePhase g_lim g_tlen g_held g_root g_clen g_xn g_yn g_rn g_stat g_sp g_err b_text b_canon b_xs b_ys b_res b_cst b_fnode b_fmode b_fph b_fi b_vec b_vlen i 41 N wc G adc K F S T W B P N2 wc2 G0 adc K2 F2 S2 T2 W2 B P2 := by
  subst hm
  subst hG0
  subst hlo
  obtain ⟨⟨w1, w2, w3, w4, w5⟩, ⟨g1, g2, g3⟩, a1, a2, a3⟩ := hS
  have nl : ¬ pr_lf 41 := by unfold pr_lf pr_vb pr_dig; omega
  refine ⟨fun u post hu h => ?_, fun v post k hv h => ?_⟩
  · obtain ⟨kx, fx, sx, tx, ws, f, o, rfl, hT, hw, hg⟩ := hu
    have e1 : (nI G0).toNatClampNeg = G0 := nI_clamp (by omega)
    have i1 : vp_in (nI G0) 32 := vp_in_nI (by omega) (by omega)
    refine br_f (by decide) (xv_vd (k := 41) (by decide) (fun q => absurd q nl) (fun _ => br_t rfl ?_))
    refine xv_ww (by omega) (by omega) (fun _ _ => br_f (by decide) (br_t rfl ?_)) (fun q => absurd ⟨hb, hp⟩ q)
    refine br_f (nI_ne0 (by omega) (by omega)) ?_
    refine hX _ hT hw fun kx' fx' sx' tx' hT' => nm_r (nI_pred G0) ⟨i1, nm_r (e' := nI (B G0)) (by rw [e1]; exact (hg G0 (by omega)).1) ⟨i1, nm_r (e' := xm_b (P G0)) (by rw [e1]; exact (hg G0 (by omega)).2) ⟨(ax_fb _).1, (ax_fb _).2, ?_⟩⟩⟩
    exact hx2 f o _ hT' (fun j hj => hw j (by omega)) (fun j hj => hg j (by omega)) fun u' hu' => ⟨rfl, h u' hu'⟩
  · obtain ⟨ky, ch, na, nb, nc, ws, f, pd, rfl, hT, hw, hg⟩ := hv
    refine yp_ent (G := G0 + 1) hi ht htl htx (by omega) (by omega) (by omega) (hg (G0 + 1) (Nat.le_refl _)).1 fun z0 z1 z2 => ?_
    have e1 : (nI (G0 + 1)).toNatClampNeg = G0 + 1 := nI_clamp (by omega)
    have i1 : vp_in (nI (G0 + 1)) 40 := vp_in_nI (by omega) (by omega)
    have z := rc_whole (p := true) z1 z2 hb
    subst z
    have hgg := hg (G0 + 1) (Nat.le_refl _)
    refine yv_84 (by decide) (fun q => absurd q nl) (fun _ => ?_)
    unfold wY_parse_126
    refine br_f (by decide) (br_t rfl (br_f (nI_ne0 (by omega) (by omega)) (br_t rfl ⟨i1, br_t (by rw [e1, hgg.2, hp]; rfl) ⟨i1, ?_⟩⟩)))
    rw [e1, hgg.1]
    refine hY _ hT hw fun ky' ch' na' nb' nc' hT' => ⟨i1, nm_r (e' := nI (B (G0 + 1))) (by rw [e1]; exact hgg.1) (nm_r (nI_pred G0) ?_)⟩
    exact hy2 f pd _ hT' (fun j hj => hw j (by omega)) (fun j hj => hg j (by omega)) fun v' hv' => nm_r (nI_1 i) (yp_to h hv')
end
section
/-! every character; the whole text -/
theorem rc_w {ws : Nat → Int32} {W : Nat → Nat} {m p : Nat} (hw : ∀ j, j < m → ws j = nI (W j)) : ∀ j, j < m + 1 → upd ws m (nI p) j = nI (tr_u W m p j) := by
  intro j hj
  by_cases z : j = m
  · subst z; rw [tr_us]; exact pk_us
  · rw [tr_un z, pk_un z]; exact hw j (by omega)
theorem rd_char {f_vectorLimit f_textCount f_trainHeld f_rootNode f_canonCount f_postponedCount f_frameCount f_failure f_lastStatus : Int32} {a_text a_canon a_postponed a_cells a_lengths a_frameNode a_frameDyadic a_frameX a_frameY a_framePhase : Nat → Int32} {g_lim g_tlen g_held g_root g_clen g_xn g_yn g_rn g_stat g_sp g_err : Int32} {b_text b_canon b_xs b_ys b_res b_cst b_fnode b_fmode b_fph b_fi b_vec b_vlen : Nat → Int32} {i c t : Nat} {N wc G adc : Nat} {K F S T C A D W B : Nat → Nat} {P : Nat → Bool} (hS : rd_S i N wc G adc K F S T C A D W B P) (hi : i < t) (ht : t ≤ 32) (htl : g_tlen = nI t) (htx : b_text i = nI c) (hal : rp_al c) : rp_fail f_vectorLimit f_textCount f_trainHeld f_rootNode f_canonCount f_postponedCount f_frameCount f_failure f_lastStatus a_text a_canon a_postponed a_cells a_lengths a_frameNode a_frameDyadic a_frameX a_frameY a_framePhase g_lim g_tlen g_held g_root g_clen g_xn g_yn g_rn g_stat g_sp g_err b_text b_canon b_xs b_ys b_res b_cst b_fnode b_fmode b_fph b_fi b_vec b_vlen i c N wc G adc K F S T W B P ∨
    ∃ (N' wc' G' adc' : Nat) (K' F' S' T' C' A' D' W' B' : Nat → Nat) (P' : Nat → Bool), rd_S (i + 1) N' wc' G' adc' K' F' S' T' C' A' D' W' B' P' ∧ (B 0 = 0 → B' 0 = 0) ∧ rp_on f_vectorLimit f_textCount f_trainHeld f_rootNode f_canonCount f_postponedCount f_frameCount f_failure f_lastStatus a_text a_canon a_postponed a_cells a_lengths a_frameNode a_frameDyadic a_frameX a_frameY a_framePhase g_lim g_tlen g_held g_root g_clen g_xn g_yn g_rn g_stat g_sp g_err b_text b_canon b_xs b_ys b_res b_cst b_fnode b_fmode b_fph b_fi b_vec b_vlen i c N wc G adc K F S T W B P N' wc' G' adc' K' F' S' T' W' B' P' := by
  have hS' := hS
  obtain ⟨⟨w1, w2, w3, w4, w5⟩, ⟨g1, g2, g3⟩, a1, a2, a3⟩ := hS'
  have cb := rp_alb hal
  by_cases lf : pr_lf c
  · cases hp : P G with
    | false => exact Or.inr ⟨_, _, _, _, _, _, _, _, _, _, _, _, _, _, rd_leaf1 c lf hS, id, rc_leaf1 hS hi ht htl htx lf hp⟩
    | true =>
      have hb := g2 hp
      obtain ⟨m, rfl⟩ : ∃ m, wc = m + 1 := ⟨wc - 1, by omega⟩
      obtain ⟨C', A', D', q⟩ := rd_leaf2 c lf hS
      exact Or.inr ⟨_, _, _, _, _, _, _, _, _, _, _, _, _, _, q, id, rc_leaf2 hS hi ht htl htx rfl lf hp⟩
  · by_cases c40 : c = 40
    · exact Or.inr ⟨_, _, _, _, _, _, _, _, _, _, _, _, _, _, rd_open hS, fun z => by rw [tr_un (by omega)]; exact z, rc_open hS hi ht htl htx c40⟩
    · by_cases wh : B G < wc ∧ P G = false
      · obtain ⟨hb, hp⟩ := wh
        by_cases c64 : c = 64
        · exact Or.inr ⟨_, _, _, _, _, _, _, _, _, _, _, _, _, _, rd_wait hS hb, id, rc_wait hS hi ht htl htx c64 hb hp⟩
        · obtain ⟨m, rfl⟩ : ∃ m, wc = m + 1 := ⟨wc - 1, by omega⟩
          by_cases c41 : c = 41
          · subst c41
            cases G with
            | zero => exact Or.inl (rc_bad0 hS hi ht htl htx rfl rfl)
            | succ G0 =>
              obtain ⟨N', t', K', F', S', T', C', A', D', hR, hX, hY⟩ := tr_train w1 w2 (lo := B (G0 + 1)) (by omega) (by omega) (by omega)
              have gg := g3 G0 (by omega)
              have hRR := hR
              obtain ⟨r1, r2, r3, r4, r5, r6, r7⟩ := hRR
              cases hp0 : P G0 with
              | false =>
                refine Or.inr ⟨N', B (G0 + 1) + 1, G0, adc, K', F', S', T', C', A', D', tr_u W (B (G0 + 1)) t', B, P, rd_close1 hS hb hR, id, rc_cl (lo := B (G0 + 1)) rfl hS hi ht htl htx rfl rfl hb hp hX hY (fun f o post hT hw hg h => ?_) (fun f pd post hT hw hg h => ?_)⟩
                · rw [hp0]
                  exact xn_plain (by omega) (h _ (rp_Xi rfl rfl rfl (by rw [hp0]; rfl) rfl rfl hT (rc_w hw) hg))
                · exact yn_plain (by omega) (by omega) (by rw [(hg G0 (Nat.le_refl _)).2, hp0]; rfl) (h _ (rp_Yi rfl rfl rfl hT (rc_w hw) hg))
              | true =>
                have hb0 := gg.2 hp0
                obtain ⟨m0, hm0⟩ : ∃ m0, B (G0 + 1) = m0 + 1 := ⟨B (G0 + 1) - 1, by omega⟩
                obtain ⟨C2, A2, D2, q⟩ := rd_close2 hS hb hm0 hR
                refine Or.inr ⟨N' + 1, m0 + 1, G0, adc, _, _, _, _, C2, A2, D2, _, B, _, q, id, rc_cl (lo := B (G0 + 1)) rfl hS hi ht htl htx rfl rfl hb hp hX hY (fun f o post hT hw hg h => ?_) (fun f pd post hT hw hg h => ?_)⟩
                · rw [hm0] at hw ⊢
                  rw [hp0]
                  refine xn_atop (by omega) (by omega) (hw m0 (by omega)) (h _ (rp_Xi rfl rfl rfl (by rw [rd_ps]; rfl) rfl rfl (tr_Xu hT 64 (W m0) t' 0) (rc_w fun j hj => hw j (by omega)) fun j hj => ?_))
                  rw [rd_pn (by omega)]; exact hg j hj
                · rw [hm0] at hw ⊢
                  refine yn_atop (by omega) (by omega) (by omega) (by rw [(hg G0 (Nat.le_refl _)).2, hp0]; rfl) (hw m0 (by omega)) (h _ (rp_Yi rfl rfl rfl (tr_Yu hT 64 (W m0) t' 0) (rc_w fun j hj => hw j (by omega)) fun j hj => ?_))
                  by_cases z : j = G0
                  · subst z; rw [rd_ps]; exact ⟨(hg j hj).1, pk_us⟩
                  · rw [rd_pn z, pk_un z]; exact hg j hj
          · have av : pr_av c := by
              rcases hal with q | q | q | q | q
              · exact absurd q lf
              · exact q
              · exact absurd q c64
              · exact absurd q c40
              · exact absurd q c41
            exact Or.inr ⟨_, _, _, _, _, _, _, _, _, _, _, _, _, _, rd_adv c av hS, id, rc_adv hS hi ht htl htx rfl av hb hp⟩
      · exact Or.inl (rc_bad hS hi ht htl htx cb lf c40 wh)
theorem rd_loop {f_vectorLimit f_textCount f_trainHeld f_rootNode f_canonCount f_postponedCount f_frameCount f_failure f_lastStatus : Int32} {a_text a_canon a_postponed a_cells a_lengths a_frameNode a_frameDyadic a_frameX a_frameY a_framePhase : Nat → Int32} {g_lim g_tlen g_held g_root g_clen g_xn g_yn g_rn g_stat g_sp g_err : Int32} {b_text b_canon b_xs b_ys b_res b_cst b_fnode b_fmode b_fph b_fi b_vec b_vlen : Nat → Int32} {t : Nat} (ht : t ≤ 32) (hfl : f_textCount = nI t) (htl : g_tlen = nI t) (htx : ∀ j, j < t → ∃ c, rp_al c ∧ a_text j = nI c ∧ b_text j = nI c) :
    ∀ (d i : Nat) (N wc G adc : Nat) (K F S T C A D W B : Nat → Nat) (P : Nat → Bool), i + d = t → rd_S i N wc G adc K F S T C A D W B P → B 0 = 0 →
    ((∀ (u : SX) (post : Int32 → SX → Prop), rp_X f_vectorLimit f_textCount f_trainHeld f_rootNode f_canonCount f_postponedCount f_frameCount f_failure f_lastStatus a_text a_canon a_postponed a_cells a_lengths a_frameNode a_frameDyadic a_frameX a_frameY a_framePhase N wc G adc K F S T W B P u → (∀ u', rp_QX f_vectorLimit f_textCount f_trainHeld f_rootNode f_canonCount f_postponedCount f_frameCount f_failure f_lastStatus a_text a_canon a_postponed a_cells a_lengths a_frameNode a_frameDyadic a_frameX a_frameY a_framePhase u' → post 0 u') → ∀ k, d < k → xp_W post k i u) ∧
      (∀ (v : SY) (post : Int32 → SY → Prop), rp_Y g_lim g_tlen g_held g_root g_clen g_xn g_yn g_rn g_stat g_sp g_err b_text b_canon b_xs b_ys b_res b_cst b_fnode b_fmode b_fph b_fi b_vec b_vlen N wc G adc K F S T W B P v → (∀ v', rp_QY g_lim g_tlen g_held g_root g_clen g_xn g_yn g_rn g_stat g_sp g_err b_text b_canon b_xs b_ys b_res b_cst b_fnode b_fmode b_fph b_fi b_vec b_vlen v' → post 0 v') → ∀ k, d < k → yp_W post k adc i v)) ∨
    ∃ (N' wc' G' adc' : Nat) (K' F' S' T' C' A' D' W' B' : Nat → Nat) (P' : Nat → Bool), rd_S t N' wc' G' adc' K' F' S' T' C' A' D' W' B' P' ∧ B' 0 = 0 ∧
      (∀ (u : SX) (post : Int32 → SX → Prop), rp_X f_vectorLimit f_textCount f_trainHeld f_rootNode f_canonCount f_postponedCount f_frameCount f_failure f_lastStatus a_text a_canon a_postponed a_cells a_lengths a_frameNode a_frameDyadic a_frameX a_frameY a_framePhase N wc G adc K F S T W B P u → (∀ u' k, rp_X f_vectorLimit f_textCount f_trainHeld f_rootNode f_canonCount f_postponedCount f_frameCount f_failure f_lastStatus a_text a_canon a_postponed a_cells a_lengths a_frameNode a_frameDyadic a_frameX a_frameY a_framePhase N' wc' G' adc' K' F' S' T' W' B' P' u' → xp_W post (k + 1) t u') → ∀ k, d < k → xp_W post k i u) ∧
      (∀ (v : SY) (post : Int32 → SY → Prop), rp_Y g_lim g_tlen g_held g_root g_clen g_xn g_yn g_rn g_stat g_sp g_err b_text b_canon b_xs b_ys b_res b_cst b_fnode b_fmode b_fph b_fi b_vec b_vlen N wc G adc K F S T W B P v → (∀ v' k, rp_Y g_lim g_tlen g_held g_root g_clen g_xn g_yn g_rn g_stat g_sp g_err b_text b_canon b_xs b_ys b_res b_cst b_fnode b_fmode b_fph b_fi b_vec b_vlen N' wc' G' adc' K' F' S' T' W' B' P' v' → yp_W post (k + 1) adc' t v') → ∀ k, d < k → yp_W post k adc i v) := by
  intro d
  induction d with
  | zero =>
    intro i N wc G adc K F S T C A D W B P hid hS hB
    have e : i = t := by omega
    subst e
    refine Or.inr ⟨_, _, _, _, _, _, _, _, _, _, _, _, _, _, hS, hB, fun u post hu h k hk => ?_, fun v post hv h k hk => ?_⟩
    · obtain ⟨k, rfl⟩ : ∃ q, k = q + 1 := ⟨k - 1, by omega⟩
      exact h u k hu
    · obtain ⟨k, rfl⟩ : ∃ q, k = q + 1 := ⟨k - 1, by omega⟩
      exact h v k hv
  | succ d ih =>
    intro i N wc G adc K F S T C A D W B P hid hS hB
    obtain ⟨c, hal, ax, ay⟩ := htx i (by omega)
    have e1 : (nI i).toNatClampNeg = i := nI_clamp (by omega)
    have stepX : ∀ (u : SX) (post : Int32 → SX → Prop) (k : Nat), rp_X f_vectorLimit f_textCount f_trainHeld f_rootNode f_canonCount f_postponedCount f_frameCount f_failure f_lastStatus a_text a_canon a_postponed a_cells a_lengths a_frameNode a_frameDyadic a_frameX a_frameY a_framePhase N wc G adc K F S T W B P u →
        (∀ post' : Int32 → SX → Prop, (∀ (r : Int32) n1 n2 n3 n4 n5 n6 kx fx sx tx ws f o, ((r = 0 → post 0 (f_vectorLimit, f_textCount, f_trainHeld, f_rootNode, n1, n2, n3, n4, n5, n6, f_canonCount, f_postponedCount, f_frameCount, f_failure, f_lastStatus, a_text, kx, fx, sx, tx, ws, f, o, a_canon, a_postponed, a_cells, a_lengths, a_frameNode, a_frameDyadic, a_frameX, a_frameY, a_framePhase)) ∧ (¬ r = 0 → xp_W post k (i + 1) (f_vectorLimit, f_textCount, f_trainHeld, f_rootNode, n1, n2, n3, n4, n5, n6, f_canonCount, f_postponedCount, f_frameCount, f_failure, f_lastStatus, a_text, kx, fx, sx, tx, ws, f, o, a_canon, a_postponed, a_cells, a_lengths, a_frameNode, a_frameDyadic, a_frameX, a_frameY, a_framePhase))) → post' r (f_vectorLimit, f_textCount, f_trainHeld, f_rootNode, n1, n2, n3, n4, n5, n6, f_canonCount, f_postponedCount, f_frameCount, f_failure, f_lastStatus, a_text, kx, fx, sx, tx, ws, f, o, a_canon, a_postponed, a_cells, a_lengths, a_frameNode, a_frameDyadic, a_frameX, a_frameY, a_framePhase)) → wpX_readChar post' u (nI c)) → xp_W post (k + 1) i u := by
      intro u post k hu hr
      obtain ⟨kx, fx, sx, tx, ws, f, o, rfl, hT, hw, hg⟩ := hu
      subst hfl
      refine br_f (nI_ge (by omega) (by omega)) ⟨vp_in_nI (by omega) (by omega), ?_⟩
      rw [e1, ax]
      exact hr _ (fun r n1 n2 n3 n4 n5 n6 kx fx sx tx ws f o hq => ⟨fun z => hq.1 z, fun z => nm_r (nI_1 i) (hq.2 z)⟩)
    rcases rd_char (c := c) (f_vectorLimit := f_vectorLimit) (f_textCount := f_textCount) (f_trainHeld := f_trainHeld) (f_rootNode := f_rootNode) (f_canonCount := f_canonCount) (f_postponedCount := f_postponedCount) (f_frameCount := f_frameCount) (f_failure := f_failure) (f_lastStatus := f_lastStatus) (a_text := a_text) (a_canon := a_canon) (a_postponed := a_postponed) (a_cells := a_cells) (a_lengths := a_lengths) (a_frameNode := a_frameNode) (a_frameDyadic := a_frameDyadic) (a_frameX := a_frameX) (a_frameY := a_frameY) (a_framePhase := a_framePhase) (g_lim := g_lim) (g_tlen := g_tlen) (g_held := g_held) (g_root := g_root) (g_clen := g_clen) (g_xn := g_xn) (g_yn := g_yn) (g_rn := g_rn) (g_stat := g_stat) (g_sp := g_sp) (g_err := g_err) (b_text := b_text) (b_canon := b_canon) (b_xs := b_xs) (b_ys := b_ys) (b_res := b_res) (b_cst := b_cst) (b_fnode := b_fnode) (b_fmode := b_fmode) (b_fph := b_fph) (b_fi := b_fi) (b_vec := b_vec) (b_vlen := b_vlen) hS (by omega) ht htl ay hal with hf | ⟨N', wc', G', adc', K', F', S', T', C', A', D', W', B', P', hS', hB', hon⟩
    · refine Or.inl ⟨fun u post hu h k hk => ?_, fun v post hv h k hk => ?_⟩
      · obtain ⟨k, rfl⟩ : ∃ q, k = q + 1 := ⟨k - 1, by omega⟩
        refine stepX u post k hu fun post' hp => hf.1 u post' hu fun u' hu' => ?_
        obtain ⟨n1, n2, n3, n4, n5, n6, kx, fx, sx, tx, ws, f, o, rfl⟩ := hu'
        exact hp 0 _ _ _ _ _ _ _ _ _ _ _ _ _ (br_t rfl (h _ rp_QXi))
      · obtain ⟨k, rfl⟩ : ∃ q, k = q + 1 := ⟨k - 1, by omega⟩
        exact hf.2 v post k hv h
    · have fwdX : ∀ (u : SX) (post : Int32 → SX → Prop) (k : Nat), rp_X f_vectorLimit f_textCount f_trainHeld f_rootNode f_canonCount f_postponedCount f_frameCount f_failure f_lastStatus a_text a_canon a_postponed a_cells a_lengths a_frameNode a_frameDyadic a_frameX a_frameY a_framePhase N wc G adc K F S T W B P u → (∀ u', rp_X f_vectorLimit f_textCount f_trainHeld f_rootNode f_canonCount f_postponedCount f_frameCount f_failure f_lastStatus a_text a_canon a_postponed a_cells a_lengths a_frameNode a_frameDyadic a_frameX a_frameY a_framePhase N' wc' G' adc' K' F' S' T' W' B' P' u' → xp_W post k (i + 1) u') → xp_W post (k + 1) i u := by
        intro u post k hu h
        refine stepX u post k hu fun post' hp => hon.1 u post' hu fun u' hu' => ?_
        have hu2 := hu'
        obtain ⟨kx, fx, sx, tx, ws, f, o, rfl, -⟩ := hu'
        exact hp 1 _ _ _ _ _ _ _ _ _ _ _ _ _ (br_f (by decide) (h _ hu2))
      rcases ih (i + 1) N' wc' G' adc' K' F' S' T' C' A' D' W' B' P' (by omega) hS' (hB' hB) with ⟨qX, qY⟩ | ⟨N2, wc2, G2, adc2, K2, F2, S2, T2, C2, A2, D2, W2, B2, P2, hS2, hB2, qX, qY⟩
      · refine Or.inl ⟨fun u post hu h k hk => ?_, fun v post hv h k hk => ?_⟩
        · obtain ⟨k, rfl⟩ : ∃ q, k = q + 1 := ⟨k - 1, by omega⟩
          exact fwdX u post k hu fun u' hu' => qX u' post hu' h k (by omega)
        · obtain ⟨k, rfl⟩ : ∃ q, k = q + 1 := ⟨k - 1, by omega⟩
          exact hon.2 v post k hv fun v' hv' => qY v' post hv' h k (by omega)
      · refine Or.inr ⟨N2, wc2, G2, adc2, K2, F2, S2, T2, C2, A2, D2, W2, B2, P2, hS2, hB2, fun u post hu h k hk => ?_, fun v post hv h k hk => ?_⟩
        · obtain ⟨k, rfl⟩ : ∃ q, k = q + 1 := ⟨k - 1, by omega⟩
          exact fwdX u post k hu fun u' hu' => qX u' post hu' h k (by omega)
        · obtain ⟨k, rfl⟩ : ∃ q, k = q + 1 := ⟨k - 1, by omega⟩
          exact hon.2 v post k hv fun v' hv' => qY v' post hv' h k (by omega)
end
section
/-! the end of a text, and parse -/
def pe_ok (N' q0 : Nat) (K' F' S' T' C' A' D' : Nat → Nat) (o' : List Nat) : Prop :=
  tr_ok N' K' F' S' T' C' A' D' ∧ N' ≤ 63 ∧ q0 < N' ∧ C' q0 ≤ 64 ∧ A' q0 ≤ 2 ∧ o'.length ≤ 64 ∧ (∀ j, j < o'.length → o'.getD j 0 < 128)
theorem rd_end {f_vectorLimit f_textCount f_trainHeld f_rootNode f_canonCount f_postponedCount f_frameCount f_failure f_lastStatus : Int32} {a_text a_canon a_postponed a_cells a_lengths a_frameNode a_frameDyadic a_frameX a_frameY a_framePhase : Nat → Int32} {g_lim g_tlen g_held g_root g_clen g_xn g_yn g_rn g_stat g_sp g_err : Int32} {b_text b_canon b_xs b_ys b_res b_cst b_fnode b_fmode b_fph b_fi b_vec b_vlen : Nat → Int32} {t : Nat} {N wc G adc : Nat} {K F S T C A D W B : Nat → Nat} {P : Nat → Bool} (ht : t ≤ 32) (hfl : f_textCount = nI t) (htl : g_tlen = nI t) (hS : rd_S t N wc G adc K F S T C A D W B P) (hB : B 0 = 0) :
    ((∀ (u : SX) (post : Int32 → SX → Prop) (k : Nat), rp_X f_vectorLimit f_textCount f_trainHeld f_rootNode f_canonCount f_postponedCount f_frameCount f_failure f_lastStatus a_text a_canon a_postponed a_cells a_lengths a_frameNode a_frameDyadic a_frameX a_frameY a_framePhase N wc G adc K F S T W B P u → (∀ u', rp_QX f_vectorLimit f_textCount f_trainHeld f_rootNode f_canonCount f_postponedCount f_frameCount f_failure f_lastStatus a_text a_canon a_postponed a_cells a_lengths a_frameNode a_frameDyadic a_frameX a_frameY a_framePhase u' → post 0 u') → xp_W post (k + 1) t u) ∧
      (∀ (v : SY) (post : Int32 → SY → Prop) (k : Nat), rp_Y g_lim g_tlen g_held g_root g_clen g_xn g_yn g_rn g_stat g_sp g_err b_text b_canon b_xs b_ys b_res b_cst b_fnode b_fmode b_fph b_fi b_vec b_vlen N wc G adc K F S T W B P v → (∀ v', rp_QY g_lim g_tlen g_held g_root g_clen g_xn g_yn g_rn g_stat g_sp g_err b_text b_canon b_xs b_ys b_res b_cst b_fnode b_fmode b_fph b_fi b_vec b_vlen v' → post 0 v') → yp_W post (k + 1) adc t v)) ∨
    ∃ (N' q0 : Nat) (K' F' S' T' C' A' D' : Nat → Nat) (o' : List Nat), pe_ok N' q0 K' F' S' T' C' A' D' o' ∧
      (∀ (u : SX) (post : Int32 → SX → Prop) (k : Nat), rp_X f_vectorLimit f_textCount f_trainHeld f_rootNode f_canonCount f_postponedCount f_frameCount f_failure f_lastStatus a_text a_canon a_postponed a_cells a_lengths a_frameNode a_frameDyadic a_frameX a_frameY a_framePhase N wc G adc K F S T W B P u → (∀ pc ap ac n1 n2 n3 n4 n5 n6 kx fx sx tx ws f o, tr_X N' K' F' S' T' kx fx sx tx → cn_O ac o' → post 1 (f_vectorLimit, f_textCount, 1, nI q0, n1, n2, n3, n4, n5, n6, nI o'.length, pc, f_frameCount, f_failure, f_lastStatus, a_text, kx, fx, sx, tx, ws, f, o, ac, ap, a_cells, a_lengths, a_frameNode, a_frameDyadic, a_frameX, a_frameY, a_framePhase)) → xp_W post (k + 1) t u) ∧
      (∀ (v : SY) (post : Int32 → SY → Prop) (k : Nat), rp_Y g_lim g_tlen g_held g_root g_clen g_xn g_yn g_rn g_stat g_sp g_err b_text b_canon b_xs b_ys b_res b_cst b_fnode b_fmode b_fph b_fi b_vec b_vlen N wc G adc K F S T W B P v → (∀ cs ac n1 n2 n3 ky ch na nb nc ws f pd, tr_Y N' K' F' S' T' ky ch na nb nc → cn_O ac o' → post 1 (g_lim, g_tlen, 1, nI q0, nI o'.length, g_xn, g_yn, g_rn, g_stat, n1, n2, n3, g_sp, g_err, b_text, ac, b_xs, b_ys, b_res, ky, ch, na, nb, nc, ws, f, pd, cs, b_fnode, b_fmode, b_fph, b_fi, b_vec, b_vlen)) → yp_W post (k + 1) adc t v) := by
  subst hfl
  subst htl
  obtain ⟨⟨w1, w2, w3, w4, w5⟩, ⟨g1, g2, g3⟩, a1, a2, a3⟩ := hS
  by_cases ok : G = 0 ∧ B G < wc ∧ P G = false ∧ adc ≤ 2
  · obtain ⟨rfl, o2, o3, o4⟩ := ok
    obtain ⟨m, rfl⟩ : ∃ m, wc = m + 1 := ⟨wc - 1, by omega⟩
    obtain ⟨N', q0, K', F', S', T', C', A', D', hR, hX, hY⟩ := tr_train w1 w2 (lo := 0) (by omega) (by omega) (by omega)
    obtain ⟨r1, r2, r3, r4, r5, r6, r7⟩ := hR
    have r5' : C' q0 + 0 = tr_sm C W (m + 1) + 2 * ((m + 1 - 0) / 2) := r5
    have r6' : A' q0 + 0 = tr_sm A W (m + 1) := r6
    have c64 : C' q0 ≤ 64 := by omega
    obtain ⟨o', h1, h2, cX, cY⟩ := cn_both r1 (by omega) (2 * C' q0) [(true, q0)] [] (by show 2 * C' q0 + 0 ≤ 2 * C' q0; omega) (by omega) ⟨r3, trivial⟩ (by show 0 + (C' q0 + 0) ≤ 64; omega) (fun j hj => absurd hj (Nat.not_lt_zero _))
    refine Or.inr ⟨N', q0, K', F', S', T', C', A', D', o', ⟨r1, by omega, r3, c64, by omega, h1, h2⟩, fun u post k hu h => ?_, fun v post k hv h => ?_⟩
    · obtain ⟨kx, fx, sx, tx, ws, f, o, rfl, hT, hw, hg⟩ := hu
      refine br_t (nI_le (Nat.le_refl _) (by omega)) (br_f (by decide) ?_)
      refine xv_ww (by omega) (by omega) (fun _ _ => br_f (by decide) (pk_le adc 2 (fun _ => ?_) (fun z => by omega))) (fun q => absurd ⟨o2, o3⟩ q)
      refine hX _ hT hw fun kx' fx' sx' tx' hT' => ?_
      unfold wpX_writeCanon
      refine xc_p (st := []) (true, q0) rfl trivial (by decide) fun ap' hs' => ⟨2 * C' q0 + 1, ?_⟩
      refine cX _ ap' a_canon 0 _ hT' (by omega) (by omega) hs' (fun j hj => absurd hj (Nat.not_lt_zero _)) fun pc ap2 ac2 hO => ?_
      exact h _ _ _ _ _ _ _ _ _ _ _ _ _ _ _ _ hT' hO
    · obtain ⟨ky, ch, na, nb, nc, ws, f, pd, rfl, hT, hw, hg⟩ := hv
      have pd0 : pd 0 = 0 := by rw [(hg 0 (Nat.le_refl _)).2, o3]; rfl
      refine br_t (nI_le (Nat.le_refl _) (by omega)) ?_
      unfold wY_parse_351
      refine br_t rfl (br_f (nI_ne0 (by omega) (by omega)) (br_t pd0 (pk_le adc 2 (fun _ => ?_) (fun z => by omega))))
      refine hY _ hT hw fun ky' ch' na' nb' nc' hT' => ?_
      unfold wpY_makeCanon
      refine yc_p (st := []) (true, q0) rfl trivial (by decide) fun cs' hs' => ⟨2 * C' q0 + 1, ?_⟩
      refine cY _ cs' b_canon 0 _ hT' (by omega) (by omega) hs' (fun j hj => absurd hj (Nat.not_lt_zero _)) fun cs2 ac2 hO => ?_
      exact h _ _ _ _ _ _ _ _ _ _ _ _ _ hT' hO
  · refine Or.inl ⟨fun u post k hu h => ?_, fun v post k hv h => ?_⟩
    · obtain ⟨kx, fx, sx, tx, ws, f, o, rfl, hT, hw, hg⟩ := hu
      refine br_t (nI_le (Nat.le_refl _) (by omega)) (pk_lt 0 G (fun _ => h _ rp_QXi) (fun z => ?_))
      refine xv_ww (by omega) (by omega) (fun q1 q2 => br_f (by decide) (pk_le adc 2 (fun q3 => absurd ⟨by omega, q1, q2, q3⟩ ok) (fun _ => h _ rp_QXi))) (fun _ => br_t rfl (h _ rp_QXi))
    · obtain ⟨ky, ch, na, nb, nc, ws, f, pd, rfl, hT, hw, hg⟩ := hv
      refine br_t (nI_le (Nat.le_refl _) (by omega)) ?_
      unfold wY_parse_351
      refine pk_eq G 0 (fun q0 => pk_eq wc 0 (fun _ => h _ rp_QYi) (fun q1 => ?_)) (fun _ => h _ rp_QYi)
      subst q0
      rw [(hg 0 (Nat.le_refl _)).2]
      exact xs_b0 (P 0) (fun q2 => pk_le adc 2 (fun q3 => absurd ⟨rfl, by omega, q2, q3⟩ ok) (fun _ => h _ rp_QYi)) (fun _ => h _ rp_QYi)
theorem xp_to {f_vectorLimit f_textCount f_trainHeld f_rootNode f_nodeCount f_wordCount f_groupFirst f_atopWaiting f_groupCount f_adverbCount f_canonCount f_postponedCount f_frameCount f_failure f_lastStatus : Int32} {a_text a_nodeKind a_nodeFirst a_nodeSecond a_nodeThird a_words a_outerFirst a_outerAtop a_canon a_postponed a_cells a_lengths a_frameNode a_frameDyadic a_frameX a_frameY a_framePhase : Nat → Int32} {Q : SX → Prop} {post : Int32 → SX → Prop} {k i : Nat} (h : ∀ u', Q u' → xp_W post k i u') (q : Q (f_vectorLimit, f_textCount, f_trainHeld, f_rootNode, f_nodeCount, f_wordCount, f_groupFirst, f_atopWaiting, f_groupCount, f_adverbCount, f_canonCount, f_postponedCount, f_frameCount, f_failure, f_lastStatus, a_text, a_nodeKind, a_nodeFirst, a_nodeSecond, a_nodeThird, a_words, a_outerFirst, a_outerAtop, a_canon, a_postponed, a_cells, a_lengths, a_frameNode, a_frameDyadic, a_frameX, a_frameY, a_framePhase)) : wX_parse_15 post k (nI i) f_vectorLimit f_textCount f_trainHeld f_rootNode f_nodeCount f_wordCount f_groupFirst f_atopWaiting f_groupCount f_adverbCount f_canonCount f_postponedCount f_frameCount f_failure f_lastStatus a_text a_nodeKind a_nodeFirst a_nodeSecond a_nodeThird a_words a_outerFirst a_outerAtop a_canon a_postponed a_cells a_lengths a_frameNode a_frameDyadic a_frameX a_frameY a_framePhase := h _ q
theorem pa_0 : rd_S 0 0 0 0 0 (fun _ => 0) (fun _ => 0) (fun _ => 0) (fun _ => 0) (fun _ => 0) (fun _ => 0) (fun _ => 0) (fun _ => 0) (fun _ => 0) (fun _ => false) :=
  ⟨⟨fun n hn => absurd hn (Nat.not_lt_zero _), fun j hj => absurd hj (Nat.not_lt_zero _), Nat.le_refl _, Nat.le_refl _, Nat.le_refl _⟩, ⟨Nat.le_refl _, (fun z => by cases z), fun j hj => absurd hj (Nat.not_lt_zero _)⟩, Nat.le_refl _, Nat.le_refl _, Nat.le_refl _⟩
theorem pa_both {f_vectorLimit f_textCount f_trainHeld f_rootNode f_nodeCount f_wordCount f_groupFirst f_atopWaiting f_groupCount f_adverbCount f_canonCount f_postponedCount f_frameCount f_failure f_lastStatus : Int32} {a_text a_nodeKind a_nodeFirst a_nodeSecond a_nodeThird a_words a_outerFirst a_outerAtop a_canon a_postponed a_cells a_lengths a_frameNode a_frameDyadic a_frameX a_frameY a_framePhase : Nat → Int32} {g_lim g_tlen g_held g_root g_clen g_xn g_yn g_rn g_stat g_nn g_wsp g_depth g_sp g_err : Int32} {b_text b_canon b_xs b_ys b_res b_kind b_nch b_na b_nb b_nc b_ws b_fb b_pend b_cst b_fnode b_fmode b_fph b_fi b_vec b_vlen : Nat → Int32} {t : Nat} (ht : t ≤ 32) (hfl : f_textCount = nI t) (htl : g_tlen = nI t) (hh : f_trainHeld = 0) (hh2 : g_held = 0) (htx : ∀ j, j < t → ∃ c, rp_al c ∧ a_text j = nI c ∧ b_text j = nI c) :
    ((∀ (post : Int32 → SX → Prop), (∀ u', rp_QX f_vectorLimit f_textCount f_trainHeld f_rootNode f_canonCount f_postponedCount f_frameCount f_failure f_lastStatus a_text a_canon a_postponed a_cells a_lengths a_frameNode a_frameDyadic a_frameX a_frameY a_framePhase u' → post 0 u') → wpX_parse post (f_vectorLimit, f_textCount, f_trainHeld, f_rootNode, f_nodeCount, f_wordCount, f_groupFirst, f_atopWaiting, f_groupCount, f_adverbCount, f_canonCount, f_postponedCount, f_frameCount, f_failure, f_lastStatus, a_text, a_nodeKind, a_nodeFirst, a_nodeSecond, a_nodeThird, a_words, a_outerFirst, a_outerAtop, a_canon, a_postponed, a_cells, a_lengths, a_frameNode, a_frameDyadic, a_frameX, a_frameY, a_framePhase)) ∧
      (∀ (post : Int32 → SY → Prop), (∀ v', rp_QY g_lim g_tlen g_held g_root g_clen g_xn g_yn g_rn g_stat g_sp g_err b_text b_canon b_xs b_ys b_res b_cst b_fnode b_fmode b_fph b_fi b_vec b_vlen v' → post 0 v') → wpY_parse post (g_lim, g_tlen, g_held, g_root, g_clen, g_xn, g_yn, g_rn, g_stat, g_nn, g_wsp, g_depth, g_sp, g_err, b_text, b_canon, b_xs, b_ys, b_res, b_kind, b_nch, b_na, b_nb, b_nc, b_ws, b_fb, b_pend, b_cst, b_fnode, b_fmode, b_fph, b_fi, b_vec, b_vlen))) ∨
    ∃ (N' q0 : Nat) (K' F' S' T' C' A' D' : Nat → Nat) (o' : List Nat), pe_ok N' q0 K' F' S' T' C' A' D' o' ∧
      (∀ (post : Int32 → SX → Prop), (∀ pc ap ac n1 n2 n3 n4 n5 n6 kx fx sx tx ws f o, tr_X N' K' F' S' T' kx fx sx tx → cn_O ac o' → post 1 (f_vectorLimit, f_textCount, 1, nI q0, n1, n2, n3, n4, n5, n6, nI o'.length, pc, f_frameCount, f_failure, f_lastStatus, a_text, kx, fx, sx, tx, ws, f, o, ac, ap, a_cells, a_lengths, a_frameNode, a_frameDyadic, a_frameX, a_frameY, a_framePhase)) → wpX_parse post (f_vectorLimit, f_textCount, f_trainHeld, f_rootNode, f_nodeCount, f_wordCount, f_groupFirst, f_atopWaiting, f_groupCount, f_adverbCount, f_canonCount, f_postponedCount, f_frameCount, f_failure, f_lastStatus, a_text, a_nodeKind, a_nodeFirst, a_nodeSecond, a_nodeThird, a_words, a_outerFirst, a_outerAtop, a_canon, a_postponed, a_cells, a_lengths, a_frameNode, a_frameDyadic, a_frameX, a_frameY, a_framePhase)) ∧ (∀ (post : Int32 → SY → Prop), (∀ cs ac n1 n2 n3 ky ch na nb nc ws f pd, tr_Y N' K' F' S' T' ky ch na nb nc → cn_O ac o' → post 1 (g_lim, g_tlen, 1, nI q0, nI o'.length, g_xn, g_yn, g_rn, g_stat, n1, n2, n3, g_sp, g_err, b_text, ac, b_xs, b_ys, b_res, ky, ch, na, nb, nc, ws, f, pd, cs, b_fnode, b_fmode, b_fph, b_fi, b_vec, b_vlen)) → wpY_parse post (g_lim, g_tlen, g_held, g_root, g_clen, g_xn, g_yn, g_rn, g_stat, g_nn, g_wsp, g_depth, g_sp, g_err, b_text, b_canon, b_xs, b_ys, b_res, b_kind, b_nch, b_na, b_nb, b_nc, b_ws, b_fb, b_pend, b_cst, b_fnode, b_fmode, b_fph, b_fi, b_vec, b_vlen)) := by
  have X0 : ∀ (post : Int32 → SX → Prop), (∀ u, rp_X f_vectorLimit f_textCount f_trainHeld f_rootNode f_canonCount f_postponedCount f_frameCount f_failure f_lastStatus a_text a_canon a_postponed a_cells a_lengths a_frameNode a_frameDyadic a_frameX a_frameY a_framePhase 0 0 0 0 (fun _ => 0) (fun _ => 0) (fun _ => 0) (fun _ => 0) (fun _ => 0) (fun _ => 0) (fun _ => false) u → xp_W post (t + 1) 0 u) → wpX_parse post (f_vectorLimit, f_textCount, f_trainHeld, f_rootNode, f_nodeCount, f_wordCount, f_groupFirst, f_atopWaiting, f_groupCount, f_adverbCount, f_canonCount, f_postponedCount, f_frameCount, f_failure, f_lastStatus, a_text, a_nodeKind, a_nodeFirst, a_nodeSecond, a_nodeThird, a_words, a_outerFirst, a_outerAtop, a_canon, a_postponed, a_cells, a_lengths, a_frameNode, a_frameDyadic, a_frameX, a_frameY, a_framePhase) := by
    intro post h
    refine br_t hh ⟨t + 1, xp_to (i := 0) h ?_⟩
    exact rp_Xi rfl rfl rfl rfl rfl rfl (fun n hn => absurd hn (Nat.not_lt_zero _)) (fun j hj => absurd hj (Nat.not_lt_zero _)) (fun j hj => absurd hj (Nat.not_lt_zero _))
  have Y0 : ∀ (post : Int32 → SY → Prop), (∀ v, rp_Y g_lim g_tlen g_held g_root g_clen g_xn g_yn g_rn g_stat g_sp g_err b_text b_canon b_xs b_ys b_res b_cst b_fnode b_fmode b_fph b_fi b_vec b_vlen 0 0 0 0 (fun _ => 0) (fun _ => 0) (fun _ => 0) (fun _ => 0) (fun _ => 0) (fun _ => 0) (fun _ => false) v → yp_W post (t + 1) 0 0 v) → wpY_parse post (g_lim, g_tlen, g_held, g_root, g_clen, g_xn, g_yn, g_rn, g_stat, g_nn, g_wsp, g_depth, g_sp, g_err, b_text, b_canon, b_xs, b_ys, b_res, b_kind, b_nch, b_na, b_nb, b_nc, b_ws, b_fb, b_pend, b_cst, b_fnode, b_fmode, b_fph, b_fi, b_vec, b_vlen) := by
    intro post h
    refine br_t hh2 (nm_e (nm_e ⟨t + 1, yp_to (adc := 0) (i := 0) h ?_⟩))
    refine rp_Yi rfl rfl rfl (fun n hn => absurd hn (Nat.not_lt_zero _)) (fun j hj => absurd hj (Nat.not_lt_zero _)) (fun j hj => ?_)
    have z : j = 0 := by omega
    subst z
    exact ⟨pk_us, pk_us⟩
  rcases rd_loop (f_vectorLimit := f_vectorLimit) (f_textCount := f_textCount) (f_trainHeld := f_trainHeld) (f_rootNode := f_rootNode) (f_canonCount := f_canonCount) (f_postponedCount := f_postponedCount) (f_frameCount := f_frameCount) (f_failure := f_failure) (f_lastStatus := f_lastStatus) (a_text := a_text) (a_canon := a_canon) (a_postponed := a_postponed) (a_cells := a_cells) (a_lengths := a_lengths) (a_frameNode := a_frameNode) (a_frameDyadic := a_frameDyadic) (a_frameX := a_frameX) (a_frameY := a_frameY) (a_framePhase := a_framePhase) (g_lim := g_lim) (g_tlen := g_tlen) (g_held := g_held) (g_root := g_root) (g_clen := g_clen) (g_xn := g_xn) (g_yn := g_yn) (g_rn := g_rn) (g_stat := g_stat) (g_sp := g_sp) (g_err := g_err) (b_text := b_text) (b_canon := b_canon) (b_xs := b_xs) (b_ys := b_ys) (b_res := b_res) (b_cst := b_cst) (b_fnode := b_fnode) (b_fmode := b_fmode) (b_fph := b_fph) (b_fi := b_fi) (b_vec := b_vec) (b_vlen := b_vlen) ht hfl htl htx t 0 _ _ _ _ _ _ _ _ _ _ _ _ _ _ (by omega) pa_0 rfl with ⟨qX, qY⟩ | ⟨N, wc, G, adc, K, F, S, T, C, A, D, W, B, P, hS, hB, qX, qY⟩
  · exact Or.inl ⟨fun post h => X0 post fun u hu => qX u post hu h _ (by omega), fun post h => Y0 post fun v hv => qY v post hv h _ (by omega)⟩
  · rcases rd_end (f_vectorLimit := f_vectorLimit) (f_textCount := f_textCount) (f_trainHeld := f_trainHeld) (f_rootNode := f_rootNode) (f_canonCount := f_canonCount) (f_postponedCount := f_postponedCount) (f_frameCount := f_frameCount) (f_failure := f_failure) (f_lastStatus := f_lastStatus) (a_text := a_text) (a_canon := a_canon) (a_postponed := a_postponed) (a_cells := a_cells) (a_lengths := a_lengths) (a_frameNode := a_frameNode) (a_frameDyadic := a_frameDyadic) (a_frameX := a_frameX) (a_frameY := a_frameY) (a_framePhase := a_framePhase) (g_lim := g_lim) (g_tlen := g_tlen) (g_held := g_held) (g_root := g_root) (g_clen := g_clen) (g_xn := g_xn) (g_yn := g_yn) (g_rn := g_rn) (g_stat := g_stat) (g_sp := g_sp) (g_err := g_err) (b_text := b_text) (b_canon := b_canon) (b_xs := b_xs) (b_ys := b_ys) (b_res := b_res) (b_cst := b_cst) (b_fnode := b_fnode) (b_fmode := b_fmode) (b_fph := b_fph) (b_fi := b_fi) (b_vec := b_vec) (b_vlen := b_vlen) ht hfl htl hS hB with ⟨eX, eY⟩ | ⟨N', q0, K', F', S', T', C', A', D', o', hok, eX, eY⟩
    · exact Or.inl ⟨fun post h => X0 post fun u hu => qX u post hu (fun u' k hu' => eX u' post k hu' h) _ (by omega), fun post h => Y0 post fun v hv => qY v post hv (fun v' k hv' => eY v' post k hv' h) _ (by omega)⟩
    · exact Or.inr ⟨N', q0, K', F', S', T', C', A', D', o', hok, fun post h => X0 post fun u hu => qX u post hu (fun u' k hu' => eX u' post k hu' h) _ (by omega), fun post h => Y0 post fun v hv => qY v post hv (fun v' k hv' => eY v' post k hv' h) _ (by omega)⟩
end
section
/-! the relation, and the methods that only read or set -/
def rl_txt (f g : Int32) (a b : Nat → Int32) : Prop := ∃ t, t ≤ 32 ∧ f = nI t ∧ g = nI t ∧ ∀ j, j < t → ∃ c, rp_al c ∧ a j = nI c ∧ b j = nI c
def rl_arg (L : Nat) (c l : Nat → Int32) (s : Nat) (gn : Int32) (b : Nat → Int32) : Prop := ∃ xs : List Int32, ve_L c l s xs ∧ xs.length ≤ L ∧ gn = nI xs.length ∧ ∀ i, i < xs.length → b i = xs.getD i 0
def rl_hld (fh gh fr gr fc gc : Int32) (kx fx sx tx ac ky ch na nb nc bc : Nat → Int32) : Prop :=
  (fh = 0 ∧ gh = 0 ∧ fc = 0) ∨ (fh = 1 ∧ gh = 1 ∧ ∃ (N q0 : Nat) (K F S T C A D : Nat → Nat) (o : List Nat), pe_ok N q0 K F S T C A D o ∧ tr_X N K F S T kx fx sx tx ∧ tr_Y N K F S T ky ch na nb nc ∧ fr = nI q0 ∧ gr = nI q0 ∧ fc = nI o.length ∧ gc = nI o.length ∧ cn_O ac o ∧ cn_O bc o)
def i_Rel (_ : Nat) (u : SX) (v : SY) : Prop :=
  match u, v with
  | (f_vectorLimit, f_textCount, f_trainHeld, f_rootNode, f_nodeCount, f_wordCount, f_groupFirst, f_atopWaiting, f_groupCount, f_adverbCount, f_canonCount, f_postponedCount, f_frameCount, f_failure, f_lastStatus, a_text, a_nodeKind, a_nodeFirst, a_nodeSecond, a_nodeThird, a_words, a_outerFirst, a_outerAtop, a_canon, a_postponed, a_cells, a_lengths, a_frameNode, a_frameDyadic, a_frameX, a_frameY, a_framePhase), (g_lim, g_tlen, g_held, g_root, g_clen, g_xn, g_yn, g_rn, g_stat, g_nn, g_wsp, g_depth, g_sp, g_err, b_text, b_canon, b_xs, b_ys, b_res, b_kind, b_nch, b_na, b_nb, b_nc, b_ws, b_fb, b_pend, b_cst, b_fnode, b_fmode, b_fph, b_fi, b_vec, b_vlen) =>
    ∃ L, 1 ≤ L ∧ L ≤ 16 ∧ f_vectorLimit = nI L ∧ g_lim = nI L ∧ rl_txt f_textCount g_tlen a_text b_text ∧ rl_arg L a_cells a_lengths 0 g_xn b_xs ∧ rl_arg L a_cells a_lengths 1 g_yn b_ys ∧ rl_arg 16 a_cells a_lengths 2 g_rn b_res ∧ f_lastStatus = g_stat ∧
      rl_hld f_trainHeld g_held f_rootNode g_root f_canonCount g_clen a_nodeKind a_nodeFirst a_nodeSecond a_nodeThird a_canon b_kind b_nch b_na b_nb b_nc b_canon
theorem i_up {k : Nat} {u : SX} {v : SY} (h : i_Rel k u v) : i_Rel (k + 3) u v := h
theorem rl_z : ve_L (fun _ => 0) (fun _ => 0) 0 [] ∧ ve_L (fun _ => 0) (fun _ => 0) 1 [] ∧ ve_L (fun _ => 0) (fun _ => 0) 2 [] :=
  ⟨⟨by decide, rfl, fun i hi => absurd hi (Nat.not_lt_zero _)⟩, ⟨by decide, rfl, fun i hi => absurd hi (Nat.not_lt_zero _)⟩, ⟨by decide, rfl, fun i hi => absurd hi (Nat.not_lt_zero _)⟩⟩
theorem i_v0 {L : Nat} (h1 : 1 ≤ L) (h2 : L ≤ 16) : i_Rel 1 (nI L, 0, 0, 0, 0, 0, 0, 0, 0, 0, 0, 0, 0, 0, 6, (fun _ => 0), (fun _ => 0), (fun _ => 0), (fun _ => 0), (fun _ => 0), (fun _ => 0), (fun _ => 0), (fun _ => 0), (fun _ => 0), (fun _ => 0), (fun _ => 0), (fun _ => 0), (fun _ => 0), (fun _ => 0), (fun _ => 0), (fun _ => 0), (fun _ => 0))
    (nI L, 0, 0, 0, 0, 0, 0, 0, 6, 0, 0, 0, 0, 0, (fun _ => 0), (fun _ => 0), (fun _ => 0), (fun _ => 0), (fun _ => 0), (fun _ => 0), (fun _ => 0), (fun _ => 0), (fun _ => 0), (fun _ => 0), (fun _ => 0), (fun _ => 0), (fun _ => 0), (fun _ => 0), (fun _ => 0), (fun _ => 0), (fun _ => 0), (fun _ => 0), (fun _ => 0), (fun _ => 0)) :=
  ⟨L, h1, h2, rfl, rfl, ⟨0, by decide, rfl, rfl, fun j hj => absurd hj (Nat.not_lt_zero _)⟩, ⟨[], rl_z.1, Nat.zero_le _, rfl, fun i hi => absurd hi (Nat.not_lt_zero _)⟩, ⟨[], rl_z.2.1, Nat.zero_le _, rfl, fun i hi => absurd hi (Nat.not_lt_zero _)⟩, ⟨[], rl_z.2.2, Nat.zero_le _, rfl, fun i hi => absurd hi (Nat.not_lt_zero _)⟩, rfl, Or.inl ⟨rfl, rfl, rfl⟩⟩
theorem i_vc0 (k0 : Int32) : wpX_init (fun u => wpY_init (fun v => i_Rel 1 u v) k0) k0 := by
  by_cases a : 1 ≤ k0
  · by_cases b : k0 ≤ 16
    · obtain ⟨j, hj, rfl⟩ := nI_of2 (M := 16) (n := 16) (by decide) (Int32.not_lt.mpr (Int32.le_trans (by decide : (0 : Int32) ≤ 1) a)) b
      have h1 : 1 ≤ j := by
        have := (nI_leI (a := 1) (b := j) (by decide) (by omega)).mp a
        exact this
      exact br_t a (br_t b (br_t a (br_t b (i_v0 h1 hj))))
    · exact br_t a (br_f b (br_t a (br_f b (i_v0 (L := 16) (by decide) (by decide)))))
  · exact br_f a (br_f a (i_v0 (L := 1) (by decide) (by decide)))
theorem i_vc_limit {k : Nat} {u : SX} {v : SY} (I : i_Rel k u v) (hk : k + 3 ≤ 1537) : wpX_limit (fun r => wpY_limit (fun r' => r' = r ∧ i_Rel (k + 3) u v) v) u := by
  obtain ⟨f_vectorLimit, f_textCount, f_trainHeld, f_rootNode, f_nodeCount, f_wordCount, f_groupFirst, f_atopWaiting, f_groupCount, f_adverbCount, f_canonCount, f_postponedCount, f_frameCount, f_failure, f_lastStatus, a_text, a_nodeKind, a_nodeFirst, a_nodeSecond, a_nodeThird, a_words, a_outerFirst, a_outerAtop, a_canon, a_postponed, a_cells, a_lengths, a_frameNode, a_frameDyadic, a_frameX, a_frameY, a_framePhase⟩ := u
  obtain ⟨g_lim, g_tlen, g_held, g_root, g_clen, g_xn, g_yn, g_rn, g_stat, g_nn, g_wsp, g_depth, g_sp, g_err, b_text, b_canon, b_xs, b_ys, b_res, b_kind, b_nch, b_na, b_nb, b_nc, b_ws, b_fb, b_pend, b_cst, b_fnode, b_fmode, b_fph, b_fi, b_vec, b_vlen⟩ := v
  have II := I
  obtain ⟨L, l1, l2, rfl, rfl, htx, hax, hay, hrs, hst, hh⟩ := I
  exact ⟨rfl, II⟩
theorem i_vc_textLength {k : Nat} {u : SX} {v : SY} (I : i_Rel k u v) (hk : k + 3 ≤ 1537) : wpX_textLength (fun r => wpY_textLength (fun r' => r' = r ∧ i_Rel (k + 3) u v) v) u := by
  obtain ⟨f_vectorLimit, f_textCount, f_trainHeld, f_rootNode, f_nodeCount, f_wordCount, f_groupFirst, f_atopWaiting, f_groupCount, f_adverbCount, f_canonCount, f_postponedCount, f_frameCount, f_failure, f_lastStatus, a_text, a_nodeKind, a_nodeFirst, a_nodeSecond, a_nodeThird, a_words, a_outerFirst, a_outerAtop, a_canon, a_postponed, a_cells, a_lengths, a_frameNode, a_frameDyadic, a_frameX, a_frameY, a_framePhase⟩ := u
  obtain ⟨g_lim, g_tlen, g_held, g_root, g_clen, g_xn, g_yn, g_rn, g_stat, g_nn, g_wsp, g_depth, g_sp, g_err, b_text, b_canon, b_xs, b_ys, b_res, b_kind, b_nch, b_na, b_nb, b_nc, b_ws, b_fb, b_pend, b_cst, b_fnode, b_fmode, b_fph, b_fi, b_vec, b_vlen⟩ := v
  have II := I
  obtain ⟨L, l1, l2, rfl, rfl, htx, hax, hay, hrs, hst, hh⟩ := I
  obtain ⟨t, t1, rfl, rfl, t4⟩ := htx
  exact ⟨rfl, II⟩
theorem i_vc_status {k : Nat} {u : SX} {v : SY} (I : i_Rel k u v) (hk : k + 3 ≤ 1537) : wpX_status (fun r => wpY_status (fun r' => r' = r ∧ i_Rel (k + 3) u v) v) u := by
  obtain ⟨f_vectorLimit, f_textCount, f_trainHeld, f_rootNode, f_nodeCount, f_wordCount, f_groupFirst, f_atopWaiting, f_groupCount, f_adverbCount, f_canonCount, f_postponedCount, f_frameCount, f_failure, f_lastStatus, a_text, a_nodeKind, a_nodeFirst, a_nodeSecond, a_nodeThird, a_words, a_outerFirst, a_outerAtop, a_canon, a_postponed, a_cells, a_lengths, a_frameNode, a_frameDyadic, a_frameX, a_frameY, a_framePhase⟩ := u
  obtain ⟨g_lim, g_tlen, g_held, g_root, g_clen, g_xn, g_yn, g_rn, g_stat, g_nn, g_wsp, g_depth, g_sp, g_err, b_text, b_canon, b_xs, b_ys, b_res, b_kind, b_nch, b_na, b_nb, b_nc, b_ws, b_fb, b_pend, b_cst, b_fnode, b_fmode, b_fph, b_fi, b_vec, b_vlen⟩ := v
  have II := I
  obtain ⟨L, l1, l2, rfl, rfl, htx, hax, hay, hrs, hst, hh⟩ := I
  exact ⟨hst.symm, II⟩
theorem i_vc_hasTrain {k : Nat} {u : SX} {v : SY} (I : i_Rel k u v) (hk : k + 3 ≤ 1537) : wpX_hasTrain (fun r => wpY_hasTrain (fun r' => r' = r ∧ i_Rel (k + 3) u v) v) u := by
  obtain ⟨f_vectorLimit, f_textCount, f_trainHeld, f_rootNode, f_nodeCount, f_wordCount, f_groupFirst, f_atopWaiting, f_groupCount, f_adverbCount, f_canonCount, f_postponedCount, f_frameCount, f_failure, f_lastStatus, a_text, a_nodeKind, a_nodeFirst, a_nodeSecond, a_nodeThird, a_words, a_outerFirst, a_outerAtop, a_canon, a_postponed, a_cells, a_lengths, a_frameNode, a_frameDyadic, a_frameX, a_frameY, a_framePhase⟩ := u
  obtain ⟨g_lim, g_tlen, g_held, g_root, g_clen, g_xn, g_yn, g_rn, g_stat, g_nn, g_wsp, g_depth, g_sp, g_err, b_text, b_canon, b_xs, b_ys, b_res, b_kind, b_nch, b_na, b_nb, b_nc, b_ws, b_fb, b_pend, b_cst, b_fnode, b_fmode, b_fph, b_fi, b_vec, b_vlen⟩ := v
  have II := I
  obtain ⟨L, l1, l2, rfl, rfl, htx, hax, hay, hrs, hst, hh⟩ := I
  rcases hh with ⟨rfl, rfl, -⟩ | ⟨rfl, rfl, -⟩
  · exact ⟨rfl, rfl, rfl, II⟩
  · exact ⟨rfl, rfl, rfl, II⟩
theorem i_vc_canonLength {k : Nat} {u : SX} {v : SY} (I : i_Rel k u v) (hk : k + 3 ≤ 1537) : wpX_canonLength (fun r => wpY_canonLength (fun r' => r' = r ∧ i_Rel (k + 3) u v) v) u := by
  obtain ⟨f_vectorLimit, f_textCount, f_trainHeld, f_rootNode, f_nodeCount, f_wordCount, f_groupFirst, f_atopWaiting, f_groupCount, f_adverbCount, f_canonCount, f_postponedCount, f_frameCount, f_failure, f_lastStatus, a_text, a_nodeKind, a_nodeFirst, a_nodeSecond, a_nodeThird, a_words, a_outerFirst, a_outerAtop, a_canon, a_postponed, a_cells, a_lengths, a_frameNode, a_frameDyadic, a_frameX, a_frameY, a_framePhase⟩ := u
  obtain ⟨g_lim, g_tlen, g_held, g_root, g_clen, g_xn, g_yn, g_rn, g_stat, g_nn, g_wsp, g_depth, g_sp, g_err, b_text, b_canon, b_xs, b_ys, b_res, b_kind, b_nch, b_na, b_nb, b_nc, b_ws, b_fb, b_pend, b_cst, b_fnode, b_fmode, b_fph, b_fi, b_vec, b_vlen⟩ := v
  have II := I
  obtain ⟨L, l1, l2, rfl, rfl, htx, hax, hay, hrs, hst, hh⟩ := I
  rcases hh with ⟨rfl, rfl, rfl⟩ | ⟨rfl, rfl, N, q0, K, F, S, T, C, A, D, o, h1, h2, h3, h4, h5, rfl, rfl, h8, h9⟩
  · exact br_t rfl ⟨rfl, II⟩
  · exact br_f (by decide) ⟨rfl, II⟩
theorem i_vc_canonChar {k : Nat} {u : SX} {v : SY} (I : i_Rel k u v) (hk : k + 3 ≤ 1537) (v1 : Int32) : wpX_canonChar (fun r => wpY_canonChar (fun r' => r' = r ∧ i_Rel (k + 3) u v) v v1) u v1 := by
  obtain ⟨f_vectorLimit, f_textCount, f_trainHeld, f_rootNode, f_nodeCount, f_wordCount, f_groupFirst, f_atopWaiting, f_groupCount, f_adverbCount, f_canonCount, f_postponedCount, f_frameCount, f_failure, f_lastStatus, a_text, a_nodeKind, a_nodeFirst, a_nodeSecond, a_nodeThird, a_words, a_outerFirst, a_outerAtop, a_canon, a_postponed, a_cells, a_lengths, a_frameNode, a_frameDyadic, a_frameX, a_frameY, a_framePhase⟩ := u
  obtain ⟨g_lim, g_tlen, g_held, g_root, g_clen, g_xn, g_yn, g_rn, g_stat, g_nn, g_wsp, g_depth, g_sp, g_err, b_text, b_canon, b_xs, b_ys, b_res, b_kind, b_nch, b_na, b_nb, b_nc, b_ws, b_fb, b_pend, b_cst, b_fnode, b_fmode, b_fph, b_fi, b_vec, b_vlen⟩ := v
  have II := I
  obtain ⟨L, l1, l2, rfl, rfl, htx, hax, hay, hrs, hst, hh⟩ := I
  rcases hh with ⟨rfl, rfl, rfl⟩ | ⟨rfl, rfl, N, q0, K, F, S, T, C, A, D, o, h1, h2, h3, h4, h5, rfl, rfl, h8, h9⟩
  · exact br_c (fun z => br_t rfl ⟨rfl, II⟩) (fun z => br_f z (br_t rfl ⟨rfl, II⟩))
  · have o64 := h1.2.2.2.2.2.1
    by_cases z : v1 < 0
    · exact br_t z (br_f (by decide) (br_t z ⟨rfl, II⟩))
    · obtain ⟨j, hj, rfl⟩ := nI_of z
      refine br_f z (pk_lt j o.length (fun q => ?_) (fun q => ?_))
      · have e1 : (nI j).toNatClampNeg = j := nI_clamp hj
        have c1 := h1.2.2.2.2.2.2 j q
        have nr : narrow .char (.int (nI (o.getD j 0))) = .int (nI (o.getD j 0)) := (pk_charN (by omega)).1
        have x1 : a_canon (nI j).toNatClampNeg = nI (o.getD j 0) := by rw [e1]; exact h8 j q
        have y1 : b_canon (nI j).toNatClampNeg = nI (o.getD j 0) := by rw [e1]; exact h9 j q
        refine ⟨vp_in_nI (by omega) (by omega), by rw [x1]; exact nr, ?_⟩
        exact br_f (by decide) (br_f z (br_t (nI_lt q (by omega)) ⟨vp_in_nI (by omega) (by omega), by rw [y1]; exact nr, y1.trans x1.symm, II⟩))
      · exact br_f (by decide) (br_f z (br_f (nI_nlt q hj) ⟨rfl, II⟩))
theorem i_vc_argLength {k : Nat} {u : SX} {v : SY} (I : i_Rel k u v) (hk : k + 3 ≤ 1537) (v1 : Int32) : wpX_argLength (fun r => wpY_argLength (fun r' => r' = r ∧ i_Rel (k + 3) u v) v v1) u v1 := by
  obtain ⟨f_vectorLimit, f_textCount, f_trainHeld, f_rootNode, f_nodeCount, f_wordCount, f_groupFirst, f_atopWaiting, f_groupCount, f_adverbCount, f_canonCount, f_postponedCount, f_frameCount, f_failure, f_lastStatus, a_text, a_nodeKind, a_nodeFirst, a_nodeSecond, a_nodeThird, a_words, a_outerFirst, a_outerAtop, a_canon, a_postponed, a_cells, a_lengths, a_frameNode, a_frameDyadic, a_frameX, a_frameY, a_framePhase⟩ := u
  obtain ⟨g_lim, g_tlen, g_held, g_root, g_clen, g_xn, g_yn, g_rn, g_stat, g_nn, g_wsp, g_depth, g_sp, g_err, b_text, b_canon, b_xs, b_ys, b_res, b_kind, b_nch, b_na, b_nb, b_nc, b_ws, b_fb, b_pend, b_cst, b_fnode, b_fmode, b_fph, b_fi, b_vec, b_vlen⟩ := v
  have II := I
  obtain ⟨L, l1, l2, rfl, rfl, htx, hax, hay, hrs, hst, hh⟩ := I
  obtain ⟨ax, x1, x2, x3, x4⟩ := hax
  obtain ⟨ay, y1, y2, y3, y4⟩ := hay
  by_cases a : v1 = 0
  · subst a
    exact br_t rfl ⟨vp_in_iff.mpr (by decide), br_t rfl ⟨x3.trans x1.2.1.symm, II⟩⟩
  · by_cases b : v1 = 1
    · subst b
      exact br_f a (br_t rfl ⟨vp_in_iff.mpr (by decide), br_f a (br_t rfl ⟨y3.trans y1.2.1.symm, II⟩)⟩)
    · exact br_f a (br_f b (br_f a (br_f b ⟨rfl, II⟩)))
theorem i_vc_resultLength {k : Nat} {u : SX} {v : SY} (I : i_Rel k u v) (hk : k + 3 ≤ 1537) : wpX_resultLength (fun r => wpY_resultLength (fun r' => r' = r ∧ i_Rel (k + 3) u v) v) u := by
  obtain ⟨f_vectorLimit, f_textCount, f_trainHeld, f_rootNode, f_nodeCount, f_wordCount, f_groupFirst, f_atopWaiting, f_groupCount, f_adverbCount, f_canonCount, f_postponedCount, f_frameCount, f_failure, f_lastStatus, a_text, a_nodeKind, a_nodeFirst, a_nodeSecond, a_nodeThird, a_words, a_outerFirst, a_outerAtop, a_canon, a_postponed, a_cells, a_lengths, a_frameNode, a_frameDyadic, a_frameX, a_frameY, a_framePhase⟩ := u
  obtain ⟨g_lim, g_tlen, g_held, g_root, g_clen, g_xn, g_yn, g_rn, g_stat, g_nn, g_wsp, g_depth, g_sp, g_err, b_text, b_canon, b_xs, b_ys, b_res, b_kind, b_nch, b_na, b_nb, b_nc, b_ws, b_fb, b_pend, b_cst, b_fnode, b_fmode, b_fph, b_fi, b_vec, b_vlen⟩ := v
  have II := I
  obtain ⟨L, l1, l2, rfl, rfl, htx, hax, hay, hrs, hst, hh⟩ := I
  obtain ⟨rs, r1, r2, r3, r4⟩ := hrs
  exact ⟨r3.trans r1.2.1.symm, II⟩
theorem i_vc_resultAt {k : Nat} {u : SX} {v : SY} (I : i_Rel k u v) (hk : k + 3 ≤ 1537) (v1 : Int32) : wpX_resultAt (fun r => wpY_resultAt (fun r' => r' = r ∧ i_Rel (k + 3) u v) v v1) u v1 := by
  obtain ⟨f_vectorLimit, f_textCount, f_trainHeld, f_rootNode, f_nodeCount, f_wordCount, f_groupFirst, f_atopWaiting, f_groupCount, f_adverbCount, f_canonCount, f_postponedCount, f_frameCount, f_failure, f_lastStatus, a_text, a_nodeKind, a_nodeFirst, a_nodeSecond, a_nodeThird, a_words, a_outerFirst, a_outerAtop, a_canon, a_postponed, a_cells, a_lengths, a_frameNode, a_frameDyadic, a_frameX, a_frameY, a_framePhase⟩ := u
  obtain ⟨g_lim, g_tlen, g_held, g_root, g_clen, g_xn, g_yn, g_rn, g_stat, g_nn, g_wsp, g_depth, g_sp, g_err, b_text, b_canon, b_xs, b_ys, b_res, b_kind, b_nch, b_na, b_nb, b_nc, b_ws, b_fb, b_pend, b_cst, b_fnode, b_fmode, b_fph, b_fi, b_vec, b_vlen⟩ := v
  have II := I
  obtain ⟨L, l1, l2, rfl, rfl, htx, hax, hay, hrs, hst, hh⟩ := I
  obtain ⟨rs, r1, r2, r3, r4⟩ := hrs
  have l2e := r1.2.1
  by_cases z : v1 < 0
  · exact br_t z (br_t z ⟨rfl, II⟩)
  · obtain ⟨j, hj, rfl⟩ := nI_of z
    refine br_f z ?_
    rw [l2e]
    refine pk_lt j rs.length (fun q => ?_) (fun q => ?_)
    · have e1 : (nI j).toNatClampNeg = j := nI_clamp hj
      have e2 : (32 : Int32) + nI j = nI (32 + j) := nI_add 32 j
      have e3 : (nI (32 + j)).toNatClampNeg = 32 + j := nI_clamp (by omega)
      rw [e2, e3]
      refine ⟨vp_in_nI (by omega) (by omega), br_f z (br_t (by rw [r3]; exact nI_lt q (by omega)) ⟨vp_in_nI (by omega) (by omega), ?_, II⟩)⟩
      rw [e1, r4 j q]
      exact (r1.2.2 j q).symm
    · exact br_f z (br_f (by rw [r3]; exact nI_nlt q hj) ⟨rfl, II⟩)
theorem i_vc_clearArgs {k : Nat} {u : SX} {v : SY} (I : i_Rel k u v) (hk : k + 3 ≤ 1537) : wpX_clearArgs (fun u' => wpY_clearArgs (fun v' => i_Rel (k + 3) u' v') v) u := by
  obtain ⟨f_vectorLimit, f_textCount, f_trainHeld, f_rootNode, f_nodeCount, f_wordCount, f_groupFirst, f_atopWaiting, f_groupCount, f_adverbCount, f_canonCount, f_postponedCount, f_frameCount, f_failure, f_lastStatus, a_text, a_nodeKind, a_nodeFirst, a_nodeSecond, a_nodeThird, a_words, a_outerFirst, a_outerAtop, a_canon, a_postponed, a_cells, a_lengths, a_frameNode, a_frameDyadic, a_frameX, a_frameY, a_framePhase⟩ := u
  obtain ⟨g_lim, g_tlen, g_held, g_root, g_clen, g_xn, g_yn, g_rn, g_stat, g_nn, g_wsp, g_depth, g_sp, g_err, b_text, b_canon, b_xs, b_ys, b_res, b_kind, b_nch, b_na, b_nb, b_nc, b_ws, b_fb, b_pend, b_cst, b_fnode, b_fmode, b_fph, b_fi, b_vec, b_vlen⟩ := v
  obtain ⟨L, l1, l2, rfl, rfl, htx, hax, hay, hrs, hst, hh⟩ := I
  obtain ⟨rs, r1, r2, r3, r4⟩ := hrs
  refine nm_e (nm_e ⟨L, l1, l2, rfl, rfl, htx, ⟨[], ve_o ve_Fl (by decide) ve_nil, Nat.zero_le _, rfl, fun i hi => absurd hi (Nat.not_lt_zero _)⟩, ⟨[], ve_nil, Nat.zero_le _, rfl, fun i hi => absurd hi (Nat.not_lt_zero _)⟩, ⟨rs, ve_o ve_Fl (by decide) (ve_o ve_Fl (by decide) r1), r2, r3, r4⟩, hst, hh⟩)
theorem i_vc_clearText {k : Nat} {u : SX} {v : SY} (I : i_Rel k u v) (hk : k + 3 ≤ 1537) : wpX_clearText (fun u' => wpY_clearText (fun v' => i_Rel (k + 3) u' v') v) u := by
  obtain ⟨f_vectorLimit, f_textCount, f_trainHeld, f_rootNode, f_nodeCount, f_wordCount, f_groupFirst, f_atopWaiting, f_groupCount, f_adverbCount, f_canonCount, f_postponedCount, f_frameCount, f_failure, f_lastStatus, a_text, a_nodeKind, a_nodeFirst, a_nodeSecond, a_nodeThird, a_words, a_outerFirst, a_outerAtop, a_canon, a_postponed, a_cells, a_lengths, a_frameNode, a_frameDyadic, a_frameX, a_frameY, a_framePhase⟩ := u
  obtain ⟨g_lim, g_tlen, g_held, g_root, g_clen, g_xn, g_yn, g_rn, g_stat, g_nn, g_wsp, g_depth, g_sp, g_err, b_text, b_canon, b_xs, b_ys, b_res, b_kind, b_nch, b_na, b_nb, b_nc, b_ws, b_fb, b_pend, b_cst, b_fnode, b_fmode, b_fph, b_fi, b_vec, b_vlen⟩ := v
  obtain ⟨L, l1, l2, rfl, rfl, htx, hax, hay, hrs, hst, hh⟩ := I
  exact ⟨L, l1, l2, rfl, rfl, ⟨0, by decide, rfl, rfl, fun j hj => absurd hj (Nat.not_lt_zero _)⟩, hax, hay, hrs, hst, Or.inl ⟨rfl, rfl, rfl⟩⟩
end
section
/-! putChar, pushArg, parse, apply -/
theorem xw_vd {post : Int32 → Prop} {k : Nat} (hk : k < 65536) (h1 : pr_lf k → post 1) (h0 : ¬ pr_lf k → post 0) : wpX_isVerbOrDigit post (nI k) := by
  unfold pr_lf pr_vb pr_dig at h1 h0
  have dig : ¬ (k = 43 ∨ k = 45 ∨ k = 42 ∨ k = 60 ∨ k = 62 ∨ k = 91 ∨ k = 93 ∨ k = 35 ∨ k = 44 ∨ k = 124) → wpX_isDigit (fun r_11 => (narrow .boolean (.int r_11) = .int r_11 ∧ (post r_11))) (nI k) := fun z =>
    pk_lt k 48 (fun e => ⟨rfl, h0 (by omega)⟩) (fun e => pk_lt 57 k (fun e' => ⟨rfl, h0 (by omega)⟩) (fun e' => ⟨rfl, h1 (Or.inr ⟨e, e'⟩)⟩))
  exact pk_eq k 35 (fun e => h1 (by omega)) (fun e1 => pk_eq k 42 (fun e => h1 (by omega)) (fun e2 => pk_eq k 43 (fun e => h1 (by omega)) (fun e3 => pk_eq k 44 (fun e => h1 (by omega)) (fun e4 => pk_eq k 45 (fun e => h1 (by omega)) (fun e5 => pk_eq k 60 (fun e => h1 (by omega)) (fun e6 => pk_eq k 62 (fun e => h1 (by omega)) (fun e7 => pk_eq k 91 (fun e => h1 (by omega)) (fun e8 => pk_eq k 93 (fun e => h1 (by omega)) (fun e9 => pk_eq k 124 (fun e => h1 (by omega)) (fun e10 => dig (by omega)))))))))))
theorem xw_al {post : Int32 → Prop} {k : Nat} (hk : k < 65536) (h1 : rp_al k → post 1) (h0 : ¬ rp_al k → post 0) : wpX_isAlphabet post (nI k) := by
  unfold rp_al pr_av at h1 h0
  refine xw_vd hk (fun e => br_f (by decide) (h1 (Or.inl e))) (fun e => br_t rfl ?_)
  have rest : ¬ (k = 47 ∨ k = 92 ∨ k = 34) → ((nI k = 64 → post 1) ∧ (¬ nI k = 64 → ((nI k = 40 → post 1) ∧ (¬ nI k = 40 → ((nI k = 41 → post 1) ∧ (¬ nI k = 41 → post 0)))))) := fun z =>
    pk_eq k 64 (fun q => h1 (by omega)) (fun q1 => pk_eq k 40 (fun q => h1 (by omega)) (fun q2 => pk_eq k 41 (fun q => h1 (by omega)) (fun q3 => h0 (by
      rintro (q | q | q | q | q)
      · exact e q
      · exact z q
      · exact q1 q
      · exact q2 q
      · exact q3 q))))
  exact pk_eq k 47 (fun q => br_f (by decide) (h1 (by omega))) (fun q1 => pk_eq k 92 (fun q => br_f (by decide) (h1 (by omega))) (fun q2 => pk_eq k 34 (fun q => br_f (by decide) (h1 (by omega))) (fun q3 => br_t rfl (rest (by omega)))))
theorem yw_al {g_lim g_tlen g_held g_root g_clen g_xn g_yn g_rn g_stat g_nn g_wsp g_depth g_sp g_err : Int32} {b_text b_canon b_xs b_ys b_res b_kind b_nch b_na b_nb b_nc b_ws b_fb b_pend b_cst b_fnode b_fmode b_fph b_fi b_vec b_vlen : Nat → Int32} {post : Int32 → SY → Prop} {k : Nat} (hk : k < 65536) (h1 : rp_al k → wY_putChar_61 post (nI k) 1 g_lim g_tlen g_held g_root g_clen g_xn g_yn g_rn g_stat g_nn g_wsp g_depth g_sp g_err b_text b_canon b_xs b_ys b_res b_kind b_nch b_na b_nb b_nc b_ws b_fb b_pend b_cst b_fnode b_fmode b_fph b_fi b_vec b_vlen) (h0 : ¬ rp_al k → wY_putChar_61 post (nI k) 0 g_lim g_tlen g_held g_root g_clen g_xn g_yn g_rn g_stat g_nn g_wsp g_depth g_sp g_err b_text b_canon b_xs b_ys b_res b_kind b_nch b_na b_nb b_nc b_ws b_fb b_pend b_cst b_fnode b_fmode b_fph b_fi b_vec b_vlen) : wpY_putChar post (g_lim, g_tlen, g_held, g_root, g_clen, g_xn, g_yn, g_rn, g_stat, g_nn, g_wsp, g_depth, g_sp, g_err, b_text, b_canon, b_xs, b_ys, b_res, b_kind, b_nch, b_na, b_nb, b_nc, b_ws, b_fb, b_pend, b_cst, b_fnode, b_fmode, b_fph, b_fi, b_vec, b_vlen) (nI k) := by
  have h20 : ¬ pr_lf k → wY_putChar_20 post (nI k) g_lim g_tlen g_held g_root g_clen g_xn g_yn g_rn g_stat g_nn g_wsp g_depth g_sp g_err b_text b_canon b_xs b_ys b_res b_kind b_nch b_na b_nb b_nc b_ws b_fb b_pend b_cst b_fnode b_fmode b_fph b_fi b_vec b_vlen := by
    intro z
    unfold rp_al pr_av at h1 h0
    exact pk_eq k 47 (fun q => h1 (by omega)) (fun q1 => pk_eq k 92 (fun q => h1 (by omega)) (fun q2 => pk_eq k 34 (fun q => h1 (by omega)) (fun q3 => pk_eq k 64 (fun q => h1 (by omega)) (fun q4 => pk_eq k 40 (fun q => h1 (by omega)) (fun q5 => pk_eq k 41 (fun q => h1 (by omega)) (fun q6 => h0 (by
      rintro (q | q | q | q | q)
      · exact z q
      · omega
      · exact q4 q
      · exact q5 q
      · exact q6 q)))))))
  unfold wpY_putChar
  refine yv_vb hk (fun e => br_f (by decide) (h1 (Or.inl (Or.inl e)))) (fun e => br_t rfl ?_)
  refine pk_lt k 48 (fun q => h20 ?_) (fun q => pk_le k 57 (fun q1 => h1 (Or.inl (Or.inr ⟨q, q1⟩))) (fun q1 => h20 ?_))
  · rintro (z | z)
    · exact e z
    · unfold pr_dig at z; omega
  · rintro (z | z)
    · exact e z
    · unfold pr_dig at z; omega
theorem i_vc_putChar {k : Nat} {u : SX} {v : SY} (I : i_Rel k u v) (hk : k + 3 ≤ 1537) (v1 : Int32) : wpX_putChar (fun r u' => wpY_putChar (fun r' v' => r' = r ∧ i_Rel (k + 3) u' v') v (lw_u16 v1)) u (lw_u16 v1) := by
  have e16 : lw_u16 v1 = nI (v1.toBitVec.toNat % 65536) := pk_char v1
  rw [e16]
  have hw : v1.toBitVec.toNat % 65536 < 65536 := Nat.mod_lt _ (by decide)
  generalize v1.toBitVec.toNat % 65536 = w at hw
  obtain ⟨f_vectorLimit, f_textCount, f_trainHeld, f_rootNode, f_nodeCount, f_wordCount, f_groupFirst, f_atopWaiting, f_groupCount, f_adverbCount, f_canonCount, f_postponedCount, f_frameCount, f_failure, f_lastStatus, a_text, a_nodeKind, a_nodeFirst, a_nodeSecond, a_nodeThird, a_words, a_outerFirst, a_outerAtop, a_canon, a_postponed, a_cells, a_lengths, a_frameNode, a_frameDyadic, a_frameX, a_frameY, a_framePhase⟩ := u
  obtain ⟨g_lim, g_tlen, g_held, g_root, g_clen, g_xn, g_yn, g_rn, g_stat, g_nn, g_wsp, g_depth, g_sp, g_err, b_text, b_canon, b_xs, b_ys, b_res, b_kind, b_nch, b_na, b_nb, b_nc, b_ws, b_fb, b_pend, b_cst, b_fnode, b_fmode, b_fph, b_fi, b_vec, b_vlen⟩ := v
  have II := I
  obtain ⟨L, l1, l2, rfl, rfl, htx, hax, hay, hrs, hst, hh⟩ := I
  obtain ⟨t, t1, rfl, rfl, t4⟩ := htx
  have e1 : (nI t).toNatClampNeg = t := nI_clamp (by omega)
  unfold wpX_putChar
  refine xw_al hw (fun al => br_f (by decide) (pk_lt t 32 (fun q => ⟨vp_in_nI (by omega) (by omega), nm_r (e' := upd a_text t (nI w)) (by rw [e1, ax_nc hw]) (nm_r (nI_1 t) ?_)⟩) (fun q => ?_))) (fun al => br_t rfl ?_)
  · refine yw_al hw (fun _ => ?_) (fun z => absurd al z)
    unfold wY_putChar_61
    refine br_f (by decide) (br_t (nI_lt (b := 32) q (by decide)) ⟨vp_in_nI (by omega) (by omega), nm_r (e' := upd b_text t (nI w)) (by rw [e1, ax_nc hw]) (nm_r (nI_1 t) ⟨rfl, ?_⟩)⟩)
    refine ⟨L, l1, l2, rfl, rfl, ⟨t + 1, by omega, rfl, rfl, fun j hj => ?_⟩, hax, hay, hrs, hst, Or.inl ⟨rfl, rfl, rfl⟩⟩
    by_cases z : j = t
    · subst z; exact ⟨w, al, pk_us, pk_us⟩
    · rw [pk_un z, pk_un z]; exact t4 j (by omega)
  · refine yw_al hw (fun _ => ?_) (fun z => absurd al z)
    unfold wY_putChar_61
    exact br_f (by decide) (br_f (nI_nlt (b := 32) q (by omega)) ⟨rfl, II⟩)
  · refine yw_al hw (fun z => absurd z al) (fun _ => ?_)
    unfold wY_putChar_61
    exact br_t rfl ⟨rfl, II⟩
theorem rl_push {L : Nat} {c l : Nat → Int32} {s : Nat} {b : Nat → Int32} {xs : List Int32} (v : Int32) (h : ve_L c l s xs) (hL : L ≤ 16) (hx : xs.length < L) (hb : ∀ i, i < xs.length → b i = xs.getD i 0) :
    rl_arg L (upd c (16 * s + xs.length) v) (upd l s (nI (xs.length + 1))) s (nI (xs.length + 1)) (upd b xs.length v) := by
  refine ⟨xs ++ [v], ve_app v h (by omega), by rw [ve_len]; omega, by rw [ve_len], fun i hi => ?_⟩
  rw [ve_len] at hi
  by_cases z : i = xs.length
  · rw [z, ve_gr]; exact pk_us
  · rw [ve_gl (by omega), pk_un z]; exact hb i (by omega)
theorem rl_argo {L : Nat} {c l c' l' : Nat → Int32} {P : Nat → Prop} {s : Nat} {g : Int32} {b : Nat → Int32} (hF : ve_F P c l c' l') (hs : ¬ P s) (h : rl_arg L c l s g b) : rl_arg L c' l' s g b := by
  obtain ⟨xs, h1, h2, h3, h4⟩ := h
  exact ⟨xs, ve_o hF hs h1, h2, h3, h4⟩
theorem i_vc_pushArg {k : Nat} {u : SX} {v : SY} (I : i_Rel k u v) (hk : k + 3 ≤ 1537) (v1 : Int32) (v2 : Int32) : wpX_pushArg (fun r u' => wpY_pushArg (fun r' v' => r' = r ∧ i_Rel (k + 3) u' v') v v1 v2) u v1 v2 := by
  obtain ⟨f_vectorLimit, f_textCount, f_trainHeld, f_rootNode, f_nodeCount, f_wordCount, f_groupFirst, f_atopWaiting, f_groupCount, f_adverbCount, f_canonCount, f_postponedCount, f_frameCount, f_failure, f_lastStatus, a_text, a_nodeKind, a_nodeFirst, a_nodeSecond, a_nodeThird, a_words, a_outerFirst, a_outerAtop, a_canon, a_postponed, a_cells, a_lengths, a_frameNode, a_frameDyadic, a_frameX, a_frameY, a_framePhase⟩ := u
  obtain ⟨g_lim, g_tlen, g_held, g_root, g_clen, g_xn, g_yn, g_rn, g_stat, g_nn, g_wsp, g_depth, g_sp, g_err, b_text, b_canon, b_xs, b_ys, b_res, b_kind, b_nch, b_na, b_nb, b_nc, b_ws, b_fb, b_pend, b_cst, b_fnode, b_fmode, b_fph, b_fi, b_vec, b_vlen⟩ := v
  have II := I
  obtain ⟨L, l1, l2, rfl, rfl, htx, hax, hay, hrs, hst, hh⟩ := I
  by_cases a : v1 = 0
  · subst a
    obtain ⟨ax, x1, x2, x3, x4⟩ := hax
    subst x3
    have e1 : (nI ax.length).toNatClampNeg = ax.length := nI_clamp (by omega)
    have xl : a_lengths (0 : Int32).toNatClampNeg = nI ax.length := x1.2.1
    refine br_t rfl ?_
    unfold wX_pushArg_11
    refine ⟨vp_in_iff.mpr (by decide), ?_⟩
    rw [xl]
    refine pk_lt ax.length L (fun q => ?_) (fun q => ?_)
    · refine xv_append (s := 0) (n := ax.length) (by omega) (by omega) x1.2.1 ?_
      refine br_t rfl (br_t (nI_lt q (by omega)) ⟨vp_in_nI (by omega) (by omega), nm_r (e' := upd b_xs ax.length v2) (by rw [e1]) (nm_r (nI_1 _) ⟨rfl, ?_⟩)⟩)
      have hF : ve_F (fun t => t = 0) a_cells a_lengths (upd a_cells (16 * 0 + ax.length) v2) (upd a_lengths 0 (nI (ax.length + 1))) := ve_Fu (by omega)
      exact ⟨L, l1, l2, rfl, rfl, htx, rl_push v2 x1 l2 q x4, rl_argo hF (by decide) hay, rl_argo hF (by decide) hrs, hst, hh⟩
    · exact br_t rfl (br_f (nI_nlt q (by omega)) ⟨rfl, II⟩)
  · refine br_f a ?_
    by_cases b : v1 = 1
    · subst b
      obtain ⟨ay, y1, y2, y3, y4⟩ := hay
      subst y3
      have e1 : (nI ay.length).toNatClampNeg = ay.length := nI_clamp (by omega)
      have yl : a_lengths (1 : Int32).toNatClampNeg = nI ay.length := y1.2.1
      refine br_t rfl ?_
      unfold wX_pushArg_11
      refine ⟨vp_in_iff.mpr (by decide), ?_⟩
      rw [yl]
      refine pk_lt ay.length L (fun q => ?_) (fun q => ?_)
      · refine xv_append (s := 1) (n := ay.length) (by omega) (by omega) y1.2.1 ?_
        refine br_f a (br_t rfl (br_t (nI_lt q (by omega)) ⟨vp_in_nI (by omega) (by omega), nm_r (e' := upd b_ys ay.length v2) (by rw [e1]) (nm_r (nI_1 _) ⟨rfl, ?_⟩)⟩))
        have hF : ve_F (fun t => t = 1) a_cells a_lengths (upd a_cells (16 * 1 + ay.length) v2) (upd a_lengths 1 (nI (ay.length + 1))) := ve_Fu (by omega)
        exact ⟨L, l1, l2, rfl, rfl, htx, rl_argo hF (by decide) hax, rl_push v2 y1 l2 q y4, rl_argo hF (by decide) hrs, hst, hh⟩
      · exact br_f a (br_t rfl (br_f (nI_nlt q (by omega)) ⟨rfl, II⟩))
    · exact br_f b (br_f a (br_f b ⟨rfl, II⟩))
theorem i_vc_parse {k : Nat} {u : SX} {v : SY} (I : i_Rel k u v) (hk : k + 3 ≤ 1537) : wpX_parse (fun r u' => wpY_parse (fun r' v' => r' = r ∧ i_Rel (k + 3) u' v') v) u := by
  obtain ⟨f_vectorLimit, f_textCount, f_trainHeld, f_rootNode, f_nodeCount, f_wordCount, f_groupFirst, f_atopWaiting, f_groupCount, f_adverbCount, f_canonCount, f_postponedCount, f_frameCount, f_failure, f_lastStatus, a_text, a_nodeKind, a_nodeFirst, a_nodeSecond, a_nodeThird, a_words, a_outerFirst, a_outerAtop, a_canon, a_postponed, a_cells, a_lengths, a_frameNode, a_frameDyadic, a_frameX, a_frameY, a_framePhase⟩ := u
  obtain ⟨g_lim, g_tlen, g_held, g_root, g_clen, g_xn, g_yn, g_rn, g_stat, g_nn, g_wsp, g_depth, g_sp, g_err, b_text, b_canon, b_xs, b_ys, b_res, b_kind, b_nch, b_na, b_nb, b_nc, b_ws, b_fb, b_pend, b_cst, b_fnode, b_fmode, b_fph, b_fi, b_vec, b_vlen⟩ := v
  have II := I
  obtain ⟨L, l1, l2, rfl, rfl, htx, hax, hay, hrs, hst, hh⟩ := I
  rcases hh with ⟨rfl, rfl, rfl⟩ | ⟨rfl, rfl, hT⟩
  · obtain ⟨t, t1, rfl, rfl, t4⟩ := htx
    rcases pa_both (f_vectorLimit := nI L) (f_textCount := nI t) (f_trainHeld := 0) (f_rootNode := f_rootNode) (f_nodeCount := f_nodeCount) (f_wordCount := f_wordCount) (f_groupFirst := f_groupFirst) (f_atopWaiting := f_atopWaiting) (f_groupCount := f_groupCount) (f_adverbCount := f_adverbCount) (f_canonCount := 0) (f_postponedCount := f_postponedCount) (f_frameCount := f_frameCount) (f_failure := f_failure) (f_lastStatus := f_lastStatus) (a_text := a_text) (a_nodeKind := a_nodeKind) (a_nodeFirst := a_nodeFirst) (a_nodeSecond := a_nodeSecond) (a_nodeThird := a_nodeThird) (a_words := a_words) (a_outerFirst := a_outerFirst) (a_outerAtop := a_outerAtop) (a_canon := a_canon) (a_postponed := a_postponed) (a_cells := a_cells) (a_lengths := a_lengths) (a_frameNode := a_frameNode) (a_frameDyadic := a_frameDyadic) (a_frameX := a_frameX) (a_frameY := a_frameY) (a_framePhase := a_framePhase) (g_lim := nI L) (g_tlen := nI t) (g_held := 0) (g_root := g_root) (g_clen := g_clen) (g_xn := g_xn) (g_yn := g_yn) (g_rn := g_rn) (g_stat := g_stat) (g_nn := g_nn) (g_wsp := g_wsp) (g_depth := g_depth) (g_sp := g_sp) (g_err := g_err) (b_text := b_text) (b_canon := b_canon) (b_xs := b_xs) (b_ys := b_ys) (b_res := b_res) (b_kind := b_kind) (b_nch := b_nch) (b_na := b_na) (b_nb := b_nb) (b_nc := b_nc) (b_ws := b_ws) (b_fb := b_fb) (b_pend := b_pend) (b_cst := b_cst) (b_fnode := b_fnode) (b_fmode := b_fmode) (b_fph := b_fph) (b_fi := b_fi) (b_vec := b_vec) (b_vlen := b_vlen) t1 rfl rfl rfl rfl t4 with ⟨hX, hY⟩ | ⟨N, q0, K, F, S, T, C, A, D, o', hok, hX, hY⟩
    · refine hX _ fun u' hu' => hY _ fun v' hv' => ⟨rfl, ?_⟩
      obtain ⟨n1, n2, n3, n4, n5, n6, kx, fx, sx, tx, ws, f, o, rfl⟩ := hu'
      obtain ⟨m1, m2, m3, ky, ch, na, nb, nc, ws2, f2, pd, rfl⟩ := hv'
      exact ⟨L, l1, l2, rfl, rfl, ⟨t, t1, rfl, rfl, t4⟩, hax, hay, hrs, hst, Or.inl ⟨rfl, rfl, rfl⟩⟩
    · refine hX _ fun pc ap ac n1 n2 n3 n4 n5 n6 kx fx sx tx ws f o hTX hO => hY _ fun cs ac2 m1 m2 m3 ky ch na nb nc ws2 f2 pd hTY hO2 => ⟨rfl, ?_⟩
      exact ⟨L, l1, l2, rfl, rfl, ⟨t, t1, rfl, rfl, t4⟩, hax, hay, hrs, hst, Or.inr ⟨rfl, rfl, N, q0, K, F, S, T, C, A, D, o', hok, hTX, hTY, rfl, rfl, rfl, rfl, hO, hO2⟩⟩
  · exact br_f (by decide) (br_f (by decide) ⟨rfl, II⟩)
theorem i_wy {g_lim g_tlen g_held g_root g_clen g_xn g_yn g_rn g_stat g_nn g_wsp g_depth g_sp g_err : Int32} {b_text b_canon b_xs b_ys b_res b_kind b_nch b_na b_nb b_nc b_ws b_fb b_pend b_cst b_fnode b_fmode b_fph b_fi b_vec b_vlen : Nat → Int32} {P : Int32 → SY → Prop} (d : Bool) (h : wY_apply_12 P (xm_m d) g_lim g_tlen g_held g_root g_clen g_xn g_yn g_rn g_stat g_nn g_wsp g_depth g_sp g_err b_text b_canon b_xs b_ys b_res b_kind b_nch b_na b_nb b_nc b_ws b_fb b_pend b_cst b_fnode b_fmode b_fph b_fi b_vec b_vlen) : wpY_apply P (g_lim, g_tlen, g_held, g_root, g_clen, g_xn, g_yn, g_rn, g_stat, g_nn, g_wsp, g_depth, g_sp, g_err, b_text, b_canon, b_xs, b_ys, b_res, b_kind, b_nch, b_na, b_nb, b_nc, b_ws, b_fb, b_pend, b_cst, b_fnode, b_fmode, b_fph, b_fi, b_vec, b_vlen) (xm_m d) := by
  cases d
  · exact br_t rfl h
  · exact br_f (by decide) (br_t rfl h)
theorem i_ap {f_vectorLimit f_textCount f_trainHeld f_rootNode f_nodeCount f_wordCount f_groupFirst f_atopWaiting f_groupCount f_adverbCount f_canonCount f_postponedCount f_frameCount f_failure f_lastStatus : Int32} {a_text a_nodeKind a_nodeFirst a_nodeSecond a_nodeThird a_words a_outerFirst a_outerAtop a_canon a_postponed a_cells a_lengths a_frameNode a_frameDyadic a_frameX a_frameY a_framePhase : Nat → Int32} {g_lim g_tlen g_held g_root g_clen g_xn g_yn g_rn g_stat g_nn g_wsp g_depth g_sp g_err : Int32} {b_text b_canon b_xs b_ys b_res b_kind b_nch b_na b_nb b_nc b_ws b_fb b_pend b_cst b_fnode b_fmode b_fph b_fi b_vec b_vlen : Nat → Int32} {k : Nat} (d : Bool) (I : i_Rel k (f_vectorLimit, f_textCount, f_trainHeld, f_rootNode, f_nodeCount, f_wordCount, f_groupFirst, f_atopWaiting, f_groupCount, f_adverbCount, f_canonCount, f_postponedCount, f_frameCount, f_failure, f_lastStatus, a_text, a_nodeKind, a_nodeFirst, a_nodeSecond, a_nodeThird, a_words, a_outerFirst, a_outerAtop, a_canon, a_postponed, a_cells, a_lengths, a_frameNode, a_frameDyadic, a_frameX, a_frameY, a_framePhase) (g_lim, g_tlen, g_held, g_root, g_clen, g_xn, g_yn, g_rn, g_stat, g_nn, g_wsp, g_depth, g_sp, g_err, b_text, b_canon, b_xs, b_ys, b_res, b_kind, b_nch, b_na, b_nb, b_nc, b_ws, b_fb, b_pend, b_cst, b_fnode, b_fmode, b_fph, b_fi, b_vec, b_vlen)) :
    wX_apply_12 (fun r u' => wpY_apply (fun r' v' => r' = r ∧ i_Rel (k + 3) u' v') (g_lim, g_tlen, g_held, g_root, g_clen, g_xn, g_yn, g_rn, g_stat, g_nn, g_wsp, g_depth, g_sp, g_err, b_text, b_canon, b_xs, b_ys, b_res, b_kind, b_nch, b_na, b_nb, b_nc, b_ws, b_fb, b_pend, b_cst, b_fnode, b_fmode, b_fph, b_fi, b_vec, b_vlen) (xm_m d)) (xm_m d) f_vectorLimit f_textCount f_trainHeld f_rootNode f_nodeCount f_wordCount f_groupFirst f_atopWaiting f_groupCount f_adverbCount f_canonCount f_postponedCount f_frameCount f_failure f_lastStatus a_text a_nodeKind a_nodeFirst a_nodeSecond a_nodeThird a_words a_outerFirst a_outerAtop a_canon a_postponed a_cells a_lengths a_frameNode a_frameDyadic a_frameX a_frameY a_framePhase := by
  have II := I
  obtain ⟨L, l1, l2, rfl, rfl, htx, hax, hay, hrs, hst, hh⟩ := I
  obtain ⟨t, t1, rfl, rfl, t4⟩ := htx
  obtain ⟨ax, x1, x2, x3, x4⟩ := hax
  obtain ⟨ay, y1, y2, y3, y4⟩ := hay
  rcases hh with ⟨rfl, rfl, rfl⟩ | ⟨rfl, rfl, N, q0, K, F, S, T, C, A, D, o', hok, hTX, hTY, hr, hr2, hc1, hc2, hO, hO2⟩
  · exact br_t rfl (i_wy d (br_t rfl ⟨rfl, II⟩))
  · obtain ⟨p1, p2, p3, p4, p5, p6, p7⟩ := hok
    obtain ⟨e, R, he, hX, hY⟩ := ap_both (f_textCount := nI t) (f_trainHeld := 1) (f_rootNode := f_rootNode) (f_nodeCount := f_nodeCount) (f_wordCount := f_wordCount) (f_groupFirst := f_groupFirst) (f_atopWaiting := f_atopWaiting) (f_groupCount := f_groupCount) (f_adverbCount := f_adverbCount) (f_canonCount := f_canonCount) (f_postponedCount := f_postponedCount) (f_lastStatus := f_lastStatus) (a_text := a_text) (a_nodeKind := a_nodeKind) (a_nodeFirst := a_nodeFirst) (a_nodeSecond := a_nodeSecond) (a_nodeThird := a_nodeThird) (a_words := a_words) (a_outerFirst := a_outerFirst) (a_outerAtop := a_outerAtop) (a_canon := a_canon) (a_postponed := a_postponed) (a_cells := a_cells) (a_lengths := a_lengths) (a_frameNode := a_frameNode) (a_frameDyadic := a_frameDyadic) (a_frameX := a_frameX) (a_frameY := a_frameY) (a_framePhase := a_framePhase) (g_tlen := nI t) (g_held := 1) (g_root := g_root) (g_clen := g_clen) (g_xn := g_xn) (g_yn := g_yn) (g_rn := g_rn) (g_stat := g_stat) (g_nn := g_nn) (g_wsp := g_wsp) (g_depth := g_depth) (g_sp := g_sp) (g_err := g_err) (b_text := b_text) (b_canon := b_canon) (b_xs := b_xs) (b_ys := b_ys) (b_res := b_res) (b_kind := b_kind) (b_nch := b_nch) (b_na := b_na) (b_nb := b_nb) (b_nc := b_nc) (b_ws := b_ws) (b_fb := b_fb) (b_pend := b_pend) (b_cst := b_cst) (b_fnode := b_fnode) (b_fmode := b_fmode) (b_fph := b_fph) (b_fi := b_fi) (b_vec := b_vec) (b_vlen := b_vlen) d l2 p2 p1 hTX hTY p3 p4 p5 hr hr2 x1 y1 x3 y3 x4 y4
    have go : wX_apply_46 (fun r u' => wpY_apply (fun r' v' => r' = r ∧ i_Rel (k + 3) u' v') (nI L, nI t, 1, g_root, g_clen, g_xn, g_yn, g_rn, g_stat, g_nn, g_wsp, g_depth, g_sp, g_err, b_text, b_canon, b_xs, b_ys, b_res, b_kind, b_nch, b_na, b_nb, b_nc, b_ws, b_fb, b_pend, b_cst, b_fnode, b_fmode, b_fph, b_fi, b_vec, b_vlen) (xm_m d)) (xm_b d) f_rootNode (nI L) (nI t) 1 f_rootNode f_nodeCount f_wordCount f_groupFirst f_atopWaiting f_groupCount f_adverbCount f_canonCount f_postponedCount 0 0 f_lastStatus a_text a_nodeKind a_nodeFirst a_nodeSecond a_nodeThird a_words a_outerFirst a_outerAtop a_canon a_postponed a_cells a_lengths a_frameNode a_frameDyadic a_frameX a_frameY a_framePhase := by
      refine hX _ fun fl fc c l fn fd fx fy fp c0 c1 c2 => i_wy d (br_f (by decide) ?_)
      refine hY _ fun er sp vc vl fn2 fm fp2 fi rs hrs2 => ⟨rfl, ?_⟩
      exact ⟨L, l1, l2, rfl, rfl, ⟨t, t1, rfl, rfl, t4⟩, ⟨ax, c0, x2, x3, x4⟩, ⟨ay, c1, y2, y3, y4⟩, ⟨_, c2, c2.1, rfl, hrs2⟩, rfl, Or.inr ⟨rfl, rfl, N, q0, K, F, S, T, C, A, D, o', ⟨p1, p2, p3, p4, p5, p6, p7⟩, hTX, hTY, hr, hr2, hc1, hc2, hO, hO2⟩⟩
    refine br_f (by decide) (ys_d2 d (fun hd => ?_) (fun hd => ?_))
    · subst hd; exact go
    · subst hd; exact go
theorem i_vc_apply {k : Nat} {u : SX} {v : SY} (I : i_Rel k u v) (hk : k + 3 ≤ 1537) (v1 : Int32) : wpX_apply (fun r u' => wpY_apply (fun r' v' => r' = r ∧ i_Rel (k + 3) u' v') v v1) u v1 := by
  obtain ⟨f_vectorLimit, f_textCount, f_trainHeld, f_rootNode, f_nodeCount, f_wordCount, f_groupFirst, f_atopWaiting, f_groupCount, f_adverbCount, f_canonCount, f_postponedCount, f_frameCount, f_failure, f_lastStatus, a_text, a_nodeKind, a_nodeFirst, a_nodeSecond, a_nodeThird, a_words, a_outerFirst, a_outerAtop, a_canon, a_postponed, a_cells, a_lengths, a_frameNode, a_frameDyadic, a_frameX, a_frameY, a_framePhase⟩ := u
  obtain ⟨g_lim, g_tlen, g_held, g_root, g_clen, g_xn, g_yn, g_rn, g_stat, g_nn, g_wsp, g_depth, g_sp, g_err, b_text, b_canon, b_xs, b_ys, b_res, b_kind, b_nch, b_na, b_nb, b_nc, b_ws, b_fb, b_pend, b_cst, b_fnode, b_fmode, b_fph, b_fi, b_vec, b_vlen⟩ := v
  by_cases a : v1 = 1
  · subst a
    exact br_t rfl (i_ap false I)
  · by_cases b : v1 = 2
    · subst b
      exact br_f a (br_t rfl (i_ap true I))
    · exact br_f a (br_f b (br_f a (br_f b ⟨rfl, I⟩)))
end
