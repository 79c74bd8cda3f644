/-! trees by numbered nodes, and words: the two sides' arrays, ghosts over naturals -/
def tr_u (f : Nat → Nat) (k v : Nat) : Nat → Nat := fun j => if j = k then v else f j
theorem tr_us {f : Nat → Nat} {k v : Nat} : tr_u f k v k = v := if_pos rfl
theorem tr_un {f : Nat → Nat} {k v j : Nat} (h : j ≠ k) : tr_u f k v j = f j := if_neg h
def tr_X (N : Nat) (K F S T : Nat → Nat) (kx fx sx tx : Nat → Int32) : Prop :=
  ∀ n, n < N → kx n = nI (K n) ∧ fx n = nI (F n) ∧ sx n = nI (S n) ∧ tx n = nI (T n)
def tr_ky (k : Nat) : Nat := if k = 1 then 3 else if k = 2 then 4 else if k = 64 then 2 else if k = 47 ∨ k = 92 ∨ k = 34 then 1 else 0
def tr_cy (k : Nat) : Nat := if k = 1 ∨ k = 2 then 32 else k
def tr_Y (N : Nat) (K F S T : Nat → Nat) (ky ch na nb nc : Nat → Int32) : Prop :=
  ∀ n, n < N → ky n = nI (tr_ky (K n)) ∧ ch n = nI (tr_cy (K n)) ∧ na n = nI (F n) ∧ nb n = nI (S n) ∧ nc n = nI (T n)
theorem tr_Xu {N : Nat} {K F S T : Nat → Nat} {kx fx sx tx : Nat → Int32} (h : tr_X N K F S T kx fx sx tx) (k a b c : Nat) :
    tr_X (N + 1) (tr_u K N k) (tr_u F N a) (tr_u S N b) (tr_u T N c) (upd kx N (nI k)) (upd fx N (nI a)) (upd sx N (nI b)) (upd tx N (nI c)) := by
  intro n hn
  by_cases e : n = N
  · subst e
    rw [tr_us, tr_us, tr_us, tr_us]
    exact ⟨pk_us, pk_us, pk_us, pk_us⟩
  · rw [tr_un e, tr_un e, tr_un e, tr_un e, pk_un e, pk_un e, pk_un e, pk_un e]
    exact h n (by omega)
theorem tr_Yu {N : Nat} {K F S T : Nat → Nat} {ky ch na nb nc : Nat → Int32} (h : tr_Y N K F S T ky ch na nb nc) (k a b c : Nat) :
    tr_Y (N + 1) (tr_u K N k) (tr_u F N a) (tr_u S N b) (tr_u T N c) (upd ky N (nI (tr_ky k))) (upd ch N (nI (tr_cy k))) (upd na N (nI a)) (upd nb N (nI b)) (upd nc N (nI c)) := by
  intro n hn
  by_cases e : n = N
  · subst e
    rw [tr_us, tr_us, tr_us, tr_us]
    exact ⟨pk_us, pk_us, pk_us, pk_us, pk_us⟩
  · rw [tr_un e, tr_un e, tr_un e, tr_un e, pk_un e, pk_un e, pk_un e, pk_un e, pk_un e]
    exact h n (by omega)
/-- every node below N keeps its own condition -/
def tr_ok (N : Nat) (K F S T C A D : Nat → Nat) : Prop := ∀ n, n < N → nd_ok K F S T C A D n ∧ nd_b C A D n
theorem nd_eq {K F S T C A D K' F' S' T' C' A' D' : Nat → Nat} {N n : Nat} (hn : n < N)
    (h : ∀ j, j < N → K' j = K j ∧ F' j = F j ∧ S' j = S j ∧ T' j = T j ∧ C' j = C j ∧ A' j = A j ∧ D' j = D j)
    (o : nd_ok K F S T C A D n) : nd_ok K' F' S' T' C' A' D' n := by
  obtain ⟨k, f, s, t, c, a, d⟩ := h n hn
  unfold nd_ok
  rw [k, f, s, t, c, a, d]
  rcases o with ⟨o1, o2⟩ | ⟨o1, o2, o3⟩ | ⟨o1, o2, o3, o4⟩ | ⟨o1, o2, o3, o4, o5⟩ | ⟨o1, o2, o3, o4⟩
  · exact Or.inl ⟨o1, o2⟩
  · obtain ⟨-, -, -, -, c1, a1, d1⟩ := h (F n) (by omega)
    rw [c1, a1, d1]
    exact Or.inr (Or.inl ⟨o1, o2, o3⟩)
  · obtain ⟨-, -, -, -, c1, a1, d1⟩ := h (F n) (by omega)
    obtain ⟨k2, -, -, -, c2, a2, d2⟩ := h (S n) (by omega)
    rw [c1, a1, d1, c2, a2, d2, k2]
    exact Or.inr (Or.inr (Or.inl ⟨o1, o2, o3, o4⟩))
  · obtain ⟨-, -, -, -, c1, a1, d1⟩ := h (F n) (by omega)
    obtain ⟨-, -, -, -, c2, a2, d2⟩ := h (S n) (by omega)
    obtain ⟨-, -, -, -, c3, a3, d3⟩ := h (T n) (by omega)
    rw [c1, a1, d1, c2, a2, d2, c3, a3, d3]
    exact Or.inr (Or.inr (Or.inr (Or.inl ⟨o1, o2, o3, o4, o5⟩)))
  · obtain ⟨-, -, -, -, c1, a1, d1⟩ := h (F n) (by omega)
    obtain ⟨-, -, -, -, c2, a2, d2⟩ := h (S n) (by omega)
    rw [c1, a1, d1, c2, a2, d2]
    exact Or.inr (Or.inr (Or.inr (Or.inr ⟨o1, o2, o3, o4⟩)))
theorem tr_oku {N : Nat} {K F S T C A D : Nat → Nat} (h : tr_ok N K F S T C A D) (k a b c vc va vd : Nat)
    (o : nd_ok (tr_u K N k) (tr_u F N a) (tr_u S N b) (tr_u T N c) (tr_u C N vc) (tr_u A N va) (tr_u D N vd) N) (hb : vd ≤ 4 * vc * 17 ^ va) :
    tr_ok (N + 1) (tr_u K N k) (tr_u F N a) (tr_u S N b) (tr_u T N c) (tr_u C N vc) (tr_u A N va) (tr_u D N vd) := by
  intro n hn
  by_cases e : n = N
  · subst e
    exact ⟨o, by unfold nd_b; rw [tr_us, tr_us, tr_us]; exact hb⟩
  · refine ⟨nd_eq (N := N) (by omega) (fun j hj => ?_) (h n (by omega)).1, ?_⟩
    · have : j ≠ N := by omega
      exact ⟨tr_un this, tr_un this, tr_un this, tr_un this, tr_un this, tr_un this, tr_un this⟩
    · unfold nd_b
      rw [tr_un e, tr_un e, tr_un e]
      exact (h n (by omega)).2
theorem tr_pw (a : Nat) : 1 ≤ 17 ^ a := Nat.pow_pos (by decide)
theorem tr_b1 {c a d : Nat} (h : d ≤ 4 * c * 17 ^ a) : 17 * (1 + d) ≤ 4 * (1 + c) * 17 ^ (1 + a) := by
  have p := tr_pw a
  rw [Nat.pow_add, Nat.pow_one]
  have e : 4 * (1 + c) * (17 * 17 ^ a) = 17 * (4 * 17 ^ a + 4 * c * 17 ^ a) := by
    rw [Nat.mul_add, Nat.mul_one, Nat.add_mul, Nat.mul_left_comm 4 17, Nat.mul_left_comm (4 * c) 17, ← Nat.mul_add]
  rw [e]
  exact Nat.mul_le_mul_left 17 (by omega)
theorem tr_bm {c a b d : Nat} (h : d ≤ 4 * c * 17 ^ a) (hab : a ≤ b) : d ≤ 4 * c * 17 ^ b :=
  Nat.le_trans h (Nat.mul_le_mul_left _ (Nat.pow_le_pow_right (by decide) hab))
theorem tr_b2 {c1 a1 d1 c2 a2 d2 q : Nat} (h1 : d1 ≤ 4 * c1 * 17 ^ a1) (h2 : d2 ≤ 4 * c2 * 17 ^ a2) (hq : 1 ≤ q) :
    3 + d2 + d1 ≤ 4 * (q + c1 + c2) * 17 ^ (a1 + a2) := by
  have k1 := tr_bm h1 (Nat.le_add_right a1 a2)
  have k2 := tr_bm h2 (Nat.le_add_left a2 a1)
  have p := tr_pw (a1 + a2)
  generalize 17 ^ (a1 + a2) = z at *
  have e : 4 * (q + c1 + c2) * z = 4 * q * z + 4 * c1 * z + 4 * c2 * z := by
    rw [Nat.mul_add, Nat.mul_add, Nat.add_mul, Nat.add_mul]
  have m : 4 * 1 ≤ 4 * q * z := Nat.le_trans (Nat.mul_le_mul_left 4 hq) (Nat.le_mul_of_pos_right _ p)
  rw [e]
  omega
theorem tr_b3 {c1 a1 d1 c2 a2 d2 c3 a3 d3 : Nat} (h1 : d1 ≤ 4 * c1 * 17 ^ a1) (h2 : d2 ≤ 4 * c2 * 17 ^ a2) (h3 : d3 ≤ 4 * c3 * 17 ^ a3) :
    4 + d3 + d1 + d2 ≤ 4 * (2 + c1 + c2 + c3) * 17 ^ (a1 + a2 + a3) := by
  have k1 := tr_bm (b := a1 + a2 + a3) h1 (by omega)
  have k2 := tr_bm (b := a1 + a2 + a3) h2 (by omega)
  have k3 := tr_bm (b := a1 + a2 + a3) h3 (by omega)
  have p := tr_pw (a1 + a2 + a3)
  generalize 17 ^ (a1 + a2 + a3) = z at *
  have e : 4 * (2 + c1 + c2 + c3) * z = 8 * z + 4 * c1 * z + 4 * c2 * z + 4 * c3 * z := by
    rw [Nat.mul_add, Nat.mul_add, Nat.mul_add, Nat.add_mul, Nat.add_mul, Nat.add_mul]
  rw [e]
  omega
theorem tr_lf {N : Nat} {K F S T C A D : Nat → Nat} (h : tr_ok N K F S T C A D) (k : Nat) (hk : pr_lf k) :
    tr_ok (N + 1) (tr_u K N k) (tr_u F N 0) (tr_u S N 0) (tr_u T N 0) (tr_u C N 1) (tr_u A N 0) (tr_u D N 1) := by
  refine tr_oku h k 0 0 0 1 0 1 (Or.inl ?_) (by decide)
  rw [tr_us, tr_us, tr_us, tr_us]
  exact ⟨hk, rfl, rfl, rfl⟩
theorem tr_av {N : Nat} {K F S T C A D : Nat → Nat} (h : tr_ok N K F S T C A D) (k a : Nat) (hk : pr_av k) (ha : a < N) :
    tr_ok (N + 1) (tr_u K N k) (tr_u F N a) (tr_u S N 0) (tr_u T N 0) (tr_u C N (1 + C a)) (tr_u A N (1 + A a)) (tr_u D N (17 * (1 + D a))) := by
  refine tr_oku h k a 0 0 _ _ _ (Or.inr (Or.inl ?_)) (tr_b1 (h a ha).2)
  have e : a ≠ N := by omega
  rw [tr_us, tr_us, tr_us, tr_us, tr_us, tr_un e, tr_un e, tr_un e]
  exact ⟨hk, ha, rfl, rfl, rfl⟩
theorem tr_at {N : Nat} {K F S T C A D : Nat → Nat} (h : tr_ok N K F S T C A D) (a b : Nat) (ha : a < N) (hb : b < N) :
    tr_ok (N + 1) (tr_u K N 64) (tr_u F N a) (tr_u S N b) (tr_u T N 0) (tr_u C N (1 + nd_pr (K b) + C a + C b)) (tr_u A N (A a + A b)) (tr_u D N (3 + D b + D a)) := by
  refine tr_oku h 64 a b 0 _ _ _ (Or.inr (Or.inr (Or.inl ?_))) (tr_b2 (h a ha).2 (h b hb).2 (by omega))
  have e : a ≠ N := by omega
  have e2 : b ≠ N := by omega
  rw [tr_us, tr_us, tr_us, tr_us, tr_us, tr_us, tr_un e, tr_un e, tr_un e, tr_un e2, tr_un e2, tr_un e2, tr_un e2]
  exact ⟨rfl, ha, hb, rfl, rfl, rfl⟩
theorem tr_fk {N : Nat} {K F S T C A D : Nat → Nat} (h : tr_ok N K F S T C A D) (a b c : Nat) (ha : a < N) (hb : b < N) (hc : c < N) :
    tr_ok (N + 1) (tr_u K N 1) (tr_u F N a) (tr_u S N b) (tr_u T N c) (tr_u C N (2 + C a + C b + C c)) (tr_u A N (A a + A b + A c)) (tr_u D N (4 + D c + D a + D b)) := by
  refine tr_oku h 1 a b c _ _ _ (Or.inr (Or.inr (Or.inr (Or.inl ?_)))) (tr_b3 (h a ha).2 (h b hb).2 (h c hc).2)
  have e : a ≠ N := by omega
  have e2 : b ≠ N := by omega
  have e3 : c ≠ N := by omega
  rw [tr_us, tr_us, tr_us, tr_us, tr_us, tr_us, tr_us, tr_un e, tr_un e, tr_un e, tr_un e2, tr_un e2, tr_un e2, tr_un e3, tr_un e3, tr_un e3]
  exact ⟨rfl, ha, hb, hc, rfl, rfl, rfl⟩
theorem tr_hk {N : Nat} {K F S T C A D : Nat → Nat} (h : tr_ok N K F S T C A D) (a b : Nat) (ha : a < N) (hb : b < N) :
    tr_ok (N + 1) (tr_u K N 2) (tr_u F N a) (tr_u S N b) (tr_u T N 0) (tr_u C N (2 + C a + C b)) (tr_u A N (A a + A b)) (tr_u D N (3 + D b + D a)) := by
  refine tr_oku h 2 a b 0 _ _ _ (Or.inr (Or.inr (Or.inr (Or.inr ?_)))) (tr_b2 (h a ha).2 (h b hb).2 (by omega))
  have e : a ≠ N := by omega
  have e2 : b ≠ N := by omega
  rw [tr_us, tr_us, tr_us, tr_us, tr_us, tr_us, tr_un e, tr_un e, tr_un e, tr_un e2, tr_un e2, tr_un e2]
  exact ⟨rfl, ha, hb, rfl, rfl, rfl⟩
/-- sums over the first m words -/
def tr_sm (g W : Nat → Nat) : Nat → Nat
  | 0 => 0
  | m + 1 => tr_sm g W m + g (W m)
theorem tr_sme {g g' W W' : Nat → Nat} : ∀ m, (∀ j, j < m → g' (W' j) = g (W j)) → tr_sm g' W' m = tr_sm g W m
  | 0, _ => rfl
  | m + 1, h => by
    show tr_sm g' W' m + g' (W' m) = tr_sm g W m + g (W m)
    rw [tr_sme m (fun j hj => h j (by omega)), h m (by omega)]
