/-! both machines run in step to their end -/
def am_out {σ : Type} (FX : Nat → σ → Prop) (RX : List am_F → List Int32 → σ → Prop) (n : Nat) (d : Bool) (p : Nat) (x y : List Int32) (r : List am_F) (R : List Int32) (o : am_O) (u : σ) : Prop :=
  match o with
  | Sum.inl e => FX e u
  | Sum.inr (Sum.inl v) => RX r v u
  | Sum.inr (Sum.inr (w', n', d', x', y')) => RX ((n', d', 0, x', y', []) :: (n, d, p + 1, x, y, w') :: r) R u
def am_stp {σ π : Type} (lim : Nat) (N : Nat) (K F S T : Nat → Nat) (top : Nat) (FX : Nat → σ → Prop) (RX : List am_F → List Int32 → σ → Prop) (WX : π → Nat → Nat → σ → Prop) : Prop :=
  ∀ (n : Nat) (d : Bool) (p : Nat) (x y w : List Int32) (r : List am_F) (R : List Int32) (u : σ),
    am_ok N K ((n, d, p, x, y, w) :: r) → RX ((n, d, p, x, y, w) :: r) R u →
    ∀ (post : π) (k i : Nat), i < top → (∀ u', am_out FX RX n d p x y r R (am_act lim K F S T n d p x y w R) u' → WX post k (i + 1) u') → WX post (k + 1) i u
def am_fin {σ : Type} (FX : Nat → σ → Prop) (RX : List am_F → List Int32 → σ → Prop) (e : Nat) (R : List Int32) (u : σ) : Prop :=
  (e = 0 ∧ RX [] R u) ∨ (e ≠ 0 ∧ FX e u)
theorem am_run {σ τ π ρ : Type} {lim N : Nat} {K F S T C A D : Nat → Nat} (hT : tr_ok N K F S T C A D)
    {topX topY : Nat} {FX : Nat → σ → Prop} {RX : List am_F → List Int32 → σ → Prop} {WX : π → Nat → Nat → σ → Prop}
    {FY : Nat → τ → Prop} {RY : List am_F → List Int32 → τ → Prop} {WY : ρ → Nat → Nat → τ → Prop}
    (hX : am_stp lim N K F S T topX FX RX WX) (hY : am_stp lim N K F S T topY FY RY WY)
    (hl : lim ≤ 16) :
    ∀ (M : Nat) (fs : List am_F) (R : List Int32), am_M K F S T D fs ≤ M → am_ok N K fs → (am_rdy fs → R.length ≤ 16) →
      ∃ e R' q, q ≤ M ∧ e ≤ 3 ∧
        (∀ (u : σ), RX fs R u → ∀ (post : π) (k i : Nat), i + q ≤ topX → (∀ u', am_fin FX RX e R' u' → WX post k (i + q) u') → WX post (k + q) i u) ∧
        (∀ (v : τ), RY fs R v → ∀ (post : ρ) (k i : Nat), i + q ≤ topY → (∀ v', am_fin FY RY e R' v' → WY post k (i + q) v') → WY post (k + q) i v) := by
  intro M
  induction M with
  | zero =>
    intro fs R hM hok hR
    match fs, hM, hok, hR with
    | [], _, _, _ => exact ⟨0, R, 0, Nat.le_refl _, Nat.zero_le _, fun u hu _ _ _ _ h => h u (Or.inl ⟨rfl, hu⟩), fun v hv _ _ _ _ h => h v (Or.inl ⟨rfl, hv⟩)⟩
    | (n, d, p, x, y, w) :: r, hM, hok, _ =>
      have h1 := am_rem1 K F S T D n p hok.2.2.1.1
      have : am_rem K F S T D n p + am_M K F S T D r ≤ 0 := hM
      omega
  | succ M ih =>
    intro fs R hM hok hR
    match fs, hM, hok, hR with
    | [], _, _, _ => exact ⟨0, R, 0, Nat.zero_le _, Nat.zero_le _, fun u hu _ _ _ _ h => h u (Or.inl ⟨rfl, hu⟩), fun v hv _ _ _ _ h => h v (Or.inl ⟨rfl, hv⟩)⟩
    | (n, d, p, x, y, w) :: r, hM, hok, hR =>
      have h1 := am_rem1 K F S T D n p hok.2.2.1.1
      have hM' : am_rem K F S T D n p + am_M K F S T D r ≤ M + 1 := hM
      have gu := fun u hu => hX n d p x y w r R u hok hu
      have gv := fun v hv => hY n d p x y w r R v hok hv
      have hf := am_f (lim := lim) (K := K) (F := F) (S := S) (T := T) (n := n) (d := d) (p := p) (x := x) (y := y) (w := w) (R := R)
      have hq := am_q (lim := lim) (K := K) (F := F) (S := S) (T := T) (n := n) (d := d) (p := p) (x := x) (y := y) (w := w) (R := R) hl hok.2.2.1 hR
      have hp : ∀ w' n' d' x' y', am_act lim K F S T n d p x y w R = am_push w' n' d' x' y' → am_pr K F S T D n d p x y w' n' d' x' y' :=
        fun w' n' d' x' y' e => am_p (hT n hok.1).1 hok.2.2.1 hR e
      generalize am_act lim K F S T n d p x y w R = o at gu gv hf hp hq
      have step : ∀ (fs' : List am_F) (R1 : List Int32), am_M K F S T D fs' ≤ M → am_ok N K fs' → (am_rdy fs' → R1.length ≤ 16) →
          (∀ u', am_out FX RX n d p x y r R o u' → RX fs' R1 u') → (∀ v', am_out FY RY n d p x y r R o v' → RY fs' R1 v') →
          ∃ e R' q, q ≤ M + 1 ∧ e ≤ 3 ∧
            (∀ (u : σ), RX ((n, d, p, x, y, w) :: r) R u → ∀ (post : π) (k i : Nat), i + q ≤ topX → (∀ u', am_fin FX RX e R' u' → WX post k (i + q) u') → WX post (k + q) i u) ∧
            (∀ (v : τ), RY ((n, d, p, x, y, w) :: r) R v → ∀ (post : ρ) (k i : Nat), i + q ≤ topY → (∀ v', am_fin FY RY e R' v' → WY post k (i + q) v') → WY post (k + q) i v) := by
        intro fs' R1 a1 a2 a3 a4 a5
        obtain ⟨e, R', q, hq, he, hx, hy⟩ := ih fs' R1 a1 a2 a3
        refine ⟨e, R', q + 1, by omega, he, fun u hu post k i hi h => ?_, fun v hv post k i hi h => ?_⟩
        · refine gu u hu post (k + q) i (by omega) fun u' ho => hx u' (a4 u' ho) post k (i + 1) (by omega) fun u2 h2 => ?_
          rw [Nat.add_assoc, Nat.add_comm 1 q]
          exact h u2 h2
        · refine gv v hv post (k + q) i (by omega) fun v' ho => hy v' (a5 v' ho) post k (i + 1) (by omega) fun v2 h2 => ?_
          rw [Nat.add_assoc, Nat.add_comm 1 q]
          exact h v2 h2
      match o, gu, gv, hf, hp, hq, step with
      | Sum.inl e, gu, gv, hf, _, _, _ =>
        obtain ⟨f1, f2⟩ := hf e rfl
        exact ⟨e, [], 1, by omega, f2, fun u hu post k i hi h => gu u hu post k i (by omega) fun u' ho => h u' (Or.inr ⟨f1, ho⟩),
          fun v hv post k i hi h => gv v hv post k i (by omega) fun v' ho => h v' (Or.inr ⟨f1, ho⟩)⟩
      | Sum.inr (Sum.inl z), _, _, _, _, hq, step =>
        exact step r z (by omega) hok.2.2.2 (fun _ => hq z rfl) (fun _ h => h) (fun _ h => h)
      | Sum.inr (Sum.inr (w', n', d', x', y')), _, _, _, hp, _, step =>
        obtain ⟨q1, q2, q3, q4⟩ := hp w' n' d' x' y' rfl
        have q5 := am_pl K F S T C A D (hT n' (by have := hok.1; omega)).1
        refine step ((n', d', 0, x', y', []) :: (n, d, p + 1, x, y, w') :: r) R ?_ ⟨?_, ?_, q2, hok.1, hok.2.1, q3, hok.2.2.2⟩ (fun z => absurd z (Nat.lt_irrefl 0)) (fun _ h => h) (fun _ h => h)
        · show am_rem K F S T D n' 0 + (am_rem K F S T D n (p + 1) + am_M K F S T D r) ≤ M
          rw [← q5]; omega
        · have := hok.1; omega
        · have := hok.2.1
          show n' + (r.length + 1) < 63
          omega
