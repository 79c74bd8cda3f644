/-! how the two sides hold the machine's frames -/
def xm_b (b : Bool) : Int32 := if b = true then 1 else 0
def xm_m (b : Bool) : Int32 := if b = true then 2 else 1
def xm_top (K : Nat → Nat) (c l fn fd fx fy : Nat → Int32) (f n : Nat) (d : Bool) (p : Nat) (x y w : List Int32) : Prop :=
  fn f = nI n ∧ fd f = xm_b d ∧
  (∃ s, fx f = nI s ∧ s < 4 + 3 * f ∧ s ≠ 2 ∧ s ≠ 3 ∧ (d = true → ve_L c l s x)) ∧
  (∃ s, fy f = nI s ∧ s < 4 + 3 * f ∧ s ≠ 2 ∧ s ≠ 3 ∧ ve_L c l s y) ∧
  (K n = 1 → p = 2 → ve_L c l (4 + 3 * f) w) ∧
  (K n = 92 ∨ K n = 34 → 0 < p → ve_L c l (4 + 3 * f + 2) w)
def xm_F (K : Nat → Nat) (c l fn fd fx fy fp : Nat → Int32) : List am_F → Prop
  | [] => True
  | (n, d, p, x, y, w) :: r => fp r.length = nI p ∧ xm_top K c l fn fd fx fy r.length n d p x y w ∧ xm_F K c l fn fd fx fy fp r
def xm_S (K : Nat → Nat) (ax ay : List Int32) (fs : List am_F) (R : List Int32) (fc : Int32) (c l fn fd fx fy fp : Nat → Int32) : Prop :=
  fc = nI fs.length ∧ ve_L c l 0 ax ∧ ve_L c l 1 ay ∧ xm_F K c l fn fd fx fy fp fs ∧ (am_rdy fs → ve_L c l 3 R)
def xm_O (K : Nat → Nat) (ax ay : List Int32) (n : Nat) (d : Bool) (p : Nat) (x y : List Int32) (r : List am_F) (R : List Int32) (o : am_O)
    (fl fc : Int32) (c l fn fd fx fy fp : Nat → Int32) : Prop :=
  match o with
  | Sum.inl e => fl = nI e ∧ ve_L c l 0 ax ∧ ve_L c l 1 ay
  | Sum.inr (Sum.inl v) => fl = 0 ∧ xm_S K ax ay r v fc c l fn fd fx fy fp
  | Sum.inr (Sum.inr (w', n', d', x', y')) => fl = 0 ∧ xm_S K ax ay ((n', d', 0, x', y', []) :: (n, d, p + 1, x, y, w') :: r) R fc c l fn fd fx fy fp
theorem xm_topk {K : Nat → Nat} {c l fn fd fx fy c' l' fn' fd' fx' fy' : Nat → Int32} {f n : Nat} {d : Bool} {p : Nat} {x y w : List Int32}
    (hF : ve_F (fun t => t = 2 ∨ t = 3 ∨ 4 + 3 * (f + 1) ≤ t) c l c' l') (hf : fn' f = fn f ∧ fd' f = fd f ∧ fx' f = fx f ∧ fy' f = fy f)
    (h : xm_top K c l fn fd fx fy f n d p x y w) : xm_top K c' l' fn' fd' fx' fy' f n d p x y w := by
  obtain ⟨h1, h2, ⟨s, s1, s2, s3, s4, s5⟩, ⟨t, t1, t2, t3, t4, t5⟩, h5, h6⟩ := h
  refine ⟨hf.1.trans h1, hf.2.1.trans h2, ⟨s, hf.2.2.1.trans s1, s2, s3, s4, fun hd => ve_o hF (fun z => ?_) (s5 hd)⟩, ⟨t, hf.2.2.2.trans t1, t2, t3, t4, ve_o hF (fun z => ?_) t5⟩, fun a b => ve_o hF (fun z => ?_) (h5 a b), fun a b => ve_o hF (fun z => ?_) (h6 a b)⟩
  · have z' : s = 2 ∨ s = 3 ∨ 4 + 3 * (f + 1) ≤ s := z
    omega
  · have z' : t = 2 ∨ t = 3 ∨ 4 + 3 * (f + 1) ≤ t := z
    omega
  · have z' : 4 + 3 * f = 2 ∨ 4 + 3 * f = 3 ∨ 4 + 3 * (f + 1) ≤ 4 + 3 * f := z
    omega
  · have z' : 4 + 3 * f + 2 = 2 ∨ 4 + 3 * f + 2 = 3 ∨ 4 + 3 * (f + 1) ≤ 4 + 3 * f + 2 := z
    omega
theorem xm_k {K : Nat → Nat} {c l fn fd fx fy fp c' l' fn' fd' fx' fy' fp' : Nat → Int32} : ∀ (fs : List am_F),
    ve_F (fun t => t = 2 ∨ t = 3 ∨ 4 + 3 * fs.length ≤ t) c l c' l' →
    (∀ j, j < fs.length → fn' j = fn j ∧ fd' j = fd j ∧ fx' j = fx j ∧ fy' j = fy j ∧ fp' j = fp j) →
    xm_F K c l fn fd fx fy fp fs → xm_F K c' l' fn' fd' fx' fy' fp' fs
  | [], _, _, _ => trivial
  | (n, d, p, x, y, w) :: r, hF, hf, h => by
    obtain ⟨h1, h2, h3⟩ := h
    have e : ((n, d, p, x, y, w) :: r).length = r.length + 1 := rfl
    rw [e] at hF hf
    obtain ⟨a1, a2, a3, a4, a5⟩ := hf r.length (by omega)
    refine ⟨a5.trans h1, xm_topk hF ⟨a1, a2, a3, a4⟩ h2, xm_k r (ve_Fm hF fun t ht => ?_) (fun j hj => hf j (by omega)) h3⟩
    have z' : t = 2 ∨ t = 3 ∨ 4 + 3 * (r.length + 1) ≤ t := ht
    show t = 2 ∨ t = 3 ∨ 4 + 3 * r.length ≤ t
    omega
theorem xm_push {K : Nat → Nat} {ax ay : List Int32} {c l fn fd fx fy fp c' l' : Nat → Int32} {n : Nat} {d : Bool} {p : Nat} {x y w : List Int32} {r : List am_F}
    (R : List Int32) (w' : List Int32) (n' : Nat) (d' : Bool) (sx sy : Nat) (x' y' : List Int32)
    (hp : fp r.length = nI (p + 1)) (ht : xm_top K c l fn fd fx fy r.length n d p x y w) (hr : xm_F K c l fn fd fx fy fp r)
    (hF : ve_F (fun t => t = 3 ∨ 4 + 3 * r.length ≤ t) c l c' l') (h0 : ve_L c l 0 ax) (h1 : ve_L c l 1 ay)
    (hw1 : K n = 1 → p + 1 = 2 → ve_L c' l' (4 + 3 * r.length) w') (hw2 : K n = 92 ∨ K n = 34 → ve_L c' l' (4 + 3 * r.length + 2) w')
    (bx : sx < 4 + 3 * (r.length + 1) ∧ sx ≠ 2 ∧ sx ≠ 3) (hb : sy < 4 + 3 * (r.length + 1) ∧ sy ≠ 2 ∧ sy ≠ 3)
    (hx : d' = true → ve_L c' l' sx x') (hy : ve_L c' l' sy y') :
    xm_S K ax ay ((n', d', 0, x', y', []) :: (n, d, p + 1, x, y, w') :: r) R (nI (r.length + 2)) c' l'
      (upd fn (r.length + 1) (nI n')) (upd fd (r.length + 1) (xm_b d')) (upd fx (r.length + 1) (nI sx)) (upd fy (r.length + 1) (nI sy)) (upd fp (r.length + 1) 0) := by
  have hn : ∀ j, j < r.length + 1 → j ≠ r.length + 1 := fun j hj => by omega
  obtain ⟨t1, t2, ⟨s, s1, s2, s3, s4, s5⟩, ⟨u, u1, u2, u3, u4, u5⟩, -, -⟩ := ht
  refine ⟨rfl, ve_o hF (fun z => ?_) h0, ve_o hF (fun z => ?_) h1, ⟨pk_us.trans nI_0.symm, ⟨pk_us, pk_us, ⟨sx, pk_us, bx.1, bx.2.1, bx.2.2, hx⟩, ⟨sy, pk_us, hb.1, hb.2.1, hb.2.2, hy⟩, fun _ h => by omega, fun _ h => absurd h (Nat.lt_irrefl 0)⟩, ?_⟩, fun h => absurd h (Nat.lt_irrefl 0)⟩
  · have z' : 0 = 3 ∨ 4 + 3 * r.length ≤ 0 := z
    omega
  · have z' : 1 = 3 ∨ 4 + 3 * r.length ≤ 1 := z
    omega
  · refine ⟨(pk_un (hn _ (Nat.lt_succ_self _))).trans hp, ⟨(pk_un (hn _ (Nat.lt_succ_self _))).trans t1, (pk_un (hn _ (Nat.lt_succ_self _))).trans t2, ⟨s, (pk_un (hn _ (Nat.lt_succ_self _))).trans s1, s2, s3, s4, fun hd => ve_o hF (fun z => ?_) (s5 hd)⟩, ⟨u, (pk_un (hn _ (Nat.lt_succ_self _))).trans u1, u2, u3, u4, ve_o hF (fun z => ?_) u5⟩, hw1, fun a _ => hw2 a⟩, ?_⟩
    · have z' : s = 3 ∨ 4 + 3 * r.length ≤ s := z
      omega
    · have z' : u = 3 ∨ 4 + 3 * r.length ≤ u := z
      omega
    · refine xm_k r (ve_Fm hF fun t ht => Or.inr ht) (fun j hj => ?_) hr
      have hj' : j ≠ r.length + 1 := by omega
      exact ⟨pk_un hj', pk_un hj', pk_un hj', pk_un hj', pk_un hj'⟩
theorem xm_pop {K : Nat → Nat} {ax ay : List Int32} {c l fn fd fx fy fp c' l' : Nat → Int32} {r : List am_F} {v : List Int32}
    (hr : xm_F K c l fn fd fx fy fp r) (hF : ve_F (fun t => t = 3 ∨ 4 + 3 * r.length ≤ t) c l c' l') (h0 : ve_L c l 0 ax) (h1 : ve_L c l 1 ay)
    (hv : ve_L c' l' 3 v) : xm_S K ax ay r v (nI r.length) c' l' fn fd fx fy fp := by
  refine ⟨rfl, ve_o hF (fun z => ?_) h0, ve_o hF (fun z => ?_) h1, xm_k r (ve_Fm hF fun t ht => Or.inr ht) (fun j hj => ⟨rfl, rfl, rfl, rfl, rfl⟩) hr, fun _ => hv⟩
  · have z' : 0 = 3 ∨ 4 + 3 * r.length ≤ 0 := z
    omega
  · have z' : 1 = 3 ∨ 4 + 3 * r.length ≤ 1 := z
    omega
/-! the other side -/
def ym_ph (k p : Nat) : Nat := if k = 47 ∨ k = 92 ∨ k = 34 then min p 1 else p
def ym_fi (k : Nat) (d : Bool) (p : Nat) : Nat := if k = 34 then p - 1 else am_nx d p - 1
def ym_top (K : Nat → Nat) (c l fn fm fi : Nat → Int32) (f n : Nat) (d : Bool) (p : Nat) (x y w : List Int32) : Prop :=
  fn f = nI n ∧ fm f = xm_m d ∧
  (K n = 47 ∨ K n = 92 ∨ K n = 34 → 0 < p → fi f = nI (ym_fi (K n) d p)) ∧
  (d = true → ve_L c l (5 * f) x) ∧ ve_L c l (5 * f + 1) y ∧
  (K n = 1 → p = 2 → ve_L c l (5 * f + 2) w) ∧
  (K n = 92 ∨ K n = 34 → 0 < p → ve_L c l (5 * f + 4) w)
def ym_F (K : Nat → Nat) (c l fn fm fp fi : Nat → Int32) : List am_F → Prop
  | [] => True
  | (n, d, p, x, y, w) :: r => fp r.length = nI (ym_ph (K n) p) ∧ ym_top K c l fn fm fi r.length n d p x y w ∧ ym_F K c l fn fm fp fi r
def ym_S (K : Nat → Nat) (fs : List am_F) (R : List Int32) (sp : Int32) (c l fn fm fp fi : Nat → Int32) : Prop :=
  sp + 1 = nI fs.length ∧ ym_F K c l fn fm fp fi fs ∧ (am_rdy fs → ve_L c l (5 * fs.length + 3) R)
def ym_O (K : Nat → Nat) (n : Nat) (d : Bool) (p : Nat) (x y : List Int32) (r : List am_F) (R : List Int32) (o : am_O)
    (er sp : Int32) (c l fn fm fp fi : Nat → Int32) : Prop :=
  match o with
  | Sum.inl e => er = nI e
  | Sum.inr (Sum.inl v) => er = 0 ∧ ym_S K r v sp c l fn fm fp fi
  | Sum.inr (Sum.inr (w', n', d', x', y')) => er = 0 ∧ ym_S K ((n', d', 0, x', y', []) :: (n, d, p + 1, x, y, w') :: r) R sp c l fn fm fp fi
theorem ym_topk {K : Nat → Nat} {c l fn fm fi c' l' fn' fm' fi' : Nat → Int32} {f n : Nat} {d : Bool} {p : Nat} {x y w : List Int32}
    (hF : ve_F (fun t => 5 * (f + 1) ≤ t) c l c' l') (hf : fn' f = fn f ∧ fm' f = fm f ∧ fi' f = fi f)
    (h : ym_top K c l fn fm fi f n d p x y w) : ym_top K c' l' fn' fm' fi' f n d p x y w := by
  obtain ⟨h1, h2, h3, h4, h5, h6, h7⟩ := h
  have q : ∀ j, j < 5 → ¬ (fun t => 5 * (f + 1) ≤ t) (5 * f + j) := fun j hj z => by
    have z' : 5 * (f + 1) ≤ 5 * f + j := z
    omega
  exact ⟨hf.1.trans h1, hf.2.1.trans h2, fun a b => hf.2.2.trans (h3 a b), fun a => ve_o hF (q 0 (by decide)) (h4 a), ve_o hF (q 1 (by decide)) h5, fun a b => ve_o hF (q 2 (by decide)) (h6 a b), fun a b => ve_o hF (q 4 (by decide)) (h7 a b)⟩
theorem ym_k {K : Nat → Nat} {c l fn fm fp fi c' l' fn' fm' fp' fi' : Nat → Int32} : ∀ (fs : List am_F),
    ve_F (fun t => 5 * fs.length ≤ t) c l c' l' →
    (∀ j, j < fs.length → fn' j = fn j ∧ fm' j = fm j ∧ fi' j = fi j ∧ fp' j = fp j) →
    ym_F K c l fn fm fp fi fs → ym_F K c' l' fn' fm' fp' fi' fs
  | [], _, _, _ => trivial
  | (n, d, p, x, y, w) :: r, hF, hf, h => by
    obtain ⟨h1, h2, h3⟩ := h
    have e : ((n, d, p, x, y, w) :: r).length = r.length + 1 := rfl
    rw [e] at hF hf
    obtain ⟨a1, a2, a3, a4⟩ := hf r.length (by omega)
    refine ⟨a4.trans h1, ym_topk hF ⟨a1, a2, a3⟩ h2, ym_k r (ve_Fm hF fun t ht => ?_) (fun j hj => hf j (by omega)) h3⟩
    have z' : 5 * (r.length + 1) ≤ t := ht
    show 5 * r.length ≤ t
    omega
theorem ym_sp {sp : Int32} {k : Nat} (h : sp + 1 = nI (k + 1)) : sp = nI k := by
  rw [← nI_1] at h
  have a : sp + 1 - 1 = sp := by rw [Int32.add_sub_cancel]
  have b : nI k + 1 - 1 = nI k := by rw [Int32.add_sub_cancel]
  rw [← a, h, b]
theorem ym_push {K : Nat → Nat} {c l fn fm fp fi fi1 c' l' : Nat → Int32} {n : Nat} {d : Bool} {p : Nat} {x y w : List Int32} {r : List am_F}
    (R : List Int32) (w' : List Int32) (n' : Nat) (d' : Bool) (x' y' : List Int32)
    (ht : ym_top K c l fn fm fi r.length n d p x y w) (hr : ym_F K c l fn fm fp fi r)
    (hF : ve_F (fun t => 5 * r.length + 2 ≤ t) c l c' l') (hfi : ∀ j, j < r.length → fi1 j = fi j)
    (hfi2 : K n = 47 ∨ K n = 92 ∨ K n = 34 → fi1 r.length = nI (ym_fi (K n) d (p + 1)))
    (hw1 : K n = 1 → p + 1 = 2 → ve_L c' l' (5 * r.length + 2) w') (hw2 : K n = 92 ∨ K n = 34 → ve_L c' l' (5 * r.length + 4) w')
    (hx : d' = true → ve_L c' l' (5 * (r.length + 1)) x') (hy : ve_L c' l' (5 * (r.length + 1) + 1) y') :
    ym_S K ((n', d', 0, x', y', []) :: (n, d, p + 1, x, y, w') :: r) R (nI (r.length + 1)) c' l'
      (upd fn (r.length + 1) (nI n')) (upd fm (r.length + 1) (xm_m d')) (upd (upd fp r.length (nI (ym_ph (K n) (p + 1)))) (r.length + 1) 0) (upd fi1 (r.length + 1) 0) := by
  have hn : r.length ≠ r.length + 1 := by omega
  obtain ⟨t1, t2, -, t4, t5, -, -⟩ := ht
  have q : ∀ j, j < 2 → ¬ (fun t => 5 * r.length + 2 ≤ t) (5 * r.length + j) := fun j hj z => by
    have z' : 5 * r.length + 2 ≤ 5 * r.length + j := z
    omega
  have e0 : ym_ph (K n') 0 = 0 := by unfold ym_ph; split <;> rfl
  refine ⟨nI_1 _, ⟨by rw [e0]; exact pk_us.trans nI_0.symm, ⟨pk_us, pk_us, fun _ h => absurd h (Nat.lt_irrefl 0), hx, hy, fun _ h => by omega, fun _ h => absurd h (Nat.lt_irrefl 0)⟩, ?_⟩, fun h => absurd h (Nat.lt_irrefl 0)⟩
  refine ⟨(pk_un hn).trans pk_us, ⟨(pk_un hn).trans t1, (pk_un hn).trans t2, fun a _ => (pk_un hn).trans (hfi2 a), fun a => ve_o hF (q 0 (by decide)) (t4 a), ve_o hF (q 1 (by decide)) t5, hw1, fun a _ => hw2 a⟩, ?_⟩
  refine ym_k r (ve_Fm hF fun t ht => ?_) (fun j hj => ?_) hr
  · have z' : 5 * r.length + 2 ≤ t := ht
    show 5 * r.length ≤ t
    omega
  · have hj' : j ≠ r.length + 1 := by omega
    have hj2 : j ≠ r.length := by omega
    exact ⟨pk_un hj', pk_un hj', (pk_un hj').trans (hfi j hj), (pk_un hj').trans (pk_un hj2)⟩
theorem ym_pop {K : Nat → Nat} {c l fn fm fp fi fp1 fi1 c' l' : Nat → Int32} {r : List am_F} {v : List Int32} {sp : Int32}
    (hr : ym_F K c l fn fm fp fi r) (hF : ve_F (fun t => 5 * r.length ≤ t) c l c' l') (hfi : ∀ j, j < r.length → fi1 j = fi j) (hfp : ∀ j, j < r.length → fp1 j = fp j)
    (hs : sp + 1 = nI r.length) (hv : ve_L c' l' (5 * r.length + 3) v) : ym_S K r v sp c' l' fn fm fp1 fi1 :=
  ⟨hs, ym_k r hF (fun j hj => ⟨rfl, rfl, hfi j hj, hfp j hj⟩) hr, fun _ => hv⟩
