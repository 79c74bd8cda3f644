/-! the component: a frame's step, and the loop's -/
theorem nd_k {K F S T C A D : Nat → Nat} {n : Nat} (h : nd_ok K F S T C A D n) : K n < 128 := by
  rcases h with ⟨h, -⟩ | ⟨h, -⟩ | ⟨h, -⟩ | ⟨h, -⟩ | ⟨h, -⟩
  · unfold pr_lf pr_vb pr_dig at h; omega
  · unfold pr_av at h; omega
  · omega
  · omega
  · omega
theorem nd_f1 {K F S T C A D : Nat → Nat} {n : Nat} (h : nd_ok K F S T C A D n) (hk : K n = 1) : F n < n ∧ S n < n ∧ T n < n := by
  rcases h with ⟨h, -⟩ | ⟨h, -⟩ | ⟨h, -⟩ | ⟨-, a, b, c, -⟩ | ⟨h, -⟩
  · unfold pr_lf pr_vb pr_dig at h; omega
  · unfold pr_av at h; omega
  · omega
  · exact ⟨a, b, c⟩
  · omega
theorem xs_frame {f_textCount f_trainHeld f_rootNode f_nodeCount f_wordCount f_groupFirst f_atopWaiting f_groupCount f_adverbCount f_canonCount f_postponedCount f_lastStatus : Int32} {a_text a_nodeKind a_nodeFirst a_nodeSecond a_nodeThird a_words a_outerFirst a_outerAtop a_canon a_postponed a_cells a_lengths a_frameNode a_frameDyadic a_frameX a_frameY a_framePhase : Nat → Int32} {post : SX → Prop} {lim N : Nat} {K F S T C A D : Nat → Nat} {ax ay R : List Int32} {n : Nat} {d : Bool} {p : Nat} {x y w : List Int32} {r : List am_F} (hl : lim ≤ 16) (hN : N ≤ 64)
    (hT : tr_X N K F S T a_nodeKind a_nodeFirst a_nodeSecond a_nodeThird) (hK : tr_ok N K F S T C A D) (ho : am_ok N K ((n, d, p, x, y, w) :: r))
    (hS : xm_S K ax ay ((n, d, p, x, y, w) :: r) R (nI (r.length + 1)) a_cells a_lengths a_frameNode a_frameDyadic a_frameX a_frameY a_framePhase)
    (h : ∀ fl fc c l fn fd fx fy fp, xm_O K ax ay n d p x y r R (am_act lim K F S T n d p x y w R) fl fc c l fn fd fx fy fp → post (nI lim, f_textCount, f_trainHeld, f_rootNode, f_nodeCount, f_wordCount, f_groupFirst, f_atopWaiting, f_groupCount, f_adverbCount, f_canonCount, f_postponedCount, fc, fl, f_lastStatus, a_text, a_nodeKind, a_nodeFirst, a_nodeSecond, a_nodeThird, a_words, a_outerFirst, a_outerAtop, a_canon, a_postponed, c, l, fn, fd, fx, fy, fp)) :
    wpX_stepFrame post (nI lim, f_textCount, f_trainHeld, f_rootNode, f_nodeCount, f_wordCount, f_groupFirst, f_atopWaiting, f_groupCount, f_adverbCount, f_canonCount, f_postponedCount, nI (r.length + 1), 0, f_lastStatus, a_text, a_nodeKind, a_nodeFirst, a_nodeSecond, a_nodeThird, a_words, a_outerFirst, a_outerAtop, a_canon, a_postponed, a_cells, a_lengths, a_frameNode, a_frameDyadic, a_frameX, a_frameY, a_framePhase) (nI r.length) := by
  obtain ⟨o1, o2, lc, -⟩ := ho
  obtain ⟨-, h0, h1, ⟨hp, ht, hr⟩, h3⟩ := hS
  have lc' := lc
  obtain ⟨p16, lx, ly, lw, l1, l2, l3⟩ := lc'
  have nd := (hK n o1).1
  have kk := nd_k nd
  have H : xs_H N K F S T ax ay R n d p x y w r a_nodeKind a_nodeFirst a_nodeSecond a_nodeThird a_cells a_lengths a_frameNode a_frameDyadic a_frameX a_frameY (upd a_framePhase r.length (nI (p + 1))) :=
    ⟨hT, hN, o1, o2, pk_us, ht, xm_k r (ve_Fr _ _ _) (fun j hj => ⟨rfl, rfl, rfl, rfl, pk_un (by omega)⟩) hr, h0, h1, h3, p16⟩
  have e1 : (nI r.length).toNatClampNeg = r.length := nI_clamp (by omega)
  have e2 : (nI n).toNatClampNeg = n := nI_clamp (by omega)
  have i1 : vp_in (nI r.length) 64 := vp_in_nI (by omega) (by omega)
  have i2 : vp_in (nI n) 64 := vp_in_nI (by omega) (by omega)
  refine ⟨i1, nm_r (e' := nI p) (by rw [e1]; exact hp) ⟨i1, nm_r (e' := upd a_framePhase r.length (nI (p + 1))) (by rw [e1, nI_1]) ⟨i1, ?_⟩⟩⟩
  rw [e1, ht.1]
  refine ⟨i2, nm_r (e' := nI (K n)) (by rw [e2]; exact (hT n o1).1) ?_⟩
  unfold am_act at h
  refine pk_eq (K n) 1 (fun e => ?_) (fun a1 => pk_eq (K n) 2 (fun e => ?_) (fun a2 => pk_eq (K n) 34 (fun e => ?_) (fun a3 => pk_eq (K n) 47 (fun e => ?_) (fun a4 => pk_eq (K n) 64 (fun e => ?_) (fun a5 => pk_eq (K n) 92 (fun e => ?_) (fun a6 => ?_))))))
  · rw [if_pos e] at h
    exact xs_fork H e (by have := nd_f1 nd e; omega) h
  · rw [if_neg a1, if_pos e] at h
    exact xs_hook H e (by have := am_fs nd (Or.inl e); omega) h
  · rw [if_neg a1, if_neg a2, if_neg (by omega), if_neg (by omega), if_neg (by omega), if_pos e] at h
    exact xs_each H e (by have := am_fa nd (Or.inr (Or.inr e)); omega) (fun z => by have := (l3 e z).1; omega) h
  · rw [if_neg a1, if_neg a2, if_neg (by omega), if_pos e] at h
    exact xs_red H e (by have := am_fa nd (Or.inl e); omega) h
  · rw [if_neg a1, if_neg a2, if_pos e] at h
    exact xs_atop H e (by have := am_fs nd (Or.inr e); omega) h
  · rw [if_neg a1, if_neg a2, if_neg (by omega), if_neg (by omega), if_pos e] at h
    exact xs_scan H e (by have := am_fa nd (Or.inr (Or.inl e)); omega) (fun z => by have := l2 e z; omega) h
  · rw [if_neg a1, if_neg a2, if_neg a5, if_neg a4, if_neg a6, if_neg a3] at h
    exact xs_leaf H hl kk h
def xr_R (lim : Nat) (K : Nat → Nat) (ax ay : List Int32) (f_textCount f_trainHeld f_rootNode f_nodeCount f_wordCount f_groupFirst f_atopWaiting f_groupCount f_adverbCount f_canonCount f_postponedCount f_lastStatus : Int32) (a_text a_nodeKind a_nodeFirst a_nodeSecond a_nodeThird a_words a_outerFirst a_outerAtop a_canon a_postponed : Nat → Int32) (fs : List am_F) (R : List Int32) (u : SX) : Prop :=
  ∃ fc c l fn fd fx fy fp, u = (nI lim, f_textCount, f_trainHeld, f_rootNode, f_nodeCount, f_wordCount, f_groupFirst, f_atopWaiting, f_groupCount, f_adverbCount, f_canonCount, f_postponedCount, fc, 0, f_lastStatus, a_text, a_nodeKind, a_nodeFirst, a_nodeSecond, a_nodeThird, a_words, a_outerFirst, a_outerAtop, a_canon, a_postponed, c, l, fn, fd, fx, fy, fp) ∧ xm_S K ax ay fs R fc c l fn fd fx fy fp
def xr_F (lim : Nat) (ax ay : List Int32) (f_textCount f_trainHeld f_rootNode f_nodeCount f_wordCount f_groupFirst f_atopWaiting f_groupCount f_adverbCount f_canonCount f_postponedCount f_lastStatus : Int32) (a_text a_nodeKind a_nodeFirst a_nodeSecond a_nodeThird a_words a_outerFirst a_outerAtop a_canon a_postponed : Nat → Int32) (e : Nat) (u : SX) : Prop :=
  ∃ fc c l fn fd fx fy fp, u = (nI lim, f_textCount, f_trainHeld, f_rootNode, f_nodeCount, f_wordCount, f_groupFirst, f_atopWaiting, f_groupCount, f_adverbCount, f_canonCount, f_postponedCount, fc, nI e, f_lastStatus, a_text, a_nodeKind, a_nodeFirst, a_nodeSecond, a_nodeThird, a_words, a_outerFirst, a_outerAtop, a_canon, a_postponed, c, l, fn, fd, fx, fy, fp) ∧ ve_L c l 0 ax ∧ ve_L c l 1 ay
def xr_W (post : Int32 → SX → Prop) (k i : Nat) (u : SX) : Prop :=
  match u with
  | (f_vectorLimit, f_textCount, f_trainHeld, f_rootNode, f_nodeCount, f_wordCount, f_groupFirst, f_atopWaiting, f_groupCount, f_adverbCount, f_canonCount, f_postponedCount, f_frameCount, f_failure, f_lastStatus, a_text, a_nodeKind, a_nodeFirst, a_nodeSecond, a_nodeThird, a_words, a_outerFirst, a_outerAtop, a_canon, a_postponed, a_cells, a_lengths, a_frameNode, a_frameDyadic, a_frameX, a_frameY, a_framePhase) => wX_apply_53 post k (nI i) f_vectorLimit f_textCount f_trainHeld f_rootNode f_nodeCount f_wordCount f_groupFirst f_atopWaiting f_groupCount f_adverbCount f_canonCount f_postponedCount f_frameCount f_failure f_lastStatus a_text a_nodeKind a_nodeFirst a_nodeSecond a_nodeThird a_words a_outerFirst a_outerAtop a_canon a_postponed a_cells a_lengths a_frameNode a_frameDyadic a_frameX a_frameY a_framePhase
theorem xr_o {lim : Nat} {K : Nat → Nat} {ax ay : List Int32} (f_textCount f_trainHeld f_rootNode f_nodeCount f_wordCount f_groupFirst f_atopWaiting f_groupCount f_adverbCount f_canonCount f_postponedCount f_lastStatus : Int32) (a_text a_nodeKind a_nodeFirst a_nodeSecond a_nodeThird a_words a_outerFirst a_outerAtop a_canon a_postponed : Nat → Int32) {n : Nat} {d : Bool} {p : Nat} {x y : List Int32} {r : List am_F} {R : List Int32} {o : am_O} {fl fc : Int32} {c l fn fd fx fy fp : Nat → Int32}
    (h : xm_O K ax ay n d p x y r R o fl fc c l fn fd fx fy fp) :
    am_out (xr_F lim ax ay f_textCount f_trainHeld f_rootNode f_nodeCount f_wordCount f_groupFirst f_atopWaiting f_groupCount f_adverbCount f_canonCount f_postponedCount f_lastStatus a_text a_nodeKind a_nodeFirst a_nodeSecond a_nodeThird a_words a_outerFirst a_outerAtop a_canon a_postponed) (xr_R lim K ax ay f_textCount f_trainHeld f_rootNode f_nodeCount f_wordCount f_groupFirst f_atopWaiting f_groupCount f_adverbCount f_canonCount f_postponedCount f_lastStatus a_text a_nodeKind a_nodeFirst a_nodeSecond a_nodeThird a_words a_outerFirst a_outerAtop a_canon a_postponed) n d p x y r R o (nI lim, f_textCount, f_trainHeld, f_rootNode, f_nodeCount, f_wordCount, f_groupFirst, f_atopWaiting, f_groupCount, f_adverbCount, f_canonCount, f_postponedCount, fc, fl, f_lastStatus, a_text, a_nodeKind, a_nodeFirst, a_nodeSecond, a_nodeThird, a_words, a_outerFirst, a_outerAtop, a_canon, a_postponed, c, l, fn, fd, fx, fy, fp) := by
  match o, h with
  | Sum.inl e, h => obtain ⟨rfl, h0, h1⟩ := h; exact ⟨_, _, _, _, _, _, _, _, rfl, h0, h1⟩
  | Sum.inr (Sum.inl v), h => obtain ⟨rfl, h0⟩ := h; exact ⟨_, _, _, _, _, _, _, _, rfl, h0⟩
  | Sum.inr (Sum.inr (w', n', d', x', y')), h => obtain ⟨rfl, h0⟩ := h; exact ⟨_, _, _, _, _, _, _, _, rfl, h0⟩
theorem xr_s {lim N : Nat} {K F S T C A D : Nat → Nat} {ax ay : List Int32} (f_textCount f_trainHeld f_rootNode f_nodeCount f_wordCount f_groupFirst f_atopWaiting f_groupCount f_adverbCount f_canonCount f_postponedCount f_lastStatus : Int32) (a_text a_nodeKind a_nodeFirst a_nodeSecond a_nodeThird a_words a_outerFirst a_outerAtop a_canon a_postponed : Nat → Int32) (hl : lim ≤ 16) (hN : N ≤ 64)
    (hT : tr_X N K F S T a_nodeKind a_nodeFirst a_nodeSecond a_nodeThird) (hK : tr_ok N K F S T C A D) :
    am_stp lim N K F S T 1000000 (xr_F lim ax ay f_textCount f_trainHeld f_rootNode f_nodeCount f_wordCount f_groupFirst f_atopWaiting f_groupCount f_adverbCount f_canonCount f_postponedCount f_lastStatus a_text a_nodeKind a_nodeFirst a_nodeSecond a_nodeThird a_words a_outerFirst a_outerAtop a_canon a_postponed) (xr_R lim K ax ay f_textCount f_trainHeld f_rootNode f_nodeCount f_wordCount f_groupFirst f_atopWaiting f_groupCount f_adverbCount f_canonCount f_postponedCount f_lastStatus a_text a_nodeKind a_nodeFirst a_nodeSecond a_nodeThird a_words a_outerFirst a_outerAtop a_canon a_postponed) xr_W := by
  intro n d p x y w r R u hok hu post k i hi h
  obtain ⟨fc, c, l, fn, fd, fx, fy, fp, rfl, hS⟩ := hu
  have e : fc = nI (r.length + 1) := hS.1
  subst e
  have o2 := hok.2.1
  refine br_f (nI_ge (b := 1000000) hi (by decide)) (br_f (nI_nle (by omega) (by omega)) (br_t rfl ?_))
  rw [nI_pred]
  refine xs_frame hl hN hT hK hok hS fun fl fc' c' l' fn' fd' fx' fy' fp' ho => nm_r (nI_1 i) ?_
  exact h _ (xr_o f_textCount f_trainHeld f_rootNode f_nodeCount f_wordCount f_groupFirst f_atopWaiting f_groupCount f_adverbCount f_canonCount f_postponedCount f_lastStatus a_text a_nodeKind a_nodeFirst a_nodeSecond a_nodeThird a_words a_outerFirst a_outerAtop a_canon a_postponed ho)
