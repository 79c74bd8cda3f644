/-! the component's steps -/
def xs_H (N : Nat) (K F S T : Nat → Nat) (ax ay R : List Int32) (n : Nat) (d : Bool) (p : Nat) (x y w : List Int32) (r : List am_F) (kx fx1 sx1 tx1 c l fn fd fx fy fp : Nat → Int32) : Prop :=
  tr_X N K F S T kx fx1 sx1 tx1 ∧ N ≤ 64 ∧ n < N ∧ n + r.length < 63 ∧ fp r.length = nI (p + 1) ∧ xm_top K c l fn fd fx fy r.length n d p x y w ∧ xm_F K c l fn fd fx fy fp r ∧ ve_L c l 0 ax ∧ ve_L c l 1 ay ∧ (0 < p → ve_L c l 3 R) ∧ p ≤ 16
theorem xm_Op {K : Nat → Nat} {ax ay : List Int32} {n : Nat} {d : Bool} {p : Nat} {x y : List Int32} {r : List am_F} {R w' : List Int32} {n' : Nat} {d' : Bool} {x' y' : List Int32} {fc : Int32} {c l fn fd fx fy fp : Nat → Int32}
    (h : xm_S K ax ay ((n', d', 0, x', y', []) :: (n, d, p + 1, x, y, w') :: r) R fc c l fn fd fx fy fp) : xm_O K ax ay n d p x y r R (am_push w' n' d' x' y') 0 fc c l fn fd fx fy fp := ⟨rfl, h⟩
theorem xm_Oq {K : Nat → Nat} {ax ay : List Int32} {n : Nat} {d : Bool} {p : Nat} {x y : List Int32} {r : List am_F} {R v : List Int32} {fc : Int32} {c l fn fd fx fy fp : Nat → Int32}
    (h : xm_S K ax ay r v fc c l fn fd fx fy fp) : xm_O K ax ay n d p x y r R (am_pop v) 0 fc c l fn fd fx fy fp := ⟨rfl, h⟩
theorem xm_Of {K : Nat → Nat} {ax ay : List Int32} {n : Nat} {d : Bool} {p : Nat} {x y : List Int32} {r : List am_F} {R : List Int32} {e : Nat} {fc : Int32} {c l fn fd fx fy fp : Nat → Int32}
    (h0 : ve_L c l 0 ax) (h1 : ve_L c l 1 ay) : xm_O K ax ay n d p x y r R (am_fail e) (nI e) fc c l fn fd fx fy fp := ⟨rfl, h0, h1⟩
theorem xs_slA {post : Int32 → Prop} {f : Nat} (h : post (nI (4 + 3 * f))) : wpX_slotA post (nI f) := by
  show post (4 + nI f * 3)
  rw [show (3 : Int32) = nI 3 from rfl, show (4 : Int32) = nI 4 from rfl, pk_mul, nI_add, Nat.mul_comm]
  exact h
theorem xs_slB {post : Int32 → Prop} {f : Nat} (h : post (nI (4 + 3 * f + 1))) : wpX_slotB post (nI f) := by
  show post ((4 + nI f * 3) + 1)
  rw [show (3 : Int32) = nI 3 from rfl, show (4 : Int32) = nI 4 from rfl, pk_mul, nI_add, nI_1, Nat.mul_comm]
  exact h
theorem xs_slZ {post : Int32 → Prop} {f : Nat} (h : post (nI (4 + 3 * f + 2))) : wpX_slotZ post (nI f) := by
  show post ((4 + nI f * 3) + 2)
  rw [show (3 : Int32) = nI 3 from rfl, show (4 : Int32) = nI 4 from rfl, show (2 : Int32) = nI 2 from rfl, pk_mul, nI_add, nI_add, Nat.mul_comm]
  exact h
theorem ax_nb (d : Bool) : vp_nar .boolean (xm_b d) = xm_b d := by cases d <;> rfl
theorem xs_enter {f_vectorLimit f_textCount f_trainHeld f_rootNode f_nodeCount f_wordCount f_groupFirst f_atopWaiting f_groupCount f_adverbCount f_canonCount f_postponedCount f_failure f_lastStatus : Int32} {a_text a_nodeKind a_nodeFirst a_nodeSecond a_nodeThird a_words a_outerFirst a_outerAtop a_canon a_postponed a_cells a_lengths a_frameNode a_frameDyadic a_frameX a_frameY a_framePhase : Nat → Int32} {post : SX → Prop} {m n' sx sy : Nat} {d' : Bool} (hm : m < 64)
    (h : post (f_vectorLimit, f_textCount, f_trainHeld, f_rootNode, f_nodeCount, f_wordCount, f_groupFirst, f_atopWaiting, f_groupCount, f_adverbCount, f_canonCount, f_postponedCount, nI (m + 1), f_failure, f_lastStatus, a_text, a_nodeKind, a_nodeFirst, a_nodeSecond, a_nodeThird, a_words, a_outerFirst, a_outerAtop, a_canon, a_postponed, a_cells, a_lengths, upd a_frameNode m (nI n'), upd a_frameDyadic m (xm_b d'), upd a_frameX m (nI sx), upd a_frameY m (nI sy), upd a_framePhase m 0)) :
    wpX_enter post (f_vectorLimit, f_textCount, f_trainHeld, f_rootNode, f_nodeCount, f_wordCount, f_groupFirst, f_atopWaiting, f_groupCount, f_adverbCount, f_canonCount, f_postponedCount, nI m, f_failure, f_lastStatus, a_text, a_nodeKind, a_nodeFirst, a_nodeSecond, a_nodeThird, a_words, a_outerFirst, a_outerAtop, a_canon, a_postponed, a_cells, a_lengths, a_frameNode, a_frameDyadic, a_frameX, a_frameY, a_framePhase) (nI n') (xm_b d') (nI sx) (nI sy) := by
  have e1 : (nI m).toNatClampNeg = m := nI_clamp (by omega)
  have i1 : vp_in (nI m) 64 := vp_in_nI hm (by omega)
  simp only [wpX_enter, e1, ax_nb, nI_1, forall_eq]
  exact ⟨i1, i1, i1, i1, i1, h⟩
theorem xs_leave {f_vectorLimit f_textCount f_trainHeld f_rootNode f_nodeCount f_wordCount f_groupFirst f_atopWaiting f_groupCount f_adverbCount f_canonCount f_postponedCount f_failure f_lastStatus : Int32} {a_text a_nodeKind a_nodeFirst a_nodeSecond a_nodeThird a_words a_outerFirst a_outerAtop a_canon a_postponed a_cells a_lengths a_frameNode a_frameDyadic a_frameX a_frameY a_framePhase : Nat → Int32} {post : SX → Prop} {m : Nat} (h : post (f_vectorLimit, f_textCount, f_trainHeld, f_rootNode, f_nodeCount, f_wordCount, f_groupFirst, f_atopWaiting, f_groupCount, f_adverbCount, f_canonCount, f_postponedCount, nI m, f_failure, f_lastStatus, a_text, a_nodeKind, a_nodeFirst, a_nodeSecond, a_nodeThird, a_words, a_outerFirst, a_outerAtop, a_canon, a_postponed, a_cells, a_lengths, a_frameNode, a_frameDyadic, a_frameX, a_frameY, a_framePhase)) : wpX_leave post (f_vectorLimit, f_textCount, f_trainHeld, f_rootNode, f_nodeCount, f_wordCount, f_groupFirst, f_atopWaiting, f_groupCount, f_adverbCount, f_canonCount, f_postponedCount, nI (m + 1), f_failure, f_lastStatus, a_text, a_nodeKind, a_nodeFirst, a_nodeSecond, a_nodeThird, a_words, a_outerFirst, a_outerAtop, a_canon, a_postponed, a_cells, a_lengths, a_frameNode, a_frameDyadic, a_frameX, a_frameY, a_framePhase) := nm_r (nI_pred m) h
theorem xs_fork {f_vectorLimit f_textCount f_trainHeld f_rootNode f_nodeCount f_wordCount f_groupFirst f_atopWaiting f_groupCount f_adverbCount f_canonCount f_postponedCount f_lastStatus : Int32} {a_text a_nodeKind a_nodeFirst a_nodeSecond a_nodeThird a_words a_outerFirst a_outerAtop a_canon a_postponed a_cells a_lengths a_frameNode a_frameDyadic a_frameX a_frameY a_framePhase : Nat → Int32} {post : SX → Prop} {N : Nat} {K F S T : Nat → Nat} {ax ay R : List Int32} {n : Nat} {d : Bool} {p : Nat} {x y w : List Int32} {r : List am_F} (H : xs_H N K F S T ax ay R n d p x y w r a_nodeKind a_nodeFirst a_nodeSecond a_nodeThird a_cells a_lengths a_frameNode a_frameDyadic a_frameX a_frameY a_framePhase) (hk : K n = 1) (hc : 0 < n)
    (h : ∀ fl fc c l fn fd fx fy fp, xm_O K ax ay n d p x y r R (am_fork (F n) (S n) (T n) d p x y w R) fl fc c l fn fd fx fy fp → post (f_vectorLimit, f_textCount, f_trainHeld, f_rootNode, f_nodeCount, f_wordCount, f_groupFirst, f_atopWaiting, f_groupCount, f_adverbCount, f_canonCount, f_postponedCount, fc, fl, f_lastStatus, a_text, a_nodeKind, a_nodeFirst, a_nodeSecond, a_nodeThird, a_words, a_outerFirst, a_outerAtop, a_canon, a_postponed, c, l, fn, fd, fx, fy, fp)) : wpX_stepFork post (f_vectorLimit, f_textCount, f_trainHeld, f_rootNode, f_nodeCount, f_wordCount, f_groupFirst, f_atopWaiting, f_groupCount, f_adverbCount, f_canonCount, f_postponedCount, nI (r.length + 1), 0, f_lastStatus, a_text, a_nodeKind, a_nodeFirst, a_nodeSecond, a_nodeThird, a_words, a_outerFirst, a_outerAtop, a_canon, a_postponed, a_cells, a_lengths, a_frameNode, a_frameDyadic, a_frameX, a_frameY, a_framePhase) (nI r.length) (nI p) := by
  obtain ⟨hT, hN, hn, hf, hp, ht, hr, h0, h1, h3, p16⟩ := H
  have ht' := ht
  obtain ⟨t1, t2, ⟨sx, x1, x2, x3, x4, x5⟩, ⟨sy, y1, y2, y3, y4, y5⟩, t5, t6⟩ := ht
  have e1 : (nI r.length).toNatClampNeg = r.length := nI_clamp (by omega)
  have e2 : (nI n).toNatClampNeg = n := nI_clamp (by omega)
  have i1 : vp_in (nI r.length) 64 := vp_in_nI (by omega) (by omega)
  have i2 : vp_in (nI n) 64 := vp_in_nI (by omega) (by omega)
  obtain ⟨k1, k2, k3, k4⟩ := hT n hn
  unfold am_fork at h
  refine ⟨i1, nm_r (e' := nI n) (by rw [e1]; exact t1) (xs_slA (xs_slB ?_))⟩
  refine pk_eq p 0 (fun e => ?_) (fun e => pk_eq p 1 (fun e' => ?_) (fun e' => pk_eq p 2 (fun e'' => ?_) (fun e'' => ?_)))
  · rw [if_pos e] at h
    refine ⟨i2, i1, i1, i1, ?_⟩
    rw [e2, e1, k4, t2, x1, y1]
    refine xs_enter (by omega) (h _ _ _ _ _ _ _ _ _ (xm_Op (xm_push R w (T n) d sx sy x y hp ht' hr (ve_Fr _ _ _) h0 h1 (fun _ z => by omega) (fun z => by omega) ⟨by omega, x3, x4⟩ ⟨by omega, y3, y4⟩ x5 y5)))
  · rw [if_neg e, if_pos e'] at h
    refine xv_copy (q := 3) (s := 4 + 3 * r.length) (by omega) (by omega) (by omega) (h3 (by omega)) fun c l hF hL => ⟨i2, i1, i1, i1, ?_⟩
    rw [e2, e1, k2, t2, x1, y1]
    refine xs_enter (by omega) (h _ _ _ _ _ _ _ _ _ (xm_Op (xm_push R R (F n) d sx sy x y hp ht' hr (ve_Fm hF fun t z => by have z' : t = 4 + 3 * r.length := z; omega) h0 h1 (fun _ _ => hL) (fun z => by omega) ⟨by omega, x3, x4⟩ ⟨by omega, y3, y4⟩ (fun z => ve_o hF (fun z => by have z' : sx = 4 + 3 * r.length := z; omega) (x5 z)) (ve_o hF (fun z => by have z' : sy = 4 + 3 * r.length := z; omega) y5))))
  · rw [if_neg e, if_neg e', if_pos e''] at h
    refine xv_copy (q := 3) (s := 4 + 3 * r.length + 1) (by omega) (by omega) (by omega) (h3 (by omega)) fun c l hF hL => ⟨i2, ?_⟩
    rw [e2, k3]
    refine xs_enter (d' := true) (by omega) (h _ _ _ _ _ _ _ _ _ (xm_Op (xm_push R w (S n) true (4 + 3 * r.length + 1) (4 + 3 * r.length) R w hp ht' hr (ve_Fm hF fun t z => by have z' : t = 4 + 3 * r.length + 1 := z; omega) h0 h1 (fun _ z => by omega) (fun z => by omega) ⟨by omega, by omega, by omega⟩ ⟨by omega, by omega, by omega⟩ (fun _ => hL) (ve_o hF (fun z => by have z' : 4 + 3 * r.length = 4 + 3 * r.length + 1 := z; omega) (t5 hk e'')))))
  · rw [if_neg e, if_neg e', if_neg e''] at h
    exact xs_leave (h _ _ _ _ _ _ _ _ _ (xm_Oq (xm_pop hr (ve_Fr _ _ _) h0 h1 (h3 (by omega)))))
theorem xs_b0 (d : Bool) {A B : Prop} (a : d = false → A) (b : d = true → B) : (xm_b d = 0 → A) ∧ (¬ xm_b d = 0 → B) := by
  cases d
  · exact ⟨fun _ => a rfl, fun z => absurd rfl z⟩
  · exact ⟨fun z => absurd z (by decide), fun _ => b rfl⟩
theorem xs_hook1 {f_vectorLimit f_textCount f_trainHeld f_rootNode f_nodeCount f_wordCount f_groupFirst f_atopWaiting f_groupCount f_adverbCount f_canonCount f_postponedCount f_lastStatus : Int32} {a_text a_nodeKind a_nodeFirst a_nodeSecond a_nodeThird a_words a_outerFirst a_outerAtop a_canon a_postponed a_cells a_lengths a_frameNode a_frameDyadic a_frameX a_frameY a_framePhase : Nat → Int32} {post : SX → Prop} {N : Nat} {K F S T : Nat → Nat} {ax ay R : List Int32} {n : Nat} {d : Bool} {p : Nat} {x y w : List Int32} {r : List am_F} (H : xs_H N K F S T ax ay R n d p x y w r a_nodeKind a_nodeFirst a_nodeSecond a_nodeThird a_cells a_lengths a_frameNode a_frameDyadic a_frameX a_frameY a_framePhase) (hk : K n = 2) (hc : 0 < n) {z : Nat} (hz : z < 4 + 3 * r.length ∧ z ≠ 2 ∧ z ≠ 3 ∧ ve_L a_cells a_lengths z (if d = true then x else y))
    (h : ∀ fl fc c l fn fd fx fy fp, xm_O K ax ay n d p x y r R (am_hook (F n) (S n) d p x y w R) fl fc c l fn fd fx fy fp → post (f_vectorLimit, f_textCount, f_trainHeld, f_rootNode, f_nodeCount, f_wordCount, f_groupFirst, f_atopWaiting, f_groupCount, f_adverbCount, f_canonCount, f_postponedCount, fc, fl, f_lastStatus, a_text, a_nodeKind, a_nodeFirst, a_nodeSecond, a_nodeThird, a_words, a_outerFirst, a_outerAtop, a_canon, a_postponed, c, l, fn, fd, fx, fy, fp)) : wX_stepHook_37 post (nI r.length) (nI p) (nI n) (nI (4 + 3 * r.length)) (nI z) f_vectorLimit f_textCount f_trainHeld f_rootNode f_nodeCount f_wordCount f_groupFirst f_atopWaiting f_groupCount f_adverbCount f_canonCount f_postponedCount (nI (r.length + 1)) 0 f_lastStatus a_text a_nodeKind a_nodeFirst a_nodeSecond a_nodeThird a_words a_outerFirst a_outerAtop a_canon a_postponed a_cells a_lengths a_frameNode a_frameDyadic a_frameX a_frameY a_framePhase := by
  obtain ⟨hT, hN, hn, hf, hp, ht, hr, h0, h1, h3, p16⟩ := H
  have ht' := ht
  obtain ⟨t1, t2, ⟨sx, x1, x2, x3, x4, x5⟩, ⟨sy, y1, y2, y3, y4, y5⟩, t5, t6⟩ := ht
  have e1 : (nI r.length).toNatClampNeg = r.length := nI_clamp (by omega)
  have e2 : (nI n).toNatClampNeg = n := nI_clamp (by omega)
  have i1 : vp_in (nI r.length) 64 := vp_in_nI (by omega) (by omega)
  have i2 : vp_in (nI n) 64 := vp_in_nI (by omega) (by omega)
  obtain ⟨k1, k2, k3, k4⟩ := hT n hn
  unfold am_hook at h
  refine pk_eq p 0 (fun e => ?_) (fun e => pk_eq p 1 (fun e' => ?_) (fun e' => ?_))
  · rw [if_pos e] at h
    refine ⟨i2, i1, i1, ?_⟩
    rw [e2, e1, k3, y1]
    refine xs_enter (d' := false) (by omega) (h _ _ _ _ _ _ _ _ _ (xm_Op (xm_push R w (S n) false sy sy [] y hp ht' hr (ve_Fr _ _ _) h0 h1 (fun z => by omega) (fun z => by omega) ⟨by omega, y3, y4⟩ ⟨by omega, y3, y4⟩ (fun z => by cases z) y5)))
  · rw [if_neg e, if_pos e'] at h
    refine xv_copy (q := 3) (s := 4 + 3 * r.length) (by omega) (by omega) (by omega) (h3 (by omega)) fun c l hF hL => ⟨i2, ?_⟩
    rw [e2, k2]
    refine xs_enter (d' := true) (by omega) (h _ _ _ _ _ _ _ _ _ (xm_Op (xm_push R w (F n) true z (4 + 3 * r.length) (if d = true then x else y) R hp ht' hr (ve_Fm hF fun t z => by have z' : t = 4 + 3 * r.length := z; omega) h0 h1 (fun z => by omega) (fun z => by omega) ⟨by omega, hz.2.1, hz.2.2.1⟩ ⟨by omega, by omega, by omega⟩ (fun _ => ve_o hF (fun q => by have z' : z = 4 + 3 * r.length := q; omega) hz.2.2.2) hL)))
  · rw [if_neg e, if_neg e'] at h
    exact xs_leave (h _ _ _ _ _ _ _ _ _ (xm_Oq (xm_pop hr (ve_Fr _ _ _) h0 h1 (h3 (by omega)))))
theorem xs_hook {f_vectorLimit f_textCount f_trainHeld f_rootNode f_nodeCount f_wordCount f_groupFirst f_atopWaiting f_groupCount f_adverbCount f_canonCount f_postponedCount f_lastStatus : Int32} {a_text a_nodeKind a_nodeFirst a_nodeSecond a_nodeThird a_words a_outerFirst a_outerAtop a_canon a_postponed a_cells a_lengths a_frameNode a_frameDyadic a_frameX a_frameY a_framePhase : Nat → Int32} {post : SX → Prop} {N : Nat} {K F S T : Nat → Nat} {ax ay R : List Int32} {n : Nat} {d : Bool} {p : Nat} {x y w : List Int32} {r : List am_F} (H : xs_H N K F S T ax ay R n d p x y w r a_nodeKind a_nodeFirst a_nodeSecond a_nodeThird a_cells a_lengths a_frameNode a_frameDyadic a_frameX a_frameY a_framePhase) (hk : K n = 2) (hc : 0 < n)
    (h : ∀ fl fc c l fn fd fx fy fp, xm_O K ax ay n d p x y r R (am_hook (F n) (S n) d p x y w R) fl fc c l fn fd fx fy fp → post (f_vectorLimit, f_textCount, f_trainHeld, f_rootNode, f_nodeCount, f_wordCount, f_groupFirst, f_atopWaiting, f_groupCount, f_adverbCount, f_canonCount, f_postponedCount, fc, fl, f_lastStatus, a_text, a_nodeKind, a_nodeFirst, a_nodeSecond, a_nodeThird, a_words, a_outerFirst, a_outerAtop, a_canon, a_postponed, c, l, fn, fd, fx, fy, fp)) : wpX_stepHook post (f_vectorLimit, f_textCount, f_trainHeld, f_rootNode, f_nodeCount, f_wordCount, f_groupFirst, f_atopWaiting, f_groupCount, f_adverbCount, f_canonCount, f_postponedCount, nI (r.length + 1), 0, f_lastStatus, a_text, a_nodeKind, a_nodeFirst, a_nodeSecond, a_nodeThird, a_words, a_outerFirst, a_outerAtop, a_canon, a_postponed, a_cells, a_lengths, a_frameNode, a_frameDyadic, a_frameX, a_frameY, a_framePhase) (nI r.length) (nI p) := by
  have HH := H
  obtain ⟨hT, hN, hn, hf, hp, ht, hr, h0, h1, h3, p16⟩ := H
  have ht' := ht
  obtain ⟨t1, t2, ⟨sx, x1, x2, x3, x4, x5⟩, ⟨sy, y1, y2, y3, y4, y5⟩, t5, t6⟩ := ht
  have e1 : (nI r.length).toNatClampNeg = r.length := nI_clamp (by omega)
  have i1 : vp_in (nI r.length) 64 := vp_in_nI (by omega) (by omega)
  refine ⟨i1, nm_r (e' := nI n) (by rw [e1]; exact t1) (xs_slA ⟨i1, ?_⟩)⟩
  rw [e1, t2]
  refine xs_b0 d (fun hd => ⟨i1, ?_⟩) (fun hd => ⟨i1, ?_⟩)
  · rw [y1]
    exact xs_hook1 HH hk hc ⟨y2, y3, y4, by rw [if_neg (by rw [hd]; decide)]; exact y5⟩ h
  · rw [x1]
    exact xs_hook1 HH hk hc ⟨x2, x3, x4, by rw [if_pos hd]; exact x5 hd⟩ h
theorem xs_atop {f_vectorLimit f_textCount f_trainHeld f_rootNode f_nodeCount f_wordCount f_groupFirst f_atopWaiting f_groupCount f_adverbCount f_canonCount f_postponedCount f_lastStatus : Int32} {a_text a_nodeKind a_nodeFirst a_nodeSecond a_nodeThird a_words a_outerFirst a_outerAtop a_canon a_postponed a_cells a_lengths a_frameNode a_frameDyadic a_frameX a_frameY a_framePhase : Nat → Int32} {post : SX → Prop} {N : Nat} {K F S T : Nat → Nat} {ax ay R : List Int32} {n : Nat} {d : Bool} {p : Nat} {x y w : List Int32} {r : List am_F} (H : xs_H N K F S T ax ay R n d p x y w r a_nodeKind a_nodeFirst a_nodeSecond a_nodeThird a_cells a_lengths a_frameNode a_frameDyadic a_frameX a_frameY a_framePhase) (hk : K n = 64) (hc : 0 < n)
    (h : ∀ fl fc c l fn fd fx fy fp, xm_O K ax ay n d p x y r R (am_atop (F n) (S n) d p x y w R) fl fc c l fn fd fx fy fp → post (f_vectorLimit, f_textCount, f_trainHeld, f_rootNode, f_nodeCount, f_wordCount, f_groupFirst, f_atopWaiting, f_groupCount, f_adverbCount, f_canonCount, f_postponedCount, fc, fl, f_lastStatus, a_text, a_nodeKind, a_nodeFirst, a_nodeSecond, a_nodeThird, a_words, a_outerFirst, a_outerAtop, a_canon, a_postponed, c, l, fn, fd, fx, fy, fp)) : wpX_stepAtop post (f_vectorLimit, f_textCount, f_trainHeld, f_rootNode, f_nodeCount, f_wordCount, f_groupFirst, f_atopWaiting, f_groupCount, f_adverbCount, f_canonCount, f_postponedCount, nI (r.length + 1), 0, f_lastStatus, a_text, a_nodeKind, a_nodeFirst, a_nodeSecond, a_nodeThird, a_words, a_outerFirst, a_outerAtop, a_canon, a_postponed, a_cells, a_lengths, a_frameNode, a_frameDyadic, a_frameX, a_frameY, a_framePhase) (nI r.length) (nI p) := by
  obtain ⟨hT, hN, hn, hf, hp, ht, hr, h0, h1, h3, p16⟩ := H
  have ht' := ht
  obtain ⟨t1, t2, ⟨sx, x1, x2, x3, x4, x5⟩, ⟨sy, y1, y2, y3, y4, y5⟩, t5, t6⟩ := ht
  have e1 : (nI r.length).toNatClampNeg = r.length := nI_clamp (by omega)
  have e2 : (nI n).toNatClampNeg = n := nI_clamp (by omega)
  have i1 : vp_in (nI r.length) 64 := vp_in_nI (by omega) (by omega)
  have i2 : vp_in (nI n) 64 := vp_in_nI (by omega) (by omega)
  obtain ⟨k1, k2, k3, k4⟩ := hT n hn
  unfold am_atop at h
  refine ⟨i1, nm_r (e' := nI n) (by rw [e1]; exact t1) (xs_slA ?_)⟩
  refine pk_eq p 0 (fun e => ?_) (fun e => pk_eq p 1 (fun e' => ?_) (fun e' => ?_))
  · rw [if_pos e] at h
    refine ⟨i2, i1, i1, i1, ?_⟩
    rw [e2, e1, k3, t2, x1, y1]
    refine xs_enter (by omega) (h _ _ _ _ _ _ _ _ _ (xm_Op (xm_push R w (S n) d sx sy x y hp ht' hr (ve_Fr _ _ _) h0 h1 (fun z => by omega) (fun z => by omega) ⟨by omega, x3, x4⟩ ⟨by omega, y3, y4⟩ x5 y5)))
  · rw [if_neg e, if_pos e'] at h
    refine xv_copy (q := 3) (s := 4 + 3 * r.length) (by omega) (by omega) (by omega) (h3 (by omega)) fun c l hF hL => ⟨i2, ?_⟩
    rw [e2, k2]
    refine xs_enter (d' := false) (by omega) (h _ _ _ _ _ _ _ _ _ (xm_Op (xm_push R w (F n) false (4 + 3 * r.length) (4 + 3 * r.length) [] R hp ht' hr (ve_Fm hF fun t z => by have z' : t = 4 + 3 * r.length := z; omega) h0 h1 (fun z => by omega) (fun z => by omega) ⟨by omega, by omega, by omega⟩ ⟨by omega, by omega, by omega⟩ (fun z => by cases z) hL)))
  · rw [if_neg e, if_neg e'] at h
    exact xs_leave (h _ _ _ _ _ _ _ _ _ (xm_Oq (xm_pop hr (ve_Fr _ _ _) h0 h1 (h3 (by omega)))))
