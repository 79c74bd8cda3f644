/-! the component's adverbs and leaves -/
theorem ve_Fs {c l c' l' : Nat → Int32} {s q : Nat} (h : ve_F (fun t => t = s) c l c' l') (hs : s = 3 ∨ q ≤ s) : ve_F (fun t => t = 3 ∨ q ≤ t) c l c' l' :=
  ve_Fm h fun t z => by have z' : t = s := z; omega
theorem xs_sf {f_vectorLimit f_textCount f_trainHeld f_rootNode f_nodeCount f_wordCount f_groupFirst f_atopWaiting f_groupCount f_adverbCount f_canonCount f_postponedCount f_frameCount f_failure f_lastStatus : Int32} {a_text a_nodeKind a_nodeFirst a_nodeSecond a_nodeThird a_words a_outerFirst a_outerAtop a_canon a_postponed a_cells a_lengths a_frameNode a_frameDyadic a_frameX a_frameY a_framePhase : Nat → Int32} {post : SX → Prop} {f sx sy : Nat} {d : Bool} {x y : List Int32} (hf : f < 64) (t2 : a_frameDyadic f = xm_b d) (x1 : a_frameX f = nI sx) (y1 : a_frameY f = nI sy)
    (bx : sx < 4 + 3 * f) (hy : sy < 4 + 3 * f) (x5 : d = true → ve_L a_cells a_lengths sx x) (y5 : ve_L a_cells a_lengths sy y)
    (h : ∀ c l, ve_F (fun t => t = 4 + 3 * f) a_cells a_lengths c l → ve_L c l (4 + 3 * f) (if d = true then x else y.take 1) → post (f_vectorLimit, f_textCount, f_trainHeld, f_rootNode, f_nodeCount, f_wordCount, f_groupFirst, f_atopWaiting, f_groupCount, f_adverbCount, f_canonCount, f_postponedCount, f_frameCount, f_failure, f_lastStatus, a_text, a_nodeKind, a_nodeFirst, a_nodeSecond, a_nodeThird, a_words, a_outerFirst, a_outerAtop, a_canon, a_postponed, c, l, a_frameNode, a_frameDyadic, a_frameX, a_frameY, a_framePhase)) :
    wpX_startFold post (f_vectorLimit, f_textCount, f_trainHeld, f_rootNode, f_nodeCount, f_wordCount, f_groupFirst, f_atopWaiting, f_groupCount, f_adverbCount, f_canonCount, f_postponedCount, f_frameCount, f_failure, f_lastStatus, a_text, a_nodeKind, a_nodeFirst, a_nodeSecond, a_nodeThird, a_words, a_outerFirst, a_outerAtop, a_canon, a_postponed, a_cells, a_lengths, a_frameNode, a_frameDyadic, a_frameX, a_frameY, a_framePhase) (nI f) := by
  have e1 : (nI f).toNatClampNeg = f := nI_clamp (by omega)
  have e3 : (nI sy).toNatClampNeg = sy := nI_clamp (by omega)
  have e4 : (nI (4 + 3 * f)).toNatClampNeg = 4 + 3 * f := nI_clamp (by omega)
  have i1 : vp_in (nI f) 64 := vp_in_nI (by omega) (by omega)
  have y16 := y5.1
  refine ⟨i1, nm_r (e' := nI sy) (by rw [e1]; exact y1) (xs_slA ⟨vp_in_nI (by omega) (by omega), nm_r (e' := upd a_lengths (4 + 3 * f) 0) (by rw [e4]) ⟨i1, ?_⟩⟩)⟩
  rw [e1, t2]
  have y5' : ve_L a_cells (upd a_lengths (4 + 3 * f) 0) sy y := ve_o ve_Fl (by omega) y5
  refine xs_b0 d (fun hd => ⟨vp_in_nI (by omega) (by omega), ?_⟩) (fun hd => ⟨i1, ?_⟩)
  · rw [if_neg (by rw [hd]; decide)] at h
    rw [e3, y5'.2.1]
    refine pk_le y.length 0 (fun z => ?_) (fun z => ?_)
    · have : y.take 1 = [] := by rw [ve_nI (by omega : y.length = 0)]; rfl
      rw [this] at h
      exact h _ _ ve_Fl ve_nil
    · refine xv_el (i := 0) (xs := y) (zs := []) (by omega) (by omega) y5' (by omega) ve_nil (by decide) fun c l hF hL => ?_
      rw [ve_t1 (by omega)] at h
      exact h c l (ve_Ft ve_Fl hF) hL
  · rw [if_pos hd] at h
    rw [x1]
    refine xv_vec (xs := x) (zs := []) (by omega) (by omega) (by omega) (ve_o ve_Fl (by omega) (x5 hd)) ve_nil (by have := (x5 hd).1; simpa using this) fun c l hF hL => ?_
    exact h c l (ve_Ft ve_Fl hF) hL
theorem xs_fo {f_vectorLimit f_textCount f_trainHeld f_rootNode f_nodeCount f_wordCount f_groupFirst f_atopWaiting f_groupCount f_adverbCount f_canonCount f_postponedCount f_failure f_lastStatus : Int32} {a_text a_nodeKind a_nodeFirst a_nodeSecond a_nodeThird a_words a_outerFirst a_outerAtop a_canon a_postponed a_cells a_lengths a_frameNode a_frameDyadic a_frameX a_frameY a_framePhase : Nat → Int32} {post : SX → Prop} {f sy vs n n1 p : Nat} {d : Bool} {y v : List Int32} (hf : f < 63) (hn : n < 64) (p16 : p ≤ 16) (t1 : a_frameNode f = nI n) (k2 : a_nodeFirst n = nI n1) (t2 : a_frameDyadic f = xm_b d) (y1 : a_frameY f = nI sy)
    (hy : sy < 4 + 3 * f) (y5 : ve_L a_cells a_lengths sy y) (hv : ve_L a_cells a_lengths vs v) (hv3 : vs ≠ 3) (hvs : vs < 196)
    (ha : am_nx d p < y.length → ∀ c l, ve_F (fun t => t = 4 + 3 * f + 1) a_cells a_lengths c l → ve_L c l (4 + 3 * f + 1) [y.getD (am_nx d p) 0] → post (f_vectorLimit, f_textCount, f_trainHeld, f_rootNode, f_nodeCount, f_wordCount, f_groupFirst, f_atopWaiting, f_groupCount, f_adverbCount, f_canonCount, f_postponedCount, nI (f + 2), f_failure, f_lastStatus, a_text, a_nodeKind, a_nodeFirst, a_nodeSecond, a_nodeThird, a_words, a_outerFirst, a_outerAtop, a_canon, a_postponed, c, l, upd a_frameNode (f + 1) (nI n1), upd a_frameDyadic (f + 1) (xm_b true), upd a_frameX (f + 1) (nI (4 + 3 * f)), upd a_frameY (f + 1) (nI (4 + 3 * f + 1)), upd a_framePhase (f + 1) 0))
    (hb : ¬ am_nx d p < y.length → ∀ c l, ve_F (fun t => t = 3) a_cells a_lengths c l → ve_L c l 3 v → post (f_vectorLimit, f_textCount, f_trainHeld, f_rootNode, f_nodeCount, f_wordCount, f_groupFirst, f_atopWaiting, f_groupCount, f_adverbCount, f_canonCount, f_postponedCount, nI f, f_failure, f_lastStatus, a_text, a_nodeKind, a_nodeFirst, a_nodeSecond, a_nodeThird, a_words, a_outerFirst, a_outerAtop, a_canon, a_postponed, c, l, a_frameNode, a_frameDyadic, a_frameX, a_frameY, a_framePhase)) :
    wpX_foldOn post (f_vectorLimit, f_textCount, f_trainHeld, f_rootNode, f_nodeCount, f_wordCount, f_groupFirst, f_atopWaiting, f_groupCount, f_adverbCount, f_canonCount, f_postponedCount, nI (f + 1), f_failure, f_lastStatus, a_text, a_nodeKind, a_nodeFirst, a_nodeSecond, a_nodeThird, a_words, a_outerFirst, a_outerAtop, a_canon, a_postponed, a_cells, a_lengths, a_frameNode, a_frameDyadic, a_frameX, a_frameY, a_framePhase) (nI f) (nI p) (nI vs) := by
  have e1 : (nI f).toNatClampNeg = f := nI_clamp (by omega)
  have e3 : (nI sy).toNatClampNeg = sy := nI_clamp (by omega)
  have e4 : (nI (4 + 3 * f + 1)).toNatClampNeg = 4 + 3 * f + 1 := nI_clamp (by omega)
  have e5 : (nI n).toNatClampNeg = n := nI_clamp (by omega)
  have i1 : vp_in (nI f) 64 := vp_in_nI (by omega) (by omega)
  have y16 := y5.1
  have main : wX_foldOn_36 post (nI f) (nI vs) (nI sy) (nI (4 + 3 * f)) (nI (4 + 3 * f + 1)) (nI (am_nx d p)) f_vectorLimit f_textCount f_trainHeld f_rootNode f_nodeCount f_wordCount f_groupFirst f_atopWaiting f_groupCount f_adverbCount f_canonCount f_postponedCount (nI (f + 1)) f_failure f_lastStatus a_text a_nodeKind a_nodeFirst a_nodeSecond a_nodeThird a_words a_outerFirst a_outerAtop a_canon a_postponed a_cells a_lengths a_frameNode a_frameDyadic a_frameX a_frameY a_framePhase := by
    have hx : am_nx d p ≤ 17 := by unfold am_nx; split <;> omega
    refine ⟨vp_in_nI (by omega) (by omega), ?_⟩
    rw [e3, y5.2.1]
    refine pk_le y.length (am_nx d p) (fun z => ?_) (fun z => ⟨vp_in_nI (by omega) (by omega), nm_r (e' := upd a_lengths (4 + 3 * f + 1) 0) (by rw [e4]) ?_⟩)
    · refine xv_copy (s := 3) hvs (by omega) hv3 hv fun c l hF hL => ?_
      exact xs_leave (hb (by omega) c l hF hL)
    · refine xv_el (xs := y) (zs := []) (by omega) (by omega) (ve_o ve_Fl (by omega) y5) z ve_nil (by decide) fun c l hF hL => ⟨i1, ?_⟩
      rw [e1, t1]
      refine ⟨vp_in_nI (by omega) (by omega), ?_⟩
      rw [e5, k2]
      exact xs_enter (d' := true) (by omega) (ha z c l (ve_Ft ve_Fl hF) hL)
  refine ⟨i1, nm_r (e' := nI sy) (by rw [e1]; exact y1) (xs_slA (xs_slB ⟨i1, ?_⟩))⟩
  rw [e1, t2]
  refine xs_b0 d (fun hd => ?_) (fun hd => ?_)
  · rw [nI_1]
    have : am_nx d p = p + 1 := by unfold am_nx; rw [if_neg (by rw [hd]; decide)]
    rw [this] at main
    exact main
  · have : am_nx d p = p := by unfold am_nx; rw [if_pos hd]
    rw [this] at main
    exact main
theorem xs_red1 {f_vectorLimit f_textCount f_trainHeld f_rootNode f_nodeCount f_wordCount f_groupFirst f_atopWaiting f_groupCount f_adverbCount f_canonCount f_postponedCount f_lastStatus : Int32} {a_text a_nodeKind a_nodeFirst a_nodeSecond a_nodeThird a_words a_outerFirst a_outerAtop a_canon a_postponed a_cells a_lengths a_frameNode a_frameDyadic a_frameX a_frameY a_framePhase : Nat → Int32} {post : SX → Prop} {N : Nat} {K F S T : Nat → Nat} {ax ay R : List Int32} {n : Nat} {d : Bool} {p : Nat} {x y w : List Int32} {r : List am_F} (H : xs_H N K F S T ax ay R n d p x y w r a_nodeKind a_nodeFirst a_nodeSecond a_nodeThird a_cells a_lengths a_frameNode a_frameDyadic a_frameX a_frameY a_framePhase) (hk : K n = 47) (hc : 0 < n) (hz : ¬ (p = 0 ∧ d = false ∧ y.length = 0)) {c1 l1 : Nat → Int32} (hF1 : ve_F (fun t => t = 4 + 3 * r.length) a_cells a_lengths c1 l1) (hA : ve_L c1 l1 (4 + 3 * r.length) (am_r d p x y R))
    (h : ∀ fl fc c l fn fd fx fy fp, xm_O K ax ay n d p x y r R (am_red (F n) d p x y w R) fl fc c l fn fd fx fy fp → post (f_vectorLimit, f_textCount, f_trainHeld, f_rootNode, f_nodeCount, f_wordCount, f_groupFirst, f_atopWaiting, f_groupCount, f_adverbCount, f_canonCount, f_postponedCount, fc, fl, f_lastStatus, a_text, a_nodeKind, a_nodeFirst, a_nodeSecond, a_nodeThird, a_words, a_outerFirst, a_outerAtop, a_canon, a_postponed, c, l, fn, fd, fx, fy, fp)) : wX_stepReduce_55 post (nI r.length) (nI p) (nI (4 + 3 * r.length)) f_vectorLimit f_textCount f_trainHeld f_rootNode f_nodeCount f_wordCount f_groupFirst f_atopWaiting f_groupCount f_adverbCount f_canonCount f_postponedCount (nI (r.length + 1)) 0 f_lastStatus a_text a_nodeKind a_nodeFirst a_nodeSecond a_nodeThird a_words a_outerFirst a_outerAtop a_canon a_postponed c1 l1 a_frameNode a_frameDyadic a_frameX a_frameY a_framePhase := by
  obtain ⟨hT, hN, hn, hf, hp, ht, hr, h0, h1, h3, p16⟩ := H
  have ht' := ht
  obtain ⟨t1, t2, ⟨sx, x1, x2, x3, x4, x5⟩, ⟨sy, y1, y2, y3, y4, y5⟩, t5, t6⟩ := ht
  obtain ⟨k1, k2, k3, k4⟩ := hT n hn
  unfold am_red at h
  rw [if_neg hz] at h
  refine xs_fo (n := n) (n1 := F n) (y := y) (v := am_r d p x y R) (by omega) (by omega) p16 t1 k2 t2 y1 y2 (ve_o hF1 (by omega) y5) hA (by omega) (by omega) (fun z c l hF hL => ?_) (fun z c l hF hL => ?_)
  · rw [if_pos z] at h
    refine h _ _ _ _ _ _ _ _ _ (xm_Op (xm_push R w (F n) true (4 + 3 * r.length) (4 + 3 * r.length + 1) (am_r d p x y R) _ hp ht' hr (ve_Ft (ve_Fs hF1 (by omega)) (ve_Fs hF (by omega))) h0 h1 (fun z => by omega) (fun z => by omega) ⟨by omega, by omega, by omega⟩ ⟨by omega, by omega, by omega⟩ (fun _ => ve_o hF (by omega) hA) hL))
  · rw [if_neg z] at h
    exact h _ _ _ _ _ _ _ _ _ (xm_Oq (xm_pop hr (ve_Ft (ve_Fs hF1 (by omega)) (ve_Fs hF (by omega))) h0 h1 hL))
theorem xs_red {f_vectorLimit f_textCount f_trainHeld f_rootNode f_nodeCount f_wordCount f_groupFirst f_atopWaiting f_groupCount f_adverbCount f_canonCount f_postponedCount f_lastStatus : Int32} {a_text a_nodeKind a_nodeFirst a_nodeSecond a_nodeThird a_words a_outerFirst a_outerAtop a_canon a_postponed a_cells a_lengths a_frameNode a_frameDyadic a_frameX a_frameY a_framePhase : Nat → Int32} {post : SX → Prop} {N : Nat} {K F S T : Nat → Nat} {ax ay R : List Int32} {n : Nat} {d : Bool} {p : Nat} {x y w : List Int32} {r : List am_F} (H : xs_H N K F S T ax ay R n d p x y w r a_nodeKind a_nodeFirst a_nodeSecond a_nodeThird a_cells a_lengths a_frameNode a_frameDyadic a_frameX a_frameY a_framePhase) (hk : K n = 47) (hc : 0 < n)
    (h : ∀ fl fc c l fn fd fx fy fp, xm_O K ax ay n d p x y r R (am_red (F n) d p x y w R) fl fc c l fn fd fx fy fp → post (f_vectorLimit, f_textCount, f_trainHeld, f_rootNode, f_nodeCount, f_wordCount, f_groupFirst, f_atopWaiting, f_groupCount, f_adverbCount, f_canonCount, f_postponedCount, fc, fl, f_lastStatus, a_text, a_nodeKind, a_nodeFirst, a_nodeSecond, a_nodeThird, a_words, a_outerFirst, a_outerAtop, a_canon, a_postponed, c, l, fn, fd, fx, fy, fp)) : wpX_stepReduce post (f_vectorLimit, f_textCount, f_trainHeld, f_rootNode, f_nodeCount, f_wordCount, f_groupFirst, f_atopWaiting, f_groupCount, f_adverbCount, f_canonCount, f_postponedCount, nI (r.length + 1), 0, f_lastStatus, a_text, a_nodeKind, a_nodeFirst, a_nodeSecond, a_nodeThird, a_words, a_outerFirst, a_outerAtop, a_canon, a_postponed, a_cells, a_lengths, a_frameNode, a_frameDyadic, a_frameX, a_frameY, a_framePhase) (nI r.length) (nI p) := by
  have HH := H
  obtain ⟨hT, hN, hn, hf, hp, ht, hr, h0, h1, h3, p16⟩ := H
  have ht' := ht
  obtain ⟨t1, t2, ⟨sx, x1, x2, x3, x4, x5⟩, ⟨sy, y1, y2, y3, y4, y5⟩, t5, t6⟩ := ht
  have e1 : (nI r.length).toNatClampNeg = r.length := nI_clamp (by omega)
  have i1 : vp_in (nI r.length) 64 := vp_in_nI (by omega) (by omega)
  have e3 : (nI sy).toNatClampNeg = sy := nI_clamp (by omega)
  have y16 := y5.1
  have sf : ¬ (p = 0 ∧ d = false ∧ y.length = 0) → p = 0 → wX_stepReduce_41 post (nI r.length) (nI p) (nI (4 + 3 * r.length)) f_vectorLimit f_textCount f_trainHeld f_rootNode f_nodeCount f_wordCount f_groupFirst f_atopWaiting f_groupCount f_adverbCount f_canonCount f_postponedCount (nI (r.length + 1)) 0 f_lastStatus a_text a_nodeKind a_nodeFirst a_nodeSecond a_nodeThird a_words a_outerFirst a_outerAtop a_canon a_postponed a_cells a_lengths a_frameNode a_frameDyadic a_frameX a_frameY a_framePhase := by
    intro hz p0
    refine xs_sf (by omega) t2 x1 y1 x2 y2 x5 y5 fun c l hF hL => ?_
    refine xs_red1 HH hk hc hz hF ?_ h
    unfold am_r
    rw [if_pos p0]
    exact hL
  unfold wpX_stepReduce
  refine xs_slA ?_
  refine pk_le p 0 (fun z => ⟨i1, ?_⟩) (fun z => ?_)
  · rw [e1, t2]
    refine xs_b0 d (fun hd => ⟨i1, ?_⟩) (fun hd => sf (fun q => by rw [hd] at q; exact absurd q.2.1 (by decide)) (by omega))
    rw [y1]
    refine ⟨vp_in_nI (by omega) (by omega), ?_⟩
    rw [e3, y5.2.1]
    refine pk_le y.length 0 (fun q => ?_) (fun q => sf (fun z => by omega) (by omega))
    unfold am_red at h
    rw [if_pos ⟨by omega, hd, by omega⟩] at h
    exact h _ _ _ _ _ _ _ _ _ (xm_Of h0 h1)
  · refine xv_copy (q := 3) (by omega) (by omega) (by omega) (h3 z) fun c l hF hL => ?_
    refine xs_red1 HH hk hc (by omega) hF ?_ h
    unfold am_r
    rw [if_neg (by omega)]
    exact hL
theorem xs_col {f_vectorLimit f_textCount f_trainHeld f_rootNode f_nodeCount f_wordCount f_groupFirst f_atopWaiting f_groupCount f_adverbCount f_canonCount f_postponedCount f_frameCount f_failure f_lastStatus : Int32} {a_text a_nodeKind a_nodeFirst a_nodeSecond a_nodeThird a_words a_outerFirst a_outerAtop a_canon a_postponed a_cells a_lengths a_frameNode a_frameDyadic a_frameX a_frameY a_framePhase : Nat → Int32} {post : Int32 → SX → Prop} {z : Nat} {w R : List Int32} (hz : z < 196) (hz3 : 3 ≠ z) (hR : ve_L a_cells a_lengths 3 R) (hw : ve_L a_cells a_lengths z w) (hw16 : w.length < 16)
    (ha : R.length = 1 → ∀ c l, ve_F (fun t => t = z) a_cells a_lengths c l → ve_L c l z (w ++ R) → post 1 (f_vectorLimit, f_textCount, f_trainHeld, f_rootNode, f_nodeCount, f_wordCount, f_groupFirst, f_atopWaiting, f_groupCount, f_adverbCount, f_canonCount, f_postponedCount, f_frameCount, f_failure, f_lastStatus, a_text, a_nodeKind, a_nodeFirst, a_nodeSecond, a_nodeThird, a_words, a_outerFirst, a_outerAtop, a_canon, a_postponed, c, l, a_frameNode, a_frameDyadic, a_frameX, a_frameY, a_framePhase))
    (hb : R.length ≠ 1 → post 0 (f_vectorLimit, f_textCount, f_trainHeld, f_rootNode, f_nodeCount, f_wordCount, f_groupFirst, f_atopWaiting, f_groupCount, f_adverbCount, f_canonCount, f_postponedCount, f_frameCount, 1, f_lastStatus, a_text, a_nodeKind, a_nodeFirst, a_nodeSecond, a_nodeThird, a_words, a_outerFirst, a_outerAtop, a_canon, a_postponed, a_cells, a_lengths, a_frameNode, a_frameDyadic, a_frameX, a_frameY, a_framePhase)) : wpX_collectReturned post (f_vectorLimit, f_textCount, f_trainHeld, f_rootNode, f_nodeCount, f_wordCount, f_groupFirst, f_atopWaiting, f_groupCount, f_adverbCount, f_canonCount, f_postponedCount, f_frameCount, f_failure, f_lastStatus, a_text, a_nodeKind, a_nodeFirst, a_nodeSecond, a_nodeThird, a_words, a_outerFirst, a_outerAtop, a_canon, a_postponed, a_cells, a_lengths, a_frameNode, a_frameDyadic, a_frameX, a_frameY, a_framePhase) (nI z) := by
  have r16 := hR.1
  refine pk_eq R.length 1 (fun e => ?_) (fun e => hb e) hR.2.1
  exact xv_vec (q := 3) (by omega) hz hz3 hR hw (by omega) (ha e)
theorem xs_scan1 {f_vectorLimit f_textCount f_trainHeld f_rootNode f_nodeCount f_wordCount f_groupFirst f_atopWaiting f_groupCount f_adverbCount f_canonCount f_postponedCount f_lastStatus : Int32} {a_text a_nodeKind a_nodeFirst a_nodeSecond a_nodeThird a_words a_outerFirst a_outerAtop a_canon a_postponed a_cells a_lengths a_frameNode a_frameDyadic a_frameX a_frameY a_framePhase : Nat → Int32} {post : SX → Prop} {N : Nat} {K F S T : Nat → Nat} {ax ay R : List Int32} {n : Nat} {d : Bool} {p : Nat} {x y w : List Int32} {r : List am_F} (H : xs_H N K F S T ax ay R n d p x y w r a_nodeKind a_nodeFirst a_nodeSecond a_nodeThird a_cells a_lengths a_frameNode a_frameDyadic a_frameX a_frameY a_framePhase) (hk : K n = 92) (hc : 0 < n) (hz : ¬ (p ≠ 0 ∧ R.length ≠ 1)) {c1 l1 : Nat → Int32} (hF1 : ve_F (fun t => t = 3 ∨ 4 + 3 * r.length ≤ t) a_cells a_lengths c1 l1) (hA : ve_L c1 l1 (4 + 3 * r.length) (am_r d p x y R)) (hZ : ve_L c1 l1 (4 + 3 * r.length + 2) (am_z d p y w R))
    (h : ∀ fl fc c l fn fd fx fy fp, xm_O K ax ay n d p x y r R (am_scan (F n) d p x y w R) fl fc c l fn fd fx fy fp → post (f_vectorLimit, f_textCount, f_trainHeld, f_rootNode, f_nodeCount, f_wordCount, f_groupFirst, f_atopWaiting, f_groupCount, f_adverbCount, f_canonCount, f_postponedCount, fc, fl, f_lastStatus, a_text, a_nodeKind, a_nodeFirst, a_nodeSecond, a_nodeThird, a_words, a_outerFirst, a_outerAtop, a_canon, a_postponed, c, l, fn, fd, fx, fy, fp)) : wX_stepScan_66 post (nI r.length) (nI p) (nI (4 + 3 * r.length + 2)) f_vectorLimit f_textCount f_trainHeld f_rootNode f_nodeCount f_wordCount f_groupFirst f_atopWaiting f_groupCount f_adverbCount f_canonCount f_postponedCount (nI (r.length + 1)) 0 f_lastStatus a_text a_nodeKind a_nodeFirst a_nodeSecond a_nodeThird a_words a_outerFirst a_outerAtop a_canon a_postponed c1 l1 a_frameNode a_frameDyadic a_frameX a_frameY a_framePhase := by
  obtain ⟨hT, hN, hn, hf, hp, ht, hr, h0, h1, h3, p16⟩ := H
  have ht' := ht
  obtain ⟨t1, t2, ⟨sx, x1, x2, x3, x4, x5⟩, ⟨sy, y1, y2, y3, y4, y5⟩, t5, t6⟩ := ht
  obtain ⟨k1, k2, k3, k4⟩ := hT n hn
  unfold am_scan at h
  rw [if_neg hz] at h
  refine xs_fo (n := n) (n1 := F n) (y := y) (v := am_z d p y w R) (by omega) (by omega) p16 t1 k2 t2 y1 y2 (ve_o hF1 (by omega) y5) hZ (by omega) (by omega) (fun z c l hF hL => ?_) (fun z c l hF hL => ?_)
  · rw [if_pos z] at h
    refine h _ _ _ _ _ _ _ _ _ (xm_Op (xm_push R (am_z d p y w R) (F n) true (4 + 3 * r.length) (4 + 3 * r.length + 1) (am_r d p x y R) _ hp ht' hr (ve_Ft hF1 (ve_Fs hF (by omega))) h0 h1 (fun z => by omega) (fun _ => ve_o hF (by omega) hZ) ⟨by omega, by omega, by omega⟩ ⟨by omega, by omega, by omega⟩ (fun _ => ve_o hF (by omega) hA) hL))
  · rw [if_neg z] at h
    exact h _ _ _ _ _ _ _ _ _ (xm_Oq (xm_pop hr (ve_Ft hF1 (ve_Fs hF (by omega))) h0 h1 hL))
theorem xs_scan {f_vectorLimit f_textCount f_trainHeld f_rootNode f_nodeCount f_wordCount f_groupFirst f_atopWaiting f_groupCount f_adverbCount f_canonCount f_postponedCount f_lastStatus : Int32} {a_text a_nodeKind a_nodeFirst a_nodeSecond a_nodeThird a_words a_outerFirst a_outerAtop a_canon a_postponed a_cells a_lengths a_frameNode a_frameDyadic a_frameX a_frameY a_framePhase : Nat → Int32} {post : SX → Prop} {N : Nat} {K F S T : Nat → Nat} {ax ay R : List Int32} {n : Nat} {d : Bool} {p : Nat} {x y w : List Int32} {r : List am_F} (H : xs_H N K F S T ax ay R n d p x y w r a_nodeKind a_nodeFirst a_nodeSecond a_nodeThird a_cells a_lengths a_frameNode a_frameDyadic a_frameX a_frameY a_framePhase) (hk : K n = 92) (hc : 0 < n) (hw16 : 0 < p → w.length < 16)
    (h : ∀ fl fc c l fn fd fx fy fp, xm_O K ax ay n d p x y r R (am_scan (F n) d p x y w R) fl fc c l fn fd fx fy fp → post (f_vectorLimit, f_textCount, f_trainHeld, f_rootNode, f_nodeCount, f_wordCount, f_groupFirst, f_atopWaiting, f_groupCount, f_adverbCount, f_canonCount, f_postponedCount, fc, fl, f_lastStatus, a_text, a_nodeKind, a_nodeFirst, a_nodeSecond, a_nodeThird, a_words, a_outerFirst, a_outerAtop, a_canon, a_postponed, c, l, fn, fd, fx, fy, fp)) : wpX_stepScan post (f_vectorLimit, f_textCount, f_trainHeld, f_rootNode, f_nodeCount, f_wordCount, f_groupFirst, f_atopWaiting, f_groupCount, f_adverbCount, f_canonCount, f_postponedCount, nI (r.length + 1), 0, f_lastStatus, a_text, a_nodeKind, a_nodeFirst, a_nodeSecond, a_nodeThird, a_words, a_outerFirst, a_outerAtop, a_canon, a_postponed, a_cells, a_lengths, a_frameNode, a_frameDyadic, a_frameX, a_frameY, a_framePhase) (nI r.length) (nI p) := by
  have HH := H
  obtain ⟨hT, hN, hn, hf, hp, ht, hr, h0, h1, h3, p16⟩ := H
  have ht' := ht
  obtain ⟨t1, t2, ⟨sx, x1, x2, x3, x4, x5⟩, ⟨sy, y1, y2, y3, y4, y5⟩, t5, t6⟩ := ht
  have e1 : (nI r.length).toNatClampNeg = r.length := nI_clamp (by omega)
  have i1 : vp_in (nI r.length) 64 := vp_in_nI (by omega) (by omega)
  have e4 : (nI (4 + 3 * r.length + 2)).toNatClampNeg = 4 + 3 * r.length + 2 := nI_clamp (by omega)
  unfold wpX_stepScan
  refine xs_slA ?_
  refine xs_slZ ?_
  refine pk_eq p 0 (fun e => ⟨vp_in_nI (by omega) (by omega), nm_r (e' := upd a_lengths (4 + 3 * r.length + 2) 0) (by rw [e4]) ?_⟩) (fun e => ?_)
  · refine xs_sf (by omega) t2 x1 y1 x2 y2 (fun z => ve_o ve_Fl (by omega) (x5 z)) (ve_o ve_Fl (by omega) y5) fun c l hF hL => ⟨i1, ?_⟩
    have hA : ve_L c l (4 + 3 * r.length) (am_r d p x y R) := by unfold am_r; rw [if_pos e]; exact hL
    have hZ : ve_L c l (4 + 3 * r.length + 2) [] := ve_o hF (by omega) ve_nil
    have hFF := ve_Ft (ve_Fs (q := 4 + 3 * r.length) (ve_Fl (c := a_cells) (l := a_lengths) (s := 4 + 3 * r.length + 2) (y := 0)) (by omega)) (ve_Fs hF (by omega))
    rw [e1, t2]
    refine xs_b0 d (fun hd => ?_) (fun hd => ?_)
    · rw [if_neg (by rw [hd]; decide)] at hL
      refine xv_vec (q := 4 + 3 * r.length) (xs := y.take 1) (zs := []) (by omega) (by omega) (by omega) hL hZ (by have := hL.1; simpa using this) fun c2 l2 hF2 hL2 => ?_
      refine xs_scan1 HH hk hc (by omega) (ve_Ft hFF (ve_Fs hF2 (by omega))) (ve_o hF2 (by omega) hA) ?_ h
      unfold am_z
      rw [if_pos e, if_neg (by rw [hd]; decide)]
      exact hL2
    · refine xs_scan1 HH hk hc (by omega) hFF hA ?_ h
      unfold am_z
      rw [if_pos e, if_pos hd]
      exact hZ
  · refine xs_col (by omega) (by omega) (h3 (by omega)) (t6 (Or.inl hk) (by omega)) (hw16 (by omega)) (fun hR c l hF hL => ?_) (fun hR => ?_)
    · refine br_f (by decide) ?_
      refine xv_copy (q := 3) (s := 4 + 3 * r.length) (by omega) (by omega) (by omega) (ve_o hF (by omega) (h3 (by omega))) fun c2 l2 hF2 hL2 => ?_
      refine xs_scan1 HH hk hc (by omega) (ve_Ft (ve_Fs hF (by omega)) (ve_Fs hF2 (by omega))) ?_ ?_ h
      · unfold am_r
        rw [if_neg e]
        exact hL2
      · unfold am_z
        rw [if_neg e]
        exact ve_o hF2 (by omega) hL
    · refine br_t rfl ?_
      unfold am_scan at h
      rw [if_pos ⟨e, hR⟩] at h
      exact h _ _ _ _ _ _ _ _ _ (xm_Of h0 h1)
theorem xs_ep {f_vectorLimit f_textCount f_trainHeld f_rootNode f_nodeCount f_wordCount f_groupFirst f_atopWaiting f_groupCount f_adverbCount f_canonCount f_postponedCount f_failure f_lastStatus : Int32} {a_text a_nodeKind a_nodeFirst a_nodeSecond a_nodeThird a_words a_outerFirst a_outerAtop a_canon a_postponed a_cells a_lengths a_frameNode a_frameDyadic a_frameX a_frameY a_framePhase : Nat → Int32} {post : SX → Prop} {f sx sy n n1 p : Nat} {d : Bool} {x y : List Int32} (hf : f < 63) (hn : n < 64) (p16 : p < 16) (t1 : a_frameNode f = nI n) (k2 : a_nodeFirst n = nI n1) (t2 : a_frameDyadic f = xm_b d) (x1 : a_frameX f = nI sx) (y1 : a_frameY f = nI sy)
    (bx : sx < 4 + 3 * f) (hy : sy < 4 + 3 * f) (x5 : d = true → ve_L a_cells a_lengths sx x) (y5 : ve_L a_cells a_lengths sy y)
    (gx : d = true → x.length ≠ 1 → p < x.length) (gy : d = true → y.length ≠ 1 → p < y.length) (gm : d = false → p < y.length)
    (h : ∀ c l, ve_F (fun t => t = 3 ∨ 4 + 3 * f ≤ t) a_cells a_lengths c l → ve_F (fun t => t = 4 + 3 * f ∨ t = 4 + 3 * f + 1) a_cells a_lengths c l → (d = true → ve_L c l (4 + 3 * f) (if d = true then [pr_el x p] else [])) → ve_L c l (4 + 3 * f + 1) [if d = true then pr_el y p else y.getD p 0] → post (f_vectorLimit, f_textCount, f_trainHeld, f_rootNode, f_nodeCount, f_wordCount, f_groupFirst, f_atopWaiting, f_groupCount, f_adverbCount, f_canonCount, f_postponedCount, nI (f + 2), f_failure, f_lastStatus, a_text, a_nodeKind, a_nodeFirst, a_nodeSecond, a_nodeThird, a_words, a_outerFirst, a_outerAtop, a_canon, a_postponed, c, l, upd a_frameNode (f + 1) (nI n1), upd a_frameDyadic (f + 1) (xm_b d), upd a_frameX (f + 1) (nI (4 + 3 * f)), upd a_frameY (f + 1) (nI (4 + 3 * f + 1)), upd a_framePhase (f + 1) 0)) :
    wpX_enterPair post (f_vectorLimit, f_textCount, f_trainHeld, f_rootNode, f_nodeCount, f_wordCount, f_groupFirst, f_atopWaiting, f_groupCount, f_adverbCount, f_canonCount, f_postponedCount, nI (f + 1), f_failure, f_lastStatus, a_text, a_nodeKind, a_nodeFirst, a_nodeSecond, a_nodeThird, a_words, a_outerFirst, a_outerAtop, a_canon, a_postponed, a_cells, a_lengths, a_frameNode, a_frameDyadic, a_frameX, a_frameY, a_framePhase) (nI f) (nI p) := by
  have e1 : (nI f).toNatClampNeg = f := nI_clamp (by omega)
  have e2 : (nI n).toNatClampNeg = n := nI_clamp (by omega)
  have e4 : (nI (4 + 3 * f)).toNatClampNeg = 4 + 3 * f := nI_clamp (by omega)
  have e5 : (nI (4 + 3 * f + 1)).toNatClampNeg = 4 + 3 * f + 1 := nI_clamp (by omega)
  have i1 : vp_in (nI f) 64 := vp_in_nI (by omega) (by omega)
  have en : ∀ c l, ve_F (fun t => t = 4 + 3 * f ∨ t = 4 + 3 * f + 1) a_cells a_lengths c l → (d = true → ve_L c l (4 + 3 * f) (if d = true then [pr_el x p] else [])) → ve_L c l (4 + 3 * f + 1) [if d = true then pr_el y p else y.getD p 0] → wX_enterPair_92 post (nI f) (nI (4 + 3 * f)) (nI (4 + 3 * f + 1)) f_vectorLimit f_textCount f_trainHeld f_rootNode f_nodeCount f_wordCount f_groupFirst f_atopWaiting f_groupCount f_adverbCount f_canonCount f_postponedCount (nI (f + 1)) f_failure f_lastStatus a_text a_nodeKind a_nodeFirst a_nodeSecond a_nodeThird a_words a_outerFirst a_outerAtop a_canon a_postponed c l a_frameNode a_frameDyadic a_frameX a_frameY a_framePhase := by
    intro c l hF hA hB
    have hF2 : ve_F (fun t => t = 3 ∨ 4 + 3 * f ≤ t) a_cells a_lengths c l := ve_Fm hF fun t z => by
      have z' : t = 4 + 3 * f ∨ t = 4 + 3 * f + 1 := z
      omega
    refine ⟨i1, ?_⟩
    rw [e1, t1]
    refine ⟨vp_in_nI (by omega) (by omega), i1, ?_⟩
    rw [e2, k2, t2]
    exact xs_enter (by omega) (h c l hF2 hF hA hB)
  unfold wpX_enterPair
  refine xs_slA ?_
  refine xs_slB ?_
  refine ⟨vp_in_nI (by omega) (by omega), nm_r (e' := upd a_lengths (4 + 3 * f) 0) (by rw [e4]) ⟨vp_in_nI (by omega) (by omega), nm_r (e' := upd (upd a_lengths (4 + 3 * f) 0) (4 + 3 * f + 1) 0) (by rw [e5]) ⟨i1, ?_⟩⟩⟩
  have hF0 : ve_F (fun t => t = 4 + 3 * f ∨ t = 4 + 3 * f + 1) a_cells a_lengths a_cells (upd (upd a_lengths (4 + 3 * f) 0) (4 + 3 * f + 1) 0) :=
    ve_Ft (ve_Fm ve_Fl fun t z => Or.inl z) (ve_Fm ve_Fl fun t z => Or.inr z)
  have z1 : ve_L a_cells (upd (upd a_lengths (4 + 3 * f) 0) (4 + 3 * f + 1) 0) (4 + 3 * f) [] := ve_o ve_Fl (by omega) ve_nil
  have z2 : ve_L a_cells (upd (upd a_lengths (4 + 3 * f) 0) (4 + 3 * f + 1) 0) (4 + 3 * f + 1) [] := ve_nil
  have y5' := ve_o hF0 (by omega) y5
  rw [e1, t2]
  refine xs_b0 d (fun hd => ⟨i1, ?_⟩) (fun hd => ⟨i1, ?_⟩)
  · rw [y1]
    refine xv_el (xs := y) (zs := []) (by omega) (by omega) y5' (gm hd) z2 (by decide) fun c l hF hL => ?_
    refine en c l (ve_Ft hF0 (ve_Fm hF fun t z => Or.inr z)) (fun q => by rw [hd] at q; cases q) ?_
    rw [if_neg (by rw [hd]; decide)]
    exact hL
  · have x5' := ve_o hF0 (by omega) (x5 hd)
    rw [x1]
    refine xv_pe (by omega) p16 x5' (gx hd) ⟨i1, ?_⟩
    rw [y1]
    refine xv_pe (by omega) p16 y5' (gy hd) ?_
    refine xv_ap (s := 4 + 3 * f) (zs := []) (by omega) z1 (by decide) fun c l hF hL => ?_
    refine xv_ap (s := 4 + 3 * f + 1) (zs := []) (by omega) (ve_o hF (by omega) z2) (by decide) fun c2 l2 hF2 hL2 => ?_
    refine en c2 l2 (ve_Ft hF0 (ve_Ft (ve_Fm hF fun t z => Or.inl z) (ve_Fm hF2 fun t z => Or.inr z))) (fun _ => ?_) ?_
    · rw [if_pos hd]
      exact ve_o hF2 (by omega) hL
    · rw [if_pos hd]
      exact hL2
