/-! the component: each, leaves, a frame step -/
theorem xs_each2 {f_vectorLimit f_textCount f_trainHeld f_rootNode f_nodeCount f_wordCount f_groupFirst f_atopWaiting f_groupCount f_adverbCount f_canonCount f_postponedCount f_lastStatus : Int32} {a_text a_nodeKind a_nodeFirst a_nodeSecond a_nodeThird a_words a_outerFirst a_outerAtop a_canon a_postponed a_cells a_lengths a_frameNode a_frameDyadic a_frameX a_frameY a_framePhase : Nat → Int32} {post : SX → Prop} {N : Nat} {K F S T : Nat → Nat} {ax ay R : List Int32} {n : Nat} {d : Bool} {p : Nat} {x y w : List Int32} {r : List am_F} (H : xs_H N K F S T ax ay R n d p x y w r a_nodeKind a_nodeFirst a_nodeSecond a_nodeThird a_cells a_lengths a_frameNode a_frameDyadic a_frameX a_frameY a_framePhase) (hk : K n = 34) (hc : 0 < n) {q : Nat} (hq : am_cnt d x y = some q) (q16 : q ≤ 16) (hz : ¬ (p ≠ 0 ∧ R.length ≠ 1)) {c1 l1 : Nat → Int32} (hF1 : ve_F (fun t => t = 4 + 3 * r.length + 2) a_cells a_lengths c1 l1) (hZ : ve_L c1 l1 (4 + 3 * r.length + 2) (am_ze p w R))
    (h : ∀ fl fc c l fn fd fx fy fp, xm_O K ax ay n d p x y r R (am_each (F n) d p x y w R) fl fc c l fn fd fx fy fp → post (f_vectorLimit, f_textCount, f_trainHeld, f_rootNode, f_nodeCount, f_wordCount, f_groupFirst, f_atopWaiting, f_groupCount, f_adverbCount, f_canonCount, f_postponedCount, fc, fl, f_lastStatus, a_text, a_nodeKind, a_nodeFirst, a_nodeSecond, a_nodeThird, a_words, a_outerFirst, a_outerAtop, a_canon, a_postponed, c, l, fn, fd, fx, fy, fp)) : wX_stepEach_86 post (nI r.length) (nI p) (nI (4 + 3 * r.length + 2)) (nI q) f_vectorLimit f_textCount f_trainHeld f_rootNode f_nodeCount f_wordCount f_groupFirst f_atopWaiting f_groupCount f_adverbCount f_canonCount f_postponedCount (nI (r.length + 1)) 0 f_lastStatus a_text a_nodeKind a_nodeFirst a_nodeSecond a_nodeThird a_words a_outerFirst a_outerAtop a_canon a_postponed c1 l1 a_frameNode a_frameDyadic a_frameX a_frameY a_framePhase := by
  obtain ⟨hT, hN, hn, hf, hp, ht, hr, h0, h1, h3, p16⟩ := H
  have ht' := ht
  obtain ⟨t1, t2, ⟨sx, x1, x2, x3, x4, x5⟩, ⟨sy, y1, y2, y3, y4, y5⟩, t5, t6⟩ := ht
  obtain ⟨k1, k2, k3, k4⟩ := hT n hn
  unfold am_each at h
  rw [hq] at h
  dsimp only at h
  rw [if_neg hz] at h
  refine pk_le q p (fun e => ?_) (fun e => ?_)
  · rw [if_neg (by omega)] at h
    refine xv_copy (s := 3) (by omega) (by omega) (by omega) hZ fun c l hF hL => ?_
    exact xs_leave (h _ _ _ _ _ _ _ _ _ (xm_Oq (xm_pop hr (ve_Ft (ve_Fs hF1 (by omega)) (ve_Fs hF (by omega))) h0 h1 hL)))
  · rw [if_pos e] at h
    have gg : (d = true → x.length ≠ 1 → p < x.length) ∧ (d = true → y.length ≠ 1 → p < y.length) ∧ (d = false → p < y.length) := by
      unfold am_cnt at hq
      refine ⟨fun hd => ?_, fun hd => ?_, fun hd => ?_⟩
      · rw [if_pos hd] at hq; exact (pr_cnt_lt hq e).1
      · rw [if_pos hd] at hq; exact (pr_cnt_lt hq e).2
      · rw [if_neg (by rw [hd]; decide)] at hq; cases hq; exact e
    refine xs_ep (n := n) (n1 := F n) (x := x) (y := y) (by omega) (by omega) (by omega) t1 k2 t2 x1 y1 x2 y2 (fun z => ve_o hF1 (by omega) (x5 z)) (ve_o hF1 (by omega) y5) gg.1 gg.2.1 gg.2.2 fun c l hF hF' hA hB => ?_
    refine h _ _ _ _ _ _ _ _ _ (xm_Op (xm_push R (am_ze p w R) (F n) d (4 + 3 * r.length) (4 + 3 * r.length + 1) _ _ hp ht' hr (ve_Ft (ve_Fs hF1 (by omega)) hF) h0 h1 (fun z => by omega) (fun _ => ve_o hF' (by omega) hZ) ⟨by omega, by omega, by omega⟩ ⟨by omega, by omega, by omega⟩ hA hB))
theorem xs_each1 {f_vectorLimit f_textCount f_trainHeld f_rootNode f_nodeCount f_wordCount f_groupFirst f_atopWaiting f_groupCount f_adverbCount f_canonCount f_postponedCount f_lastStatus : Int32} {a_text a_nodeKind a_nodeFirst a_nodeSecond a_nodeThird a_words a_outerFirst a_outerAtop a_canon a_postponed a_cells a_lengths a_frameNode a_frameDyadic a_frameX a_frameY a_framePhase : Nat → Int32} {post : SX → Prop} {N : Nat} {K F S T : Nat → Nat} {ax ay R : List Int32} {n : Nat} {d : Bool} {p : Nat} {x y w : List Int32} {r : List am_F} (H : xs_H N K F S T ax ay R n d p x y w r a_nodeKind a_nodeFirst a_nodeSecond a_nodeThird a_cells a_lengths a_frameNode a_frameDyadic a_frameX a_frameY a_framePhase) (hk : K n = 34) (hc : 0 < n) (hw16 : 0 < p → w.length < 16)
    (h : ∀ fl fc c l fn fd fx fy fp, xm_O K ax ay n d p x y r R (am_each (F n) d p x y w R) fl fc c l fn fd fx fy fp → post (f_vectorLimit, f_textCount, f_trainHeld, f_rootNode, f_nodeCount, f_wordCount, f_groupFirst, f_atopWaiting, f_groupCount, f_adverbCount, f_canonCount, f_postponedCount, fc, fl, f_lastStatus, a_text, a_nodeKind, a_nodeFirst, a_nodeSecond, a_nodeThird, a_words, a_outerFirst, a_outerAtop, a_canon, a_postponed, c, l, fn, fd, fx, fy, fp)) : wX_stepEach_47 post (nI r.length) (nI p) (nI (4 + 3 * r.length + 2)) (xq_c (am_cnt d x y)) f_vectorLimit f_textCount f_trainHeld f_rootNode f_nodeCount f_wordCount f_groupFirst f_atopWaiting f_groupCount f_adverbCount f_canonCount f_postponedCount (nI (r.length + 1)) 0 f_lastStatus a_text a_nodeKind a_nodeFirst a_nodeSecond a_nodeThird a_words a_outerFirst a_outerAtop a_canon a_postponed a_cells a_lengths a_frameNode a_frameDyadic a_frameX a_frameY a_framePhase := by
  have HH := H
  have h' := h
  obtain ⟨hT, hN, hn, hf, hp, ht, hr, h0, h1, h3, p16⟩ := H
  have ht' := ht
  obtain ⟨t1, t2, ⟨sx, x1, x2, x3, x4, x5⟩, ⟨sy, y1, y2, y3, y4, y5⟩, t5, t6⟩ := ht
  have e4 : (nI (4 + 3 * r.length + 2)).toNatClampNeg = 4 + 3 * r.length + 2 := nI_clamp (by omega)
  unfold am_each at h
  cases hq : am_cnt d x y with
  | none =>
    rw [hq] at h
    exact br_t rfl (h _ _ _ _ _ _ _ _ _ (xm_Of h0 h1))
  | some q =>
    have q16 : q ≤ 16 := by
      unfold am_cnt at hq
      split at hq
      · rename_i hd; exact pr_cnt_le hq (x5 hd).1 y5.1
      · cases hq; exact y5.1
    rw [hq] at h
    dsimp only at h
    refine br_f (xq_n1 q16) ?_
    refine pk_eq p 0 (fun e => ⟨vp_in_nI (by omega) (by omega), nm_r (e' := upd a_lengths (4 + 3 * r.length + 2) 0) (by rw [e4]) ?_⟩) (fun e => ?_)
    · refine xs_each2 HH hk hc hq q16 (by omega) ve_Fl ?_ h'
      unfold am_ze
      rw [if_pos e]
      exact ve_nil
    · refine xs_col (by omega) (by omega) (h3 (by omega)) (t6 (Or.inr hk) (by omega)) (hw16 (by omega)) (fun hR c l hF hL => ?_) (fun hR => ?_)
      · refine br_f (by decide) ?_
        refine xs_each2 HH hk hc hq q16 (by omega) hF ?_ h'
        unfold am_ze
        rw [if_neg e]
        exact hL
      · refine br_t rfl ?_
        rw [if_pos ⟨e, hR⟩] at h
        exact h _ _ _ _ _ _ _ _ _ (xm_Of h0 h1)
theorem xs_each {f_vectorLimit f_textCount f_trainHeld f_rootNode f_nodeCount f_wordCount f_groupFirst f_atopWaiting f_groupCount f_adverbCount f_canonCount f_postponedCount f_lastStatus : Int32} {a_text a_nodeKind a_nodeFirst a_nodeSecond a_nodeThird a_words a_outerFirst a_outerAtop a_canon a_postponed a_cells a_lengths a_frameNode a_frameDyadic a_frameX a_frameY a_framePhase : Nat → Int32} {post : SX → Prop} {N : Nat} {K F S T : Nat → Nat} {ax ay R : List Int32} {n : Nat} {d : Bool} {p : Nat} {x y w : List Int32} {r : List am_F} (H : xs_H N K F S T ax ay R n d p x y w r a_nodeKind a_nodeFirst a_nodeSecond a_nodeThird a_cells a_lengths a_frameNode a_frameDyadic a_frameX a_frameY a_framePhase) (hk : K n = 34) (hc : 0 < n) (hw16 : 0 < p → w.length < 16)
    (h : ∀ fl fc c l fn fd fx fy fp, xm_O K ax ay n d p x y r R (am_each (F n) d p x y w R) fl fc c l fn fd fx fy fp → post (f_vectorLimit, f_textCount, f_trainHeld, f_rootNode, f_nodeCount, f_wordCount, f_groupFirst, f_atopWaiting, f_groupCount, f_adverbCount, f_canonCount, f_postponedCount, fc, fl, f_lastStatus, a_text, a_nodeKind, a_nodeFirst, a_nodeSecond, a_nodeThird, a_words, a_outerFirst, a_outerAtop, a_canon, a_postponed, c, l, fn, fd, fx, fy, fp)) : wpX_stepEach post (f_vectorLimit, f_textCount, f_trainHeld, f_rootNode, f_nodeCount, f_wordCount, f_groupFirst, f_atopWaiting, f_groupCount, f_adverbCount, f_canonCount, f_postponedCount, nI (r.length + 1), 0, f_lastStatus, a_text, a_nodeKind, a_nodeFirst, a_nodeSecond, a_nodeThird, a_words, a_outerFirst, a_outerAtop, a_canon, a_postponed, a_cells, a_lengths, a_frameNode, a_frameDyadic, a_frameX, a_frameY, a_framePhase) (nI r.length) (nI p) := by
  have main := xs_each1 H hk hc hw16 h
  obtain ⟨hT, hN, hn, hf, hp, ht, hr, h0, h1, h3, p16⟩ := H
  obtain ⟨t1, t2, ⟨sx, x1, x2, x3, x4, x5⟩, ⟨sy, y1, y2, y3, y4, y5⟩, t5, t6⟩ := ht
  have e1 : (nI r.length).toNatClampNeg = r.length := nI_clamp (by omega)
  have i1 : vp_in (nI r.length) 64 := vp_in_nI (by omega) (by omega)
  have e3 : (nI sy).toNatClampNeg = sy := nI_clamp (by omega)
  refine ⟨i1, nm_r (e' := nI sx) (by rw [e1]; exact x1) ⟨i1, nm_r (e' := nI sy) (by rw [e1]; exact y1) (xs_slZ ⟨i1, ?_⟩)⟩⟩
  rw [e1, t2]
  refine xs_b0 d (fun hd => ⟨vp_in_nI (by omega) (by omega), ?_⟩) (fun hd => ?_)
  · rw [e3, y5.2.1]
    have : am_cnt d x y = some y.length := by unfold am_cnt; rw [if_neg (by rw [hd]; decide)]
    rw [this] at main
    exact main
  · have : am_cnt d x y = pr_cnt x.length y.length := by unfold am_cnt; rw [if_pos hd]
    rw [this] at main
    exact xv_pc (by omega) (by omega) (x5 hd) y5 main
theorem xv_dig {post : Int32 → Prop} {k : Nat} (hk : k < 128) (h1 : 48 ≤ k ∧ k ≤ 57 → post 1) (h0 : ¬ (48 ≤ k ∧ k ≤ 57) → post 0) : wpX_isDigit post (nI k) :=
  pk_lt k 48 (fun e => h0 (by omega)) (fun e => pk_lt 57 k (fun e' => h0 (by omega)) (fun e' => h1 ⟨e, e'⟩))
theorem xs_leaf {f_textCount f_trainHeld f_rootNode f_nodeCount f_wordCount f_groupFirst f_atopWaiting f_groupCount f_adverbCount f_canonCount f_postponedCount f_lastStatus : Int32} {a_text a_nodeKind a_nodeFirst a_nodeSecond a_nodeThird a_words a_outerFirst a_outerAtop a_canon a_postponed a_cells a_lengths a_frameNode a_frameDyadic a_frameX a_frameY a_framePhase : Nat → Int32} {post : SX → Prop} {N : Nat} {K F S T : Nat → Nat} {ax ay R : List Int32} {n : Nat} {d : Bool} {p : Nat} {x y w : List Int32} {r : List am_F} (H : xs_H N K F S T ax ay R n d p x y w r a_nodeKind a_nodeFirst a_nodeSecond a_nodeThird a_cells a_lengths a_frameNode a_frameDyadic a_frameX a_frameY a_framePhase) {lim : Nat} (hl : lim ≤ 16) (hk : K n < 128)
    (h : ∀ fl fc c l fn fd fx fy fp, xm_O K ax ay n d p x y r R (am_leaf lim (K n) d x y) fl fc c l fn fd fx fy fp → post (nI lim, f_textCount, f_trainHeld, f_rootNode, f_nodeCount, f_wordCount, f_groupFirst, f_atopWaiting, f_groupCount, f_adverbCount, f_canonCount, f_postponedCount, fc, fl, f_lastStatus, a_text, a_nodeKind, a_nodeFirst, a_nodeSecond, a_nodeThird, a_words, a_outerFirst, a_outerAtop, a_canon, a_postponed, c, l, fn, fd, fx, fy, fp)) : wpX_stepLeaf post (nI lim, f_textCount, f_trainHeld, f_rootNode, f_nodeCount, f_wordCount, f_groupFirst, f_atopWaiting, f_groupCount, f_adverbCount, f_canonCount, f_postponedCount, nI (r.length + 1), 0, f_lastStatus, a_text, a_nodeKind, a_nodeFirst, a_nodeSecond, a_nodeThird, a_words, a_outerFirst, a_outerAtop, a_canon, a_postponed, a_cells, a_lengths, a_frameNode, a_frameDyadic, a_frameX, a_frameY, a_framePhase) (nI r.length) := by
  obtain ⟨hT, hN, hn, hf, hp, ht, hr, h0, h1, h3, p16⟩ := H
  have ht' := ht
  obtain ⟨t1, t2, ⟨sx, x1, x2, x3, x4, x5⟩, ⟨sy, y1, y2, y3, y4, y5⟩, t5, t6⟩ := ht
  have e1 : (nI r.length).toNatClampNeg = r.length := nI_clamp (by omega)
  have e2 : (nI n).toNatClampNeg = n := nI_clamp (by omega)
  have i1 : vp_in (nI r.length) 64 := vp_in_nI (by omega) (by omega)
  have i2 : vp_in (nI n) 64 := vp_in_nI (by omega) (by omega)
  obtain ⟨k1, k2, k3, k4⟩ := hT n hn
  have hF0 : ve_F (fun t => t = 3) a_cells a_lengths a_cells (upd a_lengths 3 0) := ve_Fl
  have h30 : ve_L a_cells (upd a_lengths 3 0) 3 [] := ve_nil
  have pop : ∀ (v : List Int32) (c l : Nat → Int32), ve_F (fun t => t = 3) a_cells (upd a_lengths 3 0) c l → ve_L c l 3 v → xm_O K ax ay n d p x y r R (am_pop v) 0 (nI r.length) c l a_frameNode a_frameDyadic a_frameX a_frameY a_framePhase :=
    fun v c l hF hL => xm_Oq (xm_pop hr (ve_Ft (ve_Fs hF0 (by omega)) (ve_Fs hF (by omega))) h0 h1 hL)
  unfold am_leaf at h
  refine ⟨i1, ?_⟩
  rw [e1, t1]
  refine ⟨i2, nm_r (e' := nI (K n)) (by rw [e2]; exact k1) (nm_e ?_)⟩
  refine xv_dig hk (fun e => br_f (by decide) ?_) (fun e => br_t rfl ⟨i1, ?_⟩)
  · rw [if_pos e] at h
    rw [show (48 : Int32) = nI 48 from rfl, pk_sub e.1]
    refine xv_ap (s := 3) (zs := []) (by omega) h30 (by decide) fun c l hF hL => ?_
    exact xs_leave (h _ _ _ _ _ _ _ _ _ (pop _ c l hF hL))
  · rw [if_neg e] at h
    rw [t2]
    refine xs_b0 d (fun hd => ⟨i1, ?_⟩) (fun hd => ⟨i1, i1, ?_⟩)
    · rw [if_neg (by rw [hd]; decide)] at h
      rw [y1]
      refine xp_M hk (by omega) y4 (ve_o hF0 y4 y5) h30 fun c l hF hL => ?_
      exact xs_leave (h _ _ _ _ _ _ _ _ _ (pop _ c l hF hL))
    · rw [if_pos hd] at h
      rw [x1, y1]
      refine xd_D hl hk (by omega) (by omega) x4 y4 (ve_o hF0 x4 (x5 hd)) (ve_o hF0 y4 y5) h30 fun c l hv => ?_
      refine xs_leave (h _ _ _ _ _ _ _ _ _ ?_)
      unfold am_dy
      have hc := pr_D_c lim (K n) x y
      by_cases z : (pr_D lim (K n) x y).1 = 0
      · rw [if_pos z, z]
        exact pop _ c l hv.1 (hv.2 z)
      · rw [if_neg z]
        exact xm_Of (ve_o hv.1 (by decide) (ve_o hF0 (by decide) h0)) (ve_o hv.1 (by decide) (ve_o hF0 (by decide) h1))
