/-! the component's primitives -/
def xq_c : Option Nat → Int32
  | some n => nI n
  | none => -1
def vd_R (g : Nat) (o : Nat × List Int32) (c l c' l' : Nat → Int32) : Prop := ve_F (fun t => t = g) c l c' l' ∧ (o.1 = 0 → ve_L c' l' g o.2)
theorem ax_mulz (s : Nat) : nI s * 16 + 0 = nI (16 * s) := by
  rw [Int32.add_zero, ax_mul0]
theorem xq_br {post : Int32 → Prop} {n m : Nat} (hn : n ≤ 16) (hm : m ≤ 16) (h : post (xq_c (pr_cnt n m))) :
    ((nI n = nI m → post (nI m)) ∧ (¬ nI n = nI m → ((nI n = 1 → post (nI m)) ∧ (¬ nI n = 1 → ((nI m = 1 → post (nI n)) ∧ (¬ nI m = 1 → post (-1))))))) := by
  unfold pr_cnt at h
  refine pk_eq n m (fun e => ?_) (fun e => pk_eq n 1 (fun e1 => ?_) (fun e1 => pk_eq m 1 (fun e2 => ?_) (fun e2 => ?_)))
  · rw [if_pos (Or.inl e)] at h; exact h
  · rw [if_pos (Or.inr e1)] at h; exact h
  · rw [if_neg (by omega), if_pos e2] at h; exact h
  · rw [if_neg (by omega), if_neg e2] at h; exact h
theorem xv_pc {f_vectorLimit f_textCount f_trainHeld f_rootNode f_nodeCount f_wordCount f_groupFirst f_atopWaiting f_groupCount f_adverbCount f_canonCount f_postponedCount f_frameCount f_failure f_lastStatus : Int32} {a_text a_nodeKind a_nodeFirst a_nodeSecond a_nodeThird a_words a_outerFirst a_outerAtop a_canon a_postponed a_cells a_lengths a_frameNode a_frameDyadic a_frameX a_frameY a_framePhase : Nat → Int32} {post : Int32 → Prop} {q s : Nat} {xs ys : List Int32} (hq : q < 196) (hs : s < 196)
    (hx : ve_L a_cells a_lengths q xs) (hy : ve_L a_cells a_lengths s ys) (h : post (xq_c (pr_cnt xs.length ys.length))) :
    wpX_pairCount post (f_vectorLimit, f_textCount, f_trainHeld, f_rootNode, f_nodeCount, f_wordCount, f_groupFirst, f_atopWaiting, f_groupCount, f_adverbCount, f_canonCount, f_postponedCount, f_frameCount, f_failure, f_lastStatus, a_text, a_nodeKind, a_nodeFirst, a_nodeSecond, a_nodeThird, a_words, a_outerFirst, a_outerAtop, a_canon, a_postponed, a_cells, a_lengths, a_frameNode, a_frameDyadic, a_frameX, a_frameY, a_framePhase) (nI q) (nI s) := by
  have e1 : (nI q).toNatClampNeg = q := nI_clamp (by omega)
  have e2 : (nI s).toNatClampNeg = s := nI_clamp (by omega)
  refine ⟨vp_in_nI hq (by omega), nm_r (e' := nI xs.length) (by rw [e1]; exact hx.2.1) ⟨vp_in_nI hs (by omega), nm_r (e' := nI ys.length) (by rw [e2]; exact hy.2.1) ?_⟩⟩
  exact xq_br hx.1 hy.1 h
theorem xv_pe {f_vectorLimit f_textCount f_trainHeld f_rootNode f_nodeCount f_wordCount f_groupFirst f_atopWaiting f_groupCount f_adverbCount f_canonCount f_postponedCount f_frameCount f_failure f_lastStatus : Int32} {a_text a_nodeKind a_nodeFirst a_nodeSecond a_nodeThird a_words a_outerFirst a_outerAtop a_canon a_postponed a_cells a_lengths a_frameNode a_frameDyadic a_frameX a_frameY a_framePhase : Nat → Int32} {post : Int32 → Prop} {s i : Nat} {xs : List Int32} (hs : s < 196) (hi : i < 16)
    (hx : ve_L a_cells a_lengths s xs) (hl : xs.length ≠ 1 → i < xs.length) (h : post (pr_el xs i)) :
    wpX_pairElement post (f_vectorLimit, f_textCount, f_trainHeld, f_rootNode, f_nodeCount, f_wordCount, f_groupFirst, f_atopWaiting, f_groupCount, f_adverbCount, f_canonCount, f_postponedCount, f_frameCount, f_failure, f_lastStatus, a_text, a_nodeKind, a_nodeFirst, a_nodeSecond, a_nodeThird, a_words, a_outerFirst, a_outerAtop, a_canon, a_postponed, a_cells, a_lengths, a_frameNode, a_frameDyadic, a_frameX, a_frameY, a_framePhase) (nI s) (nI i) := by
  have e1 : (nI s).toNatClampNeg = s := nI_clamp (by omega)
  have e2 : (nI (16 * s)).toNatClampNeg = 16 * s := nI_clamp (by omega)
  have e3 : (nI (16 * s + i)).toNatClampNeg = 16 * s + i := nI_clamp (by omega)
  unfold pr_el at h
  simp only [wpX_pairElement, e1, hx.2.1, ax_mul, ax_mulz, e2, e3]
  refine ⟨vp_in_nI hs (by omega), pk_eq xs.length 1 (fun e => ⟨vp_in_nI (by omega) (by omega), ?_⟩) (fun e => ⟨vp_in_nI (by omega) (by omega), ?_⟩) rfl rfl (by have := hx.1; omega)⟩
  · rw [if_pos e] at h
    have := hx.2.2 0 (by omega)
    rw [Nat.add_zero] at this
    rw [this]; exact h
  · rw [if_neg e] at h
    rw [hx.2.2 i (hl e)]; exact h
theorem xv_m1 {post : Int32 → Prop} {k : Nat} {v : Int32} (hk : k < 128) (h : post (pr_m1 k v)) : wpX_mapOne post (nI k) v := by
  unfold pr_m1 at h
  refine pk_eq k 42 (fun e => ?_) (fun e => pk_eq k 43 (fun e1 => ?_) (fun e1 => pk_eq k 45 (fun e2 => ?_) (fun e2 => pk_eq k 60 (fun e3 => ?_) (fun e3 => ?_))))
  · rw [if_neg (by omega), if_neg (by omega), if_pos e] at h
    refine br_c (fun h0 => br_c (fun h1 => ?_) (fun h1 => ?_)) (fun h0 => ?_)
    · rw [if_neg (Int32.not_lt.mpr h0), if_neg (Int32.not_lt.mpr h1)] at h; exact h
    · rw [if_neg (Int32.not_lt.mpr h0), if_pos (Int32.not_le.mp h1)] at h; exact h
    · rw [if_pos (Int32.not_le.mp h0)] at h; exact h
  · rw [if_pos e1] at h; exact h
  · rw [if_neg e1, if_pos e2] at h; exact h
  · rw [if_neg e1, if_neg e2, if_neg e, if_pos e3] at h; exact h
  · rw [if_neg e1, if_neg e2, if_neg e, if_neg e3] at h; exact h
theorem xv_m2 {post : Int32 → Prop} {k : Nat} {a b : Int32} (hk : k < 128) (h : post (pr_m2 k a b)) : wpX_mapPair post (nI k) a b := by
  unfold pr_m2 at h
  refine pk_eq k 42 (fun e => ?_) (fun e => pk_eq k 43 (fun e1 => ?_) (fun e1 => pk_eq k 45 (fun e2 => ?_) (fun e2 => pk_eq k 60 (fun e3 => ?_) (fun e3 => ?_))))
  · rw [if_neg (by omega), if_neg (by omega), if_pos e] at h; exact h
  · rw [if_pos e1] at h; exact h
  · rw [if_neg e1, if_pos e2] at h; exact h
  · rw [if_neg e1, if_neg e2, if_neg e, if_pos e3] at h
    refine br_c (fun h0 => ?_) (fun h0 => ?_)
    · rw [if_neg (Int32.not_lt.mpr h0)] at h; exact h
    · rw [if_pos (Int32.not_le.mp h0)] at h; exact h
  · rw [if_neg e1, if_neg e2, if_neg e, if_neg e3] at h
    refine br_c (fun h0 => ?_) (fun h0 => ?_)
    · rw [if_neg (Int32.not_lt.mpr h0)] at h; exact h
    · rw [if_pos (Int32.not_le.mp h0)] at h; exact h
theorem xp_revL {f_vectorLimit f_textCount f_trainHeld f_rootNode f_nodeCount f_wordCount f_groupFirst f_atopWaiting f_groupCount f_adverbCount f_canonCount f_postponedCount f_frameCount f_failure f_lastStatus : Int32} {a_text a_nodeKind a_nodeFirst a_nodeSecond a_nodeThird a_words a_outerFirst a_outerAtop a_canon a_postponed a_cells a_lengths a_frameNode a_frameDyadic a_frameX a_frameY a_framePhase : Nat → Int32} {post : SX → Prop} {s : Nat} {ys : List Int32} (hs : s < 196) (hs3 : s ≠ 3)
    (h : ∀ c l, ve_F (fun t => t = 3) a_cells a_lengths c l → ve_L c l 3 ((List.range ys.length).map (fun i => ys.getD (ys.length - 1 - i) 0)) → post (f_vectorLimit, f_textCount, f_trainHeld, f_rootNode, f_nodeCount, f_wordCount, f_groupFirst, f_atopWaiting, f_groupCount, f_adverbCount, f_canonCount, f_postponedCount, f_frameCount, f_failure, f_lastStatus, a_text, a_nodeKind, a_nodeFirst, a_nodeSecond, a_nodeThird, a_words, a_outerFirst, a_outerAtop, a_canon, a_postponed, c, l, a_frameNode, a_frameDyadic, a_frameX, a_frameY, a_framePhase)) :
    ∀ (r : Nat) (c l : Nat → Int32), r ≤ ys.length → ve_F (fun t => t = 3) a_cells a_lengths c l → ve_L c l s ys → ve_L c l 3 ((List.range (ys.length - r)).map (fun i => ys.getD (ys.length - 1 - i) 0)) →
    ∀ n, r < n → wX_reverse_9 post (nI s) n (nI r + (-1)) f_vectorLimit f_textCount f_trainHeld f_rootNode f_nodeCount f_wordCount f_groupFirst f_atopWaiting f_groupCount f_adverbCount f_canonCount f_postponedCount f_frameCount f_failure f_lastStatus a_text a_nodeKind a_nodeFirst a_nodeSecond a_nodeThird a_words a_outerFirst a_outerAtop a_canon a_postponed c l a_frameNode a_frameDyadic a_frameX a_frameY a_framePhase := by
  intro r
  induction r with
  | zero =>
    intro c l hr hF hx hz n hn
    obtain ⟨n, rfl⟩ : ∃ k, n = k + 1 := ⟨n - 1, by omega⟩
    exact br_t (by decide) (h c l hF hz)
  | succ r ih =>
    intro c l hr hF hx hz n hn
    obtain ⟨n, rfl⟩ : ∃ k, n = k + 1 := ⟨n - 1, by omega⟩
    rw [pk_m1]
    have y16 := hx.1
    refine br_f (nI_pos (by omega)) ?_
    refine xv_el (q := s) (i := r) (s := 3) hs (by omega) hx (by omega) hz (by rw [ve_ml]; omega) fun c' l' hF' hL => nm_e ?_
    refine ih c' l' (by omega) (ve_Ft hF hF') (ve_o hF' hs3 hx) ?_ n (by omega)
    have e : ys.length - r = (ys.length - (r + 1)) + 1 := by omega
    have e2 : ys.length - 1 - (ys.length - (r + 1)) = r := by omega
    rw [e, ve_rs, e2]
    exact hL
theorem xp_rev {f_vectorLimit f_textCount f_trainHeld f_rootNode f_nodeCount f_wordCount f_groupFirst f_atopWaiting f_groupCount f_adverbCount f_canonCount f_postponedCount f_frameCount f_failure f_lastStatus : Int32} {a_text a_nodeKind a_nodeFirst a_nodeSecond a_nodeThird a_words a_outerFirst a_outerAtop a_canon a_postponed a_cells a_lengths a_frameNode a_frameDyadic a_frameX a_frameY a_framePhase : Nat → Int32} {post : SX → Prop} {s : Nat} {ys : List Int32} (hs : s < 196) (hs3 : s ≠ 3) (hy : ve_L a_cells a_lengths s ys) (h3 : ve_L a_cells a_lengths 3 [])
    (h : ∀ c l, ve_F (fun t => t = 3) a_cells a_lengths c l → ve_L c l 3 ((List.range ys.length).map (fun i => ys.getD (ys.length - 1 - i) 0)) → post (f_vectorLimit, f_textCount, f_trainHeld, f_rootNode, f_nodeCount, f_wordCount, f_groupFirst, f_atopWaiting, f_groupCount, f_adverbCount, f_canonCount, f_postponedCount, f_frameCount, f_failure, f_lastStatus, a_text, a_nodeKind, a_nodeFirst, a_nodeSecond, a_nodeThird, a_words, a_outerFirst, a_outerAtop, a_canon, a_postponed, c, l, a_frameNode, a_frameDyadic, a_frameX, a_frameY, a_framePhase)) :
    wpX_reverse post (f_vectorLimit, f_textCount, f_trainHeld, f_rootNode, f_nodeCount, f_wordCount, f_groupFirst, f_atopWaiting, f_groupCount, f_adverbCount, f_canonCount, f_postponedCount, f_frameCount, f_failure, f_lastStatus, a_text, a_nodeKind, a_nodeFirst, a_nodeSecond, a_nodeThird, a_words, a_outerFirst, a_outerAtop, a_canon, a_postponed, a_cells, a_lengths, a_frameNode, a_frameDyadic, a_frameX, a_frameY, a_framePhase) (nI s) := by
  have e1 : (nI s).toNatClampNeg = s := nI_clamp (by omega)
  refine ⟨vp_in_nI hs (by omega), nm_r (e' := nI ys.length + (-1)) (by rw [e1, hy.2.1, Int32.sub_eq_add_neg]) ⟨ys.length + 1, ?_⟩⟩
  refine xp_revL hs hs3 h ys.length a_cells a_lengths (Nat.le_refl _) (ve_Fr _ _ _) hy ?_ _ (by omega)
  rw [Nat.sub_self]
  exact h3
theorem xp_mapL {f_vectorLimit f_textCount f_trainHeld f_rootNode f_nodeCount f_wordCount f_groupFirst f_atopWaiting f_groupCount f_adverbCount f_canonCount f_postponedCount f_frameCount f_failure f_lastStatus : Int32} {a_text a_nodeKind a_nodeFirst a_nodeSecond a_nodeThird a_words a_outerFirst a_outerAtop a_canon a_postponed a_cells a_lengths a_frameNode a_frameDyadic a_frameX a_frameY a_framePhase : Nat → Int32} {post : SX → Prop} {s k : Nat} {ys : List Int32} (hk : k < 128) (hs : s < 196) (hs3 : s ≠ 3)
    (h : ∀ c l, ve_F (fun t => t = 3) a_cells a_lengths c l → ve_L c l 3 ((List.range ys.length).map (fun i => pr_m1 k (ys.getD i 0))) → post (f_vectorLimit, f_textCount, f_trainHeld, f_rootNode, f_nodeCount, f_wordCount, f_groupFirst, f_atopWaiting, f_groupCount, f_adverbCount, f_canonCount, f_postponedCount, f_frameCount, f_failure, f_lastStatus, a_text, a_nodeKind, a_nodeFirst, a_nodeSecond, a_nodeThird, a_words, a_outerFirst, a_outerAtop, a_canon, a_postponed, c, l, a_frameNode, a_frameDyadic, a_frameX, a_frameY, a_framePhase)) :
    ∀ (r i : Nat) (c l : Nat → Int32), i + r = ys.length → ve_F (fun t => t = 3) a_cells a_lengths c l → ve_L c l s ys → ve_L c l 3 ((List.range i).map (fun i => pr_m1 k (ys.getD i 0))) →
    ∀ n, r < n → wX_mapElements_10 post (nI k) (nI s) (nI ys.length) n (nI i) f_vectorLimit f_textCount f_trainHeld f_rootNode f_nodeCount f_wordCount f_groupFirst f_atopWaiting f_groupCount f_adverbCount f_canonCount f_postponedCount f_frameCount f_failure f_lastStatus a_text a_nodeKind a_nodeFirst a_nodeSecond a_nodeThird a_words a_outerFirst a_outerAtop a_canon a_postponed c l a_frameNode a_frameDyadic a_frameX a_frameY a_framePhase := by
  intro r
  induction r with
  | zero =>
    intro i c l hr hF hx hz n hn
    obtain ⟨n, rfl⟩ : ∃ k, n = k + 1 := ⟨n - 1, by omega⟩
    have y16 := hx.1
    have e : i = ys.length := by omega
    subst e
    exact br_t (nI_le (Nat.le_refl _) (by omega)) (h c l hF hz)
  | succ r ih =>
    intro i c l hr hF hx hz n hn
    obtain ⟨n, rfl⟩ : ∃ k, n = k + 1 := ⟨n - 1, by omega⟩
    have y16 := hx.1
    have e3 : (nI (16 * s + i)).toNatClampNeg = 16 * s + i := nI_clamp (by omega)
    refine br_f (nI_ge (by omega) (by omega)) ⟨by rw [ax_mul]; exact vp_in_nI (by omega) (by omega), ?_⟩
    rw [ax_mul, e3, hx.2.2 i (by omega)]
    refine xv_m1 hk ?_
    refine xv_ap (s := 3) (by omega) hz (by rw [ve_ml]; omega) fun c' l' hF' hL => nm_r (nI_1 i) ?_
    refine ih (i + 1) c' l' (by omega) (ve_Ft hF hF') (ve_o hF' hs3 hx) ?_ n (by omega)
    rw [ve_rs]
    exact hL
theorem xp_map {f_vectorLimit f_textCount f_trainHeld f_rootNode f_nodeCount f_wordCount f_groupFirst f_atopWaiting f_groupCount f_adverbCount f_canonCount f_postponedCount f_frameCount f_failure f_lastStatus : Int32} {a_text a_nodeKind a_nodeFirst a_nodeSecond a_nodeThird a_words a_outerFirst a_outerAtop a_canon a_postponed a_cells a_lengths a_frameNode a_frameDyadic a_frameX a_frameY a_framePhase : Nat → Int32} {post : SX → Prop} {s k : Nat} {ys : List Int32} (hk : k < 128) (hs : s < 196) (hs3 : s ≠ 3) (hy : ve_L a_cells a_lengths s ys) (h3 : ve_L a_cells a_lengths 3 [])
    (h : ∀ c l, ve_F (fun t => t = 3) a_cells a_lengths c l → ve_L c l 3 ((List.range ys.length).map (fun i => pr_m1 k (ys.getD i 0))) → post (f_vectorLimit, f_textCount, f_trainHeld, f_rootNode, f_nodeCount, f_wordCount, f_groupFirst, f_atopWaiting, f_groupCount, f_adverbCount, f_canonCount, f_postponedCount, f_frameCount, f_failure, f_lastStatus, a_text, a_nodeKind, a_nodeFirst, a_nodeSecond, a_nodeThird, a_words, a_outerFirst, a_outerAtop, a_canon, a_postponed, c, l, a_frameNode, a_frameDyadic, a_frameX, a_frameY, a_framePhase)) :
    wpX_mapElements post (f_vectorLimit, f_textCount, f_trainHeld, f_rootNode, f_nodeCount, f_wordCount, f_groupFirst, f_atopWaiting, f_groupCount, f_adverbCount, f_canonCount, f_postponedCount, f_frameCount, f_failure, f_lastStatus, a_text, a_nodeKind, a_nodeFirst, a_nodeSecond, a_nodeThird, a_words, a_outerFirst, a_outerAtop, a_canon, a_postponed, a_cells, a_lengths, a_frameNode, a_frameDyadic, a_frameX, a_frameY, a_framePhase) (nI k) (nI s) := by
  have e1 : (nI s).toNatClampNeg = s := nI_clamp (by omega)
  refine ⟨vp_in_nI hs (by omega), nm_r (e' := nI ys.length) (by rw [e1, hy.2.1]) ⟨ys.length + 1, ?_⟩⟩
  exact xp_mapL hk hs hs3 h ys.length 0 a_cells a_lengths (by omega) (ve_Fr _ _ _) hy h3 _ (by omega)
theorem xp_M {f_vectorLimit f_textCount f_trainHeld f_rootNode f_nodeCount f_wordCount f_groupFirst f_atopWaiting f_groupCount f_adverbCount f_canonCount f_postponedCount f_frameCount f_failure f_lastStatus : Int32} {a_text a_nodeKind a_nodeFirst a_nodeSecond a_nodeThird a_words a_outerFirst a_outerAtop a_canon a_postponed a_cells a_lengths a_frameNode a_frameDyadic a_frameX a_frameY a_framePhase : Nat → Int32} {post : SX → Prop} {s k : Nat} {ys : List Int32} (hk : k < 128) (hs : s < 196) (hs3 : s ≠ 3) (hy : ve_L a_cells a_lengths s ys) (h3 : ve_L a_cells a_lengths 3 [])
    (h : ∀ c l, ve_F (fun t => t = 3) a_cells a_lengths c l → ve_L c l 3 (pr_M k ys) → post (f_vectorLimit, f_textCount, f_trainHeld, f_rootNode, f_nodeCount, f_wordCount, f_groupFirst, f_atopWaiting, f_groupCount, f_adverbCount, f_canonCount, f_postponedCount, f_frameCount, f_failure, f_lastStatus, a_text, a_nodeKind, a_nodeFirst, a_nodeSecond, a_nodeThird, a_words, a_outerFirst, a_outerAtop, a_canon, a_postponed, c, l, a_frameNode, a_frameDyadic, a_frameX, a_frameY, a_framePhase)) :
    wpX_runMonad post (f_vectorLimit, f_textCount, f_trainHeld, f_rootNode, f_nodeCount, f_wordCount, f_groupFirst, f_atopWaiting, f_groupCount, f_adverbCount, f_canonCount, f_postponedCount, f_frameCount, f_failure, f_lastStatus, a_text, a_nodeKind, a_nodeFirst, a_nodeSecond, a_nodeThird, a_words, a_outerFirst, a_outerAtop, a_canon, a_postponed, a_cells, a_lengths, a_frameNode, a_frameDyadic, a_frameX, a_frameY, a_framePhase) (nI k) (nI s) := by
  have e1 : (nI s).toNatClampNeg = s := nI_clamp (by omega)
  have hv : ∀ z : pr_M k ys = ys, wpX_appendVector post (f_vectorLimit, f_textCount, f_trainHeld, f_rootNode, f_nodeCount, f_wordCount, f_groupFirst, f_atopWaiting, f_groupCount, f_adverbCount, f_canonCount, f_postponedCount, f_frameCount, f_failure, f_lastStatus, a_text, a_nodeKind, a_nodeFirst, a_nodeSecond, a_nodeThird, a_words, a_outerFirst, a_outerAtop, a_canon, a_postponed, a_cells, a_lengths, a_frameNode, a_frameDyadic, a_frameX, a_frameY, a_framePhase) (nI s) 3 := by
    intro z
    rw [z] at h
    exact xv_vec (s := 3) hs (by omega) hs3 hy h3 (by have := hy.1; simpa using this) h
  refine pk_eq k 35 (fun e => ⟨vp_in_nI hs (by omega), ?_⟩) (fun e => pk_eq k 44 (fun e1 => ?_) (fun e1 => pk_eq k 91 (fun e2 => ?_) (fun e2 => pk_eq k 93 (fun e3 => ?_) (fun e3 => pk_eq k 124 (fun e4 => ?_) (fun e4 => ?_)))))
  · rw [e1, hy.2.1]
    refine xv_ap (s := 3) (by omega) h3 (by decide) fun c l hF hL => h c l hF ?_
    unfold pr_M
    rw [if_neg (by omega), if_pos e]
    exact hL
  · exact hv (by unfold pr_M; rw [if_pos (by omega)])
  · exact hv (by unfold pr_M; rw [if_pos (by omega)])
  · exact hv (by unfold pr_M; rw [if_pos (by omega)])
  · refine xp_rev hs hs3 hy h3 fun c l hF hL => h c l hF ?_
    unfold pr_M
    rw [if_neg (by omega), if_neg e, if_pos e4]
    exact hL
  · refine xp_map hk hs hs3 hy h3 fun c l hF hL => h c l hF ?_
    unfold pr_M
    rw [if_neg (by omega), if_neg e, if_neg e4]
    exact hL
