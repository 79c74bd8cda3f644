/-! the component's dyads -/
theorem xd_cpI {f_vectorLimit f_textCount f_trainHeld f_rootNode f_nodeCount f_wordCount f_groupFirst f_atopWaiting f_groupCount f_adverbCount f_canonCount f_postponedCount f_frameCount f_failure f_lastStatus : Int32} {a_text a_nodeKind a_nodeFirst a_nodeSecond a_nodeThird a_words a_outerFirst a_outerAtop a_canon a_postponed a_cells a_lengths a_frameNode a_frameDyadic a_frameX a_frameY a_framePhase : Nat → Int32} {post : SX → Prop} {J : Int32 → Int32 → Int32 → Int32 → Int32 → Int32 → Int32 → Int32 → Int32 → Int32 → Int32 → Int32 → Int32 → Int32 → Int32 → Int32 → (Nat → Int32) → (Nat → Int32) → (Nat → Int32) → (Nat → Int32) → (Nat → Int32) → (Nat → Int32) → (Nat → Int32) → (Nat → Int32) → (Nat → Int32) → (Nat → Int32) → (Nat → Int32) → (Nat → Int32) → (Nat → Int32) → (Nat → Int32) → (Nat → Int32) → (Nat → Int32) → (Nat → Int32) → Prop} {x1 x4 : Int32} {s i q : Nat} {v : Int32} {acc : List Int32} {ys : List Int32} (hs : s < 196) (hs3 : s ≠ 3) (hi : i < ys.length) (hv : ys.getD i 0 = v) (hq : acc.length + q ≤ 16)
    (h : ∀ c l, ve_F (fun t => t = 3) a_cells a_lengths c l → ve_L c l 3 (acc ++ List.replicate q v) → J (nI (i + 1)) f_vectorLimit f_textCount f_trainHeld f_rootNode f_nodeCount f_wordCount f_groupFirst f_atopWaiting f_groupCount f_adverbCount f_canonCount f_postponedCount f_frameCount f_failure f_lastStatus a_text a_nodeKind a_nodeFirst a_nodeSecond a_nodeThird a_words a_outerFirst a_outerAtop a_canon a_postponed c l a_frameNode a_frameDyadic a_frameX a_frameY a_framePhase) :
    ∀ (r j : Nat) (c l : Nat → Int32), j + r = q → ve_F (fun t => t = 3) a_cells a_lengths c l → ve_L c l s ys → ve_L c l 3 (acc ++ List.replicate j v) →
    ∀ n, r < n → wX_copyByCounts_87 post J x1 (nI s) x4 (nI i) (nI q) n (nI j) f_vectorLimit f_textCount f_trainHeld f_rootNode f_nodeCount f_wordCount f_groupFirst f_atopWaiting f_groupCount f_adverbCount f_canonCount f_postponedCount f_frameCount f_failure f_lastStatus a_text a_nodeKind a_nodeFirst a_nodeSecond a_nodeThird a_words a_outerFirst a_outerAtop a_canon a_postponed c l a_frameNode a_frameDyadic a_frameX a_frameY a_framePhase := by
  intro r
  induction r with
  | zero =>
    intro j c l hr hF hx hz n hn
    obtain ⟨n, rfl⟩ : ∃ k, n = k + 1 := ⟨n - 1, by omega⟩
    have e : j = q := by omega
    subst e
    exact br_t (nI_le (Nat.le_refl _) (by omega)) (nm_r (nI_1 i) (h c l hF hz))
  | succ r ih =>
    intro j c l hr hF hx hz n hn
    obtain ⟨n, rfl⟩ : ∃ k, n = k + 1 := ⟨n - 1, by omega⟩
    refine br_f (nI_ge (by omega) (by omega)) ?_
    refine xv_el (s := 3) hs (by omega) hx hi hz (by rw [List.length_append, List.length_replicate]; omega) fun c' l' hF' hL => nm_r (nI_1 j) ?_
    refine ih (j + 1) c' l' (by omega) (ve_Ft hF hF') (ve_o hF' hs3 hx) ?_ n (by omega)
    rw [hv, List.append_assoc, ← List.replicate_succ'] at hL
    exact hL
theorem xd_cpL {f_textCount f_trainHeld f_rootNode f_nodeCount f_wordCount f_groupFirst f_atopWaiting f_groupCount f_adverbCount f_canonCount f_postponedCount f_frameCount f_lastStatus : Int32} {a_text a_nodeKind a_nodeFirst a_nodeSecond a_nodeThird a_words a_outerFirst a_outerAtop a_canon a_postponed a_cells a_lengths a_frameNode a_frameDyadic a_frameX a_frameY a_framePhase : Nat → Int32} {post : SX → Prop} {lim sx sy : Nat} {xs ys : List Int32} (hl : lim ≤ 16) (hsx : sx < 196) (hsy : sy < 196) (hx3 : sx ≠ 3) (hy3 : sy ≠ 3) (hc : xs.length ≠ 1 → xs.length = ys.length) :
    ∀ (r i : Nat) (acc : List Int32) (c l : Nat → Int32), i + r = ys.length → acc.length ≤ lim → ve_F (fun t => t = 3) a_cells a_lengths c l → ve_L c l sx xs → ve_L c l sy ys → ve_L c l 3 acc →
    (∀ c l, vd_R 3 (pr_cp lim xs ys r i acc) a_cells a_lengths c l → post (nI lim, f_textCount, f_trainHeld, f_rootNode, f_nodeCount, f_wordCount, f_groupFirst, f_atopWaiting, f_groupCount, f_adverbCount, f_canonCount, f_postponedCount, f_frameCount, nI (pr_cp lim xs ys r i acc).1, f_lastStatus, a_text, a_nodeKind, a_nodeFirst, a_nodeSecond, a_nodeThird, a_words, a_outerFirst, a_outerAtop, a_canon, a_postponed, c, l, a_frameNode, a_frameDyadic, a_frameX, a_frameY, a_framePhase)) →
    ∀ n, r < n → wX_copyByCounts_35 post (nI sx) (nI sy) (nI ys.length) n (nI i) (nI lim) f_textCount f_trainHeld f_rootNode f_nodeCount f_wordCount f_groupFirst f_atopWaiting f_groupCount f_adverbCount f_canonCount f_postponedCount f_frameCount 0 f_lastStatus a_text a_nodeKind a_nodeFirst a_nodeSecond a_nodeThird a_words a_outerFirst a_outerAtop a_canon a_postponed c l a_frameNode a_frameDyadic a_frameX a_frameY a_framePhase := by
  intro r
  induction r with
  | zero =>
    intro i acc c l hr ha hF hx hy hz h n hn
    obtain ⟨n, rfl⟩ : ∃ k, n = k + 1 := ⟨n - 1, by omega⟩
    have y16 := hy.1
    exact br_t (nI_le (by omega) (by omega)) (h c l ⟨hF, fun _ => hz⟩)
  | succ r ih =>
    intro i acc c l hr ha hF hx hy hz h n hn
    obtain ⟨n, rfl⟩ : ∃ k, n = k + 1 := ⟨n - 1, by omega⟩
    have y16 := hy.1
    refine br_f (nI_ge (by omega) (by omega)) ?_
    refine xv_pe hsx (by omega) hx (fun z => by have := hc z; omega) ?_
    have h3 : l 3 = nI acc.length := hz.2.1
    unfold pr_cp at h
    refine br_c (fun z0 => ?_) (fun z0 => ?_)
    · rw [if_neg (Int32.not_lt.mpr z0)] at h
      rw [h3, pk_sub ha]
      refine br_c (fun z1 => ?_) (fun z1 => ?_)
      · rw [if_neg (Int32.not_lt.mpr z1)] at h
        obtain ⟨q, hq, e1, e2⟩ := pr_cpq (b := lim - acc.length) (by omega) (Int32.not_lt.mpr z0) (Int32.not_lt.mpr z1)
        rw [e1]
        rw [e2] at h
        refine ⟨q + 1, xd_cpI (v := ys.getD i 0) (acc := acc) (ys := ys) hsy hy3 (by omega) rfl (by omega) (fun c' l' hF' hL => ?_) q 0 c l (by omega) (ve_Fr _ _ _) hy ?_ _ (by omega)⟩
        · refine ih (i + 1) _ c' l' (by omega) ?_ (ve_Ft hF hF') (ve_o hF' hx3 hx) (ve_o hF' hy3 hy) hL h n (by omega)
          rw [List.length_append, List.length_replicate]; omega
        · rw [List.replicate_zero, List.append_nil]; exact hz
      · rw [if_pos (Int32.not_le.mp z1)] at h
        exact h c l ⟨hF, fun z => by cases z⟩
    · rw [if_pos (Int32.not_le.mp z0)] at h
      exact h c l ⟨hF, fun z => by cases z⟩
theorem xd_cp {f_textCount f_trainHeld f_rootNode f_nodeCount f_wordCount f_groupFirst f_atopWaiting f_groupCount f_adverbCount f_canonCount f_postponedCount f_frameCount f_lastStatus : Int32} {a_text a_nodeKind a_nodeFirst a_nodeSecond a_nodeThird a_words a_outerFirst a_outerAtop a_canon a_postponed a_cells a_lengths a_frameNode a_frameDyadic a_frameX a_frameY a_framePhase : Nat → Int32} {post : SX → Prop} {lim sx sy : Nat} {xs ys : List Int32} (hl : lim ≤ 16) (hsx : sx < 196) (hsy : sy < 196) (hx3 : sx ≠ 3) (hy3 : sy ≠ 3)
    (hx : ve_L a_cells a_lengths sx xs) (hy : ve_L a_cells a_lengths sy ys) (h3 : ve_L a_cells a_lengths 3 [])
    (h : ∀ c l, vd_R 3 (pr_D lim 35 xs ys) a_cells a_lengths c l → post (nI lim, f_textCount, f_trainHeld, f_rootNode, f_nodeCount, f_wordCount, f_groupFirst, f_atopWaiting, f_groupCount, f_adverbCount, f_canonCount, f_postponedCount, f_frameCount, nI (pr_D lim 35 xs ys).1, f_lastStatus, a_text, a_nodeKind, a_nodeFirst, a_nodeSecond, a_nodeThird, a_words, a_outerFirst, a_outerAtop, a_canon, a_postponed, c, l, a_frameNode, a_frameDyadic, a_frameX, a_frameY, a_framePhase)) :
    wpX_copyByCounts post (nI lim, f_textCount, f_trainHeld, f_rootNode, f_nodeCount, f_wordCount, f_groupFirst, f_atopWaiting, f_groupCount, f_adverbCount, f_canonCount, f_postponedCount, f_frameCount, 0, f_lastStatus, a_text, a_nodeKind, a_nodeFirst, a_nodeSecond, a_nodeThird, a_words, a_outerFirst, a_outerAtop, a_canon, a_postponed, a_cells, a_lengths, a_frameNode, a_frameDyadic, a_frameX, a_frameY, a_framePhase) (nI sx) (nI sy) := by
  have e1 : (nI sx).toNatClampNeg = sx := nI_clamp (by omega)
  have e2 : (nI sy).toNatClampNeg = sy := nI_clamp (by omega)
  have x16 := hx.1
  have y16 := hy.1
  refine ⟨vp_in_nI hsx (by omega), nm_r (e' := nI xs.length) (by rw [e1]; exact hx.2.1) ⟨vp_in_nI hsy (by omega), nm_r (e' := nI ys.length) (by rw [e2]; exact hy.2.1) ?_⟩⟩
  unfold pr_D at h
  rw [if_neg (by decide), if_neg (by decide), if_pos rfl] at h
  refine pk_eq xs.length ys.length (fun e => ?_) (fun e => pk_eq xs.length 1 (fun e1 => ?_) (fun e1 => ?_))
  · rw [if_neg (by omega)] at h
    exact ⟨ys.length + 1, xd_cpL hl hsx hsy hx3 hy3 (fun _ => e) ys.length 0 [] a_cells a_lengths (by omega) (Nat.zero_le _) (ve_Fr _ _ _) hx hy h3 h _ (by omega)⟩
  · rw [if_neg (by omega)] at h
    exact ⟨ys.length + 1, xd_cpL hl hsx hsy hx3 hy3 (fun z => absurd e1 z) ys.length 0 [] a_cells a_lengths (by omega) (Nat.zero_le _) (ve_Fr _ _ _) hx hy h3 h _ (by omega)⟩
  · rw [if_pos ⟨e, e1⟩] at h
    exact h a_cells a_lengths ⟨ve_Fr _ _ _, fun z => by cases z⟩
theorem xd_join {f_textCount f_trainHeld f_rootNode f_nodeCount f_wordCount f_groupFirst f_atopWaiting f_groupCount f_adverbCount f_canonCount f_postponedCount f_frameCount f_lastStatus : Int32} {a_text a_nodeKind a_nodeFirst a_nodeSecond a_nodeThird a_words a_outerFirst a_outerAtop a_canon a_postponed a_cells a_lengths a_frameNode a_frameDyadic a_frameX a_frameY a_framePhase : Nat → Int32} {post : SX → Prop} {lim sx sy : Nat} {xs ys : List Int32} (hl : lim ≤ 16) (hsx : sx < 196) (hsy : sy < 196) (hx3 : sx ≠ 3) (hy3 : sy ≠ 3)
    (hx : ve_L a_cells a_lengths sx xs) (hy : ve_L a_cells a_lengths sy ys) (h3 : ve_L a_cells a_lengths 3 [])
    (h : ∀ c l, vd_R 3 (pr_D lim 44 xs ys) a_cells a_lengths c l → post (nI lim, f_textCount, f_trainHeld, f_rootNode, f_nodeCount, f_wordCount, f_groupFirst, f_atopWaiting, f_groupCount, f_adverbCount, f_canonCount, f_postponedCount, f_frameCount, nI (pr_D lim 44 xs ys).1, f_lastStatus, a_text, a_nodeKind, a_nodeFirst, a_nodeSecond, a_nodeThird, a_words, a_outerFirst, a_outerAtop, a_canon, a_postponed, c, l, a_frameNode, a_frameDyadic, a_frameX, a_frameY, a_framePhase)) :
    wpX_join post (nI lim, f_textCount, f_trainHeld, f_rootNode, f_nodeCount, f_wordCount, f_groupFirst, f_atopWaiting, f_groupCount, f_adverbCount, f_canonCount, f_postponedCount, f_frameCount, 0, f_lastStatus, a_text, a_nodeKind, a_nodeFirst, a_nodeSecond, a_nodeThird, a_words, a_outerFirst, a_outerAtop, a_canon, a_postponed, a_cells, a_lengths, a_frameNode, a_frameDyadic, a_frameX, a_frameY, a_framePhase) (nI sx) (nI sy) := by
  have e1 : (nI sx).toNatClampNeg = sx := nI_clamp (by omega)
  have e2 : (nI sy).toNatClampNeg = sy := nI_clamp (by omega)
  have x16 := hx.1
  have y16 := hy.1
  unfold pr_D at h
  rw [if_neg (by decide), if_neg (by decide), if_neg (by decide), if_pos rfl] at h
  refine ⟨vp_in_nI hsx (by omega), vp_in_nI hsy (by omega), ?_⟩
  rw [e1, e2, hx.2.1, hy.2.1, nI_add]
  refine pk_le (xs.length + ys.length) lim (fun e => ?_) (fun e => ?_)
  · rw [if_neg (by omega)] at h
    refine xv_vec (s := 3) (zs := []) hsx (by omega) hx3 hx h3 (by simpa using x16) fun c l hF hL => ?_
    refine xv_vec (s := 3) (zs := xs) hsy (by omega) hy3 (ve_o hF hy3 hy) hL (by omega) fun c' l' hF' hL' => ?_
    exact h c' l' ⟨ve_Ft hF hF', fun _ => hL'⟩
  · rw [if_pos (by omega)] at h
    exact h a_cells a_lengths ⟨ve_Fr _ _ _, fun z => by cases z⟩
theorem xd_rotL {f_vectorLimit f_textCount f_trainHeld f_rootNode f_nodeCount f_wordCount f_groupFirst f_atopWaiting f_groupCount f_adverbCount f_canonCount f_postponedCount f_frameCount f_failure f_lastStatus : Int32} {a_text a_nodeKind a_nodeFirst a_nodeSecond a_nodeThird a_words a_outerFirst a_outerAtop a_canon a_postponed a_cells a_lengths a_frameNode a_frameDyadic a_frameX a_frameY a_framePhase : Nat → Int32} {post : SX → Prop} {s k : Nat} {ys : List Int32} (hk : k < ys.length) (hs : s < 196) (hs3 : s ≠ 3)
    (h : ∀ c l, ve_F (fun t => t = 3) a_cells a_lengths c l → ve_L c l 3 ((List.range ys.length).map (fun i => ys.getD ((i + k) % ys.length) 0)) → post (f_vectorLimit, f_textCount, f_trainHeld, f_rootNode, f_nodeCount, f_wordCount, f_groupFirst, f_atopWaiting, f_groupCount, f_adverbCount, f_canonCount, f_postponedCount, f_frameCount, f_failure, f_lastStatus, a_text, a_nodeKind, a_nodeFirst, a_nodeSecond, a_nodeThird, a_words, a_outerFirst, a_outerAtop, a_canon, a_postponed, c, l, a_frameNode, a_frameDyadic, a_frameX, a_frameY, a_framePhase)) :
    ∀ (r i : Nat) (c l : Nat → Int32), i + r = ys.length → ve_F (fun t => t = 3) a_cells a_lengths c l → ve_L c l s ys → ve_L c l 3 ((List.range i).map (fun i => ys.getD ((i + k) % ys.length) 0)) →
    ∀ n, r < n → wX_rotate_48 post (nI s) (nI ys.length) (nI k) n (nI i) f_vectorLimit f_textCount f_trainHeld f_rootNode f_nodeCount f_wordCount f_groupFirst f_atopWaiting f_groupCount f_adverbCount f_canonCount f_postponedCount f_frameCount f_failure f_lastStatus a_text a_nodeKind a_nodeFirst a_nodeSecond a_nodeThird a_words a_outerFirst a_outerAtop a_canon a_postponed c l a_frameNode a_frameDyadic a_frameX a_frameY a_framePhase := by
  intro r
  induction r with
  | zero =>
    intro i c l hr hF hx hz n hn
    obtain ⟨n, rfl⟩ : ∃ k, n = k + 1 := ⟨n - 1, by omega⟩
    have y16 := hx.1
    have e : i = ys.length := by omega
    subst e
    exact br_t (nI_le (Nat.le_refl _) (by omega)) (h c l hF hz)
  | succ r ih =>
    intro i c l hr hF hx hz n hn
    obtain ⟨n, rfl⟩ : ∃ k, n = k + 1 := ⟨n - 1, by omega⟩
    have y16 := hx.1
    refine br_f (nI_ge (by omega) (by omega)) ⟨nI_ne0 (by omega) (by omega), ?_⟩
    rw [nI_add, pk_rem (by omega) (by omega) (by omega)]
    refine xv_el (s := 3) hs (by omega) hx (Nat.mod_lt _ (by omega)) hz (by rw [ve_ml]; omega) fun c' l' hF' hL => nm_r (nI_1 i) ?_
    refine ih (i + 1) c' l' (by omega) (ve_Ft hF hF') (ve_o hF' hs3 hx) ?_ n (by omega)
    rw [ve_rs]
    exact hL
theorem xd_rot {f_textCount f_trainHeld f_rootNode f_nodeCount f_wordCount f_groupFirst f_atopWaiting f_groupCount f_adverbCount f_canonCount f_postponedCount f_frameCount f_lastStatus : Int32} {a_text a_nodeKind a_nodeFirst a_nodeSecond a_nodeThird a_words a_outerFirst a_outerAtop a_canon a_postponed a_cells a_lengths a_frameNode a_frameDyadic a_frameX a_frameY a_framePhase : Nat → Int32} {post : SX → Prop} {lim sx sy : Nat} {xs ys : List Int32} (hsx : sx < 196) (hsy : sy < 196) (hx3 : sx ≠ 3) (hy3 : sy ≠ 3)
    (hx : ve_L a_cells a_lengths sx xs) (hy : ve_L a_cells a_lengths sy ys) (h3 : ve_L a_cells a_lengths 3 [])
    (h : ∀ c l, vd_R 3 (pr_D lim 124 xs ys) a_cells a_lengths c l → post (nI lim, f_textCount, f_trainHeld, f_rootNode, f_nodeCount, f_wordCount, f_groupFirst, f_atopWaiting, f_groupCount, f_adverbCount, f_canonCount, f_postponedCount, f_frameCount, nI (pr_D lim 124 xs ys).1, f_lastStatus, a_text, a_nodeKind, a_nodeFirst, a_nodeSecond, a_nodeThird, a_words, a_outerFirst, a_outerAtop, a_canon, a_postponed, c, l, a_frameNode, a_frameDyadic, a_frameX, a_frameY, a_framePhase)) :
    wpX_rotate post (nI lim, f_textCount, f_trainHeld, f_rootNode, f_nodeCount, f_wordCount, f_groupFirst, f_atopWaiting, f_groupCount, f_adverbCount, f_canonCount, f_postponedCount, f_frameCount, 0, f_lastStatus, a_text, a_nodeKind, a_nodeFirst, a_nodeSecond, a_nodeThird, a_words, a_outerFirst, a_outerAtop, a_canon, a_postponed, a_cells, a_lengths, a_frameNode, a_frameDyadic, a_frameX, a_frameY, a_framePhase) (nI sx) (nI sy) := by
  have e1 : (nI sx).toNatClampNeg = sx := nI_clamp (by omega)
  have e2 : (nI sy).toNatClampNeg = sy := nI_clamp (by omega)
  have e3 : (nI (16 * sx)).toNatClampNeg = 16 * sx := nI_clamp (by omega)
  have x16 := hx.1
  have y16 := hy.1
  unfold pr_D at h
  rw [if_neg (by decide), if_neg (by decide), if_neg (by decide), if_neg (by decide), if_pos rfl] at h
  refine ⟨vp_in_nI hsy (by omega), nm_r (e' := nI ys.length) (by rw [e2]; exact hy.2.1) ⟨vp_in_nI hsx (by omega), ?_⟩⟩
  rw [e1, hx.2.1]
  refine pk_eq xs.length 1 (fun e => ?_) (fun e => ?_)
  · rw [if_neg (by omega)] at h
    refine pk_eq ys.length 0 (fun z => ?_) (fun z => ?_)
    · refine h a_cells a_lengths ⟨ve_Fr _ _ _, fun _ => ?_⟩
      have : pr_rot xs ys = [] := by unfold pr_rot; rw [z]; rfl
      rw [this]; exact h3
    · have z' := nI_ne0 (n := ys.length) (by omega) (by omega)
      have hv := hx.2.2 0 (by omega)
      rw [Nat.add_zero] at hv
      refine ⟨by rw [ax_mul0]; exact vp_in_nI (by omega) (by omega), z', z', nm_r (e' := nI (pr_k (xs.getD 0 0) ys.length)) (by rw [ax_mul0, e3, hv]; exact pr_kx _ y16 (by omega)) ⟨ys.length + 1, ?_⟩⟩
      refine xd_rotL (pr_kN _ (by omega)).1 hsy hy3 (fun c l hF hL => h c l ⟨hF, fun _ => ?_⟩) ys.length 0 a_cells a_lengths (by omega) (ve_Fr _ _ _) hy h3 _ (by omega)
      exact hL
  · rw [if_pos e] at h
    exact h a_cells a_lengths ⟨ve_Fr _ _ _, fun z => by cases z⟩
theorem pr_cnt_lt {n m q : Nat} (h : pr_cnt n m = some q) {i : Nat} (hi : i < q) : (n ≠ 1 → i < n) ∧ (m ≠ 1 → i < m) := by
  unfold pr_cnt at h
  split at h
  · rename_i e
    cases h
    exact ⟨fun z => by omega, fun _ => hi⟩
  · rename_i e
    split at h
    · rename_i e2
      cases h
      exact ⟨fun _ => hi, fun z => absurd e2 z⟩
    · cases h
theorem xd_mapL {f_vectorLimit f_textCount f_trainHeld f_rootNode f_nodeCount f_wordCount f_groupFirst f_atopWaiting f_groupCount f_adverbCount f_canonCount f_postponedCount f_frameCount f_failure f_lastStatus : Int32} {a_text a_nodeKind a_nodeFirst a_nodeSecond a_nodeThird a_words a_outerFirst a_outerAtop a_canon a_postponed a_cells a_lengths a_frameNode a_frameDyadic a_frameX a_frameY a_framePhase : Nat → Int32} {post : SX → Prop} {sx sy k q : Nat} {xs ys : List Int32} (hk : k < 128) (hsx : sx < 196) (hsy : sy < 196) (hx3 : sx ≠ 3) (hy3 : sy ≠ 3) (hq : pr_cnt xs.length ys.length = some q) (q16 : q ≤ 16)
    (h : ∀ c l, ve_F (fun t => t = 3) a_cells a_lengths c l → ve_L c l 3 ((List.range q).map (fun i => pr_m2 k (pr_el xs i) (pr_el ys i))) → post (f_vectorLimit, f_textCount, f_trainHeld, f_rootNode, f_nodeCount, f_wordCount, f_groupFirst, f_atopWaiting, f_groupCount, f_adverbCount, f_canonCount, f_postponedCount, f_frameCount, f_failure, f_lastStatus, a_text, a_nodeKind, a_nodeFirst, a_nodeSecond, a_nodeThird, a_words, a_outerFirst, a_outerAtop, a_canon, a_postponed, c, l, a_frameNode, a_frameDyadic, a_frameX, a_frameY, a_framePhase)) :
    ∀ (r i : Nat) (c l : Nat → Int32), i + r = q → ve_F (fun t => t = 3) a_cells a_lengths c l → ve_L c l sx xs → ve_L c l sy ys → ve_L c l 3 ((List.range i).map (fun i => pr_m2 k (pr_el xs i) (pr_el ys i))) →
    ∀ n, r < n → wX_mapPairs_23 post (nI k) (nI sx) (nI sy) (nI q) n (nI i) f_vectorLimit f_textCount f_trainHeld f_rootNode f_nodeCount f_wordCount f_groupFirst f_atopWaiting f_groupCount f_adverbCount f_canonCount f_postponedCount f_frameCount f_failure f_lastStatus a_text a_nodeKind a_nodeFirst a_nodeSecond a_nodeThird a_words a_outerFirst a_outerAtop a_canon a_postponed c l a_frameNode a_frameDyadic a_frameX a_frameY a_framePhase := by
  intro r
  induction r with
  | zero =>
    intro i c l hr hF hx hy hz n hn
    obtain ⟨n, rfl⟩ : ∃ k, n = k + 1 := ⟨n - 1, by omega⟩
    have e : i = q := by omega
    subst e
    exact br_t (nI_le (Nat.le_refl _) (by omega)) (h c l hF hz)
  | succ r ih =>
    intro i c l hr hF hx hy hz n hn
    obtain ⟨n, rfl⟩ : ∃ k, n = k + 1 := ⟨n - 1, by omega⟩
    obtain ⟨g1, g2⟩ := pr_cnt_lt hq (i := i) (by omega)
    refine br_f (nI_ge (by omega) (by omega)) ?_
    refine xv_pe hsx (by omega) hx g1 ?_
    refine xv_pe hsy (by omega) hy g2 ?_
    refine xv_m2 hk ?_
    refine xv_ap (s := 3) (by omega) hz (by rw [ve_ml]; omega) fun c' l' hF' hL => nm_r (nI_1 i) ?_
    refine ih (i + 1) c' l' (by omega) (ve_Ft hF hF') (ve_o hF' hx3 hx) (ve_o hF' hy3 hy) ?_ n (by omega)
    rw [ve_rs]
    exact hL
theorem xq_n1 {q : Nat} (h : q ≤ 16) : ¬ nI q = -1 := by
  intro z
  have := congrArg Int32.toInt z
  rw [nI_toInt (by omega), show (-1 : Int32).toInt = -1 from by decide] at this
  omega
theorem xd_map {f_textCount f_trainHeld f_rootNode f_nodeCount f_wordCount f_groupFirst f_atopWaiting f_groupCount f_adverbCount f_canonCount f_postponedCount f_frameCount f_lastStatus : Int32} {a_text a_nodeKind a_nodeFirst a_nodeSecond a_nodeThird a_words a_outerFirst a_outerAtop a_canon a_postponed a_cells a_lengths a_frameNode a_frameDyadic a_frameX a_frameY a_framePhase : Nat → Int32} {post : SX → Prop} {lim k sx sy : Nat} {xs ys : List Int32} (hk : k < 128) (hk5 : k ≠ 91 ∧ k ≠ 93 ∧ k ≠ 35 ∧ k ≠ 44 ∧ k ≠ 124) (hsx : sx < 196) (hsy : sy < 196) (hx3 : sx ≠ 3) (hy3 : sy ≠ 3)
    (hx : ve_L a_cells a_lengths sx xs) (hy : ve_L a_cells a_lengths sy ys) (h3 : ve_L a_cells a_lengths 3 [])
    (h : ∀ c l, vd_R 3 (pr_D lim k xs ys) a_cells a_lengths c l → post (nI lim, f_textCount, f_trainHeld, f_rootNode, f_nodeCount, f_wordCount, f_groupFirst, f_atopWaiting, f_groupCount, f_adverbCount, f_canonCount, f_postponedCount, f_frameCount, nI (pr_D lim k xs ys).1, f_lastStatus, a_text, a_nodeKind, a_nodeFirst, a_nodeSecond, a_nodeThird, a_words, a_outerFirst, a_outerAtop, a_canon, a_postponed, c, l, a_frameNode, a_frameDyadic, a_frameX, a_frameY, a_framePhase)) :
    wpX_mapPairs post (nI lim, f_textCount, f_trainHeld, f_rootNode, f_nodeCount, f_wordCount, f_groupFirst, f_atopWaiting, f_groupCount, f_adverbCount, f_canonCount, f_postponedCount, f_frameCount, 0, f_lastStatus, a_text, a_nodeKind, a_nodeFirst, a_nodeSecond, a_nodeThird, a_words, a_outerFirst, a_outerAtop, a_canon, a_postponed, a_cells, a_lengths, a_frameNode, a_frameDyadic, a_frameX, a_frameY, a_framePhase) (nI k) (nI sx) (nI sy) := by
  unfold pr_D at h
  rw [if_neg hk5.1, if_neg hk5.2.1, if_neg hk5.2.2.1, if_neg hk5.2.2.2.1, if_neg hk5.2.2.2.2] at h
  unfold wpX_mapPairs
  refine xv_pc hsx hsy hx hy ?_
  cases hq : pr_cnt xs.length ys.length with
  | none =>
    rw [hq] at h
    exact br_t rfl (h a_cells a_lengths ⟨ve_Fr _ _ _, fun z => by cases z⟩)
  | some q =>
    rw [hq] at h
    have q16 := pr_cnt_le hq hx.1 hy.1
    refine br_f (xq_n1 q16) ⟨q + 1, ?_⟩
    exact xd_mapL hk hsx hsy hx3 hy3 hq q16 (fun c l hF hL => h c l ⟨hF, fun _ => hL⟩) q 0 a_cells a_lengths (by omega) (ve_Fr _ _ _) hx hy h3 _ (by omega)
theorem xd_D {f_textCount f_trainHeld f_rootNode f_nodeCount f_wordCount f_groupFirst f_atopWaiting f_groupCount f_adverbCount f_canonCount f_postponedCount f_frameCount f_lastStatus : Int32} {a_text a_nodeKind a_nodeFirst a_nodeSecond a_nodeThird a_words a_outerFirst a_outerAtop a_canon a_postponed a_cells a_lengths a_frameNode a_frameDyadic a_frameX a_frameY a_framePhase : Nat → Int32} {post : SX → Prop} {lim k sx sy : Nat} {xs ys : List Int32} (hl : lim ≤ 16) (hk : k < 128) (hsx : sx < 196) (hsy : sy < 196) (hx3 : sx ≠ 3) (hy3 : sy ≠ 3)
    (hx : ve_L a_cells a_lengths sx xs) (hy : ve_L a_cells a_lengths sy ys) (h3 : ve_L a_cells a_lengths 3 [])
    (h : ∀ c l, vd_R 3 (pr_D lim k xs ys) a_cells a_lengths c l → post (nI lim, f_textCount, f_trainHeld, f_rootNode, f_nodeCount, f_wordCount, f_groupFirst, f_atopWaiting, f_groupCount, f_adverbCount, f_canonCount, f_postponedCount, f_frameCount, nI (pr_D lim k xs ys).1, f_lastStatus, a_text, a_nodeKind, a_nodeFirst, a_nodeSecond, a_nodeThird, a_words, a_outerFirst, a_outerAtop, a_canon, a_postponed, c, l, a_frameNode, a_frameDyadic, a_frameX, a_frameY, a_framePhase)) :
    wpX_runDyad post (nI lim, f_textCount, f_trainHeld, f_rootNode, f_nodeCount, f_wordCount, f_groupFirst, f_atopWaiting, f_groupCount, f_adverbCount, f_canonCount, f_postponedCount, f_frameCount, 0, f_lastStatus, a_text, a_nodeKind, a_nodeFirst, a_nodeSecond, a_nodeThird, a_words, a_outerFirst, a_outerAtop, a_canon, a_postponed, a_cells, a_lengths, a_frameNode, a_frameDyadic, a_frameX, a_frameY, a_framePhase) (nI k) (nI sx) (nI sy) := by
  refine pk_eq k 35 (fun e => ?_) (fun e => pk_eq k 44 (fun e1 => ?_) (fun e1 => pk_eq k 91 (fun e2 => ?_) (fun e2 => pk_eq k 93 (fun e3 => ?_) (fun e3 => pk_eq k 124 (fun e4 => ?_) (fun e4 => ?_)))))
  · subst e; exact xd_cp hl hsx hsy hx3 hy3 hx hy h3 h
  · subst e1; exact xd_join hl hsx hsy hx3 hy3 hx hy h3 h
  · subst e2
    exact xv_vec (s := 3) (zs := []) hsx (by omega) hx3 hx h3 (by have := hx.1; simpa using this) fun c l hF hL => h c l ⟨hF, fun _ => hL⟩
  · subst e3
    exact xv_vec (s := 3) (zs := []) hsy (by omega) hy3 hy h3 (by have := hy.1; simpa using this) fun c l hF hL => h c l ⟨hF, fun _ => hL⟩
  · subst e4; exact xd_rot hsx hsy hx3 hy3 hx hy h3 h
  · exact xd_map hk ⟨e2, e3, e, e1, e4⟩ hsx hsy hx3 hy3 hx hy h3 h
