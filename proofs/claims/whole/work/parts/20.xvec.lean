/-! the component's vectors -/
theorem xv_append {f_vectorLimit f_textCount f_trainHeld f_rootNode f_nodeCount f_wordCount f_groupFirst f_atopWaiting f_groupCount f_adverbCount f_canonCount f_postponedCount f_frameCount f_failure f_lastStatus : Int32} {a_text a_nodeKind a_nodeFirst a_nodeSecond a_nodeThird a_words a_outerFirst a_outerAtop a_canon a_postponed a_cells a_lengths a_frameNode a_frameDyadic a_frameX a_frameY a_framePhase : Nat → Int32} {post : SX → Prop} {s n : Nat} {v : Int32} (hs : s < 196) (hn : n < 16) (hl : a_lengths s = nI n)
    (h : post (f_vectorLimit, f_textCount, f_trainHeld, f_rootNode, f_nodeCount, f_wordCount, f_groupFirst, f_atopWaiting, f_groupCount, f_adverbCount, f_canonCount, f_postponedCount, f_frameCount, f_failure, f_lastStatus, a_text, a_nodeKind, a_nodeFirst, a_nodeSecond, a_nodeThird, a_words, a_outerFirst, a_outerAtop, a_canon, a_postponed, upd a_cells (16 * s + n) v, upd a_lengths s (nI (n + 1)), a_frameNode, a_frameDyadic, a_frameX, a_frameY, a_framePhase)) : wpX_append post (f_vectorLimit, f_textCount, f_trainHeld, f_rootNode, f_nodeCount, f_wordCount, f_groupFirst, f_atopWaiting, f_groupCount, f_adverbCount, f_canonCount, f_postponedCount, f_frameCount, f_failure, f_lastStatus, a_text, a_nodeKind, a_nodeFirst, a_nodeSecond, a_nodeThird, a_words, a_outerFirst, a_outerAtop, a_canon, a_postponed, a_cells, a_lengths, a_frameNode, a_frameDyadic, a_frameX, a_frameY, a_framePhase) (nI s) v := by
  have e1 : (nI s).toNatClampNeg = s := nI_clamp (by omega)
  have e2 : (nI (16 * s + n)).toNatClampNeg = 16 * s + n := nI_clamp (by omega)
  have i1 : vp_in (nI s) 196 := vp_in_nI hs (by omega)
  have i2 : vp_in (nI (16 * s + n)) 3136 := vp_in_nI (by omega) (by omega)
  simp only [wpX_append, e1, hl, ax_mul, e2, nI_1, forall_eq]
  exact ⟨i1, i2, i1, i1, h⟩
theorem xv_appEl {f_vectorLimit f_textCount f_trainHeld f_rootNode f_nodeCount f_wordCount f_groupFirst f_atopWaiting f_groupCount f_adverbCount f_canonCount f_postponedCount f_frameCount f_failure f_lastStatus : Int32} {a_text a_nodeKind a_nodeFirst a_nodeSecond a_nodeThird a_words a_outerFirst a_outerAtop a_canon a_postponed a_cells a_lengths a_frameNode a_frameDyadic a_frameX a_frameY a_framePhase : Nat → Int32} {post : SX → Prop} {q i s n : Nat} (hq : q < 196) (hi : i < 16) (hs : s < 196) (hn : n < 16) (hl : a_lengths s = nI n)
    (h : post (f_vectorLimit, f_textCount, f_trainHeld, f_rootNode, f_nodeCount, f_wordCount, f_groupFirst, f_atopWaiting, f_groupCount, f_adverbCount, f_canonCount, f_postponedCount, f_frameCount, f_failure, f_lastStatus, a_text, a_nodeKind, a_nodeFirst, a_nodeSecond, a_nodeThird, a_words, a_outerFirst, a_outerAtop, a_canon, a_postponed, upd a_cells (16 * s + n) (a_cells (16 * q + i)), upd a_lengths s (nI (n + 1)), a_frameNode, a_frameDyadic, a_frameX, a_frameY, a_framePhase)) : wpX_appendElement post (f_vectorLimit, f_textCount, f_trainHeld, f_rootNode, f_nodeCount, f_wordCount, f_groupFirst, f_atopWaiting, f_groupCount, f_adverbCount, f_canonCount, f_postponedCount, f_frameCount, f_failure, f_lastStatus, a_text, a_nodeKind, a_nodeFirst, a_nodeSecond, a_nodeThird, a_words, a_outerFirst, a_outerAtop, a_canon, a_postponed, a_cells, a_lengths, a_frameNode, a_frameDyadic, a_frameX, a_frameY, a_framePhase) (nI q) (nI i) (nI s) := by
  have e1 : (nI s).toNatClampNeg = s := nI_clamp (by omega)
  have e2 : (nI (16 * s + n)).toNatClampNeg = 16 * s + n := nI_clamp (by omega)
  have e3 : (nI (16 * q + i)).toNatClampNeg = 16 * q + i := nI_clamp (by omega)
  have i1 : vp_in (nI s) 196 := vp_in_nI hs (by omega)
  have i2 : vp_in (nI (16 * s + n)) 3136 := vp_in_nI (by omega) (by omega)
  have i3 : vp_in (nI (16 * q + i)) 3136 := vp_in_nI (by omega) (by omega)
  simp only [wpX_appendElement, e1, hl, ax_mul, e2, e3, nI_1, forall_eq]
  exact ⟨i1, i3, i2, i1, i1, h⟩
/-- an element goes to a slot's end -/
theorem xv_el {f_vectorLimit f_textCount f_trainHeld f_rootNode f_nodeCount f_wordCount f_groupFirst f_atopWaiting f_groupCount f_adverbCount f_canonCount f_postponedCount f_frameCount f_failure f_lastStatus : Int32} {a_text a_nodeKind a_nodeFirst a_nodeSecond a_nodeThird a_words a_outerFirst a_outerAtop a_canon a_postponed a_cells a_lengths a_frameNode a_frameDyadic a_frameX a_frameY a_framePhase : Nat → Int32} {post : SX → Prop} {q i s : Nat} {xs zs : List Int32} (hq : q < 196) (hs : s < 196)
    (hx : ve_L a_cells a_lengths q xs) (hi : i < xs.length) (hz : ve_L a_cells a_lengths s zs) (hn : zs.length < 16)
    (h : ∀ c l, ve_F (fun t => t = s) a_cells a_lengths c l → ve_L c l s (zs ++ [xs.getD i 0]) → post (f_vectorLimit, f_textCount, f_trainHeld, f_rootNode, f_nodeCount, f_wordCount, f_groupFirst, f_atopWaiting, f_groupCount, f_adverbCount, f_canonCount, f_postponedCount, f_frameCount, f_failure, f_lastStatus, a_text, a_nodeKind, a_nodeFirst, a_nodeSecond, a_nodeThird, a_words, a_outerFirst, a_outerAtop, a_canon, a_postponed, c, l, a_frameNode, a_frameDyadic, a_frameX, a_frameY, a_framePhase)) :
    wpX_appendElement post (f_vectorLimit, f_textCount, f_trainHeld, f_rootNode, f_nodeCount, f_wordCount, f_groupFirst, f_atopWaiting, f_groupCount, f_adverbCount, f_canonCount, f_postponedCount, f_frameCount, f_failure, f_lastStatus, a_text, a_nodeKind, a_nodeFirst, a_nodeSecond, a_nodeThird, a_words, a_outerFirst, a_outerAtop, a_canon, a_postponed, a_cells, a_lengths, a_frameNode, a_frameDyadic, a_frameX, a_frameY, a_framePhase) (nI q) (nI i) (nI s) := by
  refine xv_appEl hq (by have := hx.1; omega) hs hn hz.2.1 (h _ _ (ve_Fu hn) ?_)
  rw [hx.2.2 i hi]
  exact ve_app _ hz hn
theorem xv_ap {f_vectorLimit f_textCount f_trainHeld f_rootNode f_nodeCount f_wordCount f_groupFirst f_atopWaiting f_groupCount f_adverbCount f_canonCount f_postponedCount f_frameCount f_failure f_lastStatus : Int32} {a_text a_nodeKind a_nodeFirst a_nodeSecond a_nodeThird a_words a_outerFirst a_outerAtop a_canon a_postponed a_cells a_lengths a_frameNode a_frameDyadic a_frameX a_frameY a_framePhase : Nat → Int32} {post : SX → Prop} {s : Nat} {zs : List Int32} {v : Int32} (hs : s < 196)
    (hz : ve_L a_cells a_lengths s zs) (hn : zs.length < 16)
    (h : ∀ c l, ve_F (fun t => t = s) a_cells a_lengths c l → ve_L c l s (zs ++ [v]) → post (f_vectorLimit, f_textCount, f_trainHeld, f_rootNode, f_nodeCount, f_wordCount, f_groupFirst, f_atopWaiting, f_groupCount, f_adverbCount, f_canonCount, f_postponedCount, f_frameCount, f_failure, f_lastStatus, a_text, a_nodeKind, a_nodeFirst, a_nodeSecond, a_nodeThird, a_words, a_outerFirst, a_outerAtop, a_canon, a_postponed, c, l, a_frameNode, a_frameDyadic, a_frameX, a_frameY, a_framePhase)) :
    wpX_append post (f_vectorLimit, f_textCount, f_trainHeld, f_rootNode, f_nodeCount, f_wordCount, f_groupFirst, f_atopWaiting, f_groupCount, f_adverbCount, f_canonCount, f_postponedCount, f_frameCount, f_failure, f_lastStatus, a_text, a_nodeKind, a_nodeFirst, a_nodeSecond, a_nodeThird, a_words, a_outerFirst, a_outerAtop, a_canon, a_postponed, a_cells, a_lengths, a_frameNode, a_frameDyadic, a_frameX, a_frameY, a_framePhase) (nI s) v :=
  xv_append hs hn hz.2.1 (h _ _ (ve_Fu hn) (ve_app _ hz hn))
theorem xv_vecL {f_vectorLimit f_textCount f_trainHeld f_rootNode f_nodeCount f_wordCount f_groupFirst f_atopWaiting f_groupCount f_adverbCount f_canonCount f_postponedCount f_frameCount f_failure f_lastStatus : Int32} {a_text a_nodeKind a_nodeFirst a_nodeSecond a_nodeThird a_words a_outerFirst a_outerAtop a_canon a_postponed a_cells a_lengths a_frameNode a_frameDyadic a_frameX a_frameY a_framePhase : Nat → Int32} {post : SX → Prop} {q s : Nat} {xs zs : List Int32} (hq : q < 196) (hs : s < 196) (hqs : q ≠ s) (hlen : zs.length + xs.length ≤ 16)
    (h : ∀ c l, ve_F (fun t => t = s) a_cells a_lengths c l → ve_L c l s (zs ++ xs) → post (f_vectorLimit, f_textCount, f_trainHeld, f_rootNode, f_nodeCount, f_wordCount, f_groupFirst, f_atopWaiting, f_groupCount, f_adverbCount, f_canonCount, f_postponedCount, f_frameCount, f_failure, f_lastStatus, a_text, a_nodeKind, a_nodeFirst, a_nodeSecond, a_nodeThird, a_words, a_outerFirst, a_outerAtop, a_canon, a_postponed, c, l, a_frameNode, a_frameDyadic, a_frameX, a_frameY, a_framePhase)) :
    ∀ (d i : Nat) (c l : Nat → Int32), i + d = xs.length → ve_F (fun t => t = s) a_cells a_lengths c l → ve_L c l q xs → ve_L c l s (zs ++ (List.range i).map (fun j => xs.getD j 0)) →
    ∀ n, d < n → wX_appendVector_10 post (nI q) (nI s) (nI xs.length) f_vectorLimit f_textCount f_trainHeld f_rootNode f_nodeCount f_wordCount f_groupFirst f_atopWaiting f_groupCount f_adverbCount f_canonCount f_postponedCount f_frameCount f_failure f_lastStatus n (nI i) a_text a_nodeKind a_nodeFirst a_nodeSecond a_nodeThird a_words a_outerFirst a_outerAtop a_canon a_postponed c l a_frameNode a_frameDyadic a_frameX a_frameY a_framePhase := by
  intro d
  induction d with
  | zero =>
    intro i c l hi hF hx hz n hn
    obtain ⟨n, rfl⟩ : ∃ k, n = k + 1 := ⟨n - 1, by omega⟩
    refine br_t (nI_le (by omega) (by omega)) ?_
    have e : i = xs.length := by omega
    rw [e, ve_self] at hz
    exact h c l hF hz
  | succ d ih =>
    intro i c l hi hF hx hz n hn
    obtain ⟨n, rfl⟩ : ∃ k, n = k + 1 := ⟨n - 1, by omega⟩
    refine br_f (nI_ge (by omega) (by omega)) ?_
    have zl : (zs ++ (List.range i).map (fun j => xs.getD j 0)).length = zs.length + i := by rw [List.length_append, ve_ml]
    have hl := hz.2.1
    rw [zl] at hl
    have e1 : (nI s).toNatClampNeg = s := nI_clamp (by omega)
    have e2 : (nI (16 * s + (zs.length + i))).toNatClampNeg = 16 * s + (zs.length + i) := nI_clamp (by omega)
    have e3 : (nI (16 * q + i)).toNatClampNeg = 16 * q + i := nI_clamp (by omega)
    have i1 : vp_in (nI s) 196 := vp_in_nI hs (by omega)
    have i2 : vp_in (nI (16 * s + (zs.length + i))) 3136 := vp_in_nI (by omega) (by omega)
    have i3 : vp_in (nI (16 * q + i)) 3136 := vp_in_nI (by omega) (by omega)
    have hxi := hx.2.2 i (by omega)
    simp only [e1, hl, ax_mul, e2, e3, nI_1, forall_eq, hxi]
    refine ⟨i1, i3, i2, i1, i1, ih (i + 1) _ _ (by omega) (ve_Ft hF (ve_Fu (by omega))) (ve_o (ve_Fu (by omega)) hqs hx) ?_ n (by omega)⟩
    have g := ve_app (xs.getD i 0) hz (by rw [zl]; omega)
    rw [zl, List.append_assoc, ← ve_rs (fun j => xs.getD j 0)] at g
    exact g
theorem xv_vec {f_vectorLimit f_textCount f_trainHeld f_rootNode f_nodeCount f_wordCount f_groupFirst f_atopWaiting f_groupCount f_adverbCount f_canonCount f_postponedCount f_frameCount f_failure f_lastStatus : Int32} {a_text a_nodeKind a_nodeFirst a_nodeSecond a_nodeThird a_words a_outerFirst a_outerAtop a_canon a_postponed a_cells a_lengths a_frameNode a_frameDyadic a_frameX a_frameY a_framePhase : Nat → Int32} {post : SX → Prop} {q s : Nat} {xs zs : List Int32} (hq : q < 196) (hs : s < 196) (hqs : q ≠ s) (hx : ve_L a_cells a_lengths q xs) (hz : ve_L a_cells a_lengths s zs) (hlen : zs.length + xs.length ≤ 16)
    (h : ∀ c l, ve_F (fun t => t = s) a_cells a_lengths c l → ve_L c l s (zs ++ xs) → post (f_vectorLimit, f_textCount, f_trainHeld, f_rootNode, f_nodeCount, f_wordCount, f_groupFirst, f_atopWaiting, f_groupCount, f_adverbCount, f_canonCount, f_postponedCount, f_frameCount, f_failure, f_lastStatus, a_text, a_nodeKind, a_nodeFirst, a_nodeSecond, a_nodeThird, a_words, a_outerFirst, a_outerAtop, a_canon, a_postponed, c, l, a_frameNode, a_frameDyadic, a_frameX, a_frameY, a_framePhase)) :
    wpX_appendVector post (f_vectorLimit, f_textCount, f_trainHeld, f_rootNode, f_nodeCount, f_wordCount, f_groupFirst, f_atopWaiting, f_groupCount, f_adverbCount, f_canonCount, f_postponedCount, f_frameCount, f_failure, f_lastStatus, a_text, a_nodeKind, a_nodeFirst, a_nodeSecond, a_nodeThird, a_words, a_outerFirst, a_outerAtop, a_canon, a_postponed, a_cells, a_lengths, a_frameNode, a_frameDyadic, a_frameX, a_frameY, a_framePhase) (nI q) (nI s) := by
  have e1 : (nI q).toNatClampNeg = q := nI_clamp (by omega)
  refine ⟨vp_in_nI hq (by omega), nm_r (e' := nI xs.length) (by rw [e1]; exact hx.2.1) ⟨xs.length + 1, ?_⟩⟩
  refine xv_vecL hq hs hqs hlen h xs.length 0 a_cells a_lengths (by omega) (ve_Fr _ _ _) hx ?_ _ (by omega)
  have : zs ++ (List.range 0).map (fun j => xs.getD j 0) = zs := by simp
  rw [this]
  exact hz
theorem xv_copy {f_vectorLimit f_textCount f_trainHeld f_rootNode f_nodeCount f_wordCount f_groupFirst f_atopWaiting f_groupCount f_adverbCount f_canonCount f_postponedCount f_frameCount f_failure f_lastStatus : Int32} {a_text a_nodeKind a_nodeFirst a_nodeSecond a_nodeThird a_words a_outerFirst a_outerAtop a_canon a_postponed a_cells a_lengths a_frameNode a_frameDyadic a_frameX a_frameY a_framePhase : Nat → Int32} {post : SX → Prop} {q s : Nat} {xs : List Int32} (hq : q < 196) (hs : s < 196) (hqs : q ≠ s) (hx : ve_L a_cells a_lengths q xs)
    (h : ∀ c l, ve_F (fun t => t = s) a_cells a_lengths c l → ve_L c l s xs → post (f_vectorLimit, f_textCount, f_trainHeld, f_rootNode, f_nodeCount, f_wordCount, f_groupFirst, f_atopWaiting, f_groupCount, f_adverbCount, f_canonCount, f_postponedCount, f_frameCount, f_failure, f_lastStatus, a_text, a_nodeKind, a_nodeFirst, a_nodeSecond, a_nodeThird, a_words, a_outerFirst, a_outerAtop, a_canon, a_postponed, c, l, a_frameNode, a_frameDyadic, a_frameX, a_frameY, a_framePhase)) :
    wpX_copyVector post (f_vectorLimit, f_textCount, f_trainHeld, f_rootNode, f_nodeCount, f_wordCount, f_groupFirst, f_atopWaiting, f_groupCount, f_adverbCount, f_canonCount, f_postponedCount, f_frameCount, f_failure, f_lastStatus, a_text, a_nodeKind, a_nodeFirst, a_nodeSecond, a_nodeThird, a_words, a_outerFirst, a_outerAtop, a_canon, a_postponed, a_cells, a_lengths, a_frameNode, a_frameDyadic, a_frameX, a_frameY, a_framePhase) (nI q) (nI s) := by
  have e1 : (nI s).toNatClampNeg = s := nI_clamp (by omega)
  refine ⟨vp_in_nI hs (by omega), nm_r (e' := upd a_lengths s 0) (by rw [e1]) ?_⟩
  refine xv_vec hq hs hqs (zs := []) (ve_o ve_Fl hqs hx) ve_nil (by have := hx.1; simpa using this) fun c l hF hL => ?_
  exact h c l (ve_Ft ve_Fl hF) hL
