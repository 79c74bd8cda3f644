/-! the canonical form on both sides -/
def cn_un (K F S T : Nat → Nat) (n : Nat) : List cn_I :=
  if K n = 1 then [(false, 40), (true, F n), (true, S n), (true, T n), (false, 41)]
  else if K n = 2 then [(false, 40), (true, F n), (true, S n), (false, 41)]
  else if K n = 64 then (if nd_pr (K (S n)) = 0 then [(true, F n), (false, 64), (true, S n)] else [(true, F n), (false, 64), (false, 40), (true, S n), (false, 41)])
  else if K n = 47 ∨ K n = 92 ∨ K n = 34 then [(true, F n), (false, K n)]
  else []
def cn_em (K : Nat → Nat) (n : Nat) : List Nat := if K n = 1 ∨ K n = 2 ∨ K n = 64 ∨ K n = 47 ∨ K n = 92 ∨ K n = 34 then [] else [K n]
def cn_O (a : Nat → Int32) (o : List Nat) : Prop := ∀ j, j < o.length → a j = nI (o.getD j 0)
theorem cn_Oe {a : Nat → Int32} {o : List Nat} (h : cn_O a o) (c : Nat) : cn_O (upd a o.length (nI c)) (o ++ [c]) := by
  intro j hj
  rw [List.length_append] at hj
  have hj' : j < o.length + 1 := hj
  by_cases z : j = o.length
  · rw [z, List.getD_eq_getElem?_getD, List.getElem?_append_right (Nat.le_refl _), Nat.sub_self]; exact pk_us
  · rw [List.getD_eq_getElem?_getD, List.getElem?_append_left (by omega), ← List.getD_eq_getElem?_getD, pk_un z]
    exact h j (by omega)
theorem cn_len1 {o : List Nat} {c : Nat} : (o ++ [c]).length = o.length + 1 := by rw [List.length_append]; rfl
theorem ax_nc {c : Nat} (h : c < 65536) : vp_nar .char (nI c) = nI c := by
  unfold vp_nar
  rw [(pk_charN h).1]
theorem ax_ch {c : Nat} (h : c < 65536) : ((nI c).toUInt32 % 65536).toInt32 = nI c := by
  rw [pk_char, pk_tn (by omega), Nat.mod_eq_of_lt h]
theorem cn_wt {N : Nat} {K F S T C A D : Nat → Nat} (hK : tr_ok N K F S T C A D) {n : Nat} (hn : n < N) (r : List cn_I) (hr : cn_ok N r) :
    cn_w C (cn_un K F S T n ++ r) + 1 ≤ 2 * C n + cn_w C r ∧ cn_c C (cn_un K F S T n ++ r) + (cn_em K n).length = C n + cn_c C r ∧ cn_ok N (cn_un K F S T n ++ r) := by
  have nd := (hK n hn).1
  unfold cn_un
  rcases nd with ⟨h, e, -⟩ | ⟨h, f, e, -⟩ | ⟨h, f, s, e, -⟩ | ⟨h, f, s, t, e, -⟩ | ⟨h, f, s, e, -⟩
  · unfold pr_lf pr_vb pr_dig at h
    have em : cn_em K n = [K n] := if_neg (by omega)
    rw [em, if_neg (by omega), if_neg (by omega), if_neg (by omega), if_neg (by omega), e]
    refine ⟨?_, ?_, hr⟩
    · show cn_w C r + 1 ≤ 2 * 1 + cn_w C r
      omega
    · show cn_c C r + 1 = 1 + cn_c C r
      omega
  · unfold pr_av at h
    have em : cn_em K n = [] := if_pos (by omega)
    rw [em, if_neg (by omega), if_neg (by omega), if_neg (by omega), if_pos h, e]
    refine ⟨?_, ?_, ⟨by omega, by omega, by omega, hr⟩⟩
    · show 2 * C (F n) + (1 + cn_w C r) + 1 ≤ _
      omega
    · show C (F n) + (1 + cn_c C r) + 0 = _
      omega
  · have em : cn_em K n = [] := if_pos (by omega)
    rw [em, if_neg (by omega), if_neg (by omega), if_pos h, e]
    by_cases z : nd_pr (K (S n)) = 0
    · rw [if_pos z, z]
      refine ⟨?_, ?_, ⟨by omega, by decide, by decide, by omega, hr⟩⟩
      · show 2 * C (F n) + (1 + (2 * C (S n) + cn_w C r)) + 1 ≤ _
        omega
      · show C (F n) + (1 + (C (S n) + cn_c C r)) + 0 = _
        omega
    · have z2 : nd_pr (K (S n)) = 2 := by
        unfold nd_pr at z ⊢
        split at z
        · rw [if_pos ‹_›]
        · exact absurd rfl z
      rw [if_neg z, z2]
      refine ⟨?_, ?_, ⟨by omega, by decide, by decide, by decide, by decide, by omega, by decide, by decide, hr⟩⟩
      · show 2 * C (F n) + (1 + (1 + (2 * C (S n) + (1 + cn_w C r)))) + 1 ≤ _
        omega
      · show C (F n) + (1 + (1 + (C (S n) + (1 + cn_c C r)))) + 0 = _
        omega
  · have em : cn_em K n = [] := if_pos (by omega)
    rw [em, if_pos h, e]
    refine ⟨?_, ?_, ⟨by decide, by decide, by omega, by omega, by omega, by decide, by decide, hr⟩⟩
    · show 1 + (2 * C (F n) + (2 * C (S n) + (2 * C (T n) + (1 + cn_w C r)))) + 1 ≤ _
      omega
    · show 1 + (C (F n) + (C (S n) + (C (T n) + (1 + cn_c C r)))) + 0 = _
      omega
  · have em : cn_em K n = [] := if_pos (by omega)
    rw [em, if_neg (by omega), if_pos h, e]
    refine ⟨?_, ?_, ⟨by decide, by decide, by omega, by omega, by decide, by decide, hr⟩⟩
    · show 1 + (2 * C (F n) + (2 * C (S n) + (1 + cn_w C r))) + 1 ≤ _
      omega
    · show 1 + (C (F n) + (C (S n) + (1 + cn_c C r))) + 0 = _
      omega
theorem xc_p {f_vectorLimit f_textCount f_trainHeld f_rootNode f_nodeCount f_wordCount f_groupFirst f_atopWaiting f_groupCount f_adverbCount f_canonCount f_frameCount f_failure f_lastStatus : Int32} {a_text a_nodeKind a_nodeFirst a_nodeSecond a_nodeThird a_words a_outerFirst a_outerAtop a_canon a_postponed a_cells a_lengths a_frameNode a_frameDyadic a_frameX a_frameY a_framePhase : Nat → Int32} {post : SX → Prop} {st : List cn_I} (it : cn_I) {v : Int32} (hv : v = cn_ex it) (hs : cn_S cn_ex a_postponed st) (hl : st.length < 128)
    (h : ∀ ap, cn_S cn_ex ap (it :: st) → post (f_vectorLimit, f_textCount, f_trainHeld, f_rootNode, f_nodeCount, f_wordCount, f_groupFirst, f_atopWaiting, f_groupCount, f_adverbCount, f_canonCount, nI (it :: st).length, f_frameCount, f_failure, f_lastStatus, a_text, a_nodeKind, a_nodeFirst, a_nodeSecond, a_nodeThird, a_words, a_outerFirst, a_outerAtop, a_canon, ap, a_cells, a_lengths, a_frameNode, a_frameDyadic, a_frameX, a_frameY, a_framePhase)) : wpX_postpone post (f_vectorLimit, f_textCount, f_trainHeld, f_rootNode, f_nodeCount, f_wordCount, f_groupFirst, f_atopWaiting, f_groupCount, f_adverbCount, f_canonCount, nI st.length, f_frameCount, f_failure, f_lastStatus, a_text, a_nodeKind, a_nodeFirst, a_nodeSecond, a_nodeThird, a_words, a_outerFirst, a_outerAtop, a_canon, a_postponed, a_cells, a_lengths, a_frameNode, a_frameDyadic, a_frameX, a_frameY, a_framePhase) v := by
  subst hv
  have e1 : (nI st.length).toNatClampNeg = st.length := nI_clamp (by omega)
  exact ⟨vp_in_nI hl (by omega), nm_r (e' := upd a_postponed st.length (cn_ex it)) (by rw [e1]) (nm_r (nI_1 _) (h _ (cn_push it hs)))⟩
theorem xc_e {f_vectorLimit f_textCount f_trainHeld f_rootNode f_nodeCount f_wordCount f_groupFirst f_atopWaiting f_groupCount f_adverbCount f_postponedCount f_frameCount f_failure f_lastStatus : Int32} {a_text a_nodeKind a_nodeFirst a_nodeSecond a_nodeThird a_words a_outerFirst a_outerAtop a_canon a_postponed a_cells a_lengths a_frameNode a_frameDyadic a_frameX a_frameY a_framePhase : Nat → Int32} {post : SX → Prop} {o : List Nat} {c : Nat} (hc : c < 128) (ho : cn_O a_canon o) (hl : o.length < 64)
    (h : ∀ ac, cn_O ac (o ++ [c]) → post (f_vectorLimit, f_textCount, f_trainHeld, f_rootNode, f_nodeCount, f_wordCount, f_groupFirst, f_atopWaiting, f_groupCount, f_adverbCount, nI (o ++ [c]).length, f_postponedCount, f_frameCount, f_failure, f_lastStatus, a_text, a_nodeKind, a_nodeFirst, a_nodeSecond, a_nodeThird, a_words, a_outerFirst, a_outerAtop, ac, a_postponed, a_cells, a_lengths, a_frameNode, a_frameDyadic, a_frameX, a_frameY, a_framePhase)) : wpX_writeCanonChar post (f_vectorLimit, f_textCount, f_trainHeld, f_rootNode, f_nodeCount, f_wordCount, f_groupFirst, f_atopWaiting, f_groupCount, f_adverbCount, nI o.length, f_postponedCount, f_frameCount, f_failure, f_lastStatus, a_text, a_nodeKind, a_nodeFirst, a_nodeSecond, a_nodeThird, a_words, a_outerFirst, a_outerAtop, a_canon, a_postponed, a_cells, a_lengths, a_frameNode, a_frameDyadic, a_frameX, a_frameY, a_framePhase) (nI c) := by
  have e1 : (nI o.length).toNatClampNeg = o.length := nI_clamp (by omega)
  exact ⟨vp_in_nI hl (by omega), nm_r (e' := upd a_canon o.length (nI c)) (by rw [e1, ax_ch (by omega), ax_nc (by omega)]) (nm_r (e' := nI (o ++ [c]).length) (by rw [nI_1, cn_len1]) (h _ (cn_Oe ho c)))⟩
theorem xv_adv {post : Int32 → Prop} {k : Nat} (hk : k < 128) (h1 : k = 47 ∨ k = 92 ∨ k = 34 → post 1) (h0 : ¬ (k = 47 ∨ k = 92 ∨ k = 34) → post 0) : wpX_isAdverb post (nI k) :=
  pk_eq k 47 (fun e => h1 (Or.inl e)) (fun a => pk_eq k 92 (fun e => h1 (Or.inr (Or.inl e))) (fun b => pk_eq k 34 (fun e => h1 (Or.inr (Or.inr e))) (fun c => h0 (by omega))))
theorem xc_ar {f_vectorLimit f_textCount f_trainHeld f_rootNode f_nodeCount f_wordCount f_groupFirst f_atopWaiting f_groupCount f_adverbCount f_canonCount f_frameCount f_failure f_lastStatus : Int32} {a_text a_nodeKind a_nodeFirst a_nodeSecond a_nodeThird a_words a_outerFirst a_outerAtop a_canon a_postponed a_cells a_lengths a_frameNode a_frameDyadic a_frameX a_frameY a_framePhase : Nat → Int32} {post : SX → Prop} {m : Nat} {k : Nat} {r : List cn_I} (hm : m < 64) (hk : k < 128) (hkm : a_nodeKind m = nI k) (hs : cn_S cn_ex a_postponed r) (hl : r.length + 3 ≤ 128)
    (h0 : nd_pr k = 0 → ∀ ap, cn_S cn_ex ap ((true, m) :: r) → post (f_vectorLimit, f_textCount, f_trainHeld, f_rootNode, f_nodeCount, f_wordCount, f_groupFirst, f_atopWaiting, f_groupCount, f_adverbCount, f_canonCount, nI ((true, m) :: r).length, f_frameCount, f_failure, f_lastStatus, a_text, a_nodeKind, a_nodeFirst, a_nodeSecond, a_nodeThird, a_words, a_outerFirst, a_outerAtop, a_canon, ap, a_cells, a_lengths, a_frameNode, a_frameDyadic, a_frameX, a_frameY, a_framePhase))
    (h1 : nd_pr k ≠ 0 → ∀ ap, cn_S cn_ex ap ((false, 40) :: (true, m) :: (false, 41) :: r) → post (f_vectorLimit, f_textCount, f_trainHeld, f_rootNode, f_nodeCount, f_wordCount, f_groupFirst, f_atopWaiting, f_groupCount, f_adverbCount, f_canonCount, nI ((false, 40) :: (true, m) :: (false, 41) :: r).length, f_frameCount, f_failure, f_lastStatus, a_text, a_nodeKind, a_nodeFirst, a_nodeSecond, a_nodeThird, a_words, a_outerFirst, a_outerAtop, a_canon, ap, a_cells, a_lengths, a_frameNode, a_frameDyadic, a_frameX, a_frameY, a_framePhase)) :
    wpX_postponeAtopRight post (f_vectorLimit, f_textCount, f_trainHeld, f_rootNode, f_nodeCount, f_wordCount, f_groupFirst, f_atopWaiting, f_groupCount, f_adverbCount, f_canonCount, nI r.length, f_frameCount, f_failure, f_lastStatus, a_text, a_nodeKind, a_nodeFirst, a_nodeSecond, a_nodeThird, a_words, a_outerFirst, a_outerAtop, a_canon, a_postponed, a_cells, a_lengths, a_frameNode, a_frameDyadic, a_frameX, a_frameY, a_framePhase) (nI m) := by
  have e3 : (nI m).toNatClampNeg = m := nI_clamp (by omega)
  have par : nd_pr k ≠ 0 → wX_postponeAtopRight_20 post (nI m) f_vectorLimit f_textCount f_trainHeld f_rootNode f_nodeCount f_wordCount f_groupFirst f_atopWaiting f_groupCount f_adverbCount f_canonCount (nI r.length) f_frameCount f_failure f_lastStatus a_text a_nodeKind a_nodeFirst a_nodeSecond a_nodeThird a_words a_outerFirst a_outerAtop a_canon a_postponed a_cells a_lengths a_frameNode a_frameDyadic a_frameX a_frameY a_framePhase := by
    intro q
    unfold wX_postponeAtopRight_20 wX_postponeAtopRight_25
    refine br_f (by decide) ?_
    refine xc_p (false, 41) rfl hs (by omega) fun ap1 s1 => ?_
    unfold wX_postponeAtopRight_36
    refine xc_p (st := (false, 41) :: r) (true, m) rfl s1 (by show r.length + 1 < 128; omega) fun ap2 s2 => br_f (by decide) ?_
    refine xc_p (st := (true, m) :: (false, 41) :: r) (false, 40) rfl s2 (by show r.length + 2 < 128; omega) fun ap3 s3 => ?_
    exact h1 q ap3 s3
  refine ⟨vp_in_nI (by omega) (by omega), nm_r (e' := nI k) (by rw [e3]; exact hkm) ?_⟩
  refine pk_eq k 64 (fun q => par ?_) (fun b1 => ?_)
  · unfold nd_pr; rw [if_pos (by omega)]; decide
  · refine xv_adv hk (fun q => br_f (by decide) (par ?_)) (fun q => br_t rfl ?_)
    · unfold nd_pr; rw [if_pos (by omega)]; decide
    · have np : nd_pr k = 0 := by unfold nd_pr; rw [if_neg (by omega)]
      unfold wX_postponeAtopRight_25
      refine br_t rfl ?_
      unfold wX_postponeAtopRight_36
      refine xc_p (true, m) rfl hs (by omega) fun ap2 s2 => br_t rfl ?_
      exact h0 np ap2 s2
theorem xc_un {f_vectorLimit f_textCount f_trainHeld f_rootNode f_nodeCount f_wordCount f_groupFirst f_atopWaiting f_groupCount f_adverbCount f_frameCount f_failure f_lastStatus : Int32} {a_text a_nodeKind a_nodeFirst a_nodeSecond a_nodeThird a_words a_outerFirst a_outerAtop a_canon a_postponed a_cells a_lengths a_frameNode a_frameDyadic a_frameX a_frameY a_framePhase : Nat → Int32} {post : SX → Prop} {N : Nat} {K F S T C A D : Nat → Nat} {n : Nat} {r : List cn_I} {o : List Nat} (hK : tr_ok N K F S T C A D) (hN : N ≤ 64) (hn : n < N)
    (hT : tr_X N K F S T a_nodeKind a_nodeFirst a_nodeSecond a_nodeThird) (hs : cn_S cn_ex a_postponed r) (hl : r.length + (cn_un K F S T n).length ≤ 128) (ho : cn_O a_canon o) (ho2 : o.length + (cn_em K n).length ≤ 64)
    (h : ∀ ap ac, cn_S cn_ex ap (cn_un K F S T n ++ r) → cn_O ac (o ++ cn_em K n) → post (f_vectorLimit, f_textCount, f_trainHeld, f_rootNode, f_nodeCount, f_wordCount, f_groupFirst, f_atopWaiting, f_groupCount, f_adverbCount, nI (o ++ cn_em K n).length, nI (cn_un K F S T n ++ r).length, f_frameCount, f_failure, f_lastStatus, a_text, a_nodeKind, a_nodeFirst, a_nodeSecond, a_nodeThird, a_words, a_outerFirst, a_outerAtop, ac, ap, a_cells, a_lengths, a_frameNode, a_frameDyadic, a_frameX, a_frameY, a_framePhase)) :
    wpX_unfoldNode post (f_vectorLimit, f_textCount, f_trainHeld, f_rootNode, f_nodeCount, f_wordCount, f_groupFirst, f_atopWaiting, f_groupCount, f_adverbCount, nI o.length, nI r.length, f_frameCount, f_failure, f_lastStatus, a_text, a_nodeKind, a_nodeFirst, a_nodeSecond, a_nodeThird, a_words, a_outerFirst, a_outerAtop, a_canon, a_postponed, a_cells, a_lengths, a_frameNode, a_frameDyadic, a_frameX, a_frameY, a_framePhase) (nI n) := by
  have nd := (hK n hn).1
  have kk := nd_k nd
  have e2 : (nI n).toNatClampNeg = n := nI_clamp (by omega)
  have i2 : vp_in (nI n) 64 := vp_in_nI (by omega) (by omega)
  obtain ⟨k1, k2, k3, k4⟩ := hT n hn
  refine ⟨i2, nm_r (e' := nI (K n)) (by rw [e2]; exact k1) ?_⟩
  unfold cn_un at h hl
  refine pk_eq (K n) 1 (fun z => ?_) (fun a1 => pk_eq (K n) 2 (fun z => ?_) (fun a2 => pk_eq (K n) 64 (fun z => ⟨i2, ?_⟩) (fun a3 => ?_)))
  · rw [if_pos z] at h hl
    rw [show cn_em K n = [] from if_pos (by omega), List.append_nil] at h
    have hl' : r.length + 5 ≤ 128 := hl
    unfold wX_unfoldNode_17
    refine xc_p (false, 41) rfl hs (by omega) fun ap1 s1 => pk_eq (K n) 1 (fun _ => ⟨i2, ?_⟩) (fun q => absurd z q)
    rw [e2, k4]
    refine xc_p (st := (false, 41) :: r) (true, T n) rfl s1 (by show r.length + 1 < 128; omega) fun ap2 s2 => ?_
    unfold wX_unfoldNode_38
    refine ⟨i2, ?_⟩
    rw [e2, k3]
    refine xc_p (st := (true, T n) :: (false, 41) :: r) (true, S n) rfl s2 (by show r.length + 2 < 128; omega) fun ap3 s3 => ⟨i2, ?_⟩
    rw [k2]
    refine xc_p (st := (true, S n) :: (true, T n) :: (false, 41) :: r) (true, F n) rfl s3 (by show r.length + 3 < 128; omega) fun ap4 s4 => ?_
    refine xc_p (st := (true, F n) :: (true, S n) :: (true, T n) :: (false, 41) :: r) (false, 40) rfl s4 (by show r.length + 4 < 128; omega) fun ap5 s5 => ?_
    exact h ap5 a_canon s5 ho
  · rw [if_neg a1, if_pos z] at h hl
    rw [show cn_em K n = [] from if_pos (by omega), List.append_nil] at h
    have hl' : r.length + 4 ≤ 128 := hl
    unfold wX_unfoldNode_17
    refine xc_p (false, 41) rfl hs (by omega) fun ap1 s1 => pk_eq (K n) 1 (fun q => absurd q a1) (fun _ => ?_)
    unfold wX_unfoldNode_38
    refine ⟨i2, ?_⟩
    rw [e2, k3]
    refine xc_p (st := (false, 41) :: r) (true, S n) rfl s1 (by show r.length + 1 < 128; omega) fun ap3 s3 => ⟨i2, ?_⟩
    rw [k2]
    refine xc_p (st := (true, S n) :: (false, 41) :: r) (true, F n) rfl s3 (by show r.length + 2 < 128; omega) fun ap4 s4 => ?_
    refine xc_p (st := (true, F n) :: (true, S n) :: (false, 41) :: r) (false, 40) rfl s4 (by show r.length + 3 < 128; omega) fun ap5 s5 => ?_
    exact h ap5 a_canon s5 ho
  · rw [if_neg a1, if_neg a2, if_pos z] at h hl
    rw [show cn_em K n = [] from if_pos (by omega), List.append_nil] at h
    have fs := am_fs nd (Or.inr z)
    have ks := nd_k (hK (S n) (by omega)).1
    rw [e2, k3]
    by_cases q : nd_pr (K (S n)) = 0
    · rw [if_pos q] at h hl
      have hl' : r.length + 3 ≤ 128 := hl
      refine xc_ar (by omega) ks (hT (S n) (by omega)).1 hs (by omega) (fun _ ap2 s2 => ?_) (fun z => absurd q z)
      refine xc_p (st := (true, S n) :: r) (false, 64) rfl s2 (by show r.length + 1 < 128; omega) fun ap4 s4 => ⟨i2, ?_⟩
      rw [k2]
      refine xc_p (st := (false, 64) :: (true, S n) :: r) (true, F n) rfl s4 (by show r.length + 2 < 128; omega) fun ap5 s5 => ?_
      exact h ap5 a_canon s5 ho
    · rw [if_neg q] at h hl
      have hl' : r.length + 5 ≤ 128 := hl
      refine xc_ar (by omega) ks (hT (S n) (by omega)).1 hs (by omega) (fun z => absurd z q) (fun _ ap3 s3 => ?_)
      refine xc_p (st := (false, 40) :: (true, S n) :: (false, 41) :: r) (false, 64) rfl s3 (by show r.length + 3 < 128; omega) fun ap4 s4 => ⟨i2, ?_⟩
      rw [k2]
      refine xc_p (st := (false, 64) :: (false, 40) :: (true, S n) :: (false, 41) :: r) (true, F n) rfl s4 (by show r.length + 4 < 128; omega) fun ap5 s5 => ?_
      exact h ap5 a_canon s5 ho
  · rw [if_neg a1, if_neg a2, if_neg a3] at h hl
    refine xv_adv kk (fun z => br_f (by decide) ?_) (fun z => br_t rfl ?_)
    · rw [if_pos z] at h hl
      rw [show cn_em K n = [] from if_pos (by omega), List.append_nil] at h
      have hl' : r.length + 2 ≤ 128 := hl
      refine xc_p (false, K n) rfl hs (by omega) fun ap1 s1 => ⟨i2, ?_⟩
      rw [e2, k2]
      refine xc_p (st := (false, K n) :: r) (true, F n) rfl s1 (by show r.length + 1 < 128; omega) fun ap2 s2 => ?_
      exact h ap2 a_canon s2 ho
    · rw [if_neg z] at h
      rw [show cn_em K n = [K n] from if_neg (by omega)] at h ho2
      have ho2' : o.length + 1 ≤ 64 := ho2
      exact xc_e kk ho (by omega) fun ac hac => h a_postponed ac hs hac
