/-! the relation, and the methods that only read or set -/
def rl_txt (f g : Int32) (a b : Nat → Int32) : Prop := ∃ t, t ≤ 32 ∧ f = nI t ∧ g = nI t ∧ ∀ j, j < t → ∃ c, rp_al c ∧ a j = nI c ∧ b j = nI c
def rl_arg (L : Nat) (c l : Nat → Int32) (s : Nat) (gn : Int32) (b : Nat → Int32) : Prop := ∃ xs : List Int32, ve_L c l s xs ∧ xs.length ≤ L ∧ gn = nI xs.length ∧ ∀ i, i < xs.length → b i = xs.getD i 0
def rl_hld (fh gh fr gr fc gc : Int32) (kx fx sx tx ac ky ch na nb nc bc : Nat → Int32) : Prop :=
  (fh = 0 ∧ gh = 0 ∧ fc = 0) ∨ (fh = 1 ∧ gh = 1 ∧ ∃ (N q0 : Nat) (K F S T C A D : Nat → Nat) (o : List Nat), pe_ok N q0 K F S T C A D o ∧ tr_X N K F S T kx fx sx tx ∧ tr_Y N K F S T ky ch na nb nc ∧ fr = nI q0 ∧ gr = nI q0 ∧ fc = nI o.length ∧ gc = nI o.length ∧ cn_O ac o ∧ cn_O bc o)
def i_Rel (_ : Nat) (u : SX) (v : SY) : Prop :=
  match u, v with
  | (f_vectorLimit, f_textCount, f_trainHeld, f_rootNode, f_nodeCount, f_wordCount, f_groupFirst, f_atopWaiting, f_groupCount, f_adverbCount, f_canonCount, f_postponedCount, f_frameCount, f_failure, f_lastStatus, a_text, a_nodeKind, a_nodeFirst, a_nodeSecond, a_nodeThird, a_words, a_outerFirst, a_outerAtop, a_canon, a_postponed, a_cells, a_lengths, a_frameNode, a_frameDyadic, a_frameX, a_frameY, a_framePhase), (g_lim, g_tlen, g_held, g_root, g_clen, g_xn, g_yn, g_rn, g_stat, g_nn, g_wsp, g_depth, g_sp, g_err, b_text, b_canon, b_xs, b_ys, b_res, b_kind, b_nch, b_na, b_nb, b_nc, b_ws, b_fb, b_pend, b_cst, b_fnode, b_fmode, b_fph, b_fi, b_vec, b_vlen) =>
    ∃ L, 1 ≤ L ∧ L ≤ 16 ∧ f_vectorLimit = nI L ∧ g_lim = nI L ∧ rl_txt f_textCount g_tlen a_text b_text ∧ rl_arg L a_cells a_lengths 0 g_xn b_xs ∧ rl_arg L a_cells a_lengths 1 g_yn b_ys ∧ rl_arg 16 a_cells a_lengths 2 g_rn b_res ∧ f_lastStatus = g_stat ∧
      rl_hld f_trainHeld g_held f_rootNode g_root f_canonCount g_clen a_nodeKind a_nodeFirst a_nodeSecond a_nodeThird a_canon b_kind b_nch b_na b_nb b_nc b_canon
theorem i_up {k : Nat} {u : SX} {v : SY} (h : i_Rel k u v) : i_Rel (k + 3) u v := h
theorem rl_z : ve_L (fun _ => 0) (fun _ => 0) 0 [] ∧ ve_L (fun _ => 0) (fun _ => 0) 1 [] ∧ ve_L (fun _ => 0) (fun _ => 0) 2 [] :=
  ⟨⟨by decide, rfl, fun i hi => absurd hi (Nat.not_lt_zero _)⟩, ⟨by decide, rfl, fun i hi => absurd hi (Nat.not_lt_zero _)⟩, ⟨by decide, rfl, fun i hi => absurd hi (Nat.not_lt_zero _)⟩⟩
theorem i_v0 {L : Nat} (h1 : 1 ≤ L) (h2 : L ≤ 16) : i_Rel 1 (nI L, 0, 0, 0, 0, 0, 0, 0, 0, 0, 0, 0, 0, 0, 6, (fun _ => 0), (fun _ => 0), (fun _ => 0), (fun _ => 0), (fun _ => 0), (fun _ => 0), (fun _ => 0), (fun _ => 0), (fun _ => 0), (fun _ => 0), (fun _ => 0), (fun _ => 0), (fun _ => 0), (fun _ => 0), (fun _ => 0), (fun _ => 0), (fun _ => 0))
    (nI L, 0, 0, 0, 0, 0, 0, 0, 6, 0, 0, 0, 0, 0, (fun _ => 0), (fun _ => 0), (fun _ => 0), (fun _ => 0), (fun _ => 0), (fun _ => 0), (fun _ => 0), (fun _ => 0), (fun _ => 0), (fun _ => 0), (fun _ => 0), (fun _ => 0), (fun _ => 0), (fun _ => 0), (fun _ => 0), (fun _ => 0), (fun _ => 0), (fun _ => 0), (fun _ => 0), (fun _ => 0)) :=
  ⟨L, h1, h2, rfl, rfl, ⟨0, by decide, rfl, rfl, fun j hj => absurd hj (Nat.not_lt_zero _)⟩, ⟨[], rl_z.1, Nat.zero_le _, rfl, fun i hi => absurd hi (Nat.not_lt_zero _)⟩, ⟨[], rl_z.2.1, Nat.zero_le _, rfl, fun i hi => absurd hi (Nat.not_lt_zero _)⟩, ⟨[], rl_z.2.2, Nat.zero_le _, rfl, fun i hi => absurd hi (Nat.not_lt_zero _)⟩, rfl, Or.inl ⟨rfl, rfl, rfl⟩⟩
theorem i_vc0 (k0 : Int32) : wpX_init (fun u => wpY_init (fun v => i_Rel 1 u v) k0) k0 := by
  by_cases a : 1 ≤ k0
  · by_cases b : k0 ≤ 16
    · obtain ⟨j, hj, rfl⟩ := nI_of2 (M := 16) (n := 16) (by decide) (Int32.not_lt.mpr (Int32.le_trans (by decide : (0 : Int32) ≤ 1) a)) b
      have h1 : 1 ≤ j := by
        have := (nI_leI (a := 1) (b := j) (by decide) (by omega)).mp a
        exact this
      exact br_t a (br_t b (br_t a (br_t b (i_v0 h1 hj))))
    · exact br_t a (br_f b (br_t a (br_f b (i_v0 (L := 16) (by decide) (by decide)))))
  · exact br_f a (br_f a (i_v0 (L := 1) (by decide) (by decide)))
theorem i_vc_limit {k : Nat} {u : SX} {v : SY} (I : i_Rel k u v) (hk : k + 3 ≤ 1537) : wpX_limit (fun r => wpY_limit (fun r' => r' = r ∧ i_Rel (k + 3) u v) v) u := by
  obtain ⟨f_vectorLimit, f_textCount, f_trainHeld, f_rootNode, f_nodeCount, f_wordCount, f_groupFirst, f_atopWaiting, f_groupCount, f_adverbCount, f_canonCount, f_postponedCount, f_frameCount, f_failure, f_lastStatus, a_text, a_nodeKind, a_nodeFirst, a_nodeSecond, a_nodeThird, a_words, a_outerFirst, a_outerAtop, a_canon, a_postponed, a_cells, a_lengths, a_frameNode, a_frameDyadic, a_frameX, a_frameY, a_framePhase⟩ := u
  obtain ⟨g_lim, g_tlen, g_held, g_root, g_clen, g_xn, g_yn, g_rn, g_stat, g_nn, g_wsp, g_depth, g_sp, g_err, b_text, b_canon, b_xs, b_ys, b_res, b_kind, b_nch, b_na, b_nb, b_nc, b_ws, b_fb, b_pend, b_cst, b_fnode, b_fmode, b_fph, b_fi, b_vec, b_vlen⟩ := v
  have II := I
  obtain ⟨L, l1, l2, rfl, rfl, htx, hax, hay, hrs, hst, hh⟩ := I
  exact ⟨rfl, II⟩
theorem i_vc_textLength {k : Nat} {u : SX} {v : SY} (I : i_Rel k u v) (hk : k + 3 ≤ 1537) : wpX_textLength (fun r => wpY_textLength (fun r' => r' = r ∧ i_Rel (k + 3) u v) v) u := by
  obtain ⟨f_vectorLimit, f_textCount, f_trainHeld, f_rootNode, f_nodeCount, f_wordCount, f_groupFirst, f_atopWaiting, f_groupCount, f_adverbCount, f_canonCount, f_postponedCount, f_frameCount, f_failure, f_lastStatus, a_text, a_nodeKind, a_nodeFirst, a_nodeSecond, a_nodeThird, a_words, a_outerFirst, a_outerAtop, a_canon, a_postponed, a_cells, a_lengths, a_frameNode, a_frameDyadic, a_frameX, a_frameY, a_framePhase⟩ := u
  obtain ⟨g_lim, g_tlen, g_held, g_root, g_clen, g_xn, g_yn, g_rn, g_stat, g_nn, g_wsp, g_depth, g_sp, g_err, b_text, b_canon, b_xs, b_ys, b_res, b_kind, b_nch, b_na, b_nb, b_nc, b_ws, b_fb, b_pend, b_cst, b_fnode, b_fmode, b_fph, b_fi, b_vec, b_vlen⟩ := v
  have II := I
  obtain ⟨L, l1, l2, rfl, rfl, htx, hax, hay, hrs, hst, hh⟩ := I
  obtain ⟨t, t1, rfl, rfl, t4⟩ := htx
  exact ⟨rfl, II⟩
theorem i_vc_status {k : Nat} {u : SX} {v : SY} (I : i_Rel k u v) (hk : k + 3 ≤ 1537) : wpX_status (fun r => wpY_status (fun r' => r' = r ∧ i_Rel (k + 3) u v) v) u := by
  obtain ⟨f_vectorLimit, f_textCount, f_trainHeld, f_rootNode, f_nodeCount, f_wordCount, f_groupFirst, f_atopWaiting, f_groupCount, f_adverbCount, f_canonCount, f_postponedCount, f_frameCount, f_failure, f_lastStatus, a_text, a_nodeKind, a_nodeFirst, a_nodeSecond, a_nodeThird, a_words, a_outerFirst, a_outerAtop, a_canon, a_postponed, a_cells, a_lengths, a_frameNode, a_frameDyadic, a_frameX, a_frameY, a_framePhase⟩ := u
  obtain ⟨g_lim, g_tlen, g_held, g_root, g_clen, g_xn, g_yn, g_rn, g_stat, g_nn, g_wsp, g_depth, g_sp, g_err, b_text, b_canon, b_xs, b_ys, b_res, b_kind, b_nch, b_na, b_nb, b_nc, b_ws, b_fb, b_pend, b_cst, b_fnode, b_fmode, b_fph, b_fi, b_vec, b_vlen⟩ := v
  have II := I
  obtain ⟨L, l1, l2, rfl, rfl, htx, hax, hay, hrs, hst, hh⟩ := I
  exact ⟨hst.symm, II⟩
theorem i_vc_hasTrain {k : Nat} {u : SX} {v : SY} (I : i_Rel k u v) (hk : k + 3 ≤ 1537) : wpX_hasTrain (fun r => wpY_hasTrain (fun r' => r' = r ∧ i_Rel (k + 3) u v) v) u := by
  obtain ⟨f_vectorLimit, f_textCount, f_trainHeld, f_rootNode, f_nodeCount, f_wordCount, f_groupFirst, f_atopWaiting, f_groupCount, f_adverbCount, f_canonCount, f_postponedCount, f_frameCount, f_failure, f_lastStatus, a_text, a_nodeKind, a_nodeFirst, a_nodeSecond, a_nodeThird, a_words, a_outerFirst, a_outerAtop, a_canon, a_postponed, a_cells, a_lengths, a_frameNode, a_frameDyadic, a_frameX, a_frameY, a_framePhase⟩ := u
  obtain ⟨g_lim, g_tlen, g_held, g_root, g_clen, g_xn, g_yn, g_rn, g_stat, g_nn, g_wsp, g_depth, g_sp, g_err, b_text, b_canon, b_xs, b_ys, b_res, b_kind, b_nch, b_na, b_nb, b_nc, b_ws, b_fb, b_pend, b_cst, b_fnode, b_fmode, b_fph, b_fi, b_vec, b_vlen⟩ := v
  have II := I
  obtain ⟨L, l1, l2, rfl, rfl, htx, hax, hay, hrs, hst, hh⟩ := I
  rcases hh with ⟨rfl, rfl, -⟩ | ⟨rfl, rfl, -⟩
  · exact ⟨rfl, rfl, rfl, II⟩
  · exact ⟨rfl, rfl, rfl, II⟩
theorem i_vc_canonLength {k : Nat} {u : SX} {v : SY} (I : i_Rel k u v) (hk : k + 3 ≤ 1537) : wpX_canonLength (fun r => wpY_canonLength (fun r' => r' = r ∧ i_Rel (k + 3) u v) v) u := by
  obtain ⟨f_vectorLimit, f_textCount, f_trainHeld, f_rootNode, f_nodeCount, f_wordCount, f_groupFirst, f_atopWaiting, f_groupCount, f_adverbCount, f_canonCount, f_postponedCount, f_frameCount, f_failure, f_lastStatus, a_text, a_nodeKind, a_nodeFirst, a_nodeSecond, a_nodeThird, a_words, a_outerFirst, a_outerAtop, a_canon, a_postponed, a_cells, a_lengths, a_frameNode, a_frameDyadic, a_frameX, a_frameY, a_framePhase⟩ := u
  obtain ⟨g_lim, g_tlen, g_held, g_root, g_clen, g_xn, g_yn, g_rn, g_stat, g_nn, g_wsp, g_depth, g_sp, g_err, b_text, b_canon, b_xs, b_ys, b_res, b_kind, b_nch, b_na, b_nb, b_nc, b_ws, b_fb, b_pend, b_cst, b_fnode, b_fmode, b_fph, b_fi, b_vec, b_vlen⟩ := v
  have II := I
  obtain ⟨L, l1, l2, rfl, rfl, htx, hax, hay, hrs, hst, hh⟩ := I
  rcases hh with ⟨rfl, rfl, rfl⟩ | ⟨rfl, rfl, N, q0, K, F, S, T, C, A, D, o, h1, h2, h3, h4, h5, rfl, rfl, h8, h9⟩
  · exact br_t rfl ⟨rfl, II⟩
  · exact br_f (by decide) ⟨rfl, II⟩
theorem i_vc_canonChar {k : Nat} {u : SX} {v : SY} (I : i_Rel k u v) (hk : k + 3 ≤ 1537) (v1 : Int32) : wpX_canonChar (fun r => wpY_canonChar (fun r' => r' = r ∧ i_Rel (k + 3) u v) v v1) u v1 := by
  obtain ⟨f_vectorLimit, f_textCount, f_trainHeld, f_rootNode, f_nodeCount, f_wordCount, f_groupFirst, f_atopWaiting, f_groupCount, f_adverbCount, f_canonCount, f_postponedCount, f_frameCount, f_failure, f_lastStatus, a_text, a_nodeKind, a_nodeFirst, a_nodeSecond, a_nodeThird, a_words, a_outerFirst, a_outerAtop, a_canon, a_postponed, a_cells, a_lengths, a_frameNode, a_frameDyadic, a_frameX, a_frameY, a_framePhase⟩ := u
  obtain ⟨g_lim, g_tlen, g_held, g_root, g_clen, g_xn, g_yn, g_rn, g_stat, g_nn, g_wsp, g_depth, g_sp, g_err, b_text, b_canon, b_xs, b_ys, b_res, b_kind, b_nch, b_na, b_nb, b_nc, b_ws, b_fb, b_pend, b_cst, b_fnode, b_fmode, b_fph, b_fi, b_vec, b_vlen⟩ := v
  have II := I
  obtain ⟨L, l1, l2, rfl, rfl, htx, hax, hay, hrs, hst, hh⟩ := I
  rcases hh with ⟨rfl, rfl, rfl⟩ | ⟨rfl, rfl, N, q0, K, F, S, T, C, A, D, o, h1, h2, h3, h4, h5, rfl, rfl, h8, h9⟩
  · exact br_c (fun z => br_t rfl ⟨rfl, II⟩) (fun z => br_f z (br_t rfl ⟨rfl, II⟩))
  · have o64 := h1.2.2.2.2.2.1
    by_cases z : v1 < 0
    · exact br_t z (br_f (by decide) (br_t z ⟨rfl, II⟩))
    · obtain ⟨j, hj, rfl⟩ := nI_of z
      refine br_f z (pk_lt j o.length (fun q => ?_) (fun q => ?_))
      · have e1 : (nI j).toNatClampNeg = j := nI_clamp hj
        have c1 := h1.2.2.2.2.2.2 j q
        have nr : narrow .char (.int (nI (o.getD j 0))) = .int (nI (o.getD j 0)) := (pk_charN (by omega)).1
        have x1 : a_canon (nI j).toNatClampNeg = nI (o.getD j 0) := by rw [e1]; exact h8 j q
        have y1 : b_canon (nI j).toNatClampNeg = nI (o.getD j 0) := by rw [e1]; exact h9 j q
        refine ⟨vp_in_nI (by omega) (by omega), by rw [x1]; exact nr, ?_⟩
        exact br_f (by decide) (br_f z (br_t (nI_lt q (by omega)) ⟨vp_in_nI (by omega) (by omega), by rw [y1]; exact nr, y1.trans x1.symm, II⟩))
      · exact br_f (by decide) (br_f z (br_f (nI_nlt q hj) ⟨rfl, II⟩))
theorem i_vc_argLength {k : Nat} {u : SX} {v : SY} (I : i_Rel k u v) (hk : k + 3 ≤ 1537) (v1 : Int32) : wpX_argLength (fun r => wpY_argLength (fun r' => r' = r ∧ i_Rel (k + 3) u v) v v1) u v1 := by
  obtain ⟨f_vectorLimit, f_textCount, f_trainHeld, f_rootNode, f_nodeCount, f_wordCount, f_groupFirst, f_atopWaiting, f_groupCount, f_adverbCount, f_canonCount, f_postponedCount, f_frameCount, f_failure, f_lastStatus, a_text, a_nodeKind, a_nodeFirst, a_nodeSecond, a_nodeThird, a_words, a_outerFirst, a_outerAtop, a_canon, a_postponed, a_cells, a_lengths, a_frameNode, a_frameDyadic, a_frameX, a_frameY, a_framePhase⟩ := u
  obtain ⟨g_lim, g_tlen, g_held, g_root, g_clen, g_xn, g_yn, g_rn, g_stat, g_nn, g_wsp, g_depth, g_sp, g_err, b_text, b_canon, b_xs, b_ys, b_res, b_kind, b_nch, b_na, b_nb, b_nc, b_ws, b_fb, b_pend, b_cst, b_fnode, b_fmode, b_fph, b_fi, b_vec, b_vlen⟩ := v
  have II := I
  obtain ⟨L, l1, l2, rfl, rfl, htx, hax, hay, hrs, hst, hh⟩ := I
  obtain ⟨ax, x1, x2, x3, x4⟩ := hax
  obtain ⟨ay, y1, y2, y3, y4⟩ := hay
  by_cases a : v1 = 0
  · subst a
    exact br_t rfl ⟨vp_in_iff.mpr (by decide), br_t rfl ⟨x3.trans x1.2.1.symm, II⟩⟩
  · by_cases b : v1 = 1
    · subst b
      exact br_f a (br_t rfl ⟨vp_in_iff.mpr (by decide), br_f a (br_t rfl ⟨y3.trans y1.2.1.symm, II⟩)⟩)
    · exact br_f a (br_f b (br_f a (br_f b ⟨rfl, II⟩)))
theorem i_vc_resultLength {k : Nat} {u : SX} {v : SY} (I : i_Rel k u v) (hk : k + 3 ≤ 1537) : wpX_resultLength (fun r => wpY_resultLength (fun r' => r' = r ∧ i_Rel (k + 3) u v) v) u := by
  obtain ⟨f_vectorLimit, f_textCount, f_trainHeld, f_rootNode, f_nodeCount, f_wordCount, f_groupFirst, f_atopWaiting, f_groupCount, f_adverbCount, f_canonCount, f_postponedCount, f_frameCount, f_failure, f_lastStatus, a_text, a_nodeKind, a_nodeFirst, a_nodeSecond, a_nodeThird, a_words, a_outerFirst, a_outerAtop, a_canon, a_postponed, a_cells, a_lengths, a_frameNode, a_frameDyadic, a_frameX, a_frameY, a_framePhase⟩ := u
  obtain ⟨g_lim, g_tlen, g_held, g_root, g_clen, g_xn, g_yn, g_rn, g_stat, g_nn, g_wsp, g_depth, g_sp, g_err, b_text, b_canon, b_xs, b_ys, b_res, b_kind, b_nch, b_na, b_nb, b_nc, b_ws, b_fb, b_pend, b_cst, b_fnode, b_fmode, b_fph, b_fi, b_vec, b_vlen⟩ := v
  have II := I
  obtain ⟨L, l1, l2, rfl, rfl, htx, hax, hay, hrs, hst, hh⟩ := I
  obtain ⟨rs, r1, r2, r3, r4⟩ := hrs
  exact ⟨r3.trans r1.2.1.symm, II⟩
theorem i_vc_resultAt {k : Nat} {u : SX} {v : SY} (I : i_Rel k u v) (hk : k + 3 ≤ 1537) (v1 : Int32) : wpX_resultAt (fun r => wpY_resultAt (fun r' => r' = r ∧ i_Rel (k + 3) u v) v v1) u v1 := by
  obtain ⟨f_vectorLimit, f_textCount, f_trainHeld, f_rootNode, f_nodeCount, f_wordCount, f_groupFirst, f_atopWaiting, f_groupCount, f_adverbCount, f_canonCount, f_postponedCount, f_frameCount, f_failure, f_lastStatus, a_text, a_nodeKind, a_nodeFirst, a_nodeSecond, a_nodeThird, a_words, a_outerFirst, a_outerAtop, a_canon, a_postponed, a_cells, a_lengths, a_frameNode, a_frameDyadic, a_frameX, a_frameY, a_framePhase⟩ := u
  obtain ⟨g_lim, g_tlen, g_held, g_root, g_clen, g_xn, g_yn, g_rn, g_stat, g_nn, g_wsp, g_depth, g_sp, g_err, b_text, b_canon, b_xs, b_ys, b_res, b_kind, b_nch, b_na, b_nb, b_nc, b_ws, b_fb, b_pend, b_cst, b_fnode, b_fmode, b_fph, b_fi, b_vec, b_vlen⟩ := v
  have II := I
  obtain ⟨L, l1, l2, rfl, rfl, htx, hax, hay, hrs, hst, hh⟩ := I
  obtain ⟨rs, r1, r2, r3, r4⟩ := hrs
  have l2e := r1.2.1
  by_cases z : v1 < 0
  · exact br_t z (br_t z ⟨rfl, II⟩)
  · obtain ⟨j, hj, rfl⟩ := nI_of z
    refine br_f z ?_
    rw [l2e]
    refine pk_lt j rs.length (fun q => ?_) (fun q => ?_)
    · have e1 : (nI j).toNatClampNeg = j := nI_clamp hj
      have e2 : (32 : Int32) + nI j = nI (32 + j) := nI_add 32 j
      have e3 : (nI (32 + j)).toNatClampNeg = 32 + j := nI_clamp (by omega)
      rw [e2, e3]
      refine ⟨vp_in_nI (by omega) (by omega), br_f z (br_t (by rw [r3]; exact nI_lt q (by omega)) ⟨vp_in_nI (by omega) (by omega), ?_, II⟩)⟩
      rw [e1, r4 j q]
      exact (r1.2.2 j q).symm
    · exact br_f z (br_f (by rw [r3]; exact nI_nlt q hj) ⟨rfl, II⟩)
theorem i_vc_clearArgs {k : Nat} {u : SX} {v : SY} (I : i_Rel k u v) (hk : k + 3 ≤ 1537) : wpX_clearArgs (fun u' => wpY_clearArgs (fun v' => i_Rel (k + 3) u' v') v) u := by
  obtain ⟨f_vectorLimit, f_textCount, f_trainHeld, f_rootNode, f_nodeCount, f_wordCount, f_groupFirst, f_atopWaiting, f_groupCount, f_adverbCount, f_canonCount, f_postponedCount, f_frameCount, f_failure, f_lastStatus, a_text, a_nodeKind, a_nodeFirst, a_nodeSecond, a_nodeThird, a_words, a_outerFirst, a_outerAtop, a_canon, a_postponed, a_cells, a_lengths, a_frameNode, a_frameDyadic, a_frameX, a_frameY, a_framePhase⟩ := u
  obtain ⟨g_lim, g_tlen, g_held, g_root, g_clen, g_xn, g_yn, g_rn, g_stat, g_nn, g_wsp, g_depth, g_sp, g_err, b_text, b_canon, b_xs, b_ys, b_res, b_kind, b_nch, b_na, b_nb, b_nc, b_ws, b_fb, b_pend, b_cst, b_fnode, b_fmode, b_fph, b_fi, b_vec, b_vlen⟩ := v
  obtain ⟨L, l1, l2, rfl, rfl, htx, hax, hay, hrs, hst, hh⟩ := I
  obtain ⟨rs, r1, r2, r3, r4⟩ := hrs
  refine nm_e (nm_e ⟨L, l1, l2, rfl, rfl, htx, ⟨[], ve_o ve_Fl (by decide) ve_nil, Nat.zero_le _, rfl, fun i hi => absurd hi (Nat.not_lt_zero _)⟩, ⟨[], ve_nil, Nat.zero_le _, rfl, fun i hi => absurd hi (Nat.not_lt_zero _)⟩, ⟨rs, ve_o ve_Fl (by decide) (ve_o ve_Fl (by decide) r1), r2, r3, r4⟩, hst, hh⟩)
theorem i_vc_clearText {k : Nat} {u : SX} {v : SY} (I : i_Rel k u v) (hk : k + 3 ≤ 1537) : wpX_clearText (fun u' => wpY_clearText (fun v' => i_Rel (k + 3) u' v') v) u := by
  obtain ⟨f_vectorLimit, f_textCount, f_trainHeld, f_rootNode, f_nodeCount, f_wordCount, f_groupFirst, f_atopWaiting, f_groupCount, f_adverbCount, f_canonCount, f_postponedCount, f_frameCount, f_failure, f_lastStatus, a_text, a_nodeKind, a_nodeFirst, a_nodeSecond, a_nodeThird, a_words, a_outerFirst, a_outerAtop, a_canon, a_postponed, a_cells, a_lengths, a_frameNode, a_frameDyadic, a_frameX, a_frameY, a_framePhase⟩ := u
  obtain ⟨g_lim, g_tlen, g_held, g_root, g_clen, g_xn, g_yn, g_rn, g_stat, g_nn, g_wsp, g_depth, g_sp, g_err, b_text, b_canon, b_xs, b_ys, b_res, b_kind, b_nch, b_na, b_nb, b_nc, b_ws, b_fb, b_pend, b_cst, b_fnode, b_fmode, b_fph, b_fi, b_vec, b_vlen⟩ := v
  obtain ⟨L, l1, l2, rfl, rfl, htx, hax, hay, hrs, hst, hh⟩ := I
  exact ⟨L, l1, l2, rfl, rfl, ⟨0, by decide, rfl, rfl, fun j hj => absurd hj (Nat.not_lt_zero _)⟩, hax, hay, hrs, hst, Or.inl ⟨rfl, rfl, rfl⟩⟩
