/-! nodes, primaries and trains on both sides -/
theorem xn_node {f_vectorLimit f_textCount f_trainHeld f_rootNode f_wordCount f_groupFirst f_atopWaiting f_groupCount f_adverbCount f_canonCount f_postponedCount f_frameCount f_failure f_lastStatus : Int32} {a_text a_nodeKind a_nodeFirst a_nodeSecond a_nodeThird a_words a_outerFirst a_outerAtop a_canon a_postponed a_cells a_lengths a_frameNode a_frameDyadic a_frameX a_frameY a_framePhase : Nat → Int32} {post : Int32 → SX → Prop} {N k a b c : Nat} (hN : N < 64)
    (h : post (nI N) (f_vectorLimit, f_textCount, f_trainHeld, f_rootNode, nI (N + 1), f_wordCount, f_groupFirst, f_atopWaiting, f_groupCount, f_adverbCount, f_canonCount, f_postponedCount, f_frameCount, f_failure, f_lastStatus, a_text, upd a_nodeKind N (nI k), upd a_nodeFirst N (nI a), upd a_nodeSecond N (nI b), upd a_nodeThird N (nI c), a_words, a_outerFirst, a_outerAtop, a_canon, a_postponed, a_cells, a_lengths, a_frameNode, a_frameDyadic, a_frameX, a_frameY, a_framePhase)) :
    wpX_makeNode post (f_vectorLimit, f_textCount, f_trainHeld, f_rootNode, nI N, f_wordCount, f_groupFirst, f_atopWaiting, f_groupCount, f_adverbCount, f_canonCount, f_postponedCount, f_frameCount, f_failure, f_lastStatus, a_text, a_nodeKind, a_nodeFirst, a_nodeSecond, a_nodeThird, a_words, a_outerFirst, a_outerAtop, a_canon, a_postponed, a_cells, a_lengths, a_frameNode, a_frameDyadic, a_frameX, a_frameY, a_framePhase) (nI k) (nI a) (nI b) (nI c) := by
  have e1 : (nI N).toNatClampNeg = N := nI_clamp (by omega)
  have i1 : vp_in (nI N) 64 := vp_in_nI hN (by omega)
  simp only [wpX_makeNode, e1, nI_1, forall_eq]
  exact ⟨i1, i1, i1, i1, h⟩
theorem yn_node {g_lim g_tlen g_held g_root g_clen g_xn g_yn g_rn g_stat g_wsp g_depth g_sp g_err : Int32} {b_text b_canon b_xs b_ys b_res b_kind b_nch b_na b_nb b_nc b_ws b_fb b_pend b_cst b_fnode b_fmode b_fph b_fi b_vec b_vlen : Nat → Int32} {post : Int32 → SY → Prop} {N k ch a b c : Nat} (hN : N < 128) (hc : ch < 65536)
    (h : post (nI N) (g_lim, g_tlen, g_held, g_root, g_clen, g_xn, g_yn, g_rn, g_stat, nI (N + 1), g_wsp, g_depth, g_sp, g_err, b_text, b_canon, b_xs, b_ys, b_res, upd b_kind N (nI k), upd b_nch N (nI ch), upd b_na N (nI a), upd b_nb N (nI b), upd b_nc N (nI c), b_ws, b_fb, b_pend, b_cst, b_fnode, b_fmode, b_fph, b_fi, b_vec, b_vlen)) :
    wpY_newNode post (g_lim, g_tlen, g_held, g_root, g_clen, g_xn, g_yn, g_rn, g_stat, nI N, g_wsp, g_depth, g_sp, g_err, b_text, b_canon, b_xs, b_ys, b_res, b_kind, b_nch, b_na, b_nb, b_nc, b_ws, b_fb, b_pend, b_cst, b_fnode, b_fmode, b_fph, b_fi, b_vec, b_vlen) (nI k) (nI ch) (nI a) (nI b) (nI c) := by
  have e1 : (nI N).toNatClampNeg = N := nI_clamp (by omega)
  have i1 : vp_in (nI N) 128 := vp_in_nI hN (by omega)
  have l1 : nI N < 128 := nI_lt (b := 128) hN (by decide)
  refine br_t l1 ?_
  simp only [e1, nI_1, forall_eq, ax_nc hc, nI_pred]
  exact ⟨i1, i1, i1, i1, i1, h⟩
theorem xn_plain {f_vectorLimit f_textCount f_trainHeld f_rootNode f_nodeCount f_groupFirst f_groupCount f_adverbCount f_canonCount f_postponedCount f_frameCount f_failure f_lastStatus : Int32} {a_text a_nodeKind a_nodeFirst a_nodeSecond a_nodeThird a_words a_outerFirst a_outerAtop a_canon a_postponed a_cells a_lengths a_frameNode a_frameDyadic a_frameX a_frameY a_framePhase : Nat → Int32} {post : SX → Prop} {wc p : Nat} (hw : wc < 32)
    (h : post (f_vectorLimit, f_textCount, f_trainHeld, f_rootNode, f_nodeCount, nI (wc + 1), f_groupFirst, 0, f_groupCount, f_adverbCount, f_canonCount, f_postponedCount, f_frameCount, f_failure, f_lastStatus, a_text, a_nodeKind, a_nodeFirst, a_nodeSecond, a_nodeThird, upd a_words wc (nI p), a_outerFirst, a_outerAtop, a_canon, a_postponed, a_cells, a_lengths, a_frameNode, a_frameDyadic, a_frameX, a_frameY, a_framePhase)) : wpX_addPrimary post (f_vectorLimit, f_textCount, f_trainHeld, f_rootNode, f_nodeCount, nI wc, f_groupFirst, 0, f_groupCount, f_adverbCount, f_canonCount, f_postponedCount, f_frameCount, f_failure, f_lastStatus, a_text, a_nodeKind, a_nodeFirst, a_nodeSecond, a_nodeThird, a_words, a_outerFirst, a_outerAtop, a_canon, a_postponed, a_cells, a_lengths, a_frameNode, a_frameDyadic, a_frameX, a_frameY, a_framePhase) (nI p) := by
  have e1 : (nI wc).toNatClampNeg = wc := nI_clamp (by omega)
  exact br_t rfl ⟨vp_in_nI hw (by omega), nm_r (e' := upd a_words wc (nI p)) (by rw [e1]) (nm_r (nI_1 _) h)⟩
theorem xn_atop {f_vectorLimit f_textCount f_trainHeld f_rootNode f_groupFirst f_groupCount f_adverbCount f_canonCount f_postponedCount f_frameCount f_failure f_lastStatus : Int32} {a_text a_nodeKind a_nodeFirst a_nodeSecond a_nodeThird a_words a_outerFirst a_outerAtop a_canon a_postponed a_cells a_lengths a_frameNode a_frameDyadic a_frameX a_frameY a_framePhase : Nat → Int32} {post : SX → Prop} {N m a p : Nat} (hm : m < 32) (hN : N < 64) (ha : a_words m = nI a)
    (h : post (f_vectorLimit, f_textCount, f_trainHeld, f_rootNode, nI (N + 1), nI (m + 1), f_groupFirst, 0, f_groupCount, f_adverbCount, f_canonCount, f_postponedCount, f_frameCount, f_failure, f_lastStatus, a_text, upd a_nodeKind N (nI 64), upd a_nodeFirst N (nI a), upd a_nodeSecond N (nI p), upd a_nodeThird N (nI 0), upd a_words m (nI N), a_outerFirst, a_outerAtop, a_canon, a_postponed, a_cells, a_lengths, a_frameNode, a_frameDyadic, a_frameX, a_frameY, a_framePhase)) :
    wpX_addPrimary post (f_vectorLimit, f_textCount, f_trainHeld, f_rootNode, nI N, nI (m + 1), f_groupFirst, 1, f_groupCount, f_adverbCount, f_canonCount, f_postponedCount, f_frameCount, f_failure, f_lastStatus, a_text, a_nodeKind, a_nodeFirst, a_nodeSecond, a_nodeThird, a_words, a_outerFirst, a_outerAtop, a_canon, a_postponed, a_cells, a_lengths, a_frameNode, a_frameDyadic, a_frameX, a_frameY, a_framePhase) (nI p) := by
  have e1 : (nI m).toNatClampNeg = m := nI_clamp (by omega)
  have i1 : vp_in (nI m) 32 := vp_in_nI hm (by omega)
  refine br_f (by decide) ?_
  rw [nI_pred, e1, ha]
  refine ⟨i1, ?_⟩
  exact xn_node (k := 64) (c := 0) hN ⟨i1, nm_e h⟩
theorem yn_plain {g_lim g_tlen g_held g_root g_clen g_xn g_yn g_rn g_stat g_nn g_sp g_err : Int32} {b_text b_canon b_xs b_ys b_res b_kind b_nch b_na b_nb b_nc b_ws b_fb b_pend b_cst b_fnode b_fmode b_fph b_fi b_vec b_vlen : Nat → Int32} {post : SY → Prop} {wc p G : Nat} (hw : wc < 40) (hG : G < 40) (hp : b_pend G = 0)
    (h : post (g_lim, g_tlen, g_held, g_root, g_clen, g_xn, g_yn, g_rn, g_stat, g_nn, nI (wc + 1), nI G, g_sp, g_err, b_text, b_canon, b_xs, b_ys, b_res, b_kind, b_nch, b_na, b_nb, b_nc, upd b_ws wc (nI p), b_fb, b_pend, b_cst, b_fnode, b_fmode, b_fph, b_fi, b_vec, b_vlen)) : wpY_deliver post (g_lim, g_tlen, g_held, g_root, g_clen, g_xn, g_yn, g_rn, g_stat, g_nn, nI wc, nI G, g_sp, g_err, b_text, b_canon, b_xs, b_ys, b_res, b_kind, b_nch, b_na, b_nb, b_nc, b_ws, b_fb, b_pend, b_cst, b_fnode, b_fmode, b_fph, b_fi, b_vec, b_vlen) (nI p) := by
  have e1 : (nI wc).toNatClampNeg = wc := nI_clamp (by omega)
  have e2 : (nI G).toNatClampNeg = G := nI_clamp (by omega)
  refine ⟨vp_in_nI hG (by omega), br_t (by rw [e2]; exact hp) ?_⟩
  unfold wY_deliver_65
  exact br_f (nI_ge (b := 40) hw (by decide)) ⟨vp_in_nI hw (by omega), nm_r (e' := upd b_ws wc (nI p)) (by rw [e1]) (nm_r (nI_1 _) h)⟩
theorem ax_nb0 : vp_nar .boolean 0 = 0 := rfl
theorem ax_nb1 : vp_nar .boolean 1 = 1 := rfl
theorem yn_atop {g_lim g_tlen g_held g_root g_clen g_xn g_yn g_rn g_stat g_sp g_err : Int32} {b_text b_canon b_xs b_ys b_res b_kind b_nch b_na b_nb b_nc b_ws b_fb b_pend b_cst b_fnode b_fmode b_fph b_fi b_vec b_vlen : Nat → Int32} {post : SY → Prop} {N m a p G : Nat} (hm : m < 40) (hG : G < 40) (hN : N < 128) (hp : b_pend G = 1) (ha : b_ws m = nI a)
    (h : post (g_lim, g_tlen, g_held, g_root, g_clen, g_xn, g_yn, g_rn, g_stat, nI (N + 1), nI (m + 1), nI G, g_sp, g_err, b_text, b_canon, b_xs, b_ys, b_res, upd b_kind N (nI 2), upd b_nch N (nI 64), upd b_na N (nI a), upd b_nb N (nI p), upd b_nc N (nI 0), upd b_ws m (nI N), b_fb, upd b_pend G 0, b_cst, b_fnode, b_fmode, b_fph, b_fi, b_vec, b_vlen)) :
    wpY_deliver post (g_lim, g_tlen, g_held, g_root, g_clen, g_xn, g_yn, g_rn, g_stat, nI N, nI (m + 1), nI G, g_sp, g_err, b_text, b_canon, b_xs, b_ys, b_res, b_kind, b_nch, b_na, b_nb, b_nc, b_ws, b_fb, b_pend, b_cst, b_fnode, b_fmode, b_fph, b_fi, b_vec, b_vlen) (nI p) := by
  have e1 : (nI m).toNatClampNeg = m := nI_clamp (by omega)
  have e2 : (nI G).toNatClampNeg = G := nI_clamp (by omega)
  have i1 : vp_in (nI m) 40 := vp_in_nI hm (by omega)
  have i2 : vp_in (nI G) 40 := vp_in_nI hG (by omega)
  refine ⟨i2, br_f (by rw [e2, hp]; decide) (br_f (nI_nle (by omega) (by omega)) ?_)⟩
  rw [nI_pred, e1]
  refine ⟨i1, nm_r (e' := nI a) ha ?_⟩
  refine yn_node (k := 2) (ch := 64) (c := 0) hN (by decide) ⟨i1, nm_e ⟨i2, nm_r (e' := upd b_pend G 0) (by rw [e2, ax_nb0]) h⟩⟩
theorem tx_le {m lo : Nat} (hm : m < 2 ^ 30) (hl : lo < 2 ^ 30) : nI m + (-1) ≤ nI lo ↔ m ≤ lo + 1 := by
  cases m with
  | zero =>
    constructor
    · intro _; omega
    · intro _
      rw [Int32.le_iff_toInt_le, nI_toInt (by omega), show (nI 0 + (-1)).toInt = -1 from by decide]
      omega
  | succ m =>
    rw [pk_m1, nI_leI (by omega) (by omega)]
    omega
theorem tx_eq {m lo : Nat} (hm : m < 2 ^ 30) (hl : lo < 2 ^ 30) : nI m + (-1) = nI lo ↔ m = lo + 1 := by
  cases m with
  | zero =>
    constructor
    · intro h
      have := congrArg Int32.toInt h
      rw [nI_toInt (by omega), show (nI 0 + (-1)).toInt = -1 from by decide] at this
      omega
    · intro h; omega
  | succ m =>
    rw [pk_m1, nI_eq (by omega) (by omega)]
    omega
theorem ty_lt {m lo : Nat} (hm : m < 2 ^ 30) (hl : lo < 2 ^ 30) : nI m - 2 < nI lo ↔ m < lo + 2 := by
  rw [Int32.lt_iff_toInt_lt, show (2 : Int32) = nI 2 from rfl, pk_sub_toInt hm (by omega), nI_toInt (by omega)]
  omega
theorem ty_eq {m lo : Nat} (hm : m < 2 ^ 30) (hl : lo < 2 ^ 30) : nI m - 1 = nI lo ↔ m = lo + 1 := by
  rw [Int32.sub_eq_add_neg]
  exact tx_eq hm hl
theorem tx_s2 (m : Nat) : nI (m + 2) + (-1) + (-2) = nI m + (-1) := by
  rw [show nI (m + 2) = nI m + nI 2 from (nI_add m 2).symm, show nI 2 = 2 from rfl]
  generalize nI m = z
  grind
theorem ty_s2 (m : Nat) : nI (m + 2) + (-2) = nI m := by
  rw [show nI (m + 2) = nI m + nI 2 from (nI_add m 2).symm, show nI 2 = 2 from rfl]
  generalize nI m = z
  grind
theorem tx_w2 (m : Nat) : nI (m + 1) - 2 = nI m + (-1) := by
  rw [← nI_1]
  generalize nI m = z
  grind
theorem tr_both {N0 wc lo sC sA : Nat} {W : Nat → Nat} (hb : N0 + wc ≤ 64) (hw32 : wc ≤ 32) :
    ∀ (q m e N t : Nat) (K F S T C A D : Nat → Nat), m ≤ q → rd_T N0 wc lo m e sC sA N K F S T C A D W t →
    ∃ (N' t' : Nat) (K' F' S' T' C' A' D' : Nat → Nat), rd_R N0 (wc - lo) lo sC sA N' K' F' S' T' C' A' D' W t' ∧ (∀ {f_vectorLimit f_textCount f_trainHeld f_rootNode f_wordCount f_groupFirst f_atopWaiting f_groupCount f_adverbCount f_canonCount f_postponedCount f_frameCount f_failure f_lastStatus : Int32} {a_text a_words a_outerFirst a_outerAtop a_canon a_postponed a_cells a_lengths a_frameNode a_frameDyadic a_frameX a_frameY a_framePhase : Nat → Int32} (post : Int32 → SX → Prop) (kx fx sx tx : Nat → Int32), tr_X N K F S T kx fx sx tx → (∀ j, j < m + 1 → a_words j = nI (W j)) → (∀ kx' fx' sx' tx', tr_X N' K' F' S' T' kx' fx' sx' tx' → post (nI t') (f_vectorLimit, f_textCount, f_trainHeld, f_rootNode, nI N', f_wordCount, f_groupFirst, f_atopWaiting, f_groupCount, f_adverbCount, f_canonCount, f_postponedCount, f_frameCount, f_failure, f_lastStatus, a_text, kx', fx', sx', tx', a_words, a_outerFirst, a_outerAtop, a_canon, a_postponed, a_cells, a_lengths, a_frameNode, a_frameDyadic, a_frameX, a_frameY, a_framePhase)) → ∀ n, m < n → wX_makeTrain_19 post (nI lo) n (nI t) (nI m + (-1)) f_vectorLimit f_textCount f_trainHeld f_rootNode (nI N) f_wordCount f_groupFirst f_atopWaiting f_groupCount f_adverbCount f_canonCount f_postponedCount f_frameCount f_failure f_lastStatus a_text kx fx sx tx a_words a_outerFirst a_outerAtop a_canon a_postponed a_cells a_lengths a_frameNode a_frameDyadic a_frameX a_frameY a_framePhase) ∧ (∀ {g_lim g_tlen g_held g_root g_clen g_xn g_yn g_rn g_stat g_wsp g_depth g_sp g_err : Int32} {b_text b_canon b_xs b_ys b_res b_ws b_fb b_pend b_cst b_fnode b_fmode b_fph b_fi b_vec b_vlen : Nat → Int32} (post : Int32 → SY → Prop) (ky ch na nb nc : Nat → Int32), tr_Y N K F S T ky ch na nb nc → (∀ j, j < m + 1 → b_ws j = nI (W j)) → (∀ ky' ch' na' nb' nc', tr_Y N' K' F' S' T' ky' ch' na' nb' nc' → post (nI t') (g_lim, g_tlen, g_held, g_root, g_clen, g_xn, g_yn, g_rn, g_stat, nI N', g_wsp, g_depth, g_sp, g_err, b_text, b_canon, b_xs, b_ys, b_res, ky', ch', na', nb', nc', b_ws, b_fb, b_pend, b_cst, b_fnode, b_fmode, b_fph, b_fi, b_vec, b_vlen)) → ∀ n, m < n → wY_buildTrain_15 post (nI lo) n (nI m) (nI t) (nI e) g_lim g_tlen g_held g_root g_clen g_xn g_yn g_rn g_stat (nI N) g_wsp g_depth g_sp g_err b_text b_canon b_xs b_ys b_res ky ch na nb nc b_ws b_fb b_pend b_cst b_fnode b_fmode b_fph b_fi b_vec b_vlen) := by
  intro q
  induction q with
  | zero =>
    intro m e N t K F S T C A D hq hT
    have hT' := hT
    obtain ⟨h1, h2, h3, h4, h5, h6, h7, h8, h9⟩ := hT'
    have em : m = lo := by omega
    subst em
    refine ⟨N, t, K, F, S, T, C, A, D, rd_Re hT, fun post kx fx sx tx hx hw h n hn => ?_, fun post ky ch na nb nc hy hw h n hn => ?_⟩
    · obtain ⟨n, rfl⟩ : ∃ k, n = k + 1 := ⟨n - 1, by omega⟩
      refine br_t ((tx_le (by omega) (by omega)).mpr (by omega)) (br_f (fun z => ?_) (h _ _ _ _ hx))
      have := (tx_eq (by omega) (by omega)).mp z
      omega
    · obtain ⟨n, rfl⟩ : ∃ k, n = k + 1 := ⟨n - 1, by omega⟩
      refine br_f (nI_ge (b := 32) (by omega) (by decide)) (br_t ((ty_lt (by omega) (by omega)).mpr (by omega)) ?_)
      unfold wY_buildTrain_63
      refine br_f (fun z => ?_) (h _ _ _ _ _ hy)
      have := (ty_eq (by omega) (by omega)).mp z
      omega
  | succ q ih =>
    intro m e N t K F S T C A D hq hT
    have hT' := hT
    obtain ⟨h1, h2, h3, h4, h5, h6, h7, h8, h9⟩ := hT'
    by_cases c1 : m = lo
    · subst c1
      refine ⟨N, t, K, F, S, T, C, A, D, rd_Re hT, fun post kx fx sx tx hx hw h n hn => ?_, fun post ky ch na nb nc hy hw h n hn => ?_⟩
      · obtain ⟨n, rfl⟩ : ∃ k, n = k + 1 := ⟨n - 1, by omega⟩
        refine br_t ((tx_le (by omega) (by omega)).mpr (by omega)) (br_f (fun z => ?_) (h _ _ _ _ hx))
        have := (tx_eq (by omega) (by omega)).mp z
        omega
      · obtain ⟨n, rfl⟩ : ∃ k, n = k + 1 := ⟨n - 1, by omega⟩
        refine br_f (nI_ge (b := 32) (by omega) (by decide)) (br_t ((ty_lt (by omega) (by omega)).mpr (by omega)) ?_)
        unfold wY_buildTrain_63
        refine br_f (fun z => ?_) (h _ _ _ _ _ hy)
        have := (ty_eq (by omega) (by omega)).mp z
        omega
    · by_cases c2 : m = lo + 1
      · subst c2
        have e1 : (nI lo).toNatClampNeg = lo := nI_clamp (by omega)
        refine ⟨N + 1, N, _, _, _, _, _, _, _, rd_Rh hT, fun post kx fx sx tx hx hw h n hn => ?_, fun post ky ch na nb nc hy hw h n hn => ?_⟩
        · obtain ⟨n, rfl⟩ : ∃ k, n = k + 1 := ⟨n - 1, by omega⟩
          refine br_t ((tx_le (by omega) (by omega)).mpr (by omega)) (br_t ((tx_eq (by omega) (by omega)).mpr rfl) ⟨vp_in_nI (by omega) (by omega), ?_⟩)
          rw [e1, hw lo (by omega)]
          exact xn_node (k := 2) (c := 0) (by omega) (h _ _ _ _ (tr_Xu hx 2 (W lo) t 0))
        · obtain ⟨n, rfl⟩ : ∃ k, n = k + 1 := ⟨n - 1, by omega⟩
          refine br_f (nI_ge (b := 32) (by omega) (by decide)) (br_t ((ty_lt (by omega) (by omega)).mpr (by omega)) ?_)
          unfold wY_buildTrain_63
          refine br_t ((ty_eq (by omega) (by omega)).mpr rfl) ⟨vp_in_nI (by omega) (by omega), ?_⟩
          rw [e1, hw lo (by omega)]
          exact yn_node (k := 4) (ch := 32) (c := 0) (by omega) (by decide) (h _ _ _ _ _ (tr_Yu hy 2 (W lo) t 0))
      · obtain ⟨m, rfl⟩ : ∃ k, m = k + 2 := ⟨m - 2, by omega⟩
        obtain ⟨N', t', K', F', S', T', C', A', D', hR, hX, hY⟩ := ih m (e + 1) (N + 1) N _ _ _ _ _ _ _ (by omega) (rd_Tf hT (by omega))
        refine ⟨N', t', K', F', S', T', C', A', D', hR, fun post kx fx sx tx hx hw h n hn => ?_, fun post ky ch na nb nc hy hw h n hn => ?_⟩
        · obtain ⟨n, rfl⟩ : ∃ k, n = k + 1 := ⟨n - 1, by omega⟩
          have e1 : (nI m).toNatClampNeg = m := nI_clamp (by omega)
          have e2 : (nI (m + 1)).toNatClampNeg = m + 1 := nI_clamp (by omega)
          refine br_f (fun z => ?_) ?_
          · have := (tx_le (by omega) (by omega)).mp z
            omega
          · rw [show nI (m + 2) + (-1) = nI (m + 1) from pk_m1 _, nI_pred, e1, e2, hw m (by omega), hw (m + 1) (by omega)]
            refine ⟨vp_in_nI (by omega) (by omega), vp_in_nI (by omega) (by omega), ?_⟩
            refine xn_node (k := 1) (by omega) (nm_r (e' := nI m + (-1)) (by rw [← tx_s2 m]; exact congrArg (· + (-2)) (pk_m1 (m + 1)).symm) ?_)
            exact hX post _ _ _ _ (tr_Xu hx 1 (W m) (W (m + 1)) t) (fun j hj => hw j (by omega)) h n (by omega)
        · obtain ⟨n, rfl⟩ : ∃ k, n = k + 1 := ⟨n - 1, by omega⟩
          have e1 : (nI m).toNatClampNeg = m := nI_clamp (by omega)
          have e2 : (nI (m + 1)).toNatClampNeg = m + 1 := nI_clamp (by omega)
          refine br_f (nI_ge (b := 32) (by omega) (by decide)) (br_f (fun z => ?_) (nm_r (ty_s2 m) ⟨vp_in_nI (by omega) (by omega), ?_⟩))
          · have := (ty_lt (by omega) (by omega)).mp z
            omega
          · rw [nI_1, e1, e2, hw m (by omega), hw (m + 1) (by omega)]
            refine ⟨vp_in_nI (by omega) (by omega), ?_⟩
            refine yn_node (k := 3) (ch := 32) (by omega) (by decide) (nm_r (nI_1 e) ?_)
            exact hY post _ _ _ _ _ (tr_Yu hy 1 (W m) (W (m + 1)) t) (fun j hj => hw j (by omega)) h n (by omega)
theorem tr_train {N m lo : Nat} {K F S T C A D W : Nat → Nat} (hK : tr_ok N K F S T C A D) (hw : ∀ j, j < m + 1 → W j < N) (hl : lo ≤ m) (hb : N + (m + 1) ≤ 64) (hm : m < 32) :
    ∃ (N' t' : Nat) (K' F' S' T' C' A' D' : Nat → Nat), rd_R N (m + 1 - lo) lo (tr_sm C W (m + 1)) (tr_sm A W (m + 1)) N' K' F' S' T' C' A' D' W t' ∧
      (∀ {f_vectorLimit f_textCount f_trainHeld f_rootNode f_groupFirst f_atopWaiting f_groupCount f_adverbCount f_canonCount f_postponedCount f_frameCount f_failure f_lastStatus : Int32} {a_text a_nodeKind a_nodeFirst a_nodeSecond a_nodeThird a_words a_outerFirst a_outerAtop a_canon a_postponed a_cells a_lengths a_frameNode a_frameDyadic a_frameX a_frameY a_framePhase : Nat → Int32} (post : Int32 → SX → Prop), tr_X N K F S T a_nodeKind a_nodeFirst a_nodeSecond a_nodeThird → (∀ j, j < m + 1 → a_words j = nI (W j)) → (∀ kx' fx' sx' tx', tr_X N' K' F' S' T' kx' fx' sx' tx' → post (nI t') (f_vectorLimit, f_textCount, f_trainHeld, f_rootNode, nI N', nI (m + 1), f_groupFirst, f_atopWaiting, f_groupCount, f_adverbCount, f_canonCount, f_postponedCount, f_frameCount, f_failure, f_lastStatus, a_text, kx', fx', sx', tx', a_words, a_outerFirst, a_outerAtop, a_canon, a_postponed, a_cells, a_lengths, a_frameNode, a_frameDyadic, a_frameX, a_frameY, a_framePhase)) → wpX_makeTrain post (f_vectorLimit, f_textCount, f_trainHeld, f_rootNode, nI N, nI (m + 1), f_groupFirst, f_atopWaiting, f_groupCount, f_adverbCount, f_canonCount, f_postponedCount, f_frameCount, f_failure, f_lastStatus, a_text, a_nodeKind, a_nodeFirst, a_nodeSecond, a_nodeThird, a_words, a_outerFirst, a_outerAtop, a_canon, a_postponed, a_cells, a_lengths, a_frameNode, a_frameDyadic, a_frameX, a_frameY, a_framePhase) (nI lo)) ∧
      (∀ {g_lim g_tlen g_held g_root g_clen g_xn g_yn g_rn g_stat g_depth g_sp g_err : Int32} {b_text b_canon b_xs b_ys b_res b_kind b_nch b_na b_nb b_nc b_ws b_fb b_pend b_cst b_fnode b_fmode b_fph b_fi b_vec b_vlen : Nat → Int32} (post : Int32 → SY → Prop), tr_Y N K F S T b_kind b_nch b_na b_nb b_nc → (∀ j, j < m + 1 → b_ws j = nI (W j)) → (∀ ky' ch' na' nb' nc', tr_Y N' K' F' S' T' ky' ch' na' nb' nc' → post (nI t') (g_lim, g_tlen, g_held, g_root, g_clen, g_xn, g_yn, g_rn, g_stat, nI N', nI (m + 1), g_depth, g_sp, g_err, b_text, b_canon, b_xs, b_ys, b_res, ky', ch', na', nb', nc', b_ws, b_fb, b_pend, b_cst, b_fnode, b_fmode, b_fph, b_fi, b_vec, b_vlen)) → wpY_buildTrain post (g_lim, g_tlen, g_held, g_root, g_clen, g_xn, g_yn, g_rn, g_stat, nI N, nI (m + 1), g_depth, g_sp, g_err, b_text, b_canon, b_xs, b_ys, b_res, b_kind, b_nch, b_na, b_nb, b_nc, b_ws, b_fb, b_pend, b_cst, b_fnode, b_fmode, b_fph, b_fi, b_vec, b_vlen) (nI lo) (nI (m + 1))) := by
  obtain ⟨N', t', K', F', S', T', C', A', D', hR, hX, hY⟩ := tr_both (N0 := N) (wc := m + 1) (lo := lo) (W := W) hb (by omega) m m 0 N (W m) K F S T C A D (Nat.le_refl _) (rd_T0 hK hw hl)
  have e1 : (nI m).toNatClampNeg = m := nI_clamp (by omega)
  refine ⟨N', t', K', F', S', T', C', A', D', hR, fun post hx hwx h => ?_, fun post hy hwy h => ?_⟩
  · unfold wpX_makeTrain
    dsimp only
    rw [nI_pred, e1]
    exact ⟨vp_in_nI (by omega) (by omega), nm_r (hwx m (by omega)) (nm_r (tx_w2 m) ⟨m + 1, hX post _ _ _ _ hx hwx h _ (by omega)⟩)⟩
  · refine nm_r (nI_pred m) ⟨vp_in_nI (by omega) (by omega), nm_r (e' := nI (W m)) (by rw [e1]; exact hwy m (by omega)) ⟨m + 1, ?_⟩⟩
    exact hY post _ _ _ _ _ hy hwy h _ (by omega)
