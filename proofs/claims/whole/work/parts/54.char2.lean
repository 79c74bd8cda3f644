/-! the characters, one kind after the other -/
theorem yp_to {g_lim g_tlen g_held g_root g_clen g_xn g_yn g_rn g_stat g_nn g_wsp g_depth g_sp g_err : Int32} {b_text b_canon b_xs b_ys b_res b_kind b_nch b_na b_nb b_nc b_ws b_fb b_pend b_cst b_fnode b_fmode b_fph b_fi b_vec b_vlen : Nat → Int32} {Q : SY → Prop} {post : Int32 → SY → Prop} {k adc i : Nat} (h : ∀ v', Q v' → yp_W post k adc i v') (q : Q (g_lim, g_tlen, g_held, g_root, g_clen, g_xn, g_yn, g_rn, g_stat, g_nn, g_wsp, g_depth, g_sp, g_err, b_text, b_canon, b_xs, b_ys, b_res, b_kind, b_nch, b_na, b_nb, b_nc, b_ws, b_fb, b_pend, b_cst, b_fnode, b_fmode, b_fph, b_fi, b_vec, b_vlen)) : wY_parse_42 post k (nI adc) (nI i) g_lim g_tlen g_held g_root g_clen g_xn g_yn g_rn g_stat g_nn g_wsp g_depth g_sp g_err b_text b_canon b_xs b_ys b_res b_kind b_nch b_na b_nb b_nc b_ws b_fb b_pend b_cst b_fnode b_fmode b_fph b_fi b_vec b_vlen := h _ q
theorem rp_Xi {f_vectorLimit f_textCount f_trainHeld f_rootNode f_canonCount f_postponedCount f_frameCount f_failure f_lastStatus : Int32} {a_text a_canon a_postponed a_cells a_lengths a_frameNode a_frameDyadic a_frameX a_frameY a_framePhase : Nat → Int32} {N wc G adc : Nat} {K F S T W B : Nat → Nat} {P : Nat → Bool} {n1 n2 n3 n4 n5 n6 : Int32} {kx fx sx tx ws f o : Nat → Int32} (e1 : n1 = nI N) (e2 : n2 = nI wc) (e3 : n3 = nI (B G)) (e4 : n4 = xm_b (P G)) (e5 : n5 = nI G) (e6 : n6 = nI adc)
    (hT : tr_X N K F S T kx fx sx tx) (hw : ∀ j, j < wc → ws j = nI (W j)) (hg : ∀ j, j < G → f j = nI (B j) ∧ o j = xm_b (P j)) : rp_X f_vectorLimit f_textCount f_trainHeld f_rootNode f_canonCount f_postponedCount f_frameCount f_failure f_lastStatus a_text a_canon a_postponed a_cells a_lengths a_frameNode a_frameDyadic a_frameX a_frameY a_framePhase N wc G adc K F S T W B P (f_vectorLimit, f_textCount, f_trainHeld, f_rootNode, n1, n2, n3, n4, n5, n6, f_canonCount, f_postponedCount, f_frameCount, f_failure, f_lastStatus, a_text, kx, fx, sx, tx, ws, f, o, a_canon, a_postponed, a_cells, a_lengths, a_frameNode, a_frameDyadic, a_frameX, a_frameY, a_framePhase) := by
  subst e1 e2 e3 e4 e5 e6
  exact ⟨_, _, _, _, _, _, _, rfl, hT, hw, hg⟩
theorem rp_Yi {g_lim g_tlen g_held g_root g_clen g_xn g_yn g_rn g_stat g_sp g_err : Int32} {b_text b_canon b_xs b_ys b_res b_cst b_fnode b_fmode b_fph b_fi b_vec b_vlen : Nat → Int32} {N wc G adc : Nat} {K F S T W B : Nat → Nat} {P : Nat → Bool} {n1 n2 n3 : Int32} {ky ch na nb nc ws f pd : Nat → Int32} (e1 : n1 = nI N) (e2 : n2 = nI wc) (e3 : n3 = nI G)
    (hT : tr_Y N K F S T ky ch na nb nc) (hw : ∀ j, j < wc → ws j = nI (W j)) (hg : ∀ j, j ≤ G → f j = nI (B j) ∧ pd j = xm_b (P j)) : rp_Y g_lim g_tlen g_held g_root g_clen g_xn g_yn g_rn g_stat g_sp g_err b_text b_canon b_xs b_ys b_res b_cst b_fnode b_fmode b_fph b_fi b_vec b_vlen N wc G adc K F S T W B P (g_lim, g_tlen, g_held, g_root, g_clen, g_xn, g_yn, g_rn, g_stat, n1, n2, n3, g_sp, g_err, b_text, b_canon, b_xs, b_ys, b_res, ky, ch, na, nb, nc, ws, f, pd, b_cst, b_fnode, b_fmode, b_fph, b_fi, b_vec, b_vlen) := by
  subst e1 e2 e3
  exact ⟨_, _, _, _, _, _, _, _, rfl, hT, hw, hg⟩
theorem rp_QXi {f_vectorLimit f_textCount f_trainHeld f_rootNode f_canonCount f_postponedCount f_frameCount f_failure f_lastStatus : Int32} {a_text a_canon a_postponed a_cells a_lengths a_frameNode a_frameDyadic a_frameX a_frameY a_framePhase : Nat → Int32} {n1 n2 n3 n4 n5 n6 : Int32} {kx fx sx tx ws f o : Nat → Int32} : rp_QX f_vectorLimit f_textCount f_trainHeld f_rootNode f_canonCount f_postponedCount f_frameCount f_failure f_lastStatus a_text a_canon a_postponed a_cells a_lengths a_frameNode a_frameDyadic a_frameX a_frameY a_framePhase (f_vectorLimit, f_textCount, f_trainHeld, f_rootNode, n1, n2, n3, n4, n5, n6, f_canonCount, f_postponedCount, f_frameCount, f_failure, f_lastStatus, a_text, kx, fx, sx, tx, ws, f, o, a_canon, a_postponed, a_cells, a_lengths, a_frameNode, a_frameDyadic, a_frameX, a_frameY, a_framePhase) := ⟨_, _, _, _, _, _, _, _, _, _, _, _, _, rfl⟩
theorem rp_QYi {g_lim g_tlen g_held g_root g_clen g_xn g_yn g_rn g_stat g_sp g_err : Int32} {b_text b_canon b_xs b_ys b_res b_cst b_fnode b_fmode b_fph b_fi b_vec b_vlen : Nat → Int32} {n1 n2 n3 : Int32} {ky ch na nb nc ws f pd : Nat → Int32} : rp_QY g_lim g_tlen g_held g_root g_clen g_xn g_yn g_rn g_stat g_sp g_err b_text b_canon b_xs b_ys b_res b_cst b_fnode b_fmode b_fph b_fi b_vec b_vlen (g_lim, g_tlen, g_held, g_root, g_clen, g_xn, g_yn, g_rn, g_stat, n1, n2, n3, g_sp, g_err, b_text, b_canon, b_xs, b_ys, b_res, ky, ch, na, nb, nc, ws, f, pd, b_cst, b_fnode, b_fmode, b_fph, b_fi, b_vec, b_vlen) := ⟨_, _, _, _, _, _, _, _, _, _, _, rfl⟩
theorem rc_open {f_vectorLimit f_textCount f_trainHeld f_rootNode f_canonCount f_postponedCount f_frameCount f_failure f_lastStatus : Int32} {a_text a_canon a_postponed a_cells a_lengths a_frameNode a_frameDyadic a_frameX a_frameY a_framePhase : Nat → Int32} {g_lim g_tlen g_held g_root g_clen g_xn g_yn g_rn g_stat g_sp g_err : Int32} {b_text b_canon b_xs b_ys b_res b_cst b_fnode b_fmode b_fph b_fi b_vec b_vlen : Nat → Int32} {i c t : Nat} {N wc G adc : Nat} {K F S T C A D W B : Nat → Nat} {P : Nat → Bool} (hS : rd_S i N wc G adc K F S T C A D W B P) (hi : i < t) (ht : t ≤ 32) (htl : g_tlen = nI t) (htx : b_text i = nI c) (hc : c = 40) : rp_on f_vectorLimit f_textCount f_trainHeld f_rootNode f_canonCount f_postponedCount f_frameCount f_failure f_lastStatus a_text a_canon a_postponed a_cells a_lengths a_frameNode a_frameDyadic a_frameX a_frameY a_framePhase g_lim g_tlen g_held g_root g_clen g_xn g_yn g_rn g_stat g_sp g_err b_text b_canon b_xs b_ys b_res b_cst b_fnode b_fmode b_fph b_fi b_vec b_vlen i c N wc G adc K F S T W B P N wc (G + 1) adc K F S T W (tr_u B (G + 1) wc) (rd_pu P (G + 1) false) := by
  subst hc
  obtain ⟨-, ⟨g1, g2, g3⟩, a1, a2, a3⟩ := hS
  refine ⟨fun u post hu h => ?_, fun v post k hv h => ?_⟩
  · obtain ⟨kx, fx, sx, tx, ws, f, o, rfl, hT, hw, hg⟩ := hu
    have e1 : (nI G).toNatClampNeg = G := nI_clamp (by omega)
    have i1 : vp_in (nI G) 32 := vp_in_nI (by omega) (by omega)
    refine br_t rfl ⟨i1, nm_r (e' := upd f G (nI (B G))) (by rw [e1]) ⟨i1, nm_r (e' := upd o G (xm_b (P G))) (by rw [e1, ax_nb]) (nm_r (nI_1 G) (h _ ?_))⟩⟩
    refine rp_Xi rfl rfl (by rw [tr_us]) (by rw [rd_ps]; rfl) rfl rfl hT hw fun j hj => ?_
    rw [tr_un (by omega), rd_pn (by omega)]
    by_cases z : j = G
    · subst z; exact ⟨pk_us, pk_us⟩
    · rw [pk_un z, pk_un z]; exact hg j (by omega)
  · obtain ⟨ky, ch, na, nb, nc, ws, f, pd, rfl, hT, hw, hg⟩ := hv
    refine yp_ent hi ht htl htx (by omega) (by omega) (by omega) (hg G (Nat.le_refl _)).1 fun z0 z1 z2 => ?_
    have e1 : (nI (G + 1)).toNatClampNeg = G + 1 := nI_clamp (by omega)
    have i1 : vp_in (nI (G + 1)) 40 := vp_in_nI (by omega) (by omega)
    refine yv_84 (by decide) (fun q => by unfold pr_lf pr_vb pr_dig at q; omega) (fun _ => ?_)
    unfold wY_parse_126
    refine br_t rfl (nm_r (nI_1 G) ⟨i1, nm_r (e' := upd f (G + 1) (nI wc)) (by rw [e1]) ⟨i1, nm_r (e' := upd pd (G + 1) 0) (by rw [e1, ax_nb0]) (nm_r (nI_1 i) (yp_to h ?_))⟩⟩)
    refine rp_Yi rfl rfl rfl hT hw fun j hj => ?_
    by_cases z : j = G + 1
    · subst z; rw [tr_us, rd_ps]; exact ⟨pk_us, pk_us⟩
    · rw [tr_un z, rd_pn z, pk_un z, pk_un z]; exact hg j (by omega)
theorem rc_leaf1 {f_vectorLimit f_textCount f_trainHeld f_rootNode f_canonCount f_postponedCount f_frameCount f_failure f_lastStatus : Int32} {a_text a_canon a_postponed a_cells a_lengths a_frameNode a_frameDyadic a_frameX a_frameY a_framePhase : Nat → Int32} {g_lim g_tlen g_held g_root g_clen g_xn g_yn g_rn g_stat g_sp g_err : Int32} {b_text b_canon b_xs b_ys b_res b_cst b_fnode b_fmode b_fph b_fi b_vec b_vlen : Nat → Int32} {i c t : Nat} {N wc G adc : Nat} {K F S T C A D W B : Nat → Nat} {P : Nat → Bool} (hS : rd_S i N wc G adc K F S T C A D W B P) (hi : i < t) (ht : t ≤ 32) (htl : g_tlen = nI t) (htx : b_text i = nI c) (hc : pr_lf c) (hp : P G = false) : rp_on f_vectorLimit f_textCount f_trainHeld f_rootNode f_canonCount f_postponedCount f_frameCount f_failure f_lastStatus a_text a_canon a_postponed a_cells a_lengths a_frameNode a_frameDyadic a_frameX a_frameY a_framePhase g_lim g_tlen g_held g_root g_clen g_xn g_yn g_rn g_stat g_sp g_err b_text b_canon b_xs b_ys b_res b_cst b_fnode b_fmode b_fph b_fi b_vec b_vlen i c N wc G adc K F S T W B P (N + 1) (wc + 1) G adc (tr_u K N c) (tr_u F N 0) (tr_u S N 0) (tr_u T N 0) (tr_u W wc N) B P := by
  obtain ⟨⟨w1, w2, w3, w4, w5⟩, ⟨g1, g2, g3⟩, a1, a2, a3⟩ := hS
  have hc' := hc
  unfold pr_lf pr_vb pr_dig at hc'
  have hww : ∀ (ws : Nat → Int32), (∀ j, j < wc → ws j = nI (W j)) → ∀ j, j < wc + 1 → upd ws wc (nI N) j = nI (tr_u W wc N j) := by
    intro ws hw j hj
    by_cases z : j = wc
    · subst z; rw [tr_us]; exact pk_us
    · rw [tr_un z, pk_un z]; exact hw j (by omega)
  refine ⟨fun u post hu h => ?_, fun v post k hv h => ?_⟩
  · obtain ⟨kx, fx, sx, tx, ws, f, o, rfl, hT, hw, hg⟩ := hu
    rw [hp]
    refine pk_eq c 40 (fun z => by omega) (fun _ => xv_vd (by omega) (fun _ => br_f (by decide) ?_) (fun q => absurd hc q)) rfl rfl (by omega)
    refine xn_node (a := 0) (b := 0) (c := 0) (by omega) ?_
    refine xn_plain (p := N) (by omega) (h _ ?_)
    exact rp_Xi rfl rfl rfl (by rw [hp]; rfl) rfl rfl (tr_Xu hT c 0 0 0) (hww ws hw) hg
  · obtain ⟨ky, ch, na, nb, nc, ws, f, pd, rfl, hT, hw, hg⟩ := hv
    refine yp_ent hi ht htl htx (by omega) (by omega) (by omega) (hg G (Nat.le_refl _)).1 fun z0 z1 z2 => ?_
    refine yv_84 (by omega) (fun _ => ?_) (fun q => absurd hc q)
    unfold wY_parse_106
    refine yn_node (k := 0) (a := 0) (b := 0) (c := 0) (by omega) (by omega) ?_
    refine yn_plain (by omega) (by omega) (by rw [(hg G (Nat.le_refl _)).2, hp]; rfl) (nm_r (nI_1 i) (yp_to h ?_))
    have t1 := tr_Yu hT c 0 0 0
    rw [show tr_ky c = 0 by unfold tr_ky; rw [if_neg (by omega), if_neg (by omega), if_neg (by omega), if_neg (by omega)], show tr_cy c = c by unfold tr_cy; rw [if_neg (by omega)]] at t1
    exact rp_Yi rfl rfl rfl t1 (hww ws hw) hg
theorem rc_leaf2 {f_vectorLimit f_textCount f_trainHeld f_rootNode f_canonCount f_postponedCount f_frameCount f_failure f_lastStatus : Int32} {a_text a_canon a_postponed a_cells a_lengths a_frameNode a_frameDyadic a_frameX a_frameY a_framePhase : Nat → Int32} {g_lim g_tlen g_held g_root g_clen g_xn g_yn g_rn g_stat g_sp g_err : Int32} {b_text b_canon b_xs b_ys b_res b_cst b_fnode b_fmode b_fph b_fi b_vec b_vlen : Nat → Int32} {m : Nat} {i c t : Nat} {N wc G adc : Nat} {K F S T C A D W B : Nat → Nat} {P : Nat → Bool} (hS : rd_S i N wc G adc K F S T C A D W B P) (hi : i < t) (ht : t ≤ 32) (htl : g_tlen = nI t) (htx : b_text i = nI c) (hm : wc = m + 1) (hc : pr_lf c) (hp : P G = true) : rp_on f_vectorLimit f_textCount f_trainHeld f_rootNode f_canonCount f_postponedCount f_frameCount f_failure f_lastStatus a_text a_canon a_postponed a_cells a_lengths a_frameNode a_frameDyadic a_frameX a_frameY a_framePhase g_lim g_tlen g_held g_root g_clen g_xn g_yn g_rn g_stat g_sp g_err b_text b_canon b_xs b_ys b_res b_cst b_fnode b_fmode b_fph b_fi b_vec b_vlen i c N wc G adc K F S T W B P (N + 2) (m + 1) G adc (tr_u (tr_u K N c) (N + 1) 64) (tr_u (tr_u F N 0) (N + 1) (W m)) (tr_u (tr_u S N 0) (N + 1) N) (tr_u (tr_u T N 0) (N + 1) 0) (tr_u W m (N + 1)) B (rd_pu P G false) := by
  subst hm
  obtain ⟨⟨w1, w2, w3, w4, w5⟩, ⟨g1, g2, g3⟩, a1, a2, a3⟩ := hS
  have hc' := hc
  unfold pr_lf pr_vb pr_dig at hc'
  have hww : ∀ (ws : Nat → Int32), (∀ j, j < m + 1 → ws j = nI (W j)) → ∀ j, j < m + 1 → upd ws m (nI (N + 1)) j = nI (tr_u W m (N + 1) j) := by
    intro ws hw j hj
    by_cases z : j = m
    · subst z; rw [tr_us]; exact pk_us
    · rw [tr_un z, pk_un z]; exact hw j (by omega)
  refine ⟨fun u post hu h => ?_, fun v post k hv h => ?_⟩
  · obtain ⟨kx, fx, sx, tx, ws, f, o, rfl, hT, hw, hg⟩ := hu
    rw [hp]
    refine pk_eq c 40 (fun z => by omega) (fun _ => xv_vd (by omega) (fun _ => br_f (by decide) ?_) (fun q => absurd hc q)) rfl rfl (by omega)
    refine xn_node (a := 0) (b := 0) (c := 0) (by omega) ?_
    refine xn_atop (N := N + 1) (p := N) (by omega) (by omega) (hw m (by omega)) (h _ ?_)
    refine rp_Xi rfl rfl rfl (by rw [rd_ps]; rfl) rfl rfl (tr_Xu (tr_Xu hT c 0 0 0) 64 (W m) N 0) (hww ws hw) fun j hj => ?_
    rw [rd_pn (by omega)]; exact hg j hj
  · obtain ⟨ky, ch, na, nb, nc, ws, f, pd, rfl, hT, hw, hg⟩ := hv
    refine yp_ent hi ht htl htx (by omega) (by omega) (by omega) (hg G (Nat.le_refl _)).1 fun z0 z1 z2 => ?_
    refine yv_84 (by omega) (fun _ => ?_) (fun q => absurd hc q)
    unfold wY_parse_106
    refine yn_node (k := 0) (a := 0) (b := 0) (c := 0) (by omega) (by omega) ?_
    refine yn_atop (N := N + 1) (p := N) (by omega) (by omega) (by omega) (by rw [(hg G (Nat.le_refl _)).2, hp]; rfl) (hw m (by omega)) (nm_r (nI_1 i) (yp_to h ?_))
    have t1 := tr_Yu hT c 0 0 0
    rw [show tr_ky c = 0 by unfold tr_ky; rw [if_neg (by omega), if_neg (by omega), if_neg (by omega), if_neg (by omega)], show tr_cy c = c by unfold tr_cy; rw [if_neg (by omega)]] at t1
    refine rp_Yi rfl rfl rfl (tr_Yu t1 64 (W m) N 0) (hww ws hw) fun j hj => ?_
    by_cases z : j = G
    · subst z; rw [rd_ps]; exact ⟨(hg j hj).1, pk_us⟩
    · rw [rd_pn z, pk_un z]; exact hg j hj
theorem rc_whole {wc b : Nat} {p : Bool} {z0 : Int32} (z1 : z0 = 0 → wc ≠ b) (z2 : ¬ z0 = 0 → wc = b) (hb : b < wc) : z0 = 0 := by
  by_cases q : z0 = 0
  · exact q
  · exact absurd (z2 q) (by omega)
theorem rc_wait {f_vectorLimit f_textCount f_trainHeld f_rootNode f_canonCount f_postponedCount f_frameCount f_failure f_lastStatus : Int32} {a_text a_canon a_postponed a_cells a_lengths a_frameNode a_frameDyadic a_frameX a_frameY a_framePhase : Nat → Int32} {g_lim g_tlen g_held g_root g_clen g_xn g_yn g_rn g_stat g_sp g_err : Int32} {b_text b_canon b_xs b_ys b_res b_cst b_fnode b_fmode b_fph b_fi b_vec b_vlen : Nat → Int32} {i c t : Nat} {N wc G adc : Nat} {K F S T C A D W B : Nat → Nat} {P : Nat → Bool} (hS : rd_S i N wc G adc K F S T C A D W B P) (hi : i < t) (ht : t ≤ 32) (htl : g_tlen = nI t) (htx : b_text i = nI c) (hc : c = 64) (hb : B G < wc) (hp : P G = false) : rp_on f_vectorLimit f_textCount f_trainHeld f_rootNode f_canonCount f_postponedCount f_frameCount f_failure f_lastStatus a_text a_canon a_postponed a_cells a_lengths a_frameNode a_frameDyadic a_frameX a_frameY a_framePhase g_lim g_tlen g_held g_root g_clen g_xn g_yn g_rn g_stat g_sp g_err b_text b_canon b_xs b_ys b_res b_cst b_fnode b_fmode b_fph b_fi b_vec b_vlen i c N wc G adc K F S T W B P N wc G adc K F S T W B (rd_pu P G true) := by
  subst hc
  obtain ⟨⟨w1, w2, w3, w4, w5⟩, ⟨g1, g2, g3⟩, a1, a2, a3⟩ := hS
  refine ⟨fun u post hu h => ?_, fun v post k hv h => ?_⟩
  · obtain ⟨kx, fx, sx, tx, ws, f, o, rfl, hT, hw, hg⟩ := hu
    refine br_f (by decide) (xv_vd (k := 64) (by decide) (fun q => by unfold pr_lf pr_vb pr_dig at q; omega) (fun _ => br_t rfl ?_))
    refine xv_ww (by omega) (by omega) (fun _ _ => br_f (by decide) (br_f (by decide) (br_t rfl (h _ ?_)))) (fun q => absurd ⟨hb, hp⟩ q)
    refine rp_Xi rfl rfl rfl (by rw [rd_ps]; rfl) rfl rfl hT hw fun j hj => ?_
    rw [rd_pn (by omega)]; exact hg j hj
  · obtain ⟨ky, ch, na, nb, nc, ws, f, pd, rfl, hT, hw, hg⟩ := hv
    refine yp_ent hi ht htl htx (by omega) (by omega) (by omega) (hg G (Nat.le_refl _)).1 fun z0 z1 z2 => ?_
    have e1 : (nI G).toNatClampNeg = G := nI_clamp (by omega)
    have i1 : vp_in (nI G) 40 := vp_in_nI (by omega) (by omega)
    have z := rc_whole (p := true) z1 z2 hb
    subst z
    refine yv_84 (by decide) (fun q => by unfold pr_lf pr_vb pr_dig at q; omega) (fun _ => ?_)
    unfold wY_parse_126
    refine br_f (by decide) (br_f (by decide) (br_t rfl (br_t rfl ⟨i1, br_t (by rw [e1, (hg G (Nat.le_refl _)).2, hp]; rfl) ⟨i1, nm_r (e' := upd pd G 1) (by rw [e1, ax_nb1]) (nm_r (nI_1 i) (yp_to h ?_))⟩⟩)))
    refine rp_Yi rfl rfl rfl hT hw fun j hj => ?_
    by_cases z : j = G
    · subst z; rw [rd_ps]; exact ⟨(hg j hj).1, pk_us⟩
    · rw [rd_pn z, pk_un z]; exact hg j hj
theorem rc_adv {f_vectorLimit f_textCount f_trainHeld f_rootNode f_canonCount f_postponedCount f_frameCount f_failure f_lastStatus : Int32} {a_text a_canon a_postponed a_cells a_lengths a_frameNode a_frameDyadic a_frameX a_frameY a_framePhase : Nat → Int32} {g_lim g_tlen g_held g_root g_clen g_xn g_yn g_rn g_stat g_sp g_err : Int32} {b_text b_canon b_xs b_ys b_res b_cst b_fnode b_fmode b_fph b_fi b_vec b_vlen : Nat → Int32} {m : Nat} {i c t : Nat} {N wc G adc : Nat} {K F S T C A D W B : Nat → Nat} {P : Nat → Bool} (hS : rd_S i N wc G adc K F S T C A D W B P) (hi : i < t) (ht : t ≤ 32) (htl : g_tlen = nI t) (htx : b_text i = nI c) (hm : wc = m + 1) (hc : pr_av c) (hb : B G < wc) (hp : P G = false) : rp_on f_vectorLimit f_textCount f_trainHeld f_rootNode f_canonCount f_postponedCount f_frameCount f_failure f_lastStatus a_text a_canon a_postponed a_cells a_lengths a_frameNode a_frameDyadic a_frameX a_frameY a_framePhase g_lim g_tlen g_held g_root g_clen g_xn g_yn g_rn g_stat g_sp g_err b_text b_canon b_xs b_ys b_res b_cst b_fnode b_fmode b_fph b_fi b_vec b_vlen i c N wc G adc K F S T W B P (N + 1) (m + 1) G (adc + 1) (tr_u K N c) (tr_u F N (W m)) (tr_u S N 0) (tr_u T N 0) (tr_u W m N) B P := by
  subst hm
  obtain ⟨⟨w1, w2, w3, w4, w5⟩, ⟨g1, g2, g3⟩, a1, a2, a3⟩ := hS
  have hc' := hc
  unfold pr_av at hc'
  have em : (nI m).toNatClampNeg = m := nI_clamp (by omega)
  have hww : ∀ (ws : Nat → Int32), (∀ j, j < m + 1 → ws j = nI (W j)) → ∀ j, j < m + 1 → upd ws m (nI N) j = nI (tr_u W m N j) := by
    intro ws hw j hj
    by_cases z : j = m
    · subst z; rw [tr_us]; exact pk_us
    · rw [tr_un z, pk_un z]; exact hw j (by omega)
  have nlf : ¬ pr_lf c := by unfold pr_lf pr_vb pr_dig; omega
  refine ⟨fun u post hu h => ?_, fun v post k hv h => ?_⟩
  · obtain ⟨kx, fx, sx, tx, ws, f, o, rfl, hT, hw, hg⟩ := hu
    refine pk_eq c 40 (fun z => by omega) (fun _ => xv_vd (by omega) (fun q => absurd q nlf) (fun _ => br_t rfl ?_)) rfl rfl (by omega)
    refine xv_ww (by omega) (by omega) (fun _ _ => br_f (by decide) (pk_eq c 41 (fun z => by omega) (fun _ => pk_eq c 64 (fun z => by omega) (fun _ => nm_r (nI_1 adc) ?_) rfl rfl (by omega)) rfl rfl (by omega))) (fun q => absurd ⟨hb, hp⟩ q)
    rw [nI_pred, em, hw m (by omega)]
    refine ⟨vp_in_nI (by omega) (by omega), ?_⟩
    refine xn_node (b := 0) (c := 0) (by omega) ⟨vp_in_nI (by omega) (by omega), nm_e (h _ ?_)⟩
    exact rp_Xi rfl rfl rfl rfl rfl rfl (tr_Xu hT c (W m) 0 0) (hww ws hw) hg
  · obtain ⟨ky, ch, na, nb, nc, ws, f, pd, rfl, hT, hw, hg⟩ := hv
    refine yp_ent hi ht htl htx (by omega) (by omega) (by omega) (hg G (Nat.le_refl _)).1 fun z0 z1 z2 => ?_
    have e1 : (nI G).toNatClampNeg = G := nI_clamp (by omega)
    have i1 : vp_in (nI G) 40 := vp_in_nI (by omega) (by omega)
    have z := rc_whole (p := true) z1 z2 hb
    subst z
    refine yv_84 (by omega) (fun q => absurd q nlf) (fun _ => ?_)
    unfold wY_parse_126
    refine pk_eq c 40 (fun z => by omega) (fun _ => pk_eq c 41 (fun z => by omega) (fun _ => pk_eq c 64 (fun z => by omega) (fun _ => br_t rfl ⟨i1, br_t (by rw [e1, (hg G (Nat.le_refl _)).2, hp]; rfl) (nm_r (nI_1 adc) ?_)⟩) rfl rfl (by omega)) rfl rfl (by omega)) rfl rfl (by omega)
    rw [nI_pred, em]
    refine ⟨vp_in_nI (by omega) (by omega), nm_r (hw m (by omega)) ?_⟩
    refine yn_node (k := 1) (b := 0) (c := 0) (by omega) (by omega) ⟨vp_in_nI (by omega) (by omega), nm_e (nm_r (nI_1 i) (yp_to h ?_))⟩
    have t1 := tr_Yu hT c (W m) 0 0
    rw [show tr_ky c = 1 by unfold tr_ky; rw [if_neg (by omega), if_neg (by omega), if_neg (by omega), if_pos hc'], show tr_cy c = c by unfold tr_cy; rw [if_neg (by omega)]] at t1
    exact rp_Yi rfl rfl rfl t1 (hww ws hw) hg
