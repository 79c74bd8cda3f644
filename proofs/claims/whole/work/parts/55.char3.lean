/-! the characters that fail or close -/
theorem rc_bad {f_vectorLimit f_textCount f_trainHeld f_rootNode f_canonCount f_postponedCount f_frameCount f_failure f_lastStatus : Int32} {a_text a_canon a_postponed a_cells a_lengths a_frameNode a_frameDyadic a_frameX a_frameY a_framePhase : Nat → Int32} {g_lim g_tlen g_held g_root g_clen g_xn g_yn g_rn g_stat g_sp g_err : Int32} {b_text b_canon b_xs b_ys b_res b_cst b_fnode b_fmode b_fph b_fi b_vec b_vlen : Nat → Int32} {i c t : Nat} {N wc G adc : Nat} {K F S T C A D W B : Nat → Nat} {P : Nat → Bool} (hS : rd_S i N wc G adc K F S T C A D W B P) (hi : i < t) (ht : t ≤ 32) (htl : g_tlen = nI t) (htx : b_text i = nI c) (hc : c < 128) (hn : ¬ pr_lf c) (h40 : c ≠ 40) (hw0 : ¬ (B G < wc ∧ P G = false)) : rp_fail f_vectorLimit f_textCount f_trainHeld f_rootNode f_canonCount f_postponedCount f_frameCount f_failure f_lastStatus a_text a_canon a_postponed a_cells a_lengths a_frameNode a_frameDyadic a_frameX a_frameY a_framePhase g_lim g_tlen g_held g_root g_clen g_xn g_yn g_rn g_stat g_sp g_err b_text b_canon b_xs b_ys b_res b_cst b_fnode b_fmode b_fph b_fi b_vec b_vlen i c N wc G adc K F S T W B P := by
  obtain ⟨⟨w1, w2, w3, w4, w5⟩, ⟨g1, g2, g3⟩, a1, a2, a3⟩ := hS
  refine ⟨fun u post hu h => ?_, fun v post k hv h => ?_⟩
  · obtain ⟨kx, fx, sx, tx, ws, f, o, rfl, hT, hw, hg⟩ := hu
    refine pk_eq c 40 (fun z => absurd z h40) (fun _ => xv_vd hc (fun q => absurd q hn) (fun _ => br_t rfl ?_)) rfl rfl (by omega)
    exact xv_ww (by omega) (by omega) (fun q1 q2 => absurd ⟨q1, q2⟩ hw0) (fun _ => br_t rfl (h _ rp_QXi))
  · obtain ⟨ky, ch, na, nb, nc, ws, f, pd, rfl, hT, hw, hg⟩ := hv
    refine yp_ent hi ht htl htx (by omega) (by omega) (by omega) (hg G (Nat.le_refl _)).1 fun z0 z1 z2 => ?_
    have e1 : (nI G).toNatClampNeg = G := nI_clamp (by omega)
    have i1 : vp_in (nI G) 40 := vp_in_nI (by omega) (by omega)
    have hx : z0 = 0 → ¬ pd (nI G).toNatClampNeg = 0 := by
      intro q
      have hb : B G < wc := by have := z1 q; omega
      rw [e1, (hg G (Nat.le_refl _)).2]
      cases hp : P G with
      | false => exact absurd ⟨hb, hp⟩ hw0
      | true => decide
    refine yv_84 hc (fun q => absurd q hn) (fun _ => ?_)
    unfold wY_parse_126
    refine pk_eq c 40 (fun z => absurd z h40) (fun _ => br_c (fun _ => br_c (fun _ => h _ rp_QYi) (fun _ => br_c (fun q => ⟨i1, br_f (hx q) (h _ rp_QYi)⟩) (fun _ => h _ rp_QYi))) (fun _ => br_c (fun _ => br_c (fun q => ⟨i1, br_f (hx q) (h _ rp_QYi)⟩) (fun _ => h _ rp_QYi)) (fun _ => br_c (fun q => ⟨i1, br_f (hx q) (h _ rp_QYi)⟩) (fun _ => h _ rp_QYi)))) rfl rfl (by omega)
theorem rc_bad0 {f_vectorLimit f_textCount f_trainHeld f_rootNode f_canonCount f_postponedCount f_frameCount f_failure f_lastStatus : Int32} {a_text a_canon a_postponed a_cells a_lengths a_frameNode a_frameDyadic a_frameX a_frameY a_framePhase : Nat → Int32} {g_lim g_tlen g_held g_root g_clen g_xn g_yn g_rn g_stat g_sp g_err : Int32} {b_text b_canon b_xs b_ys b_res b_cst b_fnode b_fmode b_fph b_fi b_vec b_vlen : Nat → Int32} {i c t : Nat} {N wc G adc : Nat} {K F S T C A D W B : Nat → Nat} {P : Nat → Bool} (hS : rd_S i N wc G adc K F S T C A D W B P) (hi : i < t) (ht : t ≤ 32) (htl : g_tlen = nI t) (htx : b_text i = nI c) (hc : c = 41) (hG0 : G = 0) : rp_fail f_vectorLimit f_textCount f_trainHeld f_rootNode f_canonCount f_postponedCount f_frameCount f_failure f_lastStatus a_text a_canon a_postponed a_cells a_lengths a_frameNode a_frameDyadic a_frameX a_frameY a_framePhase g_lim g_tlen g_held g_root g_clen g_xn g_yn g_rn g_stat g_sp g_err b_text b_canon b_xs b_ys b_res b_cst b_fnode b_fmode b_fph b_fi b_vec b_vlen i c N wc G adc K F S T W B P := by
  subst hc
  subst hG0
  obtain ⟨⟨w1, w2, w3, w4, w5⟩, ⟨g1, g2, g3⟩, a1, a2, a3⟩ := hS
  have nl : ¬ pr_lf 41 := by unfold pr_lf pr_vb pr_dig; omega
  refine ⟨fun u post hu h => ?_, fun v post k hv h => ?_⟩
  · obtain ⟨kx, fx, sx, tx, ws, f, o, rfl, hT, hw, hg⟩ := hu
    refine br_f (by decide) (xv_vd (k := 41) (by decide) (fun q => absurd q nl) (fun _ => br_t rfl ?_))
    refine xv_ww (by omega) (by omega) (fun _ _ => br_f (by decide) (br_t rfl ?_)) (fun _ => br_t rfl (h _ rp_QXi))
    exact br_t rfl ⟨rfl, h _ rp_QXi⟩
  · obtain ⟨ky, ch, na, nb, nc, ws, f, pd, rfl, hT, hw, hg⟩ := hv
    refine yp_ent (G := 0) hi ht htl htx (by omega) (by omega) (by omega) (hg 0 (Nat.le_refl _)).1 fun z0 z1 z2 => ?_
    refine yv_84 (by decide) (fun q => absurd q nl) (fun _ => ?_)
    unfold wY_parse_126
    exact br_f (by decide) (br_t rfl (br_t rfl (h _ rp_QYi)))
theorem rc_cl {f_vectorLimit f_textCount f_trainHeld f_rootNode f_canonCount f_postponedCount f_frameCount f_failure f_lastStatus : Int32} {a_text a_canon a_postponed a_cells a_lengths a_frameNode a_frameDyadic a_frameX a_frameY a_framePhase : Nat → Int32} {g_lim g_tlen g_held g_root g_clen g_xn g_yn g_rn g_stat g_sp g_err : Int32} {b_text b_canon b_xs b_ys b_res b_cst b_fnode b_fmode b_fph b_fi b_vec b_vlen : Nat → Int32} {i t m lo N' t' G0 : Nat} {N wc G adc : Nat} {K F S T C A D W B : Nat → Nat} {P : Nat → Bool} {K' F' S' T' : Nat → Nat} (hG0 : G = G0 + 1) (hS : rd_S i N wc G adc K F S T C A D W B P) (hi : i < t) (ht : t ≤ 32) (htl : g_tlen = nI t) (htx : b_text i = nI 41) (hm : wc = m + 1) (hlo : lo = B G) (hb : B G < wc) (hp : P G = false)
    (hX : (∀ {f_vectorLimit f_textCount f_trainHeld f_rootNode f_groupFirst f_atopWaiting f_groupCount f_adverbCount f_canonCount f_postponedCount f_frameCount f_failure f_lastStatus : Int32} {a_text a_nodeKind a_nodeFirst a_nodeSecond a_nodeThird a_words a_outerFirst a_outerAtop a_canon a_postponed a_cells a_lengths a_frameNode a_frameDyadic a_frameX a_frameY a_framePhase : Nat → Int32} (post : Int32 → SX → Prop), tr_X N K F S T a_nodeKind a_nodeFirst a_nodeSecond a_nodeThird → (∀ j, j < m + 1 → a_words j = nI (W j)) → (∀ kx' fx' sx' tx', tr_X N' K' F' S' T' kx' fx' sx' tx' → post (nI t') (f_vectorLimit, f_textCount, f_trainHeld, f_rootNode, nI N', nI (m + 1), f_groupFirst, f_atopWaiting, f_groupCount, f_adverbCount, f_canonCount, f_postponedCount, f_frameCount, f_failure, f_lastStatus, a_text, kx', fx', sx', tx', a_words, a_outerFirst, a_outerAtop, a_canon, a_postponed, a_cells, a_lengths, a_frameNode, a_frameDyadic, a_frameX, a_frameY, a_framePhase)) → wpX_makeTrain post (f_vectorLimit, f_textCount, f_trainHeld, f_rootNode, nI N, nI (m + 1), f_groupFirst, f_atopWaiting, f_groupCount, f_adverbCount, f_canonCount, f_postponedCount, f_frameCount, f_failure, f_lastStatus, a_text, a_nodeKind, a_nodeFirst, a_nodeSecond, a_nodeThird, a_words, a_outerFirst, a_outerAtop, a_canon, a_postponed, a_cells, a_lengths, a_frameNode, a_frameDyadic, a_frameX, a_frameY, a_framePhase) (nI lo))) (hY : (∀ {g_lim g_tlen g_held g_root g_clen g_xn g_yn g_rn g_stat g_depth g_sp g_err : Int32} {b_text b_canon b_xs b_ys b_res b_kind b_nch b_na b_nb b_nc b_ws b_fb b_pend b_cst b_fnode b_fmode b_fph b_fi b_vec b_vlen : Nat → Int32} (post : Int32 → SY → Prop), tr_Y N K F S T b_kind b_nch b_na b_nb b_nc → (∀ j, j < m + 1 → b_ws j = nI (W j)) → (∀ ky' ch' na' nb' nc', tr_Y N' K' F' S' T' ky' ch' na' nb' nc' → post (nI t') (g_lim, g_tlen, g_held, g_root, g_clen, g_xn, g_yn, g_rn, g_stat, nI N', nI (m + 1), g_depth, g_sp, g_err, b_text, b_canon, b_xs, b_ys, b_res, ky', ch', na', nb', nc', b_ws, b_fb, b_pend, b_cst, b_fnode, b_fmode, b_fph, b_fi, b_vec, b_vlen)) → wpY_buildTrain post (g_lim, g_tlen, g_held, g_root, g_clen, g_xn, g_yn, g_rn, g_stat, nI N, nI (m + 1), g_depth, g_sp, g_err, b_text, b_canon, b_xs, b_ys, b_res, b_kind, b_nch, b_na, b_nb, b_nc, b_ws, b_fb, b_pend, b_cst, b_fnode, b_fmode, b_fph, b_fi, b_vec, b_vlen) (nI lo) (nI (m + 1)))) {N2 wc2 : Nat} {K2 F2 S2 T2 W2 : Nat → Nat} {P2 : Nat → Bool}
    (hx2 : ∀ {f_vectorLimit f_textCount f_trainHeld f_rootNode f_canonCount f_postponedCount f_frameCount f_failure f_lastStatus : Int32} {a_text a_nodeKind a_nodeFirst a_nodeSecond a_nodeThird a_words a_canon a_postponed a_cells a_lengths a_frameNode a_frameDyadic a_frameX a_frameY a_framePhase : Nat → Int32} (f o : Nat → Int32) (post : SX → Prop), tr_X N' K' F' S' T' a_nodeKind a_nodeFirst a_nodeSecond a_nodeThird → (∀ j, j < lo → a_words j = nI (W j)) → (∀ j, j < G0 → f j = nI (B j) ∧ o j = xm_b (P j)) →
        (∀ u', rp_X f_vectorLimit f_textCount f_trainHeld f_rootNode f_canonCount f_postponedCount f_frameCount f_failure f_lastStatus a_text a_canon a_postponed a_cells a_lengths a_frameNode a_frameDyadic a_frameX a_frameY a_framePhase N2 wc2 G0 adc K2 F2 S2 T2 W2 B P2 u' → post u') → wpX_addPrimary post (f_vectorLimit, f_textCount, f_trainHeld, f_rootNode, nI N', nI lo, nI (B G0), xm_b (P G0), nI G0, nI adc, f_canonCount, f_postponedCount, f_frameCount, f_failure, f_lastStatus, a_text, a_nodeKind, a_nodeFirst, a_nodeSecond, a_nodeThird, a_words, f, o, a_canon, a_postponed, a_cells, a_lengths, a_frameNode, a_frameDyadic, a_frameX, a_frameY, a_framePhase) (nI t'))
    (hy2 : ∀ {g_lim g_tlen g_held g_root g_clen g_xn g_yn g_rn g_stat g_sp g_err : Int32} {b_text b_canon b_xs b_ys b_res b_kind b_nch b_na b_nb b_nc b_ws b_cst b_fnode b_fmode b_fph b_fi b_vec b_vlen : Nat → Int32} (f pd : Nat → Int32) (post : SY → Prop), tr_Y N' K' F' S' T' b_kind b_nch b_na b_nb b_nc → (∀ j, j < lo → b_ws j = nI (W j)) → (∀ j, j ≤ G0 → f j = nI (B j) ∧ pd j = xm_b (P j)) →
        (∀ v', rp_Y g_lim g_tlen g_held g_root g_clen g_xn g_yn g_rn g_stat g_sp g_err b_text b_canon b_xs b_ys b_res b_cst b_fnode b_fmode b_fph b_fi b_vec b_vlen N2 wc2 G0 adc K2 F2 S2 T2 W2 B P2 v' → post v') → wpY_deliver post (g_lim, g_tlen, g_held, g_root, g_clen, g_xn, g_yn, g_rn, g_stat, nI N', nI lo, nI G0, g_sp, g_err, b_text, b_canon, b_xs, b_ys, b_res, b_kind, b_nch, b_na, b_nb, b_nc, b_ws, f, pd, b_cst, b_fnode, b_fmode, b_fph, b_fi, b_vec, b_vlen) (nI t')) :
    rp_on f_vectorLimit f_textCount f_trainHeld f_rootNode f_canonCount f_postponedCount f_frameCount f_failure f_lastStatus a_text a_canon a_postponed a_cells a_lengths a_frameNode a_frameDyadic a_frameX a_frameY a_framePhase g_lim g_tlen g_held g_root g_clen g_xn g_yn g_rn g_stat g_sp g_err b_text b_canon b_xs b_ys b_res b_cst b_fnode b_fmode b_fph b_fi b_vec b_vlen i 41 N wc G adc K F S T W B P N2 wc2 G0 adc K2 F2 S2 T2 W2 B P2 := by
  subst hm
  subst hG0
  subst hlo
  obtain ⟨⟨w1, w2, w3, w4, w5⟩, ⟨g1, g2, g3⟩, a1, a2, a3⟩ := hS
  have nl : ¬ pr_lf 41 := by unfold pr_lf pr_vb pr_dig; omega
  refine ⟨fun u post hu h => ?_, fun v post k hv h => ?_⟩
  · obtain ⟨kx, fx, sx, tx, ws, f, o, rfl, hT, hw, hg⟩ := hu
    have e1 : (nI G0).toNatClampNeg = G0 := nI_clamp (by omega)
    have i1 : vp_in (nI G0) 32 := vp_in_nI (by omega) (by omega)
    refine br_f (by decide) (xv_vd (k := 41) (by decide) (fun q => absurd q nl) (fun _ => br_t rfl ?_))
    refine xv_ww (by omega) (by omega) (fun _ _ => br_f (by decide) (br_t rfl ?_)) (fun q => absurd ⟨hb, hp⟩ q)
    refine br_f (nI_ne0 (by omega) (by omega)) ?_
    refine hX _ hT hw fun kx' fx' sx' tx' hT' => nm_r (nI_pred G0) ⟨i1, nm_r (e' := nI (B G0)) (by rw [e1]; exact (hg G0 (by omega)).1) ⟨i1, nm_r (e' := xm_b (P G0)) (by rw [e1]; exact (hg G0 (by omega)).2) ⟨(ax_fb _).1, (ax_fb _).2, ?_⟩⟩⟩
    exact hx2 f o _ hT' (fun j hj => hw j (by omega)) (fun j hj => hg j (by omega)) fun u' hu' => ⟨rfl, h u' hu'⟩
  · obtain ⟨ky, ch, na, nb, nc, ws, f, pd, rfl, hT, hw, hg⟩ := hv
    refine yp_ent (G := G0 + 1) hi ht htl htx (by omega) (by omega) (by omega) (hg (G0 + 1) (Nat.le_refl _)).1 fun z0 z1 z2 => ?_
    have e1 : (nI (G0 + 1)).toNatClampNeg = G0 + 1 := nI_clamp (by omega)
    have i1 : vp_in (nI (G0 + 1)) 40 := vp_in_nI (by omega) (by omega)
    have z := rc_whole (p := true) z1 z2 hb
    subst z
    have hgg := hg (G0 + 1) (Nat.le_refl _)
    refine yv_84 (by decide) (fun q => absurd q nl) (fun _ => ?_)
    unfold wY_parse_126
    refine br_f (by decide) (br_t rfl (br_f (nI_ne0 (by omega) (by omega)) (br_t rfl ⟨i1, br_t (by rw [e1, hgg.2, hp]; rfl) ⟨i1, ?_⟩⟩)))
    rw [e1, hgg.1]
    refine hY _ hT hw fun ky' ch' na' nb' nc' hT' => ⟨i1, nm_r (e' := nI (B (G0 + 1))) (by rw [e1]; exact hgg.1) (nm_r (nI_pred G0) ?_)⟩
    exact hy2 f pd _ hT' (fun j hj => hw j (by omega)) (fun j hj => hg j (by omega)) fun v' hv' => nm_r (nI_1 i) (yp_to h hv')
