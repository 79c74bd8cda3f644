/-! putChar, pushArg, parse, apply -/
theorem xw_vd {post : Int32 → Prop} {k : Nat} (hk : k < 65536) (h1 : pr_lf k → post 1) (h0 : ¬ pr_lf k → post 0) : wpX_isVerbOrDigit post (nI k) := by
  unfold pr_lf pr_vb pr_dig at h1 h0
  have dig : ¬ (k = 43 ∨ k = 45 ∨ k = 42 ∨ k = 60 ∨ k = 62 ∨ k = 91 ∨ k = 93 ∨ k = 35 ∨ k = 44 ∨ k = 124) → wpX_isDigit (fun r_11 => (narrow .boolean (.int r_11) = .int r_11 ∧ (post r_11))) (nI k) := fun z =>
    pk_lt k 48 (fun e => ⟨rfl, h0 (by omega)⟩) (fun e => pk_lt 57 k (fun e' => ⟨rfl, h0 (by omega)⟩) (fun e' => ⟨rfl, h1 (Or.inr ⟨e, e'⟩)⟩))
  exact pk_eq k 35 (fun e => h1 (by omega)) (fun e1 => pk_eq k 42 (fun e => h1 (by omega)) (fun e2 => pk_eq k 43 (fun e => h1 (by omega)) (fun e3 => pk_eq k 44 (fun e => h1 (by omega)) (fun e4 => pk_eq k 45 (fun e => h1 (by omega)) (fun e5 => pk_eq k 60 (fun e => h1 (by omega)) (fun e6 => pk_eq k 62 (fun e => h1 (by omega)) (fun e7 => pk_eq k 91 (fun e => h1 (by omega)) (fun e8 => pk_eq k 93 (fun e => h1 (by omega)) (fun e9 => pk_eq k 124 (fun e => h1 (by omega)) (fun e10 => dig (by omega)))))))))))
theorem xw_al {post : Int32 → Prop} {k : Nat} (hk : k < 65536) (h1 : rp_al k → post 1) (h0 : ¬ rp_al k → post 0) : wpX_isAlphabet post (nI k) := by
  unfold rp_al pr_av at h1 h0
  refine xw_vd hk (fun e => br_f (by decide) (h1 (Or.inl e))) (fun e => br_t rfl ?_)
  have rest : ¬ (k = 47 ∨ k = 92 ∨ k = 34) → ((nI k = 64 → post 1) ∧ (¬ nI k = 64 → ((nI k = 40 → post 1) ∧ (¬ nI k = 40 → ((nI k = 41 → post 1) ∧ (¬ nI k = 41 → post 0)))))) := fun z =>
    pk_eq k 64 (fun q => h1 (by omega)) (fun q1 => pk_eq k 40 (fun q => h1 (by omega)) (fun q2 => pk_eq k 41 (fun q => h1 (by omega)) (fun q3 => h0 (by
      rintro (q | q | q | q | q)
      · exact e q
      · exact z q
      · exact q1 q
      · exact q2 q
      · exact q3 q))))
  exact pk_eq k 47 (fun q => br_f (by decide) (h1 (by omega))) (fun q1 => pk_eq k 92 (fun q => br_f (by decide) (h1 (by omega))) (fun q2 => pk_eq k 34 (fun q => br_f (by decide) (h1 (by omega))) (fun q3 => br_t rfl (rest (by omega)))))
theorem yw_al {g_lim g_tlen g_held g_root g_clen g_xn g_yn g_rn g_stat g_nn g_wsp g_depth g_sp g_err : Int32} {b_text b_canon b_xs b_ys b_res b_kind b_nch b_na b_nb b_nc b_ws b_fb b_pend b_cst b_fnode b_fmode b_fph b_fi b_vec b_vlen : Nat → Int32} {post : Int32 → SY → Prop} {k : Nat} (hk : k < 65536) (h1 : rp_al k → wY_putChar_61 post (nI k) 1 g_lim g_tlen g_held g_root g_clen g_xn g_yn g_rn g_stat g_nn g_wsp g_depth g_sp g_err b_text b_canon b_xs b_ys b_res b_kind b_nch b_na b_nb b_nc b_ws b_fb b_pend b_cst b_fnode b_fmode b_fph b_fi b_vec b_vlen) (h0 : ¬ rp_al k → wY_putChar_61 post (nI k) 0 g_lim g_tlen g_held g_root g_clen g_xn g_yn g_rn g_stat g_nn g_wsp g_depth g_sp g_err b_text b_canon b_xs b_ys b_res b_kind b_nch b_na b_nb b_nc b_ws b_fb b_pend b_cst b_fnode b_fmode b_fph b_fi b_vec b_vlen) : wpY_putChar post (g_lim, g_tlen, g_held, g_root, g_clen, g_xn, g_yn, g_rn, g_stat, g_nn, g_wsp, g_depth, g_sp, g_err, b_text, b_canon, b_xs, b_ys, b_res, b_kind, b_nch, b_na, b_nb, b_nc, b_ws, b_fb, b_pend, b_cst, b_fnode, b_fmode, b_fph, b_fi, b_vec, b_vlen) (nI k) := by
  have h20 : ¬ pr_lf k → wY_putChar_20 post (nI k) g_lim g_tlen g_held g_root g_clen g_xn g_yn g_rn g_stat g_nn g_wsp g_depth g_sp g_err b_text b_canon b_xs b_ys b_res b_kind b_nch b_na b_nb b_nc b_ws b_fb b_pend b_cst b_fnode b_fmode b_fph b_fi b_vec b_vlen := by
    intro z
    unfold rp_al pr_av at h1 h0
    exact pk_eq k 47 (fun q => h1 (by omega)) (fun q1 => pk_eq k 92 (fun q => h1 (by omega)) (fun q2 => pk_eq k 34 (fun q => h1 (by omega)) (fun q3 => pk_eq k 64 (fun q => h1 (by omega)) (fun q4 => pk_eq k 40 (fun q => h1 (by omega)) (fun q5 => pk_eq k 41 (fun q => h1 (by omega)) (fun q6 => h0 (by
      rintro (q | q | q | q | q)
      · exact z q
      · omega
      · exact q4 q
      · exact q5 q
      · exact q6 q)))))))
  unfold wpY_putChar
  refine yv_vb hk (fun e => br_f (by decide) (h1 (Or.inl (Or.inl e)))) (fun e => br_t rfl ?_)
  refine pk_lt k 48 (fun q => h20 ?_) (fun q => pk_le k 57 (fun q1 => h1 (Or.inl (Or.inr ⟨q, q1⟩))) (fun q1 => h20 ?_))
  · rintro (z | z)
    · exact e z
    · unfold pr_dig at z; omega
  · rintro (z | z)
    · exact e z
    · unfold pr_dig at z; omega
theorem i_vc_putChar {k : Nat} {u : SX} {v : SY} (I : i_Rel k u v) (hk : k + 3 ≤ 1537) (v1 : Int32) : wpX_putChar (fun r u' => wpY_putChar (fun r' v' => r' = r ∧ i_Rel (k + 3) u' v') v (lw_u16 v1)) u (lw_u16 v1) := by
  have e16 : lw_u16 v1 = nI (v1.toBitVec.toNat % 65536) := pk_char v1
  rw [e16]
  have hw : v1.toBitVec.toNat % 65536 < 65536 := Nat.mod_lt _ (by decide)
  generalize v1.toBitVec.toNat % 65536 = w at hw
  obtain ⟨f_vectorLimit, f_textCount, f_trainHeld, f_rootNode, f_nodeCount, f_wordCount, f_groupFirst, f_atopWaiting, f_groupCount, f_adverbCount, f_canonCount, f_postponedCount, f_frameCount, f_failure, f_lastStatus, a_text, a_nodeKind, a_nodeFirst, a_nodeSecond, a_nodeThird, a_words, a_outerFirst, a_outerAtop, a_canon, a_postponed, a_cells, a_lengths, a_frameNode, a_frameDyadic, a_frameX, a_frameY, a_framePhase⟩ := u
  obtain ⟨g_lim, g_tlen, g_held, g_root, g_clen, g_xn, g_yn, g_rn, g_stat, g_nn, g_wsp, g_depth, g_sp, g_err, b_text, b_canon, b_xs, b_ys, b_res, b_kind, b_nch, b_na, b_nb, b_nc, b_ws, b_fb, b_pend, b_cst, b_fnode, b_fmode, b_fph, b_fi, b_vec, b_vlen⟩ := v
  have II := I
  obtain ⟨L, l1, l2, rfl, rfl, htx, hax, hay, hrs, hst, hh⟩ := I
  obtain ⟨t, t1, rfl, rfl, t4⟩ := htx
  have e1 : (nI t).toNatClampNeg = t := nI_clamp (by omega)
  unfold wpX_putChar
  refine xw_al hw (fun al => br_f (by decide) (pk_lt t 32 (fun q => ⟨vp_in_nI (by omega) (by omega), nm_r (e' := upd a_text t (nI w)) (by rw [e1, ax_nc hw]) (nm_r (nI_1 t) ?_)⟩) (fun q => ?_))) (fun al => br_t rfl ?_)
  · refine yw_al hw (fun _ => ?_) (fun z => absurd al z)
    unfold wY_putChar_61
    refine br_f (by decide) (br_t (nI_lt (b := 32) q (by decide)) ⟨vp_in_nI (by omega) (by omega), nm_r (e' := upd b_text t (nI w)) (by rw [e1, ax_nc hw]) (nm_r (nI_1 t) ⟨rfl, ?_⟩)⟩)
    refine ⟨L, l1, l2, rfl, rfl, ⟨t + 1, by omega, rfl, rfl, fun j hj => ?_⟩, hax, hay, hrs, hst, Or.inl ⟨rfl, rfl, rfl⟩⟩
    by_cases z : j = t
    · subst z; exact ⟨w, al, pk_us, pk_us⟩
    · rw [pk_un z, pk_un z]; exact t4 j (by omega)
  · refine yw_al hw (fun _ => ?_) (fun z => absurd al z)
    unfold wY_putChar_61
    exact br_f (by decide) (br_f (nI_nlt (b := 32) q (by omega)) ⟨rfl, II⟩)
  · refine yw_al hw (fun z => absurd z al) (fun _ => ?_)
    unfold wY_putChar_61
    exact br_t rfl ⟨rfl, II⟩
theorem rl_push {L : Nat} {c l : Nat → Int32} {s : Nat} {b : Nat → Int32} {xs : List Int32} (v : Int32) (h : ve_L c l s xs) (hL : L ≤ 16) (hx : xs.length < L) (hb : ∀ i, i < xs.length → b i = xs.getD i 0) :
    rl_arg L (upd c (16 * s + xs.length) v) (upd l s (nI (xs.length + 1))) s (nI (xs.length + 1)) (upd b xs.length v) := by
  refine ⟨xs ++ [v], ve_app v h (by omega), by rw [ve_len]; omega, by rw [ve_len], fun i hi => ?_⟩
  rw [ve_len] at hi
  by_cases z : i = xs.length
  · rw [z, ve_gr]; exact pk_us
  · rw [ve_gl (by omega), pk_un z]; exact hb i (by omega)
theorem rl_argo {L : Nat} {c l c' l' : Nat → Int32} {P : Nat → Prop} {s : Nat} {g : Int32} {b : Nat → Int32} (hF : ve_F P c l c' l') (hs : ¬ P s) (h : rl_arg L c l s g b) : rl_arg L c' l' s g b := by
  obtain ⟨xs, h1, h2, h3, h4⟩ := h
  exact ⟨xs, ve_o hF hs h1, h2, h3, h4⟩
theorem i_vc_pushArg {k : Nat} {u : SX} {v : SY} (I : i_Rel k u v) (hk : k + 3 ≤ 1537) (v1 : Int32) (v2 : Int32) : wpX_pushArg (fun r u' => wpY_pushArg (fun r' v' => r' = r ∧ i_Rel (k + 3) u' v') v v1 v2) u v1 v2 := by
  obtain ⟨f_vectorLimit, f_textCount, f_trainHeld, f_rootNode, f_nodeCount, f_wordCount, f_groupFirst, f_atopWaiting, f_groupCount, f_adverbCount, f_canonCount, f_postponedCount, f_frameCount, f_failure, f_lastStatus, a_text, a_nodeKind, a_nodeFirst, a_nodeSecond, a_nodeThird, a_words, a_outerFirst, a_outerAtop, a_canon, a_postponed, a_cells, a_lengths, a_frameNode, a_frameDyadic, a_frameX, a_frameY, a_framePhase⟩ := u
  obtain ⟨g_lim, g_tlen, g_held, g_root, g_clen, g_xn, g_yn, g_rn, g_stat, g_nn, g_wsp, g_depth, g_sp, g_err, b_text, b_canon, b_xs, b_ys, b_res, b_kind, b_nch, b_na, b_nb, b_nc, b_ws, b_fb, b_pend, b_cst, b_fnode, b_fmode, b_fph, b_fi, b_vec, b_vlen⟩ := v
  have II := I
  obtain ⟨L, l1, l2, rfl, rfl, htx, hax, hay, hrs, hst, hh⟩ := I
  by_cases a : v1 = 0
  · subst a
    obtain ⟨ax, x1, x2, x3, x4⟩ := hax
    subst x3
    have e1 : (nI ax.length).toNatClampNeg = ax.length := nI_clamp (by omega)
    have xl : a_lengths (0 : Int32).toNatClampNeg = nI ax.length := x1.2.1
    refine br_t rfl ?_
    unfold wX_pushArg_11
    refine ⟨vp_in_iff.mpr (by decide), ?_⟩
    rw [xl]
    refine pk_lt ax.length L (fun q => ?_) (fun q => ?_)
    · refine xv_append (s := 0) (n := ax.length) (by omega) (by omega) x1.2.1 ?_
      refine br_t rfl (br_t (nI_lt q (by omega)) ⟨vp_in_nI (by omega) (by omega), nm_r (e' := upd b_xs ax.length v2) (by rw [e1]) (nm_r (nI_1 _) ⟨rfl, ?_⟩)⟩)
      have hF : ve_F (fun t => t = 0) a_cells a_lengths (upd a_cells (16 * 0 + ax.length) v2) (upd a_lengths 0 (nI (ax.length + 1))) := ve_Fu (by omega)
      exact ⟨L, l1, l2, rfl, rfl, htx, rl_push v2 x1 l2 q x4, rl_argo hF (by decide) hay, rl_argo hF (by decide) hrs, hst, hh⟩
    · exact br_t rfl (br_f (nI_nlt q (by omega)) ⟨rfl, II⟩)
  · refine br_f a ?_
    by_cases b : v1 = 1
    · subst b
      obtain ⟨ay, y1, y2, y3, y4⟩ := hay
      subst y3
      have e1 : (nI ay.length).toNatClampNeg = ay.length := nI_clamp (by omega)
      have yl : a_lengths (1 : Int32).toNatClampNeg = nI ay.length := y1.2.1
      refine br_t rfl ?_
      unfold wX_pushArg_11
      refine ⟨vp_in_iff.mpr (by decide), ?_⟩
      rw [yl]
      refine pk_lt ay.length L (fun q => ?_) (fun q => ?_)
      · refine xv_append (s := 1) (n := ay.length) (by omega) (by omega) y1.2.1 ?_
        refine br_f a (br_t rfl (br_t (nI_lt q (by omega)) ⟨vp_in_nI (by omega) (by omega), nm_r (e' := upd b_ys ay.length v2) (by rw [e1]) (nm_r (nI_1 _) ⟨rfl, ?_⟩)⟩))
        have hF : ve_F (fun t => t = 1) a_cells a_lengths (upd a_cells (16 * 1 + ay.length) v2) (upd a_lengths 1 (nI (ay.length + 1))) := ve_Fu (by omega)
        exact ⟨L, l1, l2, rfl, rfl, htx, rl_argo hF (by decide) hax, rl_push v2 y1 l2 q y4, rl_argo hF (by decide) hrs, hst, hh⟩
      · exact br_f a (br_t rfl (br_f (nI_nlt q (by omega)) ⟨rfl, II⟩))
    · exact br_f b (br_f a (br_f b ⟨rfl, II⟩))
theorem i_vc_parse {k : Nat} {u : SX} {v : SY} (I : i_Rel k u v) (hk : k + 3 ≤ 1537) : wpX_parse (fun r u' => wpY_parse (fun r' v' => r' = r ∧ i_Rel (k + 3) u' v') v) u := by
  obtain ⟨f_vectorLimit, f_textCount, f_trainHeld, f_rootNode, f_nodeCount, f_wordCount, f_groupFirst, f_atopWaiting, f_groupCount, f_adverbCount, f_canonCount, f_postponedCount, f_frameCount, f_failure, f_lastStatus, a_text, a_nodeKind, a_nodeFirst, a_nodeSecond, a_nodeThird, a_words, a_outerFirst, a_outerAtop, a_canon, a_postponed, a_cells, a_lengths, a_frameNode, a_frameDyadic, a_frameX, a_frameY, a_framePhase⟩ := u
  obtain ⟨g_lim, g_tlen, g_held, g_root, g_clen, g_xn, g_yn, g_rn, g_stat, g_nn, g_wsp, g_depth, g_sp, g_err, b_text, b_canon, b_xs, b_ys, b_res, b_kind, b_nch, b_na, b_nb, b_nc, b_ws, b_fb, b_pend, b_cst, b_fnode, b_fmode, b_fph, b_fi, b_vec, b_vlen⟩ := v
  have II := I
  obtain ⟨L, l1, l2, rfl, rfl, htx, hax, hay, hrs, hst, hh⟩ := I
  rcases hh with ⟨rfl, rfl, rfl⟩ | ⟨rfl, rfl, hT⟩
  · obtain ⟨t, t1, rfl, rfl, t4⟩ := htx
    rcases pa_both (f_vectorLimit := nI L) (f_textCount := nI t) (f_trainHeld := 0) (f_rootNode := f_rootNode) (f_nodeCount := f_nodeCount) (f_wordCount := f_wordCount) (f_groupFirst := f_groupFirst) (f_atopWaiting := f_atopWaiting) (f_groupCount := f_groupCount) (f_adverbCount := f_adverbCount) (f_canonCount := 0) (f_postponedCount := f_postponedCount) (f_frameCount := f_frameCount) (f_failure := f_failure) (f_lastStatus := f_lastStatus) (a_text := a_text) (a_nodeKind := a_nodeKind) (a_nodeFirst := a_nodeFirst) (a_nodeSecond := a_nodeSecond) (a_nodeThird := a_nodeThird) (a_words := a_words) (a_outerFirst := a_outerFirst) (a_outerAtop := a_outerAtop) (a_canon := a_canon) (a_postponed := a_postponed) (a_cells := a_cells) (a_lengths := a_lengths) (a_frameNode := a_frameNode) (a_frameDyadic := a_frameDyadic) (a_frameX := a_frameX) (a_frameY := a_frameY) (a_framePhase := a_framePhase) (g_lim := nI L) (g_tlen := nI t) (g_held := 0) (g_root := g_root) (g_clen := g_clen) (g_xn := g_xn) (g_yn := g_yn) (g_rn := g_rn) (g_stat := g_stat) (g_nn := g_nn) (g_wsp := g_wsp) (g_depth := g_depth) (g_sp := g_sp) (g_err := g_err) (b_text := b_text) (b_canon := b_canon) (b_xs := b_xs) (b_ys := b_ys) (b_res := b_res) (b_kind := b_kind) (b_nch := b_nch) (b_na := b_na) (b_nb := b_nb) (b_nc := b_nc) (b_ws := b_ws) (b_fb := b_fb) (b_pend := b_pend) (b_cst := b_cst) (b_fnode := b_fnode) (b_fmode := b_fmode) (b_fph := b_fph) (b_fi := b_fi) (b_vec := b_vec) (b_vlen := b_vlen) t1 rfl rfl rfl rfl t4 with ⟨hX, hY⟩ | ⟨N, q0, K, F, S, T, C, A, D, o', hok, hX, hY⟩
    · refine hX _ fun u' hu' => hY _ fun v' hv' => ⟨rfl, ?_⟩
      obtain ⟨n1, n2, n3, n4, n5, n6, kx, fx, sx, tx, ws, f, o, rfl⟩ := hu'
      obtain ⟨m1, m2, m3, ky, ch, na, nb, nc, ws2, f2, pd, rfl⟩ := hv'
      exact ⟨L, l1, l2, rfl, rfl, ⟨t, t1, rfl, rfl, t4⟩, hax, hay, hrs, hst, Or.inl ⟨rfl, rfl, rfl⟩⟩
    · refine hX _ fun pc ap ac n1 n2 n3 n4 n5 n6 kx fx sx tx ws f o hTX hO => hY _ fun cs ac2 m1 m2 m3 ky ch na nb nc ws2 f2 pd hTY hO2 => ⟨rfl, ?_⟩
      exact ⟨L, l1, l2, rfl, rfl, ⟨t, t1, rfl, rfl, t4⟩, hax, hay, hrs, hst, Or.inr ⟨rfl, rfl, N, q0, K, F, S, T, C, A, D, o', hok, hTX, hTY, rfl, rfl, rfl, rfl, hO, hO2⟩⟩
  · exact br_f (by decide) (br_f (by decide) ⟨rfl, II⟩)
theorem i_wy {g_lim g_tlen g_held g_root g_clen g_xn g_yn g_rn g_stat g_nn g_wsp g_depth g_sp g_err : Int32} {b_text b_canon b_xs b_ys b_res b_kind b_nch b_na b_nb b_nc b_ws b_fb b_pend b_cst b_fnode b_fmode b_fph b_fi b_vec b_vlen : Nat → Int32} {P : Int32 → SY → Prop} (d : Bool) (h : wY_apply_12 P (xm_m d) g_lim g_tlen g_held g_root g_clen g_xn g_yn g_rn g_stat g_nn g_wsp g_depth g_sp g_err b_text b_canon b_xs b_ys b_res b_kind b_nch b_na b_nb b_nc b_ws b_fb b_pend b_cst b_fnode b_fmode b_fph b_fi b_vec b_vlen) : wpY_apply P (g_lim, g_tlen, g_held, g_root, g_clen, g_xn, g_yn, g_rn, g_stat, g_nn, g_wsp, g_depth, g_sp, g_err, b_text, b_canon, b_xs, b_ys, b_res, b_kind, b_nch, b_na, b_nb, b_nc, b_ws, b_fb, b_pend, b_cst, b_fnode, b_fmode, b_fph, b_fi, b_vec, b_vlen) (xm_m d) := by
  cases d
  · exact br_t rfl h
  · exact br_f (by decide) (br_t rfl h)
theorem i_ap {f_vectorLimit f_textCount f_trainHeld f_rootNode f_nodeCount f_wordCount f_groupFirst f_atopWaiting f_groupCount f_adverbCount f_canonCount f_postponedCount f_frameCount f_failure f_lastStatus : Int32} {a_text a_nodeKind a_nodeFirst a_nodeSecond a_nodeThird a_words a_outerFirst a_outerAtop a_canon a_postponed a_cells a_lengths a_frameNode a_frameDyadic a_frameX a_frameY a_framePhase : Nat → Int32} {g_lim g_tlen g_held g_root g_clen g_xn g_yn g_rn g_stat g_nn g_wsp g_depth g_sp g_err : Int32} {b_text b_canon b_xs b_ys b_res b_kind b_nch b_na b_nb b_nc b_ws b_fb b_pend b_cst b_fnode b_fmode b_fph b_fi b_vec b_vlen : Nat → Int32} {k : Nat} (d : Bool) (I : i_Rel k (f_vectorLimit, f_textCount, f_trainHeld, f_rootNode, f_nodeCount, f_wordCount, f_groupFirst, f_atopWaiting, f_groupCount, f_adverbCount, f_canonCount, f_postponedCount, f_frameCount, f_failure, f_lastStatus, a_text, a_nodeKind, a_nodeFirst, a_nodeSecond, a_nodeThird, a_words, a_outerFirst, a_outerAtop, a_canon, a_postponed, a_cells, a_lengths, a_frameNode, a_frameDyadic, a_frameX, a_frameY, a_framePhase) (g_lim, g_tlen, g_held, g_root, g_clen, g_xn, g_yn, g_rn, g_stat, g_nn, g_wsp, g_depth, g_sp, g_err, b_text, b_canon, b_xs, b_ys, b_res, b_kind, b_nch, b_na, b_nb, b_nc, b_ws, b_fb, b_pend, b_cst, b_fnode, b_fmode, b_fph, b_fi, b_vec, b_vlen)) :
    wX_apply_12 (fun r u' => wpY_apply (fun r' v' => r' = r ∧ i_Rel (k + 3) u' v') (g_lim, g_tlen, g_held, g_root, g_clen, g_xn, g_yn, g_rn, g_stat, g_nn, g_wsp, g_depth, g_sp, g_err, b_text, b_canon, b_xs, b_ys, b_res, b_kind, b_nch, b_na, b_nb, b_nc, b_ws, b_fb, b_pend, b_cst, b_fnode, b_fmode, b_fph, b_fi, b_vec, b_vlen) (xm_m d)) (xm_m d) f_vectorLimit f_textCount f_trainHeld f_rootNode f_nodeCount f_wordCount f_groupFirst f_atopWaiting f_groupCount f_adverbCount f_canonCount f_postponedCount f_frameCount f_failure f_lastStatus a_text a_nodeKind a_nodeFirst a_nodeSecond a_nodeThird a_words a_outerFirst a_outerAtop a_canon a_postponed a_cells a_lengths a_frameNode a_frameDyadic a_frameX a_frameY a_framePhase := by
  have II := I
  obtain ⟨L, l1, l2, rfl, rfl, htx, hax, hay, hrs, hst, hh⟩ := I
  obtain ⟨t, t1, rfl, rfl, t4⟩ := htx
  obtain ⟨ax, x1, x2, x3, x4⟩ := hax
  obtain ⟨ay, y1, y2, y3, y4⟩ := hay
  rcases hh with ⟨rfl, rfl, rfl⟩ | ⟨rfl, rfl, N, q0, K, F, S, T, C, A, D, o', hok, hTX, hTY, hr, hr2, hc1, hc2, hO, hO2⟩
  · exact br_t rfl (i_wy d (br_t rfl ⟨rfl, II⟩))
  · obtain ⟨p1, p2, p3, p4, p5, p6, p7⟩ := hok
    obtain ⟨e, R, he, hX, hY⟩ := ap_both (f_textCount := nI t) (f_trainHeld := 1) (f_rootNode := f_rootNode) (f_nodeCount := f_nodeCount) (f_wordCount := f_wordCount) (f_groupFirst := f_groupFirst) (f_atopWaiting := f_atopWaiting) (f_groupCount := f_groupCount) (f_adverbCount := f_adverbCount) (f_canonCount := f_canonCount) (f_postponedCount := f_postponedCount) (f_lastStatus := f_lastStatus) (a_text := a_text) (a_nodeKind := a_nodeKind) (a_nodeFirst := a_nodeFirst) (a_nodeSecond := a_nodeSecond) (a_nodeThird := a_nodeThird) (a_words := a_words) (a_outerFirst := a_outerFirst) (a_outerAtop := a_outerAtop) (a_canon := a_canon) (a_postponed := a_postponed) (a_cells := a_cells) (a_lengths := a_lengths) (a_frameNode := a_frameNode) (a_frameDyadic := a_frameDyadic) (a_frameX := a_frameX) (a_frameY := a_frameY) (a_framePhase := a_framePhase) (g_tlen := nI t) (g_held := 1) (g_root := g_root) (g_clen := g_clen) (g_xn := g_xn) (g_yn := g_yn) (g_rn := g_rn) (g_stat := g_stat) (g_nn := g_nn) (g_wsp := g_wsp) (g_depth := g_depth) (g_sp := g_sp) (g_err := g_err) (b_text := b_text) (b_canon := b_canon) (b_xs := b_xs) (b_ys := b_ys) (b_res := b_res) (b_kind := b_kind) (b_nch := b_nch) (b_na := b_na) (b_nb := b_nb) (b_nc := b_nc) (b_ws := b_ws) (b_fb := b_fb) (b_pend := b_pend) (b_cst := b_cst) (b_fnode := b_fnode) (b_fmode := b_fmode) (b_fph := b_fph) (b_fi := b_fi) (b_vec := b_vec) (b_vlen := b_vlen) d l2 p2 p1 hTX hTY p3 p4 p5 hr hr2 x1 y1 x3 y3 x4 y4
    have go : wX_apply_46 (fun r u' => wpY_apply (fun r' v' => r' = r ∧ i_Rel (k + 3) u' v') (nI L, nI t, 1, g_root, g_clen, g_xn, g_yn, g_rn, g_stat, g_nn, g_wsp, g_depth, g_sp, g_err, b_text, b_canon, b_xs, b_ys, b_res, b_kind, b_nch, b_na, b_nb, b_nc, b_ws, b_fb, b_pend, b_cst, b_fnode, b_fmode, b_fph, b_fi, b_vec, b_vlen) (xm_m d)) (xm_b d) f_rootNode (nI L) (nI t) 1 f_rootNode f_nodeCount f_wordCount f_groupFirst f_atopWaiting f_groupCount f_adverbCount f_canonCount f_postponedCount 0 0 f_lastStatus a_text a_nodeKind a_nodeFirst a_nodeSecond a_nodeThird a_words a_outerFirst a_outerAtop a_canon a_postponed a_cells a_lengths a_frameNode a_frameDyadic a_frameX a_frameY a_framePhase := by
      refine hX _ fun fl fc c l fn fd fx fy fp c0 c1 c2 => i_wy d (br_f (by decide) ?_)
      refine hY _ fun er sp vc vl fn2 fm fp2 fi rs hrs2 => ⟨rfl, ?_⟩
      exact ⟨L, l1, l2, rfl, rfl, ⟨t, t1, rfl, rfl, t4⟩, ⟨ax, c0, x2, x3, x4⟩, ⟨ay, c1, y2, y3, y4⟩, ⟨_, c2, c2.1, rfl, hrs2⟩, rfl, Or.inr ⟨rfl, rfl, N, q0, K, F, S, T, C, A, D, o', ⟨p1, p2, p3, p4, p5, p6, p7⟩, hTX, hTY, hr, hr2, hc1, hc2, hO, hO2⟩⟩
    refine br_f (by decide) (ys_d2 d (fun hd => ?_) (fun hd => ?_))
    · subst hd; exact go
    · subst hd; exact go
theorem i_vc_apply {k : Nat} {u : SX} {v : SY} (I : i_Rel k u v) (hk : k + 3 ≤ 1537) (v1 : Int32) : wpX_apply (fun r u' => wpY_apply (fun r' v' => r' = r ∧ i_Rel (k + 3) u' v') v v1) u v1 := by
  obtain ⟨f_vectorLimit, f_textCount, f_trainHeld, f_rootNode, f_nodeCount, f_wordCount, f_groupFirst, f_atopWaiting, f_groupCount, f_adverbCount, f_canonCount, f_postponedCount, f_frameCount, f_failure, f_lastStatus, a_text, a_nodeKind, a_nodeFirst, a_nodeSecond, a_nodeThird, a_words, a_outerFirst, a_outerAtop, a_canon, a_postponed, a_cells, a_lengths, a_frameNode, a_frameDyadic, a_frameX, a_frameY, a_framePhase⟩ := u
  obtain ⟨g_lim, g_tlen, g_held, g_root, g_clen, g_xn, g_yn, g_rn, g_stat, g_nn, g_wsp, g_depth, g_sp, g_err, b_text, b_canon, b_xs, b_ys, b_res, b_kind, b_nch, b_na, b_nb, b_nc, b_ws, b_fb, b_pend, b_cst, b_fnode, b_fmode, b_fph, b_fi, b_vec, b_vlen⟩ := v
  by_cases a : v1 = 1
  · subst a
    exact br_t rfl (i_ap false I)
  · by_cases b : v1 = 2
    · subst b
      exact br_f a (br_t rfl (i_ap true I))
    · exact br_f a (br_f b (br_f a (br_f b ⟨rfl, I⟩)))
