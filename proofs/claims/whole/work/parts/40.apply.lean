/-! apply: both sides run to the same end -/
theorem ap_ne {e : Nat} (h0 : e ≠ 0) (h : e ≤ 3) : ¬ nI e = 0 := nI_ne0 (by omega) (by omega)
theorem ap_Xe {f_textCount f_trainHeld f_rootNode f_nodeCount f_wordCount f_groupFirst f_atopWaiting f_groupCount f_adverbCount f_canonCount f_postponedCount f_lastStatus : Int32} {a_text a_nodeKind a_nodeFirst a_nodeSecond a_nodeThird a_words a_outerFirst a_outerAtop a_canon a_postponed : Nat → Int32} {post : Int32 → SX → Prop} {lim e q : Nat} {K : Nat → Nat} {ax ay R : List Int32} {u : SX} (he : e ≤ 3)
    (hu : am_fin (xr_F lim ax ay f_textCount f_trainHeld f_rootNode f_nodeCount f_wordCount f_groupFirst f_atopWaiting f_groupCount f_adverbCount f_canonCount f_postponedCount f_lastStatus a_text a_nodeKind a_nodeFirst a_nodeSecond a_nodeThird a_words a_outerFirst a_outerAtop a_canon a_postponed) (xr_R lim K ax ay f_textCount f_trainHeld f_rootNode f_nodeCount f_wordCount f_groupFirst f_atopWaiting f_groupCount f_adverbCount f_canonCount f_postponedCount f_lastStatus a_text a_nodeKind a_nodeFirst a_nodeSecond a_nodeThird a_words a_outerFirst a_outerAtop a_canon a_postponed) e R u)
    (h : ∀ fl fc c l fn fd fx fy fp, ve_L c l 0 ax → ve_L c l 1 ay → ve_L c l 2 (if e = 0 then R else []) → post (nI e) (nI lim, f_textCount, f_trainHeld, f_rootNode, f_nodeCount, f_wordCount, f_groupFirst, f_atopWaiting, f_groupCount, f_adverbCount, f_canonCount, f_postponedCount, fc, fl, nI e, a_text, a_nodeKind, a_nodeFirst, a_nodeSecond, a_nodeThird, a_words, a_outerFirst, a_outerAtop, a_canon, a_postponed, c, l, fn, fd, fx, fy, fp)) : xr_W post 1 q u := by
  rcases hu with ⟨e0, fc, c, l, fn, fd, fx, fy, fp, rfl, hS⟩ | ⟨e0, fc, c, l, fn, fd, fx, fy, fp, rfl, h0, h1⟩
  · subst e0
    obtain ⟨hc, h0, h1, -, h3⟩ := hS
    have m89 : wX_apply_89 post (nI lim) f_textCount f_trainHeld f_rootNode f_nodeCount f_wordCount f_groupFirst f_atopWaiting f_groupCount f_adverbCount f_canonCount f_postponedCount fc 0 f_lastStatus a_text a_nodeKind a_nodeFirst a_nodeSecond a_nodeThird a_words a_outerFirst a_outerAtop a_canon a_postponed c l fn fd fx fy fp := by
      refine br_t rfl ?_
      refine xv_copy (q := 3) (s := 2) (by omega) (by omega) (by decide) (h3 trivial) fun c' l' hF hL => ?_
      exact h _ _ _ _ _ _ _ _ _ (ve_o hF (by decide) h0) (ve_o hF (by decide) h1) hL
    have fc0 : fc ≤ 0 := by rw [hc]; decide
    exact br_c (fun _ => m89) (fun _ => br_t fc0 m89)
  · have m89 : wX_apply_89 post (nI lim) f_textCount f_trainHeld f_rootNode f_nodeCount f_wordCount f_groupFirst f_atopWaiting f_groupCount f_adverbCount f_canonCount f_postponedCount fc (nI e) f_lastStatus a_text a_nodeKind a_nodeFirst a_nodeSecond a_nodeThird a_words a_outerFirst a_outerAtop a_canon a_postponed c l fn fd fx fy fp := by
      refine br_f (ap_ne e0 he) (nm_e ?_)
      refine h _ _ _ _ _ _ _ _ _ (ve_o ve_Fl (by decide) h0) (ve_o ve_Fl (by decide) h1) ?_
      rw [if_neg e0]
      exact ve_nil
    exact br_c (fun _ => m89) (fun _ => br_c (fun _ => m89) (fun _ => br_f (ap_ne e0 he) m89))
theorem ap_res {g_lim g_tlen g_held g_root g_clen g_xn g_yn g_rn g_stat g_nn g_wsp g_depth g_sp g_err : Int32} {b_text b_canon b_xs b_ys b_kind b_nch b_na b_nb b_nc b_ws b_fb b_pend b_cst b_fnode b_fmode b_fph b_fi b_vec b_vlen : Nat → Int32} {post : Int32 → SY → Prop} {R : List Int32} (hR : ve_L b_vec b_vlen 3 R)
    (h : ∀ rs, (∀ i, i < R.length → rs i = R.getD i 0) → post g_err (g_lim, g_tlen, g_held, g_root, g_clen, g_xn, g_yn, g_rn, g_err, g_nn, g_wsp, g_depth, g_sp, g_err, b_text, b_canon, b_xs, b_ys, rs, b_kind, b_nch, b_na, b_nb, b_nc, b_ws, b_fb, b_pend, b_cst, b_fnode, b_fmode, b_fph, b_fi, b_vec, b_vlen)) :
    ∀ (d i : Nat) (rs : Nat → Int32), i + d = 16 → (∀ j, j < i → rs j = b_vec (48 + j)) → ∀ n, d < n → wY_apply_181 post g_lim g_tlen g_held g_root g_clen g_xn g_yn g_rn g_stat g_nn g_wsp g_depth g_sp g_err n (nI i) b_text b_canon b_xs b_ys rs b_kind b_nch b_na b_nb b_nc b_ws b_fb b_pend b_cst b_fnode b_fmode b_fph b_fi b_vec b_vlen := by
  intro d
  induction d with
  | zero =>
    intro i rs hi hI n hn
    obtain ⟨n, rfl⟩ : ∃ k, n = k + 1 := ⟨n - 1, by omega⟩
    have e : i = 16 := by omega
    subst e
    refine br_t (by decide) (h rs fun j hj => ?_)
    rw [hI j (by have := hR.1; omega)]
    exact hR.2.2 j hj
  | succ d ih =>
    intro i rs hi hI n hn
    obtain ⟨n, rfl⟩ : ∃ k, n = k + 1 := ⟨n - 1, by omega⟩
    have e1 : (nI i).toNatClampNeg = i := nI_clamp (by omega)
    have e2 : (nI (48 + i)).toNatClampNeg = 48 + i := nI_clamp (by omega)
    have e3 : (48 : Int32) + nI i = nI (48 + i) := nI_add 48 i
    refine br_f (nI_ge (b := 16) (by omega) (by decide)) ⟨by rw [e3]; exact vp_in_nI (by omega) (by omega), vp_in_nI (by omega) (by omega), nm_r (e' := upd rs i (b_vec (48 + i))) (by rw [e3, e1, e2]) (nm_r (nI_1 i) ?_)⟩
    refine ih (i + 1) _ (by omega) (fun j hj => ?_) n (by omega)
    by_cases z : j = i
    · rw [z]; exact pk_us
    · rw [pk_un z]; exact hI j (by omega)
theorem ap_Ye {g_tlen g_held g_root g_clen g_xn g_yn g_rn g_stat g_nn g_wsp g_depth : Int32} {b_text b_canon b_xs b_ys b_res b_kind b_nch b_na b_nb b_nc b_ws b_fb b_pend b_cst : Nat → Int32} {post : Int32 → SY → Prop} {lim e q : Nat} {K : Nat → Nat} {R : List Int32} {v : SY} (he : e ≤ 3)
    (hv : am_fin (yr_F lim g_tlen g_held g_root g_clen g_xn g_yn g_rn g_stat g_nn g_wsp g_depth b_text b_canon b_xs b_ys b_res b_kind b_nch b_na b_nb b_nc b_ws b_fb b_pend b_cst) (yr_R lim K g_tlen g_held g_root g_clen g_xn g_yn g_rn g_stat g_nn g_wsp g_depth b_text b_canon b_xs b_ys b_res b_kind b_nch b_na b_nb b_nc b_ws b_fb b_pend b_cst) e R v)
    (h : ∀ er sp c l fn fm fp fi rs, (∀ i, i < (if e = 0 then R else []).length → rs i = (if e = 0 then R else []).getD i 0) → post (nI e) (nI lim, g_tlen, g_held, g_root, g_clen, g_xn, g_yn, nI (if e = 0 then R else []).length, nI e, g_nn, g_wsp, g_depth, sp, er, b_text, b_canon, b_xs, b_ys, rs, b_kind, b_nch, b_na, b_nb, b_nc, b_ws, b_fb, b_pend, b_cst, fn, fm, fp, fi, c, l)) : yr_W post 1 q v := by
  rcases hv with ⟨e0, sp, c, l, fn, fm, fp, fi, rfl, hS⟩ | ⟨e0, sp, c, l, fn, fm, fp, fi, rfl⟩
  · subst e0
    obtain ⟨hc, -, h3⟩ := hS
    have hR : ve_L c l 3 R := h3 trivial
    have hc' : sp + 1 = 0 := hc
    have sp0 : sp < 0 := by
      have : sp = -1 := by grind
      rw [this]; decide
    have m157 : wY_apply_157 post (nI lim) g_tlen g_held g_root g_clen g_xn g_yn g_rn g_stat g_nn g_wsp g_depth sp 0 b_text b_canon b_xs b_ys b_res b_kind b_nch b_na b_nb b_nc b_ws b_fb b_pend b_cst fn fm fp fi c l := by
      refine br_t rfl (nm_r (e' := nI R.length) hR.2.1 ⟨17, ?_⟩)
      refine ap_res hR (fun rs hrs => ?_) 16 0 b_res (by omega) (fun j hj => by omega) 17 (by omega)
      exact h _ _ _ _ _ _ _ _ rs hrs
    exact br_c (fun _ => m157) (fun _ => br_t sp0 m157)
  · have m157 : wY_apply_157 post (nI lim) g_tlen g_held g_root g_clen g_xn g_yn g_rn g_stat g_nn g_wsp g_depth sp (nI e) b_text b_canon b_xs b_ys b_res b_kind b_nch b_na b_nb b_nc b_ws b_fb b_pend b_cst fn fm fp fi c l := by
      refine br_f (ap_ne e0 he) ?_
      have g := h (nI e) sp c l fn fm fp fi b_res
      rw [if_neg e0] at g
      exact g (fun i hi => absurd hi (Nat.not_lt_zero _))
    exact br_c (fun _ => m157) (fun _ => br_c (fun _ => m157) (fun _ => br_f (ap_ne e0 he) m157))
theorem ap_cp {g_lim g_tlen g_held g_root g_clen g_xn g_yn g_rn g_stat g_nn g_wsp g_depth g_sp g_err : Int32} {b_text b_canon b_xs b_ys b_res b_kind b_nch b_na b_nb b_nc b_ws b_fb b_pend b_cst b_fnode b_fmode b_fph b_fi b_vlen : Nat → Int32} {post : Int32 → SY → Prop} {x1 : Int32} {ax ay : List Int32} (hx : ax.length ≤ 16) (hy : ay.length ≤ 16) (xn : g_xn = nI ax.length) (yn : g_yn = nI ay.length) (vx : ∀ i, i < ax.length → b_xs i = ax.getD i 0) (vy : ∀ i, i < ay.length → b_ys i = ay.getD i 0)
    (h : ∀ c l, ve_L c l 0 ax → ve_L c l 1 ay → ∃ n, wY_apply_127 post n 0 g_lim g_tlen g_held g_root g_clen g_xn g_yn g_rn g_stat g_nn g_wsp g_depth 0 0 b_text b_canon b_xs b_ys b_res b_kind b_nch b_na b_nb b_nc b_ws b_fb b_pend b_cst (upd b_fnode 0 g_root) (upd b_fmode 0 x1) (upd b_fph 0 0) (upd b_fi 0 0) c l) :
    ∀ (d i : Nat) (c : Nat → Int32), i + d = 16 → (∀ j, j < i → c j = b_xs j ∧ c (16 + j) = b_ys j) → ∀ n, d < n → wY_apply_23 post x1 g_lim g_tlen g_held g_root g_clen g_xn g_yn g_rn g_stat g_nn g_wsp g_depth g_sp g_err n (nI i) b_text b_canon b_xs b_ys b_res b_kind b_nch b_na b_nb b_nc b_ws b_fb b_pend b_cst b_fnode b_fmode b_fph b_fi c b_vlen := by
  intro d
  induction d with
  | zero =>
    intro i c hi hI n hn
    obtain ⟨n, rfl⟩ : ∃ k, n = k + 1 := ⟨n - 1, by omega⟩
    have e : i = 16 := by omega
    subst e
    refine br_t (by decide) (nm_e (nm_e (nm_e (nm_e (nm_e (nm_e (h c _ ⟨hx, ?_, fun j hj => ?_⟩ ⟨hy, ?_, fun j hj => ?_⟩)))))))
    · rw [pk_un (by decide), xn]; exact pk_us
    · rw [Nat.mul_zero, Nat.zero_add, (hI j (by omega)).1]; exact vx j hj
    · rw [yn]; exact pk_us
    · rw [Nat.mul_one, (hI j (by omega)).2]; exact vy j hj
  | succ d ih =>
    intro i c hi hI n hn
    obtain ⟨n, rfl⟩ : ∃ k, n = k + 1 := ⟨n - 1, by omega⟩
    have e1 : (nI i).toNatClampNeg = i := nI_clamp (by omega)
    have e2 : (nI (16 + i)).toNatClampNeg = 16 + i := nI_clamp (by omega)
    have e3 : (16 : Int32) + nI i = nI (16 + i) := nI_add 16 i
    have e4 : (0 : Int32) + nI i = nI i := Int32.zero_add _
    refine br_f (nI_ge (b := 16) (by omega) (by decide)) ⟨vp_in_nI (by omega) (by omega), by rw [e4]; exact vp_in_nI (by omega) (by omega), nm_r (e' := upd c i (b_xs i)) (by rw [e4, e1]) ⟨vp_in_nI (by omega) (by omega), by rw [e3]; exact vp_in_nI (by omega) (by omega), nm_r (e' := upd (upd c i (b_xs i)) (16 + i) (b_ys i)) (by rw [e3, e1, e2]) (nm_r (nI_1 i) ?_)⟩⟩
    refine ih (i + 1) _ (by omega) (fun j hj => ?_) n (by omega)
    by_cases z : j = i
    · subst z
      exact ⟨(pk_un (by omega)).trans pk_us, pk_us⟩
    · exact ⟨(pk_un (by omega)).trans ((pk_un z).trans (hI j (by omega)).1), (pk_un (by omega)).trans ((pk_un (by omega)).trans (hI j (by omega)).2)⟩
theorem ap_D {C A D : Nat → Nat} {n : Nat} (h : nd_b C A D n) (hc : C n ≤ 64) (ha : A n ≤ 2) : D n ≤ 1000000 := by
  unfold nd_b at h
  have h1 : 17 ^ A n ≤ 17 ^ 2 := Nat.pow_le_pow_right (by decide) ha
  have h2 : 4 * C n * 17 ^ A n ≤ 4 * 64 * 17 ^ 2 := Nat.mul_le_mul (Nat.mul_le_mul_left 4 hc) h1
  have h3 : 4 * 64 * 17 ^ 2 ≤ 1000000 := by decide
  omega
theorem ap_both {f_textCount f_trainHeld f_rootNode f_nodeCount f_wordCount f_groupFirst f_atopWaiting f_groupCount f_adverbCount f_canonCount f_postponedCount f_lastStatus : Int32} {a_text a_nodeKind a_nodeFirst a_nodeSecond a_nodeThird a_words a_outerFirst a_outerAtop a_canon a_postponed a_cells a_lengths a_frameNode a_frameDyadic a_frameX a_frameY a_framePhase : Nat → Int32} {g_tlen g_held g_root g_clen g_xn g_yn g_rn g_stat g_nn g_wsp g_depth g_sp g_err : Int32} {b_text b_canon b_xs b_ys b_res b_kind b_nch b_na b_nb b_nc b_ws b_fb b_pend b_cst b_fnode b_fmode b_fph b_fi b_vec b_vlen : Nat → Int32} {lim N q0 : Nat} {K F S T C A D : Nat → Nat} {ax ay : List Int32} (d : Bool) (hl : lim ≤ 16) (hN : N ≤ 63)
    (hK : tr_ok N K F S T C A D) (hTX : tr_X N K F S T a_nodeKind a_nodeFirst a_nodeSecond a_nodeThird) (hTY : tr_Y N K F S T b_kind b_nch b_na b_nb b_nc)
    (hq : q0 < N) (hC : C q0 ≤ 64) (hA : A q0 ≤ 2) (hrX : f_rootNode = nI q0) (hrY : g_root = nI q0)
    (h0 : ve_L a_cells a_lengths 0 ax) (h1 : ve_L a_cells a_lengths 1 ay)
    (xn : g_xn = nI ax.length) (yn : g_yn = nI ay.length) (vx : ∀ i, i < ax.length → b_xs i = ax.getD i 0) (vy : ∀ i, i < ay.length → b_ys i = ay.getD i 0) :
    ∃ e R, e ≤ 3 ∧
      (∀ post : Int32 → SX → Prop, (∀ fl fc c l fn fd fx fy fp, ve_L c l 0 ax → ve_L c l 1 ay → ve_L c l 2 (if e = 0 then R else []) → post (nI e) (nI lim, f_textCount, f_trainHeld, f_rootNode, f_nodeCount, f_wordCount, f_groupFirst, f_atopWaiting, f_groupCount, f_adverbCount, f_canonCount, f_postponedCount, fc, fl, nI e, a_text, a_nodeKind, a_nodeFirst, a_nodeSecond, a_nodeThird, a_words, a_outerFirst, a_outerAtop, a_canon, a_postponed, c, l, fn, fd, fx, fy, fp)) →
        wX_apply_46 post (xm_b d) f_rootNode (nI lim) f_textCount f_trainHeld f_rootNode f_nodeCount f_wordCount f_groupFirst f_atopWaiting f_groupCount f_adverbCount f_canonCount f_postponedCount 0 0 f_lastStatus a_text a_nodeKind a_nodeFirst a_nodeSecond a_nodeThird a_words a_outerFirst a_outerAtop a_canon a_postponed a_cells a_lengths a_frameNode a_frameDyadic a_frameX a_frameY a_framePhase) ∧
      (∀ post : Int32 → SY → Prop, (∀ er sp c l fn fm fp fi rs, (∀ i, i < (if e = 0 then R else []).length → rs i = (if e = 0 then R else []).getD i 0) → post (nI e) (nI lim, g_tlen, g_held, g_root, g_clen, g_xn, g_yn, nI (if e = 0 then R else []).length, nI e, g_nn, g_wsp, g_depth, sp, er, b_text, b_canon, b_xs, b_ys, rs, b_kind, b_nch, b_na, b_nb, b_nc, b_ws, b_fb, b_pend, b_cst, fn, fm, fp, fi, c, l)) →
        ∃ n, wY_apply_23 post (xm_m d) (nI lim) g_tlen g_held g_root g_clen g_xn g_yn g_rn g_stat g_nn g_wsp g_depth g_sp g_err n 0 b_text b_canon b_xs b_ys b_res b_kind b_nch b_na b_nb b_nc b_ws b_fb b_pend b_cst b_fnode b_fmode b_fph b_fi b_vec b_vlen) := by
  subst hrX
  subst hrY
  have hM : am_M K F S T D [(q0, d, 0, ax, ay, [])] ≤ D q0 := by
    show am_rem K F S T D q0 0 + 0 ≤ D q0
    rw [Nat.add_zero, ← am_pl K F S T C A D (hK q0 hq).1]
    exact Nat.le_refl _
  have hok : am_ok N K [(q0, d, 0, ax, ay, [])] := ⟨hq, by show q0 + 0 < 63; omega, am_lc0 _ _ h0.1 h1.1, trivial⟩
  have hD := ap_D (hK q0 hq).2 hC hA
  obtain ⟨e, R, q, hqM, he, hX, hY⟩ := am_run hK (xr_s (ax := ax) (ay := ay) f_textCount f_trainHeld (nI q0) f_nodeCount f_wordCount f_groupFirst f_atopWaiting f_groupCount f_adverbCount f_canonCount f_postponedCount f_lastStatus a_text a_nodeKind a_nodeFirst a_nodeSecond a_nodeThird a_words a_outerFirst a_outerAtop a_canon a_postponed hl (by omega) hTX hK) (yr_s g_tlen g_held (nI q0) g_clen g_xn g_yn g_rn g_stat g_nn g_wsp g_depth b_text b_canon b_xs b_ys b_res b_kind b_nch b_na b_nb b_nc b_ws b_fb b_pend b_cst hl (by omega) hTY hK) hl (D q0) [(q0, d, 0, ax, ay, [])] [] hM hok (fun z => absurd z (Nat.lt_irrefl 0))
  refine ⟨e, R, he, fun post hp => ?_, fun post hp => ?_⟩
  · unfold wX_apply_46
    refine xs_enter (m := 0) (sx := 0) (sy := 1) (by decide) ⟨1 + q, ?_⟩
    have g := hX (nI lim, f_textCount, f_trainHeld, nI q0, f_nodeCount, f_wordCount, f_groupFirst, f_atopWaiting, f_groupCount, f_adverbCount, f_canonCount, f_postponedCount, nI 1, 0, f_lastStatus, a_text, a_nodeKind, a_nodeFirst, a_nodeSecond, a_nodeThird, a_words, a_outerFirst, a_outerAtop, a_canon, a_postponed, a_cells, a_lengths, upd a_frameNode 0 (nI q0), upd a_frameDyadic 0 (xm_b d), upd a_frameX 0 (nI 0), upd a_frameY 0 (nI 1), upd a_framePhase 0 0) ⟨_, _, _, _, _, _, _, _, rfl, ⟨rfl, h0, h1, ⟨?_, ⟨?_, ?_, ⟨0, ?_, by decide, by decide, by decide, fun _ => h0⟩, ⟨1, ?_, by decide, by decide, by decide, h1⟩, fun _ z => by omega, fun _ z => absurd z (Nat.lt_irrefl 0)⟩, trivial⟩, fun z => absurd z (Nat.lt_irrefl 0)⟩⟩ post 1 0 (by omega) (fun u' hu' => ap_Xe he hu' hp)
    · exact g
    · exact pk_us
    · exact pk_us
    · exact pk_us
    · exact pk_us
    · exact pk_us
  · refine ⟨17, ?_⟩
    refine ap_cp h0.1 h1.1 xn yn vx vy (fun c l c0 c1 => ⟨1 + q, ?_⟩) 16 0 b_vec (by omega) (fun j hj => by omega) 17 (by omega)
    have g := hY (nI lim, g_tlen, g_held, nI q0, g_clen, g_xn, g_yn, g_rn, g_stat, g_nn, g_wsp, g_depth, 0, 0, b_text, b_canon, b_xs, b_ys, b_res, b_kind, b_nch, b_na, b_nb, b_nc, b_ws, b_fb, b_pend, b_cst, upd b_fnode 0 (nI q0), upd b_fmode 0 (xm_m d), upd b_fph 0 0, upd b_fi 0 0, c, l) ⟨_, _, _, _, _, _, _, rfl, ⟨rfl, ⟨?_, ⟨?_, ?_, fun _ z => absurd z (Nat.lt_irrefl 0), fun _ => c0, c1, fun _ z => by omega, fun _ z => absurd z (Nat.lt_irrefl 0)⟩, trivial⟩, fun z => absurd z (Nat.lt_irrefl 0)⟩⟩ post 1 0 (by omega) (fun v' hv' => ap_Ye he hv' hp)
    · exact g
    · rw [ym_ph2 rfl]; exact pk_us
    · exact pk_us
    · exact pk_us
