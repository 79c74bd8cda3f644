/-! the reference's vectors -/
theorem yv_copyL {g_lim g_tlen g_held g_root g_clen g_xn g_yn g_rn g_stat g_nn g_wsp g_depth g_sp g_err : Int32} {b_text b_canon b_xs b_ys b_res b_kind b_nch b_na b_nb b_nc b_ws b_fb b_pend b_cst b_fnode b_fmode b_fph b_fi b_vec b_vlen : Nat → Int32} {post : SY → Prop} {q s : Nat} (hq : q < 645) (hs : s < 645) (hqs : q ≠ s)
    (h : ∀ c l, ve_F (fun t => t = s) b_vec b_vlen c l → (∀ xs, ve_L b_vec b_vlen q xs → ve_L c l s xs) → post (g_lim, g_tlen, g_held, g_root, g_clen, g_xn, g_yn, g_rn, g_stat, g_nn, g_wsp, g_depth, g_sp, g_err, b_text, b_canon, b_xs, b_ys, b_res, b_kind, b_nch, b_na, b_nb, b_nc, b_ws, b_fb, b_pend, b_cst, b_fnode, b_fmode, b_fph, b_fi, c, l)) :
    ∀ (d i : Nat) (c : Nat → Int32), i + d = 16 → (∀ j, j < i → c (16 * s + j) = b_vec (16 * q + j)) → ve_F (fun t => t = s) b_vec b_vlen c b_vlen →
    ∀ n, d < n → wY_copySlot_25 post (nI q) (nI s) g_lim g_tlen g_held g_root g_clen g_xn g_yn g_rn g_stat g_nn g_wsp g_depth g_sp g_err n (nI i) b_text b_canon b_xs b_ys b_res b_kind b_nch b_na b_nb b_nc b_ws b_fb b_pend b_cst b_fnode b_fmode b_fph b_fi c b_vlen := by
  have e1 : (nI q).toNatClampNeg = q := nI_clamp (by omega)
  have e2 : (nI s).toNatClampNeg = s := nI_clamp (by omega)
  intro d
  induction d with
  | zero =>
    intro i c hi hc hF n hn
    obtain ⟨n, rfl⟩ : ∃ k, n = k + 1 := ⟨n - 1, by omega⟩
    have e : i = 16 := by omega
    subst e
    refine br_t (by decide) ⟨vp_in_nI hq (by omega), vp_in_nI hs (by omega), nm_r (e' := upd b_vlen s (b_vlen q)) (by rw [e1, e2]) (h c _ (ve_Ft hF ve_Fl) fun xs hx => ?_)⟩
    exact ⟨hx.1, pk_us.trans hx.2.1, fun j hj => (hc j (by have := hx.1; omega)).trans (hx.2.2 j hj)⟩
  | succ d ih =>
    intro i c hi hc hF n hn
    obtain ⟨n, rfl⟩ : ∃ k, n = k + 1 := ⟨n - 1, by omega⟩
    have e3 : (nI (16 * q + i)).toNatClampNeg = 16 * q + i := nI_clamp (by omega)
    have e4 : (nI (16 * s + i)).toNatClampNeg = 16 * s + i := nI_clamp (by omega)
    refine br_f (nI_ge (b := 16) (by omega) (by decide)) ⟨by rw [ax_mul]; exact vp_in_nI (by omega) (by omega), by rw [ax_mul]; exact vp_in_nI (by omega) (by omega), nm_r (e' := upd c (16 * s + i) (b_vec (16 * q + i))) (by rw [ax_mul, ax_mul, e3, e4, (hF q hqs).2 i (by omega)]) (nm_r (nI_1 i) ?_)⟩
    refine ih (i + 1) _ (by omega) (fun j hj => ?_) (ve_Ft hF (ve_Fc (by omega))) n (by omega)
    by_cases z : j = i
    · rw [z]; exact pk_us
    · rw [pk_un (by omega)]; exact hc j (by omega)
theorem yv_copy {g_lim g_tlen g_held g_root g_clen g_xn g_yn g_rn g_stat g_nn g_wsp g_depth g_sp g_err : Int32} {b_text b_canon b_xs b_ys b_res b_kind b_nch b_na b_nb b_nc b_ws b_fb b_pend b_cst b_fnode b_fmode b_fph b_fi b_vec b_vlen : Nat → Int32} {post : SY → Prop} {q s : Nat} (hq : q < 645) (hs : s < 645) (hqs : q ≠ s)
    (h : ∀ c l, ve_F (fun t => t = s) b_vec b_vlen c l → (∀ xs, ve_L b_vec b_vlen q xs → ve_L c l s xs) → post (g_lim, g_tlen, g_held, g_root, g_clen, g_xn, g_yn, g_rn, g_stat, g_nn, g_wsp, g_depth, g_sp, g_err, b_text, b_canon, b_xs, b_ys, b_res, b_kind, b_nch, b_na, b_nb, b_nc, b_ws, b_fb, b_pend, b_cst, b_fnode, b_fmode, b_fph, b_fi, c, l)) :
    wpY_copySlot post (g_lim, g_tlen, g_held, g_root, g_clen, g_xn, g_yn, g_rn, g_stat, g_nn, g_wsp, g_depth, g_sp, g_err, b_text, b_canon, b_xs, b_ys, b_res, b_kind, b_nch, b_na, b_nb, b_nc, b_ws, b_fb, b_pend, b_cst, b_fnode, b_fmode, b_fph, b_fi, b_vec, b_vlen) (nI q) (nI s) := by
  refine br_f (nI_pos (by omega)) (br_f (nI_ge (b := 645) hq (by decide)) (br_f (nI_pos (by omega)) (br_t (nI_lt (b := 645) hs (by decide)) ⟨17, ?_⟩)))
  exact yv_copyL hq hs hqs h 16 0 b_vec (by omega) (fun j hj => by omega) (ve_Fr _ _ _) 17 (by omega)
theorem yv_one {g_lim g_tlen g_held g_root g_clen g_xn g_yn g_rn g_stat g_nn g_wsp g_depth g_sp g_err : Int32} {b_text b_canon b_xs b_ys b_res b_kind b_nch b_na b_nb b_nc b_ws b_fb b_pend b_cst b_fnode b_fmode b_fph b_fi b_vec b_vlen : Nat → Int32} {post : SY → Prop} {s : Nat} {v : Int32} (hs : s < 645)
    (h : ∀ c l, ve_F (fun t => t = s) b_vec b_vlen c l → ve_L c l s [v] → post (g_lim, g_tlen, g_held, g_root, g_clen, g_xn, g_yn, g_rn, g_stat, g_nn, g_wsp, g_depth, g_sp, g_err, b_text, b_canon, b_xs, b_ys, b_res, b_kind, b_nch, b_na, b_nb, b_nc, b_ws, b_fb, b_pend, b_cst, b_fnode, b_fmode, b_fph, b_fi, c, l)) :
    wpY_setOne post (g_lim, g_tlen, g_held, g_root, g_clen, g_xn, g_yn, g_rn, g_stat, g_nn, g_wsp, g_depth, g_sp, g_err, b_text, b_canon, b_xs, b_ys, b_res, b_kind, b_nch, b_na, b_nb, b_nc, b_ws, b_fb, b_pend, b_cst, b_fnode, b_fmode, b_fph, b_fi, b_vec, b_vlen) (nI s) v := by
  have e1 : (nI s).toNatClampNeg = s := nI_clamp (by omega)
  have e2 : (nI (16 * s)).toNatClampNeg = 16 * s := nI_clamp (by omega)
  refine br_f (nI_pos (by omega)) (br_t (nI_lt (b := 645) hs (by decide)) ⟨by rw [ax_mul0]; exact vp_in_nI (by omega) (by omega), nm_r (e' := upd b_vec (16 * s) v) (by rw [ax_mul0, e2]) ⟨vp_in_nI hs (by omega), nm_r (e' := upd b_vlen s 1) (by rw [e1]) (h _ _ ?_ ve_one)⟩⟩)
  have := ve_Fu (c := b_vec) (l := b_vlen) (s := s) (n := 0) (x := v) (y := 1) (by decide)
  rw [Nat.add_zero] at this
  exact this
theorem yv_put {g_lim g_tlen g_held g_root g_clen g_xn g_yn g_rn g_stat g_nn g_wsp g_depth g_sp g_err : Int32} {b_text b_canon b_xs b_ys b_res b_kind b_nch b_na b_nb b_nc b_ws b_fb b_pend b_cst b_fnode b_fmode b_fph b_fi b_vec b_vlen : Nat → Int32} {post : SY → Prop} {s : Nat} {w : List Int32} {v : Int32} (hs : s < 645) (hw : ve_L b_vec b_vlen s w) (hw16 : w.length < 16)
    (h : ∀ c l, ve_F (fun t => t = s) b_vec b_vlen c l → ve_L c l s (w ++ [v]) → post (g_lim, g_tlen, g_held, g_root, g_clen, g_xn, g_yn, g_rn, g_stat, g_nn, g_wsp, g_depth, g_sp, g_err, b_text, b_canon, b_xs, b_ys, b_res, b_kind, b_nch, b_na, b_nb, b_nc, b_ws, b_fb, b_pend, b_cst, b_fnode, b_fmode, b_fph, b_fi, c, l)) :
    wpY_put post (g_lim, g_tlen, g_held, g_root, g_clen, g_xn, g_yn, g_rn, g_stat, g_nn, g_wsp, g_depth, g_sp, g_err, b_text, b_canon, b_xs, b_ys, b_res, b_kind, b_nch, b_na, b_nb, b_nc, b_ws, b_fb, b_pend, b_cst, b_fnode, b_fmode, b_fph, b_fi, b_vec, b_vlen) (nI s) (nI w.length) v := by
  have e1 : (nI s).toNatClampNeg = s := nI_clamp (by omega)
  have e2 : (nI (16 * s + w.length)).toNatClampNeg = 16 * s + w.length := nI_clamp (by omega)
  exact br_f (nI_pos (by omega)) (br_f (nI_ge (b := 645) hs (by decide)) (br_f (nI_pos (by omega)) (br_t (nI_lt (b := 16) hw16 (by decide)) ⟨by rw [ax_mul]; exact vp_in_nI (by omega) (by omega), nm_r (e' := upd b_vec (16 * s + w.length) v) (by rw [ax_mul, e2]) ⟨vp_in_nI hs (by omega), nm_r (e' := upd b_vlen s (nI (w.length + 1))) (by rw [e1, nI_1]) (h _ _ (ve_Fu hw16) (ve_app v hw hw16))⟩⟩)))
theorem yv_pairs {g_lim g_tlen g_held g_root g_clen g_xn g_yn g_rn g_stat g_nn g_wsp g_depth g_sp g_err : Int32} {b_text b_canon b_xs b_ys b_res b_kind b_nch b_na b_nb b_nc b_ws b_fb b_pend b_cst b_fnode b_fmode b_fph b_fi b_vec b_vlen : Nat → Int32} {post : Int32 → Prop} {q s : Nat} {xs ys : List Int32} (hq : q < 645) (hs : s < 645)
    (hx : ve_L b_vec b_vlen q xs) (hy : ve_L b_vec b_vlen s ys) (h : post (xq_c (pr_cnt xs.length ys.length))) :
    wpY_pairs post (g_lim, g_tlen, g_held, g_root, g_clen, g_xn, g_yn, g_rn, g_stat, g_nn, g_wsp, g_depth, g_sp, g_err, b_text, b_canon, b_xs, b_ys, b_res, b_kind, b_nch, b_na, b_nb, b_nc, b_ws, b_fb, b_pend, b_cst, b_fnode, b_fmode, b_fph, b_fi, b_vec, b_vlen) (nI q) (nI s) := by
  have e1 : (nI q).toNatClampNeg = q := nI_clamp (by omega)
  have e2 : (nI s).toNatClampNeg = s := nI_clamp (by omega)
  refine ⟨vp_in_nI hq (by omega), nm_r (e' := nI xs.length) (by rw [e1]; exact hx.2.1) ⟨vp_in_nI hs (by omega), nm_r (e' := nI ys.length) (by rw [e2]; exact hy.2.1) ?_⟩⟩
  exact xq_br hx.1 hy.1 h
theorem yv_call {g_lim g_tlen g_held g_root g_clen g_xn g_yn g_rn g_stat g_nn g_wsp g_depth g_err : Int32} {b_text b_canon b_xs b_ys b_res b_kind b_nch b_na b_nb b_nc b_ws b_fb b_pend b_cst b_fnode b_fmode b_fph b_fi b_vec b_vlen : Nat → Int32} {post : SY → Prop} {f n' nx : Nat} {m : Int32} (hf : f < 127)
    (h : post (g_lim, g_tlen, g_held, g_root, g_clen, g_xn, g_yn, g_rn, g_stat, g_nn, g_wsp, g_depth, nI (f + 1), g_err, b_text, b_canon, b_xs, b_ys, b_res, b_kind, b_nch, b_na, b_nb, b_nc, b_ws, b_fb, b_pend, b_cst, upd b_fnode (f + 1) (nI n'), upd b_fmode (f + 1) m, upd (upd b_fph f (nI nx)) (f + 1) 0, upd b_fi (f + 1) 0, b_vec, b_vlen)) :
    wpY_call post (g_lim, g_tlen, g_held, g_root, g_clen, g_xn, g_yn, g_rn, g_stat, g_nn, g_wsp, g_depth, nI f, g_err, b_text, b_canon, b_xs, b_ys, b_res, b_kind, b_nch, b_na, b_nb, b_nc, b_ws, b_fb, b_pend, b_cst, b_fnode, b_fmode, b_fph, b_fi, b_vec, b_vlen) (nI n') m (nI nx) := by
  have e1 : (nI f).toNatClampNeg = f := nI_clamp (by omega)
  have e2 : (nI (f + 1)).toNatClampNeg = f + 1 := nI_clamp (by omega)
  have i2 : vp_in (nI (f + 1)) 128 := vp_in_nI (by omega) (by omega)
  have l2 : nI (f + 1) < 128 := nI_lt (b := 128) (by omega) (by decide)
  simp only [wpY_call, e1, nI_1, e2, forall_eq, l2]
  exact ⟨vp_in_nI (by omega) (by omega), fun _ => ⟨i2, i2, i2, i2, h⟩, fun z => absurd trivial z⟩
