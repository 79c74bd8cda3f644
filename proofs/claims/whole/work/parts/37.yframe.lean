/-! the reference: a step, and the loop's -/
theorem ys_leaf {g_tlen g_held g_root g_clen g_xn g_yn g_rn g_stat g_nn g_wsp g_depth : Int32} {b_text b_canon b_xs b_ys b_res b_kind b_nch b_na b_nb b_nc b_ws b_fb b_pend b_cst b_fnode b_fmode b_fph b_fi b_vec b_vlen : Nat → Int32} {post : SY → Prop} {lim N : Nat} {K F S T : Nat → Nat} {R : List Int32} {n : Nat} {d : Bool} {p : Nat} {x y w : List Int32} {r : List am_F} (H : ys_H N K F S T R n d p x y w r b_kind b_nch b_na b_nb b_nc b_vec b_vlen b_fnode b_fmode b_fph b_fi) (hl : lim ≤ 16) (hk : K n < 128) (hk0 : tr_ky (K n) = 0) (hcy : tr_cy (K n) = K n)
    (h : ∀ er sp c l fn fm fp fi, ym_O K n d p x y r R (am_leaf lim (K n) d x y) er sp c l fn fm fp fi → post (nI lim, g_tlen, g_held, g_root, g_clen, g_xn, g_yn, g_rn, g_stat, g_nn, g_wsp, g_depth, sp, er, b_text, b_canon, b_xs, b_ys, b_res, b_kind, b_nch, b_na, b_nb, b_nc, b_ws, b_fb, b_pend, b_cst, fn, fm, fp, fi, c, l)) : wpY_step post (nI lim, g_tlen, g_held, g_root, g_clen, g_xn, g_yn, g_rn, g_stat, g_nn, g_wsp, g_depth, nI r.length, 0, b_text, b_canon, b_xs, b_ys, b_res, b_kind, b_nch, b_na, b_nb, b_nc, b_ws, b_fb, b_pend, b_cst, b_fnode, b_fmode, b_fph, b_fi, b_vec, b_vlen) := by
  obtain ⟨hT, hN, hn, hf, hp, ht, hr, h3, p16⟩ := H
  obtain ⟨t1, t2, t3, tx, ty, t5, t6⟩ := ht
  have e1 : (nI r.length).toNatClampNeg = r.length := nI_clamp (by omega)
  have e2 : (nI n).toNatClampNeg = n := nI_clamp (by omega)
  have i1 : vp_in (nI r.length) 128 := vp_in_nI (by omega) (by omega)
  have i2 : vp_in (nI n) 128 := vp_in_nI (by omega) (by omega)
  obtain ⟨k1, k2, k3, k4, k5⟩ := hT n hn
  refine br_f (nI_pos (by omega)) (br_t (nI_lt (b := 128) (by omega) (by decide)) ⟨i1, nm_r (e' := nI n) (by rw [e1]; exact t1) ⟨i1, nm_r (e' := xm_m d) (by rw [e1]; exact t2) ⟨i1, nm_r (e' := nI (ym_ph (K n) p)) (by rw [e1]; exact hp) (nm_r (e' := nI (5 * r.length)) ((pk_mul _ 5).trans (congrArg nI (Nat.mul_comm _ _))) (nm_r (e' := nI (5 * (r.length + 1))) (nI_add (5 * r.length) 5) ⟨i2, nm_r (e' := nI (tr_ky (K n))) (by rw [e2]; exact k1) ?_⟩))⟩⟩⟩)
  rw [hk0]
  refine br_t rfl ⟨i2, ?_⟩
  rw [e2, k2, hcy]
  refine yp_prim hl hk (by omega) tx ty fun c l hv => nm_e (h _ _ _ _ _ _ _ _ ?_)
  rw [pl_a]
  unfold am_dy
  by_cases z : (pl_o lim (K n) d x y).1 = 0
  · rw [if_pos z, z]
    exact ym_Oq (ym_pop hr (ve_Fg hv.1 (by omega)) (fun _ _ => rfl) (fun _ _ => rfl) (ys_m1 _) (hv.2 z))
  · rw [if_neg z]
    exact ym_Of
theorem ys_adv {g_tlen g_held g_root g_clen g_xn g_yn g_rn g_stat g_nn g_wsp g_depth : Int32} {b_text b_canon b_xs b_ys b_res b_kind b_nch b_na b_nb b_nc b_ws b_fb b_pend b_cst b_fnode b_fmode b_fph b_fi b_vec b_vlen : Nat → Int32} {post : SY → Prop} {lim N : Nat} {K F S T : Nat → Nat} {R : List Int32} {n : Nat} {d : Bool} {p : Nat} {x y w : List Int32} {r : List am_F} (H : ys_H N K F S T R n d p x y w r b_kind b_nch b_na b_nb b_nc b_vec b_vlen b_fnode b_fmode b_fph b_fi) (hk1 : tr_ky (K n) = 1)
    (h : wpY_stepAdv post (nI lim, g_tlen, g_held, g_root, g_clen, g_xn, g_yn, g_rn, g_stat, g_nn, g_wsp, g_depth, nI r.length, 0, b_text, b_canon, b_xs, b_ys, b_res, b_kind, b_nch, b_na, b_nb, b_nc, b_ws, b_fb, b_pend, b_cst, b_fnode, b_fmode, b_fph, b_fi, b_vec, b_vlen) (nI r.length) (nI n) (xm_m d) (nI (ym_ph (K n) p))) : wpY_step post (nI lim, g_tlen, g_held, g_root, g_clen, g_xn, g_yn, g_rn, g_stat, g_nn, g_wsp, g_depth, nI r.length, 0, b_text, b_canon, b_xs, b_ys, b_res, b_kind, b_nch, b_na, b_nb, b_nc, b_ws, b_fb, b_pend, b_cst, b_fnode, b_fmode, b_fph, b_fi, b_vec, b_vlen) := by
  obtain ⟨hT, hN, hn, hf, hp, ht, hr, h3, p16⟩ := H
  obtain ⟨t1, t2, t3, tx, ty, t5, t6⟩ := ht
  have e1 : (nI r.length).toNatClampNeg = r.length := nI_clamp (by omega)
  have e2 : (nI n).toNatClampNeg = n := nI_clamp (by omega)
  have i1 : vp_in (nI r.length) 128 := vp_in_nI (by omega) (by omega)
  have i2 : vp_in (nI n) 128 := vp_in_nI (by omega) (by omega)
  obtain ⟨k1, k2, k3, k4, k5⟩ := hT n hn
  refine br_f (nI_pos (by omega)) (br_t (nI_lt (b := 128) (by omega) (by decide)) ⟨i1, nm_r (e' := nI n) (by rw [e1]; exact t1) ⟨i1, nm_r (e' := xm_m d) (by rw [e1]; exact t2) ⟨i1, nm_r (e' := nI (ym_ph (K n) p)) (by rw [e1]; exact hp) (nm_r (e' := nI (5 * r.length)) ((pk_mul _ 5).trans (congrArg nI (Nat.mul_comm _ _))) (nm_r (e' := nI (5 * (r.length + 1))) (nI_add (5 * r.length) 5) ⟨i2, nm_r (e' := nI (tr_ky (K n))) (by rw [e2]; exact k1) ?_⟩))⟩⟩⟩)
  rw [hk1]
  exact br_f (by decide) (br_t rfl h)
theorem ys_frame {g_tlen g_held g_root g_clen g_xn g_yn g_rn g_stat g_nn g_wsp g_depth : Int32} {b_text b_canon b_xs b_ys b_res b_kind b_nch b_na b_nb b_nc b_ws b_fb b_pend b_cst b_fnode b_fmode b_fph b_fi b_vec b_vlen : Nat → Int32} {post : SY → Prop} {lim N : Nat} {K F S T C A D : Nat → Nat} {R : List Int32} {n : Nat} {d : Bool} {p : Nat} {x y w : List Int32} {r : List am_F} (hl : lim ≤ 16) (hN : N ≤ 64)
    (hT : tr_Y N K F S T b_kind b_nch b_na b_nb b_nc) (hK : tr_ok N K F S T C A D) (ho : am_ok N K ((n, d, p, x, y, w) :: r))
    (hS : ym_S K ((n, d, p, x, y, w) :: r) R (nI r.length) b_vec b_vlen b_fnode b_fmode b_fph b_fi)
    (h : ∀ er sp c l fn fm fp fi, ym_O K n d p x y r R (am_act lim K F S T n d p x y w R) er sp c l fn fm fp fi → post (nI lim, g_tlen, g_held, g_root, g_clen, g_xn, g_yn, g_rn, g_stat, g_nn, g_wsp, g_depth, sp, er, b_text, b_canon, b_xs, b_ys, b_res, b_kind, b_nch, b_na, b_nb, b_nc, b_ws, b_fb, b_pend, b_cst, fn, fm, fp, fi, c, l)) : wpY_step post (nI lim, g_tlen, g_held, g_root, g_clen, g_xn, g_yn, g_rn, g_stat, g_nn, g_wsp, g_depth, nI r.length, 0, b_text, b_canon, b_xs, b_ys, b_res, b_kind, b_nch, b_na, b_nb, b_nc, b_ws, b_fb, b_pend, b_cst, b_fnode, b_fmode, b_fph, b_fi, b_vec, b_vlen) := by
  obtain ⟨o1, o2, lc, -⟩ := ho
  obtain ⟨-, ⟨hp, ht, hr⟩, h3⟩ := hS
  have lc' := lc
  obtain ⟨p16, lx, ly, lw, l1, l2, l3⟩ := lc'
  have nd := (hK n o1).1
  have kk := nd_k nd
  have H : ys_H N K F S T R n d p x y w r b_kind b_nch b_na b_nb b_nc b_vec b_vlen b_fnode b_fmode b_fph b_fi := ⟨hT, hN, o1, o2, hp, ht, hr, h3, p16⟩
  unfold am_act at h
  by_cases a1 : K n = 1
  · rw [if_pos a1] at h
    exact ys_fork H a1 (by have := nd_f1 nd a1; omega) h
  · rw [if_neg a1] at h
    by_cases a2 : K n = 2
    · rw [if_pos a2] at h
      exact ys_hook H a2 (by have := am_fs nd (Or.inl a2); omega) h
    · rw [if_neg a2] at h
      by_cases a3 : K n = 64
      · rw [if_pos a3] at h
        exact ys_atop H a3 (by have := am_fs nd (Or.inr a3); omega) h
      · rw [if_neg a3] at h
        by_cases a4 : K n = 47
        · rw [if_pos a4] at h
          exact ys_adv (lim := lim) H (by rw [a4]; rfl) (ya_red H a4 (by have := am_fa nd (Or.inl a4); omega) h)
        · rw [if_neg a4] at h
          by_cases a5 : K n = 92
          · rw [if_pos a5] at h
            exact ys_adv (lim := lim) H (by rw [a5]; rfl) (ya_scan H a5 (by have := am_fa nd (Or.inr (Or.inl a5)); omega) (fun z => by have := l2 a5 z; exact ⟨by omega, this.2⟩) h)
          · rw [if_neg a5] at h
            by_cases a6 : K n = 34
            · rw [if_pos a6] at h
              exact ys_adv (lim := lim) H (by rw [a6]; rfl) (ya_eachs H a6 (by have := am_fa nd (Or.inr (Or.inr a6)); omega) (fun z => by obtain ⟨b1, q, b2, b3⟩ := l3 a6 z; exact ⟨by omega, b1, q, b2⟩) h)
            · rw [if_neg a6] at h
              refine ys_leaf H hl kk ?_ ?_ h
              · unfold tr_ky
                rw [if_neg a1, if_neg a2, if_neg a3, if_neg (by omega)]
              · unfold tr_cy
                rw [if_neg (by omega)]
def yr_R (lim : Nat) (K : Nat → Nat) (g_tlen g_held g_root g_clen g_xn g_yn g_rn g_stat g_nn g_wsp g_depth : Int32) (b_text b_canon b_xs b_ys b_res b_kind b_nch b_na b_nb b_nc b_ws b_fb b_pend b_cst : Nat → Int32) (fs : List am_F) (R : List Int32) (v : SY) : Prop :=
  ∃ sp c l fn fm fp fi, v = (nI lim, g_tlen, g_held, g_root, g_clen, g_xn, g_yn, g_rn, g_stat, g_nn, g_wsp, g_depth, sp, 0, b_text, b_canon, b_xs, b_ys, b_res, b_kind, b_nch, b_na, b_nb, b_nc, b_ws, b_fb, b_pend, b_cst, fn, fm, fp, fi, c, l) ∧ ym_S K fs R sp c l fn fm fp fi
def yr_F (lim : Nat) (g_tlen g_held g_root g_clen g_xn g_yn g_rn g_stat g_nn g_wsp g_depth : Int32) (b_text b_canon b_xs b_ys b_res b_kind b_nch b_na b_nb b_nc b_ws b_fb b_pend b_cst : Nat → Int32) (e : Nat) (v : SY) : Prop :=
  ∃ sp c l fn fm fp fi, v = (nI lim, g_tlen, g_held, g_root, g_clen, g_xn, g_yn, g_rn, g_stat, g_nn, g_wsp, g_depth, sp, nI e, b_text, b_canon, b_xs, b_ys, b_res, b_kind, b_nch, b_na, b_nb, b_nc, b_ws, b_fb, b_pend, b_cst, fn, fm, fp, fi, c, l)
def yr_W (post : Int32 → SY → Prop) (k i : Nat) (v : SY) : Prop :=
  match v with
  | (g_lim, g_tlen, g_held, g_root, g_clen, g_xn, g_yn, g_rn, g_stat, g_nn, g_wsp, g_depth, g_sp, g_err, b_text, b_canon, b_xs, b_ys, b_res, b_kind, b_nch, b_na, b_nb, b_nc, b_ws, b_fb, b_pend, b_cst, b_fnode, b_fmode, b_fph, b_fi, b_vec, b_vlen) => wY_apply_127 post k (nI i) g_lim g_tlen g_held g_root g_clen g_xn g_yn g_rn g_stat g_nn g_wsp g_depth g_sp g_err b_text b_canon b_xs b_ys b_res b_kind b_nch b_na b_nb b_nc b_ws b_fb b_pend b_cst b_fnode b_fmode b_fph b_fi b_vec b_vlen
theorem yr_o {lim : Nat} {K : Nat → Nat} (g_tlen g_held g_root g_clen g_xn g_yn g_rn g_stat g_nn g_wsp g_depth : Int32) (b_text b_canon b_xs b_ys b_res b_kind b_nch b_na b_nb b_nc b_ws b_fb b_pend b_cst : Nat → Int32) {n : Nat} {d : Bool} {p : Nat} {x y : List Int32} {r : List am_F} {R : List Int32} {o : am_O} {er sp : Int32} {c l fn fm fp fi : Nat → Int32}
    (h : ym_O K n d p x y r R o er sp c l fn fm fp fi) :
    am_out (yr_F lim g_tlen g_held g_root g_clen g_xn g_yn g_rn g_stat g_nn g_wsp g_depth b_text b_canon b_xs b_ys b_res b_kind b_nch b_na b_nb b_nc b_ws b_fb b_pend b_cst) (yr_R lim K g_tlen g_held g_root g_clen g_xn g_yn g_rn g_stat g_nn g_wsp g_depth b_text b_canon b_xs b_ys b_res b_kind b_nch b_na b_nb b_nc b_ws b_fb b_pend b_cst) n d p x y r R o (nI lim, g_tlen, g_held, g_root, g_clen, g_xn, g_yn, g_rn, g_stat, g_nn, g_wsp, g_depth, sp, er, b_text, b_canon, b_xs, b_ys, b_res, b_kind, b_nch, b_na, b_nb, b_nc, b_ws, b_fb, b_pend, b_cst, fn, fm, fp, fi, c, l) := by
  match o, h with
  | Sum.inl e, h => cases h; exact ⟨_, _, _, _, _, _, _, rfl⟩
  | Sum.inr (Sum.inl v), h => obtain ⟨rfl, h0⟩ := h; exact ⟨_, _, _, _, _, _, _, rfl, h0⟩
  | Sum.inr (Sum.inr (w', n', d', x', y')), h => obtain ⟨rfl, h0⟩ := h; exact ⟨_, _, _, _, _, _, _, rfl, h0⟩
theorem yr_s {lim N : Nat} {K F S T C A D : Nat → Nat} (g_tlen g_held g_root g_clen g_xn g_yn g_rn g_stat g_nn g_wsp g_depth : Int32) (b_text b_canon b_xs b_ys b_res b_kind b_nch b_na b_nb b_nc b_ws b_fb b_pend b_cst : Nat → Int32) (hl : lim ≤ 16) (hN : N ≤ 64)
    (hT : tr_Y N K F S T b_kind b_nch b_na b_nb b_nc) (hK : tr_ok N K F S T C A D) :
    am_stp lim N K F S T 16777216 (yr_F lim g_tlen g_held g_root g_clen g_xn g_yn g_rn g_stat g_nn g_wsp g_depth b_text b_canon b_xs b_ys b_res b_kind b_nch b_na b_nb b_nc b_ws b_fb b_pend b_cst) (yr_R lim K g_tlen g_held g_root g_clen g_xn g_yn g_rn g_stat g_nn g_wsp g_depth b_text b_canon b_xs b_ys b_res b_kind b_nch b_na b_nb b_nc b_ws b_fb b_pend b_cst) yr_W := by
  intro n d p x y w r R v hok hv post k i hi h
  obtain ⟨sp, c, l, fn, fm, fp, fi, rfl, hS⟩ := hv
  have e : sp = nI r.length := ym_sp hS.1
  subst e
  have o2 := hok.2.1
  refine br_f (nI_ge (b := 16777216) hi (by decide)) (br_f (nI_pos (by omega)) (br_t rfl ?_))
  refine ys_frame hl hN hT hK hok hS fun er sp' c' l' fn' fm' fp' fi' ho => nm_r (nI_1 i) ?_
  exact h _ (yr_o g_tlen g_held g_root g_clen g_xn g_yn g_rn g_stat g_nn g_wsp g_depth b_text b_canon b_xs b_ys b_res b_kind b_nch b_na b_nb b_nc b_ws b_fb b_pend b_cst ho)
