/-! the reference's adverbs, from their first row -/
theorem ya_344 {g_lim g_tlen g_held g_root g_clen g_xn g_yn g_rn g_stat g_nn g_wsp g_depth g_sp g_err : Int32} {b_text b_canon b_xs b_ys b_res b_kind b_nch b_na b_nb b_nc b_ws b_fb b_pend b_cst b_fnode b_fmode b_fph b_fi b_vec b_vlen : Nat → Int32} {post : SY → Prop} {f m : Nat} {x3 x5 x6 x7 x8 x9 : Int32} (hf : f < 128) (hm : b_fi f = nI m)
    (h : wY_stepAdv_354 post (nI f) x3 x5 x6 x7 x8 x9 g_lim g_tlen g_held g_root g_clen g_xn g_yn g_rn g_stat g_nn g_wsp g_depth g_sp g_err b_text b_canon b_xs b_ys b_res b_kind b_nch b_na b_nb b_nc b_ws b_fb b_pend b_cst b_fnode b_fmode b_fph (upd b_fi f (nI (m + 1))) b_vec b_vlen) : wY_stepAdv_344 post (nI f) x3 x5 x6 x7 x8 x9 g_lim g_tlen g_held g_root g_clen g_xn g_yn g_rn g_stat g_nn g_wsp g_depth g_sp g_err b_text b_canon b_xs b_ys b_res b_kind b_nch b_na b_nb b_nc b_ws b_fb b_pend b_cst b_fnode b_fmode b_fph b_fi b_vec b_vlen := by
  have e1 : (nI f).toNatClampNeg = f := nI_clamp (by omega)
  exact ⟨vp_in_nI hf (by omega), vp_in_nI hf (by omega), nm_r (e' := upd b_fi f (nI (m + 1))) (by rw [e1, hm, nI_1]) h⟩
theorem ym_ph1 {k p : Nat} (h : k = 47 ∨ k = 92 ∨ k = 34) (hp : ¬ p = 0) : ym_ph k p = 1 := by
  unfold ym_ph; rw [if_pos h]; omega
theorem ym_ph2 {k p : Nat} (h : p = 0) : ym_ph k p = 0 := by
  unfold ym_ph; rw [h]; split <;> rfl
theorem am_nx1 {d : Bool} {p : Nat} (h : ¬ p = 0) : am_nx d p - 1 + 1 = am_nx d p := by
  have := am_nxp d p; omega
theorem am_nx17 {d : Bool} {p : Nat} (h : p ≤ 16) : am_nx d p ≤ 17 := by
  unfold am_nx; split <;> omega
theorem ya_red {g_tlen g_held g_root g_clen g_xn g_yn g_rn g_stat g_nn g_wsp g_depth : Int32} {b_text b_canon b_xs b_ys b_res b_kind b_nch b_na b_nb b_nc b_ws b_fb b_pend b_cst b_fnode b_fmode b_fph b_fi b_vec b_vlen : Nat → Int32} {post : SY → Prop} {lim N : Nat} {K F S T : Nat → Nat} {R : List Int32} {n : Nat} {d : Bool} {p : Nat} {x y w : List Int32} {r : List am_F} (H : ys_H N K F S T R n d p x y w r b_kind b_nch b_na b_nb b_nc b_vec b_vlen b_fnode b_fmode b_fph b_fi) (hk : K n = 47) (hc : 0 < n)
    (h : ∀ er sp c l fn fm fp fi, ym_O K n d p x y r R (am_red (F n) d p x y w R) er sp c l fn fm fp fi → post (nI lim, g_tlen, g_held, g_root, g_clen, g_xn, g_yn, g_rn, g_stat, g_nn, g_wsp, g_depth, sp, er, b_text, b_canon, b_xs, b_ys, b_res, b_kind, b_nch, b_na, b_nb, b_nc, b_ws, b_fb, b_pend, b_cst, fn, fm, fp, fi, c, l)) : wpY_stepAdv post (nI lim, g_tlen, g_held, g_root, g_clen, g_xn, g_yn, g_rn, g_stat, g_nn, g_wsp, g_depth, nI r.length, 0, b_text, b_canon, b_xs, b_ys, b_res, b_kind, b_nch, b_na, b_nb, b_nc, b_ws, b_fb, b_pend, b_cst, b_fnode, b_fmode, b_fph, b_fi, b_vec, b_vlen) (nI r.length) (nI n) (xm_m d) (nI (ym_ph (K n) p)) := by
  have HH := H
  obtain ⟨hT, hN, hn, hf, hp, ht, hr, h3, p16⟩ := H
  have ht' := ht
  obtain ⟨t1, t2, t3, tx, ty, t5, t6⟩ := ht
  have e1 : (nI r.length).toNatClampNeg = r.length := nI_clamp (by omega)
  have e2 : (nI n).toNatClampNeg = n := nI_clamp (by omega)
  have e3 : (nI (5 * r.length + 1)).toNatClampNeg = 5 * r.length + 1 := nI_clamp (by omega)
  have e4 : (nI (5 * r.length + 4)).toNatClampNeg = 5 * r.length + 4 := nI_clamp (by omega)
  have e5 : (nI (16 * (5 * r.length + 1))).toNatClampNeg = 16 * (5 * r.length + 1) := nI_clamp (by omega)
  have i1 : vp_in (nI r.length) 128 := vp_in_nI (by omega) (by omega)
  have i2 : vp_in (nI n) 128 := vp_in_nI (by omega) (by omega)
  obtain ⟨k1, k2, k3, k4, k5⟩ := hT n hn
  have a0 : nI (5 * r.length) + 0 = nI (5 * r.length) := Int32.add_zero _
  have a1 : nI (5 * r.length) + 1 = nI (5 * r.length + 1) := nI_1 _
  have a3 : nI (5 * r.length) + 3 = nI (5 * r.length + 3) := nI_add _ 3
  have a4 : nI (5 * r.length) + 4 = nI (5 * r.length + 4) := nI_add _ 4
  have ph1 := fun q => ym_ph1 (k := K n) (p := p) (Or.inl hk) q
  have cy : tr_cy (K n) = K n := by unfold tr_cy; rw [if_neg (by omega)]
  have n17 := am_nx17 (d := d) p16
  have kb : K n < 2 ^ 31 := by omega
  have y16 := ty.1
  unfold am_red at h
  refine nm_r (e' := nI (5 * r.length)) ((pk_mul _ 5).trans (congrArg nI (Nat.mul_comm _ _))) (nm_r (e' := nI (5 * (r.length + 1))) (nI_add (5 * r.length) 5) ⟨i2, nm_r (e' := nI (F n)) (by rw [e2]; exact k3) ⟨i2, nm_r (e' := nI (K n)) (by rw [e2, k2, cy]) ⟨by rw [a1]; exact vp_in_nI (by omega) (by omega), nm_r (e' := nI y.length) (by rw [a1, e3]; exact ty.2.1) ?_⟩⟩⟩)
  by_cases p0 : p = 0
  · rw [ym_ph2 p0]
    refine br_t rfl ⟨i1, nm_r (e' := upd b_fi r.length 0) (by rw [e1]) ⟨by rw [a4]; exact vp_in_nI (by omega) (by omega), nm_r (e' := upd b_vlen (5 * r.length + 4) 0) (by rw [a4, e4]) ?_⟩⟩
    refine br_t (by rw [hk]; rfl) (ys_d1 d (fun hd => ?_) (fun hd => ?_))
    · refine pk_eq y.length 0 (fun z => ?_) (fun z => ⟨by rw [a1, ax_mul0]; exact vp_in_nI (by omega) (by omega), ?_⟩)
      · rw [if_pos ⟨p0, hd, z⟩] at h
        exact h _ _ _ _ _ _ _ _ ym_Of
      · rw [if_neg (fun q => z q.2.2)] at h
        have y0 := ty.2.2 0 (by omega)
        rw [Nat.add_zero] at y0
        rw [a1, ax_mul0, e5, y0, a3]
        refine yv_one (by omega) fun c l hF hL => ⟨i1, nm_r (e' := upd (upd b_fi r.length 0) r.length 1) (by rw [e1]) ?_⟩
        have enx : am_nx d p = 1 := by rw [hd, p0]; rfl
        refine ya_fold HH hc (Or.inl hk) (ve_Ft (ve_Fg ve_Fl (by omega)) (ve_Fg hF (by omega))) (fun j hj => by rw [pk_un (by omega), pk_un (by omega)]) (m := 1) pk_us (by omega) (fun _ => enx.symm) (fun q => by rw [enx]; exact q) (a := am_r d p x y R) (w' := w) ?_ (fun z => by omega) (fun _ => rfl) (fun z => by omega) h
        rw [if_pos hk]
        unfold am_r
        rw [if_pos p0, if_neg (by rw [hd]; decide), ve_t1 (by omega)]
        exact hL
    · rw [if_neg (fun q => by rw [hd] at q; exact absurd q.2.1 (by decide))] at h
      unfold wY_stepAdv_113
      refine br_t (by rw [hk]; rfl) ?_
      rw [a0, a3]
      refine yv_copy (by omega) (by omega) (by omega) fun c l hF hL => ?_
      have enx : am_nx d p = 0 := by rw [hd, p0]; rfl
      refine ya_fold HH hc (Or.inl hk) (ve_Ft (ve_Fg ve_Fl (by omega)) (ve_Fg hF (by omega))) (fun j hj => by rw [pk_un (by omega)]) (m := 0) pk_us (by omega) (fun _ => enx.symm) (fun q => by rw [enx]; exact q) (a := am_r d p x y R) (w' := w) ?_ (fun z => by omega) (fun _ => rfl) (fun z => by omega) h
      rw [if_pos hk]
      unfold am_r
      rw [if_pos p0, if_pos hd]
      exact hL x (ve_o ve_Fl (by omega) (tx hd))
  · rw [if_neg (fun q => p0 q.1)] at h
    refine br_f (by rw [ph1 p0]; decide) (nm_r (e' := nI (5 * (r.length + 1) + 3)) (nI_add _ 3) ?_)
    refine br_t (by rw [hk]; rfl) ?_
    rw [a3]
    refine yv_copy (by omega) (by omega) (by omega) fun c l hF hL => ?_
    have fm := t3 (Or.inl hk) (by omega)
    unfold ym_fi at fm
    rw [if_neg (by omega)] at fm
    refine ya_344 (by omega) fm ?_
    rw [am_nx1 p0]
    refine ya_fold HH hc (Or.inl hk) (ve_Fg hF (by omega)) (fun j hj => by rw [pk_un (by omega)]) (m := am_nx d p) pk_us n17 (fun _ => rfl) (fun q => q) (a := am_r d p x y R) (w' := w) ?_ (fun z => by omega) (fun _ => rfl) (fun z => by omega) h
    rw [if_pos hk]
    unfold am_r
    rw [if_neg p0]
    exact hL R (h3 (by omega))
theorem ya_scan {g_tlen g_held g_root g_clen g_xn g_yn g_rn g_stat g_nn g_wsp g_depth : Int32} {b_text b_canon b_xs b_ys b_res b_kind b_nch b_na b_nb b_nc b_ws b_fb b_pend b_cst b_fnode b_fmode b_fph b_fi b_vec b_vlen : Nat → Int32} {post : SY → Prop} {lim N : Nat} {K F S T : Nat → Nat} {R : List Int32} {n : Nat} {d : Bool} {p : Nat} {x y w : List Int32} {r : List am_F} (H : ys_H N K F S T R n d p x y w r b_kind b_nch b_na b_nb b_nc b_vec b_vlen b_fnode b_fmode b_fph b_fi) (hk : K n = 92) (hc : 0 < n) (hw : 0 < p → w.length < 16 ∧ w.length + 1 = am_nx d p)
    (h : ∀ er sp c l fn fm fp fi, ym_O K n d p x y r R (am_scan (F n) d p x y w R) er sp c l fn fm fp fi → post (nI lim, g_tlen, g_held, g_root, g_clen, g_xn, g_yn, g_rn, g_stat, g_nn, g_wsp, g_depth, sp, er, b_text, b_canon, b_xs, b_ys, b_res, b_kind, b_nch, b_na, b_nb, b_nc, b_ws, b_fb, b_pend, b_cst, fn, fm, fp, fi, c, l)) : wpY_stepAdv post (nI lim, g_tlen, g_held, g_root, g_clen, g_xn, g_yn, g_rn, g_stat, g_nn, g_wsp, g_depth, nI r.length, 0, b_text, b_canon, b_xs, b_ys, b_res, b_kind, b_nch, b_na, b_nb, b_nc, b_ws, b_fb, b_pend, b_cst, b_fnode, b_fmode, b_fph, b_fi, b_vec, b_vlen) (nI r.length) (nI n) (xm_m d) (nI (ym_ph (K n) p)) := by
  have HH := H
  obtain ⟨hT, hN, hn, hf, hp, ht, hr, h3, p16⟩ := H
  have ht' := ht
  obtain ⟨t1, t2, t3, tx, ty, t5, t6⟩ := ht
  have e1 : (nI r.length).toNatClampNeg = r.length := nI_clamp (by omega)
  have e2 : (nI n).toNatClampNeg = n := nI_clamp (by omega)
  have e3 : (nI (5 * r.length + 1)).toNatClampNeg = 5 * r.length + 1 := nI_clamp (by omega)
  have e4 : (nI (5 * r.length + 4)).toNatClampNeg = 5 * r.length + 4 := nI_clamp (by omega)
  have e5 : (nI (16 * (5 * r.length + 1))).toNatClampNeg = 16 * (5 * r.length + 1) := nI_clamp (by omega)
  have e6 : (nI (5 * (r.length + 1) + 3)).toNatClampNeg = 5 * (r.length + 1) + 3 := nI_clamp (by omega)
  have e7 : (nI (16 * (5 * (r.length + 1) + 3))).toNatClampNeg = 16 * (5 * (r.length + 1) + 3) := nI_clamp (by omega)
  have i1 : vp_in (nI r.length) 128 := vp_in_nI (by omega) (by omega)
  have i2 : vp_in (nI n) 128 := vp_in_nI (by omega) (by omega)
  obtain ⟨k1, k2, k3, k4, k5⟩ := hT n hn
  have a0 : nI (5 * r.length) + 0 = nI (5 * r.length) := Int32.add_zero _
  have a1 : nI (5 * r.length) + 1 = nI (5 * r.length + 1) := nI_1 _
  have a2 : nI (5 * r.length) + 2 = nI (5 * r.length + 2) := nI_add _ 2
  have a4 : nI (5 * r.length) + 4 = nI (5 * r.length + 4) := nI_add _ 4
  have ph1 := fun q => ym_ph1 (k := K n) (p := p) (Or.inr (Or.inl hk)) q
  have cy : tr_cy (K n) = K n := by unfold tr_cy; rw [if_neg (by omega)]
  have n17 := am_nx17 (d := d) p16
  have k47 : ¬ nI (K n) = 47 := by rw [hk]; decide
  have k34 : ¬ nI (K n) = 34 := by rw [hk]; decide
  have kn47 : ¬ K n = 47 := by omega
  have y16 := ty.1
  unfold am_scan at h
  refine nm_r (e' := nI (5 * r.length)) ((pk_mul _ 5).trans (congrArg nI (Nat.mul_comm _ _))) (nm_r (e' := nI (5 * (r.length + 1))) (nI_add (5 * r.length) 5) ⟨i2, nm_r (e' := nI (F n)) (by rw [e2]; exact k3) ⟨i2, nm_r (e' := nI (K n)) (by rw [e2, k2, cy]) ⟨by rw [a1]; exact vp_in_nI (by omega) (by omega), nm_r (e' := nI y.length) (by rw [a1, e3]; exact ty.2.1) ?_⟩⟩⟩)
  by_cases p0 : p = 0
  · rw [if_neg (fun q => q.1 p0)] at h
    rw [ym_ph2 p0]
    refine br_t rfl ⟨i1, nm_r (e' := upd b_fi r.length 0) (by rw [e1]) ⟨by rw [a4]; exact vp_in_nI (by omega) (by omega), nm_r (e' := upd b_vlen (5 * r.length + 4) 0) (by rw [a4, e4]) ?_⟩⟩
    have m113 : wY_stepAdv_113 post (nI r.length) (xm_m d) (nI (5 * r.length)) (nI (5 * (r.length + 1))) (nI (F n)) (nI (K n)) (nI y.length) (nI lim) g_tlen g_held g_root g_clen g_xn g_yn g_rn g_stat g_nn g_wsp g_depth (nI r.length) 0 b_text b_canon b_xs b_ys b_res b_kind b_nch b_na b_nb b_nc b_ws b_fb b_pend b_cst b_fnode b_fmode b_fph (upd b_fi r.length 0) b_vec (upd b_vlen (5 * r.length + 4) 0) := by
      unfold wY_stepAdv_113
      refine br_f k47 (br_t (by rw [hk]; rfl) (ys_d1 d (fun hd => ?_) (fun hd => ?_)))
      · refine pk_le y.length 0 (fun z => ?_) (fun z => ⟨by rw [a1, ax_mul0]; exact vp_in_nI (by omega) (by omega), ?_⟩)
        · have yn : y.length = 0 := by omega
          unfold wY_stepAdv_196
          refine br_t (by rw [hk]; rfl) (ys_d2 d (fun hd' => by rw [hd] at hd'; cases hd') (fun _ => ?_))
          unfold wY_stepAdv_223
          refine br_f k34 ?_
          -- an empty scan: the slot of r is never read
          rw [if_neg (by rw [yn]; exact Nat.not_lt_zero _)] at h
          have hz : am_z d p y w R = [] := by
            unfold am_z
            rw [if_pos p0, if_neg (by rw [hd]; decide), ve_nI yn]; rfl
          rw [hz] at h
          unfold wY_stepAdv_354
          refine ⟨i1, nm_r (e' := nI 0) (by rw [e1]; exact pk_us) (br_f k34 ?_)⟩
          unfold wY_stepAdv_392
          refine br_t (by rw [yn]; decide) ?_
          unfold wY_stepAdv_406
          refine br_f k47 ?_
          rw [a4, show nI (5 * r.length) + 3 = nI (5 * r.length + 3) from nI_add _ 3]
          refine yv_copy (by omega) (by omega) (by omega) fun c l hF hL => nm_e (h _ _ _ _ _ _ _ _ (ym_Oq ?_))
          exact ym_pop hr (ve_Ft (ve_Fg ve_Fl (by omega)) (ve_Fg hF (by omega))) (fun j hj => by rw [pk_un (by omega)]) (fun _ _ => rfl) (ys_m1 _) (hL [] ve_nil)
        · have y0 := ty.2.2 0 (by omega)
          rw [Nat.add_zero] at y0
          rw [a1, ax_mul0, a2, a4]
          refine nm_r (e' := y.getD 0 0) (by rw [e5, y0]) ?_
          refine yv_one (by omega) fun c l hF hL => ?_
          refine yv_one (by omega) fun c2 l2 hF2 hL2 => ⟨i1, nm_r (e' := upd (upd b_fi r.length 0) r.length 1) (by rw [e1]) ?_⟩
          have enx : am_nx d p = 1 := by rw [hd, p0]; rfl
          refine ya_fold HH hc (Or.inr hk) (ve_Ft (ve_Fg ve_Fl (by omega)) (ve_Ft (ve_Fg hF (by omega)) (ve_Fg hF2 (by omega)))) (fun j hj => by rw [pk_un (by omega), pk_un (by omega)]) (m := 1) pk_us (by omega) (fun _ => enx.symm) (fun q => by rw [enx]; exact q) (a := am_r d p x y R) (w' := am_z d p y w R) ?_ (fun _ => ?_) (fun z => absurd z kn47) (fun _ => rfl) h
          · rw [if_neg kn47]
            unfold am_r
            rw [if_pos p0, if_neg (by rw [hd]; decide), ve_t1 (by omega)]
            exact ve_o hF2 (by omega) hL
          · unfold am_z
            rw [if_pos p0, if_neg (by rw [hd]; decide), ve_t1 (by omega)]
            exact hL2
      · unfold wY_stepAdv_196
        refine br_t (by rw [hk]; rfl) (ys_d2 d (fun _ => ?_) (fun hd' => by rw [hd] at hd'; cases hd'))
        rw [a0, a2]
        refine yv_copy (by omega) (by omega) (by omega) fun c l hF hL => ?_
        have enx : am_nx d p = 0 := by rw [hd, p0]; rfl
        refine ya_fold HH hc (Or.inr hk) (ve_Ft (ve_Fg ve_Fl (by omega)) (ve_Fg hF (by omega))) (fun j hj => by rw [pk_un (by omega)]) (m := 0) pk_us (by omega) (fun _ => enx.symm) (fun q => by rw [enx]; exact q) (a := am_r d p x y R) (w' := am_z d p y w R) ?_ (fun _ => ?_) (fun z => absurd z kn47) (fun _ => rfl) h
        · rw [if_neg kn47]
          unfold am_r
          rw [if_pos p0, if_pos hd]
          exact hL x (ve_o ve_Fl (by omega) (tx hd))
        · unfold am_z
          rw [if_pos p0, if_pos hd]
          exact ve_o hF (by omega) ve_nil
    exact br_f k47 m113
  · refine br_f (by rw [ph1 p0]; decide) (nm_r (e' := nI (5 * (r.length + 1) + 3)) (nI_add _ 3) ?_)
    refine br_f k47 ⟨vp_in_nI (by omega) (by omega), ?_⟩
    have hR := h3 (by omega)
    have r16 := hR.1
    obtain ⟨w16, wnx⟩ := hw (by omega)
    have fm := t3 (Or.inr (Or.inl hk)) (by omega)
    unfold ym_fi at fm
    rw [if_neg (by omega)] at fm
    have fw : b_fi r.length = nI w.length := by rw [fm]; exact congrArg nI (by omega)
    rw [e6, hR.2.1]
    refine pk_eq R.length 1 (fun z => ⟨by rw [ax_mul0]; exact vp_in_nI (by omega) (by omega), ?_⟩) (fun z => ?_)
    · rw [if_neg (fun q => q.2 z)] at h
      have v0 := hR.2.2 0 (by omega)
      rw [Nat.add_zero] at v0
      rw [ax_mul0]
      refine nm_r (e' := R.getD 0 0) (by rw [e7, v0]) ⟨i1, ?_⟩
      rw [e1, fw, a4]
      refine yv_put (by omega) (t6 (Or.inl hk) (by omega)) w16 fun c l hF hL => br_t (by rw [hk]; rfl) ?_
      rw [a2]
      refine yv_copy (by omega) (by omega) (by omega) fun c2 l2 hF2 hL2 => ?_
      refine ya_344 (by omega) fw ?_
      rw [wnx]
      refine ya_fold HH hc (Or.inr hk) (ve_Ft (ve_Fg hF (by omega)) (ve_Fg hF2 (by omega))) (fun j hj => by rw [pk_un (by omega)]) (m := am_nx d p) pk_us n17 (fun _ => rfl) (fun q => q) (a := am_r d p x y R) (w' := am_z d p y w R) ?_ (fun _ => ?_) (fun z => absurd z kn47) (fun _ => rfl) h
      · rw [if_neg kn47]
        unfold am_r
        rw [if_neg p0]
        exact hL2 R (ve_o hF (by omega) hR)
      · unfold am_z
        rw [if_neg p0, ve_1 z]
        exact ve_o hF2 (by omega) hL
    · rw [if_pos ⟨p0, z⟩] at h
      exact h _ _ _ _ _ _ _ _ ym_Of
theorem ya_eachs {g_tlen g_held g_root g_clen g_xn g_yn g_rn g_stat g_nn g_wsp g_depth : Int32} {b_text b_canon b_xs b_ys b_res b_kind b_nch b_na b_nb b_nc b_ws b_fb b_pend b_cst b_fnode b_fmode b_fph b_fi b_vec b_vlen : Nat → Int32} {post : SY → Prop} {lim N : Nat} {K F S T : Nat → Nat} {R : List Int32} {n : Nat} {d : Bool} {p : Nat} {x y w : List Int32} {r : List am_F} (H : ys_H N K F S T R n d p x y w r b_kind b_nch b_na b_nb b_nc b_vec b_vlen b_fnode b_fmode b_fph b_fi) (hk : K n = 34) (hc : 0 < n) (hw : 0 < p → w.length < 16 ∧ w.length + 1 = p ∧ ∃ q, am_cnt d x y = some q)
    (h : ∀ er sp c l fn fm fp fi, ym_O K n d p x y r R (am_each (F n) d p x y w R) er sp c l fn fm fp fi → post (nI lim, g_tlen, g_held, g_root, g_clen, g_xn, g_yn, g_rn, g_stat, g_nn, g_wsp, g_depth, sp, er, b_text, b_canon, b_xs, b_ys, b_res, b_kind, b_nch, b_na, b_nb, b_nc, b_ws, b_fb, b_pend, b_cst, fn, fm, fp, fi, c, l)) : wpY_stepAdv post (nI lim, g_tlen, g_held, g_root, g_clen, g_xn, g_yn, g_rn, g_stat, g_nn, g_wsp, g_depth, nI r.length, 0, b_text, b_canon, b_xs, b_ys, b_res, b_kind, b_nch, b_na, b_nb, b_nc, b_ws, b_fb, b_pend, b_cst, b_fnode, b_fmode, b_fph, b_fi, b_vec, b_vlen) (nI r.length) (nI n) (xm_m d) (nI (ym_ph (K n) p)) := by
  have HH := H
  obtain ⟨hT, hN, hn, hf, hp, ht, hr, h3, p16⟩ := H
  have ht' := ht
  obtain ⟨t1, t2, t3, tx, ty, t5, t6⟩ := ht
  have e1 : (nI r.length).toNatClampNeg = r.length := nI_clamp (by omega)
  have e2 : (nI n).toNatClampNeg = n := nI_clamp (by omega)
  have e3 : (nI (5 * r.length + 1)).toNatClampNeg = 5 * r.length + 1 := nI_clamp (by omega)
  have e4 : (nI (5 * r.length + 4)).toNatClampNeg = 5 * r.length + 4 := nI_clamp (by omega)
  have e6 : (nI (5 * (r.length + 1) + 3)).toNatClampNeg = 5 * (r.length + 1) + 3 := nI_clamp (by omega)
  have e7 : (nI (16 * (5 * (r.length + 1) + 3))).toNatClampNeg = 16 * (5 * (r.length + 1) + 3) := nI_clamp (by omega)
  have i1 : vp_in (nI r.length) 128 := vp_in_nI (by omega) (by omega)
  have i2 : vp_in (nI n) 128 := vp_in_nI (by omega) (by omega)
  obtain ⟨k1, k2, k3, k4, k5⟩ := hT n hn
  have a0 : nI (5 * r.length) + 0 = nI (5 * r.length) := Int32.add_zero _
  have a1 : nI (5 * r.length) + 1 = nI (5 * r.length + 1) := nI_1 _
  have a4 : nI (5 * r.length) + 4 = nI (5 * r.length + 4) := nI_add _ 4
  have ph1 := fun q => ym_ph1 (k := K n) (p := p) (Or.inr (Or.inr hk)) q
  have cy : tr_cy (K n) = K n := by unfold tr_cy; rw [if_neg (by omega)]
  have k47 : ¬ nI (K n) = 47 := by rw [hk]; decide
  have k92 : ¬ nI (K n) = 92 := by rw [hk]; decide
  have y16 := ty.1
  unfold am_each at h
  refine nm_r (e' := nI (5 * r.length)) ((pk_mul _ 5).trans (congrArg nI (Nat.mul_comm _ _))) (nm_r (e' := nI (5 * (r.length + 1))) (nI_add (5 * r.length) 5) ⟨i2, nm_r (e' := nI (F n)) (by rw [e2]; exact k3) ⟨i2, nm_r (e' := nI (K n)) (by rw [e2, k2, cy]) ⟨by rw [a1]; exact vp_in_nI (by omega) (by omega), nm_r (e' := nI y.length) (by rw [a1, e3]; exact ty.2.1) ?_⟩⟩⟩)
  by_cases p0 : p = 0
  · rw [ym_ph2 p0]
    refine br_t rfl ⟨i1, nm_r (e' := upd b_fi r.length 0) (by rw [e1]) ⟨by rw [a4]; exact vp_in_nI (by omega) (by omega), nm_r (e' := upd b_vlen (5 * r.length + 4) 0) (by rw [a4, e4]) ?_⟩⟩
    have m113 : wY_stepAdv_113 post (nI r.length) (xm_m d) (nI (5 * r.length)) (nI (5 * (r.length + 1))) (nI (F n)) (nI (K n)) (nI y.length) (nI lim) g_tlen g_held g_root g_clen g_xn g_yn g_rn g_stat g_nn g_wsp g_depth (nI r.length) 0 b_text b_canon b_xs b_ys b_res b_kind b_nch b_na b_nb b_nc b_ws b_fb b_pend b_cst b_fnode b_fmode b_fph (upd b_fi r.length 0) b_vec (upd b_vlen (5 * r.length + 4) 0) := by
      unfold wY_stepAdv_113
      refine br_f k47 (br_f k92 ?_)
      unfold wY_stepAdv_196
      refine br_f k92 ?_
      unfold wY_stepAdv_223
      have fin : ∀ q, am_cnt d x y = some q → wY_stepAdv_354 post (nI r.length) (xm_m d) (nI (5 * r.length)) (nI (5 * (r.length + 1))) (nI (F n)) (nI (K n)) (nI y.length) (nI lim) g_tlen g_held g_root g_clen g_xn g_yn g_rn g_stat g_nn g_wsp g_depth (nI r.length) 0 b_text b_canon b_xs b_ys b_res b_kind b_nch b_na b_nb b_nc b_ws b_fb b_pend b_cst b_fnode b_fmode b_fph (upd b_fi r.length 0) b_vec (upd b_vlen (5 * r.length + 4) 0) := by
        intro q hq
        rw [hq] at h
        dsimp only at h
        rw [if_neg (fun q => q.1 p0)] at h
        have hz : am_ze p w R = [] := by unfold am_ze; rw [if_pos p0]
        rw [hz] at h
        exact ya_each HH hc hk (ve_Fg ve_Fl (by omega)) (fun j hj => by rw [pk_un (by omega)]) (by rw [p0]; exact pk_us) hq ve_nil h
      refine br_t (by rw [hk]; rfl) (ys_d2 d (fun hd => ?_) (fun hd => ?_))
      · have ec : am_cnt d x y = pr_cnt x.length y.length := by unfold am_cnt; rw [if_pos hd]
        rw [a0, a1]
        refine yv_pairs (xs := x) (ys := y) (by omega) (by omega) (ve_o ve_Fl (by omega) (tx hd)) (ve_o ve_Fl (by omega) ty) ?_
        cases hq : pr_cnt x.length y.length with
        | none =>
          rw [ec, hq] at h
          exact br_f yp_n1 (h _ _ _ _ _ _ _ _ ym_Of)
        | some q =>
          have q16 := pr_cnt_le hq (tx hd).1 y16
          exact br_t (nI_pos' (by omega)) (fin q (ec.trans hq))
      · exact fin y.length (by unfold am_cnt; rw [if_neg (by rw [hd]; decide)])
    exact br_f k47 m113
  · refine br_f (by rw [ph1 p0]; decide) (nm_r (e' := nI (5 * (r.length + 1) + 3)) (nI_add _ 3) ?_)
    refine br_f k47 ⟨vp_in_nI (by omega) (by omega), ?_⟩
    have hR := h3 (by omega)
    have r16 := hR.1
    obtain ⟨w16, wp, q, hq⟩ := hw (by omega)
    have fm := t3 (Or.inr (Or.inr hk)) (by omega)
    unfold ym_fi at fm
    rw [if_pos hk] at fm
    have fw : b_fi r.length = nI w.length := by rw [fm]; exact congrArg nI (by omega)
    rw [hq] at h
    dsimp only at h
    rw [e6, hR.2.1]
    refine pk_eq R.length 1 (fun z => ⟨by rw [ax_mul0]; exact vp_in_nI (by omega) (by omega), ?_⟩) (fun z => ?_)
    · rw [if_neg (fun q => q.2 z)] at h
      have v0 := hR.2.2 0 (by omega)
      rw [Nat.add_zero] at v0
      rw [ax_mul0]
      refine nm_r (e' := R.getD 0 0) (by rw [e7, v0]) ⟨i1, ?_⟩
      rw [e1, fw, a4]
      refine yv_put (by omega) (t6 (Or.inr hk) (by omega)) w16 fun c l hF hL => br_f k92 ?_
      refine ya_344 (by omega) fw ?_
      have hz : am_ze p w R = w ++ [R.getD 0 0] := by unfold am_ze; rw [if_neg p0, ← ve_1 z]
      rw [hz] at h
      exact ya_each HH hc hk (ve_Fg hF (by omega)) (fun j hj => by rw [pk_un (by omega)]) (by rw [wp]; exact pk_us) hq hL h
    · rw [if_pos ⟨p0, z⟩] at h
      exact h _ _ _ _ _ _ _ _ ym_Of
