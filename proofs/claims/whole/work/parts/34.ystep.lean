/-! the reference's steps -/
def ys_H (N : Nat) (K F S T : Nat → Nat) (R : List Int32) (n : Nat) (d : Bool) (p : Nat) (x y w : List Int32) (r : List am_F) (ky ch na nb nc c l fn fm fp fi : Nat → Int32) : Prop :=
  tr_Y N K F S T ky ch na nb nc ∧ N ≤ 64 ∧ n < N ∧ n + r.length < 63 ∧ fp r.length = nI (ym_ph (K n) p) ∧ ym_top K c l fn fm fi r.length n d p x y w ∧ ym_F K c l fn fm fp fi r ∧ (0 < p → ve_L c l (5 * (r.length + 1) + 3) R) ∧ p ≤ 16
theorem ym_Op {K : Nat → Nat} {n : Nat} {d : Bool} {p : Nat} {x y : List Int32} {r : List am_F} {R w' : List Int32} {n' : Nat} {d' : Bool} {x' y' : List Int32} {sp : Int32} {c l fn fm fp fi : Nat → Int32}
    (h : ym_S K ((n', d', 0, x', y', []) :: (n, d, p + 1, x, y, w') :: r) R sp c l fn fm fp fi) : ym_O K n d p x y r R (am_push w' n' d' x' y') 0 sp c l fn fm fp fi := ⟨rfl, h⟩
theorem ym_Oq {K : Nat → Nat} {n : Nat} {d : Bool} {p : Nat} {x y : List Int32} {r : List am_F} {R v : List Int32} {sp : Int32} {c l fn fm fp fi : Nat → Int32}
    (h : ym_S K r v sp c l fn fm fp fi) : ym_O K n d p x y r R (am_pop v) 0 sp c l fn fm fp fi := ⟨rfl, h⟩
theorem ym_Of {K : Nat → Nat} {n : Nat} {d : Bool} {p : Nat} {x y : List Int32} {r : List am_F} {R : List Int32} {e : Nat} {sp : Int32} {c l fn fm fp fi : Nat → Int32} :
    ym_O K n d p x y r R (am_fail e) (nI e) sp c l fn fm fp fi := rfl
theorem ym_pushn {K : Nat → Nat} {c l fn fm fp fi fi1 c' l' : Nat → Int32} {n : Nat} {d : Bool} {p : Nat} {x y w : List Int32} {r : List am_F}
    (nx : Nat) (hnx : ym_ph (K n) (p + 1) = nx) (R : List Int32) (w' : List Int32) (n' : Nat) (d' : Bool) (x' y' : List Int32)
    (ht : ym_top K c l fn fm fi r.length n d p x y w) (hr : ym_F K c l fn fm fp fi r)
    (hF : ve_F (fun t => 5 * r.length + 2 ≤ t) c l c' l') (hfi : ∀ j, j < r.length → fi1 j = fi j)
    (hfi2 : K n = 47 ∨ K n = 92 ∨ K n = 34 → fi1 r.length = nI (ym_fi (K n) d (p + 1)))
    (hw1 : K n = 1 → p + 1 = 2 → ve_L c' l' (5 * r.length + 2) w') (hw2 : K n = 92 ∨ K n = 34 → ve_L c' l' (5 * r.length + 4) w')
    (hx : d' = true → ve_L c' l' (5 * (r.length + 1)) x') (hy : ve_L c' l' (5 * (r.length + 1) + 1) y') :
    ym_S K ((n', d', 0, x', y', []) :: (n, d, p + 1, x, y, w') :: r) R (nI (r.length + 1)) c' l'
      (upd fn (r.length + 1) (nI n')) (upd fm (r.length + 1) (xm_m d')) (upd (upd fp r.length (nI nx)) (r.length + 1) 0) (upd fi1 (r.length + 1) 0) := by
  subst hnx
  exact ym_push R w' n' d' x' y' ht hr hF hfi hfi2 hw1 hw2 hx hy
theorem ve_Fg {c l c' l' : Nat → Int32} {s q : Nat} (h : ve_F (fun t => t = s) c l c' l') (hs : q ≤ s) : ve_F (fun t => q ≤ t) c l c' l' :=
  ve_Fm h fun t z => by have z' : t = s := z; show q ≤ t; omega
theorem ys_m1 (m : Nat) : nI m - 1 + 1 = nI m := by
  generalize nI m = z
  grind
theorem ym_ph0 {k p : Nat} (h1 : k ≠ 47) (h2 : k ≠ 92) (h3 : k ≠ 34) : ym_ph k p = p := by
  unfold ym_ph; rw [if_neg (by omega)]
theorem ys_403 {g_lim g_tlen g_held g_root g_clen g_xn g_yn g_rn g_stat g_nn g_wsp g_depth g_err : Int32} {b_text b_canon b_xs b_ys b_res b_kind b_nch b_na b_nb b_nc b_ws b_fb b_pend b_cst b_fnode b_fmode b_fph b_fi b_vec b_vlen : Nat → Int32} {post : SY → Prop} {lim N : Nat} {K F S T : Nat → Nat} {R : List Int32} {n : Nat} {d : Bool} {p : Nat} {x y w : List Int32} {r : List am_F} (H : ys_H N K F S T R n d p x y w r b_kind b_nch b_na b_nb b_nc b_vec b_vlen b_fnode b_fmode b_fph b_fi) (hp0 : 0 < p) (h : ∀ sp c l, ym_S K r R sp c l b_fnode b_fmode b_fph b_fi → post (g_lim, g_tlen, g_held, g_root, g_clen, g_xn, g_yn, g_rn, g_stat, g_nn, g_wsp, g_depth, sp, g_err, b_text, b_canon, b_xs, b_ys, b_res, b_kind, b_nch, b_na, b_nb, b_nc, b_ws, b_fb, b_pend, b_cst, b_fnode, b_fmode, b_fph, b_fi, c, l)) :
    wY_step_403 post (nI (5 * r.length)) (nI (5 * (r.length + 1))) g_lim g_tlen g_held g_root g_clen g_xn g_yn g_rn g_stat g_nn g_wsp g_depth (nI r.length) g_err b_text b_canon b_xs b_ys b_res b_kind b_nch b_na b_nb b_nc b_ws b_fb b_pend b_cst b_fnode b_fmode b_fph b_fi b_vec b_vlen := by
  obtain ⟨hT, hN, hn, hf, hp, ht, hr, h3, p16⟩ := H
  unfold wY_step_403
  rw [show nI (5 * (r.length + 1)) + 3 = nI (5 * (r.length + 1) + 3) from nI_add _ 3, show nI (5 * r.length) + 3 = nI (5 * r.length + 3) from nI_add _ 3]
  refine yv_copy (by omega) (by omega) (by omega) fun c l hF hL => nm_e (h _ c l ?_)
  exact ym_pop hr (ve_Fg hF (by omega)) (fun _ _ => rfl) (fun _ _ => rfl) (ys_m1 _) (hL R (h3 hp0))
theorem ys_fork {g_tlen g_held g_root g_clen g_xn g_yn g_rn g_stat g_nn g_wsp g_depth : Int32} {b_text b_canon b_xs b_ys b_res b_kind b_nch b_na b_nb b_nc b_ws b_fb b_pend b_cst b_fnode b_fmode b_fph b_fi b_vec b_vlen : Nat → Int32} {post : SY → Prop} {lim N : Nat} {K F S T : Nat → Nat} {R : List Int32} {n : Nat} {d : Bool} {p : Nat} {x y w : List Int32} {r : List am_F} (H : ys_H N K F S T R n d p x y w r b_kind b_nch b_na b_nb b_nc b_vec b_vlen b_fnode b_fmode b_fph b_fi) (hk : K n = 1) (hc : 0 < n)
    (h : ∀ er sp c l fn fm fp fi, ym_O K n d p x y r R (am_fork (F n) (S n) (T n) d p x y w R) er sp c l fn fm fp fi → post (nI lim, g_tlen, g_held, g_root, g_clen, g_xn, g_yn, g_rn, g_stat, g_nn, g_wsp, g_depth, sp, er, b_text, b_canon, b_xs, b_ys, b_res, b_kind, b_nch, b_na, b_nb, b_nc, b_ws, b_fb, b_pend, b_cst, fn, fm, fp, fi, c, l)) : wpY_step post (nI lim, g_tlen, g_held, g_root, g_clen, g_xn, g_yn, g_rn, g_stat, g_nn, g_wsp, g_depth, nI r.length, 0, b_text, b_canon, b_xs, b_ys, b_res, b_kind, b_nch, b_na, b_nb, b_nc, b_ws, b_fb, b_pend, b_cst, b_fnode, b_fmode, b_fph, b_fi, b_vec, b_vlen) := by
  have HH := H
  obtain ⟨hT, hN, hn, hf, hp, ht, hr, h3, p16⟩ := H
  have ht' := ht
  obtain ⟨t1, t2, t3, tx, ty, t5, t6⟩ := ht
  have e1 : (nI r.length).toNatClampNeg = r.length := nI_clamp (by omega)
  have e2 : (nI n).toNatClampNeg = n := nI_clamp (by omega)
  have i1 : vp_in (nI r.length) 128 := vp_in_nI (by omega) (by omega)
  have i2 : vp_in (nI n) 128 := vp_in_nI (by omega) (by omega)
  obtain ⟨k1, k2, k3, k4, k5⟩ := hT n hn
  have a0 : nI (5 * r.length) + 0 = nI (5 * r.length) := Int32.add_zero _
  have a1 : nI (5 * r.length) + 1 = nI (5 * r.length + 1) := nI_1 _
  have a2 : nI (5 * r.length) + 2 = nI (5 * r.length + 2) := nI_add _ 2
  have b0 : nI (5 * (r.length + 1)) + 0 = nI (5 * (r.length + 1)) := Int32.add_zero _
  have b1 : nI (5 * (r.length + 1)) + 1 = nI (5 * (r.length + 1) + 1) := nI_1 _
  have b3 : nI (5 * (r.length + 1)) + 3 = nI (5 * (r.length + 1) + 3) := nI_add _ 3
  have ph := fun q => ym_ph0 (k := K n) (p := q) (by omega) (by omega) (by omega)
  have ky : tr_ky (K n) = 3 := by unfold tr_ky; rw [if_pos hk]
  have hfi2 : ∀ q, K n = 47 ∨ K n = 92 ∨ K n = 34 → b_fi r.length = nI (ym_fi (K n) d q) := fun q z => by omega
  refine br_f (nI_pos (by omega)) (br_t (nI_lt (b := 128) (by omega) (by decide)) ⟨i1, nm_r (e' := nI n) (by rw [e1]; exact t1) ⟨i1, nm_r (e' := xm_m d) (by rw [e1]; exact t2) ⟨i1, nm_r (e' := nI (ym_ph (K n) p)) (by rw [e1]; exact hp) (nm_r (e' := nI (5 * r.length)) ((pk_mul _ 5).trans (congrArg nI (Nat.mul_comm _ _))) (nm_r (e' := nI (5 * (r.length + 1))) (nI_add (5 * r.length) 5) ⟨i2, nm_r (e' := nI (tr_ky (K n))) (by rw [e2]; exact k1) ?_⟩))⟩⟩⟩)
  rw [ky, ph]
  refine br_f (by decide) (br_f (by decide) ?_)
  unfold am_fork at h
  have m : wY_step_144 post (nI n) (xm_m d) (nI p) (nI (5 * r.length)) (nI (5 * (r.length + 1))) (nI 3) (nI lim) g_tlen g_held g_root g_clen g_xn g_yn g_rn g_stat g_nn g_wsp g_depth (nI r.length) 0 b_text b_canon b_xs b_ys b_res b_kind b_nch b_na b_nb b_nc b_ws b_fb b_pend b_cst b_fnode b_fmode b_fph b_fi b_vec b_vlen := by
    unfold wY_step_144
    refine pk_eq p 0 (fun e => ?_) (fun e => pk_eq p 1 (fun e' => br_f (by decide) ?_) (fun e' => ?_))
    · rw [if_pos e] at h
      rw [a0, b0, a1, b1]
      refine yv_copy (by omega) (by omega) (by omega) fun c l hF hL => ?_
      refine yv_copy (by omega) (by omega) (by omega) fun c2 l2 hF2 hL2 => br_t rfl ⟨i2, ?_⟩
      rw [e2, k5]
      unfold wY_step_195
      refine yv_call (nx := 1) (by omega) (h _ _ _ _ _ _ _ _ (ym_Op (ym_pushn 1 (by rw [ph, e]) R w (T n) d x y ht' hr (ve_Ft (ve_Fg hF (by omega)) (ve_Fg hF2 (by omega))) (fun _ _ => rfl) (hfi2 _) (fun _ z => by omega) (fun z => by omega) (fun z => ve_o hF2 (by omega) (hL x (tx z))) (hL2 y (ve_o hF (by omega) ty)))))
    · rw [if_neg e, if_pos e'] at h
      unfold wY_step_262
      refine pk_eq p 1 (fun _ => br_f (by decide) ?_) (fun z => absurd e' z)
      unfold wY_step_299
      refine pk_eq p 1 (fun _ => ?_) (fun z => absurd e' z)
      rw [a0, b0, a1, b1, a2, b3]
      refine yv_copy (by omega) (by omega) (by omega) fun c l hF hL => ?_
      refine yv_copy (by omega) (by omega) (by omega) fun c2 l2 hF2 hL2 => ?_
      refine yv_copy (by omega) (by omega) (by omega) fun c3 l3 hF3 hL3 => ⟨i2, ?_⟩
      rw [e2, k3]
      refine yv_call (nx := 2) (by omega) (h _ _ _ _ _ _ _ _ (ym_Op (ym_pushn 2 (by rw [ph, e']) R R (F n) d x y ht' hr (ve_Ft (ve_Fg hF (by omega)) (ve_Ft (ve_Fg hF2 (by omega)) (ve_Fg hF3 (by omega)))) (fun _ _ => rfl) (hfi2 _) (fun _ _ => ve_o hF3 (by omega) (ve_o hF2 (by omega) (hL R (h3 (by omega))))) (fun z => by omega) (fun z => ve_o hF3 (by omega) (hL2 x (ve_o hF (by omega) (tx z)))) (hL3 y (ve_o hF2 (by omega) (ve_o hF (by omega) ty))))))
    · unfold wY_step_262
      refine pk_eq p 1 (fun z => absurd z e') (fun _ => ?_)
      unfold wY_step_299
      refine pk_eq p 1 (fun z => absurd z e') (fun _ => pk_eq p 2 (fun e'' => br_t rfl ?_) (fun e'' => ?_))
      · rw [if_neg e, if_neg e', if_pos e''] at h
        rw [b0, b1, a2, b3]
        refine yv_copy (by omega) (by omega) (by omega) fun c l hF hL => ?_
        refine yv_copy (by omega) (by omega) (by omega) fun c2 l2 hF2 hL2 => ⟨i2, ?_⟩
        rw [e2, k4]
        refine yv_call (nx := 3) (m := xm_m true) (by omega) (h _ _ _ _ _ _ _ _ (ym_Op (ym_pushn 3 (by rw [ph, e'']) R w (S n) true R w ht' hr (ve_Ft (ve_Fg hF (by omega)) (ve_Fg hF2 (by omega))) (fun _ _ => rfl) (hfi2 _) (fun _ z => by omega) (fun z => by omega) (fun _ => ve_o hF2 (by omega) (hL R (h3 (by omega)))) (hL2 w (ve_o hF (by omega) (t5 hk e''))))))
      · rw [if_neg e, if_neg e', if_neg e''] at h
        exact ys_403 (lim := lim) HH (by omega) fun sp c l hS => h _ _ _ _ _ _ _ _ (ym_Oq hS)
  exact br_c (fun _ => br_f (by decide) m) (fun _ => m)
theorem ys_atop {g_tlen g_held g_root g_clen g_xn g_yn g_rn g_stat g_nn g_wsp g_depth : Int32} {b_text b_canon b_xs b_ys b_res b_kind b_nch b_na b_nb b_nc b_ws b_fb b_pend b_cst b_fnode b_fmode b_fph b_fi b_vec b_vlen : Nat → Int32} {post : SY → Prop} {lim N : Nat} {K F S T : Nat → Nat} {R : List Int32} {n : Nat} {d : Bool} {p : Nat} {x y w : List Int32} {r : List am_F} (H : ys_H N K F S T R n d p x y w r b_kind b_nch b_na b_nb b_nc b_vec b_vlen b_fnode b_fmode b_fph b_fi) (hk : K n = 64) (hc : 0 < n)
    (h : ∀ er sp c l fn fm fp fi, ym_O K n d p x y r R (am_atop (F n) (S n) d p x y w R) er sp c l fn fm fp fi → post (nI lim, g_tlen, g_held, g_root, g_clen, g_xn, g_yn, g_rn, g_stat, g_nn, g_wsp, g_depth, sp, er, b_text, b_canon, b_xs, b_ys, b_res, b_kind, b_nch, b_na, b_nb, b_nc, b_ws, b_fb, b_pend, b_cst, fn, fm, fp, fi, c, l)) : wpY_step post (nI lim, g_tlen, g_held, g_root, g_clen, g_xn, g_yn, g_rn, g_stat, g_nn, g_wsp, g_depth, nI r.length, 0, b_text, b_canon, b_xs, b_ys, b_res, b_kind, b_nch, b_na, b_nb, b_nc, b_ws, b_fb, b_pend, b_cst, b_fnode, b_fmode, b_fph, b_fi, b_vec, b_vlen) := by
  have HH := H
  obtain ⟨hT, hN, hn, hf, hp, ht, hr, h3, p16⟩ := H
  have ht' := ht
  obtain ⟨t1, t2, t3, tx, ty, t5, t6⟩ := ht
  have e1 : (nI r.length).toNatClampNeg = r.length := nI_clamp (by omega)
  have e2 : (nI n).toNatClampNeg = n := nI_clamp (by omega)
  have i1 : vp_in (nI r.length) 128 := vp_in_nI (by omega) (by omega)
  have i2 : vp_in (nI n) 128 := vp_in_nI (by omega) (by omega)
  obtain ⟨k1, k2, k3, k4, k5⟩ := hT n hn
  have a0 : nI (5 * r.length) + 0 = nI (5 * r.length) := Int32.add_zero _
  have a1 : nI (5 * r.length) + 1 = nI (5 * r.length + 1) := nI_1 _
  have b0 : nI (5 * (r.length + 1)) + 0 = nI (5 * (r.length + 1)) := Int32.add_zero _
  have b1 : nI (5 * (r.length + 1)) + 1 = nI (5 * (r.length + 1) + 1) := nI_1 _
  have b3 : nI (5 * (r.length + 1)) + 3 = nI (5 * (r.length + 1) + 3) := nI_add _ 3
  have ph := fun q => ym_ph0 (k := K n) (p := q) (by omega) (by omega) (by omega)
  have ky : tr_ky (K n) = 2 := by unfold tr_ky; rw [hk]; rfl
  have hfi2 : ∀ q, K n = 47 ∨ K n = 92 ∨ K n = 34 → b_fi r.length = nI (ym_fi (K n) d q) := fun q z => by omega
  refine br_f (nI_pos (by omega)) (br_t (nI_lt (b := 128) (by omega) (by decide)) ⟨i1, nm_r (e' := nI n) (by rw [e1]; exact t1) ⟨i1, nm_r (e' := xm_m d) (by rw [e1]; exact t2) ⟨i1, nm_r (e' := nI (ym_ph (K n) p)) (by rw [e1]; exact hp) (nm_r (e' := nI (5 * r.length)) ((pk_mul _ 5).trans (congrArg nI (Nat.mul_comm _ _))) (nm_r (e' := nI (5 * (r.length + 1))) (nI_add (5 * r.length) 5) ⟨i2, nm_r (e' := nI (tr_ky (K n))) (by rw [e2]; exact k1) ?_⟩))⟩⟩⟩)
  rw [ky, ph]
  refine br_f (by decide) (br_f (by decide) ?_)
  unfold am_atop at h
  have m : wY_step_144 post (nI n) (xm_m d) (nI p) (nI (5 * r.length)) (nI (5 * (r.length + 1))) (nI 2) (nI lim) g_tlen g_held g_root g_clen g_xn g_yn g_rn g_stat g_nn g_wsp g_depth (nI r.length) 0 b_text b_canon b_xs b_ys b_res b_kind b_nch b_na b_nb b_nc b_ws b_fb b_pend b_cst b_fnode b_fmode b_fph b_fi b_vec b_vlen := by
    unfold wY_step_144
    refine pk_eq p 0 (fun e => ?_) (fun e => pk_eq p 1 (fun e' => br_f (by decide) ?_) (fun e' => ?_))
    · rw [if_pos e] at h
      rw [a0, b0, a1, b1]
      refine yv_copy (by omega) (by omega) (by omega) fun c l hF hL => ?_
      refine yv_copy (by omega) (by omega) (by omega) fun c2 l2 hF2 hL2 => br_f (by decide) ⟨i2, ?_⟩
      rw [e2, k4]
      unfold wY_step_195
      refine yv_call (nx := 1) (by omega) (h _ _ _ _ _ _ _ _ (ym_Op (ym_pushn 1 (by rw [ph, e]) R w (S n) d x y ht' hr (ve_Ft (ve_Fg hF (by omega)) (ve_Fg hF2 (by omega))) (fun _ _ => rfl) (hfi2 _) (fun z => by omega) (fun z => by omega) (fun z => ve_o hF2 (by omega) (hL x (tx z))) (hL2 y (ve_o hF (by omega) ty)))))
    · rw [if_neg e, if_pos e'] at h
      unfold wY_step_262
      refine pk_eq p 1 (fun _ => br_t rfl ?_) (fun z => absurd e' z)
      rw [b1, b3]
      refine yv_copy (by omega) (by omega) (by omega) fun c l hF hL => ⟨i2, ?_⟩
      rw [e2, k3]
      refine yv_call (nx := 2) (m := xm_m false) (by omega) (h _ _ _ _ _ _ _ _ (ym_Op (ym_pushn 2 (by rw [ph, e']) R w (F n) false [] R ht' hr (ve_Fg hF (by omega)) (fun _ _ => rfl) (hfi2 _) (fun z => by omega) (fun z => by omega) (fun z => by cases z) (hL R (h3 (by omega))))))
    · rw [if_neg e, if_neg e'] at h
      unfold wY_step_262
      refine pk_eq p 1 (fun z => absurd z e') (fun _ => ?_)
      unfold wY_step_299
      have m403 := ys_403 (post := post) (lim := lim) (g_lim := nI lim) (g_err := 0) HH (by omega) fun sp c l hS => h _ _ _ _ _ _ _ _ (ym_Oq hS)
      exact pk_eq p 1 (fun z => absurd z e') (fun _ => br_c (fun _ => br_f (by decide) m403) (fun _ => m403))
  exact br_c (fun _ => br_f (by decide) m) (fun _ => m)
theorem ys_d1 (d : Bool) {A B : Prop} (a : d = false → A) (b : d = true → B) : (xm_m d = 1 → A) ∧ (¬ xm_m d = 1 → B) := by
  cases d
  · exact ⟨fun _ => a rfl, fun z => absurd rfl z⟩
  · exact ⟨fun z => absurd z (by decide), fun _ => b rfl⟩
theorem ys_d2 (d : Bool) {A B : Prop} (a : d = true → A) (b : d = false → B) : (xm_m d = 2 → A) ∧ (¬ xm_m d = 2 → B) := by
  cases d
  · exact ⟨fun z => absurd z (by decide), fun _ => b rfl⟩
  · exact ⟨fun _ => a rfl, fun z => absurd rfl z⟩
theorem ys_hook {g_tlen g_held g_root g_clen g_xn g_yn g_rn g_stat g_nn g_wsp g_depth : Int32} {b_text b_canon b_xs b_ys b_res b_kind b_nch b_na b_nb b_nc b_ws b_fb b_pend b_cst b_fnode b_fmode b_fph b_fi b_vec b_vlen : Nat → Int32} {post : SY → Prop} {lim N : Nat} {K F S T : Nat → Nat} {R : List Int32} {n : Nat} {d : Bool} {p : Nat} {x y w : List Int32} {r : List am_F} (H : ys_H N K F S T R n d p x y w r b_kind b_nch b_na b_nb b_nc b_vec b_vlen b_fnode b_fmode b_fph b_fi) (hk : K n = 2) (hc : 0 < n)
    (h : ∀ er sp c l fn fm fp fi, ym_O K n d p x y r R (am_hook (F n) (S n) d p x y w R) er sp c l fn fm fp fi → post (nI lim, g_tlen, g_held, g_root, g_clen, g_xn, g_yn, g_rn, g_stat, g_nn, g_wsp, g_depth, sp, er, b_text, b_canon, b_xs, b_ys, b_res, b_kind, b_nch, b_na, b_nb, b_nc, b_ws, b_fb, b_pend, b_cst, fn, fm, fp, fi, c, l)) : wpY_step post (nI lim, g_tlen, g_held, g_root, g_clen, g_xn, g_yn, g_rn, g_stat, g_nn, g_wsp, g_depth, nI r.length, 0, b_text, b_canon, b_xs, b_ys, b_res, b_kind, b_nch, b_na, b_nb, b_nc, b_ws, b_fb, b_pend, b_cst, b_fnode, b_fmode, b_fph, b_fi, b_vec, b_vlen) := by
  have HH := H
  obtain ⟨hT, hN, hn, hf, hp, ht, hr, h3, p16⟩ := H
  have ht' := ht
  obtain ⟨t1, t2, t3, tx, ty, t5, t6⟩ := ht
  have e1 : (nI r.length).toNatClampNeg = r.length := nI_clamp (by omega)
  have e2 : (nI n).toNatClampNeg = n := nI_clamp (by omega)
  have i1 : vp_in (nI r.length) 128 := vp_in_nI (by omega) (by omega)
  have i2 : vp_in (nI n) 128 := vp_in_nI (by omega) (by omega)
  obtain ⟨k1, k2, k3, k4, k5⟩ := hT n hn
  have a0 : nI (5 * r.length) + 0 = nI (5 * r.length) := Int32.add_zero _
  have a1 : nI (5 * r.length) + 1 = nI (5 * r.length + 1) := nI_1 _
  have b0 : nI (5 * (r.length + 1)) + 0 = nI (5 * (r.length + 1)) := Int32.add_zero _
  have b1 : nI (5 * (r.length + 1)) + 1 = nI (5 * (r.length + 1) + 1) := nI_1 _
  have b3 : nI (5 * (r.length + 1)) + 3 = nI (5 * (r.length + 1) + 3) := nI_add _ 3
  have ph := fun q => ym_ph0 (k := K n) (p := q) (by omega) (by omega) (by omega)
  have ky : tr_ky (K n) = 4 := by unfold tr_ky; rw [hk]; rfl
  have hfi2 : ∀ q, K n = 47 ∨ K n = 92 ∨ K n = 34 → b_fi r.length = nI (ym_fi (K n) d q) := fun q z => by omega
  refine br_f (nI_pos (by omega)) (br_t (nI_lt (b := 128) (by omega) (by decide)) ⟨i1, nm_r (e' := nI n) (by rw [e1]; exact t1) ⟨i1, nm_r (e' := xm_m d) (by rw [e1]; exact t2) ⟨i1, nm_r (e' := nI (ym_ph (K n) p)) (by rw [e1]; exact hp) (nm_r (e' := nI (5 * r.length)) ((pk_mul _ 5).trans (congrArg nI (Nat.mul_comm _ _))) (nm_r (e' := nI (5 * (r.length + 1))) (nI_add (5 * r.length) 5) ⟨i2, nm_r (e' := nI (tr_ky (K n))) (by rw [e2]; exact k1) ?_⟩))⟩⟩⟩)
  rw [ky, ph]
  refine br_f (by decide) (br_f (by decide) ?_)
  unfold am_hook at h
  refine pk_eq p 0 (fun e => br_t rfl ?_) (fun e => ?_)
  · rw [if_pos e] at h
    rw [a1, b1]
    refine yv_copy (by omega) (by omega) (by omega) fun c l hF hL => ⟨i2, ?_⟩
    rw [e2, k4]
    refine yv_call (nx := 1) (m := xm_m false) (by omega) (h _ _ _ _ _ _ _ _ (ym_Op (ym_pushn 1 (by rw [ph, e]) R w (S n) false [] y ht' hr (ve_Fg hF (by omega)) (fun _ _ => rfl) (hfi2 _) (fun z => by omega) (fun z => by omega) (fun z => by cases z) (hL y ty))))
  · unfold wY_step_144
    refine pk_eq p 0 (fun z => absurd z e) (fun _ => pk_eq p 1 (fun e' => br_t rfl ?_) (fun e' => ?_))
    · rw [if_neg e, if_pos e'] at h
      rw [b1, b3]
      refine yv_copy (by omega) (by omega) (by omega) fun c l hF hL => ?_
      refine ys_d1 d (fun hd => ?_) (fun hd => ?_)
      · rw [if_neg (by rw [hd]; decide)] at h
        unfold wY_step_242
        rw [a1, b0]
        refine yv_copy (by omega) (by omega) (by omega) fun c2 l2 hF2 hL2 => ⟨i2, ?_⟩
        rw [e2, k3]
        refine yv_call (nx := 2) (m := xm_m true) (by omega) (h _ _ _ _ _ _ _ _ (ym_Op (ym_pushn 2 (by rw [ph, e']) R w (F n) true y R ht' hr (ve_Ft (ve_Fg hF (by omega)) (ve_Fg hF2 (by omega))) (fun _ _ => rfl) (hfi2 _) (fun z => by omega) (fun z => by omega) (fun _ => hL2 y (ve_o hF (by omega) ty)) (ve_o hF2 (by omega) (hL R (h3 (by omega)))))))
      · rw [if_pos hd] at h
        unfold wY_step_242
        rw [a0, b0]
        refine yv_copy (by omega) (by omega) (by omega) fun c2 l2 hF2 hL2 => ⟨i2, ?_⟩
        rw [e2, k3]
        refine yv_call (nx := 2) (m := xm_m true) (by omega) (h _ _ _ _ _ _ _ _ (ym_Op (ym_pushn 2 (by rw [ph, e']) R w (F n) true x R ht' hr (ve_Ft (ve_Fg hF (by omega)) (ve_Fg hF2 (by omega))) (fun _ _ => rfl) (hfi2 _) (fun z => by omega) (fun z => by omega) (fun _ => hL2 x (ve_o hF (by omega) (tx hd))) (ve_o hF2 (by omega) (hL R (h3 (by omega)))))))
    · rw [if_neg e, if_neg e'] at h
      unfold wY_step_262
      refine pk_eq p 1 (fun z => absurd z e') (fun _ => ?_)
      unfold wY_step_299
      have m403 := ys_403 (post := post) (lim := lim) (g_lim := nI lim) (g_err := 0) HH (by omega) fun sp c l hS => h _ _ _ _ _ _ _ _ (ym_Oq hS)
      exact pk_eq p 1 (fun z => absurd z e') (fun _ => br_c (fun _ => br_f (by decide) m403) (fun _ => m403))
