/-! the reference's adverbs -/
theorem ax_s1 (f i : Nat) : (nI (5 * f) + 1) * 16 + nI i = nI (16 * (5 * f + 1) + i) := by
  rw [nI_1, ax_mul]
theorem ax_s0 (f i : Nat) : (nI (5 * f) + 0) * 16 + nI i = nI (16 * (5 * f) + i) := by
  rw [Int32.add_zero, ax_mul]
theorem ya_620 {g_tlen g_held g_root g_clen g_xn g_yn g_rn g_stat g_nn g_wsp g_depth : Int32} {b_text b_canon b_xs b_ys b_res b_kind b_nch b_na b_nb b_nc b_ws b_fb b_pend b_cst b_fnode b_fmode b_fph b_fi b_vec b_vlen : Nat → Int32} {post : SY → Prop} {lim N : Nat} {K F S T : Nat → Nat} {R : List Int32} {n : Nat} {d : Bool} {p : Nat} {x y w : List Int32} {r : List am_F} (H : ys_H N K F S T R n d p x y w r b_kind b_nch b_na b_nb b_nc b_vec b_vlen b_fnode b_fmode b_fph b_fi) (hc : 0 < n) (ha : K n = 47 ∨ K n = 92 ∨ K n = 34) {d' : Bool} {md : Int32} (hmd : md = xm_m d') {c1 l1 fi1 : Nat → Int32} (hF1 : ve_F (fun t => 5 * r.length + 2 ≤ t) b_vec b_vlen c1 l1) (hfi : ∀ j, j < r.length → fi1 j = b_fi j) (hfi2 : fi1 r.length = nI (ym_fi (K n) d (p + 1))) {w' x' y' : List Int32} (hw2 : K n = 92 ∨ K n = 34 → ve_L c1 l1 (5 * r.length + 4) w')
    (hx : d' = true → ve_L c1 l1 (5 * (r.length + 1)) x') (hy : ve_L c1 l1 (5 * (r.length + 1) + 1) y')
    (h : ∀ er sp c l fn fm fp fi, ym_O K n d p x y r R (am_push w' (F n) d' x' y') er sp c l fn fm fp fi → post (nI lim, g_tlen, g_held, g_root, g_clen, g_xn, g_yn, g_rn, g_stat, g_nn, g_wsp, g_depth, sp, er, b_text, b_canon, b_xs, b_ys, b_res, b_kind, b_nch, b_na, b_nb, b_nc, b_ws, b_fb, b_pend, b_cst, fn, fm, fp, fi, c, l)) :
    wpY_call post (nI lim, g_tlen, g_held, g_root, g_clen, g_xn, g_yn, g_rn, g_stat, g_nn, g_wsp, g_depth, nI r.length, 0, b_text, b_canon, b_xs, b_ys, b_res, b_kind, b_nch, b_na, b_nb, b_nc, b_ws, b_fb, b_pend, b_cst, b_fnode, b_fmode, b_fph, fi1, c1, l1) (nI (F n)) md 1 := by
  obtain ⟨hT, hN, hn, hf, hp, ht, hr, h3, p16⟩ := H
  subst hmd
  have ph : ym_ph (K n) (p + 1) = 1 := by
    unfold ym_ph; rw [if_pos ha]; omega
  exact yv_call (nx := 1) (by omega) (h _ _ _ _ _ _ _ _ (ym_Op (ym_pushn 1 ph R w' (F n) d' x' y' ht hr hF1 hfi (fun _ => hfi2) (fun z => by omega) hw2 hx hy)))
theorem ya_fold {g_tlen g_held g_root g_clen g_xn g_yn g_rn g_stat g_nn g_wsp g_depth : Int32} {b_text b_canon b_xs b_ys b_res b_kind b_nch b_na b_nb b_nc b_ws b_fb b_pend b_cst b_fnode b_fmode b_fph b_fi b_vec b_vlen : Nat → Int32} {post : SY → Prop} {lim N : Nat} {K F S T : Nat → Nat} {R : List Int32} {n : Nat} {d : Bool} {p : Nat} {x y w : List Int32} {r : List am_F} (H : ys_H N K F S T R n d p x y w r b_kind b_nch b_na b_nb b_nc b_vec b_vlen b_fnode b_fmode b_fph b_fi) (hc : 0 < n) (hk : K n = 47 ∨ K n = 92) {c1 l1 fi1 : Nat → Int32} (hF1 : ve_F (fun t => 5 * r.length + 2 ≤ t) b_vec b_vlen c1 l1) (hfi : ∀ j, j < r.length → fi1 j = b_fi j)
    {m : Nat} (hm : fi1 r.length = nI m) (hm17 : m ≤ 17) (hm1 : m < y.length → m = am_nx d p) (hm2 : ¬ m < y.length → ¬ am_nx d p < y.length)
    {a w' v : List Int32} (hA : ve_L c1 l1 (if K n = 47 then 5 * r.length + 3 else 5 * r.length + 2) a) (hZ : K n = 92 → ve_L c1 l1 (5 * r.length + 4) w') (hv1 : K n = 47 → v = a) (hv2 : K n = 92 → v = w')
    (h : ∀ er sp c l fn fm fp fi, ym_O K n d p x y r R (if am_nx d p < y.length then am_push w' (F n) true a [y.getD (am_nx d p) 0] else am_pop v) er sp c l fn fm fp fi → post (nI lim, g_tlen, g_held, g_root, g_clen, g_xn, g_yn, g_rn, g_stat, g_nn, g_wsp, g_depth, sp, er, b_text, b_canon, b_xs, b_ys, b_res, b_kind, b_nch, b_na, b_nb, b_nc, b_ws, b_fb, b_pend, b_cst, fn, fm, fp, fi, c, l)) :
    wY_stepAdv_354 post (nI r.length) (xm_m d) (nI (5 * r.length)) (nI (5 * (r.length + 1))) (nI (F n)) (nI (K n)) (nI y.length) (nI lim) g_tlen g_held g_root g_clen g_xn g_yn g_rn g_stat g_nn g_wsp g_depth (nI r.length) 0 b_text b_canon b_xs b_ys b_res b_kind b_nch b_na b_nb b_nc b_ws b_fb b_pend b_cst b_fnode b_fmode b_fph fi1 c1 l1 := by
  have HH := H
  have hk3 : K n = 47 ∨ K n = 92 ∨ K n = 34 := hk.elim Or.inl (fun e => Or.inr (Or.inl e))
  have h92 : K n = 92 ∨ K n = 34 → K n = 92 := fun q => by rcases hk with e | e <;> omega
  have kn34 : ¬ K n = 34 := by rcases hk with e | e <;> omega
  have kn92 : ¬ K n = 47 → K n = 92 := fun e => hk.elim (fun z => absurd z e) id
  have kb : K n < 2 ^ 31 := by rcases hk with e | e <;> omega
  obtain ⟨hT, hN, hn, hf, hp, ht, hr, h3, p16⟩ := H
  have ht' := ht
  obtain ⟨t1, t2, t3, tx, ty, t5, t6⟩ := ht
  have e1 : (nI r.length).toNatClampNeg = r.length := nI_clamp (by omega)
  have i1 : vp_in (nI r.length) 128 := vp_in_nI (by omega) (by omega)
  have a2 : nI (5 * r.length) + 2 = nI (5 * r.length + 2) := nI_add _ 2
  have b0 : nI (5 * (r.length + 1)) + 0 = nI (5 * (r.length + 1)) := Int32.add_zero _
  have b1 : nI (5 * (r.length + 1)) + 1 = nI (5 * (r.length + 1) + 1) := nI_1 _
  have a3 : nI (5 * r.length) + 3 = nI (5 * r.length + 3) := nI_add _ 3
  have a4 : nI (5 * r.length) + 4 = nI (5 * r.length + 4) := nI_add _ 4
  have y16 := ty.1
  have ty1 := ve_o hF1 (by omega) ty
  have hnx := am_nxs d p
  unfold wY_stepAdv_354
  refine ⟨i1, nm_r (e' := nI m) (by rw [e1]; exact hm) (pk_eq (K n) 34 (fun z => absurd z kn34) (fun _ => ?_) rfl rfl kb)⟩
  unfold wY_stepAdv_392
  refine pk_le y.length m (fun z => ?_) (fun z => ?_)
  · rw [if_neg (hm2 (by omega))] at h
    unfold wY_stepAdv_406
    refine pk_eq (K n) 47 (fun e => nm_e (h _ _ _ _ _ _ _ _ (ym_Oq ?_))) (fun e => ?_) rfl rfl kb
    · rw [if_pos e] at hA
      rw [hv1 e]
      exact ym_pop hr (ve_Fm hF1 fun t z => by have z' : 5 * r.length + 2 ≤ t := z; show 5 * r.length ≤ t; omega) hfi (fun _ _ => rfl) (ys_m1 _) hA
    · rw [a4, a3]
      refine yv_copy (by omega) (by omega) (by omega) fun c l hF hL => nm_e (h _ _ _ _ _ _ _ _ (ym_Oq ?_))
      rw [hv2 (kn92 e)]
      exact ym_pop hr (ve_Ft (ve_Fm hF1 fun t z => by have z' : 5 * r.length + 2 ≤ t := z; show 5 * r.length ≤ t; omega) (ve_Fg hF (by omega))) hfi (fun _ _ => rfl) (ys_m1 _) (hL w' (hZ (kn92 e)))
  · have em := hm1 z
    rw [← em, if_pos z] at h
    clear hm1 hm2 hv1 hv2 t3 t5 t6
    refine br_t (nI_lt (b := 16) (by omega) (by decide)) (pk_eq (K n) 34 (fun z => absurd z kn34) (fun _ => ?_) rfl rfl kb)
    have g1 : 5 * r.length + 2 ≤ 5 * (r.length + 1) := by omega
    have g2 : 5 * r.length + 2 ≤ 5 * (r.length + 1) + 1 := by omega
    have g3 : 5 * r.length + 4 ≠ 5 * (r.length + 1) := by omega
    have g4 : 5 * r.length + 4 ≠ 5 * (r.length + 1) + 1 := by omega
    have g5 : 5 * (r.length + 1) ≠ 5 * (r.length + 1) + 1 := by omega
    have fin : ∀ q, q < 645 → q ≠ 5 * (r.length + 1) → ve_L c1 l1 q a → wY_stepAdv_590 post (nI (5 * r.length)) (nI (5 * (r.length + 1))) (nI (F n)) (nI m) (nI q) (nI lim) g_tlen g_held g_root g_clen g_xn g_yn g_rn g_stat g_nn g_wsp g_depth (nI r.length) 0 b_text b_canon b_xs b_ys b_res b_kind b_nch b_na b_nb b_nc b_ws b_fb b_pend b_cst b_fnode b_fmode b_fph fi1 c1 l1 := by
      intro q hq hq2 hqa
      have e7 : (nI (16 * (5 * r.length + 1) + m)).toNatClampNeg = 16 * (5 * r.length + 1) + m := nI_clamp (by omega)
      unfold wY_stepAdv_590
      rw [b0, b1, ax_s1]
      refine yv_copy hq (by omega) hq2 fun c l hF hL => ⟨vp_in_nI (by omega) (by omega), ?_⟩
      rw [e7, (ve_o hF (by omega) ty1).2.2 m z]
      refine yv_one (by omega) fun c2 l2 hF2 hL2 => ?_
      unfold wY_stepAdv_620
      refine ya_620 HH hc hk3 (d' := true) rfl (ve_Ft hF1 (ve_Ft (ve_Fg hF g1) (ve_Fg hF2 g2))) hfi ?_ (w' := w') (fun q => ve_o hF2 g4 (ve_o hF g3 (hZ (h92 q)))) (fun _ => ve_o hF2 g5 (hL a hqa)) hL2 h
      unfold ym_fi
      rw [if_neg kn34, hm, hnx, em, Nat.add_sub_cancel]
    unfold wY_stepAdv_480
    refine pk_eq (K n) 34 (fun z => absurd z kn34) (fun _ => pk_eq (K n) 47 (fun e => ?_) (fun e => ?_) rfl rfl kb) rfl rfl kb
    · rw [if_pos e] at hA
      rw [a3]
      exact fin _ (by omega) (by omega) hA
    · rw [if_neg e] at hA
      rw [a2]
      exact fin _ (by omega) (by omega) hA
theorem ya_each {g_tlen g_held g_root g_clen g_xn g_yn g_rn g_stat g_nn g_wsp g_depth : Int32} {b_text b_canon b_xs b_ys b_res b_kind b_nch b_na b_nb b_nc b_ws b_fb b_pend b_cst b_fnode b_fmode b_fph b_fi b_vec b_vlen : Nat → Int32} {post : SY → Prop} {lim N : Nat} {K F S T : Nat → Nat} {R : List Int32} {n : Nat} {d : Bool} {p : Nat} {x y w : List Int32} {r : List am_F} (H : ys_H N K F S T R n d p x y w r b_kind b_nch b_na b_nb b_nc b_vec b_vlen b_fnode b_fmode b_fph b_fi) (hc : 0 < n) (hk : K n = 34) {c1 l1 fi1 : Nat → Int32} (hF1 : ve_F (fun t => 5 * r.length + 2 ≤ t) b_vec b_vlen c1 l1) (hfi : ∀ j, j < r.length → fi1 j = b_fi j)
    (hm : fi1 r.length = nI p) {q : Nat} (hq : am_cnt d x y = some q) {w' : List Int32} (hZ : ve_L c1 l1 (5 * r.length + 4) w')
    (h : ∀ er sp c l fn fm fp fi, ym_O K n d p x y r R (if p < q then am_push w' (F n) d (if d = true then [pr_el x p] else []) [if d = true then pr_el y p else y.getD p 0] else am_pop w') er sp c l fn fm fp fi → post (nI lim, g_tlen, g_held, g_root, g_clen, g_xn, g_yn, g_rn, g_stat, g_nn, g_wsp, g_depth, sp, er, b_text, b_canon, b_xs, b_ys, b_res, b_kind, b_nch, b_na, b_nb, b_nc, b_ws, b_fb, b_pend, b_cst, fn, fm, fp, fi, c, l)) :
    wY_stepAdv_354 post (nI r.length) (xm_m d) (nI (5 * r.length)) (nI (5 * (r.length + 1))) (nI (F n)) (nI (K n)) (nI y.length) (nI lim) g_tlen g_held g_root g_clen g_xn g_yn g_rn g_stat g_nn g_wsp g_depth (nI r.length) 0 b_text b_canon b_xs b_ys b_res b_kind b_nch b_na b_nb b_nc b_ws b_fb b_pend b_cst b_fnode b_fmode b_fph fi1 c1 l1 := by
  have HH := H
  obtain ⟨hT, hN, hn, hf, hp, ht, hr, h3, p16⟩ := H
  have ht' := ht
  obtain ⟨t1, t2, t3, tx, ty, t5, t6⟩ := ht
  have e1 : (nI r.length).toNatClampNeg = r.length := nI_clamp (by omega)
  have i1 : vp_in (nI r.length) 128 := vp_in_nI (by omega) (by omega)
  have a0 : nI (5 * r.length) + 0 = nI (5 * r.length) := Int32.add_zero _
  have a1 : nI (5 * r.length) + 1 = nI (5 * r.length + 1) := nI_1 _
  have b0 : nI (5 * (r.length + 1)) + 0 = nI (5 * (r.length + 1)) := Int32.add_zero _
  have b1 : nI (5 * (r.length + 1)) + 1 = nI (5 * (r.length + 1) + 1) := nI_1 _
  have a3 : nI (5 * r.length) + 3 = nI (5 * r.length + 3) := nI_add _ 3
  have a4 : nI (5 * r.length) + 4 = nI (5 * r.length + 4) := nI_add _ 4
  have e0 : (nI (5 * r.length)).toNatClampNeg = 5 * r.length := nI_clamp (by omega)
  have y16 := ty.1
  have ty1 := ve_o hF1 (by omega) ty
  have tx1 := fun hd => ve_o hF1 (by omega) (tx hd)
  have q16 : q ≤ 16 := by
    unfold am_cnt at hq
    split at hq
    · rename_i hd; exact pr_cnt_le hq (tx hd).1 y16
    · cases hq; exact y16
  have hfi2 : fi1 r.length = nI (ym_fi (K n) d (p + 1)) := by unfold ym_fi; rw [if_pos hk]; exact hm
  have m392 : wY_stepAdv_392 post (xm_m d) (nI (5 * r.length)) (nI (5 * (r.length + 1))) (nI (F n)) (nI (K n)) (nI y.length) (nI p) (nI q) (nI lim) g_tlen g_held g_root g_clen g_xn g_yn g_rn g_stat g_nn g_wsp g_depth (nI r.length) 0 b_text b_canon b_xs b_ys b_res b_kind b_nch b_na b_nb b_nc b_ws b_fb b_pend b_cst b_fnode b_fmode b_fph fi1 c1 l1 := by
    unfold wY_stepAdv_392
    refine pk_le q p (fun z => ?_) (fun z => ?_)
    · rw [if_neg (by omega)] at h
      unfold wY_stepAdv_406
      refine pk_eq (K n) 47 (fun e => by omega) (fun e => ?_) rfl rfl (by omega)
      rw [a4, a3]
      refine yv_copy (by omega) (by omega) (by omega) fun c l hF hL => nm_e (h _ _ _ _ _ _ _ _ (ym_Oq ?_))
      exact ym_pop hr (ve_Ft (ve_Fm hF1 fun t z => by have z' : 5 * r.length + 2 ≤ t := z; show 5 * r.length ≤ t; omega) (ve_Fg hF (by omega))) hfi (fun _ _ => rfl) (ys_m1 _) (hL w' hZ)
    · rw [if_pos z] at h
      refine br_t (nI_lt (b := 16) (by omega) (by decide)) (pk_eq (K n) 34 (fun _ => ys_d1 d (fun hd => ?_) (fun hd => ?_)) (fun e => absurd hk e) rfl rfl (by omega))
      · have e7 : (nI (16 * (5 * r.length + 1) + p)).toNatClampNeg = 16 * (5 * r.length + 1) + p := nI_clamp (by omega)
        have zy : p < y.length := by
          unfold am_cnt at hq
          rw [if_neg (by rw [hd]; decide)] at hq
          cases hq; exact z
        rw [ax_s1, b1]
        refine ⟨vp_in_nI (by omega) (by omega), ?_⟩
        rw [e7, ty1.2.2 p zy]
        refine yv_one (by omega) fun c l hF hL => ?_
        rw [if_neg (by rw [hd]; decide), if_neg (by rw [hd]; decide)] at h
        exact ya_620 HH hc (by omega) (d' := d) (by rw [hd]; rfl) (ve_Ft hF1 (ve_Fg hF (by omega))) hfi hfi2 (fun _ => ve_o hF (by omega) hZ) (fun z => by rw [hd] at z; cases z) hL h
      · unfold am_cnt at hq
        rw [if_pos hd] at hq
        obtain ⟨g1, g2⟩ := pr_cnt_lt hq z
        rw [if_pos hd, if_pos hd] at h
        unfold wY_stepAdv_480
        refine pk_eq (K n) 34 (fun _ => ?_) (fun e => absurd hk e) rfl rfl (by omega)
        have m544 : ∀ b, b < 16 → c1 (16 * (5 * r.length + 1) + b) = pr_el y p → wY_stepAdv_544 post (nI (5 * (r.length + 1))) (nI (F n)) (pr_el x p) (nI b) ((nI (5 * r.length) + 1) * 16) (nI lim) g_tlen g_held g_root g_clen g_xn g_yn g_rn g_stat g_nn g_wsp g_depth (nI r.length) 0 b_text b_canon b_xs b_ys b_res b_kind b_nch b_na b_nb b_nc b_ws b_fb b_pend b_cst b_fnode b_fmode b_fph fi1 c1 l1 := by
          intro b hb hv
          have e7 : (nI (16 * (5 * r.length + 1) + b)).toNatClampNeg = 16 * (5 * r.length + 1) + b := nI_clamp (by omega)
          unfold wY_stepAdv_544
          rw [ax_s1, b0, b1]
          refine ⟨vp_in_nI (by omega) (by omega), nm_r (e' := pr_el y p) (by rw [e7]; exact hv) ?_⟩
          refine yv_one (by omega) fun c l hF hL => ?_
          refine yv_one (by omega) fun c2 l2 hF2 hL2 => ?_
          unfold wY_stepAdv_620
          exact ya_620 HH hc (by omega) (d' := d) (by rw [hd]; rfl) (ve_Ft hF1 (ve_Ft (ve_Fg hF (by omega)) (ve_Fg hF2 (by omega)))) hfi hfi2 (fun _ => ve_o hF2 (by omega) (ve_o hF (by omega) hZ)) (fun _ => ve_o hF2 (by omega) hL) hL2 h
        have m517 : ∀ a, a < 16 → c1 (16 * (5 * r.length) + a) = pr_el x p → wY_stepAdv_517 post (nI (5 * r.length)) (nI (5 * (r.length + 1))) (nI (F n)) (nI y.length) (nI p) (nI a) ((nI (5 * r.length) + 0) * 16) (nI lim) g_tlen g_held g_root g_clen g_xn g_yn g_rn g_stat g_nn g_wsp g_depth (nI r.length) 0 b_text b_canon b_xs b_ys b_res b_kind b_nch b_na b_nb b_nc b_ws b_fb b_pend b_cst b_fnode b_fmode b_fph fi1 c1 l1 := by
          intro a ha hv
          have e7 : (nI (16 * (5 * r.length) + a)).toNatClampNeg = 16 * (5 * r.length) + a := nI_clamp (by omega)
          unfold wY_stepAdv_517
          rw [ax_s0]
          refine ⟨vp_in_nI (by omega) (by omega), nm_r (e' := pr_el x p) (by rw [e7]; exact hv) ?_⟩
          refine pk_eq y.length 1 (fun e => m544 0 (by omega) ?_) (fun e => m544 p (by omega) ?_)
          · rw [ty1.2.2 0 (by omega)]; unfold pr_el; rw [if_pos e]
          · rw [ty1.2.2 p (g2 e)]; unfold pr_el; rw [if_neg e]
        have vx : l1 (nI (5 * r.length) + 0).toNatClampNeg = nI x.length := by rw [a0, e0]; exact (tx1 hd).2.1
        refine ⟨by rw [a0]; exact vp_in_nI (by omega) (by omega), ?_⟩
        rw [vx]
        refine pk_eq x.length 1 (fun e => m517 0 (by omega) ?_) (fun e => m517 p (by omega) ?_) rfl rfl (by have := (tx hd).1; omega)
        · rw [(tx1 hd).2.2 0 (by omega)]; unfold pr_el; rw [if_pos e]
        · rw [(tx1 hd).2.2 p (g1 e)]; unfold pr_el; rw [if_neg e]
  unfold wY_stepAdv_354
  refine ⟨i1, nm_r (e' := nI p) (by rw [e1]; exact hm) (pk_eq (K n) 34 (fun _ => ys_d2 d (fun hd => ?_) (fun hd => ?_)) (fun e => absurd hk e) rfl rfl (by omega))⟩
  · rw [a0, a1]
    refine yv_pairs (by omega) (by omega) (tx1 hd) ty1 ?_
    unfold am_cnt at hq
    rw [if_pos hd] at hq
    rw [hq]
    exact m392
  · unfold am_cnt at hq
    rw [if_neg (by rw [hd]; decide)] at hq
    cases hq
    exact m392
