/-! the reference's primitives, put together -/
theorem yp_649m {g_lim g_tlen g_held g_root g_clen g_xn g_yn g_rn g_stat g_nn g_wsp g_depth g_sp g_err : Int32} {b_text b_canon b_xs b_ys b_res b_kind b_nch b_na b_nb b_nc b_ws b_fb b_pend b_cst b_fnode b_fmode b_fph b_fi b_vec b_vlen : Nat → Int32} {post : SY → Prop} {x7 : Int32} {k sx sy sr : Nat} {ys : List Int32} (hk : k < 128) (hsx : sx < 645) (hsy : sy < 645) (hsr : sr < 645) (hyr : sy ≠ sr) (hy : ve_L b_vec b_vlen sy ys)
    (h : ∀ c l, ve_F (fun t => t = sr) b_vec b_vlen c l → ve_L c l sr ((List.range ys.length).map (fun i => pr_m1 k (ys.getD i 0))) → post (g_lim, g_tlen, g_held, g_root, g_clen, g_xn, g_yn, g_rn, g_stat, g_nn, g_wsp, g_depth, g_sp, g_err, b_text, b_canon, b_xs, b_ys, b_res, b_kind, b_nch, b_na, b_nb, b_nc, b_ws, b_fb, b_pend, b_cst, b_fnode, b_fmode, b_fph, b_fi, c, l)) :
    ∀ (r i : Nat) (c : Nat → Int32), i + r = ys.length → yp_I sr ((List.range ys.length).map (fun i => pr_m1 k (ys.getD i 0))) i b_vec b_vlen c →
    ∀ n, r < n → wY_prim_649 post (nI k) 1 (nI sr) x7 (nI ys.length) (nI (16 * sx)) (nI (16 * sy)) (nI (16 * sr)) (nI ys.length) g_lim g_tlen g_held g_root g_clen g_xn g_yn g_rn g_stat g_nn g_wsp g_depth g_sp g_err n (nI i) b_text b_canon b_xs b_ys b_res b_kind b_nch b_na b_nb b_nc b_ws b_fb b_pend b_cst b_fnode b_fmode b_fph b_fi c b_vlen := by
  have e1 : (nI sr).toNatClampNeg = sr := nI_clamp (by omega)
  have y16 := hy.1
  intro r
  induction r with
  | zero =>
    intro i c hi hI n hn
    obtain ⟨n, rfl⟩ : ∃ k, n = k + 1 := ⟨n - 1, by omega⟩
    have e : i = ys.length := by omega
    subst e
    have e2 : ((List.range ys.length).map (fun i => pr_m1 k (ys.getD i 0))).length = ys.length := ve_ml _ _
    have g := yp_e (by rw [e2]; exact hI) (by rw [e2]; exact y16)
    rw [e2] at g
    refine br_t (nI_le (Nat.le_refl _) (by omega)) ⟨vp_in_nI hsr (by omega), nm_r (e' := upd b_vlen sr (nI ys.length)) (by rw [e1]) (h _ _ g.1 g.2)⟩
  | succ r ih =>
    intro i c hi hI n hn
    obtain ⟨n, rfl⟩ : ∃ k, n = k + 1 := ⟨n - 1, by omega⟩
    refine br_f (nI_ge (by omega) (by omega)) (br_f (nI_ge (b := 16) (by omega) (by decide)) ?_)
    have main : ∀ z : Nat, z < 16 → wY_prim_681 post (wY_prim_649 post (nI k) 1 (nI sr) x7 (nI ys.length) (nI (16 * sx)) (nI (16 * sy)) (nI (16 * sr)) (nI ys.length) g_lim g_tlen g_held g_root g_clen g_xn g_yn g_rn g_stat g_nn g_wsp g_depth g_sp g_err n) (nI k) 1 (nI sr) x7 (nI ys.length) (nI (16 * sx)) (nI (16 * sy)) (nI (16 * sr)) (nI ys.length) (nI i) (nI z) (nI (16 * sx)) g_lim g_tlen g_held g_root g_clen g_xn g_yn g_rn g_stat g_nn g_wsp g_depth g_sp g_err b_text b_canon b_xs b_ys b_res b_kind b_nch b_na b_nb b_nc b_ws b_fb b_pend b_cst b_fnode b_fmode b_fph b_fi c b_vlen := by
      intro z hz
      unfold wY_prim_681
      rw [nI_add]
      refine ⟨vp_in_nI (by omega) (by omega), nm_e (br_f (by decide) ?_)⟩
      unfold wY_prim_706
      refine yp_708m hk hsr (by omega) (by omega) (ih (i + 1) _ (by omega) (yp_s hI (by omega) ?_) n (by omega))
      rw [ve_mg _ (by omega), yp_o hI hyr hy (by omega)]
    exact br_c (fun _ => main 0 (by omega)) (fun _ => main i (by omega))
theorem yp_649d {g_lim g_tlen g_held g_root g_clen g_xn g_yn g_rn g_stat g_nn g_wsp g_depth g_sp g_err : Int32} {b_text b_canon b_xs b_ys b_res b_kind b_nch b_na b_nb b_nc b_ws b_fb b_pend b_cst b_fnode b_fmode b_fph b_fi b_vec b_vlen : Nat → Int32} {post : SY → Prop} {k sx sy sr q : Nat} {xs ys : List Int32} (hk : k < 128) (hsx : sx < 645) (hsy : sy < 645) (hsr : sr < 645) (hxr : sx ≠ sr) (hyr : sy ≠ sr) (hx : ve_L b_vec b_vlen sx xs) (hy : ve_L b_vec b_vlen sy ys) (hq : pr_cnt xs.length ys.length = some q) (q16 : q ≤ 16)
    (h : ∀ c l, ve_F (fun t => t = sr) b_vec b_vlen c l → ve_L c l sr ((List.range q).map (fun i => pr_m2 k (pr_el xs i) (pr_el ys i))) → post (g_lim, g_tlen, g_held, g_root, g_clen, g_xn, g_yn, g_rn, g_stat, g_nn, g_wsp, g_depth, g_sp, g_err, b_text, b_canon, b_xs, b_ys, b_res, b_kind, b_nch, b_na, b_nb, b_nc, b_ws, b_fb, b_pend, b_cst, b_fnode, b_fmode, b_fph, b_fi, c, l)) :
    ∀ (r i : Nat) (c : Nat → Int32), i + r = q → yp_I sr ((List.range q).map (fun i => pr_m2 k (pr_el xs i) (pr_el ys i))) i b_vec b_vlen c →
    ∀ n, r < n → wY_prim_649 post (nI k) 2 (nI sr) (nI xs.length) (nI ys.length) (nI (16 * sx)) (nI (16 * sy)) (nI (16 * sr)) (nI q) g_lim g_tlen g_held g_root g_clen g_xn g_yn g_rn g_stat g_nn g_wsp g_depth g_sp g_err n (nI i) b_text b_canon b_xs b_ys b_res b_kind b_nch b_na b_nb b_nc b_ws b_fb b_pend b_cst b_fnode b_fmode b_fph b_fi c b_vlen := by
  have e1 : (nI sr).toNatClampNeg = sr := nI_clamp (by omega)
  have y16 := hy.1
  have x16 := hx.1
  intro r
  induction r with
  | zero =>
    intro i c hi hI n hn
    obtain ⟨n, rfl⟩ : ∃ k, n = k + 1 := ⟨n - 1, by omega⟩
    have e : i = q := by omega
    subst e
    have e2 : ((List.range i).map (fun i => pr_m2 k (pr_el xs i) (pr_el ys i))).length = i := ve_ml _ _
    have g := yp_e (by rw [e2]; exact hI) (by rw [e2]; exact q16)
    rw [e2] at g
    refine br_t (nI_le (Nat.le_refl _) (by omega)) ⟨vp_in_nI hsr (by omega), nm_r (e' := upd b_vlen sr (nI i)) (by rw [e1]) (h _ _ g.1 g.2)⟩
  | succ r ih =>
    intro i c hi hI n hn
    obtain ⟨n, rfl⟩ : ∃ k, n = k + 1 := ⟨n - 1, by omega⟩
    obtain ⟨g1, g2⟩ := pr_cnt_lt hq (i := i) (by omega)
    refine br_f (nI_ge (by omega) (by omega)) (br_f (nI_ge (b := 16) (by omega) (by decide)) ?_)
    have main : ∀ z : Nat, z < 16 → c (16 * sx + z) = pr_el xs i → wY_prim_681 post (wY_prim_649 post (nI k) 2 (nI sr) (nI xs.length) (nI ys.length) (nI (16 * sx)) (nI (16 * sy)) (nI (16 * sr)) (nI q) g_lim g_tlen g_held g_root g_clen g_xn g_yn g_rn g_stat g_nn g_wsp g_depth g_sp g_err n) (nI k) 2 (nI sr) (nI xs.length) (nI ys.length) (nI (16 * sx)) (nI (16 * sy)) (nI (16 * sr)) (nI q) (nI i) (nI z) (nI (16 * sx)) g_lim g_tlen g_held g_root g_clen g_xn g_yn g_rn g_stat g_nn g_wsp g_depth g_sp g_err b_text b_canon b_xs b_ys b_res b_kind b_nch b_na b_nb b_nc b_ws b_fb b_pend b_cst b_fnode b_fmode b_fph b_fi c b_vlen := by
      intro z hz hv
      have e3 : (nI (16 * sx + z)).toNatClampNeg = 16 * sx + z := nI_clamp (by omega)
      unfold wY_prim_681
      rw [nI_add]
      refine ⟨vp_in_nI (by omega) (by omega), nm_r (e' := pr_el xs i) (by rw [e3]; exact hv) (br_t rfl ?_)⟩
      refine pk_eq ys.length 1 (fun e => ?_) (fun e => ?_)
      · refine yp_708d (b := 0) hk hsr (by omega) (by omega) (ih (i + 1) _ (by omega) (yp_s hI (by omega) ?_) n (by omega))
        have e5 : pr_el ys i = ys.getD 0 0 := by unfold pr_el; rw [if_pos e]
        rw [ve_mg _ (by omega), yp_o hI hyr hy (by omega), e5]
      · unfold wY_prim_706
        refine yp_708d hk hsr (by omega) (by omega) (ih (i + 1) _ (by omega) (yp_s hI (by omega) ?_) n (by omega))
        have e5 : pr_el ys i = ys.getD i 0 := by unfold pr_el; rw [if_neg e]
        rw [ve_mg _ (by omega), yp_o hI hyr hy (g2 e), e5]
    refine pk_eq xs.length 1 (fun e => main 0 (by omega) ?_) (fun e => main i (by omega) ?_)
    · rw [yp_o hI hxr hx (by omega)]; unfold pr_el; rw [if_pos e]
    · rw [yp_o hI hxr hx (g1 e)]; unfold pr_el; rw [if_neg e]
theorem yp_M {g_lim g_tlen g_held g_root g_clen g_xn g_yn g_rn g_stat g_nn g_wsp g_depth g_sp g_err : Int32} {b_text b_canon b_xs b_ys b_res b_kind b_nch b_na b_nb b_nc b_ws b_fb b_pend b_cst b_fnode b_fmode b_fph b_fi b_vec b_vlen : Nat → Int32} {post : SY → Prop} {x7 : Int32} {k sx sy sr : Nat} {ys : List Int32} (hk : k < 128) (hsx : sx < 645) (hsy : sy < 645) (hsr : sr < 645) (hyr : sy ≠ sr) (hy : ve_L b_vec b_vlen sy ys)
    (h : ∀ c l, ve_F (fun t => t = sr) b_vec b_vlen c l → ve_L c l sr (pr_M k ys) → post (g_lim, g_tlen, g_held, g_root, g_clen, g_xn, g_yn, g_rn, g_stat, g_nn, g_wsp, g_depth, g_sp, g_err, b_text, b_canon, b_xs, b_ys, b_res, b_kind, b_nch, b_na, b_nb, b_nc, b_ws, b_fb, b_pend, b_cst, b_fnode, b_fmode, b_fph, b_fi, c, l)) :
    wY_prim_77 post (nI k) 1 (nI sx) (nI sy) (nI sr) x7 (nI ys.length) (nI (16 * sx)) (nI (16 * sy)) (nI (16 * sr)) g_lim g_tlen g_held g_root g_clen g_xn g_yn g_rn g_stat g_nn g_wsp g_depth g_sp g_err b_text b_canon b_xs b_ys b_res b_kind b_nch b_na b_nb b_nc b_ws b_fb b_pend b_cst b_fnode b_fmode b_fph b_fi b_vec b_vlen := by
  have y16 := hy.1
  have cp : pr_M k ys = ys → wpY_copySlot post (g_lim, g_tlen, g_held, g_root, g_clen, g_xn, g_yn, g_rn, g_stat, g_nn, g_wsp, g_depth, g_sp, g_err, b_text, b_canon, b_xs, b_ys, b_res, b_kind, b_nch, b_na, b_nb, b_nc, b_ws, b_fb, b_pend, b_cst, b_fnode, b_fmode, b_fph, b_fi, b_vec, b_vlen) (nI sy) (nI sr) := by
    intro z
    rw [z] at h
    exact yv_copy hsy hsr hyr fun c l hF hL => h c l hF (hL ys hy)
  refine pk_eq k 93 (fun e => ?_) (fun a1 => br_t rfl (pk_eq k 91 (fun e => ?_) (fun a2 => pk_eq k 44 (fun e => ?_) (fun a3 => ?_))))
  · exact cp (by unfold pr_M; rw [if_pos (by omega)])
  · exact cp (by unfold pr_M; rw [if_pos (by omega)])
  · exact cp (by unfold pr_M; rw [if_pos (by omega)])
  · unfold pr_M at h
    rw [if_neg (by omega)] at h
    unfold wY_prim_109
    refine pk_eq k 91 (fun e => absurd e a2) (fun _ => pk_eq k 35 (fun e => br_t rfl ?_) (fun a4 => ?_))
    · rw [if_pos e] at h
      exact yv_one hsr fun c l hF hL => h c l hF hL
    · rw [if_neg a4] at h
      unfold wY_prim_144
      refine pk_eq k 44 (fun e => absurd e a3) (fun _ => pk_eq k 124 (fun e => br_t rfl ?_) (fun a5 => ?_))
      · rw [if_pos e] at h
        exact ⟨ys.length + 1, yp_rev hsy hsr hyr hy h ys.length 0 b_vec (by omega) (yp_0 _ _ _ _) _ (by omega)⟩
      · rw [if_neg a5] at h
        unfold wY_prim_342
        refine pk_eq k 124 (fun e => absurd e a5) (fun _ => pk_eq k 35 (fun e => absurd e a4) (fun _ => br_f (by decide) ?_))
        unfold wY_prim_635
        refine br_t (nI_pos' (by omega)) ⟨ys.length + 1, ?_⟩
        exact yp_649m hk hsx hsy hsr hyr hy h ys.length 0 b_vec (by omega) (yp_0 _ _ _ _) _ (by omega)
theorem yp_n1 : ¬ (0 : Int32) ≤ -1 := by decide
theorem yp_D {g_tlen g_held g_root g_clen g_xn g_yn g_rn g_stat g_nn g_wsp g_depth g_sp : Int32} {b_text b_canon b_xs b_ys b_res b_kind b_nch b_na b_nb b_nc b_ws b_fb b_pend b_cst b_fnode b_fmode b_fph b_fi b_vec b_vlen : Nat → Int32} {post : SY → Prop} {lim k sx sy sr : Nat} {xs ys : List Int32} (hl : lim ≤ 16) (hk : k < 128) (hsx : sx < 645) (hsy : sy < 645) (hsr : sr < 645) (hxr : sx ≠ sr) (hyr : sy ≠ sr) (hx : ve_L b_vec b_vlen sx xs) (hy : ve_L b_vec b_vlen sy ys)
    (h : ∀ c l, vd_R sr (pr_D lim k xs ys) b_vec b_vlen c l → post (nI lim, g_tlen, g_held, g_root, g_clen, g_xn, g_yn, g_rn, g_stat, g_nn, g_wsp, g_depth, g_sp, nI (pr_D lim k xs ys).1, b_text, b_canon, b_xs, b_ys, b_res, b_kind, b_nch, b_na, b_nb, b_nc, b_ws, b_fb, b_pend, b_cst, b_fnode, b_fmode, b_fph, b_fi, c, l)) :
    wY_prim_77 post (nI k) 2 (nI sx) (nI sy) (nI sr) (nI xs.length) (nI ys.length) (nI (16 * sx)) (nI (16 * sy)) (nI (16 * sr)) (nI lim) g_tlen g_held g_root g_clen g_xn g_yn g_rn g_stat g_nn g_wsp g_depth g_sp 0 b_text b_canon b_xs b_ys b_res b_kind b_nch b_na b_nb b_nc b_ws b_fb b_pend b_cst b_fnode b_fmode b_fph b_fi b_vec b_vlen := by
  have y16 := hy.1
  have x16 := hx.1
  have e1 : (nI sr).toNatClampNeg = sr := nI_clamp (by omega)
  have e2 : (nI (16 * sx)).toNatClampNeg = 16 * sx := nI_clamp (by omega)
  unfold pr_D at h
  refine pk_eq k 93 (fun e => ?_) (fun a1 => br_f (by decide) ?_)
  · rw [if_neg (by omega), if_pos e] at h
    exact yv_copy hsy hsr hyr fun c l hF hL => h c l ⟨hF, fun _ => hL ys hy⟩
  · unfold wY_prim_109
    refine pk_eq k 91 (fun e => ?_) (fun a2 => ?_)
    · rw [if_pos e] at h
      exact yv_copy hsx hsr hxr fun c l hF hL => h c l ⟨hF, fun _ => hL xs hx⟩
    · rw [if_neg a2, if_neg a1] at h
      have m144 : wY_prim_144 post (nI k) 2 (nI sx) (nI sy) (nI sr) (nI xs.length) (nI ys.length) (nI (16 * sx)) (nI (16 * sy)) (nI (16 * sr)) (nI lim) g_tlen g_held g_root g_clen g_xn g_yn g_rn g_stat g_nn g_wsp g_depth g_sp 0 b_text b_canon b_xs b_ys b_res b_kind b_nch b_na b_nb b_nc b_ws b_fb b_pend b_cst b_fnode b_fmode b_fph b_fi b_vec b_vlen := by
        unfold wY_prim_144
        refine pk_eq k 44 (fun e => ?_) (fun a3 => ?_)
        · rw [if_neg (by omega), if_pos e] at h
          rw [nI_add]
          refine pk_le (xs.length + ys.length) lim (fun z => ?_) (fun z => ?_)
          · rw [if_neg (by omega)] at h
            exact ⟨xs.length + 1, yp_j1 hsx hsy hsr hxr hyr hx hy (by omega) (fun c l hF hL => h c l ⟨hF, fun _ => hL⟩) xs.length 0 b_vec (by omega) (yp_0 _ _ _ _) _ (by omega)⟩
          · rw [if_pos (by omega)] at h
            exact h b_vec b_vlen ⟨ve_Fr _ _ _, fun z => by cases z⟩
        · have m342 : wY_prim_342 post (nI k) 2 (nI sx) (nI sy) (nI sr) (nI xs.length) (nI ys.length) (nI (16 * sx)) (nI (16 * sy)) (nI (16 * sr)) (nI lim) g_tlen g_held g_root g_clen g_xn g_yn g_rn g_stat g_nn g_wsp g_depth g_sp 0 b_text b_canon b_xs b_ys b_res b_kind b_nch b_na b_nb b_nc b_ws b_fb b_pend b_cst b_fnode b_fmode b_fph b_fi b_vec b_vlen := by
            unfold wY_prim_342
            refine pk_eq k 124 (fun e => ?_) (fun a4 => pk_eq k 35 (fun e => ?_) (fun a5 => br_t rfl ?_))
            · rw [if_neg (by omega), if_neg a3, if_pos e] at h
              refine pk_eq xs.length 1 (fun z => ⟨vp_in_nI hsr (by omega), nm_r (e' := upd b_vlen sr 0) (by rw [e1]) ?_⟩) (fun z => ?_)
              · rw [if_neg (by omega)] at h
                refine pk_eq ys.length 0 (fun q => ?_) (fun q => ⟨vp_in_nI (by omega) (by omega), nI_ne0 (by omega) (by omega), ?_⟩)
                · refine h b_vec _ ⟨ve_Fl, fun _ => ?_⟩
                  have : pr_rot xs ys = [] := by unfold pr_rot; rw [q]; rfl
                  rw [this]; exact ve_nil
                · have hv := hx.2.2 0 (by omega)
                  rw [Nat.add_zero] at hv
                  rw [e2, hv]
                  have fin : ∃ n, wY_prim_401 post (nI sr) (nI ys.length) (nI (16 * sy)) (nI (16 * sr)) (nI (pr_k (xs.getD 0 0) ys.length)) (nI lim) g_tlen g_held g_root g_clen g_xn g_yn g_rn g_stat g_nn g_wsp g_depth g_sp 0 n (nI 0) b_text b_canon b_xs b_ys b_res b_kind b_nch b_na b_nb b_nc b_ws b_fb b_pend b_cst b_fnode b_fmode b_fph b_fi b_vec (upd b_vlen sr 0) :=
                    ⟨ys.length + 1, yp_rot hsy hsr hyr hy (pr_kN _ (by omega)).1 rfl (fun c l hF hL => h c l ⟨hF, fun _ => hL⟩) ys.length 0 b_vec (by omega) (yp_0 _ _ _ _) _ (by omega)⟩
                  refine nm_e (br_c (fun w => ?_) (fun w => nm_e ?_))
                  · rw [pr_kp _ y16 (by omega) (Int32.not_lt.mpr w)]; exact fin
                  · rw [pr_kn _ y16 (by omega) (Int32.not_le.mp w)]; exact fin
              · rw [if_pos z] at h
                exact h b_vec b_vlen ⟨ve_Fr _ _ _, fun z => by cases z⟩
            · rw [if_pos e] at h
              refine pk_eq xs.length ys.length (fun z => ?_) (fun z => pk_eq xs.length 1 (fun z1 => ?_) (fun z1 => ?_))
              · rw [if_neg (by omega)] at h
                exact ⟨ys.length + 1, yp_cpL hl hsx hsy hsr hxr hyr hx hy (fun q => absurd z q) ys.length 0 [] b_vec (by omega) (Nat.zero_le _) (yp_0 _ _ _ _) h _ (by omega)⟩
              · rw [if_neg (by omega)] at h
                exact ⟨ys.length + 1, yp_cpL hl hsx hsy hsr hxr hyr hx hy (fun _ => z1) ys.length 0 [] b_vec (by omega) (Nat.zero_le _) (yp_0 _ _ _ _) h _ (by omega)⟩
              · rw [if_pos ⟨z, z1⟩] at h
                exact h b_vec b_vlen ⟨ve_Fr _ _ _, fun z => by cases z⟩
            · rw [if_neg a5, if_neg a3, if_neg a4] at h
              refine yv_pairs hsx hsy hx hy ?_
              unfold wY_prim_635
              cases hq : pr_cnt xs.length ys.length with
              | none =>
                rw [hq] at h
                exact br_f yp_n1 (h b_vec b_vlen ⟨ve_Fr _ _ _, fun z => by cases z⟩)
              | some q =>
                rw [hq] at h
                have q16 := pr_cnt_le hq x16 y16
                exact br_t (nI_pos' (by omega)) ⟨q + 1, yp_649d hk hsx hsy hsr hxr hyr hx hy hq q16 (fun c l hF hL => h c l ⟨hF, fun _ => hL⟩) q 0 b_vec (by omega) (yp_0 _ _ _ _) _ (by omega)⟩
          exact pk_eq k 124 (fun _ => br_f (by decide) m342) (fun _ => m342)
      exact pk_eq k 35 (fun _ => br_f (by decide) m144) (fun _ => m144)
def pl_o (lim k : Nat) (d : Bool) (x y : List Int32) : Nat × List Int32 := if 48 ≤ k ∧ k ≤ 57 then (0, [nI (k - 48)]) else if d = true then pr_D lim k x y else (0, pr_M k y)
theorem pl_a (lim k : Nat) (d : Bool) (x y : List Int32) : am_leaf lim k d x y = am_dy (pl_o lim k d x y) := by
  unfold am_leaf pl_o
  split
  · rfl
  · split
    · rfl
    · rfl
theorem yp_prim {g_tlen g_held g_root g_clen g_xn g_yn g_rn g_stat g_nn g_wsp g_depth g_sp : Int32} {b_text b_canon b_xs b_ys b_res b_kind b_nch b_na b_nb b_nc b_ws b_fb b_pend b_cst b_fnode b_fmode b_fph b_fi b_vec b_vlen : Nat → Int32} {post : SY → Prop} {lim k f : Nat} {d : Bool} {x y : List Int32} (hl : lim ≤ 16) (hk : k < 128) (hf : f < 128) (hx : d = true → ve_L b_vec b_vlen (5 * f) x) (hy : ve_L b_vec b_vlen (5 * f + 1) y)
    (h : ∀ c l, vd_R (5 * f + 3) (pl_o lim k d x y) b_vec b_vlen c l → post (nI lim, g_tlen, g_held, g_root, g_clen, g_xn, g_yn, g_rn, g_stat, g_nn, g_wsp, g_depth, g_sp, nI (pl_o lim k d x y).1, b_text, b_canon, b_xs, b_ys, b_res, b_kind, b_nch, b_na, b_nb, b_nc, b_ws, b_fb, b_pend, b_cst, b_fnode, b_fmode, b_fph, b_fi, c, l)) :
    wpY_prim post (nI lim, g_tlen, g_held, g_root, g_clen, g_xn, g_yn, g_rn, g_stat, g_nn, g_wsp, g_depth, g_sp, 0, b_text, b_canon, b_xs, b_ys, b_res, b_kind, b_nch, b_na, b_nb, b_nc, b_ws, b_fb, b_pend, b_cst, b_fnode, b_fmode, b_fph, b_fi, b_vec, b_vlen) (nI (5 * f)) (nI k) (xm_m d) := by
  have e1 : (nI (5 * f)).toNatClampNeg = 5 * f := nI_clamp (by omega)
  have e2 : (nI (5 * f + 1)).toNatClampNeg = 5 * f + 1 := nI_clamp (by omega)
  refine nm_r (e' := nI (5 * f)) (Int32.add_zero _) (nm_r (e' := nI (5 * f + 1)) (nI_1 _) (nm_r (e' := nI (5 * f + 3)) (nI_add (5 * f) 3) ⟨vp_in_nI (by omega) (by omega), nm_e ⟨vp_in_nI (by omega) (by omega), nm_r (e' := nI y.length) (by rw [e2]; exact hy.2.1) (nm_r (e' := nI (16 * (5 * f))) (ax_mul0 _) (nm_r (e' := nI (16 * (5 * f + 1))) (ax_mul0 _) (nm_r (e' := nI (16 * (5 * f + 3))) (ax_mul0 _) ?_)))⟩⟩))
  rw [e1]
  unfold pl_o at h
  have nd : ¬ (48 ≤ k ∧ k ≤ 57) → wY_prim_77 post (nI k) (xm_m d) (nI (5 * f)) (nI (5 * f + 1)) (nI (5 * f + 3)) (b_vlen (5 * f)) (nI y.length) (nI (16 * (5 * f))) (nI (16 * (5 * f + 1))) (nI (16 * (5 * f + 3))) (nI lim) g_tlen g_held g_root g_clen g_xn g_yn g_rn g_stat g_nn g_wsp g_depth g_sp 0 b_text b_canon b_xs b_ys b_res b_kind b_nch b_na b_nb b_nc b_ws b_fb b_pend b_cst b_fnode b_fmode b_fph b_fi b_vec b_vlen := by
    intro z
    rw [if_neg z] at h
    cases d with
    | true =>
      rw [if_pos rfl] at h
      rw [(hx rfl).2.1]
      exact yp_D hl hk (by omega) (by omega) (by omega) (by omega) (by omega) (hx rfl) hy h
    | false =>
      rw [if_neg (by decide)] at h
      exact yp_M hk (by omega) (by omega) (by omega) (by omega) hy fun c l hF hL => h c l ⟨hF, fun _ => hL⟩
  refine pk_lt k 48 (fun z => nd (by omega)) (fun z => pk_lt 57 k (fun z1 => nd (by omega)) (fun z1 => ?_))
  rw [if_pos ⟨z, z1⟩] at h
  rw [show (48 : Int32) = nI 48 from rfl, pk_sub z]
  exact yv_one (by omega) fun c l hF hL => h c l ⟨hF, fun _ => hL⟩
