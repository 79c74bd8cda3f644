/-! the reference's primitives -/
def yp_I (s : Nat) (L : List Int32) (i : Nat) (c0 l0 c : Nat → Int32) : Prop := (∀ j, j < i → c (16 * s + j) = L.getD j 0) ∧ ve_F (fun t => t = s) c0 l0 c l0
theorem yp_0 (s : Nat) (L : List Int32) (c0 l0 : Nat → Int32) : yp_I s L 0 c0 l0 c0 := ⟨fun j hj => absurd hj (Nat.not_lt_zero _), ve_Fr _ _ _⟩
theorem yp_s {s : Nat} {L : List Int32} {i : Nat} {c0 l0 c : Nat → Int32} {v : Int32} (h : yp_I s L i c0 l0 c) (hi : i < 16) (hv : v = L.getD i 0) : yp_I s L (i + 1) c0 l0 (upd c (16 * s + i) v) := by
  refine ⟨fun j hj => ?_, ve_Ft h.2 (ve_Fc hi)⟩
  by_cases z : j = i
  · rw [z, ← hv]; exact pk_us
  · rw [pk_un (by omega)]; exact h.1 j (by omega)
theorem yp_e {s : Nat} {L : List Int32} {c0 l0 c : Nat → Int32} (h : yp_I s L L.length c0 l0 c) (hL : L.length ≤ 16) : ve_F (fun t => t = s) c0 l0 c (upd l0 s (nI L.length)) ∧ ve_L c (upd l0 s (nI L.length)) s L :=
  ⟨ve_Ft h.2 ve_Fl, hL, pk_us, h.1⟩
theorem yp_o {s q : Nat} {L xs : List Int32} {i : Nat} {c0 l0 c : Nat → Int32} (h : yp_I s L i c0 l0 c) (hq : q ≠ s) (hx : ve_L c0 l0 q xs) {j : Nat} (hj : j < xs.length) : c (16 * q + j) = xs.getD j 0 :=
  ((h.2 q hq).2 j (by have := hx.1; omega)).trans (hx.2.2 j hj)
theorem yp_a {s : Nat} {L : List Int32} {c0 l0 c : Nat → Int32} (v : Int32) (h : yp_I s L L.length c0 l0 c) (hi : L.length < 16) : yp_I s (L ++ [v]) (L ++ [v]).length c0 l0 (upd c (16 * s + L.length) v) := by
  refine ⟨fun j hj => ?_, ve_Ft h.2 (ve_Fc hi)⟩
  rw [ve_len] at hj
  by_cases z : j = L.length
  · rw [z, ve_gr]; exact pk_us
  · rw [ve_gl (by omega), pk_un (by omega)]; exact h.1 j (by omega)
theorem ax_ad (a b : Nat) : nI a + nI b = nI (a + b) := nI_add a b
theorem yp_j2 {g_lim g_tlen g_held g_root g_clen g_xn g_yn g_rn g_stat g_nn g_wsp g_depth g_sp g_err : Int32} {b_text b_canon b_xs b_ys b_res b_kind b_nch b_na b_nb b_nc b_ws b_fb b_pend b_cst b_fnode b_fmode b_fph b_fi b_vec b_vlen : Nat → Int32} {post : SY → Prop} {sy sr : Nat} {xs ys : List Int32} (hsy : sy < 645) (hsr : sr < 645) (hyr : sy ≠ sr) (hy : ve_L b_vec b_vlen sy ys) (hl : xs.length + ys.length ≤ 16)
    (h : ∀ c l, ve_F (fun t => t = sr) b_vec b_vlen c l → ve_L c l sr (xs ++ ys) → post (g_lim, g_tlen, g_held, g_root, g_clen, g_xn, g_yn, g_rn, g_stat, g_nn, g_wsp, g_depth, g_sp, g_err, b_text, b_canon, b_xs, b_ys, b_res, b_kind, b_nch, b_na, b_nb, b_nc, b_ws, b_fb, b_pend, b_cst, b_fnode, b_fmode, b_fph, b_fi, c, l)) : ∀ (r i : Nat) (c : Nat → Int32), i + r = ys.length → yp_I sr (xs ++ ys) (xs.length + i) b_vec b_vlen c →
    ∀ n, r < n → wY_prim_214 post (nI sr) (nI xs.length) (nI ys.length) (nI (16 * sy)) (nI (16 * sr)) g_lim g_tlen g_held g_root g_clen g_xn g_yn g_rn g_stat g_nn g_wsp g_depth g_sp g_err n (nI i) b_text b_canon b_xs b_ys b_res b_kind b_nch b_na b_nb b_nc b_ws b_fb b_pend b_cst b_fnode b_fmode b_fph b_fi c b_vlen := by
  have e1 : (nI sr).toNatClampNeg = sr := nI_clamp (by omega)
  intro r
  induction r with
  | zero =>
    intro i c hi hI n hn
    obtain ⟨n, rfl⟩ : ∃ k, n = k + 1 := ⟨n - 1, by omega⟩
    have e : i = ys.length := by omega
    subst e
    have e2 : (xs ++ ys).length = xs.length + ys.length := List.length_append
    rw [← e2] at hI
    have g := yp_e hI (by omega)
    refine br_t (nI_le (Nat.le_refl _) (by omega)) ⟨vp_in_nI hsr (by omega), nm_r (e' := upd b_vlen sr (nI (xs ++ ys).length)) (by rw [e1, nI_add, e2]) (h _ _ g.1 g.2)⟩
  | succ r ih =>
    intro i c hi hI n hn
    obtain ⟨n, rfl⟩ : ∃ k, n = k + 1 := ⟨n - 1, by omega⟩
    have e3 : (nI (16 * sy + i)).toNatClampNeg = 16 * sy + i := nI_clamp (by omega)
    have e4 : (nI (16 * sr + xs.length + i)).toNatClampNeg = 16 * sr + xs.length + i := nI_clamp (by omega)
    refine br_f (nI_ge (by omega) (by omega)) ?_
    rw [nI_add]
    refine br_f (nI_ge (b := 16) (by omega) (by decide)) ?_
    rw [nI_add, nI_add, nI_add]
    refine ⟨vp_in_nI (by omega) (by omega), vp_in_nI (by omega) (by omega), nm_r (e' := upd c (16 * sr + (xs.length + i)) (ys.getD i 0)) (by rw [e3, e4, yp_o hI hyr hy (by omega), Nat.add_assoc]) (nm_r (nI_1 i) ?_)⟩
    have g := yp_s (i := xs.length + i) (v := ys.getD i 0) hI (by omega) (by rw [List.getD_eq_getElem?_getD, List.getD_eq_getElem?_getD, List.getElem?_append_right (by omega), Nat.add_sub_cancel_left])
    exact ih (i + 1) _ (by omega) g n (by omega)
theorem yp_j1 {g_lim g_tlen g_held g_root g_clen g_xn g_yn g_rn g_stat g_nn g_wsp g_depth g_sp g_err : Int32} {b_text b_canon b_xs b_ys b_res b_kind b_nch b_na b_nb b_nc b_ws b_fb b_pend b_cst b_fnode b_fmode b_fph b_fi b_vec b_vlen : Nat → Int32} {post : SY → Prop} {sx sy sr : Nat} {xs ys : List Int32} (hsx : sx < 645) (hsy : sy < 645) (hsr : sr < 645) (hxr : sx ≠ sr) (hyr : sy ≠ sr) (hx : ve_L b_vec b_vlen sx xs) (hy : ve_L b_vec b_vlen sy ys) (hl : xs.length + ys.length ≤ 16)
    (h : ∀ c l, ve_F (fun t => t = sr) b_vec b_vlen c l → ve_L c l sr (xs ++ ys) → post (g_lim, g_tlen, g_held, g_root, g_clen, g_xn, g_yn, g_rn, g_stat, g_nn, g_wsp, g_depth, g_sp, g_err, b_text, b_canon, b_xs, b_ys, b_res, b_kind, b_nch, b_na, b_nb, b_nc, b_ws, b_fb, b_pend, b_cst, b_fnode, b_fmode, b_fph, b_fi, c, l)) : ∀ (r i : Nat) (c : Nat → Int32), i + r = xs.length → yp_I sr (xs ++ ys) i b_vec b_vlen c →
    ∀ n, r < n → wY_prim_171 post (nI sr) (nI xs.length) (nI ys.length) (nI (16 * sx)) (nI (16 * sy)) (nI (16 * sr)) g_lim g_tlen g_held g_root g_clen g_xn g_yn g_rn g_stat g_nn g_wsp g_depth g_sp g_err n (nI i) b_text b_canon b_xs b_ys b_res b_kind b_nch b_na b_nb b_nc b_ws b_fb b_pend b_cst b_fnode b_fmode b_fph b_fi c b_vlen := by
  intro r
  induction r with
  | zero =>
    intro i c hi hI n hn
    obtain ⟨n, rfl⟩ : ∃ k, n = k + 1 := ⟨n - 1, by omega⟩
    have e : i = xs.length := by omega
    subst e
    exact br_t (nI_le (Nat.le_refl _) (by omega)) ⟨ys.length + 1, yp_j2 hsy hsr hyr hy hl h ys.length 0 c (by omega) hI _ (by omega)⟩
  | succ r ih =>
    intro i c hi hI n hn
    obtain ⟨n, rfl⟩ : ∃ k, n = k + 1 := ⟨n - 1, by omega⟩
    have e3 : (nI (16 * sx + i)).toNatClampNeg = 16 * sx + i := nI_clamp (by omega)
    have e4 : (nI (16 * sr + i)).toNatClampNeg = 16 * sr + i := nI_clamp (by omega)
    refine br_f (nI_ge (by omega) (by omega)) (br_f (nI_ge (b := 16) (by omega) (by decide)) ?_)
    rw [nI_add, nI_add]
    refine ⟨vp_in_nI (by omega) (by omega), vp_in_nI (by omega) (by omega), nm_r (e' := upd c (16 * sr + i) (xs.getD i 0)) (by rw [e3, e4, yp_o hI hxr hx (by omega)]) (nm_r (nI_1 i) ?_)⟩
    refine ih (i + 1) _ (by omega) (yp_s hI (by omega) ?_) n (by omega)
    rw [List.getD_eq_getElem?_getD, List.getD_eq_getElem?_getD, List.getElem?_append_left (by omega)]
theorem yp_rev {g_lim g_tlen g_held g_root g_clen g_xn g_yn g_rn g_stat g_nn g_wsp g_depth g_sp g_err : Int32} {b_text b_canon b_xs b_ys b_res b_kind b_nch b_na b_nb b_nc b_ws b_fb b_pend b_cst b_fnode b_fmode b_fph b_fi b_vec b_vlen : Nat → Int32} {post : SY → Prop} {sy sr : Nat} {ys : List Int32} (hsy : sy < 645) (hsr : sr < 645) (hyr : sy ≠ sr) (hy : ve_L b_vec b_vlen sy ys)
    (h : ∀ c l, ve_F (fun t => t = sr) b_vec b_vlen c l → ve_L c l sr ((List.range ys.length).map (fun i => ys.getD (ys.length - 1 - i) 0)) → post (g_lim, g_tlen, g_held, g_root, g_clen, g_xn, g_yn, g_rn, g_stat, g_nn, g_wsp, g_depth, g_sp, g_err, b_text, b_canon, b_xs, b_ys, b_res, b_kind, b_nch, b_na, b_nb, b_nc, b_ws, b_fb, b_pend, b_cst, b_fnode, b_fmode, b_fph, b_fi, c, l)) : ∀ (r i : Nat) (c : Nat → Int32), i + r = ys.length → yp_I sr ((List.range ys.length).map (fun i => ys.getD (ys.length - 1 - i) 0)) i b_vec b_vlen c →
    ∀ n, r < n → wY_prim_287 post (nI sr) (nI ys.length) (nI (16 * sy)) (nI (16 * sr)) g_lim g_tlen g_held g_root g_clen g_xn g_yn g_rn g_stat g_nn g_wsp g_depth g_sp g_err n (nI i) b_text b_canon b_xs b_ys b_res b_kind b_nch b_na b_nb b_nc b_ws b_fb b_pend b_cst b_fnode b_fmode b_fph b_fi c b_vlen := by
  have e1 : (nI sr).toNatClampNeg = sr := nI_clamp (by omega)
  have y16 := hy.1
  intro r
  induction r with
  | zero =>
    intro i c hi hI n hn
    obtain ⟨n, rfl⟩ : ∃ k, n = k + 1 := ⟨n - 1, by omega⟩
    have e : i = ys.length := by omega
    subst e
    have e2 : ((List.range ys.length).map (fun i => ys.getD (ys.length - 1 - i) 0)).length = ys.length := ve_ml _ _
    have g := yp_e (by rw [e2]; exact hI) (by rw [e2]; exact y16)
    rw [e2] at g
    refine br_t (nI_le (Nat.le_refl _) (by omega)) ⟨vp_in_nI hsr (by omega), nm_r (e' := upd b_vlen sr (nI ys.length)) (by rw [e1]) (h _ _ g.1 g.2)⟩
  | succ r ih =>
    intro i c hi hI n hn
    obtain ⟨n, rfl⟩ : ∃ k, n = k + 1 := ⟨n - 1, by omega⟩
    have e3 : nI (16 * sy) + nI ys.length - 1 - nI i = nI (16 * sy + (ys.length - 1 - i)) := by
      rw [nI_add, show 16 * sy + ys.length = (16 * sy + ys.length - 1) + 1 by omega, nI_pred, pk_sub (by omega)]
      exact congrArg nI (by omega)
    have e5 : (nI (16 * sy + (ys.length - 1 - i))).toNatClampNeg = 16 * sy + (ys.length - 1 - i) := nI_clamp (by omega)
    have e4 : (nI (16 * sr + i)).toNatClampNeg = 16 * sr + i := nI_clamp (by omega)
    refine br_f (nI_ge (by omega) (by omega)) (br_f (nI_ge (b := 16) (by omega) (by decide)) ?_)
    rw [e3, nI_add]
    refine ⟨vp_in_nI (by omega) (by omega), vp_in_nI (by omega) (by omega), nm_r (e' := upd c (16 * sr + i) (ys.getD (ys.length - 1 - i) 0)) (by rw [e5, e4, yp_o hI hyr hy (by omega)]) (nm_r (nI_1 i) ?_)⟩
    refine ih (i + 1) _ (by omega) (yp_s hI (by omega) ?_) n (by omega)
    rw [ve_mg _ (by omega)]
theorem yp_rot {g_lim g_tlen g_held g_root g_clen g_xn g_yn g_rn g_stat g_nn g_wsp g_depth g_sp g_err : Int32} {b_text b_canon b_xs b_ys b_res b_kind b_nch b_na b_nb b_nc b_ws b_fb b_pend b_cst b_fnode b_fmode b_fph b_fi b_vec b_vlen : Nat → Int32} {post : SY → Prop} {sy sr k : Nat} {ys : List Int32} (hsy : sy < 645) (hsr : sr < 645) (hyr : sy ≠ sr) (hy : ve_L b_vec b_vlen sy ys) (hk : k < ys.length) {l1 : Nat → Int32} (hl1 : l1 = upd b_vlen sr 0)
    (h : ∀ c l, ve_F (fun t => t = sr) b_vec b_vlen c l → ve_L c l sr ((List.range ys.length).map (fun i => ys.getD ((i + k) % ys.length) 0)) → post (g_lim, g_tlen, g_held, g_root, g_clen, g_xn, g_yn, g_rn, g_stat, g_nn, g_wsp, g_depth, g_sp, g_err, b_text, b_canon, b_xs, b_ys, b_res, b_kind, b_nch, b_na, b_nb, b_nc, b_ws, b_fb, b_pend, b_cst, b_fnode, b_fmode, b_fph, b_fi, c, l)) : ∀ (r i : Nat) (c : Nat → Int32), i + r = ys.length → yp_I sr ((List.range ys.length).map (fun i => ys.getD ((i + k) % ys.length) 0)) i b_vec b_vlen c →
    ∀ n, r < n → wY_prim_401 post (nI sr) (nI ys.length) (nI (16 * sy)) (nI (16 * sr)) (nI k) g_lim g_tlen g_held g_root g_clen g_xn g_yn g_rn g_stat g_nn g_wsp g_depth g_sp g_err n (nI i) b_text b_canon b_xs b_ys b_res b_kind b_nch b_na b_nb b_nc b_ws b_fb b_pend b_cst b_fnode b_fmode b_fph b_fi c l1 := by
  have e1 : (nI sr).toNatClampNeg = sr := nI_clamp (by omega)
  have y16 := hy.1
  intro r
  induction r with
  | zero =>
    intro i c hi hI n hn
    obtain ⟨n, rfl⟩ : ∃ k, n = k + 1 := ⟨n - 1, by omega⟩
    have e : i = ys.length := by omega
    subst e
    have e2 : ((List.range ys.length).map (fun i => ys.getD ((i + k) % ys.length) 0)).length = ys.length := ve_ml _ _
    have g := yp_e (by rw [e2]; exact hI) (by rw [e2]; exact y16)
    rw [e2] at g
    have e3 : upd l1 sr (nI ys.length) = upd b_vlen sr (nI ys.length) := by
      rw [hl1]
      funext j
      unfold upd
      split <;> rfl
    refine br_t (nI_le (Nat.le_refl _) (by omega)) ⟨vp_in_nI hsr (by omega), nm_r (e' := upd b_vlen sr (nI ys.length)) (by rw [e1, e3]) (h _ _ g.1 g.2)⟩
  | succ r ih =>
    intro i c hi hI n hn
    obtain ⟨n, rfl⟩ : ∃ k, n = k + 1 := ⟨n - 1, by omega⟩
    have hm : (i + k) % ys.length < ys.length := Nat.mod_lt _ (by omega)
    have e5 : (nI (16 * sy + (i + k) % ys.length)).toNatClampNeg = 16 * sy + (i + k) % ys.length := nI_clamp (by omega)
    have e4 : (nI (16 * sr + i)).toNatClampNeg = 16 * sr + i := nI_clamp (by omega)
    refine br_f (nI_ge (by omega) (by omega)) (br_f (nI_ge (b := 16) (by omega) (by decide)) ⟨nI_ne0 (by omega) (by omega), ?_⟩)
    rw [nI_add i k, pk_rem (by omega) (by omega) (by omega), nI_add, nI_add]
    refine ⟨vp_in_nI (by omega) (by omega), vp_in_nI (by omega) (by omega), nm_r (e' := upd c (16 * sr + i) (ys.getD ((i + k) % ys.length) 0)) (by rw [e5, e4, yp_o hI hyr hy (by omega)]) (nm_r (nI_1 i) ?_)⟩
    refine ih (i + 1) _ (by omega) (yp_s hI (by omega) ?_) n (by omega)
    rw [ve_mg _ (by omega)]
