/-! the reference's counted copy and its maps -/
theorem yp_cpI {g_lim g_tlen g_held g_root g_clen g_xn g_yn g_rn g_stat g_nn g_wsp g_depth g_sp g_err : Int32} {b_text b_canon b_xs b_ys b_res b_kind b_nch b_na b_nb b_nc b_ws b_fb b_pend b_cst b_fnode b_fmode b_fph b_fi b_vec b_vlen : Nat → Int32} {post : SY → Prop} {J : Int32 → Int32 → (Nat → Int32) → (Nat → Int32) → (Nat → Int32) → (Nat → Int32) → (Nat → Int32) → (Nat → Int32) → (Nat → Int32) → (Nat → Int32) → (Nat → Int32) → (Nat → Int32) → (Nat → Int32) → (Nat → Int32) → (Nat → Int32) → (Nat → Int32) → (Nat → Int32) → (Nat → Int32) → (Nat → Int32) → (Nat → Int32) → (Nat → Int32) → (Nat → Int32) → Prop} {x7 x8 x9 : Int32} {sy sr i q : Nat} {v : Int32} {acc ys : List Int32} (hsy : sy < 645) (hsr : sr < 645) (hyr : sy ≠ sr) (hy : ve_L b_vec b_vlen sy ys) (hi : i < ys.length) (hv : ys.getD i 0 = v) (hq : acc.length + q ≤ 16)
    (h : ∀ c, yp_I sr (acc ++ List.replicate q v) (acc ++ List.replicate q v).length b_vec b_vlen c → J (nI (acc ++ List.replicate q v).length) (nI (i + 1)) b_text b_canon b_xs b_ys b_res b_kind b_nch b_na b_nb b_nc b_ws b_fb b_pend b_cst b_fnode b_fmode b_fph b_fi c b_vlen) :
    ∀ (r j : Nat) (c : Nat → Int32), j + r = q → yp_I sr (acc ++ List.replicate j v) (acc ++ List.replicate j v).length b_vec b_vlen c →
    ∀ n, r < n → wY_prim_557 post J (nI sr) x7 x8 x9 (nI (16 * sy)) (nI (16 * sr)) (nI i) (nI q) g_lim g_tlen g_held g_root g_clen g_xn g_yn g_rn g_stat g_nn g_wsp g_depth g_sp g_err n (nI (acc ++ List.replicate j v).length) (nI j) b_text b_canon b_xs b_ys b_res b_kind b_nch b_na b_nb b_nc b_ws b_fb b_pend b_cst b_fnode b_fmode b_fph b_fi c b_vlen := by
  have y16 := hy.1
  intro r
  induction r with
  | zero =>
    intro j c hj hI n hn
    obtain ⟨n, rfl⟩ : ∃ k, n = k + 1 := ⟨n - 1, by omega⟩
    have e : j = q := by omega
    subst e
    exact br_t (nI_le (Nat.le_refl _) (by omega)) (nm_r (nI_1 i) (h c hI))
  | succ r ih =>
    intro j c hj hI n hn
    obtain ⟨n, rfl⟩ : ∃ k, n = k + 1 := ⟨n - 1, by omega⟩
    have len : (acc ++ List.replicate j v).length = acc.length + j := by rw [List.length_append, List.length_replicate]
    have e3 : (nI (16 * sy + i)).toNatClampNeg = 16 * sy + i := nI_clamp (by omega)
    have e4 : (nI (16 * sr + (acc ++ List.replicate j v).length)).toNatClampNeg = 16 * sr + (acc ++ List.replicate j v).length := nI_clamp (by omega)
    refine br_f (nI_ge (by omega) (by omega)) (br_f (nI_ge (b := 16) (by omega) (by decide)) ?_)
    rw [nI_add, nI_add]
    have g := yp_a v hI (by omega)
    have e6 : acc ++ List.replicate j v ++ [v] = acc ++ List.replicate (j + 1) v := by rw [List.append_assoc, ← List.replicate_succ']
    have e7 : (acc ++ List.replicate (j + 1) v).length = (acc ++ List.replicate j v).length + 1 := by rw [← e6, ve_len]
    rw [e6] at g
    refine ⟨vp_in_nI (by omega) (by omega), vp_in_nI (by omega) (by omega), nm_r (e' := upd c (16 * sr + (acc ++ List.replicate j v).length) v) (by rw [e3, e4, yp_o hI hyr hy hi, hv]) (nm_r (e' := nI (acc ++ List.replicate (j + 1) v).length) (by rw [nI_1, e7]) (nm_r (nI_1 j) ?_))⟩
    exact ih (j + 1) _ (by omega) g n (by omega)
theorem yp_cpL {g_tlen g_held g_root g_clen g_xn g_yn g_rn g_stat g_nn g_wsp g_depth g_sp : Int32} {b_text b_canon b_xs b_ys b_res b_kind b_nch b_na b_nb b_nc b_ws b_fb b_pend b_cst b_fnode b_fmode b_fph b_fi b_vec b_vlen : Nat → Int32} {post : SY → Prop} {lim sx sy sr : Nat} {xs ys : List Int32} (hl : lim ≤ 16) (hsx : sx < 645) (hsy : sy < 645) (hsr : sr < 645) (hxr : sx ≠ sr) (hyr : sy ≠ sr) (hx : ve_L b_vec b_vlen sx xs) (hy : ve_L b_vec b_vlen sy ys) (hc : xs.length ≠ ys.length → xs.length = 1) :
    ∀ (r i : Nat) (acc : List Int32) (c : Nat → Int32), i + r = ys.length → acc.length ≤ lim → yp_I sr acc acc.length b_vec b_vlen c →
    (∀ c l, vd_R sr (pr_cp lim xs ys r i acc) b_vec b_vlen c l → post (nI lim, g_tlen, g_held, g_root, g_clen, g_xn, g_yn, g_rn, g_stat, g_nn, g_wsp, g_depth, g_sp, nI (pr_cp lim xs ys r i acc).1, b_text, b_canon, b_xs, b_ys, b_res, b_kind, b_nch, b_na, b_nb, b_nc, b_ws, b_fb, b_pend, b_cst, b_fnode, b_fmode, b_fph, b_fi, c, l)) →
    ∀ n, r < n → wY_prim_488 post (nI sr) (nI xs.length) (nI ys.length) (nI (16 * sx)) (nI (16 * sy)) (nI (16 * sr)) (nI lim) g_tlen g_held g_root g_clen g_xn g_yn g_rn g_stat g_nn g_wsp g_depth g_sp 0 n (nI acc.length) (nI i) b_text b_canon b_xs b_ys b_res b_kind b_nch b_na b_nb b_nc b_ws b_fb b_pend b_cst b_fnode b_fmode b_fph b_fi c b_vlen := by
  have e1 : (nI sr).toNatClampNeg = sr := nI_clamp (by omega)
  have y16 := hy.1
  have x16 := hx.1
  intro r
  induction r with
  | zero =>
    intro i acc c hi ha hI h n hn
    obtain ⟨n, rfl⟩ : ∃ k, n = k + 1 := ⟨n - 1, by omega⟩
    have g := yp_e hI (by omega)
    exact br_t (nI_le (by omega) (by omega)) ⟨vp_in_nI hsr (by omega), nm_r (e' := upd b_vlen sr (nI acc.length)) (by rw [e1]) (h _ _ ⟨g.1, fun _ => g.2⟩)⟩
  | succ r ih =>
    intro i acc c hi ha hI h n hn
    obtain ⟨n, rfl⟩ : ∃ k, n = k + 1 := ⟨n - 1, by omega⟩
    refine br_f (nI_ge (by omega) (by omega)) (br_f (nI_ge (b := 16) (by omega) (by decide)) ?_)
    have main : ∀ (z : Nat), z < 16 → c (16 * sx + z) = pr_el xs i → wY_prim_521 post (wY_prim_488 post (nI sr) (nI xs.length) (nI ys.length) (nI (16 * sx)) (nI (16 * sy)) (nI (16 * sr)) (nI lim) g_tlen g_held g_root g_clen g_xn g_yn g_rn g_stat g_nn g_wsp g_depth g_sp 0 n) (nI sr) (nI xs.length) (nI ys.length) (nI (16 * sx)) (nI (16 * sy)) (nI (16 * sr)) (nI acc.length) (nI i) (nI z) (nI (16 * sx)) (nI lim) g_tlen g_held g_root g_clen g_xn g_yn g_rn g_stat g_nn g_wsp g_depth g_sp 0 b_text b_canon b_xs b_ys b_res b_kind b_nch b_na b_nb b_nc b_ws b_fb b_pend b_cst b_fnode b_fmode b_fph b_fi c b_vlen := by
      intro z hz hv
      have e3 : (nI (16 * sx + z)).toNatClampNeg = 16 * sx + z := nI_clamp (by omega)
      unfold wY_prim_521
      rw [nI_add]
      refine ⟨vp_in_nI (by omega) (by omega), nm_r (e' := pr_el xs i) (by rw [e3]; exact hv) ?_⟩
      unfold pr_cp at h
      refine br_c (fun z0 => ?_) (fun z0 => ?_)
      · rw [if_neg (Int32.not_lt.mpr z0)] at h
        rw [pk_sub ha]
        refine br_c (fun z1 => ?_) (fun z1 => ?_)
        · rw [if_neg (Int32.not_lt.mpr z1)] at h
          obtain ⟨q, hq, e1, e2⟩ := pr_cpq (b := lim - acc.length) (by omega) (Int32.not_lt.mpr z0) (Int32.not_lt.mpr z1)
          rw [e1]
          rw [e2] at h
          have r0 : acc ++ List.replicate 0 (ys.getD i 0) = acc := by rw [List.replicate_zero, List.append_nil]
          have cpi := yp_cpI (post := post) (J := wY_prim_488 post (nI sr) (nI xs.length) (nI ys.length) (nI (16 * sx)) (nI (16 * sy)) (nI (16 * sr)) (nI lim) g_tlen g_held g_root g_clen g_xn g_yn g_rn g_stat g_nn g_wsp g_depth g_sp 0 n) (x7 := nI xs.length) (x8 := nI ys.length) (x9 := nI (16 * sx)) (acc := acc) (q := q) (g_lim := nI lim) (g_tlen := g_tlen) (g_held := g_held) (g_root := g_root) (g_clen := g_clen) (g_xn := g_xn) (g_yn := g_yn) (g_rn := g_rn) (g_stat := g_stat) (g_nn := g_nn) (g_wsp := g_wsp) (g_depth := g_depth) (g_sp := g_sp) (g_err := 0) (b_text := b_text) (b_canon := b_canon) (b_xs := b_xs) (b_ys := b_ys) (b_res := b_res) (b_kind := b_kind) (b_nch := b_nch) (b_na := b_na) (b_nb := b_nb) (b_nc := b_nc) (b_ws := b_ws) (b_fb := b_fb) (b_pend := b_pend) (b_cst := b_cst) (b_fnode := b_fnode) (b_fmode := b_fmode) (b_fph := b_fph) (b_fi := b_fi) (b_vec := b_vec) (b_vlen := b_vlen) hsy hsr hyr hy (by omega : i < ys.length) rfl (by omega) (fun c' hI' => ih (i + 1) _ c' (by omega) (by rw [List.length_append, List.length_replicate]; omega) hI' h n (by omega)) q 0 c (by omega) (by rw [r0]; exact hI) (q + 1) (by omega)
          rw [r0] at cpi
          exact ⟨q + 1, cpi⟩
        · rw [if_pos (Int32.not_le.mp z1)] at h
          exact h c b_vlen ⟨hI.2, fun z => by cases z⟩
      · rw [if_pos (Int32.not_le.mp z0)] at h
        exact h c b_vlen ⟨hI.2, fun z => by cases z⟩
    refine pk_eq xs.length ys.length (fun e => ?_) (fun e => ?_)
    · refine main i (by omega) ?_
      rw [yp_o hI hxr hx (by omega)]
      unfold pr_el
      split
      · rename_i e5
        have : i = 0 := by omega
        rw [this]
      · rfl
    · have e5 := hc e
      refine main 0 (by omega) ?_
      rw [yp_o hI hxr hx (by omega)]
      unfold pr_el
      rw [if_pos e5]
theorem yp_875 {g_lim g_tlen g_held g_root g_clen g_xn g_yn g_rn g_stat g_nn g_wsp g_depth g_sp g_err : Int32} {b_text b_canon b_xs b_ys b_res b_kind b_nch b_na b_nb b_nc b_ws b_fb b_pend b_cst b_fnode b_fmode b_fph b_fi b_vec b_vlen : Nat → Int32} {post : SY → Prop} {J : Int32 → (Nat → Int32) → (Nat → Int32) → (Nat → Int32) → (Nat → Int32) → (Nat → Int32) → (Nat → Int32) → (Nat → Int32) → (Nat → Int32) → (Nat → Int32) → (Nat → Int32) → (Nat → Int32) → (Nat → Int32) → (Nat → Int32) → (Nat → Int32) → (Nat → Int32) → (Nat → Int32) → (Nat → Int32) → (Nat → Int32) → (Nat → Int32) → (Nat → Int32) → Prop} {x2 x3 x6 x7 x8 x9 x10 x12 v : Int32} {sr i : Nat} (hsr : sr < 645) (hi : i < 16)
    (h : J (nI (i + 1)) b_text b_canon b_xs b_ys b_res b_kind b_nch b_na b_nb b_nc b_ws b_fb b_pend b_cst b_fnode b_fmode b_fph b_fi (upd b_vec (16 * sr + i) v) b_vlen) : wY_prim_875 post J x2 x3 x6 x7 x8 x9 x10 (nI (16 * sr)) x12 (nI i) v g_lim g_tlen g_held g_root g_clen g_xn g_yn g_rn g_stat g_nn g_wsp g_depth g_sp g_err b_text b_canon b_xs b_ys b_res b_kind b_nch b_na b_nb b_nc b_ws b_fb b_pend b_cst b_fnode b_fmode b_fph b_fi b_vec b_vlen := by
  have e4 : (nI (16 * sr + i)).toNatClampNeg = 16 * sr + i := nI_clamp (by omega)
  unfold wY_prim_875
  rw [nI_add]
  exact ⟨vp_in_nI (by omega) (by omega), nm_r (by rw [e4]) (nm_r (nI_1 i) h)⟩
theorem yp_708m {g_lim g_tlen g_held g_root g_clen g_xn g_yn g_rn g_stat g_nn g_wsp g_depth g_sp g_err : Int32} {b_text b_canon b_xs b_ys b_res b_kind b_nch b_na b_nb b_nc b_ws b_fb b_pend b_cst b_fnode b_fmode b_fph b_fi b_vec b_vlen : Nat → Int32} {post : SY → Prop} {J : Int32 → (Nat → Int32) → (Nat → Int32) → (Nat → Int32) → (Nat → Int32) → (Nat → Int32) → (Nat → Int32) → (Nat → Int32) → (Nat → Int32) → (Nat → Int32) → (Nat → Int32) → (Nat → Int32) → (Nat → Int32) → (Nat → Int32) → (Nat → Int32) → (Nat → Int32) → (Nat → Int32) → (Nat → Int32) → (Nat → Int32) → (Nat → Int32) → (Nat → Int32) → Prop} {x6 x7 x8 x9 x10 x12 x14 : Int32} {k sr i a b : Nat} (hk : k < 128) (hsr : sr < 645) (hi : i < 16) (hab : a + b < 10320)
    (h : J (nI (i + 1)) b_text b_canon b_xs b_ys b_res b_kind b_nch b_na b_nb b_nc b_ws b_fb b_pend b_cst b_fnode b_fmode b_fph b_fi (upd b_vec (16 * sr + i) (pr_m1 k (b_vec (a + b)))) b_vlen) : wY_prim_708 post J (nI k) 1 x6 x7 x8 x9 x10 (nI (16 * sr)) x12 (nI i) x14 (nI b) (nI a) g_lim g_tlen g_held g_root g_clen g_xn g_yn g_rn g_stat g_nn g_wsp g_depth g_sp g_err b_text b_canon b_xs b_ys b_res b_kind b_nch b_na b_nb b_nc b_ws b_fb b_pend b_cst b_fnode b_fmode b_fph b_fi b_vec b_vlen := by
  have e4 : (nI (a + b)).toNatClampNeg = a + b := nI_clamp (by omega)
  unfold wY_prim_708
  rw [nI_add]
  refine ⟨vp_in_nI (by omega) (by omega), nm_r (e' := b_vec (a + b)) (by rw [e4]) (br_t rfl ?_)⟩
  generalize b_vec (a + b) = v at h
  unfold pr_m1 at h
  refine pk_eq k 43 (fun e1 => ?_) (fun e1 => pk_eq k 45 (fun e2 => ?_) (fun e2 => pk_eq k 42 (fun e => ?_) (fun e => pk_eq k 60 (fun e3 => ?_) (fun e3 => ?_))))
  · rw [if_pos e1] at h; exact yp_875 hsr hi h
  · rw [if_neg e1, if_pos e2] at h; exact yp_875 hsr hi h
  · rw [if_neg e1, if_neg e2, if_pos e] at h
    refine br_c (fun h0 => br_c (fun h1 => ?_) (fun h1 => ?_)) (fun h0 => ?_)
    · rw [if_neg (Int32.not_lt.mpr h1), if_neg (Int32.not_lt.mpr h0)] at h; exact yp_875 hsr hi h
    · rw [if_pos (Int32.not_le.mp h1)] at h; exact yp_875 hsr hi h
    · rw [if_neg (Int32.not_lt.mpr (Int32.le_of_lt (Int32.not_le.mp h0))), if_pos (Int32.not_le.mp h0)] at h; exact yp_875 hsr hi h
  · rw [if_neg e1, if_neg e2, if_neg e, if_pos e3] at h; exact yp_875 hsr hi h
  · rw [if_neg e1, if_neg e2, if_neg e, if_neg e3] at h; exact yp_875 hsr hi h
theorem yp_708d {g_lim g_tlen g_held g_root g_clen g_xn g_yn g_rn g_stat g_nn g_wsp g_depth g_sp g_err : Int32} {b_text b_canon b_xs b_ys b_res b_kind b_nch b_na b_nb b_nc b_ws b_fb b_pend b_cst b_fnode b_fmode b_fph b_fi b_vec b_vlen : Nat → Int32} {post : SY → Prop} {J : Int32 → (Nat → Int32) → (Nat → Int32) → (Nat → Int32) → (Nat → Int32) → (Nat → Int32) → (Nat → Int32) → (Nat → Int32) → (Nat → Int32) → (Nat → Int32) → (Nat → Int32) → (Nat → Int32) → (Nat → Int32) → (Nat → Int32) → (Nat → Int32) → (Nat → Int32) → (Nat → Int32) → (Nat → Int32) → (Nat → Int32) → (Nat → Int32) → (Nat → Int32) → Prop} {x6 x7 x8 x9 x10 x12 x14 : Int32} {k sr i a b : Nat} (hk : k < 128) (hsr : sr < 645) (hi : i < 16) (hab : a + b < 10320)
    (h : J (nI (i + 1)) b_text b_canon b_xs b_ys b_res b_kind b_nch b_na b_nb b_nc b_ws b_fb b_pend b_cst b_fnode b_fmode b_fph b_fi (upd b_vec (16 * sr + i) (pr_m2 k x14 (b_vec (a + b)))) b_vlen) : wY_prim_708 post J (nI k) 2 x6 x7 x8 x9 x10 (nI (16 * sr)) x12 (nI i) x14 (nI b) (nI a) g_lim g_tlen g_held g_root g_clen g_xn g_yn g_rn g_stat g_nn g_wsp g_depth g_sp g_err b_text b_canon b_xs b_ys b_res b_kind b_nch b_na b_nb b_nc b_ws b_fb b_pend b_cst b_fnode b_fmode b_fph b_fi b_vec b_vlen := by
  have e4 : (nI (a + b)).toNatClampNeg = a + b := nI_clamp (by omega)
  unfold wY_prim_708
  rw [nI_add]
  refine ⟨vp_in_nI (by omega) (by omega), nm_r (e' := b_vec (a + b)) (by rw [e4]) (br_f (by decide) ?_)⟩
  generalize b_vec (a + b) = v at h
  unfold pr_m2 at h
  refine pk_eq k 43 (fun e1 => ?_) (fun e1 => pk_eq k 45 (fun e2 => ?_) (fun e2 => pk_eq k 42 (fun e => ?_) (fun e => pk_eq k 60 (fun e3 => ?_) (fun e3 => ?_))))
  · rw [if_pos e1] at h; exact yp_875 hsr hi h
  · rw [if_neg e1, if_pos e2] at h; exact yp_875 hsr hi h
  · rw [if_neg e1, if_neg e2, if_pos e] at h; exact yp_875 hsr hi h
  · rw [if_neg e1, if_neg e2, if_neg e, if_pos e3] at h
    refine br_c (fun h0 => ?_) (fun h0 => ?_)
    · rw [if_neg (Int32.not_lt.mpr h0)] at h; exact yp_875 hsr hi h
    · rw [if_pos (Int32.not_le.mp h0)] at h; exact yp_875 hsr hi h
  · rw [if_neg e1, if_neg e2, if_neg e, if_neg e3] at h
    refine br_c (fun h0 => ?_) (fun h0 => ?_)
    · rw [if_neg (Int32.not_lt.mpr h0)] at h; exact yp_875 hsr hi h
    · rw [if_pos (Int32.not_le.mp h0)] at h; exact yp_875 hsr hi h
