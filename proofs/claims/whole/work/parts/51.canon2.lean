/-! the canonical form: the reference's loop, then both -/
theorem yc_p {g_lim g_tlen g_held g_root g_clen g_xn g_yn g_rn g_stat g_nn g_wsp g_depth g_sp g_err : Int32} {b_text b_canon b_xs b_ys b_res b_kind b_nch b_na b_nb b_nc b_ws b_fb b_pend b_cst b_fnode b_fmode b_fph b_fi b_vec b_vlen : Nat → Int32} {post : Int32 → SY → Prop} {st : List cn_I} (it : cn_I) {v : Int32} (hv : v = cn_ey it) (hs : cn_S cn_ey b_cst st) (hl : st.length < 512)
    (h : ∀ cs, cn_S cn_ey cs (it :: st) → post (nI (it :: st).length) (g_lim, g_tlen, g_held, g_root, g_clen, g_xn, g_yn, g_rn, g_stat, g_nn, g_wsp, g_depth, g_sp, g_err, b_text, b_canon, b_xs, b_ys, b_res, b_kind, b_nch, b_na, b_nb, b_nc, b_ws, b_fb, b_pend, cs, b_fnode, b_fmode, b_fph, b_fi, b_vec, b_vlen)) : wpY_pushC post (g_lim, g_tlen, g_held, g_root, g_clen, g_xn, g_yn, g_rn, g_stat, g_nn, g_wsp, g_depth, g_sp, g_err, b_text, b_canon, b_xs, b_ys, b_res, b_kind, b_nch, b_na, b_nb, b_nc, b_ws, b_fb, b_pend, b_cst, b_fnode, b_fmode, b_fph, b_fi, b_vec, b_vlen) (nI st.length) v := by
  subst hv
  have e1 : (nI st.length).toNatClampNeg = st.length := nI_clamp (by omega)
  refine br_f (nI_pos (by omega)) (br_t (nI_lt (b := 512) hl (by decide)) ⟨vp_in_nI hl (by omega), nm_r (e' := upd b_cst st.length (cn_ey it)) (by rw [e1]) ?_⟩)
  rw [nI_1]
  exact h _ (cn_push it hs)
theorem yc_e {g_lim g_tlen g_held g_root g_xn g_yn g_rn g_stat g_nn g_wsp g_depth g_sp g_err : Int32} {b_text b_canon b_xs b_ys b_res b_kind b_nch b_na b_nb b_nc b_ws b_fb b_pend b_cst b_fnode b_fmode b_fph b_fi b_vec b_vlen : Nat → Int32} {post : SY → Prop} {o : List Nat} {c : Nat} (hc : c < 128) (ho : cn_O b_canon o) (hl : o.length < 64)
    (h : ∀ ac, cn_O ac (o ++ [c]) → post (g_lim, g_tlen, g_held, g_root, nI (o ++ [c]).length, g_xn, g_yn, g_rn, g_stat, g_nn, g_wsp, g_depth, g_sp, g_err, b_text, ac, b_xs, b_ys, b_res, b_kind, b_nch, b_na, b_nb, b_nc, b_ws, b_fb, b_pend, b_cst, b_fnode, b_fmode, b_fph, b_fi, b_vec, b_vlen)) : wpY_emit post (g_lim, g_tlen, g_held, g_root, nI o.length, g_xn, g_yn, g_rn, g_stat, g_nn, g_wsp, g_depth, g_sp, g_err, b_text, b_canon, b_xs, b_ys, b_res, b_kind, b_nch, b_na, b_nb, b_nc, b_ws, b_fb, b_pend, b_cst, b_fnode, b_fmode, b_fph, b_fi, b_vec, b_vlen) (nI c) := by
  have e1 : (nI o.length).toNatClampNeg = o.length := nI_clamp (by omega)
  exact br_f (nI_ge (b := 128) (by omega) (by decide)) ⟨vp_in_nI (by omega) (by omega), nm_r (e' := upd b_canon o.length (nI c)) (by rw [e1, ax_nc (by omega)]) (nm_r (e' := nI (o ++ [c]).length) (by rw [nI_1, cn_len1]) (h _ (cn_Oe ho c)))⟩
theorem yc_240 {g_lim g_tlen g_held g_root g_clen g_xn g_yn g_rn g_stat g_nn g_wsp g_depth g_sp g_err : Int32} {b_text b_canon b_xs b_ys b_res b_kind b_nch b_na b_nb b_nc b_ws b_fb b_pend b_cst b_fnode b_fmode b_fph b_fi b_vec b_vlen : Nat → Int32} {post : SY → Prop} {J : Int32 → Int32 → Int32 → Int32 → Int32 → Int32 → Int32 → Int32 → Int32 → Int32 → Int32 → Int32 → Int32 → Int32 → Int32 → Int32 → (Nat → Int32) → (Nat → Int32) → (Nat → Int32) → (Nat → Int32) → (Nat → Int32) → (Nat → Int32) → (Nat → Int32) → (Nat → Int32) → (Nat → Int32) → (Nat → Int32) → (Nat → Int32) → (Nat → Int32) → (Nat → Int32) → (Nat → Int32) → (Nat → Int32) → (Nat → Int32) → (Nat → Int32) → (Nat → Int32) → (Nat → Int32) → (Nat → Int32) → Prop} {r : List cn_I} {n a b i : Nat} (hn : n < 128) (ha : b_na n = nI a) (hb : b_nb n = nI b) (hs : cn_S cn_ey b_cst r) (hl : r.length + 3 ≤ 512)
    (h : ∀ cs, cn_S cn_ey cs ((false, 40) :: (true, a) :: (true, b) :: r) → J (nI ((false, 40) :: (true, a) :: (true, b) :: r).length) (nI (i + 1)) g_lim g_tlen g_held g_root g_clen g_xn g_yn g_rn g_stat g_nn g_wsp g_depth g_sp g_err b_text b_canon b_xs b_ys b_res b_kind b_nch b_na b_nb b_nc b_ws b_fb b_pend cs b_fnode b_fmode b_fph b_fi b_vec b_vlen) :
    wY_makeCanon_240 post J (nI r.length) (nI i) (nI n) g_lim g_tlen g_held g_root g_clen g_xn g_yn g_rn g_stat g_nn g_wsp g_depth g_sp g_err b_text b_canon b_xs b_ys b_res b_kind b_nch b_na b_nb b_nc b_ws b_fb b_pend b_cst b_fnode b_fmode b_fph b_fi b_vec b_vlen := by
  have e2 : (nI n).toNatClampNeg = n := nI_clamp (by omega)
  have i2 : vp_in (nI n) 128 := vp_in_nI (by omega) (by omega)
  unfold wY_makeCanon_240
  refine ⟨i2, ?_⟩
  rw [e2, hb]
  refine yc_p (true, b) rfl hs (by omega) fun c1 s1 => ⟨i2, ?_⟩
  rw [ha]
  refine yc_p (st := (true, b) :: r) (true, a) rfl s1 (by show r.length + 1 < 512; omega) fun c2 s2 => ?_
  refine yc_p (st := (true, a) :: (true, b) :: r) (false, 40) (by decide) s2 (by show r.length + 2 < 512; omega) fun c3 s3 => nm_r (nI_1 i) ?_
  exact h c3 s3
theorem yc_191 {g_lim g_tlen g_held g_root g_clen g_xn g_yn g_rn g_stat g_nn g_wsp g_depth g_sp g_err : Int32} {b_text b_canon b_xs b_ys b_res b_kind b_nch b_na b_nb b_nc b_ws b_fb b_pend b_cst b_fnode b_fmode b_fph b_fi b_vec b_vlen : Nat → Int32} {post : SY → Prop} {J : Int32 → Int32 → Int32 → Int32 → Int32 → Int32 → Int32 → Int32 → Int32 → Int32 → Int32 → Int32 → Int32 → Int32 → Int32 → Int32 → (Nat → Int32) → (Nat → Int32) → (Nat → Int32) → (Nat → Int32) → (Nat → Int32) → (Nat → Int32) → (Nat → Int32) → (Nat → Int32) → (Nat → Int32) → (Nat → Int32) → (Nat → Int32) → (Nat → Int32) → (Nat → Int32) → (Nat → Int32) → (Nat → Int32) → (Nat → Int32) → (Nat → Int32) → (Nat → Int32) → (Nat → Int32) → (Nat → Int32) → Prop} {r : List cn_I} {n a i : Nat} (hn : n < 128) (ha : b_na n = nI a) (hs : cn_S cn_ey b_cst r) (hl : r.length + 2 ≤ 512)
    (h : ∀ cs, cn_S cn_ey cs ((true, a) :: (false, 64) :: r) → J (nI ((true, a) :: (false, 64) :: r).length) (nI (i + 1)) g_lim g_tlen g_held g_root g_clen g_xn g_yn g_rn g_stat g_nn g_wsp g_depth g_sp g_err b_text b_canon b_xs b_ys b_res b_kind b_nch b_na b_nb b_nc b_ws b_fb b_pend cs b_fnode b_fmode b_fph b_fi b_vec b_vlen) :
    wY_makeCanon_191 post J (nI r.length) (nI i) (nI n) g_lim g_tlen g_held g_root g_clen g_xn g_yn g_rn g_stat g_nn g_wsp g_depth g_sp g_err b_text b_canon b_xs b_ys b_res b_kind b_nch b_na b_nb b_nc b_ws b_fb b_pend b_cst b_fnode b_fmode b_fph b_fi b_vec b_vlen := by
  have e2 : (nI n).toNatClampNeg = n := nI_clamp (by omega)
  have i2 : vp_in (nI n) 128 := vp_in_nI (by omega) (by omega)
  unfold wY_makeCanon_191
  refine yc_p (false, 64) (by decide) hs (by omega) fun c1 s1 => ⟨i2, ?_⟩
  rw [e2, ha]
  refine yc_p (st := (false, 64) :: r) (true, a) rfl s1 (by show r.length + 1 < 512; omega) fun c2 s2 => nm_r (nI_1 i) ?_
  exact h c2 s2
theorem yc_nd {g_lim g_tlen g_held g_root g_xn g_yn g_rn g_stat g_nn g_wsp g_depth g_sp g_err : Int32} {b_text b_canon b_xs b_ys b_res b_kind b_nch b_na b_nb b_nc b_ws b_fb b_pend b_cst b_fnode b_fmode b_fph b_fi b_vec b_vlen : Nat → Int32} {post : SY → Prop} {k i : Nat} {N : Nat} {K F S T C A D : Nat → Nat} {n : Nat} {r : List cn_I} {o : List Nat} (hK : tr_ok N K F S T C A D) (hN : N ≤ 64) (hn : n < N) (hi : i < 1024)
    (hT : tr_Y N K F S T b_kind b_nch b_na b_nb b_nc) (hs : cn_S cn_ey b_cst ((true, n) :: r)) (hl : r.length + 5 ≤ 512) (ho : cn_O b_canon o) (ho2 : o.length + (cn_em K n).length ≤ 64)
    (h : ∀ cs ac, cn_S cn_ey cs (cn_un K F S T n ++ r) → cn_O ac (o ++ cn_em K n) → wY_makeCanon_17 post k (nI (cn_un K F S T n ++ r).length) (nI (i + 1)) g_lim g_tlen g_held g_root (nI (o ++ cn_em K n).length) g_xn g_yn g_rn g_stat g_nn g_wsp g_depth g_sp g_err b_text ac b_xs b_ys b_res b_kind b_nch b_na b_nb b_nc b_ws b_fb b_pend cs b_fnode b_fmode b_fph b_fi b_vec b_vlen) :
    wY_makeCanon_17 post (k + 1) (nI (r.length + 1)) (nI i) g_lim g_tlen g_held g_root (nI o.length) g_xn g_yn g_rn g_stat g_nn g_wsp g_depth g_sp g_err b_text b_canon b_xs b_ys b_res b_kind b_nch b_na b_nb b_nc b_ws b_fb b_pend b_cst b_fnode b_fmode b_fph b_fi b_vec b_vlen := by
  have nd := (hK n hn).1
  have kk := nd_k nd
  have e1 : (nI r.length).toNatClampNeg = r.length := nI_clamp (by omega)
  have e2 : (nI n).toNatClampNeg = n := nI_clamp (by omega)
  have i2 : vp_in (nI n) 128 := vp_in_nI (by omega) (by omega)
  obtain ⟨k1, k2, k3, k4, k5⟩ := hT n hn
  obtain ⟨hs1, hs2⟩ := hs
  refine br_f (nI_ge (b := 1024) hi (by decide)) (br_f (nI_nle (by omega) (by omega)) (nm_r (e' := nI r.length) (pk_m1 _) ⟨vp_in_nI (by omega) (by omega), nm_r (e' := nI n) (by rw [e1]; exact hs1) (br_t (nI_pos' (by omega)) ⟨i2, nm_r (e' := nI (tr_ky (K n))) (by rw [e2]; exact k1) ?_⟩)⟩))
  unfold cn_un at h
  by_cases a1 : K n = 1
  · rw [if_pos a1, show cn_em K n = [] from if_pos (by omega), List.append_nil] at h
    rw [show tr_ky (K n) = 3 by rw [a1]; rfl]
    refine br_f (by decide) (br_f (by decide) (br_f (by decide) ?_))
    refine yc_p (false, 41) (by decide) hs2 (by omega) fun c1 s1 => br_t rfl ⟨i2, ?_⟩
    rw [e2, k5]
    refine yc_p (st := (false, 41) :: r) (true, T n) rfl s1 (by show r.length + 1 < 512; omega) fun c2 s2 => ?_
    exact yc_240 (r := (true, T n) :: (false, 41) :: r) (by omega) k3 k4 s2 (by show r.length + 2 + 3 ≤ 512; omega) fun cs hcs => h cs b_canon hcs ho
  · rw [if_neg a1] at h
    by_cases a2 : K n = 2
    · rw [if_pos a2, show cn_em K n = [] from if_pos (by omega), List.append_nil] at h
      rw [show tr_ky (K n) = 4 by rw [a2]; rfl]
      refine br_f (by decide) (br_f (by decide) (br_f (by decide) ?_))
      refine yc_p (false, 41) (by decide) hs2 (by omega) fun c1 s1 => br_f (by decide) ?_
      exact yc_240 (r := (false, 41) :: r) (by omega) k3 k4 s1 (by show r.length + 1 + 3 ≤ 512; omega) fun cs hcs => h cs b_canon hcs ho
    · rw [if_neg a2] at h
      by_cases a3 : K n = 64
      · rw [if_pos a3, show cn_em K n = [] from if_pos (by omega), List.append_nil] at h
        rw [show tr_ky (K n) = 2 by rw [a3]; rfl]
        have fs := am_fs nd (Or.inr a3)
        have e3 : (nI (S n)).toNatClampNeg = S n := nI_clamp (by omega)
        have i3 : vp_in (nI (S n)) 128 := vp_in_nI (by omega) (by omega)
        have ks := (hT (S n) (by omega)).1
        refine br_f (by decide) (br_f (by decide) (br_t rfl ⟨i2, nm_r (e' := nI (S n)) (by rw [e2]; exact k4) ⟨i3, ?_⟩⟩))
        rw [e3, ks]
        have par : nd_pr (K (S n)) ≠ 0 → wY_makeCanon_150 post (wY_makeCanon_17 post k) (nI r.length) (nI i) (nI n) (nI (S n)) g_lim g_tlen g_held g_root (nI o.length) g_xn g_yn g_rn g_stat g_nn g_wsp g_depth g_sp g_err b_text b_canon b_xs b_ys b_res b_kind b_nch b_na b_nb b_nc b_ws b_fb b_pend b_cst b_fnode b_fmode b_fph b_fi b_vec b_vlen := by
          intro q
          rw [if_neg q] at h
          unfold wY_makeCanon_150 wY_makeCanon_155
          refine br_f (by decide) ?_
          refine yc_p (false, 41) (by decide) hs2 (by omega) fun c1 s1 => ?_
          unfold wY_makeCanon_170
          refine yc_p (st := (false, 41) :: r) (true, S n) rfl s1 (by show r.length + 1 < 512; omega) fun c2 s2 => br_f (by decide) ?_
          refine yc_p (st := (true, S n) :: (false, 41) :: r) (false, 40) (by decide) s2 (by show r.length + 2 < 512; omega) fun c3 s3 => ?_
          exact yc_191 (r := (false, 40) :: (true, S n) :: (false, 41) :: r) (by omega) k3 s3 (by show r.length + 3 + 2 ≤ 512; omega) fun cs hcs => h cs b_canon hcs ho
        by_cases b1 : K (S n) = 47 ∨ K (S n) = 92 ∨ K (S n) = 34
        · refine br_t ?_ (par ?_)
          · rw [show tr_ky (K (S n)) = 1 by unfold tr_ky; rw [if_neg (by omega), if_neg (by omega), if_neg (by omega), if_pos b1]]; rfl
          · unfold nd_pr; rw [if_pos (by omega)]; decide
        · by_cases b2 : K (S n) = 64
          · rw [show tr_ky (K (S n)) = 2 by rw [b2]; rfl]
            refine br_f (by decide) ⟨i3, br_t rfl (par ?_)⟩
            unfold nd_pr; rw [if_pos (by omega)]; decide
          · have np : nd_pr (K (S n)) = 0 := by unfold nd_pr; rw [if_neg (by omega)]
            have t0 : tr_ky (K (S n)) = 3 ∨ tr_ky (K (S n)) = 4 ∨ tr_ky (K (S n)) = 0 := by
              unfold tr_ky
              split
              · exact Or.inl rfl
              · split
                · exact Or.inr (Or.inl rfl)
                · exact Or.inr (Or.inr (by first | rfl | (rw [if_neg b2, if_neg b1])))
            have t1 : ¬ nI (tr_ky (K (S n))) = 1 := by rcases t0 with z | z | z <;> rw [z] <;> decide
            have t2 : ¬ nI (tr_ky (K (S n))) = 2 := by rcases t0 with z | z | z <;> rw [z] <;> decide
            refine br_f t1 ⟨i3, br_f t2 ?_⟩
            rw [if_pos np] at h
            unfold wY_makeCanon_155
            refine br_t rfl ?_
            unfold wY_makeCanon_170
            refine yc_p (true, S n) rfl hs2 (by omega) fun c2 s2 => br_t rfl ?_
            exact yc_191 (r := (true, S n) :: r) (by omega) k3 s2 (by show r.length + 1 + 2 ≤ 512; omega) fun cs hcs => h cs b_canon hcs ho
      · rw [if_neg a3] at h
        by_cases a4 : K n = 47 ∨ K n = 92 ∨ K n = 34
        · rw [if_pos a4, show cn_em K n = [] from if_pos (by omega), List.append_nil] at h
          rw [show tr_ky (K n) = 1 by unfold tr_ky; rw [if_neg a1, if_neg a2, if_neg a3, if_pos a4]]
          refine br_f (by decide) (br_t rfl ⟨i2, ?_⟩)
          rw [e2, k2, show tr_cy (K n) = K n by unfold tr_cy; rw [if_neg (by omega)]]
          refine yc_p (false, K n) rfl hs2 (by omega) fun c1 s1 => ⟨i2, ?_⟩
          rw [k3]
          refine yc_p (st := (false, K n) :: r) (true, F n) rfl s1 (by show r.length + 1 < 512; omega) fun c2 s2 => nm_r (nI_1 i) ?_
          exact h c2 b_canon s2 ho
        · rw [if_neg a4] at h
          have em : cn_em K n = [K n] := if_neg (by omega)
          rw [em] at h ho2
          have ho2' : o.length + 1 ≤ 64 := ho2
          rw [show tr_ky (K n) = 0 by unfold tr_ky; rw [if_neg a1, if_neg a2, if_neg a3, if_neg a4]]
          refine br_t rfl ⟨i2, ?_⟩
          rw [e2, k2, show tr_cy (K n) = K n by unfold tr_cy; rw [if_neg (by omega)]]
          exact yc_e kk ho (by omega) fun ac hac => nm_r (nI_1 i) (h b_cst ac hs2 hac)
theorem cn_ap {o : List Nat} {c : Nat} (h : ∀ j, j < o.length → o.getD j 0 < 128) (hc : c < 128) : ∀ j, j < (o ++ [c]).length → (o ++ [c]).getD j 0 < 128 := by
  intro j hj
  rw [cn_len1] at hj
  by_cases z : j = o.length
  · rw [z, List.getD_eq_getElem?_getD, List.getElem?_append_right (Nat.le_refl _), Nat.sub_self]; exact hc
  · rw [List.getD_eq_getElem?_getD, List.getElem?_append_left (by omega), ← List.getD_eq_getElem?_getD]
    exact h j (by omega)
theorem cn_both {N : Nat} {K F S T C A D : Nat → Nat} (hK : tr_ok N K F S T C A D) (hN : N ≤ 64) :
    ∀ (W : Nat) (st : List cn_I) (o : List Nat), cn_w C st ≤ W → W ≤ 128 → cn_ok N st → o.length + cn_c C st ≤ 64 → (∀ j, j < o.length → o.getD j 0 < 128) →
    ∃ o' : List Nat, o'.length ≤ 64 ∧ (∀ j, j < o'.length → o'.getD j 0 < 128) ∧
      (∀ {f_vectorLimit f_textCount f_trainHeld f_rootNode f_nodeCount f_wordCount f_groupFirst f_atopWaiting f_groupCount f_adverbCount f_frameCount f_failure f_lastStatus : Int32} {a_text a_nodeKind a_nodeFirst a_nodeSecond a_nodeThird a_words a_outerFirst a_outerAtop a_cells a_lengths a_frameNode a_frameDyadic a_frameX a_frameY a_framePhase : Nat → Int32} (post : SX → Prop) (ap ac : Nat → Int32) (i k : Nat), tr_X N K F S T a_nodeKind a_nodeFirst a_nodeSecond a_nodeThird → i + W ≤ 128 → W < k → cn_S cn_ex ap st → cn_O ac o →
        (∀ pc ap' ac', cn_O ac' o' → post (f_vectorLimit, f_textCount, f_trainHeld, f_rootNode, f_nodeCount, f_wordCount, f_groupFirst, f_atopWaiting, f_groupCount, f_adverbCount, nI o'.length, pc, f_frameCount, f_failure, f_lastStatus, a_text, a_nodeKind, a_nodeFirst, a_nodeSecond, a_nodeThird, a_words, a_outerFirst, a_outerAtop, ac', ap', a_cells, a_lengths, a_frameNode, a_frameDyadic, a_frameX, a_frameY, a_framePhase)) →
        wX_writeCanon_20 post k (nI i) f_vectorLimit f_textCount f_trainHeld f_rootNode f_nodeCount f_wordCount f_groupFirst f_atopWaiting f_groupCount f_adverbCount (nI o.length) (nI st.length) f_frameCount f_failure f_lastStatus a_text a_nodeKind a_nodeFirst a_nodeSecond a_nodeThird a_words a_outerFirst a_outerAtop ac ap a_cells a_lengths a_frameNode a_frameDyadic a_frameX a_frameY a_framePhase) ∧
      (∀ {g_lim g_tlen g_held g_root g_xn g_yn g_rn g_stat g_nn g_wsp g_depth g_sp g_err : Int32} {b_text b_xs b_ys b_res b_kind b_nch b_na b_nb b_nc b_ws b_fb b_pend b_fnode b_fmode b_fph b_fi b_vec b_vlen : Nat → Int32} (post : SY → Prop) (cs ac : Nat → Int32) (i k : Nat), tr_Y N K F S T b_kind b_nch b_na b_nb b_nc → i + W ≤ 128 → W < k → cn_S cn_ey cs st → cn_O ac o →
        (∀ cs' ac', cn_O ac' o' → post (g_lim, g_tlen, g_held, g_root, nI o'.length, g_xn, g_yn, g_rn, g_stat, g_nn, g_wsp, g_depth, g_sp, g_err, b_text, ac', b_xs, b_ys, b_res, b_kind, b_nch, b_na, b_nb, b_nc, b_ws, b_fb, b_pend, cs', b_fnode, b_fmode, b_fph, b_fi, b_vec, b_vlen)) →
        wY_makeCanon_17 post k (nI st.length) (nI i) g_lim g_tlen g_held g_root (nI o.length) g_xn g_yn g_rn g_stat g_nn g_wsp g_depth g_sp g_err b_text ac b_xs b_ys b_res b_kind b_nch b_na b_nb b_nc b_ws b_fb b_pend cs b_fnode b_fmode b_fph b_fi b_vec b_vlen) := by
  have C1 := cn_C1 hK
  have base : ∀ (W : Nat) (o : List Nat), o.length ≤ 64 → (∀ j, j < o.length → o.getD j 0 < 128) → ∃ o' : List Nat, o'.length ≤ 64 ∧ (∀ j, j < o'.length → o'.getD j 0 < 128) ∧
      (∀ {f_vectorLimit f_textCount f_trainHeld f_rootNode f_nodeCount f_wordCount f_groupFirst f_atopWaiting f_groupCount f_adverbCount f_frameCount f_failure f_lastStatus : Int32} {a_text a_nodeKind a_nodeFirst a_nodeSecond a_nodeThird a_words a_outerFirst a_outerAtop a_cells a_lengths a_frameNode a_frameDyadic a_frameX a_frameY a_framePhase : Nat → Int32} (post : SX → Prop) (ap ac : Nat → Int32) (i k : Nat), tr_X N K F S T a_nodeKind a_nodeFirst a_nodeSecond a_nodeThird → i + W ≤ 128 → W < k → cn_S cn_ex ap [] → cn_O ac o →
        (∀ pc ap' ac', cn_O ac' o' → post (f_vectorLimit, f_textCount, f_trainHeld, f_rootNode, f_nodeCount, f_wordCount, f_groupFirst, f_atopWaiting, f_groupCount, f_adverbCount, nI o'.length, pc, f_frameCount, f_failure, f_lastStatus, a_text, a_nodeKind, a_nodeFirst, a_nodeSecond, a_nodeThird, a_words, a_outerFirst, a_outerAtop, ac', ap', a_cells, a_lengths, a_frameNode, a_frameDyadic, a_frameX, a_frameY, a_framePhase)) →
        wX_writeCanon_20 post k (nI i) f_vectorLimit f_textCount f_trainHeld f_rootNode f_nodeCount f_wordCount f_groupFirst f_atopWaiting f_groupCount f_adverbCount (nI o.length) (nI 0) f_frameCount f_failure f_lastStatus a_text a_nodeKind a_nodeFirst a_nodeSecond a_nodeThird a_words a_outerFirst a_outerAtop ac ap a_cells a_lengths a_frameNode a_frameDyadic a_frameX a_frameY a_framePhase) ∧
      (∀ {g_lim g_tlen g_held g_root g_xn g_yn g_rn g_stat g_nn g_wsp g_depth g_sp g_err : Int32} {b_text b_xs b_ys b_res b_kind b_nch b_na b_nb b_nc b_ws b_fb b_pend b_fnode b_fmode b_fph b_fi b_vec b_vlen : Nat → Int32} (post : SY → Prop) (cs ac : Nat → Int32) (i k : Nat), tr_Y N K F S T b_kind b_nch b_na b_nb b_nc → i + W ≤ 128 → W < k → cn_S cn_ey cs [] → cn_O ac o →
        (∀ cs' ac', cn_O ac' o' → post (g_lim, g_tlen, g_held, g_root, nI o'.length, g_xn, g_yn, g_rn, g_stat, g_nn, g_wsp, g_depth, g_sp, g_err, b_text, ac', b_xs, b_ys, b_res, b_kind, b_nch, b_na, b_nb, b_nc, b_ws, b_fb, b_pend, cs', b_fnode, b_fmode, b_fph, b_fi, b_vec, b_vlen)) →
        wY_makeCanon_17 post k (nI 0) (nI i) g_lim g_tlen g_held g_root (nI o.length) g_xn g_yn g_rn g_stat g_nn g_wsp g_depth g_sp g_err b_text ac b_xs b_ys b_res b_kind b_nch b_na b_nb b_nc b_ws b_fb b_pend cs b_fnode b_fmode b_fph b_fi b_vec b_vlen) := by
    intro W o ho hc
    refine ⟨o, ho, hc, fun post ap ac i k hTX hi hk hs hO h => ?_, fun post cs ac i k hTY hi hk hs hO h => ?_⟩
    · obtain ⟨k, rfl⟩ : ∃ q, k = q + 1 := ⟨k - 1, by omega⟩
      exact br_c (fun _ => h _ _ _ hO) (fun _ => br_t (by decide) (h _ _ _ hO))
    · obtain ⟨k, rfl⟩ : ∃ q, k = q + 1 := ⟨k - 1, by omega⟩
      exact br_c (fun _ => h _ _ hO) (fun _ => br_t (by decide) (h _ _ hO))
  intro W
  induction W with
  | zero =>
    intro st o hW hW2 hok ho hc
    have hl := cn_len C1 st hok
    match st, hl with
    | [], _ => exact base 0 o (by omega) hc
    | it :: r, hl => have : r.length + 1 ≤ cn_w C (it :: r) := hl; omega
  | succ W ih =>
    intro st o hW hW2 hok ho hc
    have hl := cn_len C1 st hok
    match st, hl, hW, hok, ho with
    | [], _, _, _, ho => exact base _ o (by omega) hc
    | (false, c) :: r, hl, hW, hok, ho =>
      have hl' : r.length + 1 ≤ cn_w C ((false, c) :: r) := hl
      have hW' : 1 + cn_w C r ≤ W + 1 := hW
      have ho' : o.length + (1 + cn_c C r) ≤ 64 := ho
      obtain ⟨c0, c128, hok'⟩ := hok
      obtain ⟨o', h1, h2, hX, hY⟩ := ih r (o ++ [c]) (by omega) (by omega) hok' (by rw [cn_len1]; omega) (cn_ap hc c128)
      have e1 : (nI r.length).toNatClampNeg = r.length := nI_clamp (by omega)
      refine ⟨o', h1, h2, fun post ap ac i k hTX hi hk hs hO h => ?_, fun post cs ac i k hTY hi hk hs hO h => ?_⟩
      · obtain ⟨k, rfl⟩ : ∃ q, k = q + 1 := ⟨k - 1, by omega⟩
        refine br_f (nI_ge (b := 128) (by omega) (by decide)) (br_f (nI_nle (n := r.length + 1) (by omega) (by omega)) (nm_r (e' := nI r.length) (nI_pred _) ⟨vp_in_nI (by omega) (by omega), nm_r (e' := -nI c) (by rw [e1]; exact hs.1) (br_f (Int32.not_le.mpr (cn_neg c0 c128)) ?_)⟩))
        rw [cn_nn]
        exact xc_e c128 hO (by omega) fun ac' hac => nm_r (nI_1 i) (hX post ap ac' (i + 1) k hTX (by omega) (by omega) hs.2 hac h)
      · obtain ⟨k, rfl⟩ : ∃ q, k = q + 1 := ⟨k - 1, by omega⟩
        refine br_f (nI_ge (b := 1024) (by omega) (by decide)) (br_f (nI_nle (n := r.length + 1) (by omega) (by omega)) (nm_r (e' := nI r.length) (pk_m1 _) ⟨vp_in_nI (by omega) (by omega), nm_r (e' := -1 - nI c) (by rw [e1]; exact hs.1) (br_f (Int32.not_le.mpr (cn_neg2 c128)) ?_)⟩))
        rw [cn_n2, ax_ch (by omega)]
        exact yc_e c128 hO (by omega) fun ac' hac => nm_r (nI_1 i) (hY post cs ac' (i + 1) k hTY (by omega) (by omega) hs.2 hac h)
    | (true, n) :: r, hl, hW, hok, ho =>
      have hl' : r.length + 1 ≤ cn_w C ((true, n) :: r) := hl
      have hW' : 2 * C n + cn_w C r ≤ W + 1 := hW
      have ho' : o.length + (C n + cn_c C r) ≤ 64 := ho
      obtain ⟨hn, hok'⟩ := hok
      obtain ⟨w1, w2, w3⟩ := cn_wt hK hn r hok'
      have hl2 := cn_len C1 _ w3
      rw [List.length_append] at hl2
      have hoe : (o ++ cn_em K n).length = o.length + (cn_em K n).length := List.length_append
      have hce : ∀ j, j < (o ++ cn_em K n).length → (o ++ cn_em K n).getD j 0 < 128 := by
        unfold cn_em
        split
        · rw [List.append_nil]; exact hc
        · exact cn_ap hc (nd_k (hK n hn).1)
      obtain ⟨o', h1, h2, hX, hY⟩ := ih (cn_un K F S T n ++ r) (o ++ cn_em K n) (by omega) (by omega) w3 (by omega) hce
      have e1 : (nI r.length).toNatClampNeg = r.length := nI_clamp (by omega)
      refine ⟨o', h1, h2, fun post ap ac i k hTX hi hk hs hO h => ?_, fun post cs ac i k hTY hi hk hs hO h => ?_⟩
      · obtain ⟨k, rfl⟩ : ∃ q, k = q + 1 := ⟨k - 1, by omega⟩
        refine br_f (nI_ge (b := 128) (by omega) (by decide)) (br_f (nI_nle (n := r.length + 1) (by omega) (by omega)) (nm_r (e' := nI r.length) (nI_pred _) ⟨vp_in_nI (by omega) (by omega), nm_r (e' := nI n) (by rw [e1]; exact hs.1) (br_t (nI_pos' (by omega)) ?_)⟩))
        exact xc_un hK hN hn hTX hs.2 (by omega) hO (by omega) fun ap' ac' hap hac => nm_r (nI_1 i) (hX post ap' ac' (i + 1) k hTX (by omega) (by omega) hap hac h)
      · obtain ⟨k, rfl⟩ : ∃ q, k = q + 1 := ⟨k - 1, by omega⟩
        exact yc_nd hK hN hn (by omega) hTY hs (by omega) hO (by omega) fun cs' ac' hcs hac => hY post cs' ac' (i + 1) k hTY (by omega) (by omega) hcs hac h
