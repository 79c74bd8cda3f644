/-! every character; the whole text -/
theorem rc_w {ws : Nat → Int32} {W : Nat → Nat} {m p : Nat} (hw : ∀ j, j < m → ws j = nI (W j)) : ∀ j, j < m + 1 → upd ws m (nI p) j = nI (tr_u W m p j) := by
  intro j hj
  by_cases z : j = m
  · subst z; rw [tr_us]; exact pk_us
  · rw [tr_un z, pk_un z]; exact hw j (by omega)
theorem rd_char {f_vectorLimit f_textCount f_trainHeld f_rootNode f_canonCount f_postponedCount f_frameCount f_failure f_lastStatus : Int32} {a_text a_canon a_postponed a_cells a_lengths a_frameNode a_frameDyadic a_frameX a_frameY a_framePhase : Nat → Int32} {g_lim g_tlen g_held g_root g_clen g_xn g_yn g_rn g_stat g_sp g_err : Int32} {b_text b_canon b_xs b_ys b_res b_cst b_fnode b_fmode b_fph b_fi b_vec b_vlen : Nat → Int32} {i c t : Nat} {N wc G adc : Nat} {K F S T C A D W B : Nat → Nat} {P : Nat → Bool} (hS : rd_S i N wc G adc K F S T C A D W B P) (hi : i < t) (ht : t ≤ 32) (htl : g_tlen = nI t) (htx : b_text i = nI c) (hal : rp_al c) : rp_fail f_vectorLimit f_textCount f_trainHeld f_rootNode f_canonCount f_postponedCount f_frameCount f_failure f_lastStatus a_text a_canon a_postponed a_cells a_lengths a_frameNode a_frameDyadic a_frameX a_frameY a_framePhase g_lim g_tlen g_held g_root g_clen g_xn g_yn g_rn g_stat g_sp g_err b_text b_canon b_xs b_ys b_res b_cst b_fnode b_fmode b_fph b_fi b_vec b_vlen i c N wc G adc K F S T W B P ∨
    ∃ (N' wc' G' adc' : Nat) (K' F' S' T' C' A' D' W' B' : Nat → Nat) (P' : Nat → Bool), rd_S (i + 1) N' wc' G' adc' K' F' S' T' C' A' D' W' B' P' ∧ (B 0 = 0 → B' 0 = 0) ∧ rp_on f_vectorLimit f_textCount f_trainHeld f_rootNode f_canonCount f_postponedCount f_frameCount f_failure f_lastStatus a_text a_canon a_postponed a_cells a_lengths a_frameNode a_frameDyadic a_frameX a_frameY a_framePhase g_lim g_tlen g_held g_root g_clen g_xn g_yn g_rn g_stat g_sp g_err b_text b_canon b_xs b_ys b_res b_cst b_fnode b_fmode b_fph b_fi b_vec b_vlen i c N wc G adc K F S T W B P N' wc' G' adc' K' F' S' T' W' B' P' := by
  have hS' := hS
  obtain ⟨⟨w1, w2, w3, w4, w5⟩, ⟨g1, g2, g3⟩, a1, a2, a3⟩ := hS'
  have cb := rp_alb hal
  by_cases lf : pr_lf c
  · cases hp : P G with
    | false => exact Or.inr ⟨_, _, _, _, _, _, _, _, _, _, _, _, _, _, rd_leaf1 c lf hS, id, rc_leaf1 hS hi ht htl htx lf hp⟩
    | true =>
      have hb := g2 hp
      obtain ⟨m, rfl⟩ : ∃ m, wc = m + 1 := ⟨wc - 1, by omega⟩
      obtain ⟨C', A', D', q⟩ := rd_leaf2 c lf hS
      exact Or.inr ⟨_, _, _, _, _, _, _, _, _, _, _, _, _, _, q, id, rc_leaf2 hS hi ht htl htx rfl lf hp⟩
  · by_cases c40 : c = 40
    · exact Or.inr ⟨_, _, _, _, _, _, _, _, _, _, _, _, _, _, rd_open hS, fun z => by rw [tr_un (by omega)]; exact z, rc_open hS hi ht htl htx c40⟩
    · by_cases wh : B G < wc ∧ P G = false
      · obtain ⟨hb, hp⟩ := wh
        by_cases c64 : c = 64
        · exact Or.inr ⟨_, _, _, _, _, _, _, _, _, _, _, _, _, _, rd_wait hS hb, id, rc_wait hS hi ht htl htx c64 hb hp⟩
        · obtain ⟨m, rfl⟩ : ∃ m, wc = m + 1 := ⟨wc - 1, by omega⟩
          by_cases c41 : c = 41
          · subst c41
            cases G with
            | zero => exact Or.inl (rc_bad0 hS hi ht htl htx rfl rfl)
            | succ G0 =>
              obtain ⟨N', t', K', F', S', T', C', A', D', hR, hX, hY⟩ := tr_train w1 w2 (lo := B (G0 + 1)) (by omega) (by omega) (by omega)
              have gg := g3 G0 (by omega)
              have hRR := hR
              obtain ⟨r1, r2, r3, r4, r5, r6, r7⟩ := hRR
              cases hp0 : P G0 with
              | false =>
                refine Or.inr ⟨N', B (G0 + 1) + 1, G0, adc, K', F', S', T', C', A', D', tr_u W (B (G0 + 1)) t', B, P, rd_close1 hS hb hR, id, rc_cl (lo := B (G0 + 1)) rfl hS hi ht htl htx rfl rfl hb hp hX hY (fun f o post hT hw hg h => ?_) (fun f pd post hT hw hg h => ?_)⟩
                · rw [hp0]
                  exact xn_plain (by omega) (h _ (rp_Xi rfl rfl rfl (by rw [hp0]; rfl) rfl rfl hT (rc_w hw) hg))
                · exact yn_plain (by omega) (by omega) (by rw [(hg G0 (Nat.le_refl _)).2, hp0]; rfl) (h _ (rp_Yi rfl rfl rfl hT (rc_w hw) hg))
              | true =>
                have hb0 := gg.2 hp0
                obtain ⟨m0, hm0⟩ : ∃ m0, B (G0 + 1) = m0 + 1 := ⟨B (G0 + 1) - 1, by omega⟩
                obtain ⟨C2, A2, D2, q⟩ := rd_close2 hS hb hm0 hR
                refine Or.inr ⟨N' + 1, m0 + 1, G0, adc, _, _, _, _, C2, A2, D2, _, B, _, q, id, rc_cl (lo := B (G0 + 1)) rfl hS hi ht htl htx rfl rfl hb hp hX hY (fun f o post hT hw hg h => ?_) (fun f pd post hT hw hg h => ?_)⟩
                · rw [hm0] at hw ⊢
                  rw [hp0]
                  refine xn_atop (by omega) (by omega) (hw m0 (by omega)) (h _ (rp_Xi rfl rfl rfl (by rw [rd_ps]; rfl) rfl rfl (tr_Xu hT 64 (W m0) t' 0) (rc_w fun j hj => hw j (by omega)) fun j hj => ?_))
                  rw [rd_pn (by omega)]; exact hg j hj
                · rw [hm0] at hw ⊢
                  refine yn_atop (by omega) (by omega) (by omega) (by rw [(hg G0 (Nat.le_refl _)).2, hp0]; rfl) (hw m0 (by omega)) (h _ (rp_Yi rfl rfl rfl (tr_Yu hT 64 (W m0) t' 0) (rc_w fun j hj => hw j (by omega)) fun j hj => ?_))
                  by_cases z : j = G0
                  · subst z; rw [rd_ps]; exact ⟨(hg j hj).1, pk_us⟩
                  · rw [rd_pn z, pk_un z]; exact hg j hj
          · have av : pr_av c := by
              rcases hal with q | q | q | q | q
              · exact absurd q lf
              · exact q
              · exact absurd q c64
              · exact absurd q c40
              · exact absurd q c41
            exact Or.inr ⟨_, _, _, _, _, _, _, _, _, _, _, _, _, _, rd_adv c av hS, id, rc_adv hS hi ht htl htx rfl av hb hp⟩
      · exact Or.inl (rc_bad hS hi ht htl htx cb lf c40 wh)
theorem rd_loop {f_vectorLimit f_textCount f_trainHeld f_rootNode f_canonCount f_postponedCount f_frameCount f_failure f_lastStatus : Int32} {a_text a_canon a_postponed a_cells a_lengths a_frameNode a_frameDyadic a_frameX a_frameY a_framePhase : Nat → Int32} {g_lim g_tlen g_held g_root g_clen g_xn g_yn g_rn g_stat g_sp g_err : Int32} {b_text b_canon b_xs b_ys b_res b_cst b_fnode b_fmode b_fph b_fi b_vec b_vlen : Nat → Int32} {t : Nat} (ht : t ≤ 32) (hfl : f_textCount = nI t) (htl : g_tlen = nI t) (htx : ∀ j, j < t → ∃ c, rp_al c ∧ a_text j = nI c ∧ b_text j = nI c) :
    ∀ (d i : Nat) (N wc G adc : Nat) (K F S T C A D W B : Nat → Nat) (P : Nat → Bool), i + d = t → rd_S i N wc G adc K F S T C A D W B P → B 0 = 0 →
    ((∀ (u : SX) (post : Int32 → SX → Prop), rp_X f_vectorLimit f_textCount f_trainHeld f_rootNode f_canonCount f_postponedCount f_frameCount f_failure f_lastStatus a_text a_canon a_postponed a_cells a_lengths a_frameNode a_frameDyadic a_frameX a_frameY a_framePhase N wc G adc K F S T W B P u → (∀ u', rp_QX f_vectorLimit f_textCount f_trainHeld f_rootNode f_canonCount f_postponedCount f_frameCount f_failure f_lastStatus a_text a_canon a_postponed a_cells a_lengths a_frameNode a_frameDyadic a_frameX a_frameY a_framePhase u' → post 0 u') → ∀ k, d < k → xp_W post k i u) ∧
      (∀ (v : SY) (post : Int32 → SY → Prop), rp_Y g_lim g_tlen g_held g_root g_clen g_xn g_yn g_rn g_stat g_sp g_err b_text b_canon b_xs b_ys b_res b_cst b_fnode b_fmode b_fph b_fi b_vec b_vlen N wc G adc K F S T W B P v → (∀ v', rp_QY g_lim g_tlen g_held g_root g_clen g_xn g_yn g_rn g_stat g_sp g_err b_text b_canon b_xs b_ys b_res b_cst b_fnode b_fmode b_fph b_fi b_vec b_vlen v' → post 0 v') → ∀ k, d < k → yp_W post k adc i v)) ∨
    ∃ (N' wc' G' adc' : Nat) (K' F' S' T' C' A' D' W' B' : Nat → Nat) (P' : Nat → Bool), rd_S t N' wc' G' adc' K' F' S' T' C' A' D' W' B' P' ∧ B' 0 = 0 ∧
      (∀ (u : SX) (post : Int32 → SX → Prop), rp_X f_vectorLimit f_textCount f_trainHeld f_rootNode f_canonCount f_postponedCount f_frameCount f_failure f_lastStatus a_text a_canon a_postponed a_cells a_lengths a_frameNode a_frameDyadic a_frameX a_frameY a_framePhase N wc G adc K F S T W B P u → (∀ u' k, rp_X f_vectorLimit f_textCount f_trainHeld f_rootNode f_canonCount f_postponedCount f_frameCount f_failure f_lastStatus a_text a_canon a_postponed a_cells a_lengths a_frameNode a_frameDyadic a_frameX a_frameY a_framePhase N' wc' G' adc' K' F' S' T' W' B' P' u' → xp_W post (k + 1) t u') → ∀ k, d < k → xp_W post k i u) ∧
      (∀ (v : SY) (post : Int32 → SY → Prop), rp_Y g_lim g_tlen g_held g_root g_clen g_xn g_yn g_rn g_stat g_sp g_err b_text b_canon b_xs b_ys b_res b_cst b_fnode b_fmode b_fph b_fi b_vec b_vlen N wc G adc K F S T W B P v → (∀ v' k, rp_Y g_lim g_tlen g_held g_root g_clen g_xn g_yn g_rn g_stat g_sp g_err b_text b_canon b_xs b_ys b_res b_cst b_fnode b_fmode b_fph b_fi b_vec b_vlen N' wc' G' adc' K' F' S' T' W' B' P' v' → yp_W post (k + 1) adc' t v') → ∀ k, d < k → yp_W post k adc i v) := by
  intro d
  induction d with
  | zero =>
    intro i N wc G adc K F S T C A D W B P hid hS hB
    have e : i = t := by omega
    subst e
    refine Or.inr ⟨_, _, _, _, _, _, _, _, _, _, _, _, _, _, hS, hB, fun u post hu h k hk => ?_, fun v post hv h k hk => ?_⟩
    · obtain ⟨k, rfl⟩ : ∃ q, k = q + 1 := ⟨k - 1, by omega⟩
      exact h u k hu
    · obtain ⟨k, rfl⟩ : ∃ q, k = q + 1 := ⟨k - 1, by omega⟩
      exact h v k hv
  | succ d ih =>
    intro i N wc G adc K F S T C A D W B P hid hS hB
    obtain ⟨c, hal, ax, ay⟩ := htx i (by omega)
    have e1 : (nI i).toNatClampNeg = i := nI_clamp (by omega)
    have stepX : ∀ (u : SX) (post : Int32 → SX → Prop) (k : Nat), rp_X f_vectorLimit f_textCount f_trainHeld f_rootNode f_canonCount f_postponedCount f_frameCount f_failure f_lastStatus a_text a_canon a_postponed a_cells a_lengths a_frameNode a_frameDyadic a_frameX a_frameY a_framePhase N wc G adc K F S T W B P u →
        (∀ post' : Int32 → SX → Prop, (∀ (r : Int32) n1 n2 n3 n4 n5 n6 kx fx sx tx ws f o, ((r = 0 → post 0 (f_vectorLimit, f_textCount, f_trainHeld, f_rootNode, n1, n2, n3, n4, n5, n6, f_canonCount, f_postponedCount, f_frameCount, f_failure, f_lastStatus, a_text, kx, fx, sx, tx, ws, f, o, a_canon, a_postponed, a_cells, a_lengths, a_frameNode, a_frameDyadic, a_frameX, a_frameY, a_framePhase)) ∧ (¬ r = 0 → xp_W post k (i + 1) (f_vectorLimit, f_textCount, f_trainHeld, f_rootNode, n1, n2, n3, n4, n5, n6, f_canonCount, f_postponedCount, f_frameCount, f_failure, f_lastStatus, a_text, kx, fx, sx, tx, ws, f, o, a_canon, a_postponed, a_cells, a_lengths, a_frameNode, a_frameDyadic, a_frameX, a_frameY, a_framePhase))) → post' r (f_vectorLimit, f_textCount, f_trainHeld, f_rootNode, n1, n2, n3, n4, n5, n6, f_canonCount, f_postponedCount, f_frameCount, f_failure, f_lastStatus, a_text, kx, fx, sx, tx, ws, f, o, a_canon, a_postponed, a_cells, a_lengths, a_frameNode, a_frameDyadic, a_frameX, a_frameY, a_framePhase)) → wpX_readChar post' u (nI c)) → xp_W post (k + 1) i u := by
      intro u post k hu hr
      obtain ⟨kx, fx, sx, tx, ws, f, o, rfl, hT, hw, hg⟩ := hu
      subst hfl
      refine br_f (nI_ge (by omega) (by omega)) ⟨vp_in_nI (by omega) (by omega), ?_⟩
      rw [e1, ax]
      exact hr _ (fun r n1 n2 n3 n4 n5 n6 kx fx sx tx ws f o hq => ⟨fun z => hq.1 z, fun z => nm_r (nI_1 i) (hq.2 z)⟩)
    rcases rd_char (c := c) (f_vectorLimit := f_vectorLimit) (f_textCount := f_textCount) (f_trainHeld := f_trainHeld) (f_rootNode := f_rootNode) (f_canonCount := f_canonCount) (f_postponedCount := f_postponedCount) (f_frameCount := f_frameCount) (f_failure := f_failure) (f_lastStatus := f_lastStatus) (a_text := a_text) (a_canon := a_canon) (a_postponed := a_postponed) (a_cells := a_cells) (a_lengths := a_lengths) (a_frameNode := a_frameNode) (a_frameDyadic := a_frameDyadic) (a_frameX := a_frameX) (a_frameY := a_frameY) (a_framePhase := a_framePhase) (g_lim := g_lim) (g_tlen := g_tlen) (g_held := g_held) (g_root := g_root) (g_clen := g_clen) (g_xn := g_xn) (g_yn := g_yn) (g_rn := g_rn) (g_stat := g_stat) (g_sp := g_sp) (g_err := g_err) (b_text := b_text) (b_canon := b_canon) (b_xs := b_xs) (b_ys := b_ys) (b_res := b_res) (b_cst := b_cst) (b_fnode := b_fnode) (b_fmode := b_fmode) (b_fph := b_fph) (b_fi := b_fi) (b_vec := b_vec) (b_vlen := b_vlen) hS (by omega) ht htl ay hal with hf | ⟨N', wc', G', adc', K', F', S', T', C', A', D', W', B', P', hS', hB', hon⟩
    · refine Or.inl ⟨fun u post hu h k hk => ?_, fun v post hv h k hk => ?_⟩
      · obtain ⟨k, rfl⟩ : ∃ q, k = q + 1 := ⟨k - 1, by omega⟩
        refine stepX u post k hu fun post' hp => hf.1 u post' hu fun u' hu' => ?_
        obtain ⟨n1, n2, n3, n4, n5, n6, kx, fx, sx, tx, ws, f, o, rfl⟩ := hu'
        exact hp 0 _ _ _ _ _ _ _ _ _ _ _ _ _ (br_t rfl (h _ rp_QXi))
      · obtain ⟨k, rfl⟩ : ∃ q, k = q + 1 := ⟨k - 1, by omega⟩
        exact hf.2 v post k hv h
    · have fwdX : ∀ (u : SX) (post : Int32 → SX → Prop) (k : Nat), rp_X f_vectorLimit f_textCount f_trainHeld f_rootNode f_canonCount f_postponedCount f_frameCount f_failure f_lastStatus a_text a_canon a_postponed a_cells a_lengths a_frameNode a_frameDyadic a_frameX a_frameY a_framePhase N wc G adc K F S T W B P u → (∀ u', rp_X f_vectorLimit f_textCount f_trainHeld f_rootNode f_canonCount f_postponedCount f_frameCount f_failure f_lastStatus a_text a_canon a_postponed a_cells a_lengths a_frameNode a_frameDyadic a_frameX a_frameY a_framePhase N' wc' G' adc' K' F' S' T' W' B' P' u' → xp_W post k (i + 1) u') → xp_W post (k + 1) i u := by
        intro u post k hu h
        refine stepX u post k hu fun post' hp => hon.1 u post' hu fun u' hu' => ?_
        have hu2 := hu'
        obtain ⟨kx, fx, sx, tx, ws, f, o, rfl, -⟩ := hu'
        exact hp 1 _ _ _ _ _ _ _ _ _ _ _ _ _ (br_f (by decide) (h _ hu2))
      rcases ih (i + 1) N' wc' G' adc' K' F' S' T' C' A' D' W' B' P' (by omega) hS' (hB' hB) with ⟨qX, qY⟩ | ⟨N2, wc2, G2, adc2, K2, F2, S2, T2, C2, A2, D2, W2, B2, P2, hS2, hB2, qX, qY⟩
      · refine Or.inl ⟨fun u post hu h k hk => ?_, fun v post hv h k hk => ?_⟩
        · obtain ⟨k, rfl⟩ : ∃ q, k = q + 1 := ⟨k - 1, by omega⟩
          exact fwdX u post k hu fun u' hu' => qX u' post hu' h k (by omega)
        · obtain ⟨k, rfl⟩ : ∃ q, k = q + 1 := ⟨k - 1, by omega⟩
          exact hon.2 v post k hv fun v' hv' => qY v' post hv' h k (by omega)
      · refine Or.inr ⟨N2, wc2, G2, adc2, K2, F2, S2, T2, C2, A2, D2, W2, B2, P2, hS2, hB2, fun u post hu h k hk => ?_, fun v post hv h k hk => ?_⟩
        · obtain ⟨k, rfl⟩ : ∃ q, k = q + 1 := ⟨k - 1, by omega⟩
          exact fwdX u post k hu fun u' hu' => qX u' post hu' h k (by omega)
        · obtain ⟨k, rfl⟩ : ∃ q, k = q + 1 := ⟨k - 1, by omega⟩
          exact hon.2 v post k hv fun v' hv' => qY v' post hv' h k (by omega)
