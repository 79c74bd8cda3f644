/-! every character; the whole text -/
theorem rc_w {ws : Nat → Int32} {W : Nat → Nat} {m p : Nat} (hw : ∀ j, j < m → ws j = nI (W j)) : ∀ j, j < m + 1 → upd ws m (nI p) j = nI (tr_u W m p j) := by
  intro j hj
  by_cases z : j = m
  · subst z; rw [tr_us]; exact pk_us
  · rw [tr_un z, pk_un z]; exact hw j (by omega)
theorem rd_char {f_vectorLimit f_textCount f_trainHeld f_rootNode f_canonCount f_postponedCount f_frameCount f_failure f_lastStatus : Int32} {a_text a_canon a_postponed a_cells a_lengths a_frameNode a_frameDyadic a_frameX a_frameY a_framePhase : Nat → Int32} {g_lim g_tlen g_held g_root g_clen g_xn g_yn g_rn g_stat g_sp g_err : Int32} {b_text b_canon b_xs b_ys b_res b_cst b_fnode b_fmode b_fph b_fi b_vec b_vlen : Nat → Int32} {i c t : Nat} {N wc G adc : Nat} {K F S T C A D W B : Nat → Nat} {P : Nat → Bool} (hS : rd_S i N wc G adc K F S T C A D W B P) (hi : i < t) (ht : t ≤ 32) (htl : g_tlen = nI t) (htx : b_text i = nI c) (hal : rp_al c) : rp_fail f_vectorLimit f_textCount f_trainHeld f_rootNode f_canonCount f_postponedCount f_frameCount f_failure f_lastStatus a_text a_canon a_postponed a_cells a_lengths a_frameNode a_frameDyadic a_frameX a_frameY a_framePhase g_lim g_tlen g_held g_root g_clen g_xn g_yn g_rn g_stat g_sp g_err b_text b_canon b_xs b_ys b_res b_cst b_fnode b_fmode b_fph b_fi b_vec b_vlen i c N wc G adc K F S T W B P ∨
    ∃ (N' wc' G' adc' : Nat) (K' F' S' T' C' A' D' W' B' : Nat → Nat) (P' : Nat → Bool), rd_S (i + 1) N' wc' G' adc' K' F' S' T' C' A' D' W' B' P' ∧ (B 0 = 0 → B' 0 = 0) ∧ rp_on f_vectorLimit f_textCount f_trainHeld f_rootNode f_canonCount f_postponedCount f_frameCount f_failure f_lastStatus a_text a_canon a_postponed a_cells a_lengths a_frameNode a_frameDyadic a_frameX a_frameY a_framePhase g_lim g_tlen g_held g_root g_clen g_xn g_yn g_rn g_stat g_sp g_err b_text b_canon b_xs b_ys b_res b_cst b_fnode b_fmode b_fph b_fi b_vec b_vlen i c N wc G adc K F S T W B P N' wc' G' adc' K' F' S' T' W' B' P' := by
  have hS' := hS
  obtain ⟨⟨w1, w2, w3, w4, w5⟩, ⟨g1, g2, g3⟩, a1, a2, a3⟩ := hS'
  have cb := rp_alb hal
  by_cases lf : pr_lf c
  · cases hp : P G with
    | false => exact Or.inr ⟨_, _, _, _, _, _, _, _, _, _, _, _, _, _, rd_leaf1 c lf hS, id, rc_leaf1 hS hi ht htl htx lf hp⟩
    | true =>
      have hb := g2 hp
      obtain ⟨m, rfl⟩ : ∃ m, wc = m + 1 := ⟨wc - 1, by omega⟩
      obtain ⟨C', A', D', q⟩ := rd_leaf2 c lf hS
      exact Or.inr ⟨_, _, _, _, _, _, _, _, _, _, _, _, _, _, q, id, rc_leaf2 hS hi ht htl htx rfl lf hp⟩
  · by_cases c40 : c = 40
    · exact Or.inr ⟨_, _, _, _, _, _, _, _, _, _, _, _, _, _, rd_open hS, fun z => by rw [tr_un (by omega)]; exact z, rc_open hS hi ht htl htx c40⟩
    · by_cases wh : B G < wc ∧ P G = false
      · obtain ⟨hb, hp⟩ := wh
        by_cases c64 : c = 64
        · exact Or.inr ⟨_, _, _, _, _, _, _, _, _, _, _, _, _, _, rd_wait hS hb, id, rc_wait hS hi ht htl htx c64 hb hp⟩
        · obtain ⟨m, rfl⟩ : ∃ m, wc = m + 1 := ⟨wc - 1, by omega⟩
          by_cases c41 : c = 41
          · subst c41
            cases G with
            | zero => exact Or.inl (rc_bad0 hS hi ht htl htx rfl rfl)
            | succ G0 =>
              obtain ⟨N', t', K', F', S', T', C', A', D', hR, hX, hY⟩ := tr_train w1 w2 (lo := B (G0 + 1)) (by omega) (by omega) (by omega)
              have gg := g3 G0 (by omega)
              have hRR := hR
              obtain ⟨r1, r2, r3, r4, r5, r6, r7⟩ := hRR
              cases hp0 : P G0 with
              | false =>
                refine Or.inr ⟨N', B (G0 + 1) + 1, G0, adc, K', F', S', T', C', A', D', tr_u W (B (G0 + 1)) t', B, P, rd_close1 hS hb hR, id, rc_cl (lo := B (G0 + 1)) rfl hS hi ht htl htx rfl rfl hb hp hX hY (fun f o post hT hw hg h => ?_) (fun f pd post hT hw hg h => ?_)⟩
                · rw [hp0]
                  exact xn_plain (by omega) (h _ (rp_Xi rfl rfl rfl (by rw [hp0]; rfl) rfl rfl hT (rc_w hw) hg))
                · exact yn_plain (by omega) (by omega) (by rw [(hg G0 (Nat.le_refl _)).2, hp0]; rfl) (h _ (rp_Yi rfl rfl rfl hT (rc_w hw) hg))
              | true =>
                have hb0 := gg.2 hp0
                obtain ⟨m0, hm0⟩ : ∃ m0, B (G0 + 1) = m0 + 1 := ⟨B (G0 + 1) - 1, by omega⟩
                obtain ⟨C2, A2, D2, q⟩ := rd_close2 hS hb hm0 hR
                refine Or.inr ⟨N' + 1, m0 + 1, G0, adc, _, _, _, _, C2, A2, D2, _, B, _, q, id, rc_cl (lo := B (G0 + 1)) rfl hS hi ht htl htx rfl rfl hb hp hX hY (fun f o post hT hw hg h => ?_) (fun f pd post hT hw hg h => ?_)⟩
                · rw [hm0] at hw ⊢
                  rw [hp0]
                  refine xn_atop (by omega) (by omega) (hw m0 (by omega)) (h _ (rp_Xi rfl rfl rfl (by rw [rd_ps]; rfl) rfl rfl (tr_Xu hT 64 (W m0) t' 0) (rc_w fun j hj => hw j (by omega)) fun j hj => ?_))
                  rw [rd_pn (by omega)]; exact hg j hj
                · rw [hm0] at hw ⊢
                  refine yn_atop (by omega) (by omega) (by omega) (by rw [(hg G0 (Nat.le_refl _)).2, hp0]; rfl) (hw m0 (by omega)) (h _ (rp_Yi rfl rfl rfl (tr_Yu hT 64 (W m0) t' 0) (rc_w fun j hj => hw j (by omega)) fun j hj => ?_))
                  by_cases z : j = G0
                  · subst z; rw [rd_ps]; exact ⟨(hg j hj).1, pk_us⟩
                  · rw [rd_pn z, pk_un z]; exact hg j hj
          · have av : pr_av c := by
              rcases hal with q | q | q | q | q
              · exact absurd q lf
              · exact q
              · exact absurd q c64
              · exact absurd q c40
              · exact absurd q c41
            exact Or.inr ⟨_, _, _, _, _, _, _, _, _, _, _, _, _, _, rd_adv c av hS, id, rc_adv hS hi ht htl htx rfl av hb hp⟩
      · exact Or.inl (rc_bad hS hi ht htl htx cb lf c40 wh)
theorem rd_loop {f_vectorLimit f_textCount f_trainHeld f_rootNode f_canonCount f_postponedCount f_frameCount f_failure f_lastStatus : Int32} {a_text a_canon a_postponed a_cells a_lengths a_frameNode a_frameDyadic a_frameX a_frameY a_framePhase : Nat → Int32} {g_lim g_tlen g_held g_root g_clen g_xn g_yn g_rn g_stat g_sp g_err : Int32} {b_text b_canon b_xs b_ys b_res b_cst b_fnode b_fmode b_fph b_fi b_vec b_vlen : Nat → Int32} {t : Nat} (ht : t ≤ 32) (hfl : f_textCount = nI t) (htl : g_tlen = nI t) (htx : ∀ j, j < t → ∃ c, rp_al c ∧ a_text j = nI c ∧ b_text j = nI c) :
    ∀ (d i : Nat) (N wc G adc : Nat) (K F S T C A D W B : Nat → Nat) (P : Nat → Bool), i + d = t → rd_S i N wc G adc K F S T C A D W B P → B 0 = 0 →
    ((∀ (u : SX) (post : Int32 → SX → Prop), rp_X f_vectorLimit f_textCount f_trainHeld f_rootNode f_canonCount f_postponedCount f_frameCount f_failure f_lastStatus a_text a_canon a_postponed a_cells a_lengths a_frameNode a_frameDyadic a_frameX a_frameY a_framePhase N wc G adc K F S T W B P u → (∀ u', rp_QX f_vectorLimit f_textCount f_trainHeld f_rootNode f_canonCount f_postponedCount f_frameCount f_failure f_lastStatus a_text a_canon a_postponed a_cells a_lengths a_frameNode a_frameDyadic a_frameX a_frameY a_framePhase u' → post 0 u') → ∀ k, d < k → xp_W post k i u) ∧
      (∀ (v : SY) (post : Int32 → SY → Prop), rp_Y g_lim g_tlen g_held g_root g_clen g_xn g_yn g_rn g_stat g_sp g_err b_text b_canon b_xs b_ys b_res b_cst b_fnode b_fmode b_fph b_fi b_vec b_vlen N wc G adc K F S T W B P v → (∀ v', rp_QY g_lim g_tlen g_held g_root g_clen g_xn g_yn g_rn g_stat g_sp g_err b_text b_canon b_xs b_ys b_res b_cst b_fnode b_fmode b_fph b_fi b_vec b_vlen v' → post 0 v') → ∀ k, d < k → yp_W post k adc i v)) ∨
    ∃ (N' wc' G' adc' : Nat) (K' F' S' T' C' A' D' W' B' : Nat → Nat) (P' : Nat → Bool), rd_S t N' wc' G' adc' K' F' S' T' C' A' D' W' B' P' ∧ B' 0 = 0 ∧
      (∀ (u : SX) (post : Int32 → SX → Prop), rp_X f_vectorLimit f_textCount f_trainHeld f_rootNode f_canonCount f_postponedCount f_frameCount f_failure f_lastStatus a_text a_canon a_postponed a_cells a_lengths a_frameNode a_frameDyadic a_frameX a_frameY a_framePhase N wc G adc K F S T W B P u → (∀ u' k, rp_X f_vectorLimit f_textCount f_trainHeld f_rootNode f_canonCount f_postponedCount f_frameCount f_failure f_lastStatus a_text a_canon a_postponed a_cells a_lengths a_frameNode a_frameDyadic a_frameX a_frameY a_framePhase N' wc' G' adc' K' F' S' T' W' B' P' u' → xp_W post (k + 1) t u') → ∀ k, d < k → xp_W post k i u) ∧
      (∀ (v : SY) (post : Int32 → SY → Prop), rp_Y g_lim g_tlen g_held g_root g_clen g_xn g_yn g_rn g_stat g_sp g_err b_text b_canon b_xs b_ys b_res b_cst b_fnode b_fmode b_fph b_fi b_vec b_vlen N wc G adc K F S T W B P v → (∀ v' k, rp_Y g_lim g_tlen g_held g_root g_clen g_xn g_yn g_rn g_stat g_sp g_err b_text b_canon b_xs b_ys b_res b_cst b_fnode b_fmode b_fph b_fi b_vec b_vlen N' wc' G' adc' K' F' S' T' W' B' P' v' → yp_W post (k + 1) adc' t v') → ∀ k, d < k → yp_W post k adc i v) := by
  intro d
  induction d with
  | zero =>
    intro i N wc G adc K F S T C A D W B P hid hS hB
    have e : i = t := by omega
    subst e
    refine Or.inr ⟨_, _, _, _, _, _, _, _, _, _, _, _, _, _, hS, hB, fun u post hu h k hk => ?_, fun v post hv h k hk => ?_⟩
    · obtain ⟨k, rfl⟩ : ∃ q, k = q + 1 := ⟨k - 1, by omega⟩
      exact h u k hu
    · obtain ⟨k, rfl⟩ : ∃ q, k = q + 1 := ⟨k - 1, by omega⟩
      exact h v k hv
  | succ d ih =>
    intro i N wc G adc K F S T C A D W B P hid hS hB
    obtain ⟨c, hal, ax, ay⟩ := htx i (by omega)
    have e1 : (nI i).toNatClampNeg = i := nI_clamp (by omega)
    have stepX : ∀ (u : SX) (post : Int32 → SX → Prop) (k : Nat), rp_X f_vectorLimit f_textCount f_trainHeld f_rootNode f_canonCount f_postponedCount f_frameCount f_failure f_lastStatus a_text a_canon a_postponed a_cells a_lengths a_frameNode a_frameDyadic a_frameX a_frameY a_framePhase N wc G adc K F S T W B P u → wpX_readChar (fun r u' => (r = 0 → post 0 u') ∧ (¬ r = 0 → xp_W post k (i + 1) u')) u (nI c) → xp_W post (k + 1) i u := by
      intro u post k hu hr
      obtain ⟨kx, fx, sx, tx, ws, f, o, rfl, hT, hw, hg⟩ := hu
      rw [hfl] at hr ⊢
      refine br_f (nI_ge (by omega) (by omega)) ⟨vp_in_nI (by omega) (by omega), ?_⟩
      rw [e1, ax]
      have mono : ∀ (u0 : SX) (p0 : Int32) (q1 q2 : Int32 → SX → Prop), (∀ r u', q1 r u' → q2 r u') → wpX_readChar q1 u0 p0 → wpX_readChar q2 u0 p0 := sorry
      refine mono _ _ _ _ (fun r u' hq => ?_) hr
      exact ⟨fun z => hq.1 z, fun z => nm_r (nI_1 i) (hq.2 z)⟩
    sorry
