/-! what a step of the machine keeps -/
theorem am_lc0 (k : Nat) (d : Bool) {x y : List Int32} (hx : x.length ≤ 16) (hy : y.length ≤ 16) : am_lc k d 0 x y [] :=
  ⟨Nat.zero_le _, hx, hy, Nat.zero_le _, fun _ h => absurd h (Nat.lt_irrefl 0), fun _ h => absurd h (Nat.lt_irrefl 0), fun _ h => absurd h (Nat.lt_irrefl 0)⟩
theorem am_lcn {k : Nat} {d : Bool} {p : Nat} {x y w : List Int32} (h1 : k ≠ 47) (h2 : k ≠ 92) (h3 : k ≠ 34) (hp : p ≤ 16) (hx : x.length ≤ 16) (hy : y.length ≤ 16) (hw : w.length ≤ 16) : am_lc k d p x y w :=
  ⟨hp, hx, hy, hw, fun h => absurd h h1, fun h => absurd h h2, fun h => absurd h h3⟩
theorem am_nxs (d : Bool) (p : Nat) : am_nx d (p + 1) = am_nx d p + 1 := by
  cases d <;> rfl
theorem am_nxp (d : Bool) (p : Nat) : p ≤ am_nx d p := by
  cases d
  · exact Nat.le_succ p
  · exact Nat.le_refl p
theorem am_rl {d : Bool} {p : Nat} {x y R : List Int32} (hx : x.length ≤ 16) (hy : y.length ≤ 16) (hR : 0 < p → R.length ≤ 16) : (am_r d p x y R).length ≤ 16 := by
  unfold am_r
  split
  · split
    · exact hx
    · rw [List.length_take]; omega
  · exact hR (by omega)
theorem am_pe {w w' x x' y y' : List Int32} {n n' : Nat} {d d' : Bool} (h : am_push w n d x y = am_push w' n' d' x' y') : w = w' ∧ n = n' ∧ d = d' ∧ x = x' ∧ y = y' := by
  have := Sum.inr.inj (Sum.inr.inj h)
  simp only [Prod.mk.injEq] at this
  exact this
theorem am_ne1 {e : Nat} {w x y : List Int32} {n : Nat} {d : Bool} : am_fail e ≠ am_push w n d x y := fun h => by cases h
theorem am_ne2 {v : List Int32} {w x y : List Int32} {n : Nat} {d : Bool} : am_pop v ≠ am_push w n d x y := fun h => by cases h
def am_pr (K F S T D : Nat → Nat) (n : Nat) (d : Bool) (p : Nat) (x y w' : List Int32) (n' : Nat) (d' : Bool) (x' y' : List Int32) : Prop :=
  n' < n ∧ am_lc (K n') d' 0 x' y' [] ∧ am_lc (K n) d (p + 1) x y w' ∧ am_rem K F S T D n (p + 1) + D n' + 1 ≤ am_rem K F S T D n p
theorem am_p_fork {K F S T C A D : Nat → Nat} {n : Nat} {d : Bool} {p : Nat} {x y w R w' x' y' : List Int32} {n' : Nat} {d' : Bool}
    (hn : nd_ok K F S T C A D n) (hk : K n = 1) (lc : am_lc (K n) d p x y w) (hR : 0 < p → R.length ≤ 16)
    (e : am_fork (F n) (S n) (T n) d p x y w R = am_push w' n' d' x' y') : am_pr K F S T D n d p x y w' n' d' x' y' := by
  obtain ⟨h1, h2, h3⟩ : F n < n ∧ S n < n ∧ T n < n := by
    rcases hn with ⟨h, -⟩ | ⟨h, -⟩ | ⟨h, -⟩ | ⟨-, a, b, c, -⟩ | ⟨h, -⟩
    · unfold pr_lf pr_vb pr_dig at h; omega
    · unfold pr_av at h; omega
    · omega
    · exact ⟨a, b, c⟩
    · omega
  obtain ⟨lp, lx, ly, lw, -⟩ := lc
  unfold am_fork at e
  by_cases p0 : p = 0
  · subst p0
    rw [if_pos rfl] at e
    obtain ⟨rfl, rfl, rfl, rfl, rfl⟩ := am_pe e
    refine ⟨h3, am_lc0 _ _ lx ly, am_lcn (by omega) (by omega) (by omega) (by omega) lx ly lw, ?_⟩
    simp only [am_rem, hk, if_true]
    simp; omega
  · rw [if_neg p0] at e
    by_cases p1 : p = 1
    · subst p1
      rw [if_pos rfl] at e
      obtain ⟨rfl, rfl, rfl, rfl, rfl⟩ := am_pe e
      refine ⟨h1, am_lc0 _ _ lx ly, am_lcn (by omega) (by omega) (by omega) (by omega) lx ly (hR (by omega)), ?_⟩
      simp only [am_rem, hk, if_true]
      simp; omega
    · rw [if_neg p1] at e
      by_cases p2 : p = 2
      · subst p2
        rw [if_pos rfl] at e
        obtain ⟨rfl, rfl, rfl, rfl, rfl⟩ := am_pe e
        refine ⟨h2, am_lc0 _ _ (hR (by omega)) lw, am_lcn (by omega) (by omega) (by omega) (by omega) lx ly lw, ?_⟩
        simp only [am_rem, hk, if_true]
        simp; omega
      · rw [if_neg p2] at e
        exact absurd e am_ne2
theorem am_fs {K F S T C A D : Nat → Nat} {n : Nat} (hn : nd_ok K F S T C A D n) (hk : K n = 2 ∨ K n = 64) : F n < n ∧ S n < n := by
  rcases hn with ⟨h, -⟩ | ⟨h, -⟩ | ⟨-, a, b, -⟩ | ⟨h, -⟩ | ⟨-, a, b, -⟩
  · unfold pr_lf pr_vb pr_dig at h; omega
  · unfold pr_av at h; omega
  · exact ⟨a, b⟩
  · omega
  · exact ⟨a, b⟩
theorem am_fa {K F S T C A D : Nat → Nat} {n : Nat} (hn : nd_ok K F S T C A D n) (hk : K n = 47 ∨ K n = 92 ∨ K n = 34) : F n < n := by
  rcases hn with ⟨h, -⟩ | ⟨-, a, -⟩ | ⟨h, -⟩ | ⟨h, -⟩ | ⟨h, -⟩
  · unfold pr_lf pr_vb pr_dig at h; omega
  · exact a
  · omega
  · omega
  · omega
theorem am_r2a {K F S T D : Nat → Nat} {n : Nat} (hk : K n = 2 ∨ K n = 64) : am_rem K F S T D n 0 = 3 + D (S n) + D (F n) ∧ am_rem K F S T D n 1 = 2 + D (F n) ∧ am_rem K F S T D n 2 = 1 := by
  have h1 : K n ≠ 1 := by omega
  simp [am_rem, h1, hk]
theorem am_rav {K F S T D : Nat → Nat} {n p : Nat} (hk : K n = 47 ∨ K n = 92 ∨ K n = 34) : am_rem K F S T D n p = (17 - p) * (1 + D (F n)) := by
  have h1 : K n ≠ 1 := by omega
  have h2 : ¬ (K n = 2 ∨ K n = 64) := by omega
  simp [am_rem, h1, h2, hk]
theorem am_p_hook {K F S T C A D : Nat → Nat} {n : Nat} {d : Bool} {p : Nat} {x y w R w' x' y' : List Int32} {n' : Nat} {d' : Bool}
    (hn : nd_ok K F S T C A D n) (hk : K n = 2) (lc : am_lc (K n) d p x y w) (hR : 0 < p → R.length ≤ 16)
    (e : am_hook (F n) (S n) d p x y w R = am_push w' n' d' x' y') : am_pr K F S T D n d p x y w' n' d' x' y' := by
  obtain ⟨h1, h2⟩ := am_fs hn (Or.inl hk)
  obtain ⟨r0, r1, r2⟩ := am_r2a (K := K) (F := F) (S := S) (T := T) (D := D) (n := n) (Or.inl hk)
  obtain ⟨lp, lx, ly, lw, -⟩ := lc
  unfold am_hook at e
  by_cases p0 : p = 0
  · subst p0
    rw [if_pos rfl] at e
    obtain ⟨rfl, rfl, rfl, rfl, rfl⟩ := am_pe e
    refine ⟨h2, am_lc0 _ _ (Nat.zero_le _) ly, am_lcn (by omega) (by omega) (by omega) (by omega) lx ly lw, ?_⟩
    rw [Nat.zero_add, r0, r1]; omega
  · rw [if_neg p0] at e
    by_cases p1 : p = 1
    · subst p1
      rw [if_pos rfl] at e
      obtain ⟨rfl, rfl, rfl, rfl, rfl⟩ := am_pe e
      refine ⟨h1, am_lc0 _ _ (by split <;> assumption) (hR (by omega)), am_lcn (by omega) (by omega) (by omega) (by omega) lx ly lw, ?_⟩
      show am_rem K F S T D n 2 + _ + 1 ≤ _
      rw [r1, r2]; omega
    · rw [if_neg p1] at e
      exact absurd e am_ne2
theorem am_p_atop {K F S T C A D : Nat → Nat} {n : Nat} {d : Bool} {p : Nat} {x y w R w' x' y' : List Int32} {n' : Nat} {d' : Bool}
    (hn : nd_ok K F S T C A D n) (hk : K n = 64) (lc : am_lc (K n) d p x y w) (hR : 0 < p → R.length ≤ 16)
    (e : am_atop (F n) (S n) d p x y w R = am_push w' n' d' x' y') : am_pr K F S T D n d p x y w' n' d' x' y' := by
  obtain ⟨h1, h2⟩ := am_fs hn (Or.inr hk)
  obtain ⟨r0, r1, r2⟩ := am_r2a (K := K) (F := F) (S := S) (T := T) (D := D) (n := n) (Or.inr hk)
  obtain ⟨lp, lx, ly, lw, -⟩ := lc
  unfold am_atop at e
  by_cases p0 : p = 0
  · subst p0
    rw [if_pos rfl] at e
    obtain ⟨rfl, rfl, rfl, rfl, rfl⟩ := am_pe e
    refine ⟨h2, am_lc0 _ _ lx ly, am_lcn (by omega) (by omega) (by omega) (by omega) lx ly lw, ?_⟩
    rw [Nat.zero_add, r0, r1]; omega
  · rw [if_neg p0] at e
    by_cases p1 : p = 1
    · subst p1
      rw [if_pos rfl] at e
      obtain ⟨rfl, rfl, rfl, rfl, rfl⟩ := am_pe e
      refine ⟨h1, am_lc0 _ _ (Nat.zero_le _) (hR (by omega)), am_lcn (by omega) (by omega) (by omega) (by omega) lx ly lw, ?_⟩
      show am_rem K F S T D n 2 + _ + 1 ≤ _
      rw [r1, r2]; omega
    · rw [if_neg p1] at e
      exact absurd e am_ne2
theorem am_p_red {K F S T C A D : Nat → Nat} {n : Nat} {d : Bool} {p : Nat} {x y w R w' x' y' : List Int32} {n' : Nat} {d' : Bool}
    (hn : nd_ok K F S T C A D n) (hk : K n = 47) (lc : am_lc (K n) d p x y w) (hR : 0 < p → R.length ≤ 16)
    (e : am_red (F n) d p x y w R = am_push w' n' d' x' y') : am_pr K F S T D n d p x y w' n' d' x' y' := by
  obtain ⟨lp, lx, ly, lw, -⟩ := lc
  unfold am_red at e
  split at e
  · exact absurd e am_ne1
  · split at e
    · rename_i hl
      obtain ⟨rfl, rfl, rfl, rfl, rfl⟩ := am_pe e
      have hp := am_nxp d p
      refine ⟨am_fa hn (Or.inl hk), am_lc0 _ _ (am_rl lx ly hR) (Nat.le_of_ble_eq_true rfl), ⟨by omega, lx, ly, lw, fun _ _ => ?_, fun h => ?_, fun h => ?_⟩, ?_⟩
      · rw [am_nxs]; omega
      · omega
      · omega
      · rw [am_rav (Or.inl hk), am_rav (Or.inl hk), am_av1 _ _ (by omega)]
        exact Nat.le_refl _
    · exact absurd e am_ne2
theorem am_p_scan {K F S T C A D : Nat → Nat} {n : Nat} {d : Bool} {p : Nat} {x y w R w' x' y' : List Int32} {n' : Nat} {d' : Bool}
    (hn : nd_ok K F S T C A D n) (hk : K n = 92) (lc : am_lc (K n) d p x y w) (hR : 0 < p → R.length ≤ 16)
    (e : am_scan (F n) d p x y w R = am_push w' n' d' x' y') : am_pr K F S T D n d p x y w' n' d' x' y' := by
  obtain ⟨lp, lx, ly, lw, -, l2, -⟩ := lc
  unfold am_scan at e
  split at e
  · exact absurd e am_ne1
  · rename_i hr
    split at e
    · rename_i hl
      obtain ⟨rfl, rfl, rfl, rfl, rfl⟩ := am_pe e
      have hp := am_nxp d p
      have hz : (am_z d p y w R).length + 1 = am_nx d (p + 1) := by
        unfold am_z
        by_cases p0 : p = 0
        · subst p0
          rw [if_pos rfl]
          cases d
          · have : 1 < y.length := hl
            simp [am_nx]; omega
          · rfl
        · rw [if_neg p0, List.length_append, am_nxs]
          have := (l2 hk (by omega)).2
          omega
      have hz2 := am_nxs d p
      refine ⟨am_fa hn (Or.inr (Or.inl hk)), am_lc0 _ _ (am_rl lx ly hR) (Nat.le_of_ble_eq_true rfl), ⟨by omega, lx, ly, by omega, fun h => ?_, fun _ _ => ⟨?_, hz⟩, fun h => ?_⟩, ?_⟩
      · omega
      · omega
      · omega
      · rw [am_rav (Or.inr (Or.inl hk)), am_rav (Or.inr (Or.inl hk)), am_av1 _ _ (by omega)]
        exact Nat.le_refl _
    · exact absurd e am_ne2
theorem am_p_each {K F S T C A D : Nat → Nat} {n : Nat} {d : Bool} {p : Nat} {x y w R w' x' y' : List Int32} {n' : Nat} {d' : Bool}
    (hn : nd_ok K F S T C A D n) (hk : K n = 34) (lc : am_lc (K n) d p x y w)
    (e : am_each (F n) d p x y w R = am_push w' n' d' x' y') : am_pr K F S T D n d p x y w' n' d' x' y' := by
  obtain ⟨lp, lx, ly, lw, -, -, l3⟩ := lc
  unfold am_each at e
  split at e
  · exact absurd e am_ne1
  · rename_i q hq
    have hq16 : q ≤ 16 := by
      unfold am_cnt at hq
      split at hq
      · exact pr_cnt_le hq lx ly
      · cases hq; exact ly
    split at e
    · exact absurd e am_ne1
    · rename_i hr
      split at e
      · rename_i hl
        obtain ⟨rfl, rfl, rfl, rfl, rfl⟩ := am_pe e
        have hz : (am_ze p w R).length + 1 = p + 1 := by
          unfold am_ze
          by_cases p0 : p = 0
          · rw [if_pos p0, p0]; rfl
          · rw [if_neg p0, List.length_append]
            have := (l3 hk (by omega)).1
            omega
        refine ⟨am_fa hn (Or.inr (Or.inr hk)), am_lc0 _ _ (by split <;> exact Nat.le_of_ble_eq_true rfl) (Nat.le_of_ble_eq_true rfl), ⟨by omega, lx, ly, by omega, fun h => ?_, fun h => ?_, fun _ _ => ⟨hz, q, hq, by omega⟩⟩, ?_⟩
        · omega
        · omega
        · rw [am_rav (Or.inr (Or.inr hk)), am_rav (Or.inr (Or.inr hk)), am_av1 _ _ (by omega)]
          exact Nat.le_refl _
      · exact absurd e am_ne2
theorem am_p_leaf {lim k : Nat} {d : Bool} {x y w' x' y' : List Int32} {n' : Nat} {d' : Bool} : am_leaf lim k d x y ≠ am_push w' n' d' x' y' := by
  unfold am_leaf am_dy
  split
  · exact am_ne2
  · split
    · split
      · exact am_ne2
      · exact am_ne1
    · exact am_ne2
theorem am_p {lim : Nat} {K F S T C A D : Nat → Nat} {n : Nat} {d : Bool} {p : Nat} {x y w R w' x' y' : List Int32} {n' : Nat} {d' : Bool}
    (hn : nd_ok K F S T C A D n) (lc : am_lc (K n) d p x y w) (hR : 0 < p → R.length ≤ 16)
    (e : am_act lim K F S T n d p x y w R = am_push w' n' d' x' y') : am_pr K F S T D n d p x y w' n' d' x' y' := by
  unfold am_act at e
  split at e
  · exact am_p_fork hn ‹_› lc hR e
  · split at e
    · exact am_p_hook hn ‹_› lc hR e
    · split at e
      · exact am_p_atop hn ‹_› lc hR e
      · split at e
        · exact am_p_red hn ‹_› lc hR e
        · split at e
          · exact am_p_scan hn ‹_› lc hR e
          · split at e
            · exact am_p_each hn ‹_› lc e
            · exact absurd e am_p_leaf
theorem pr_cp_c (lim : Nat) (x y : List Int32) : ∀ r i acc, (pr_cp lim x y r i acc).1 ≤ 3
  | 0, _, _ => Nat.zero_le _
  | r + 1, i, acc => by
    unfold pr_cp
    split
    · exact Nat.le_of_ble_eq_true rfl
    · split
      · exact Nat.le_of_ble_eq_true rfl
      · exact pr_cp_c lim x y r _ _
theorem pr_D_c (lim k : Nat) (x y : List Int32) : (pr_D lim k x y).1 ≤ 3 := by
  unfold pr_D
  split
  · exact Nat.zero_le _
  · split
    · exact Nat.zero_le _
    · split
      · split
        · exact Nat.le_of_ble_eq_true rfl
        · exact pr_cp_c _ _ _ _ _ _
      · split
        · split
          · exact Nat.le_of_ble_eq_true rfl
          · exact Nat.zero_le _
        · split
          · split
            · exact Nat.le_of_ble_eq_true rfl
            · exact Nat.zero_le _
          · split
            · exact Nat.le_of_ble_eq_true rfl
            · exact Nat.zero_le _
theorem am_fl {e e' : Nat} (h : am_fail e = am_fail e') : e = e' := Sum.inl.inj h
def am_fe (o : am_O) : Prop := ∀ e, o = am_fail e → e ≠ 0 ∧ e ≤ 3
theorem am_fe1 : am_fe (am_fail 1) := fun e h => by have := am_fl h; omega
theorem am_fe2 (v : List Int32) : am_fe (am_pop v) := fun e h => by cases h
theorem am_fe3 (w x y : List Int32) (n : Nat) (d : Bool) : am_fe (am_push w n d x y) := fun e h => by cases h
theorem am_f {lim : Nat} {K F S T : Nat → Nat} {n : Nat} {d : Bool} {p : Nat} {x y w R : List Int32} : am_fe (am_act lim K F S T n d p x y w R) := by
  unfold am_act am_fork am_hook am_atop am_red am_scan am_each am_leaf am_dy
  have hc := pr_D_c lim (K n) x y
  repeat' split
  all_goals first | exact am_fe1 | exact am_fe2 _ | exact am_fe3 _ _ _ _ _ | exact fun e h => by have := am_fl h; omega
theorem pr_cpq {v : Int32} {b : Nat} (hb : b ≤ 16) (h1 : ¬ v < 0) (h2 : ¬ nI b < v) : ∃ q, q ≤ b ∧ v = nI q ∧ v.toNatClampNeg = q := by
  obtain ⟨j, hj, rfl⟩ := nI_of h1
  rw [nI_ltI (by omega) hj] at h2
  exact ⟨j, by omega, rfl, nI_clamp hj⟩
theorem pr_cp_l {lim : Nat} (hl : lim ≤ 16) (x y : List Int32) : ∀ r i acc, acc.length ≤ lim → (pr_cp lim x y r i acc).2.length ≤ 16
  | 0, _, acc, h => by show acc.length ≤ 16; omega
  | r + 1, i, acc, h => by
    unfold pr_cp
    split
    · exact Nat.zero_le _
    · rename_i h1
      split
      · exact Nat.zero_le _
      · rename_i h2
        obtain ⟨q, hq, -, e⟩ := pr_cpq (by omega) h1 h2
        apply pr_cp_l hl x y r
        rw [List.length_append, List.length_replicate, e]
        omega
theorem pr_D_l {lim : Nat} (hl : lim ≤ 16) (k : Nat) {x y : List Int32} (hx : x.length ≤ 16) (hy : y.length ≤ 16) : (pr_D lim k x y).2.length ≤ 16 := by
  unfold pr_D
  split
  · exact hx
  · split
    · exact hy
    · split
      · split
        · exact Nat.zero_le _
        · exact pr_cp_l hl _ _ _ _ _ (Nat.zero_le _)
      · split
        · split
          · exact Nat.zero_le _
          · show (x ++ y).length ≤ 16
            rw [List.length_append]; omega
        · split
          · split
            · exact Nat.zero_le _
            · show (pr_rot x y).length ≤ 16
              unfold pr_rot
              rw [ve_ml]; exact hy
          · split
            · exact Nat.zero_le _
            · rename_i q hq
              show ((List.range q).map _).length ≤ 16
              rw [ve_ml]; exact pr_cnt_le hq hx hy
theorem pr_M_l (k : Nat) {y : List Int32} (hy : y.length ≤ 16) : (pr_M k y).length ≤ 16 := by
  unfold pr_M
  split
  · exact hy
  · split
    · exact Nat.le_of_ble_eq_true rfl
    · split
      · rw [ve_ml]; exact hy
      · rw [ve_ml]; exact hy
def am_pl16 (o : am_O) : Prop := ∀ v, o = am_pop v → v.length ≤ 16
theorem am_po {v : List Int32} (h : v.length ≤ 16) : am_pl16 (am_pop v) := fun z e => by
  have := Sum.inl.inj (Sum.inr.inj e)
  rw [← this]; exact h
theorem am_po1 (e : Nat) : am_pl16 (am_fail e) := fun z h => by cases h
theorem am_po2 (w x y : List Int32) (n : Nat) (d : Bool) : am_pl16 (am_push w n d x y) := fun z h => by cases h
theorem am_q {lim : Nat} {K F S T : Nat → Nat} {n : Nat} {d : Bool} {p : Nat} {x y w R : List Int32} (hl : lim ≤ 16)
    (lc : am_lc (K n) d p x y w) (hR : 0 < p → R.length ≤ 16) : am_pl16 (am_act lim K F S T n d p x y w R) := by
  obtain ⟨lp, lx, ly, lw, l1, l2, l3⟩ := lc
  unfold am_act
  split
  · unfold am_fork
    repeat' split
    all_goals first | exact am_po2 _ _ _ _ _ | exact am_po (hR (by omega))
  · split
    · unfold am_hook
      repeat' split
      all_goals first | exact am_po2 _ _ _ _ _ | exact am_po (hR (by omega))
    · split
      · unfold am_atop
        repeat' split
        all_goals first | exact am_po2 _ _ _ _ _ | exact am_po (hR (by omega))
      · split
        · unfold am_red
          split
          · exact am_po1 _
          · split
            · exact am_po2 _ _ _ _ _
            · exact am_po (am_rl lx ly hR)
        · split
          · rename_i hk
            unfold am_scan
            split
            · exact am_po1 _
            · rename_i hr
              split
              · exact am_po2 _ _ _ _ _
              · refine am_po ?_
                unfold am_z
                split
                · split
                  · exact Nat.zero_le _
                  · rw [List.length_take]; omega
                · have := l2 hk (by omega)
                  rw [List.length_append]; omega
          · split
            · rename_i hk
              unfold am_each
              split
              · exact am_po1 _
              · split
                · exact am_po1 _
                · rename_i hr
                  split
                  · exact am_po2 _ _ _ _ _
                  · refine am_po ?_
                    unfold am_ze
                    split
                    · exact Nat.zero_le _
                    · have := (l3 hk (by omega)).1
                      rw [List.length_append]; omega
            · unfold am_leaf am_dy
              split
              · exact am_po (Nat.le_of_ble_eq_true rfl)
              · split
                · split
                  · exact am_po (pr_D_l hl _ lx ly)
                  · exact am_po1 _
                · exact am_po (pr_M_l _ ly)
