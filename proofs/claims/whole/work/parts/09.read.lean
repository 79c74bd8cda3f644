/-! reading: ghosts of words and groups -/
def rd_pu (P : Nat → Bool) (k : Nat) (v : Bool) : Nat → Bool := fun j => if j = k then v else P j
theorem rd_ps {P : Nat → Bool} {k : Nat} {v : Bool} : rd_pu P k v k = v := if_pos rfl
theorem rd_pn {P : Nat → Bool} {k : Nat} {v : Bool} {j : Nat} (h : j ≠ k) : rd_pu P k v j = P j := if_neg h
def rd_G (wc G : Nat) (B : Nat → Nat) (P : Nat → Bool) : Prop :=
  B G ≤ wc ∧ (P G = true → B G < wc) ∧ ∀ j, j < G → B j ≤ B (j + 1) ∧ (P j = true → B j < B (j + 1))
def rd_W (b N wc adc : Nat) (K F S T C A D W : Nat → Nat) : Prop :=
  tr_ok N K F S T C A D ∧ (∀ j, j < wc → W j < N) ∧ N + wc ≤ b ∧ tr_sm C W wc + wc ≤ b ∧ tr_sm A W wc ≤ adc
def rd_S (i N wc G adc : Nat) (K F S T C A D W B : Nat → Nat) (P : Nat → Bool) : Prop :=
  rd_W (2 * i) N wc adc K F S T C A D W ∧ rd_G wc G B P ∧ wc ≤ i ∧ G ≤ i ∧ adc ≤ i
theorem tr_smu {g W : Nat → Nat} {m p : Nat} : tr_sm g (tr_u W m p) (m + 1) = tr_sm g W m + g p := by
  show tr_sm g (tr_u W m p) m + g (tr_u W m p m) = _
  rw [tr_us, tr_sme m (g := g) (W := W) (fun j hj => by rw [tr_un (by omega)])]
theorem tr_smn {g W : Nat → Nat} {m N v : Nat} (h : ∀ j, j < m → W j < N) : tr_sm (tr_u g N v) W m = tr_sm g W m :=
  tr_sme m fun j hj => tr_un (by have := h j hj; omega)
theorem tr_smr {g W : Nat → Nat} {m N v : Nat} (h : ∀ j, j < m → W j < N) : tr_sm (tr_u g N v) (tr_u W m N) (m + 1) = tr_sm g W m + v := by
  rw [tr_smu, tr_us, tr_smn h]
theorem tr_sm1 {g W : Nat → Nat} {m : Nat} : tr_sm g W (m + 1) = tr_sm g W m + g (W m) := rfl
theorem nd_prle (k : Nat) : nd_pr k ≤ 2 := by
  unfold nd_pr; split <;> omega
/-- a primary comes to the words: as a word -/
theorem rd_plain {b N wc adc p : Nat} {K F S T C A D W : Nat → Nat} (h : tr_ok N K F S T C A D) (hw : ∀ j, j < wc → W j < N) (hp : p < N)
    (hN : N + wc + 1 ≤ b) (hC : tr_sm C W wc + wc + C p + 1 ≤ b) (hA : tr_sm A W wc + A p ≤ adc) :
    rd_W b N (wc + 1) adc K F S T C A D (tr_u W wc p) := by
  refine ⟨h, fun j hj => ?_, by omega, by rw [tr_smu]; omega, by rw [tr_smu]; omega⟩
  by_cases e : j = wc
  · rw [e, tr_us]; exact hp
  · rw [tr_un e]; exact hw j (by omega)
/-- a primary comes to the words: under an atop -/
theorem rd_atop {b N m adc p : Nat} {K F S T C A D W : Nat → Nat} (h : tr_ok N K F S T C A D) (hw : ∀ j, j < m + 1 → W j < N) (hp : p < N)
    (hN : N + (m + 1) + 1 ≤ b) (hC : tr_sm C W (m + 1) + (m + 1) + C p + 1 + nd_pr (K p) ≤ b) (hA : tr_sm A W (m + 1) + A p ≤ adc) :
    rd_W b (N + 1) (m + 1) adc (tr_u K N 64) (tr_u F N (W m)) (tr_u S N p) (tr_u T N 0) (tr_u C N (1 + nd_pr (K p) + C (W m) + C p)) (tr_u A N (A (W m) + A p)) (tr_u D N (3 + D p + D (W m))) (tr_u W m N) := by
  rw [tr_sm1] at hC hA
  refine ⟨tr_at h (W m) p (hw m (by omega)) hp, fun j hj => ?_, by omega, ?_, ?_⟩
  · by_cases e : j = m
    · rw [e, tr_us]; omega
    · rw [tr_un e]; have := hw j (by omega); omega
  · rw [tr_smr (fun j hj => hw j (by omega))]; omega
  · rw [tr_smr (fun j hj => hw j (by omega))]; omega
theorem rd_Gp {wc wc' G : Nat} {B : Nat → Nat} {P : Nat → Bool} (h : rd_G wc G B P) (hw : wc ≤ wc') : rd_G wc' G B P :=
  ⟨by have := h.1; omega, fun hp => by have := h.2.1 hp; omega, h.2.2⟩
theorem rd_Gat {wc G : Nat} {B : Nat → Nat} {P : Nat → Bool} (h : rd_G wc G B P) (v : Bool) (hv : v = true → B G < wc) : rd_G wc G B (rd_pu P G v) := by
  refine ⟨h.1, fun hp => hv (by rw [rd_ps] at hp; exact hp), fun j hj => ?_⟩
  rw [rd_pn (by omega)]
  exact h.2.2 j hj
theorem rd_open {i N wc G adc : Nat} {K F S T C A D W B : Nat → Nat} {P : Nat → Bool} (h : rd_S i N wc G adc K F S T C A D W B P) :
    rd_S (i + 1) N wc (G + 1) adc K F S T C A D W (tr_u B (G + 1) wc) (rd_pu P (G + 1) false) := by
  obtain ⟨⟨w1, w2, w3, w4, w5⟩, ⟨g1, g2, g3⟩, a1, a2, a3⟩ := h
  refine ⟨⟨w1, w2, by omega, by omega, w5⟩, ⟨by rw [tr_us]; exact Nat.le_refl _, fun hp => (by rw [rd_ps] at hp; cases hp), fun j hj => ?_⟩, by omega, by omega, by omega⟩
  rw [rd_pn (by omega), tr_un (by omega : j ≠ G + 1)]
  by_cases e : j = G
  · subst e
    rw [tr_us]
    exact ⟨g1, g2⟩
  · rw [tr_un (by omega : j + 1 ≠ G + 1)]
    exact g3 j (by omega)
theorem rd_wait {i N wc G adc : Nat} {K F S T C A D W B : Nat → Nat} {P : Nat → Bool} (h : rd_S i N wc G adc K F S T C A D W B P) (hb : B G < wc) :
    rd_S (i + 1) N wc G adc K F S T C A D W B (rd_pu P G true) := by
  obtain ⟨⟨w1, w2, w3, w4, w5⟩, g, a1, a2, a3⟩ := h
  exact ⟨⟨w1, w2, by omega, by omega, w5⟩, rd_Gat g true fun _ => hb, by omega, by omega, by omega⟩
theorem rd_adv {i N m G adc : Nat} {K F S T C A D W B : Nat → Nat} {P : Nat → Bool} (k : Nat) (hk : pr_av k) (h : rd_S i N (m + 1) G adc K F S T C A D W B P) :
    rd_S (i + 1) (N + 1) (m + 1) G (adc + 1) (tr_u K N k) (tr_u F N (W m)) (tr_u S N 0) (tr_u T N 0) (tr_u C N (1 + C (W m))) (tr_u A N (1 + A (W m))) (tr_u D N (17 * (1 + D (W m)))) (tr_u W m N) B P := by
  obtain ⟨⟨w1, w2, w3, w4, w5⟩, g, a1, a2, a3⟩ := h
  rw [tr_sm1] at w4 w5
  refine ⟨⟨tr_av w1 k (W m) hk (w2 m (by omega)), fun j hj => ?_, by omega, ?_, ?_⟩, g, by omega, by omega, by omega⟩
  · by_cases e : j = m
    · rw [e, tr_us]; omega
    · rw [tr_un e]; have := w2 j (by omega); omega
  · rw [tr_smr (fun j hj => w2 j (by omega))]; omega
  · rw [tr_smr (fun j hj => w2 j (by omega))]; omega
theorem nd_pr0 {k : Nat} (h : pr_lf k) : nd_pr k = 0 := by
  unfold pr_lf pr_vb pr_dig at h
  unfold nd_pr
  rw [if_neg (by omega)]
theorem rd_leaf1 {i N wc G adc : Nat} {K F S T C A D W B : Nat → Nat} {P : Nat → Bool} (k : Nat) (hk : pr_lf k) (h : rd_S i N wc G adc K F S T C A D W B P) :
    rd_S (i + 1) (N + 1) (wc + 1) G adc (tr_u K N k) (tr_u F N 0) (tr_u S N 0) (tr_u T N 0) (tr_u C N 1) (tr_u A N 0) (tr_u D N 1) (tr_u W wc N) B P := by
  obtain ⟨⟨w1, w2, w3, w4, w5⟩, g, a1, a2, a3⟩ := h
  refine ⟨rd_plain (tr_lf w1 k hk) (fun j hj => by have := w2 j hj; omega) (by omega) (by omega) ?_ ?_, rd_Gp g (by omega), by omega, by omega, by omega⟩
  · rw [tr_smn w2, tr_us]; omega
  · rw [tr_smn w2, tr_us]; omega
theorem rd_leaf2 {i N m G adc : Nat} {K F S T C A D W B : Nat → Nat} {P : Nat → Bool} (k : Nat) (hk : pr_lf k) (h : rd_S i N (m + 1) G adc K F S T C A D W B P) :
    ∃ C' A' D', rd_S (i + 1) (N + 2) (m + 1) G adc (tr_u (tr_u K N k) (N + 1) 64) (tr_u (tr_u F N 0) (N + 1) (W m)) (tr_u (tr_u S N 0) (N + 1) N) (tr_u (tr_u T N 0) (N + 1) 0) C' A' D' (tr_u W m (N + 1)) B (rd_pu P G false) := by
  obtain ⟨⟨w1, w2, w3, w4, w5⟩, g, a1, a2, a3⟩ := h
  have q := rd_atop (b := 2 * (i + 1)) (adc := adc) (p := N) (W := W) (tr_lf w1 k hk) (fun j hj => by have := w2 j hj; omega) (by omega) (by omega)
    (by rw [tr_smn w2, tr_us, tr_us, nd_pr0 hk]; omega) (by rw [tr_smn w2, tr_us]; omega)
  exact ⟨_, _, _, q, rd_Gat g false (fun h => by cases h), by omega, by omega, by omega⟩
/-! trains: e forks made, m words left -/
def rd_T (N0 wc lo m e sC sA N : Nat) (K F S T C A D W : Nat → Nat) (t : Nat) : Prop :=
  tr_ok N K F S T C A D ∧ (∀ j, j < m → W j < N) ∧ t < N ∧ N = N0 + e ∧ wc = m + 1 + 2 * e ∧ C t + tr_sm C W m = sC + 2 * e ∧ A t + tr_sm A W m = sA ∧ (0 < e → nd_pr (K t) = 0) ∧ lo ≤ m
theorem rd_T0 {N m lo : Nat} {K F S T C A D W : Nat → Nat} (h : tr_ok N K F S T C A D) (hw : ∀ j, j < m + 1 → W j < N) (hl : lo ≤ m) :
    rd_T N (m + 1) lo m 0 (tr_sm C W (m + 1)) (tr_sm A W (m + 1)) N K F S T C A D W (W m) :=
  ⟨h, fun j hj => hw j (by omega), hw m (by omega), rfl, rfl, by rw [tr_sm1]; omega, by rw [tr_sm1]; omega, fun z => absurd z (Nat.lt_irrefl 0), hl⟩
theorem rd_Tf {N0 wc lo m e sC sA N t : Nat} {K F S T C A D W : Nat → Nat} (h : rd_T N0 wc lo (m + 2) e sC sA N K F S T C A D W t) (hl : lo ≤ m) :
    rd_T N0 wc lo m (e + 1) sC sA (N + 1) (tr_u K N 1) (tr_u F N (W m)) (tr_u S N (W (m + 1))) (tr_u T N t)
      (tr_u C N (2 + C (W m) + C (W (m + 1)) + C t)) (tr_u A N (A (W m) + A (W (m + 1)) + A t)) (tr_u D N (4 + D t + D (W m) + D (W (m + 1)))) W N := by
  obtain ⟨h1, h2, h3, h4, h5, h6, h7, h8, h9⟩ := h
  rw [tr_sm1, tr_sm1] at h6 h7
  refine ⟨tr_fk h1 _ _ _ (h2 m (by omega)) (h2 (m + 1) (by omega)) h3, fun j hj => by have := h2 j (by omega); omega, by omega, by omega, by omega, ?_, ?_, fun _ => ?_, hl⟩
  · rw [tr_us, tr_smn fun j hj => h2 j (by omega)]; omega
  · rw [tr_us, tr_smn fun j hj => h2 j (by omega)]; omega
  · rw [tr_us]; rfl
/-- what a train gives: k words from lo on -/
def rd_R (N0 k lo sC sA N : Nat) (K F S T C A D W : Nat → Nat) (t : Nat) : Prop :=
  tr_ok N K F S T C A D ∧ (∀ j, j < lo → W j < N) ∧ t < N ∧ N = N0 + k / 2 ∧ C t + tr_sm C W lo = sC + 2 * (k / 2) ∧ A t + tr_sm A W lo = sA ∧ (2 ≤ k → nd_pr (K t) = 0)
theorem rd_Re {N0 wc lo e sC sA N t : Nat} {K F S T C A D W : Nat → Nat} (h : rd_T N0 wc lo lo e sC sA N K F S T C A D W t) : rd_R N0 (wc - lo) lo sC sA N K F S T C A D W t := by
  obtain ⟨h1, h2, h3, h4, h5, h6, h7, h8, h9⟩ := h
  have k : (wc - lo) / 2 = e := by omega
  refine ⟨h1, h2, h3, by rw [k]; exact h4, by rw [k]; exact h6, h7, fun z => h8 (by omega)⟩
theorem rd_Rh {N0 wc lo e sC sA N t : Nat} {K F S T C A D W : Nat → Nat} (h : rd_T N0 wc lo (lo + 1) e sC sA N K F S T C A D W t) :
    rd_R N0 (wc - lo) lo sC sA (N + 1) (tr_u K N 2) (tr_u F N (W lo)) (tr_u S N t) (tr_u T N 0)
      (tr_u C N (2 + C (W lo) + C t)) (tr_u A N (A (W lo) + A t)) (tr_u D N (3 + D t + D (W lo))) W N := by
  obtain ⟨h1, h2, h3, h4, h5, h6, h7, h8, h9⟩ := h
  have k : (wc - lo) / 2 = e + 1 := by omega
  rw [tr_sm1] at h6 h7
  refine ⟨tr_hk h1 _ _ (h2 lo (by omega)) h3, fun j hj => by have := h2 j (by omega); omega, by omega, by rw [k]; omega, ?_, ?_, fun _ => ?_⟩
  · rw [tr_us, tr_smn fun j hj => h2 j (by omega), k]; omega
  · rw [tr_us, tr_smn fun j hj => h2 j (by omega)]; omega
  · rw [tr_us]; rfl
theorem rd_Gc {wc G : Nat} {B : Nat → Nat} {P : Nat → Bool} (h : rd_G wc (G + 1) B P) : rd_G (B (G + 1)) G B P :=
  ⟨(h.2.2 G (by omega)).1, (h.2.2 G (by omega)).2, fun j hj => h.2.2 j (by omega)⟩
theorem rd_close1 {i N wc G adc N' t : Nat} {K F S T C A D W B K' F' S' T' C' A' D' : Nat → Nat} {P : Nat → Bool} (h : rd_S i N wc (G + 1) adc K F S T C A D W B P)
    (hl : B (G + 1) < wc) (r : rd_R N (wc - B (G + 1)) (B (G + 1)) (tr_sm C W wc) (tr_sm A W wc) N' K' F' S' T' C' A' D' W t) :
    rd_S (i + 1) N' (B (G + 1) + 1) G adc K' F' S' T' C' A' D' (tr_u W (B (G + 1)) t) B P := by
  obtain ⟨⟨w1, w2, w3, w4, w5⟩, g, a1, a2, a3⟩ := h
  obtain ⟨r1, r2, r3, r4, r5, r6, r7⟩ := r
  refine ⟨rd_plain r1 r2 r3 ?_ ?_ ?_, rd_Gp (rd_Gc g) (by omega), by omega, by omega, by omega⟩
  · omega
  · omega
  · omega
theorem rd_close2 {i N wc G adc N' t m : Nat} {K F S T C A D W B K' F' S' T' C' A' D' : Nat → Nat} {P : Nat → Bool} (h : rd_S i N wc (G + 1) adc K F S T C A D W B P)
    (hl : B (G + 1) < wc) (hm : B (G + 1) = m + 1) (r : rd_R N (wc - B (G + 1)) (B (G + 1)) (tr_sm C W wc) (tr_sm A W wc) N' K' F' S' T' C' A' D' W t) :
    ∃ C2 A2 D2, rd_S (i + 1) (N' + 1) (m + 1) G adc (tr_u K' N' 64) (tr_u F' N' (W m)) (tr_u S' N' t) (tr_u T' N' 0) C2 A2 D2 (tr_u W m N') B (rd_pu P G false) := by
  obtain ⟨⟨w1, w2, w3, w4, w5⟩, g, a1, a2, a3⟩ := h
  obtain ⟨r1, r2, r3, r4, r5, r6, r7⟩ := r
  have hp := nd_prle (K' t)
  have hk : nd_pr (K' t) + 2 * ((wc - B (G + 1)) / 2) ≤ (wc - B (G + 1)) + 1 := by
    by_cases z : 2 ≤ wc - B (G + 1)
    · rw [r7 z]; omega
    · omega
  rw [hm] at r2 r4 r5 r6 hk hl
  have q := rd_atop (b := 2 * (i + 1)) (adc := adc) r1 r2 r3 (by omega) (by omega) (by omega)
  have gc := rd_Gc g
  rw [hm] at gc
  exact ⟨_, _, _, q, rd_Gat gc false (fun h => by cases h), by omega, by omega, by omega⟩
