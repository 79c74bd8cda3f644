/-! vectors in numbered slots of sixteen cells: what a slot holds, what a run leaves alone -/
def ve_L (c l : Nat → Int32) (s : Nat) (xs : List Int32) : Prop :=
  xs.length ≤ 16 ∧ l s = nI xs.length ∧ ∀ i, i < xs.length → c (16 * s + i) = xs.getD i 0
def ve_F (P : Nat → Prop) (c l c' l' : Nat → Int32) : Prop :=
  ∀ t, ¬ P t → l' t = l t ∧ ∀ i, i < 16 → c' (16 * t + i) = c (16 * t + i)
theorem ve_Fr (P : Nat → Prop) (c l : Nat → Int32) : ve_F P c l c l := fun _ _ => ⟨rfl, fun _ _ => rfl⟩
theorem ve_Ft {P : Nat → Prop} {c l c1 l1 c2 l2 : Nat → Int32} (h : ve_F P c l c1 l1) (k : ve_F P c1 l1 c2 l2) : ve_F P c l c2 l2 :=
  fun t ht => ⟨(k t ht).1.trans (h t ht).1, fun i hi => ((k t ht).2 i hi).trans ((h t ht).2 i hi)⟩
theorem ve_Fm {P Q : Nat → Prop} {c l c1 l1 : Nat → Int32} (h : ve_F P c l c1 l1) (hq : ∀ t, P t → Q t) : ve_F Q c l c1 l1 :=
  fun t ht => h t (fun z => ht (hq t z))
theorem ve_o {P : Nat → Prop} {c l c' l' : Nat → Int32} {t : Nat} {xs : List Int32} (h : ve_F P c l c' l') (ht : ¬ P t) (v : ve_L c l t xs) : ve_L c' l' t xs :=
  ⟨v.1, (h t ht).1.trans v.2.1, fun i hi => ((h t ht).2 i (Nat.lt_of_lt_of_le hi v.1)).trans (v.2.2 i hi)⟩
theorem ve_Fu {c l : Nat → Int32} {s n : Nat} {x y : Int32} (hn : n < 16) : ve_F (fun t => t = s) c l (upd c (16 * s + n) x) (upd l s y) := by
  intro t ht
  have ht' : t ≠ s := ht
  exact ⟨pk_un ht', fun i hi => pk_un (by omega)⟩
theorem ve_Fl {c l : Nat → Int32} {s : Nat} {y : Int32} : ve_F (fun t => t = s) c l c (upd l s y) := by
  intro t ht
  have ht' : t ≠ s := ht
  exact ⟨pk_un ht', fun i hi => rfl⟩
theorem ve_Fc {c l : Nat → Int32} {s n : Nat} {x : Int32} (hn : n < 16) : ve_F (fun t => t = s) c l (upd c (16 * s + n) x) l := by
  intro t ht
  have ht' : t ≠ s := ht
  exact ⟨rfl, fun i hi => pk_un (by omega)⟩
theorem ve_gl {xs : List Int32} {v : Int32} {i : Nat} (h : i < xs.length) : (xs ++ [v]).getD i 0 = xs.getD i 0 := by
  rw [List.getD_eq_getElem?_getD, List.getD_eq_getElem?_getD, List.getElem?_append_left h]
theorem ve_gr {xs : List Int32} {v : Int32} : (xs ++ [v]).getD xs.length 0 = v := by
  rw [List.getD_eq_getElem?_getD, List.getElem?_append_right (Nat.le_refl _), Nat.sub_self]
  rfl
theorem ve_len {xs : List Int32} {v : Int32} : (xs ++ [v]).length = xs.length + 1 := by
  rw [List.length_append]; rfl
theorem ve_app {c l : Nat → Int32} {s : Nat} {xs : List Int32} (v : Int32) (h : ve_L c l s xs) (hn : xs.length < 16) :
    ve_L (upd c (16 * s + xs.length) v) (upd l s (nI (xs.length + 1))) s (xs ++ [v]) := by
  refine ⟨by rw [ve_len]; omega, by rw [ve_len]; exact pk_us, fun i hi => ?_⟩
  rw [ve_len] at hi
  by_cases e : i = xs.length
  · rw [e, ve_gr]; exact pk_us
  · rw [ve_gl (by omega), pk_un (by omega)]; exact h.2.2 i (by omega)
theorem ve_nil {c l : Nat → Int32} {s : Nat} : ve_L c (upd l s 0) s [] :=
  ⟨Nat.zero_le _, pk_us.trans nI_0.symm, fun _ hi => absurd hi (Nat.not_lt_zero _)⟩
theorem ve_mg (f : Nat → Int32) {m i : Nat} (h : i < m) : ((List.range m).map f).getD i 0 = f i := by
  rw [List.getD_eq_getElem?_getD, List.getElem?_map, List.getElem?_range h]
  rfl
theorem ve_ml (f : Nat → Int32) (m : Nat) : ((List.range m).map f).length = m := by
  rw [List.length_map, List.length_range]
theorem ve_mk {c l : Nat → Int32} {s m : Nat} {f : Nat → Int32} (hm : m ≤ 16) (h : ∀ j, j < m → c (16 * s + j) = f j) :
    ve_L c (upd l s (nI m)) s ((List.range m).map f) := by
  refine ⟨by rw [ve_ml]; exact hm, by rw [ve_ml]; exact pk_us, fun i hi => ?_⟩
  rw [ve_ml] at hi
  rw [ve_mg f hi]; exact h i hi
theorem ve_rs (f : Nat → Int32) (n : Nat) : (List.range (n + 1)).map f = (List.range n).map f ++ [f n] := by
  rw [List.range_succ, List.map_append]; rfl
theorem ve_ext {xs ys : List Int32} (h : xs.length = ys.length) (k : ∀ i, i < xs.length → xs.getD i 0 = ys.getD i 0) : xs = ys := by
  apply List.ext_getElem h
  intro i h1 h2
  have := k i h1
  rw [List.getD_eq_getElem?_getD, List.getD_eq_getElem?_getD, List.getElem?_eq_getElem h1, List.getElem?_eq_getElem h2] at this
  exact this
theorem ve_self (xs : List Int32) : (List.range xs.length).map (fun i => xs.getD i 0) = xs := by
  apply ve_ext (ve_ml _ _)
  intro i hi
  rw [ve_ml] at hi
  rw [ve_mg _ hi]
theorem ve_one {c l : Nat → Int32} {s : Nat} {x : Int32} : ve_L (upd c (16 * s) x) (upd l s 1) s [x] := by
  refine ⟨Nat.le_of_ble_eq_true rfl, pk_us, fun i hi => ?_⟩
  have : i = 0 := by simp at hi; exact hi
  subst this
  exact pk_us
theorem ve_inj {c l : Nat → Int32} {s : Nat} {xs ys : List Int32} (h : ve_L c l s xs) (k : ve_L c l s ys) : xs = ys := by
  have e : xs.length = ys.length := by
    have := h.2.1.symm.trans k.2.1
    rw [nI_eq (by have := h.1; omega) (by have := k.1; omega)] at this
    exact this
  exact ve_ext e fun i hi => (h.2.2 i hi).symm.trans (k.2.2 i (e ▸ hi))
theorem ve_1 {xs : List Int32} (h : xs.length = 1) : xs = [xs.getD 0 0] := by
  match xs, h with
  | [a], _ => rfl
theorem ve_t1 {xs : List Int32} (h : 0 < xs.length) : xs.take 1 = [xs.getD 0 0] := by
  match xs, h with
  | a :: r, _ => rfl
theorem ve_nI {xs : List Int32} (h : xs.length = 0) : xs = [] := List.eq_nil_of_length_eq_zero h
def ve_cp (c l c' l' : Nat → Int32) (s t : Nat) : Prop := l' t = l s ∧ ∀ i, i < 16 → c' (16 * t + i) = c (16 * s + i)
theorem ve_cpL {c l c' l' : Nat → Int32} {s t : Nat} {xs : List Int32} (h : ve_cp c l c' l' s t) (v : ve_L c l s xs) : ve_L c' l' t xs :=
  ⟨v.1, h.1.trans v.2.1, fun i hi => (h.2 i (Nat.lt_of_lt_of_le hi v.1)).trans (v.2.2 i hi)⟩
