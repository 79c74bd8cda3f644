/-! remainders and small numbers -/
theorem pr_rb (v : Int32) {m : Nat} (h1 : m ≤ 16) (h0 : 0 < m) : (v - v / nI m * nI m).toInt = v.toInt.tmod (m : Int) ∧ -(m : Int) < v.toInt.tmod (m : Int) ∧ v.toInt.tmod (m : Int) < m := by
  have e := rem_toInt v (nI m)
  rw [nI_toInt (by omega)] at e
  have b := tmod_bounds (a := v.toInt) (M := (m : Int)) (by omega)
  exact ⟨e, b.1, b.2⟩
theorem pr_em (a m : Int) : a % m = (a.tmod m) % m := by
  have h := Int.tmod_add_mul_tdiv a m
  have k := Int.add_mul_emod_self_left (a.tmod m) m (a.tdiv m)
  rw [h] at k
  exact k
theorem pr_kN (v : Int32) {m : Nat} (h0 : 0 < m) : pr_k v m < m ∧ ((pr_k v m : Nat) : Int) = v.toInt % (m : Int) := by
  have a := Int.emod_nonneg v.toInt (b := (m : Int)) (by omega)
  have b := Int.emod_lt_of_pos v.toInt (b := (m : Int)) (by omega)
  unfold pr_k
  omega
theorem pr_ka (v : Int32) {m : Nat} (h1 : m ≤ 16) (h0 : 0 < m) : (v - v / nI m * nI m + nI m).toInt = v.toInt.tmod (m : Int) + m := by
  obtain ⟨e, b1, b2⟩ := pr_rb v h1 h0
  rw [Int32.toInt_add, e, nI_toInt (by omega)]
  exact Int.bmod_eq_of_le (by omega) (by omega)
theorem pr_kx (v : Int32) {m : Nat} (h1 : m ≤ 16) (h0 : 0 < m) : (v - v / nI m * nI m + nI m) - (v - v / nI m * nI m + nI m) / nI m * nI m = nI (pr_k v m) := by
  obtain ⟨e, b1, b2⟩ := pr_rb v h1 h0
  obtain ⟨k1, k2⟩ := pr_kN v h0
  apply Int32.toInt_inj.mp
  rw [rem_toInt, pr_ka v h1 h0, nI_toInt (by omega), nI_toInt (by omega), Int.tmod_eq_emod_of_nonneg (by omega), Int.add_emod_right, ← pr_em, k2]
theorem pr_kn (v : Int32) {m : Nat} (h1 : m ≤ 16) (h0 : 0 < m) (h : v - v / nI m * nI m < 0) : v - v / nI m * nI m + nI m = nI (pr_k v m) := by
  obtain ⟨e, b1, b2⟩ := pr_rb v h1 h0
  obtain ⟨k1, k2⟩ := pr_kN v h0
  rw [Int32.lt_iff_toInt_lt, e, show (0 : Int32).toInt = 0 from by decide] at h
  apply Int32.toInt_inj.mp
  rw [pr_ka v h1 h0, nI_toInt (by omega), k2, pr_em, ← Int.add_emod_right, Int.emod_eq_of_lt (by omega) (by omega)]
theorem pr_kp (v : Int32) {m : Nat} (h1 : m ≤ 16) (h0 : 0 < m) (h : ¬ v - v / nI m * nI m < 0) : v - v / nI m * nI m = nI (pr_k v m) := by
  obtain ⟨e, b1, b2⟩ := pr_rb v h1 h0
  obtain ⟨k1, k2⟩ := pr_kN v h0
  rw [Int32.lt_iff_toInt_lt, e, show (0 : Int32).toInt = 0 from by decide] at h
  apply Int32.toInt_inj.mp
  rw [e, nI_toInt (by omega), k2, pr_em, Int.emod_eq_of_lt (by omega) (by omega)]
theorem ax_mul (s i : Nat) : nI s * 16 + nI i = nI (16 * s + i) := by
  rw [show (16 : Int32) = nI 16 from rfl, pk_mul, nI_add, Nat.mul_comm]
theorem ax_mul0 (s : Nat) : nI s * 16 = nI (16 * s) := by
  rw [show (16 : Int32) = nI 16 from rfl, pk_mul, Nat.mul_comm]
theorem ax_lt {a b : Nat} (ha : a < 2 ^ 31) (hb : b < 2 ^ 31) : nI a < nI b ↔ a < b := nI_ltI ha hb
theorem ax_cl {n : Nat} (h : n < 2 ^ 31) : (nI n).toNatClampNeg = n := nI_clamp h
