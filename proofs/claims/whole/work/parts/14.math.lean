def keepL (ks : List Nat) (L : List (Option Value)) : List (Option Value) := L.mapIdx fun i v => if ks.contains i then v else none
theorem P.keep {x : CX} {d : Nat} {M : MI} {Q : PQ} {b : Nat × Nat} {pc : Nat} {L : List (Option Value)} {st : List Value} {N : Nat} {σ : PH} (ks : List Nat) (h : P x d M Q b pc (keepL ks L) st N σ) : P x d M Q b pc L st N σ := by
  intro ok H locs cells slots ls hW hS hL h1 h2
  refine h ok H locs cells slots ls hW hS ⟨hL.1, hL.2.1, fun i v hi => ?_⟩ h1 h2
  unfold keepL at hi
  rw [List.getElem?_mapIdx] at hi
  cases hv : L[i]? with
  | none => rw [hv] at hi; cases hi
  | some o =>
    rw [hv] at hi
    have hi2 : (if ks.contains i then o else none) = some v := Option.some.inj hi
    by_cases hc : ks.contains i
    · rw [if_pos hc] at hi2
      exact hL.2.2 i v (by rw [hv, hi2])
    · rw [if_neg hc] at hi2
      cases hi2
theorem ediv_is {a c k : Int} (hc : 0 < c) (h1 : k * c ≤ a) (h2 : a < (k + 1) * c) : a / c = k := by
  have e1 := (Int.le_ediv_iff_mul_le hc).mpr h1
  have e2 := (Int.ediv_lt_iff_lt_mul hc).mpr h2
  omega
theorem tdiv_b {a c : Int} (hc : 0 < c) : (0 ≤ a → a.tdiv c * c ≤ a ∧ a < (a.tdiv c + 1) * c ∧ 0 ≤ a.tdiv c) ∧ (a < 0 → a ≤ a.tdiv c * c ∧ (a.tdiv c - 1) * c < a ∧ a.tdiv c ≤ 0) := by
  constructor
  · intro h
    rw [Int.tdiv_eq_ediv_of_nonneg h]
    have e1 := Int.mul_ediv_add_emod a c
    have e2 := Int.emod_nonneg a (by omega : c ≠ 0)
    have e3 := Int.emod_lt_of_pos a hc
    have e4 := Int.ediv_nonneg h (by omega : 0 ≤ c)
    rw [Int.mul_comm] at e1
    refine ⟨by omega, ?_, e4⟩
    rw [Int.add_mul]
    omega
  · intro h
    have e0 : a.tdiv c = -((-a) / c) := by
      have e := Int.neg_tdiv (a := -a) (b := c)
      rw [Int.neg_neg] at e
      rw [e, Int.tdiv_eq_ediv_of_nonneg (by omega)]
    rw [e0]
    have e1 := Int.mul_ediv_add_emod (-a) c
    have e2 := Int.emod_nonneg (-a) (by omega : c ≠ 0)
    have e3 := Int.emod_lt_of_pos (-a) hc
    have e4 := Int.ediv_nonneg (by omega : 0 ≤ -a) (by omega : 0 ≤ c)
    rw [Int.mul_comm] at e1
    refine ⟨by rw [Int.neg_mul]; omega, ?_, by omega⟩
    rw [Int.sub_mul, Int.neg_mul]
    omega
theorem tdiv_R {a c : Int} (hc : 0 < c) (ha : inR a) : inR (a.tdiv c) ∧ inR (a.tdiv c * c) := by
  obtain ⟨h1, h2⟩ := tdiv_b (a := a) hc
  rcases Int.lt_or_le a 0 with h | h
  · obtain ⟨q1, q2, q3⟩ := h2 h
    have q4 : a.tdiv c * c ≤ a.tdiv c * 1 := Int.mul_le_mul_of_nonpos_left q3 (by omega)
    have q5 : a.tdiv c * c ≤ 0 := by omega
    unfold inR
    refine ⟨⟨by omega, by omega⟩, by omega, by omega⟩
  · obtain ⟨q1, q2, q3⟩ := h1 h
    have q4 : a.tdiv c * 1 ≤ a.tdiv c * c := Int.mul_le_mul_of_nonneg_left (by omega) q3
    unfold inR
    refine ⟨⟨by omega, by omega⟩, by omega, by omega⟩
theorem tdiv_floor {a c : Int} (hc : 0 < c) : (0 ≤ a → a.tdiv c = a / c) ∧ (a.tdiv c * c = a → a.tdiv c = a / c) ∧ (a < 0 → a.tdiv c * c ≠ a → a.tdiv c - 1 = a / c) := by
  obtain ⟨h1, h2⟩ := tdiv_b (a := a) hc
  refine ⟨fun h => Int.tdiv_eq_ediv_of_nonneg h, fun h => ?_, fun h h3 => ?_⟩
  · refine (ediv_is hc (by omega) ?_).symm
    rw [Int.add_mul]; omega
  · obtain ⟨q1, q2, q3⟩ := h2 h
    refine (ediv_is hc (by omega) ?_).symm
    rw [Int.sub_add_cancel]
    omega
/-- of two as near the lesser one -/
def near (a b : Int) : Int := -((b - 2 * a) / (2 * b))
theorem near_eq {a b : Int} (hb : 0 < b) : near a b = (2 * a + b - 1) / (2 * b) := by
  unfold near
  have e1 := Int.mul_ediv_add_emod (b - 2 * a) (2 * b)
  have e2 := Int.emod_nonneg (b - 2 * a) (by omega : 2 * b ≠ 0)
  have e3 := Int.emod_lt_of_pos (b - 2 * a) (by omega : 0 < 2 * b)
  rw [Int.mul_comm] at e1
  refine (ediv_is (by omega) ?_ ?_).symm
  · rw [Int.neg_mul]; omega
  · rw [Int.add_mul, Int.neg_mul]; omega
/-- the greatest common divisor -/
def gcdI (a b : Int) : Int := ((a.toNat.gcd b.toNat : Nat) : Int)
theorem gcdI_0 {a : Int} (ha : 0 ≤ a) : gcdI a 0 = a := by
  unfold gcdI
  simp
  omega
theorem gcdI_step {a b : Int} (ha : 0 ≤ a) (hb : 0 < b) : gcdI b (a.tmod b) = gcdI a b := by
  unfold gcdI
  rw [Int.tmod_eq_emod_of_nonneg ha]
  have e : (a % b).toNat = a.toNat % b.toNat := by
    have := Int.toNat_emod ha (by omega : 0 ≤ b)
    exact this
  rw [e, Nat.gcd_comm b.toNat, ← Nat.gcd_rec, Nat.gcd_comm]
theorem gcdI_pos {a b : Int} (hb : 0 < b) : 0 < gcdI a b := by
  unfold gcdI
  have : 0 < a.toNat.gcd b.toNat := Nat.gcd_pos_of_pos_right _ (by omega)
  omega
theorem gcdI_le {a b : Int} (hb : 0 < b) : gcdI a b ≤ b := by
  unfold gcdI
  have : a.toNat.gcd b.toNat ≤ b.toNat := Nat.gcd_le_right _ (by omega)
  omega
theorem tmod_b {a b : Int} (ha : 0 ≤ a) (hb : 0 < b) : 0 ≤ a.tmod b ∧ a.tmod b < b := by
  rw [Int.tmod_eq_emod_of_nonneg ha]
  exact ⟨Int.emod_nonneg a (by omega), Int.emod_lt_of_pos a hb⟩
theorem tmod_half {b r : Int} (hr : 0 < r) (hb : r < b) : 2 * b.tmod r < b := by
  rw [Int.tmod_eq_emod_of_nonneg (by omega)]
  have e1 := Int.mul_ediv_add_emod b r
  have e2 := Int.emod_nonneg b (by omega : r ≠ 0)
  have e3 := Int.emod_lt_of_pos b hr
  have e4 : 1 ≤ b / r := (Int.le_ediv_iff_mul_le hr).mpr (by omega)
  have e5 : r * 1 ≤ r * (b / r) := Int.mul_le_mul_of_nonneg_left e4 (by omega)
  omega
