/-! tokens as the reference sees them -/
def prC (c : Int) : Int → Bool := fun z => (bS c && bS z) || (bD c && bD z)
theorem bSD {c : Int} (h : bS c = true) : bD c = false := by
  unfold bS at h
  unfold bD
  have := of_decide_eq_true h
  exact decide_eq_false (by omega)
theorem tkE_pr {f : Int → Int} {n k : Int} : tkE f n k = rn (prC (f k)) f n (k + 1) := by
  unfold tkE
  by_cases h1 : bS (f k) = true
  · rw [if_pos h1]
    have e : prC (f k) = bS := by funext z; unfold prC; rw [h1, bSD h1]; simp
    rw [e]
  · rw [if_neg h1]
    have h1' : bS (f k) = false := by simpa using h1
    by_cases h2 : bD (f k) = true
    · rw [if_pos h2]
      have e : prC (f k) = bD := by funext z; unfold prC; rw [h1', h2]; simp
      rw [e]
    · rw [if_neg h2]
      have h2' : bD (f k) = false := by simpa using h2
      have e : prC (f k) = fun _ => false := by funext z; unfold prC; rw [h1', h2']; simp
      rw [e]
      exact (rn_n (by simp)).symm
theorem bS_iff {c : Int} : bS c = true ↔ 97 ≤ c ∧ c ≤ 122 := by unfold bS; exact decide_eq_true_iff
theorem bD_iff {c : Int} : bD c = true ↔ 48 ≤ c ∧ c ≤ 57 := by unfold bD; exact decide_eq_true_iff
theorem prC_iff {c z : Int} : prC c z = true ↔ ((97 ≤ c ∧ c ≤ 122) ∧ 97 ≤ z ∧ z ≤ 122) ∨ ((48 ≤ c ∧ c ≤ 57) ∧ 48 ≤ z ∧ z ≤ 57) := by
  unfold prC
  rw [Bool.or_eq_true, Bool.and_eq_true, Bool.and_eq_true, bS_iff, bS_iff, bD_iff, bD_iff]
/-- a number -/
theorem tok_num {f st kd vl : Int → Int} {n m i : Int} (hT : TK f n st kd vl m) (hi : 0 ≤ i ∧ i < m) (hn : 0 ≤ n) : (kd i = 2 ↔ st i < n ∧ 48 ≤ f (st i) ∧ f (st i) ≤ 57) ∧ (kd i = 2 → (bhF f st n m i - st i = 1 → vl i = f (st i) - 48) ∧ (bhF f st n m i - st i = 2 → vl i = 10 * (f (st i) - 48) + f (st i + 1) - 48 ∧ 48 ≤ f (st i + 1) ∧ f (st i + 1) ≤ 57) ∧ (2 < bhF f st n m i - st i → vl i = -1)) := by
  obtain ⟨b1, b2, b3⟩ := tok_b hT hi hn
  obtain ⟨t1, t2⟩ := tok_k hT hi
  have iff1 : kd i = 2 ↔ st i < n ∧ 48 ≤ f (st i) ∧ f (st i) ≤ 57 := by
    constructor
    · intro h
      by_cases hlt : st i < n
      · refine ⟨hlt, ?_⟩
        rw [(t2 hlt).1] at h
        unfold kdF at h
        split at h
        · omega
        · split at h
          · next q => exact bD_iff.mp q
          · omega
      · rw [(t1 (by omega)).1] at h; omega
    · rintro ⟨hlt, hd⟩
      rw [(t2 hlt).1]
      unfold kdF
      have q : bD (f (st i)) = true := bD_iff.mpr hd
      have q1 : ¬ bS (f (st i)) = true := fun z => by have := bS_iff.mp z; omega
      rw [if_neg q1, if_pos q]
  refine ⟨iff1, fun h => ?_⟩
  obtain ⟨hlt, hd⟩ := iff1.mp h
  obtain ⟨k1, k2, k3⟩ := t2 hlt
  have q : bD (f (st i)) = true := bD_iff.mpr hd
  have q1 : ¬ bS (f (st i)) = true := fun z => by have := bS_iff.mp z; omega
  have ev : vl i = nmF f (st i) (bhF f st n m i) := by rw [k2, k3]; unfold vlF; rw [if_neg q1, if_pos q]
  have et : bhF f st n m i = rn bD f n (st i + 1) := by rw [k3]; unfold tkE; rw [if_neg q1, if_pos q]
  refine ⟨fun h1 => ?_, fun h2 => ?_, fun h3 => ?_⟩
  · rw [ev]
    unfold nmF
    rw [if_pos (by omega), show (bhF f st n m i - st i).toNat = 1 by omega]
    show (if 48 ≤ f (st i) ∧ f (st i) ≤ 57 then 10 * 0 + f (st i) - 48 else -1) = _
    rw [if_pos hd]
    omega
  · have hd2 : 48 ≤ f (st i + 1) ∧ f (st i + 1) ≤ 57 := bD_iff.mp (rn_all (pr := bD) (f := f) (n := n) (n - (st i + 1)).toNat (st i + 1) (by omega) (st i + 1) (by omega) (by omega))
    refine ⟨?_, hd2⟩
    rw [ev]
    unfold nmF
    rw [if_pos (by omega), show (bhF f st n m i - st i).toNat = 2 by omega]
    show (if 48 ≤ f (st i) ∧ f (st i) ≤ 57 then (if 48 ≤ f (st i + 1) ∧ f (st i + 1) ≤ 57 then 10 * (10 * 0 + f (st i) - 48) + f (st i + 1) - 48 else -1) else -1) = _
    rw [if_pos hd, if_pos hd2]
    omega
  · rw [ev]
    unfold nmF
    rw [if_neg (by omega)]
/-- a sign -/
theorem tok_sign {f st kd vl : Int → Int} {n m i c : Int} (hT : TK f n st kd vl m) (hi : 0 ≤ i ∧ i < m) (hn : 0 ≤ n) (hc : ¬ (97 ≤ c ∧ c ≤ 122) ∧ ¬ (48 ≤ c ∧ c ≤ 57)) : (kd i = 3 ∧ vl i = c) ↔ st i < n ∧ f (st i) = c := by
  obtain ⟨b1, b2, b3⟩ := tok_b hT hi hn
  obtain ⟨t1, t2⟩ := tok_k hT hi
  constructor
  · rintro ⟨h1, h2⟩
    by_cases hlt : st i < n
    · refine ⟨hlt, ?_⟩
      obtain ⟨k1, k2, k3⟩ := t2 hlt
      rw [k1] at h1
      rw [k2] at h2
      unfold kdF at h1
      unfold vlF at h2
      split at h1
      · omega
      · next q1 =>
        split at h1
        · omega
        · next q2 => rw [if_neg q1, if_neg q2] at h2; exact h2
    · rw [(t1 (by omega)).1] at h1; omega
  · rintro ⟨hlt, hc2⟩
    obtain ⟨k1, k2, k3⟩ := t2 hlt
    have q1 : ¬ bS (f (st i)) = true := fun z => by have := bS_iff.mp z; omega
    have q2 : ¬ bD (f (st i)) = true := fun z => by have := bD_iff.mp z; omega
    rw [k1, k2]
    unfold kdF vlF
    rw [if_neg q1, if_neg q2, if_neg q1, if_neg q2]
    exact ⟨rfl, hc2⟩
theorem tok_end {f st kd vl : Int → Int} {n m i : Int} (hT : TK f n st kd vl m) (hi : 0 ≤ i ∧ i < m) (hn : 0 ≤ n) : kd i = 0 ↔ ¬ st i < n := by
  obtain ⟨b1, b2, b3⟩ := tok_b hT hi hn
  obtain ⟨t1, t2⟩ := tok_k hT hi
  constructor
  · intro h hlt
    rw [(t2 hlt).1] at h
    unfold kdF at h
    split at h
    · omega
    · split at h <;> omega
  · intro h
    exact (t1 (by omega)).1
