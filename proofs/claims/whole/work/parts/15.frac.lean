/-- Math.floorDiv, of a divisor above 0 -/
theorem ct_floorDiv {x : CM} {d N : Nat} {σ : PH} {Q : PQ} {a c : Int} (ha : inR a) (hc : inR c) (h0 : 0 < c) (h : Q (some (vI (a / c))) σ) : Call x d 0 0 mJ9_floorDiv_7cf53 [vI a, vI c] N σ Q := by
  refine Call.of mcJ9_floorDiv_7cf53 (Nat.le_of_ble_eq_true rfl) (fun y hy => ?_)
  subst hy
  obtain ⟨r1, r2⟩ := tdiv_R h0 ha
  obtain ⟨f1, f2, f3⟩ := tdiv_floor (a := a) h0
  refine P.iload_n (dq dtJ9_floorDiv_7cf53 0 rfl) rfl ?_
  refine P.iload_n (dq dtJ9_floorDiv_7cf53 1 rfl) rfl ?_
  refine P.idiv (dq dtJ9_floorDiv_7cf53 2 rfl) (by omega) (by omega) (by omega) ?_
  refine P.istore_n (dq dtJ9_floorDiv_7cf53 3 rfl) (by decide) rfl rfl ?_
  refine P.iload_n (dq dtJ9_floorDiv_7cf53 4 rfl) rfl ?_
  refine P.iload_n (dq dtJ9_floorDiv_7cf53 5 rfl) rfl ?_
  refine P.ixor (dq dtJ9_floorDiv_7cf53 6 rfl) (by omega) (by omega) (fun z_6 hz_6 hs_6 => ?_)
  refine P.if_ge (t := 21) (dq dtJ9_floorDiv_7cf53 7 rfl) rfl (by omega) (fun c_7 => ?_) (fun c_7 => ?_)
  · refine P.iload_n (dq dtJ9_floorDiv_7cf53 17 rfl) rfl ?_
    refine P.iret (dq dtJ9_floorDiv_7cf53 18 rfl) rfl rfl rfl ?_
    first | (rw [f1 (by omega)]; exact h) | (rw [f2 (by omega)]; exact h) | (exfalso; omega)
  · refine P.iload_n (dq dtJ9_floorDiv_7cf53 8 rfl) rfl ?_
    refine P.iload_n (dq dtJ9_floorDiv_7cf53 9 rfl) rfl ?_
    refine P.imul (dq dtJ9_floorDiv_7cf53 10 rfl) ?_
    refine P.iload_n (dq dtJ9_floorDiv_7cf53 11 rfl) rfl ?_
    refine P.icmp_eq (t := 21) (dq dtJ9_floorDiv_7cf53 12 rfl) rfl (by omega) (by omega) (fun c_14 => ?_) (fun c_14 => ?_)
    · refine P.iload_n (dq dtJ9_floorDiv_7cf53 17 rfl) rfl ?_
      refine P.iret (dq dtJ9_floorDiv_7cf53 18 rfl) rfl rfl rfl ?_
      first | (rw [f1 (by omega)]; exact h) | (rw [f2 (by omega)]; exact h) | (exfalso; omega)
    · refine P.iload_n (dq dtJ9_floorDiv_7cf53 13 rfl) rfl ?_
      refine P.iconst (dq dtJ9_floorDiv_7cf53 14 rfl) ?_
      refine P.isub (dq dtJ9_floorDiv_7cf53 15 rfl) ?_
      refine P.iret (dq dtJ9_floorDiv_7cf53 16 rfl) rfl rfl rfl ?_
      rw [f3 (by omega) (by omega)]
      exact h
/-- AxisTable.nearestLesser -/
theorem ct_X6_nearestLesser {x : CM} {d N : Nat} {σ : PH} {Q : PQ} {a c : Int} (hd : 1 ≤ d) (ha : -100000000 ≤ a ∧ a ≤ 100000000) (hc : 0 < c ∧ c ≤ 100000000) (h : Q (some (vI (near a c))) σ) : Call x d 0 0 mX6_nearestLesser [vI a, vI c] N σ Q := by
  refine Call.of mcX6_nearestLesser (Nat.le_of_ble_eq_true rfl) (fun y hy => ?_)
  subst hy
  refine P.iload_n (dq dtX6_nearestLesser 0 rfl) rfl ?_
  refine P.iconst (dq dtX6_nearestLesser 1 rfl) ?_
  refine P.icmp_ge (t := 9) (dq dtX6_nearestLesser 2 rfl) rfl (by omega) (by omega) (fun c_2 => ?_) (fun c_2 => ?_)
  · refine P.iload_n (dq dtX6_nearestLesser 5 rfl) rfl ?_
    refine P.iconst (dq dtX6_nearestLesser 6 rfl) ?_
    refine P.iload_n (dq dtX6_nearestLesser 7 rfl) rfl ?_
    refine P.imul (dq dtX6_nearestLesser 8 rfl) ?_
    refine P.isub (dq dtX6_nearestLesser 9 rfl) ?_
    refine P.iconst (dq dtX6_nearestLesser 10 rfl) ?_
    refine P.iload_n (dq dtX6_nearestLesser 11 rfl) rfl ?_
    refine P.imul (dq dtX6_nearestLesser 12 rfl) ?_
    refine P.callS2 (M' := mJ9_floorDiv_7cf53) (d' := d - 1) mlX6_287 mcJ9_floorDiv_7cf53 msJ9_floorDiv_7cf53 (dq dtX6_nearestLesser 13 rfl) (by omega) (Nat.le_of_ble_eq_true rfl) ?_
    refine ct_floorDiv (by omega) (by omega) (by omega) ?_
    refine P.ineg (dq dtX6_nearestLesser 14 rfl) ?_
    refine P.iret (dq dtX6_nearestLesser 15 rfl) rfl rfl rfl ?_
    first | exact h | (exfalso; omega)
  · refine P.iconst (dq dtX6_nearestLesser 3 rfl) ?_
    refine P.goto (t := 21) (dq dtX6_nearestLesser 4 rfl) rfl ?_
    refine P.iret (dq dtX6_nearestLesser 15 rfl) rfl rfl rfl ?_
    first | exact h | (exfalso; omega)
/-- AxisTableModel.nearest -/
theorem ct_X7_nearest {x : CM} {d N : Nat} {σ : PH} {Q : PQ} {a c : Int} (ha : -100000000 ≤ a ∧ a ≤ 100000000) (hc : 0 < c ∧ c ≤ 100000000) (h : Q (some (vI (near a c))) σ) : Call x d 0 0 mX7_nearest [vI a, vI c] N σ Q := by
  refine Call.of mcX7_nearest (Nat.le_of_ble_eq_true rfl) (fun y hy => ?_)
  subst hy
  have h0 : 0 < 2 * c := by omega
  obtain ⟨r1, r2⟩ := tdiv_R (a := 2 * a + c - 1) h0 (by omega)
  obtain ⟨f1, f2, f3⟩ := tdiv_floor (a := 2 * a + c - 1) h0
  have e0 := Int.tmod_add_mul_tdiv (2 * a + c - 1) (2 * c)
  rw [Int.mul_comm (2 * c) _] at e0
  obtain ⟨b1, b2⟩ := tdiv_b (a := 2 * a + c - 1) h0
  simp only [Int.sub_mul, Int.add_mul, Int.one_mul] at b1 b2
  rw [near_eq hc.1] at h
  refine P.iconst (dq dtX7_nearest 0 rfl) ?_
  refine P.iload_n (dq dtX7_nearest 1 rfl) rfl ?_
  refine P.imul (dq dtX7_nearest 2 rfl) ?_
  refine P.iload_n (dq dtX7_nearest 3 rfl) rfl ?_
  refine P.iadd (dq dtX7_nearest 4 rfl) ?_
  refine P.iconst (dq dtX7_nearest 5 rfl) ?_
  refine P.isub (dq dtX7_nearest 6 rfl) ?_
  refine P.istore_n (dq dtX7_nearest 7 rfl) (by decide) rfl rfl ?_
  refine P.iload_n (dq dtX7_nearest 8 rfl) rfl ?_
  refine P.iconst (dq dtX7_nearest 9 rfl) ?_
  refine P.iload_n (dq dtX7_nearest 10 rfl) rfl ?_
  refine P.imul (dq dtX7_nearest 11 rfl) ?_
  refine P.idiv (dq dtX7_nearest 12 rfl) (by omega) (by omega) (by omega) ?_
  refine P.iload_n (dq dtX7_nearest 13 rfl) rfl ?_
  refine P.iconst (dq dtX7_nearest 14 rfl) ?_
  refine P.iload_n (dq dtX7_nearest 15 rfl) rfl ?_
  refine P.imul (dq dtX7_nearest 16 rfl) ?_
  refine P.irem (dq dtX7_nearest 17 rfl) (by omega) (by omega) (by omega) ?_
  refine P.if_ge (t := 25) (dq dtX7_nearest 18 rfl) rfl (by omega) (fun c_18 => ?_) (fun c_18 => ?_)
  · refine P.iconst (dq dtX7_nearest 21 rfl) ?_
    refine P.isub (dq dtX7_nearest 22 rfl) ?_
    refine P.iret (dq dtX7_nearest 23 rfl) rfl rfl rfl ?_
    rcases Int.lt_or_le (2 * a + c - 1) 0 with hv | hv <;> first | (rw [← f1 (by omega)] at h; rw [Int.sub_zero]; exact h) | (rw [← f2 (by omega)] at h; rw [Int.sub_zero]; exact h) | (rw [f3 (by omega) (by omega)]; exact h) | (exfalso; omega)
  · refine P.iconst (dq dtX7_nearest 19 rfl) ?_
    refine P.goto (t := 26) (dq dtX7_nearest 20 rfl) rfl ?_
    refine P.isub (dq dtX7_nearest 22 rfl) ?_
    refine P.iret (dq dtX7_nearest 23 rfl) rfl rfl rfl ?_
    rcases Int.lt_or_le (2 * a + c - 1) 0 with hv | hv <;> first | (rw [← f1 (by omega)] at h; rw [Int.sub_zero]; exact h) | (rw [← f2 (by omega)] at h; rw [Int.sub_zero]; exact h) | (rw [f3 (by omega) (by omega)]; exact h) | (exfalso; omega)
/-- a round of greatestDivisor -/
theorem gd_head {x : CX} {d N : Nat} {σ : PH} {Q : PQ} {i j a c r : Int} (ha : 0 ≤ a ∧ a < 2147483648) (hc : 0 ≤ c ∧ c < 2147483648) (hr : 0 ≤ r ∧ r ≤ 64) (kx : 64 ≤ r ∨ c = 0 → Q (some (vI a)) σ)
    (ks : r < 64 → c ≠ 0 → P x d mX6_greatestDivisor Q (0, 0) 7 [some (vI i), some (vI j), some (vI c), some (vI (a.tmod c)), some (vI (r + 1)), none] [] N σ) : P x d mX6_greatestDivisor Q (0, 0) 7 [some (vI i), some (vI j), some (vI a), some (vI c), some (vI r), none] [] N σ := by
  refine P.iload (dq dtX6_greatestDivisor 6 rfl) rfl ?_
  refine P.bipush (dq dtX6_greatestDivisor 7 rfl) rfl ?_
  refine P.icmp_ge (t := 34) (dq dtX6_greatestDivisor 8 rfl) rfl (by omega) (by omega) (fun c_11 => ?_) (fun c_11 => ?_)
  · refine P.iload_n (dq dtX6_greatestDivisor 21 rfl) rfl ?_
    refine P.iret (dq dtX6_greatestDivisor 22 rfl) rfl rfl rfl ?_
    exact kx (by omega)
  · refine P.iload_n (dq dtX6_greatestDivisor 9 rfl) rfl ?_
    refine P.if_eq (t := 34) (dq dtX6_greatestDivisor 10 rfl) rfl (by omega) (fun c_15 => ?_) (fun c_15 => ?_)
    · refine P.iload_n (dq dtX6_greatestDivisor 21 rfl) rfl ?_
      refine P.iret (dq dtX6_greatestDivisor 22 rfl) rfl rfl rfl ?_
      exact kx (by omega)
    · refine P.iload_n (dq dtX6_greatestDivisor 11 rfl) rfl ?_
      refine P.iload_n (dq dtX6_greatestDivisor 12 rfl) rfl ?_
      refine P.irem (dq dtX6_greatestDivisor 13 rfl) (by omega) (by omega) (by omega) ?_
      refine P.istore (dq dtX6_greatestDivisor 14 rfl) (by decide) rfl rfl ?_
      refine P.iload_n (dq dtX6_greatestDivisor 15 rfl) rfl ?_
      refine P.istore_n (dq dtX6_greatestDivisor 16 rfl) (by decide) rfl rfl ?_
      refine P.iload (dq dtX6_greatestDivisor 17 rfl) rfl ?_
      refine P.istore_n (dq dtX6_greatestDivisor 18 rfl) (by decide) rfl rfl ?_
      refine P.iinc (dq dtX6_greatestDivisor 19 rfl) rfl (by decide) rfl rfl ?_
      refine P.goto (t := 7) (dq dtX6_greatestDivisor 20 rfl) rfl ?_
      refine P.keep [0, 1, 2, 3, 4] ?_
      exact ks (by omega) (by omega)
theorem gd_loop {x : CX} {d N : Nat} {σ : PH} {Q : PQ} {i j : Int} : ∀ (m : Nat) (a c r : Int), (0 ≤ a ∧ a < 2147483648) → (0 ≤ c ∧ c < 2147483648) → c < 2 ^ m → 0 ≤ r → r + 2 * (m : Int) ≤ 64 → Q (some (vI (gcdI a c))) σ → P x d mX6_greatestDivisor Q (0, 0) 7 [some (vI i), some (vI j), some (vI a), some (vI c), some (vI r), none] [] N σ := by
  intro m
  induction m with
  | zero =>
    intro a c r ha hc h1 h2 h3 h
    have hc0 : c = 0 := by simp at h1; omega
    subst hc0
    rw [gcdI_0 ha.1] at h
    exact gd_head ha hc (by omega) (fun _ => h) (fun _ h9 => absurd rfl h9)
  | succ m ih =>
    intro a c r ha hc h1 h2 h3 h
    refine gd_head ha hc (by omega) (fun h9 => ?_) (fun _ hne => ?_)
    · have hc0 : c = 0 := by omega
      rw [hc0, gcdI_0 ha.1] at h
      exact h
    · have hcp : 0 < c := by omega
      rw [← gcdI_step ha.1 hcp] at h
      obtain ⟨t1, t2⟩ := tmod_b ha.1 hcp
      generalize a.tmod c = u at *
      refine gd_head (by omega) (by omega) (by omega) (fun h9 => ?_) (fun _ hne2 => ?_)
      · have hu0 : u = 0 := by omega
        rw [hu0, gcdI_0 (by omega)] at h
        exact h
      · have hup : 0 < u := by omega
        rw [← gcdI_step (by omega) hup] at h
        have hh := tmod_half hup t2
        obtain ⟨t3, t4⟩ := tmod_b (a := c) (by omega) hup
        have hp : (2 : Int) ^ (m + 1) = 2 * 2 ^ m := by rw [Int.pow_succ]; omega
        rw [hp] at h1
        rw [show r + 1 + 1 = r + 2 by omega]
        exact ih u (c.tmod u) (r + 2) (by omega) (by omega) (by omega) (by omega) (by omega) h
/-- AxisTable.greatestDivisor -/
theorem ct_X6_greatestDivisor {x : CM} {d N : Nat} {σ : PH} {Q : PQ} {a c : Int} (ha : 0 ≤ a ∧ a < 2147483648) (hc : 0 ≤ c ∧ c < 2147483648) (h : Q (some (vI (gcdI a c))) σ) : Call x d 0 0 mX6_greatestDivisor [vI a, vI c] N σ Q := by
  refine Call.of mcX6_greatestDivisor (Nat.le_of_ble_eq_true rfl) (fun y hy => ?_)
  subst hy
  refine P.iload_n (dq dtX6_greatestDivisor 0 rfl) rfl ?_
  refine P.istore_n (dq dtX6_greatestDivisor 1 rfl) (by decide) rfl rfl ?_
  refine P.iload_n (dq dtX6_greatestDivisor 2 rfl) rfl ?_
  refine P.istore_n (dq dtX6_greatestDivisor 3 rfl) (by decide) rfl rfl ?_
  refine P.iconst (dq dtX6_greatestDivisor 4 rfl) ?_
  refine P.istore (dq dtX6_greatestDivisor 5 rfl) (by decide) rfl rfl ?_
  exact gd_loop 31 a c 0 ha hc (by omega) (by omega) (by omega) h
/-- a fraction's part, in lowest terms -/
def prt (a c p : Int) : Int := if p = 0 then a.tdiv (gcdI (if 0 ≤ a then a else -a) c) else c.tdiv (gcdI (if 0 ≤ a then a else -a) c)
/-- AxisTable.partOf -/
theorem ct_X6_partOf {x : CM} {d N : Nat} {σ : PH} {Q : PQ} {a c p : Int} (hd : 1 ≤ d) (ha : -2147483648 < a ∧ a < 2147483648) (hc : 0 < c ∧ c < 2147483648) (hp : inR p) (h : Q (some (vI (prt a c p))) σ) : Call x d 0 0 mX6_partOf [vI a, vI c, vI p] N σ Q := by
  refine Call.of mcX6_partOf (Nat.le_of_ble_eq_true rfl) (fun y hy => ?_)
  subst hy
  have g1 := gcdI_pos (a := if 0 ≤ a then a else -a) hc.1
  have g2 := gcdI_le (a := if 0 ≤ a then a else -a) hc.1
  unfold prt at h
  refine P.iload_n (dq dtX6_partOf 0 rfl) rfl ?_
  refine P.callS1 (M' := mJ9_abs_0f7a4) (d' := d - 1) mlX6_279 mcJ9_abs_0f7a4 msJ9_abs_0f7a4 (dq dtX6_partOf 1 rfl) (by omega) (Nat.le_of_ble_eq_true rfl) ?_
  refine ct_abs (by omega) (fun n_1 => ?_) (fun n_1 => ?_)
  · first | rw [if_pos (show 0 ≤ a by omega)] at h g1 g2 | rw [if_neg (show ¬ 0 ≤ a by omega)] at h g1 g2
    refine P.iload_n (dq dtX6_partOf 2 rfl) rfl ?_
    refine P.callS2 (M' := mX6_greatestDivisor) (d' := d - 1) mlX6_284 mcX6_greatestDivisor msX6_greatestDivisor (dq dtX6_partOf 3 rfl) (by omega) (Nat.le_of_ble_eq_true rfl) ?_
    refine ct_X6_greatestDivisor (by omega) (by omega) ?_
    refine P.istore_n (dq dtX6_partOf 4 rfl) (by decide) rfl rfl ?_
    refine P.iload_n (dq dtX6_partOf 5 rfl) rfl ?_
    refine P.iconst (dq dtX6_partOf 6 rfl) ?_
    refine P.icmp_ge (t := 16) (dq dtX6_partOf 7 rfl) rfl (by omega) (by omega) (fun c_11 => ?_) (fun c_11 => ?_)
    · refine P.iload_n (dq dtX6_partOf 10 rfl) rfl ?_
      refine P.if_ne (t := 26) (dq dtX6_partOf 11 rfl) rfl (by omega) (fun c_17 => ?_) (fun c_17 => ?_)
      · refine P.iload_n (dq dtX6_partOf 16 rfl) rfl ?_
        refine P.iload_n (dq dtX6_partOf 17 rfl) rfl ?_
        refine P.idiv (dq dtX6_partOf 18 rfl) (by omega) (by omega) (by omega) ?_
        refine P.iret (dq dtX6_partOf 19 rfl) rfl rfl rfl ?_
        first | (rw [if_pos (show p = 0 by omega)] at h; exact h) | (rw [if_neg (show ¬ p = 0 by omega)] at h; exact h)
      · refine P.iload_n (dq dtX6_partOf 12 rfl) rfl ?_
        refine P.iload_n (dq dtX6_partOf 13 rfl) rfl ?_
        refine P.idiv (dq dtX6_partOf 14 rfl) (by omega) (by omega) (by omega) ?_
        refine P.goto (t := 29) (dq dtX6_partOf 15 rfl) rfl ?_
        refine P.iret (dq dtX6_partOf 19 rfl) rfl rfl rfl ?_
        first | (rw [if_pos (show p = 0 by omega)] at h; exact h) | (rw [if_neg (show ¬ p = 0 by omega)] at h; exact h)
    · refine P.iconst (dq dtX6_partOf 8 rfl) ?_
      refine P.iret (dq dtX6_partOf 9 rfl) rfl rfl rfl ?_
      exfalso; omega
  · first | rw [if_pos (show 0 ≤ a by omega)] at h g1 g2 | rw [if_neg (show ¬ 0 ≤ a by omega)] at h g1 g2
    refine P.iload_n (dq dtX6_partOf 2 rfl) rfl ?_
    refine P.callS2 (M' := mX6_greatestDivisor) (d' := d - 1) mlX6_284 mcX6_greatestDivisor msX6_greatestDivisor (dq dtX6_partOf 3 rfl) (by omega) (Nat.le_of_ble_eq_true rfl) ?_
    refine ct_X6_greatestDivisor (by omega) (by omega) ?_
    refine P.istore_n (dq dtX6_partOf 4 rfl) (by decide) rfl rfl ?_
    refine P.iload_n (dq dtX6_partOf 5 rfl) rfl ?_
    refine P.iconst (dq dtX6_partOf 6 rfl) ?_
    refine P.icmp_ge (t := 16) (dq dtX6_partOf 7 rfl) rfl (by omega) (by omega) (fun c_11 => ?_) (fun c_11 => ?_)
    · refine P.iload_n (dq dtX6_partOf 10 rfl) rfl ?_
      refine P.if_ne (t := 26) (dq dtX6_partOf 11 rfl) rfl (by omega) (fun c_17 => ?_) (fun c_17 => ?_)
      · refine P.iload_n (dq dtX6_partOf 16 rfl) rfl ?_
        refine P.iload_n (dq dtX6_partOf 17 rfl) rfl ?_
        refine P.idiv (dq dtX6_partOf 18 rfl) (by omega) (by omega) (by omega) ?_
        refine P.iret (dq dtX6_partOf 19 rfl) rfl rfl rfl ?_
        first | (rw [if_pos (show p = 0 by omega)] at h; exact h) | (rw [if_neg (show ¬ p = 0 by omega)] at h; exact h)
      · refine P.iload_n (dq dtX6_partOf 12 rfl) rfl ?_
        refine P.iload_n (dq dtX6_partOf 13 rfl) rfl ?_
        refine P.idiv (dq dtX6_partOf 14 rfl) (by omega) (by omega) (by omega) ?_
        refine P.goto (t := 29) (dq dtX6_partOf 15 rfl) rfl ?_
        refine P.iret (dq dtX6_partOf 19 rfl) rfl rfl rfl ?_
        first | (rw [if_pos (show p = 0 by omega)] at h; exact h) | (rw [if_neg (show ¬ p = 0 by omega)] at h; exact h)
    · refine P.iconst (dq dtX6_partOf 8 rfl) ?_
      refine P.iret (dq dtX6_partOf 9 rfl) rfl rfl rfl ?_
      exfalso; omega
theorem mp_head {x : CX} {d N q : Nat} {σ : PH} {Q : PQ} {a b p u v : Int} (hu : 0 ≤ u ∧ u < 2147483648) (hv : 0 ≤ v ∧ v < 2147483648) (ha : inR a) (hb : inR b) (hp : inR p) (kx : v = 0 → 0 < u → Q (some (vI (if p = 0 then a.tdiv u else b.tdiv u))) σ) (hx : 0 < u ∨ v ≠ 0)
    (ks : v ≠ 0 → P x d mX7_part Q (0, 0) 15 [some (vR q), some (vI a), some (vI b), some (vI p), some (vI v), some (vI (u.tmod v)), none] [] N σ) : P x d mX7_part Q (0, 0) 15 [some (vR q), some (vI a), some (vI b), some (vI p), some (vI u), some (vI v), none] [] N σ := by
  refine P.iload (dq dtX7_part 9 rfl) rfl ?_
  refine P.if_eq (t := 38) (dq dtX7_part 10 rfl) rfl (by omega) (fun c_17 => ?_) (fun c_17 => ?_)
  · refine P.iload_n (dq dtX7_part 20 rfl) rfl ?_
    refine P.if_ne (t := 49) (dq dtX7_part 21 rfl) rfl (by omega) (fun c_39 => ?_) (fun c_39 => ?_)
    · refine P.iload_n (dq dtX7_part 26 rfl) rfl ?_
      refine P.iload (dq dtX7_part 27 rfl) rfl ?_
      refine P.idiv (dq dtX7_part 28 rfl) (by omega) (by omega) (by omega) ?_
      refine P.iret (dq dtX7_part 29 rfl) rfl rfl rfl ?_
      first | (have h := kx (by omega) (by omega); rw [if_pos (show p = 0 by omega)] at h; exact h) | (have h := kx (by omega) (by omega); rw [if_neg (show ¬ p = 0 by omega)] at h; exact h)
    · refine P.iload_n (dq dtX7_part 22 rfl) rfl ?_
      refine P.iload (dq dtX7_part 23 rfl) rfl ?_
      refine P.idiv (dq dtX7_part 24 rfl) (by omega) (by omega) (by omega) ?_
      refine P.goto (t := 53) (dq dtX7_part 25 rfl) rfl ?_
      refine P.iret (dq dtX7_part 29 rfl) rfl rfl rfl ?_
      first | (have h := kx (by omega) (by omega); rw [if_pos (show p = 0 by omega)] at h; exact h) | (have h := kx (by omega) (by omega); rw [if_neg (show ¬ p = 0 by omega)] at h; exact h)
  · refine P.iload (dq dtX7_part 11 rfl) rfl ?_
    refine P.iload (dq dtX7_part 12 rfl) rfl ?_
    refine P.irem (dq dtX7_part 13 rfl) (by omega) (by omega) (by omega) ?_
    refine P.istore (dq dtX7_part 14 rfl) (by decide) rfl rfl ?_
    refine P.iload (dq dtX7_part 15 rfl) rfl ?_
    refine P.istore (dq dtX7_part 16 rfl) (by decide) rfl rfl ?_
    refine P.iload (dq dtX7_part 17 rfl) rfl ?_
    refine P.istore (dq dtX7_part 18 rfl) (by decide) rfl rfl ?_
    refine P.goto (t := 15) (dq dtX7_part 19 rfl) rfl ?_
    refine P.keep [0, 1, 2, 3, 4, 5] ?_
    exact ks (by omega)
theorem mp_loop {x : CX} {d N q : Nat} {σ : PH} {Q : PQ} {a b p : Int} (ha : inR a) (hb : inR b) (hp : inR p) : ∀ (m : Nat) (u v : Int), (0 ≤ u ∧ u < 2147483648) → (0 ≤ v ∧ v < 2147483648) → v < m → (0 < u ∨ v ≠ 0) → Q (some (vI (if p = 0 then a.tdiv (gcdI u v) else b.tdiv (gcdI u v)))) σ → P x d mX7_part Q (0, 0) 15 [some (vR q), some (vI a), some (vI b), some (vI p), some (vI u), some (vI v), none] [] N σ := by
  intro m
  induction m with
  | zero => intro u v hu hv h1; omega
  | succ m ih =>
    intro u v hu hv h1 hx h
    refine mp_head hu hv ha hb hp (fun h9 _ => ?_) hx (fun hne => ?_)
    · rw [h9, gcdI_0 hu.1] at h
      exact h
    · have hvp : 0 < v := by omega
      rw [← gcdI_step hu.1 hvp] at h
      obtain ⟨t1, t2⟩ := tmod_b hu.1 hvp
      exact ih v (u.tmod v) (by omega) (by omega) (by omega) (by omega) h
/-- AxisTableModel.part -/
theorem ct_X7_part {x : CM} {d N : Nat} {σ : PH} {Q : PQ} {q : Nat} {a c p : Int} (ha : -2147483648 < a ∧ a < 2147483648) (hc : 0 < c ∧ c < 2147483648) (hp : inR p) (h : Q (some (vI (prt a c p))) σ) : Call x d 0 0 mX7_part [vR q, vI a, vI c, vI p] N σ Q := by
  refine Call.of mcX7_part (Nat.le_of_ble_eq_true rfl) (fun y hy => ?_)
  subst hy
  unfold prt at h
  refine P.iload_n (dq dtX7_part 0 rfl) rfl ?_
  refine P.if_ge (t := 9) (dq dtX7_part 1 rfl) rfl (by omega) (fun c_1 => ?_) (fun c_1 => ?_)
  · refine P.iload_n (dq dtX7_part 5 rfl) rfl ?_
    first | rw [if_pos (show 0 ≤ a by omega)] at h | rw [if_neg (show ¬ 0 ≤ a by omega)] at h
    refine P.istore (dq dtX7_part 6 rfl) (by decide) rfl rfl ?_
    refine P.iload_n (dq dtX7_part 7 rfl) rfl ?_
    refine P.istore (dq dtX7_part 8 rfl) (by decide) rfl rfl ?_
    exact mp_loop (by omega) (by omega) (by omega) (c.toNat + 1) _ c (by omega) (by omega) (by omega) (by omega) h
  · refine P.iload_n (dq dtX7_part 2 rfl) rfl ?_
    refine P.ineg (dq dtX7_part 3 rfl) ?_
    refine P.goto (t := 10) (dq dtX7_part 4 rfl) rfl ?_
    first | rw [if_pos (show 0 ≤ a by omega)] at h | rw [if_neg (show ¬ 0 ≤ a by omega)] at h
    refine P.istore (dq dtX7_part 6 rfl) (by decide) rfl rfl ?_
    refine P.iload_n (dq dtX7_part 7 rfl) rfl ?_
    refine P.istore (dq dtX7_part 8 rfl) (by decide) rfl rfl ?_
    exact mp_loop (by omega) (by omega) (by omega) (c.toNat + 1) _ c (by omega) (by omega) (by omega) (by omega) h
