/-! the place of a count: sought step by step, or reckoned -/
theorem srF_skip {f : Int → Int} {y : Int} : ∀ (c n : Nat) (x : Int), (∀ j : Int, x ≤ j → j < x + c → f j < y) → srF f y (c + n) x = srF f y n (x + c) := by
  intro c
  induction c with
  | zero => intro n x _; rw [Nat.zero_add]; congr 1; omega
  | succ c ih =>
    intro n x h
    rw [show c + 1 + n = (c + n) + 1 by omega]
    show (if y ≤ f x then x else srF f y (c + n) (x + 1)) = _
    rw [if_neg (by have := h x (by omega) (by omega); omega), ih n (x + 1) (fun j h1 h2 => h j (by omega) (by omega))]
    congr 1
    omega
theorem srF_hit {f : Int → Int} {y x : Int} {n : Nat} (h : y ≤ f x) : srF f y (n + 1) x = x := if_pos h
theorem cntF_seg {co : Int → Int} {p s k x : Int} (hs : 0 < s) (hk : 0 ≤ k) (hk1 : k + 1 < p) (h0 : k * s ≤ x) (h1 : x ≤ (k + 1) * s) : cntF co p s x = co k + ((co (k + 1) - co k) * (x - k * s)) / s := by
  have e9 : (k + 1) * s = k * s + s := by rw [Int.add_mul, Int.one_mul]
  have hs0 : s ≠ 0 := by omega
  unfold cntF
  by_cases e : x = (k + 1) * s
  · have ex : x / s = k + 1 := by rw [e]; exact Int.mul_ediv_cancel _ hs0
    rw [ex]
    by_cases e2 : k + 1 ≤ p - 2
    · rw [Int.min_eq_left e2, e, show (k + 1) * s - (k + 1) * s = 0 by omega, Int.mul_zero, Int.zero_ediv, show (k + 1) * s - k * s = s by omega, Int.mul_ediv_cancel _ hs0]
      omega
    · rw [Int.min_eq_right (by omega), show p - 2 = k by omega]
  · have ex : x / s = k := by
      rw [show x = (x - k * s) + k * s by omega, Int.add_mul_ediv_right _ _ hs0, Int.ediv_eq_zero_of_lt (by omega) (by omega)]
      omega
    rw [ex, Int.min_eq_left (by omega)]
theorem plF_sr {co : Int → Int} {p s y : Int} (hT : TB co p) (hp : 2 ≤ p) (hs : 0 < s) : ∀ (t : Nat) (k : Int), 0 ≤ k → k + t = p - 1 → co k < y → srF (cntF co p s) y ((p - 1) * s - k * s + 1).toNat (k * s) = plF co s y t k := by
  intro t
  induction t with
  | zero =>
    intro k h0 h1 hy
    obtain rfl : k = p - 1 := by omega
    rw [show ((p - 1) * s - (p - 1) * s + 1).toNat = 1 by omega]
    have e9 : (p - 1) * s = (p - 2) * s + s := by
      rw [show p - 1 = (p - 2) + 1 by omega, Int.add_mul, Int.one_mul]
    have e := cntF_seg (co := co) (p := p) (s := s) (k := p - 2) (x := (p - 1) * s) hs (by omega) (by omega) (by omega) (by rw [show p - 2 + 1 = p - 1 by omega]; exact Int.le_refl _)
    rw [show p - 2 + 1 = p - 1 by omega, show (p - 1) * s - (p - 2) * s = s by omega, Int.mul_ediv_cancel _ (show s ≠ 0 by omega)] at e
    show (if y ≤ cntF co p s ((p - 1) * s) then _ else (-100000 : Int)) = -100000
    rw [if_neg (by omega)]
  | succ t ih =>
    intro k h0 h1 hy
    have e9 : (k + 1) * s = k * s + s := by rw [Int.add_mul, Int.one_mul]
    have hr := hT.2 k h0 (by omega)
    have hle : (k + 1) * s ≤ (p - 1) * s := Int.mul_le_mul_of_nonneg_right (by omega) (by omega)
    have seg := fun (x : Int) (a : k * s ≤ x) (b : x ≤ (k + 1) * s) => cntF_seg (co := co) (p := p) (x := x) hs h0 (by omega) a b
    show _ = if y ≤ co (k + 1) then k * s - (-(y - co k) * s) / (co (k + 1) - co k) else plF co s y t (k + 1)
    by_cases hc : y ≤ co (k + 1)
    · rw [if_pos hc]
      generalize hm : (-(y - co k) * s) / (co (k + 1) - co k) = m
      have q1 : m * (co (k + 1) - co k) ≤ -(y - co k) * s := by rw [← hm]; exact Int.ediv_mul_le _ (by omega)
      have q2 : -(y - co k) * s < (m + 1) * (co (k + 1) - co k) := by rw [← hm]; exact Int.lt_ediv_add_one_mul_self _ (by omega)
      have q3 : 0 < (y - co k) * s := Int.mul_pos (by omega) hs
      have q4 : -(y - co k) * s = -((y - co k) * s) := Int.neg_mul _ _
      have q5 : -s ≤ m := by
        rw [← hm]
        refine Int.le_ediv_of_mul_le (by omega) ?_
        have a1 : (y - co k) * s ≤ (co (k + 1) - co k) * s := Int.mul_le_mul_of_nonneg_right (by omega) (by omega)
        have a2 : -s * (co (k + 1) - co k) = -((co (k + 1) - co k) * s) := by rw [Int.neg_mul, Int.mul_comm]
        omega
      have q6 : m < 0 := by
        rcases Int.lt_or_le m 0 with a | a
        · exact a
        · have := Int.mul_nonneg a (show 0 ≤ co (k + 1) - co k by omega)
          omega
      have low : ∀ j : Int, k * s ≤ j → j < k * s + ((-m).toNat : Nat) → cntF co p s j < y := by
        intro j a b
        rw [seg j a (by omega)]
        have b1 : (m + 1) * (co (k + 1) - co k) ≤ (k * s - j) * (co (k + 1) - co k) := Int.mul_le_mul_of_nonneg_right (by omega) (by omega)
        have b2 : (k * s - j) * (co (k + 1) - co k) = -((co (k + 1) - co k) * (j - k * s)) := by
          rw [show k * s - j = -(j - k * s) by omega, Int.neg_mul, Int.mul_comm]
        have b3 : ((co (k + 1) - co k) * (j - k * s)) / s < y - co k := Int.ediv_lt_of_lt_mul hs (by omega)
        omega
      have hit : y ≤ cntF co p s (k * s - m) := by
        rw [seg _ (by omega) (by omega), show k * s - m - k * s = -m by omega]
        have b1 : (y - co k) ≤ ((co (k + 1) - co k) * -m) / s := by
          refine Int.le_ediv_of_mul_le hs ?_
          have : m * (co (k + 1) - co k) = -((co (k + 1) - co k) * -m) := by rw [Int.mul_neg, Int.neg_neg, Int.mul_comm]
          omega
        omega
      obtain ⟨n, hn⟩ : ∃ n : Nat, ((p - 1) * s - k * s + 1).toNat = (-m).toNat + (n + 1) := ⟨((p - 1) * s - k * s + 1).toNat - (-m).toNat - 1, by omega⟩
      rw [hn, srF_skip (-m).toNat (n + 1) (k * s) low, show k * s + ((-m).toNat : Nat) = k * s - m by omega]
      exact srF_hit hit
    · rw [if_neg hc, ← ih (k + 1) (by omega) (by omega) (by omega)]
      have low : ∀ j : Int, k * s ≤ j → j < k * s + (s.toNat : Nat) → cntF co p s j < y := by
        intro j a b
        rw [seg j a (by omega)]
        have b3 : ((co (k + 1) - co k) * (j - k * s)) / s ≤ co (k + 1) - co k := by
          refine Int.ediv_le_of_le_mul hs ?_
          exact Int.mul_le_mul_of_nonneg_left (by omega) (by omega)
        omega
      rw [show ((p - 1) * s - k * s + 1).toNat = s.toNat + ((p - 1) * s - (k + 1) * s + 1).toNat by omega, srF_skip s.toNat _ (k * s) low, show k * s + (s.toNat : Nat) = (k + 1) * s by omega]
theorem aPof_sr {v : MsV} {F : FgV} {y : Int} (hG : GMs v) (hF : FgR v F) (hy : -200 ≤ y ∧ y ≤ 2000) : aPof v F y = srF (cntF F.2.2.2.2.2.2 v.1 v.2.1) y ((v.1 - 1) * v.2.1 + 1).toNat 0 := by
  have hp := hG.1
  have hs := hG.2.1
  have hL9 := mul_bd (k := v.1 - 1) (s := v.2.1) (by omega) (by omega) (by omega) (by omega)
  unfold aPof
  rw [if_neg (fun z => z hy)]
  have e0 := cntF_seg (co := F.2.2.2.2.2.2) (p := v.1) (s := v.2.1) (k := 0) (x := 0) (by omega) (by omega) (by omega) (by omega) (by omega)
  rw [show (0 : Int) - 0 * v.2.1 = 0 by omega, Int.mul_zero, Int.zero_ediv, Int.add_zero] at e0
  by_cases hc : y ≤ F.2.2.2.2.2.2 0
  · rw [if_pos hc]
    obtain ⟨n, hn⟩ : ∃ n : Nat, ((v.1 - 1) * v.2.1 + 1).toNat = n + 1 := ⟨((v.1 - 1) * v.2.1).toNat, by omega⟩
    rw [hn, srF_hit (by omega)]
  · rw [if_neg hc, ← plF_sr (hF.tb hG) hp.1 (by omega) (v.1 - 1).toNat 0 (by omega) (by omega) (by omega), Int.zero_mul, Int.sub_zero]
