theorem up_sw {σ : PH} {q a : Nat} {e e' e1 e2 : PC} (h : q ≠ a) : up (up (up (up σ a e) q e1) a e') q e2 = up (up (up σ a e) a e') q e2 := by
  funext j; simp only [up]; repeat' split
  all_goals first | rfl | (exfalso; omega)
theorem lp_putAll {x : CX} {d N : Nat} {σ : PH} {Q : PQ} {q a r : Nat} {n : Int} {f : Int → Int} (hq : σ q = pcO 1 [vR a, vI n]) (ha : σ a = pcI 0 r f) (hn : 0 ≤ n ∧ n ≤ r ∧ r < 1000) {q2 a2 r2 : Nat} {m : Int} {g : Int → Int} (hq2 : σ q2 = pcO 1 [vR a2, vI m]) (ha2 : σ a2 = pcI 0 r2 g) (hm2 : 0 ≤ m ∧ m ≤ r2 ∧ r2 < 1000) (hd : 3 ≤ d) (hqq : q ≠ q2) (haa : a ≠ a2) (hr : n + m ≤ r) (h : Q none (up (up σ a (pcI 0 r (apF f g n m))) q (pcO 1 [vR a, vI (n + m)]))) : ∀ (t : Nat) (k : Int), 0 ≤ k ∧ k ≤ m → m - k < t → P x d mX1_putAll Q (0, 0) 7 [some (vR q), some (vR q2), some (vI m), some (vI k)] [] N (up (up σ a (pcI 0 r (apF f g n k))) q (pcO 1 [vR a, vI (n + k)])) := by
  intro t
  induction t with
  | zero =>
    intro k hk hm
    exfalso; omega
  | succ t ih =>
    intro k hk hm
    have hne : q ≠ a := ne_oI hq ha
    have h1 : q2 ≠ a := ne_oI hq2 ha
    have h2 : a2 ≠ q := Ne.symm (ne_oI hq ha2)
    refine P.iload_n (dq dtX1_putAll 5 rfl) rfl ?_
    refine P.iload_n (dq dtX1_putAll 6 rfl) rfl ?_
    refine P.icmp_ge (t := 27) (dq dtX1_putAll 7 rfl) rfl (by omega) (by omega) (fun c_9 => ?_) (fun c_9 => ?_)
    · refine P.vret (dq dtX1_putAll 15 rfl) rfl rfl rfl ?_
      obtain rfl : k = m := by omega
      exact h
    · refine P.aload_n (dq dtX1_putAll 8 rfl) rfl ?_
      refine P.aload_n (dq dtX1_putAll 9 rfl) rfl ?_
      refine P.iload_n (dq dtX1_putAll 10 rfl) rfl ?_
      refine P.callV1 (M' := mX1_at) (d' := d - 1) mlX1_33 mcX1_at mvX1_at (dq dtX1_putAll 11 rfl) (by omega) (Nat.le_of_ble_eq_true rfl) (by repeat (first | assumption | exact up_s | rw [up_n (by first | assumption | (apply Ne.symm; assumption) | decide | omega)])) rfl ?_
      refine ct_X1_at (by repeat (first | assumption | exact up_s | rw [up_n (by first | assumption | (apply Ne.symm; assumption) | decide | omega)])) (by repeat (first | assumption | exact up_s | rw [up_n (by first | assumption | (apply Ne.symm; assumption) | decide | omega)])) (by omega) (by omega) (fun n_15 => ?_) (fun n_15 => absurd (by omega) n_15)
      refine P.callV1 (M' := mX1_put) (d' := d - 1) mlX1_37 mcX1_put mvX1_put (dq dtX1_putAll 12 rfl) (by omega) (Nat.le_of_ble_eq_true rfl) (by repeat (first | assumption | exact up_s | rw [up_n (by first | assumption | (apply Ne.symm; assumption) | decide | omega)])) rfl ?_
      refine ct_X1_put (by repeat (first | assumption | exact up_s | rw [up_n (by first | assumption | (apply Ne.symm; assumption) | decide | omega)])) (by repeat (first | assumption | exact up_s | rw [up_n (by first | assumption | (apply Ne.symm; assumption) | decide | omega)])) (by omega) (by omega) (by omega) ?_
      refine P.iinc (dq dtX1_putAll 13 rfl) rfl (by decide) rfl rfl ?_
      refine P.goto (t := 7) (dq dtX1_putAll 14 rfl) rfl ?_
      rw [up_sw hne, up_up, apF_step (by omega), show n + k + 1 = n + (k + 1) by omega]
      exact ih (k + 1) (by omega) (by omega)
/-- Letters.putAll of another row -/
theorem ct_X1_putAll {x : CM} {d N : Nat} {σ : PH} {Q : PQ} {q a r : Nat} {n : Int} {f : Int → Int} (hq : σ q = pcO 1 [vR a, vI n]) (ha : σ a = pcI 0 r f) (hn : 0 ≤ n ∧ n ≤ r ∧ r < 1000) {q2 a2 r2 : Nat} {m : Int} {g : Int → Int} (hq2 : σ q2 = pcO 1 [vR a2, vI m]) (ha2 : σ a2 = pcI 0 r2 g) (hm2 : 0 ≤ m ∧ m ≤ r2 ∧ r2 < 1000) (hd : 3 ≤ d) (hqq : q ≠ q2) (haa : a ≠ a2) (hr : n + m ≤ r) (h : Q none (up (up σ a (pcI 0 r (apF f g n m))) q (pcO 1 [vR a, vI (n + m)]))) : Call x d 0 0 mX1_putAll [vR q, vR q2] N σ Q := by
  refine Call.of mcX1_putAll (Nat.le_of_ble_eq_true rfl) (fun y hy => ?_)
  subst hy
  refine P.aload_n (dq dtX1_putAll 0 rfl) rfl ?_
  refine P.get flX1_9 (dq dtX1_putAll 1 rfl) (by repeat (first | assumption | exact up_s | rw [up_n (by first | assumption | (apply Ne.symm; assumption) | decide | omega)])) (by rfl) ?_
  refine P.istore_n (dq dtX1_putAll 2 rfl) (by decide) rfl rfl ?_
  refine P.iconst (dq dtX1_putAll 3 rfl) ?_
  refine P.istore_n (dq dtX1_putAll 4 rfl) (by decide) rfl rfl ?_
  have e0 : σ = up (up σ a (pcI 0 r (apF f g n 0))) q (pcO 1 [vR a, vI (n + 0)]) := by rw [apF_0, up_id ha, Int.add_zero, up_id hq]
  rw [e0]
  exact lp_putAll hq ha hn hq2 ha2 hm2 hd hqq haa hr h (m + 1).toNat 0 (by omega) (by omega)
theorem lp_putSelf {x : CX} {d N : Nat} {σ : PH} {Q : PQ} {q a r : Nat} {n : Int} {f : Int → Int} (hq : σ q = pcO 1 [vR a, vI n]) (ha : σ a = pcI 0 r f) (hn : 0 ≤ n ∧ n ≤ r ∧ r < 1000) (hd : 3 ≤ d) (hr : n + n ≤ r) (h : Q none (up (up σ a (pcI 0 r (apF f f n n))) q (pcO 1 [vR a, vI (n + n)]))) : ∀ (t : Nat) (k : Int), 0 ≤ k ∧ k ≤ n → n - k < t → P x d mX1_putAll Q (0, 0) 7 [some (vR q), some (vR q), some (vI n), some (vI k)] [] N (up (up σ a (pcI 0 r (apF f f n k))) q (pcO 1 [vR a, vI (n + k)])) := by
  intro t
  induction t with
  | zero =>
    intro k hk hm
    exfalso; omega
  | succ t ih =>
    intro k hk hm
    have hne : q ≠ a := ne_oI hq ha
    refine P.iload_n (dq dtX1_putAll 5 rfl) rfl ?_
    refine P.iload_n (dq dtX1_putAll 6 rfl) rfl ?_
    refine P.icmp_ge (t := 27) (dq dtX1_putAll 7 rfl) rfl (by omega) (by omega) (fun c_9 => ?_) (fun c_9 => ?_)
    · refine P.vret (dq dtX1_putAll 15 rfl) rfl rfl rfl ?_
      obtain rfl : k = n := by omega
      exact h
    · refine P.aload_n (dq dtX1_putAll 8 rfl) rfl ?_
      refine P.aload_n (dq dtX1_putAll 9 rfl) rfl ?_
      refine P.iload_n (dq dtX1_putAll 10 rfl) rfl ?_
      refine P.callV1 (M' := mX1_at) (d' := d - 1) mlX1_33 mcX1_at mvX1_at (dq dtX1_putAll 11 rfl) (by omega) (Nat.le_of_ble_eq_true rfl) (by repeat (first | assumption | exact up_s | rw [up_n (by first | assumption | (apply Ne.symm; assumption) | decide | omega)])) rfl ?_
      refine ct_X1_at (by repeat (first | assumption | exact up_s | rw [up_n (by first | assumption | (apply Ne.symm; assumption) | decide | omega)])) (by repeat (first | assumption | exact up_s | rw [up_n (by first | assumption | (apply Ne.symm; assumption) | decide | omega)])) (by omega) (by omega) (fun n_15 => ?_) (fun n_15 => absurd (by omega) n_15)
      refine P.callV1 (M' := mX1_put) (d' := d - 1) mlX1_37 mcX1_put mvX1_put (dq dtX1_putAll 12 rfl) (by omega) (Nat.le_of_ble_eq_true rfl) (by repeat (first | assumption | exact up_s | rw [up_n (by first | assumption | (apply Ne.symm; assumption) | decide | omega)])) rfl ?_
      refine ct_X1_put (by repeat (first | assumption | exact up_s | rw [up_n (by first | assumption | (apply Ne.symm; assumption) | decide | omega)])) (by repeat (first | assumption | exact up_s | rw [up_n (by first | assumption | (apply Ne.symm; assumption) | decide | omega)])) (by omega) (by omega) (by omega) ?_
      refine P.iinc (dq dtX1_putAll 13 rfl) rfl (by decide) rfl rfl ?_
      refine P.goto (t := 7) (dq dtX1_putAll 14 rfl) rfl ?_
      rw [up_sw hne, up_up, show apF f f n k k = f k from if_neg (by omega), apF_step (by omega), show n + k + 1 = n + (k + 1) by omega]
      exact ih (k + 1) (by omega) (by omega)
/-- Letters.putAll of itself -/
theorem ct_X1_putSelf {x : CM} {d N : Nat} {σ : PH} {Q : PQ} {q a r : Nat} {n : Int} {f : Int → Int} (hq : σ q = pcO 1 [vR a, vI n]) (ha : σ a = pcI 0 r f) (hn : 0 ≤ n ∧ n ≤ r ∧ r < 1000) (hd : 3 ≤ d) (hr : n + n ≤ r) (h : Q none (up (up σ a (pcI 0 r (apF f f n n))) q (pcO 1 [vR a, vI (n + n)]))) : Call x d 0 0 mX1_putAll [vR q, vR q] N σ Q := by
  refine Call.of mcX1_putAll (Nat.le_of_ble_eq_true rfl) (fun y hy => ?_)
  subst hy
  refine P.aload_n (dq dtX1_putAll 0 rfl) rfl ?_
  refine P.get flX1_9 (dq dtX1_putAll 1 rfl) (by repeat (first | assumption | exact up_s | rw [up_n (by first | assumption | (apply Ne.symm; assumption) | decide | omega)])) (by rfl) ?_
  refine P.istore_n (dq dtX1_putAll 2 rfl) (by decide) rfl rfl ?_
  refine P.iconst (dq dtX1_putAll 3 rfl) ?_
  refine P.istore_n (dq dtX1_putAll 4 rfl) (by decide) rfl rfl ?_
  have e0 : σ = up (up σ a (pcI 0 r (apF f f n 0))) q (pcO 1 [vR a, vI (n + 0)]) := by rw [apF_0, up_id ha, Int.add_zero, up_id hq]
  rw [e0]
  exact lp_putSelf hq ha hn hd hr h (n + 1).toNat 0 (by omega) (by omega)
/-- Integer.compare -/
theorem ct_icompare {x : CM} {d N : Nat} {σ : PH} {Q : PQ} {a c : Int} (ha : inR a) (hc : inR c) (h : Q (some (vI (if a < c then -1 else if a = c then 0 else 1))) σ) : Call x d 0 0 mJ6_compare_7cf53 [vI a, vI c] N σ Q := by
  refine Call.of mcJ6_compare_7cf53 (Nat.le_of_ble_eq_true rfl) (fun y hy => ?_)
  subst hy
  refine P.iload_n (dq dtJ6_compare_7cf53 0 rfl) rfl ?_
  refine P.iload_n (dq dtJ6_compare_7cf53 1 rfl) rfl ?_
  refine P.icmp_ge (t := 9) (dq dtJ6_compare_7cf53 2 rfl) rfl (by omega) (by omega) (fun c_2 => ?_) (fun c_2 => ?_)
  · refine P.iload_n (dq dtJ6_compare_7cf53 5 rfl) rfl ?_
    refine P.iload_n (dq dtJ6_compare_7cf53 6 rfl) rfl ?_
    refine P.icmp_ne (t := 18) (dq dtJ6_compare_7cf53 7 rfl) rfl (by omega) (by omega) (fun c_11 => ?_) (fun c_11 => ?_)
    · refine P.iconst (dq dtJ6_compare_7cf53 10 rfl) ?_
      refine P.iret (dq dtJ6_compare_7cf53 11 rfl) rfl rfl rfl ?_
      first | (rw [if_pos (show a < c by omega)] at h; exact h) | (rw [if_neg (show ¬ a < c by omega), if_pos (show a = c by omega)] at h; exact h) | (rw [if_neg (show ¬ a < c by omega), if_neg (show ¬ a = c by omega)] at h; exact h)
    · refine P.iconst (dq dtJ6_compare_7cf53 8 rfl) ?_
      refine P.goto (t := 19) (dq dtJ6_compare_7cf53 9 rfl) rfl ?_
      refine P.iret (dq dtJ6_compare_7cf53 11 rfl) rfl rfl rfl ?_
      first | (rw [if_pos (show a < c by omega)] at h; exact h) | (rw [if_neg (show ¬ a < c by omega), if_pos (show a = c by omega)] at h; exact h) | (rw [if_neg (show ¬ a < c by omega), if_neg (show ¬ a = c by omega)] at h; exact h)
  · refine P.iconst (dq dtJ6_compare_7cf53 3 rfl) ?_
    refine P.goto (t := 19) (dq dtJ6_compare_7cf53 4 rfl) rfl ?_
    refine P.iret (dq dtJ6_compare_7cf53 11 rfl) rfl rfl rfl ?_
    first | (rw [if_pos (show a < c by omega)] at h; exact h) | (rw [if_neg (show ¬ a < c by omega), if_pos (show a = c by omega)] at h; exact h) | (rw [if_neg (show ¬ a < c by omega), if_neg (show ¬ a = c by omega)] at h; exact h)
theorem lp_order {x : CX} {d N : Nat} {σ : PH} {Q : PQ} {q a r : Nat} {n : Int} {f : Int → Int} (hq : σ q = pcO 1 [vR a, vI n]) (ha : σ a = pcI 0 r f) (hn : 0 ≤ n ∧ n ≤ r ∧ r < 1000) {q2 a2 r2 : Nat} {m : Int} {g : Int → Int} (hq2 : σ q2 = pcO 1 [vR a2, vI m]) (ha2 : σ a2 = pcI 0 r2 g) (hm2 : 0 ≤ m ∧ m ≤ r2 ∧ r2 < 1000) (hf : ∀ i, 0 ≤ i ∧ i < n → inR (f i)) (hg : ∀ i, 0 ≤ i ∧ i < m → inR (g i)) (hd : 1 ≤ d) : ∀ (t : Nat) (k : Int), 0 < t → 0 ≤ k → (k + t = n + 1 ∧ n ≤ m) ∨ (k + t = m + 1 ∧ m ≤ n) → Q (some (vI (ordF f g n m (t - 1) k))) σ → P x d mX1_orderAgainst Q (0, 0) 2 [some (vR q), some (vR q2), some (vI k)] [] N σ := by
  intro t
  induction t with
  | zero =>
    intro k h00 hk ht h
    exfalso; omega
  | succ t ih =>
    intro k h00 hk ht h
    refine P.iload_n (dq dtX1_orderAgainst 2 rfl) rfl ?_
    refine P.aload_n (dq dtX1_orderAgainst 3 rfl) rfl ?_
    refine P.get flX1_9 (dq dtX1_orderAgainst 4 rfl) (by repeat (first | assumption | exact up_s | rw [up_n (by first | assumption | (apply Ne.symm; assumption) | decide | omega)])) (by rfl) ?_
    refine P.icmp_ge (t := 56) (dq dtX1_orderAgainst 5 rfl) rfl (by omega) (by omega) (fun c_7 => ?_) (fun c_7 => ?_)
    · obtain rfl : t = 0 := by omega
      have hx : ordF f g n m (0 + 1 - 1) k = if n < m then 0 else if n = m then 1 else 2 := rfl
      rw [hx] at h
      refine P.iconst (dq dtX1_orderAgainst 30 rfl) ?_
      refine P.aload_n (dq dtX1_orderAgainst 31 rfl) rfl ?_
      refine P.get flX1_9 (dq dtX1_orderAgainst 32 rfl) (by repeat (first | assumption | exact up_s | rw [up_n (by first | assumption | (apply Ne.symm; assumption) | decide | omega)])) (by rfl) ?_
      refine P.aload_n (dq dtX1_orderAgainst 33 rfl) rfl ?_
      refine P.get flX1_9 (dq dtX1_orderAgainst 34 rfl) (by repeat (first | assumption | exact up_s | rw [up_n (by first | assumption | (apply Ne.symm; assumption) | decide | omega)])) (by rfl) ?_
      refine P.callS2 (M' := mJ6_compare_7cf53) (d' := d - 1) mlX1_41 mcJ6_compare_7cf53 msJ6_compare_7cf53 (dq dtX1_orderAgainst 35 rfl) (by omega) (Nat.le_of_ble_eq_true rfl) ?_
      refine ct_icompare (by omega) (by omega) ?_
      refine P.iadd (dq dtX1_orderAgainst 36 rfl) ?_
      refine P.iret (dq dtX1_orderAgainst 37 rfl) rfl rfl rfl ?_
      rcases Int.lt_trichotomy n m with z | z | z
      · rw [if_pos z] at h ⊢
        exact h
      · rw [if_neg (by omega), if_pos z] at h ⊢
        exact h
      · rw [if_neg (by omega), if_neg (by omega)] at h ⊢
        exact h
    · refine P.iload_n (dq dtX1_orderAgainst 6 rfl) rfl ?_
      refine P.aload_n (dq dtX1_orderAgainst 7 rfl) rfl ?_
      refine P.get flX1_9 (dq dtX1_orderAgainst 8 rfl) (by repeat (first | assumption | exact up_s | rw [up_n (by first | assumption | (apply Ne.symm; assumption) | decide | omega)])) (by rfl) ?_
      refine P.icmp_ge (t := 56) (dq dtX1_orderAgainst 9 rfl) rfl (by omega) (by omega) (fun c_15 => ?_) (fun c_15 => ?_)
      · obtain rfl : t = 0 := by omega
        have hx : ordF f g n m (0 + 1 - 1) k = if n < m then 0 else if n = m then 1 else 2 := rfl
        rw [hx] at h
        refine P.iconst (dq dtX1_orderAgainst 30 rfl) ?_
        refine P.aload_n (dq dtX1_orderAgainst 31 rfl) rfl ?_
        refine P.get flX1_9 (dq dtX1_orderAgainst 32 rfl) (by repeat (first | assumption | exact up_s | rw [up_n (by first | assumption | (apply Ne.symm; assumption) | decide | omega)])) (by rfl) ?_
        refine P.aload_n (dq dtX1_orderAgainst 33 rfl) rfl ?_
        refine P.get flX1_9 (dq dtX1_orderAgainst 34 rfl) (by repeat (first | assumption | exact up_s | rw [up_n (by first | assumption | (apply Ne.symm; assumption) | decide | omega)])) (by rfl) ?_
        refine P.callS2 (M' := mJ6_compare_7cf53) (d' := d - 1) mlX1_41 mcJ6_compare_7cf53 msJ6_compare_7cf53 (dq dtX1_orderAgainst 35 rfl) (by omega) (Nat.le_of_ble_eq_true rfl) ?_
        refine ct_icompare (by omega) (by omega) ?_
        refine P.iadd (dq dtX1_orderAgainst 36 rfl) ?_
        refine P.iret (dq dtX1_orderAgainst 37 rfl) rfl rfl rfl ?_
        rcases Int.lt_trichotomy n m with z | z | z
        · rw [if_pos z] at h ⊢
          exact h
        · rw [if_neg (by omega), if_pos z] at h ⊢
          exact h
        · rw [if_neg (by omega), if_neg (by omega)] at h ⊢
          exact h
      · have f1 := hf k (by omega)
        have f2 := hg k (by omega)
        obtain ⟨t, rfl⟩ : ∃ u, t = u + 1 := ⟨t - 1, by omega⟩
        have hx : ordF f g n m (t + 1 + 1 - 1) k = if f k = g k then ordF f g n m t (k + 1) else if f k < g k then 0 else 2 := rfl
        rw [hx] at h
        refine P.aload_n (dq dtX1_orderAgainst 10 rfl) rfl ?_
        refine P.iload_n (dq dtX1_orderAgainst 11 rfl) rfl ?_
        refine P.callV1 (M' := mX1_at) (d' := d - 1) mlX1_33 mcX1_at mvX1_at (dq dtX1_orderAgainst 12 rfl) (by omega) (Nat.le_of_ble_eq_true rfl) (by repeat (first | assumption | exact up_s | rw [up_n (by first | assumption | (apply Ne.symm; assumption) | decide | omega)])) rfl ?_
        refine ct_X1_at (by repeat (first | assumption | exact up_s | rw [up_n (by first | assumption | (apply Ne.symm; assumption) | decide | omega)])) (by repeat (first | assumption | exact up_s | rw [up_n (by first | assumption | (apply Ne.symm; assumption) | decide | omega)])) (by omega) (by omega) (fun n_20 => ?_) (fun n_20 => absurd (by omega) n_20)
        refine P.aload_n (dq dtX1_orderAgainst 13 rfl) rfl ?_
        refine P.iload_n (dq dtX1_orderAgainst 14 rfl) rfl ?_
        refine P.callV1 (M' := mX1_at) (d' := d - 1) mlX1_33 mcX1_at mvX1_at (dq dtX1_orderAgainst 15 rfl) (by omega) (Nat.le_of_ble_eq_true rfl) (by repeat (first | assumption | exact up_s | rw [up_n (by first | assumption | (apply Ne.symm; assumption) | decide | omega)])) rfl ?_
        refine ct_X1_at (by repeat (first | assumption | exact up_s | rw [up_n (by first | assumption | (apply Ne.symm; assumption) | decide | omega)])) (by repeat (first | assumption | exact up_s | rw [up_n (by first | assumption | (apply Ne.symm; assumption) | decide | omega)])) (by omega) (by omega) (fun n_25 => ?_) (fun n_25 => absurd (by omega) n_25)
        refine P.icmp_eq (t := 50) (dq dtX1_orderAgainst 16 rfl) rfl (by omega) (by omega) (fun c_28 => ?_) (fun c_28 => ?_)
        · refine P.iinc (dq dtX1_orderAgainst 28 rfl) rfl (by decide) rfl rfl ?_
          refine P.goto (t := 2) (dq dtX1_orderAgainst 29 rfl) rfl ?_
          rw [if_pos (by omega)] at h
          exact ih (k + 1) (by omega) (by omega) (by omega) h
        · refine P.aload_n (dq dtX1_orderAgainst 17 rfl) rfl ?_
          refine P.iload_n (dq dtX1_orderAgainst 18 rfl) rfl ?_
          refine P.callV1 (M' := mX1_at) (d' := d - 1) mlX1_33 mcX1_at mvX1_at (dq dtX1_orderAgainst 19 rfl) (by omega) (Nat.le_of_ble_eq_true rfl) (by repeat (first | assumption | exact up_s | rw [up_n (by first | assumption | (apply Ne.symm; assumption) | decide | omega)])) rfl ?_
          refine ct_X1_at (by repeat (first | assumption | exact up_s | rw [up_n (by first | assumption | (apply Ne.symm; assumption) | decide | omega)])) (by repeat (first | assumption | exact up_s | rw [up_n (by first | assumption | (apply Ne.symm; assumption) | decide | omega)])) (by omega) (by omega) (fun n_33 => ?_) (fun n_33 => absurd (by omega) n_33)
          refine P.aload_n (dq dtX1_orderAgainst 20 rfl) rfl ?_
          refine P.iload_n (dq dtX1_orderAgainst 21 rfl) rfl ?_
          refine P.callV1 (M' := mX1_at) (d' := d - 1) mlX1_33 mcX1_at mvX1_at (dq dtX1_orderAgainst 22 rfl) (by omega) (Nat.le_of_ble_eq_true rfl) (by repeat (first | assumption | exact up_s | rw [up_n (by first | assumption | (apply Ne.symm; assumption) | decide | omega)])) rfl ?_
          refine ct_X1_at (by repeat (first | assumption | exact up_s | rw [up_n (by first | assumption | (apply Ne.symm; assumption) | decide | omega)])) (by repeat (first | assumption | exact up_s | rw [up_n (by first | assumption | (apply Ne.symm; assumption) | decide | omega)])) (by omega) (by omega) (fun n_38 => ?_) (fun n_38 => absurd (by omega) n_38)
          refine P.icmp_ge (t := 48) (dq dtX1_orderAgainst 23 rfl) rfl (by omega) (by omega) (fun c_41 => ?_) (fun c_41 => ?_)
          · refine P.iconst (dq dtX1_orderAgainst 26 rfl) ?_
            refine P.iret (dq dtX1_orderAgainst 27 rfl) rfl rfl rfl ?_
            first | (rw [if_neg (show ¬ f k = g k by omega), if_pos (show f k < g k by omega)] at h; exact h) | (rw [if_neg (show ¬ f k = g k by omega), if_neg (show ¬ f k < g k by omega)] at h; exact h)
          · refine P.iconst (dq dtX1_orderAgainst 24 rfl) ?_
            refine P.goto (t := 49) (dq dtX1_orderAgainst 25 rfl) rfl ?_
            refine P.iret (dq dtX1_orderAgainst 27 rfl) rfl rfl rfl ?_
            first | (rw [if_neg (show ¬ f k = g k by omega), if_pos (show f k < g k by omega)] at h; exact h) | (rw [if_neg (show ¬ f k = g k by omega), if_neg (show ¬ f k < g k by omega)] at h; exact h)
/-- Letters.orderAgainst -/
theorem ct_X1_orderAgainst {x : CM} {d N : Nat} {σ : PH} {Q : PQ} {q a r : Nat} {n : Int} {f : Int → Int} (hq : σ q = pcO 1 [vR a, vI n]) (ha : σ a = pcI 0 r f) (hn : 0 ≤ n ∧ n ≤ r ∧ r < 1000) {q2 a2 r2 : Nat} {m : Int} {g : Int → Int} (hq2 : σ q2 = pcO 1 [vR a2, vI m]) (ha2 : σ a2 = pcI 0 r2 g) (hm2 : 0 ≤ m ∧ m ≤ r2 ∧ r2 < 1000) (hf : ∀ i, 0 ≤ i ∧ i < n → inR (f i)) (hg : ∀ i, 0 ≤ i ∧ i < m → inR (g i)) (hd : 1 ≤ d) (h : Q (some (vI (ordF f g n m (min n m).toNat 0))) σ) : Call x d 0 0 mX1_orderAgainst [vR q, vR q2] N σ Q := by
  refine Call.of mcX1_orderAgainst (Nat.le_of_ble_eq_true rfl) (fun y hy => ?_)
  subst hy
  refine P.iconst (dq dtX1_orderAgainst 0 rfl) ?_
  refine P.istore_n (dq dtX1_orderAgainst 1 rfl) (by decide) rfl rfl ?_
  exact lp_order hq ha hn hq2 ha2 hm2 hf hg hd ((min n m).toNat + 1) 0 (by omega) (by omega) (by omega) h
theorem lp_hasAt {x : CX} {d N : Nat} {σ : PH} {Q : PQ} {q a r : Nat} {n : Int} {f : Int → Int} (hq : σ q = pcO 1 [vR a, vI n]) (ha : σ a = pcI 0 r f) (hn : 0 ≤ n ∧ n ≤ r ∧ r < 1000) {q2 a2 r2 : Nat} {m : Int} {g : Int → Int} (hq2 : σ q2 = pcO 1 [vR a2, vI m]) (ha2 : σ a2 = pcI 0 r2 g) (hm2 : 0 ≤ m ∧ m ≤ r2 ∧ r2 < 1000) (hf : ∀ i, 0 ≤ i ∧ i < n → inR (f i)) (hg : ∀ i, 0 ≤ i ∧ i < m → inR (g i)) (hd : 1 ≤ d) {u : Int} (hu : 0 ≤ u ∧ u + m ≤ n) : ∀ (t : Nat) (k : Int), 0 < t → 0 ≤ k → k + t = m + 1 → (eqF f g u (t - 1) k = true → Q (some (vI 1)) σ) → (eqF f g u (t - 1) k = false → Q (some (vI 0)) σ) → P x d mX1_hasAt Q (0, 0) 2 [some (vR q), some (vI u), some (vR q2), some (vI k)] [] N σ := by
  intro t
  induction t with
  | zero =>
    intro k h00 hk ht h1 h0
    exfalso; omega
  | succ t ih =>
    intro k h00 hk ht h1 h0
    refine P.iload_n (dq dtX1_hasAt 2 rfl) rfl ?_
    refine P.aload_n (dq dtX1_hasAt 3 rfl) rfl ?_
    refine P.get flX1_9 (dq dtX1_hasAt 4 rfl) (by repeat (first | assumption | exact up_s | rw [up_n (by first | assumption | (apply Ne.symm; assumption) | decide | omega)])) (by rfl) ?_
    refine P.icmp_ge (t := 33) (dq dtX1_hasAt 5 rfl) rfl (by omega) (by omega) (fun c_7 => ?_) (fun c_7 => ?_)
    · refine P.iconst (dq dtX1_hasAt 19 rfl) ?_
      refine P.zret (dq dtX1_hasAt 20 rfl) rfl rfl (by decide) rfl ?_
      obtain rfl : t = 0 := by omega
      exact h1 rfl
    · have f1 := hf (u + k) (by omega)
      have f2 := hg k (by omega)
      obtain ⟨t, rfl⟩ : ∃ w, t = w + 1 := ⟨t - 1, by omega⟩
      have hx : eqF f g u (t + 1 + 1 - 1) k = (decide (f (u + k) = g k) && eqF f g u t (k + 1)) := rfl
      rw [hx] at h1 h0
      refine P.aload_n (dq dtX1_hasAt 6 rfl) rfl ?_
      refine P.iload_n (dq dtX1_hasAt 7 rfl) rfl ?_
      refine P.iload_n (dq dtX1_hasAt 8 rfl) rfl ?_
      refine P.iadd (dq dtX1_hasAt 9 rfl) ?_
      refine P.callV1 (M' := mX1_at) (d' := d - 1) mlX1_33 mcX1_at mvX1_at (dq dtX1_hasAt 10 rfl) (by omega) (Nat.le_of_ble_eq_true rfl) (by repeat (first | assumption | exact up_s | rw [up_n (by first | assumption | (apply Ne.symm; assumption) | decide | omega)])) rfl ?_
      refine ct_X1_at (by repeat (first | assumption | exact up_s | rw [up_n (by first | assumption | (apply Ne.symm; assumption) | decide | omega)])) (by repeat (first | assumption | exact up_s | rw [up_n (by first | assumption | (apply Ne.symm; assumption) | decide | omega)])) (by omega) (by omega) (fun n_14 => ?_) (fun n_14 => absurd (by omega) n_14)
      refine P.aload_n (dq dtX1_hasAt 11 rfl) rfl ?_
      refine P.iload_n (dq dtX1_hasAt 12 rfl) rfl ?_
      refine P.callV1 (M' := mX1_at) (d' := d - 1) mlX1_33 mcX1_at mvX1_at (dq dtX1_hasAt 13 rfl) (by omega) (Nat.le_of_ble_eq_true rfl) (by repeat (first | assumption | exact up_s | rw [up_n (by first | assumption | (apply Ne.symm; assumption) | decide | omega)])) rfl ?_
      refine ct_X1_at (by repeat (first | assumption | exact up_s | rw [up_n (by first | assumption | (apply Ne.symm; assumption) | decide | omega)])) (by repeat (first | assumption | exact up_s | rw [up_n (by first | assumption | (apply Ne.symm; assumption) | decide | omega)])) (by omega) (by omega) (fun n_19 => ?_) (fun n_19 => absurd (by omega) n_19)
      refine P.icmp_eq (t := 27) (dq dtX1_hasAt 14 rfl) rfl (by omega) (by omega) (fun c_22 => ?_) (fun c_22 => ?_)
      · refine P.iinc (dq dtX1_hasAt 17 rfl) rfl (by decide) rfl rfl ?_
        refine P.goto (t := 2) (dq dtX1_hasAt 18 rfl) rfl ?_
        rw [decide_eq_true (show f (u + k) = g k by omega), Bool.true_and] at h1 h0
        exact ih (k + 1) (by omega) (by omega) (by omega) h1 h0
      · refine P.iconst (dq dtX1_hasAt 15 rfl) ?_
        refine P.zret (dq dtX1_hasAt 16 rfl) rfl rfl (by decide) rfl ?_
        exact h0 (by rw [decide_eq_false (show ¬ f (u + k) = g k by omega), Bool.false_and])
/-- Letters.hasAt -/
theorem ct_X1_hasAt {x : CM} {d N : Nat} {σ : PH} {Q : PQ} {q a r : Nat} {n : Int} {f : Int → Int} (hq : σ q = pcO 1 [vR a, vI n]) (ha : σ a = pcI 0 r f) (hn : 0 ≤ n ∧ n ≤ r ∧ r < 1000) {q2 a2 r2 : Nat} {m : Int} {g : Int → Int} (hq2 : σ q2 = pcO 1 [vR a2, vI m]) (ha2 : σ a2 = pcI 0 r2 g) (hm2 : 0 ≤ m ∧ m ≤ r2 ∧ r2 < 1000) (hf : ∀ i, 0 ≤ i ∧ i < n → inR (f i)) (hg : ∀ i, 0 ≤ i ∧ i < m → inR (g i)) (hd : 1 ≤ d) {u : Int} (hu : 0 ≤ u ∧ u + m ≤ n) (h1 : eqF f g u m.toNat 0 = true → Q (some (vI 1)) σ) (h0 : eqF f g u m.toNat 0 = false → Q (some (vI 0)) σ) : Call x d 0 0 mX1_hasAt [vR q, vI u, vR q2] N σ Q := by
  refine Call.of mcX1_hasAt (Nat.le_of_ble_eq_true rfl) (fun y hy => ?_)
  subst hy
  refine P.iconst (dq dtX1_hasAt 0 rfl) ?_
  refine P.istore_n (dq dtX1_hasAt 1 rfl) (by decide) rfl rfl ?_
  exact lp_hasAt hq ha hn hq2 ha2 hm2 hf hg hd hu (m.toNat + 1) 0 (by omega) (by omega) (by omega) h1 h0
theorem lp_timesOf {x : CX} {d N : Nat} {σ : PH} {Q : PQ} {q a r : Nat} {n : Int} {f : Int → Int} (hq : σ q = pcO 1 [vR a, vI n]) (ha : σ a = pcI 0 r f) (hn : 0 ≤ n ∧ n ≤ r ∧ r < 1000) {q2 a2 r2 : Nat} {m : Int} {g : Int → Int} (hq2 : σ q2 = pcO 1 [vR a2, vI m]) (ha2 : σ a2 = pcI 0 r2 g) (hm2 : 0 ≤ m ∧ m ≤ r2 ∧ r2 < 1000) (hf : ∀ i, 0 ≤ i ∧ i < n → inR (f i)) (hg : ∀ i, 0 ≤ i ∧ i < m → inR (g i)) (hd : 2 ≤ d) (hm0 : 0 < m) : ∀ (t : Nat) (u c : Int), 0 < t → 0 ≤ u → (0 ≤ c ∧ c ≤ u) → (u + t = n - m + 2 ∨ (t = 1 ∧ n - m + 1 ≤ u ∧ u ≤ 1000)) → Q (some (vI (c + tmF f g m.toNat (t - 1) u))) σ → P x d mX1_timesOf Q (0, 0) 13 [some (vR q), some (vR q2), some (vI c), some (vI u)] [] N σ := by
  intro t
  induction t with
  | zero =>
    intro u c h00 hu hc ht h
    exfalso; omega
  | succ t ih =>
    intro u c h00 hu hc ht h
    refine P.iload_n (dq dtX1_timesOf 9 rfl) rfl ?_
    refine P.aload_n (dq dtX1_timesOf 10 rfl) rfl ?_
    refine P.get flX1_9 (dq dtX1_timesOf 11 rfl) (by repeat (first | assumption | exact up_s | rw [up_n (by first | assumption | (apply Ne.symm; assumption) | decide | omega)])) (by rfl) ?_
    refine P.iadd (dq dtX1_timesOf 12 rfl) ?_
    refine P.aload_n (dq dtX1_timesOf 13 rfl) rfl ?_
    refine P.get flX1_9 (dq dtX1_timesOf 14 rfl) (by repeat (first | assumption | exact up_s | rw [up_n (by first | assumption | (apply Ne.symm; assumption) | decide | omega)])) (by rfl) ?_
    refine P.icmp_gt (t := 44) (dq dtX1_timesOf 15 rfl) rfl (by omega) (by omega) (fun c_23 => ?_) (fun c_23 => ?_)
    · refine P.iload_n (dq dtX1_timesOf 24 rfl) rfl ?_
      refine P.iret (dq dtX1_timesOf 25 rfl) rfl rfl rfl ?_
      obtain rfl : t = 0 := by omega
      have hx : tmF f g m.toNat (0 + 1 - 1) u = 0 := rfl
      rw [hx, Int.add_zero] at h
      exact h
    · obtain ⟨t, rfl⟩ : ∃ w, t = w + 1 := ⟨t - 1, by omega⟩
      have hx : tmF f g m.toNat (t + 1 + 1 - 1) u = (if eqF f g u m.toNat 0 = true then 1 else 0) + tmF f g m.toNat t (u + 1) := rfl
      rw [hx] at h
      refine P.aload_n (dq dtX1_timesOf 16 rfl) rfl ?_
      refine P.iload_n (dq dtX1_timesOf 17 rfl) rfl ?_
      refine P.aload_n (dq dtX1_timesOf 18 rfl) rfl ?_
      refine P.callV2 (M' := mX1_hasAt) (d' := d - 1) mlX1_46 mcX1_hasAt mvX1_hasAt (dq dtX1_timesOf 19 rfl) (by omega) (Nat.le_of_ble_eq_true rfl) (by repeat (first | assumption | exact up_s | rw [up_n (by first | assumption | (apply Ne.symm; assumption) | decide | omega)])) rfl ?_
      refine ct_X1_hasAt hq ha hn hq2 ha2 hm2 hf hg (by omega) (by omega) (fun n_29 => ?_) (fun n_29 => ?_)
      · refine P.if_eq (t := 38) (dq dtX1_timesOf 20 rfl) rfl (by omega) (fun h9 => absurd h9 (by decide)) (fun _ => ?_)
        refine P.iinc (dq dtX1_timesOf 21 rfl) rfl (by decide) rfl rfl ?_
        refine P.iinc (dq dtX1_timesOf 22 rfl) rfl (by decide) rfl rfl ?_
        refine P.goto (t := 13) (dq dtX1_timesOf 23 rfl) rfl ?_
        first | (rw [if_pos n_29, ← Int.add_assoc] at h; exact ih (u + 1) (c + 1) (by omega) (by omega) (by omega) (by omega) h) | (rw [n_29, if_neg (by decide), Int.zero_add] at h; exact ih (u + 1) c (by omega) (by omega) (by omega) (by omega) h)
      · refine P.if_eq (t := 38) (dq dtX1_timesOf 20 rfl) rfl (by omega) (fun _ => ?_) (fun h9 => absurd h9 (by decide))
        refine P.iinc (dq dtX1_timesOf 22 rfl) rfl (by decide) rfl rfl ?_
        refine P.goto (t := 13) (dq dtX1_timesOf 23 rfl) rfl ?_
        first | (rw [if_pos n_29, ← Int.add_assoc] at h; exact ih (u + 1) (c + 1) (by omega) (by omega) (by omega) (by omega) h) | (rw [n_29, if_neg (by decide), Int.zero_add] at h; exact ih (u + 1) c (by omega) (by omega) (by omega) (by omega) h)
/-- Letters.timesOf -/
theorem ct_X1_timesOf {x : CM} {d N : Nat} {σ : PH} {Q : PQ} {q a r : Nat} {n : Int} {f : Int → Int} (hq : σ q = pcO 1 [vR a, vI n]) (ha : σ a = pcI 0 r f) (hn : 0 ≤ n ∧ n ≤ r ∧ r < 1000) {q2 a2 r2 : Nat} {m : Int} {g : Int → Int} (hq2 : σ q2 = pcO 1 [vR a2, vI m]) (ha2 : σ a2 = pcI 0 r2 g) (hm2 : 0 ≤ m ∧ m ≤ r2 ∧ r2 < 1000) (hf : ∀ i, 0 ≤ i ∧ i < n → inR (f i)) (hg : ∀ i, 0 ≤ i ∧ i < m → inR (g i)) (hd : 2 ≤ d) (h : Q (some (vI (if m = 0 then 0 else tmF f g m.toNat (n - m + 1).toNat 0))) σ) : Call x d 0 0 mX1_timesOf [vR q, vR q2] N σ Q := by
  refine Call.of mcX1_timesOf (Nat.le_of_ble_eq_true rfl) (fun y hy => ?_)
  subst hy
  refine P.aload_n (dq dtX1_timesOf 0 rfl) rfl ?_
  refine P.get flX1_9 (dq dtX1_timesOf 1 rfl) (by repeat (first | assumption | exact up_s | rw [up_n (by first | assumption | (apply Ne.symm; assumption) | decide | omega)])) (by rfl) ?_
  refine P.if_ne (t := 9) (dq dtX1_timesOf 2 rfl) rfl (by omega) (fun c_4 => ?_) (fun c_4 => ?_)
  · rw [if_neg (show ¬ m = 0 by omega), ← Int.zero_add (tmF _ _ _ _ _)] at h
    refine P.iconst (dq dtX1_timesOf 5 rfl) ?_
    refine P.istore_n (dq dtX1_timesOf 6 rfl) (by decide) rfl rfl ?_
    refine P.iconst (dq dtX1_timesOf 7 rfl) ?_
    refine P.istore_n (dq dtX1_timesOf 8 rfl) (by decide) rfl rfl ?_
    exact lp_timesOf hq ha hn hq2 ha2 hm2 hf hg hd (by omega) ((n - m + 1).toNat + 1) 0 0 (by omega) (by omega) (by omega) (by omega) h
  · rw [if_pos (show m = 0 by omega)] at h
    refine P.iconst (dq dtX1_timesOf 3 rfl) ?_
    refine P.iret (dq dtX1_timesOf 4 rfl) rfl rfl rfl ?_
    exact h
theorem lp_numberIn {x : CX} {d N : Nat} {σ : PH} {Q : PQ} {q a r : Nat} {n : Int} {f : Int → Int} (hq : σ q = pcO 1 [vR a, vI n]) (ha : σ a = pcI 0 r f) (hn : 0 ≤ n ∧ n ≤ r ∧ r < 1000) (hf : ∀ i, 0 ≤ i ∧ i < n → inR (f i)) (hd : 1 ≤ d) {u w mo : Int} (hu : 0 ≤ u ∧ u ≤ w ∧ w ≤ n) (hmo : inR mo) : ∀ (t : Nat) (k v : Int), 0 < t → u ≤ k → k + t = w + 1 → Q (some (vI (dgF f (t - 1) k v))) σ → P x d mX1_numberIn Q (0, 0) 20 [some (vR q), some (vI u), some (vI w), some (vI mo), some (vI v), some (vI k)] [] N σ := by
  intro t
  induction t with
  | zero =>
    intro k v h00 hk ht h
    exfalso; omega
  | succ t ih =>
    intro k v h00 hk ht h
    refine P.iload (dq dtX1_numberIn 14 rfl) rfl ?_
    refine P.iload_n (dq dtX1_numberIn 15 rfl) rfl ?_
    refine P.icmp_ge (t := 63) (dq dtX1_numberIn 16 rfl) rfl (by omega) (by omega) (fun c_23 => ?_) (fun c_23 => ?_)
    · refine P.iload (dq dtX1_numberIn 36 rfl) rfl ?_
      refine P.iret (dq dtX1_numberIn 37 rfl) rfl rfl rfl ?_
      obtain rfl : t = 0 := by omega
      exact h
    · have f1 := hf k (by omega)
      obtain ⟨t, rfl⟩ : ∃ z, t = z + 1 := ⟨t - 1, by omega⟩
      have hx : dgF f (t + 1 + 1 - 1) k v = if 48 ≤ f k ∧ f k ≤ 57 then dgF f t (k + 1) (10 * v + f k - 48) else -1 := rfl
      rw [hx] at h
      refine P.aload_n (dq dtX1_numberIn 17 rfl) rfl ?_
      refine P.iload (dq dtX1_numberIn 18 rfl) rfl ?_
      refine P.callV1 (M' := mX1_at) (d' := d - 1) mlX1_33 mcX1_at mvX1_at (dq dtX1_numberIn 19 rfl) (by omega) (Nat.le_of_ble_eq_true rfl) (by repeat (first | assumption | exact up_s | rw [up_n (by first | assumption | (apply Ne.symm; assumption) | decide | omega)])) rfl ?_
      refine ct_X1_at (by repeat (first | assumption | exact up_s | rw [up_n (by first | assumption | (apply Ne.symm; assumption) | decide | omega)])) (by repeat (first | assumption | exact up_s | rw [up_n (by first | assumption | (apply Ne.symm; assumption) | decide | omega)])) (by omega) (by omega) (fun n_29 => ?_) (fun n_29 => absurd (by omega) n_29)
      refine P.callSN1 (M' := mX6_isDigit) (d' := d - 1) nlX1_72 mcX6_isDigit msX6_isDigit (dq dtX1_numberIn 20 rfl) (by omega) (Nat.le_of_ble_eq_true rfl) ?_
      refine ct_X6_isDigit (by omega) (fun n_32 => ?_) (fun n_32 => ?_)
      · refine P.if_ne (t := 40) (dq dtX1_numberIn 21 rfl) rfl (by omega) (fun _ => ?_) (fun h9 => absurd h9 (by decide))
        refine P.bipush (dq dtX1_numberIn 24 rfl) rfl ?_
        refine P.iload (dq dtX1_numberIn 25 rfl) rfl ?_
        refine P.imul (dq dtX1_numberIn 26 rfl) ?_
        refine P.aload_n (dq dtX1_numberIn 27 rfl) rfl ?_
        refine P.iload (dq dtX1_numberIn 28 rfl) rfl ?_
        refine P.callV1 (M' := mX1_at) (d' := d - 1) mlX1_33 mcX1_at mvX1_at (dq dtX1_numberIn 29 rfl) (by omega) (Nat.le_of_ble_eq_true rfl) (by repeat (first | assumption | exact up_s | rw [up_n (by first | assumption | (apply Ne.symm; assumption) | decide | omega)])) rfl ?_
        refine ct_X1_at (by repeat (first | assumption | exact up_s | rw [up_n (by first | assumption | (apply Ne.symm; assumption) | decide | omega)])) (by repeat (first | assumption | exact up_s | rw [up_n (by first | assumption | (apply Ne.symm; assumption) | decide | omega)])) (by omega) (by omega) (fun n_48 => ?_) (fun n_48 => absurd (by omega) n_48)
        refine P.iadd (dq dtX1_numberIn 30 rfl) ?_
        refine P.bipush (dq dtX1_numberIn 31 rfl) rfl ?_
        refine P.isub (dq dtX1_numberIn 32 rfl) ?_
        refine P.istore (dq dtX1_numberIn 33 rfl) (by decide) rfl rfl ?_
        refine P.iinc (dq dtX1_numberIn 34 rfl) rfl (by decide) rfl rfl ?_
        refine P.goto (t := 20) (dq dtX1_numberIn 35 rfl) rfl ?_
        rw [if_pos n_32] at h
        exact ih (k + 1) _ (by omega) (by omega) (by omega) h
      · refine P.if_ne (t := 40) (dq dtX1_numberIn 21 rfl) rfl (by omega) (fun h9 => absurd h9 (by decide)) (fun _ => ?_)
        refine P.iconst (dq dtX1_numberIn 22 rfl) ?_
        refine P.iret (dq dtX1_numberIn 23 rfl) rfl rfl rfl ?_
        rw [if_neg n_32] at h
        exact h
