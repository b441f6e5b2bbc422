theorem lp_putAt {x : CX} {d N : Nat} {σ : PH} {Q : PQ} {q a r : Nat} {n : Int} {f : Int → Int} (hq : σ q = pcO 1 [vR a, vI n]) (ha : σ a = pcI 0 r f) (hn : 0 ≤ n ∧ n ≤ r ∧ r < 1000) {p l : Int} (hp : 0 ≤ p ∧ p ≤ n) (hr : n < r) (h : Q none (up (up σ a (pcI 0 r (insF f n p l))) q (pcO 1 [vR a, vI (n + 1)]))) : ∀ (t : Nat) (k : Int), p ≤ k ∧ k ≤ n → k - p < t → P x d mX1_putAt Q (0, 0) 26 [some (vR q), some (vI p), some (vI l), some (vI k)] [] N (up σ a (pcI 0 r (shF f k n))) := by
  intro t
  induction t with
  | zero =>
    intro k hk hm
    exfalso; omega
  | succ t ih =>
    intro k hk hm
    have hne : q ≠ a := ne_oI hq ha
    refine P.iload_n (dq dtX1_putAt 14 rfl) rfl ?_
    refine P.iload_n (dq dtX1_putAt 15 rfl) rfl ?_
    refine P.icmp_le (t := 51) (dq dtX1_putAt 16 rfl) rfl (by omega) (by omega) (fun c_28 => ?_) (fun c_28 => ?_)
    · obtain rfl : k = p := by omega
      refine P.aload_n (dq dtX1_putAt 29 rfl) rfl ?_
      refine P.get flX1_21 (dq dtX1_putAt 30 rfl) (by repeat (first | assumption | exact up_s | rw [up_n (by first | assumption | (apply Ne.symm; assumption) | decide | omega)])) (by rfl) ?_
      refine P.iload_n (dq dtX1_putAt 31 rfl) rfl ?_
      refine P.iload_n (dq dtX1_putAt 32 rfl) rfl ?_
      refine P.iast (dq dtX1_putAt 33 rfl) (by repeat (first | assumption | exact up_s | rw [up_n (by first | assumption | (apply Ne.symm; assumption) | decide | omega)])) (by omega) (by omega) (by omega) ?_
      rw [up_up]
      refine P.aload_n (dq dtX1_putAt 34 rfl) rfl ?_
      refine P.dup (dq dtX1_putAt 35 rfl) rfl ?_
      refine P.get flX1_9 (dq dtX1_putAt 36 rfl) (by repeat (first | assumption | exact up_s | rw [up_n (by first | assumption | (apply Ne.symm; assumption) | decide | omega)])) (by rfl) ?_
      refine P.iconst (dq dtX1_putAt 37 rfl) ?_
      refine P.iadd (dq dtX1_putAt 38 rfl) ?_
      refine P.put flX1_9 rfl (dq dtX1_putAt 39 rfl) (by repeat (first | assumption | exact up_s | rw [up_n (by first | assumption | (apply Ne.symm; assumption) | decide | omega)])) (by exact Nat.le_of_ble_eq_true rfl) rfl rfl rfl rfl rfl ?_
      refine P.vret (dq dtX1_putAt 40 rfl) rfl rfl rfl ?_
      exact h
    · refine P.aload_n (dq dtX1_putAt 17 rfl) rfl ?_
      refine P.get flX1_21 (dq dtX1_putAt 18 rfl) (by repeat (first | assumption | exact up_s | rw [up_n (by first | assumption | (apply Ne.symm; assumption) | decide | omega)])) (by rfl) ?_
      refine P.iload_n (dq dtX1_putAt 19 rfl) rfl ?_
      refine P.aload_n (dq dtX1_putAt 20 rfl) rfl ?_
      refine P.get flX1_21 (dq dtX1_putAt 21 rfl) (by repeat (first | assumption | exact up_s | rw [up_n (by first | assumption | (apply Ne.symm; assumption) | decide | omega)])) (by rfl) ?_
      refine P.iload_n (dq dtX1_putAt 22 rfl) rfl ?_
      refine P.iconst (dq dtX1_putAt 23 rfl) ?_
      refine P.isub (dq dtX1_putAt 24 rfl) ?_
      refine P.iald (dq dtX1_putAt 25 rfl) (by repeat (first | assumption | exact up_s | rw [up_n (by first | assumption | (apply Ne.symm; assumption) | decide | omega)])) (by omega) (by omega) (by omega) ?_
      refine P.iast (dq dtX1_putAt 26 rfl) (by repeat (first | assumption | exact up_s | rw [up_n (by first | assumption | (apply Ne.symm; assumption) | decide | omega)])) (by omega) (by omega) (by omega) ?_
      refine P.iinc (dq dtX1_putAt 27 rfl) rfl (by decide) rfl rfl ?_
      refine P.goto (t := 26) (dq dtX1_putAt 28 rfl) rfl ?_
      rw [up_up, shF_step (by omega)]
      exact ih (k - 1) (by omega) (by omega)
/-- Letters.putAt -/
theorem ct_X1_putAt {x : CM} {d N : Nat} {σ : PH} {Q : PQ} {q a r : Nat} {n : Int} {f : Int → Int} (hq : σ q = pcO 1 [vR a, vI n]) (ha : σ a = pcI 0 r f) (hn : 0 ≤ n ∧ n ≤ r ∧ r < 1000) {p l : Int} (hd : 1 ≤ d) (hp : 0 ≤ p ∧ p ≤ n) (hr : n < r) (h : Q none (up (up σ a (pcI 0 r (insF f n p l))) q (pcO 1 [vR a, vI (n + 1)]))) : Call x d 0 0 mX1_putAt [vR q, vI p, vI l] N σ Q := by
  refine Call.of mcX1_putAt (Nat.le_of_ble_eq_true rfl) (fun y hy => ?_)
  subst hy
  refine P.iload_n (dq dtX1_putAt 0 rfl) rfl ?_
  refine P.if_lt (t := 20) (dq dtX1_putAt 1 rfl) rfl (by omega) (fun c_1 => ?_) (fun c_1 => ?_)
  · refine P.vret (dq dtX1_putAt 10 rfl) rfl rfl rfl ?_
    exfalso; omega
  · refine P.iload_n (dq dtX1_putAt 2 rfl) rfl ?_
    refine P.aload_n (dq dtX1_putAt 3 rfl) rfl ?_
    refine P.get flX1_9 (dq dtX1_putAt 4 rfl) (by repeat (first | assumption | exact up_s | rw [up_n (by first | assumption | (apply Ne.symm; assumption) | decide | omega)])) (by rfl) ?_
    refine P.icmp_gt (t := 20) (dq dtX1_putAt 5 rfl) rfl (by omega) (by omega) (fun c_9 => ?_) (fun c_9 => ?_)
    · refine P.vret (dq dtX1_putAt 10 rfl) rfl rfl rfl ?_
      exfalso; omega
    · refine P.aload_n (dq dtX1_putAt 6 rfl) rfl ?_
      refine P.iconst (dq dtX1_putAt 7 rfl) ?_
      refine P.callV1 (M' := mX1_hasRoomFor) (d' := d - 1) mlX1_29 mcX1_hasRoomFor mvX1_hasRoomFor (dq dtX1_putAt 8 rfl) (by omega) (Nat.le_of_ble_eq_true rfl) (by repeat (first | assumption | exact up_s | rw [up_n (by first | assumption | (apply Ne.symm; assumption) | decide | omega)])) rfl ?_
      refine ct_X1_hasRoomFor (by repeat (first | assumption | exact up_s | rw [up_n (by first | assumption | (apply Ne.symm; assumption) | decide | omega)])) (by repeat (first | assumption | exact up_s | rw [up_n (by first | assumption | (apply Ne.symm; assumption) | decide | omega)])) (by omega) (by omega) (fun n_14 => ?_) (fun n_14 => ?_)
      · refine P.if_ne (t := 21) (dq dtX1_putAt 9 rfl) rfl (by omega) (fun _ => ?_) (fun h9 => absurd h9 (by decide))
        refine P.aload_n (dq dtX1_putAt 11 rfl) rfl ?_
        refine P.get flX1_9 (dq dtX1_putAt 12 rfl) (by repeat (first | assumption | exact up_s | rw [up_n (by first | assumption | (apply Ne.symm; assumption) | decide | omega)])) (by rfl) ?_
        refine P.istore_n (dq dtX1_putAt 13 rfl) (by decide) rfl rfl ?_
        rw [← up_id ha, ← shF_0 (f := f) (n := n)]
        exact lp_putAt hq ha hn hp hr h (n - p + 1).toNat n (by omega) (by omega)
      · refine P.if_ne (t := 21) (dq dtX1_putAt 9 rfl) rfl (by omega) (fun h9 => absurd h9 (by decide)) (fun _ => ?_)
        refine P.vret (dq dtX1_putAt 10 rfl) rfl rfl rfl ?_
        exfalso; omega
/-- Letters.put -/
theorem ct_X1_put {x : CM} {d N : Nat} {σ : PH} {Q : PQ} {q a r : Nat} {n : Int} {f : Int → Int} (hq : σ q = pcO 1 [vR a, vI n]) (ha : σ a = pcI 0 r f) (hn : 0 ≤ n ∧ n ≤ r ∧ r < 1000) {l : Int} (hd : 2 ≤ d) (hr : n < r) (h : Q none (up (up σ a (pcI 0 r (upI f n l))) q (pcO 1 [vR a, vI (n + 1)]))) : Call x d 0 0 mX1_put [vR q, vI l] N σ Q := by
  refine Call.of mcX1_put (Nat.le_of_ble_eq_true rfl) (fun y hy => ?_)
  subst hy
  refine P.aload_n (dq dtX1_put 0 rfl) rfl ?_
  refine P.aload_n (dq dtX1_put 1 rfl) rfl ?_
  refine P.get flX1_9 (dq dtX1_put 2 rfl) (by repeat (first | assumption | exact up_s | rw [up_n (by first | assumption | (apply Ne.symm; assumption) | decide | omega)])) (by rfl) ?_
  refine P.iload_n (dq dtX1_put 3 rfl) rfl ?_
  refine P.callV2 (M' := mX1_putAt) (d' := d - 1) mlX1_25 mcX1_putAt mvX1_putAt (dq dtX1_put 4 rfl) (by omega) (Nat.le_of_ble_eq_true rfl) (by repeat (first | assumption | exact up_s | rw [up_n (by first | assumption | (apply Ne.symm; assumption) | decide | omega)])) rfl ?_
  refine ct_X1_putAt (by repeat (first | assumption | exact up_s | rw [up_n (by first | assumption | (apply Ne.symm; assumption) | decide | omega)])) (by repeat (first | assumption | exact up_s | rw [up_n (by first | assumption | (apply Ne.symm; assumption) | decide | omega)])) (by omega) (by omega) (by omega) (by omega) ?_
  refine P.vret (dq dtX1_put 5 rfl) rfl rfl rfl ?_
  rw [insF_n]
  exact h
theorem lp_remove {x : CX} {d N : Nat} {σ : PH} {Q : PQ} {q a r : Nat} {n : Int} {f : Int → Int} (hq : σ q = pcO 1 [vR a, vI n]) (ha : σ a = pcI 0 r f) (hn : 0 ≤ n ∧ n ≤ r ∧ r < 1000) {u v : Int} (hp : 0 ≤ u ∧ u ≤ v ∧ v ≤ n) (h : Q none (up (up σ a (pcI 0 r (rmF f u v n))) q (pcO 1 [vR a, vI (n - (v - u))]))) : ∀ (t : Nat) (k : Int), v ≤ k ∧ k ≤ n → n - k < t → P x d mX1_remove Q (0, 0) 20 [some (vR q), some (vI u), some (vI v), some (vI k)] [] N (up σ a (pcI 0 r (rmF f u v k))) := by
  intro t
  induction t with
  | zero =>
    intro k hk hm
    exfalso; omega
  | succ t ih =>
    intro k hk hm
    have hne : q ≠ a := ne_oI hq ha
    refine P.iload_n (dq dtX1_remove 12 rfl) rfl ?_
    refine P.aload_n (dq dtX1_remove 13 rfl) rfl ?_
    refine P.get flX1_9 (dq dtX1_remove 14 rfl) (by repeat (first | assumption | exact up_s | rw [up_n (by first | assumption | (apply Ne.symm; assumption) | decide | omega)])) (by rfl) ?_
    refine P.icmp_ge (t := 50) (dq dtX1_remove 15 rfl) rfl (by omega) (by omega) (fun c_25 => ?_) (fun c_25 => ?_)
    · obtain rfl : k = n := by omega
      refine P.aload_n (dq dtX1_remove 30 rfl) rfl ?_
      refine P.dup (dq dtX1_remove 31 rfl) rfl ?_
      refine P.get flX1_9 (dq dtX1_remove 32 rfl) (by repeat (first | assumption | exact up_s | rw [up_n (by first | assumption | (apply Ne.symm; assumption) | decide | omega)])) (by rfl) ?_
      refine P.iload_n (dq dtX1_remove 33 rfl) rfl ?_
      refine P.iload_n (dq dtX1_remove 34 rfl) rfl ?_
      refine P.isub (dq dtX1_remove 35 rfl) ?_
      refine P.isub (dq dtX1_remove 36 rfl) ?_
      refine P.put flX1_9 rfl (dq dtX1_remove 37 rfl) (by repeat (first | assumption | exact up_s | rw [up_n (by first | assumption | (apply Ne.symm; assumption) | decide | omega)])) (by exact Nat.le_of_ble_eq_true rfl) rfl rfl rfl rfl rfl ?_
      refine P.vret (dq dtX1_remove 38 rfl) rfl rfl rfl ?_
      exact h
    · refine P.aload_n (dq dtX1_remove 16 rfl) rfl ?_
      refine P.get flX1_21 (dq dtX1_remove 17 rfl) (by repeat (first | assumption | exact up_s | rw [up_n (by first | assumption | (apply Ne.symm; assumption) | decide | omega)])) (by rfl) ?_
      refine P.iload_n (dq dtX1_remove 18 rfl) rfl ?_
      refine P.iload_n (dq dtX1_remove 19 rfl) rfl ?_
      refine P.iadd (dq dtX1_remove 20 rfl) ?_
      refine P.iload_n (dq dtX1_remove 21 rfl) rfl ?_
      refine P.isub (dq dtX1_remove 22 rfl) ?_
      refine P.aload_n (dq dtX1_remove 23 rfl) rfl ?_
      refine P.get flX1_21 (dq dtX1_remove 24 rfl) (by repeat (first | assumption | exact up_s | rw [up_n (by first | assumption | (apply Ne.symm; assumption) | decide | omega)])) (by rfl) ?_
      refine P.iload_n (dq dtX1_remove 25 rfl) rfl ?_
      refine P.iald (dq dtX1_remove 26 rfl) (by repeat (first | assumption | exact up_s | rw [up_n (by first | assumption | (apply Ne.symm; assumption) | decide | omega)])) (by omega) (by omega) (by omega) ?_
      refine P.iast (dq dtX1_remove 27 rfl) (by repeat (first | assumption | exact up_s | rw [up_n (by first | assumption | (apply Ne.symm; assumption) | decide | omega)])) (by omega) (by omega) (by omega) ?_
      refine P.iinc (dq dtX1_remove 28 rfl) rfl (by decide) rfl rfl ?_
      refine P.goto (t := 20) (dq dtX1_remove 29 rfl) rfl ?_
      rw [up_up, rmF_step (by omega) (by omega)]
      exact ih (k + 1) (by omega) (by omega)
/-- Letters.remove -/
theorem ct_X1_remove {x : CM} {d N : Nat} {σ : PH} {Q : PQ} {q a r : Nat} {n : Int} {f : Int → Int} (hq : σ q = pcO 1 [vR a, vI n]) (ha : σ a = pcI 0 r f) (hn : 0 ≤ n ∧ n ≤ r ∧ r < 1000) {u v : Int} (hp : 0 ≤ u ∧ u ≤ v ∧ v ≤ n) (h : Q none (up (up σ a (pcI 0 r (rmF f u v n))) q (pcO 1 [vR a, vI (n - (v - u))]))) : Call x d 0 0 mX1_remove [vR q, vI u, vI v] N σ Q := by
  refine Call.of mcX1_remove (Nat.le_of_ble_eq_true rfl) (fun y hy => ?_)
  subst hy
  refine P.iload_n (dq dtX1_remove 0 rfl) rfl ?_
  refine P.if_lt (t := 17) (dq dtX1_remove 1 rfl) rfl (by omega) (fun c_1 => ?_) (fun c_1 => ?_)
  · refine P.vret (dq dtX1_remove 9 rfl) rfl rfl rfl ?_
    exfalso; omega
  · refine P.iload_n (dq dtX1_remove 2 rfl) rfl ?_
    refine P.iload_n (dq dtX1_remove 3 rfl) rfl ?_
    refine P.icmp_gt (t := 17) (dq dtX1_remove 4 rfl) rfl (by omega) (by omega) (fun c_6 => ?_) (fun c_6 => ?_)
    · refine P.vret (dq dtX1_remove 9 rfl) rfl rfl rfl ?_
      exfalso; omega
    · refine P.iload_n (dq dtX1_remove 5 rfl) rfl ?_
      refine P.aload_n (dq dtX1_remove 6 rfl) rfl ?_
      refine P.get flX1_9 (dq dtX1_remove 7 rfl) (by repeat (first | assumption | exact up_s | rw [up_n (by first | assumption | (apply Ne.symm; assumption) | decide | omega)])) (by rfl) ?_
      refine P.icmp_le (t := 18) (dq dtX1_remove 8 rfl) rfl (by omega) (by omega) (fun c_14 => ?_) (fun c_14 => ?_)
      · refine P.iload_n (dq dtX1_remove 10 rfl) rfl ?_
        refine P.istore_n (dq dtX1_remove 11 rfl) (by decide) rfl rfl ?_
        rw [← up_id ha, ← rmF_0 (f := f) (a := u) (b := v)]
        exact lp_remove hq ha hn hp h (n - v + 1).toNat v (by omega) (by omega)
      · refine P.vret (dq dtX1_remove 9 rfl) rfl rfl rfl ?_
        exfalso; omega
theorem lp_reverse {x : CX} {d N : Nat} {σ : PH} {Q : PQ} {q a r : Nat} {n : Int} {f : Int → Int} (hq : σ q = pcO 1 [vR a, vI n]) (ha : σ a = pcI 0 r f) (hn : 0 ≤ n ∧ n ≤ r ∧ r < 1000) (h : Q none (up σ a (pcI 0 r (rvF f n (n / 2))))) : ∀ (t : Nat) (k : Int), 0 ≤ k ∧ k ≤ n / 2 → n / 2 - k < t → P x d mX1_reverse Q (0, 0) 2 [some (vR q), some (vI k), none] [] N (up σ a (pcI 0 r (rvF f n k))) := by
  intro t
  induction t with
  | zero =>
    intro k hk hm
    exfalso; omega
  | succ t ih =>
    intro k hk hm
    have hne : q ≠ a := ne_oI hq ha
    have e2 : n.tdiv 2 = n / 2 := Int.tdiv_eq_ediv_of_nonneg (by omega)
    refine P.iload_n (dq dtX1_reverse 2 rfl) rfl ?_
    refine P.aload_n (dq dtX1_reverse 3 rfl) rfl ?_
    refine P.get flX1_9 (dq dtX1_reverse 4 rfl) (by repeat (first | assumption | exact up_s | rw [up_n (by first | assumption | (apply Ne.symm; assumption) | decide | omega)])) (by rfl) ?_
    refine P.iconst (dq dtX1_reverse 5 rfl) ?_
    refine P.idiv (dq dtX1_reverse 6 rfl) (by omega) (by omega) (by omega) ?_
    refine P.icmp_ge (t := 58) (dq dtX1_reverse 7 rfl) rfl (by omega) (by omega) (fun c_9 => ?_) (fun c_9 => ?_)
    · refine P.vret (dq dtX1_reverse 38 rfl) rfl rfl rfl ?_
      obtain rfl : k = n / 2 := by omega
      exact h
    · refine P.aload_n (dq dtX1_reverse 8 rfl) rfl ?_
      refine P.get flX1_21 (dq dtX1_reverse 9 rfl) (by repeat (first | assumption | exact up_s | rw [up_n (by first | assumption | (apply Ne.symm; assumption) | decide | omega)])) (by rfl) ?_
      refine P.iload_n (dq dtX1_reverse 10 rfl) rfl ?_
      refine P.iald (dq dtX1_reverse 11 rfl) (by repeat (first | assumption | exact up_s | rw [up_n (by first | assumption | (apply Ne.symm; assumption) | decide | omega)])) (by omega) (by omega) (by omega) ?_
      refine P.istore_n (dq dtX1_reverse 12 rfl) (by decide) rfl rfl ?_
      refine P.aload_n (dq dtX1_reverse 13 rfl) rfl ?_
      refine P.get flX1_21 (dq dtX1_reverse 14 rfl) (by repeat (first | assumption | exact up_s | rw [up_n (by first | assumption | (apply Ne.symm; assumption) | decide | omega)])) (by rfl) ?_
      refine P.iload_n (dq dtX1_reverse 15 rfl) rfl ?_
      refine P.aload_n (dq dtX1_reverse 16 rfl) rfl ?_
      refine P.get flX1_21 (dq dtX1_reverse 17 rfl) (by repeat (first | assumption | exact up_s | rw [up_n (by first | assumption | (apply Ne.symm; assumption) | decide | omega)])) (by rfl) ?_
      refine P.aload_n (dq dtX1_reverse 18 rfl) rfl ?_
      refine P.get flX1_9 (dq dtX1_reverse 19 rfl) (by repeat (first | assumption | exact up_s | rw [up_n (by first | assumption | (apply Ne.symm; assumption) | decide | omega)])) (by rfl) ?_
      refine P.iconst (dq dtX1_reverse 20 rfl) ?_
      refine P.isub (dq dtX1_reverse 21 rfl) ?_
      refine P.iload_n (dq dtX1_reverse 22 rfl) rfl ?_
      refine P.isub (dq dtX1_reverse 23 rfl) ?_
      refine P.iald (dq dtX1_reverse 24 rfl) (by repeat (first | assumption | exact up_s | rw [up_n (by first | assumption | (apply Ne.symm; assumption) | decide | omega)])) (by omega) (by omega) (by omega) ?_
      refine P.iast (dq dtX1_reverse 25 rfl) (by repeat (first | assumption | exact up_s | rw [up_n (by first | assumption | (apply Ne.symm; assumption) | decide | omega)])) (by omega) (by omega) (by omega) ?_
      refine P.aload_n (dq dtX1_reverse 26 rfl) rfl ?_
      refine P.get flX1_21 (dq dtX1_reverse 27 rfl) (by repeat (first | assumption | exact up_s | rw [up_n (by first | assumption | (apply Ne.symm; assumption) | decide | omega)])) (by rfl) ?_
      refine P.aload_n (dq dtX1_reverse 28 rfl) rfl ?_
      refine P.get flX1_9 (dq dtX1_reverse 29 rfl) (by repeat (first | assumption | exact up_s | rw [up_n (by first | assumption | (apply Ne.symm; assumption) | decide | omega)])) (by rfl) ?_
      refine P.iconst (dq dtX1_reverse 30 rfl) ?_
      refine P.isub (dq dtX1_reverse 31 rfl) ?_
      refine P.iload_n (dq dtX1_reverse 32 rfl) rfl ?_
      refine P.isub (dq dtX1_reverse 33 rfl) ?_
      refine P.iload_n (dq dtX1_reverse 34 rfl) rfl ?_
      refine P.iast (dq dtX1_reverse 35 rfl) (by repeat (first | assumption | exact up_s | rw [up_n (by first | assumption | (apply Ne.symm; assumption) | decide | omega)])) (by omega) (by omega) (by omega) ?_
      refine P.iinc (dq dtX1_reverse 36 rfl) rfl (by decide) rfl rfl ?_
      refine P.goto (t := 2) (dq dtX1_reverse 37 rfl) rfl ?_
      rw [up_up, up_up]
      refine P.keep [0, 1] ?_
      rw [show upI (rvF f n k) k (rvF f n k (n - 1 - k)) = upI (rvF f n k) k (rvF f n k (n - 1 - k)) from rfl, rvF_step (by omega) (by omega)]
      exact ih (k + 1) (by omega) (by omega)
/-- Letters.reverse -/
theorem ct_X1_reverse {x : CM} {d N : Nat} {σ : PH} {Q : PQ} {q a r : Nat} {n : Int} {f : Int → Int} (hq : σ q = pcO 1 [vR a, vI n]) (ha : σ a = pcI 0 r f) (hn : 0 ≤ n ∧ n ≤ r ∧ r < 1000) (h : Q none (up σ a (pcI 0 r (rvF f n (n / 2))))) : Call x d 0 0 mX1_reverse [vR q] N σ Q := by
  refine Call.of mcX1_reverse (Nat.le_of_ble_eq_true rfl) (fun y hy => ?_)
  subst hy
  refine P.iconst (dq dtX1_reverse 0 rfl) ?_
  refine P.istore_n (dq dtX1_reverse 1 rfl) (by decide) rfl rfl ?_
  rw [← up_id ha, ← rvF_0 (f := f) (n := n)]
  exact lp_reverse hq ha hn h (n / 2 + 1).toNat 0 (by omega) (by omega)
