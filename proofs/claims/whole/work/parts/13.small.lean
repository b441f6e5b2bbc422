/-- Letters.at -/
theorem ct_X1_at {x : CM} {d N : Nat} {σ : PH} {Q : PQ} {q a r : Nat} {n : Int} {f : Int → Int} (hq : σ q = pcO 1 [vR a, vI n]) (ha : σ a = pcI 0 r f) (hn : 0 ≤ n ∧ n ≤ r ∧ r < 1000) {k : Int} (hk : inR k) (h1 : 0 ≤ k ∧ k < n → Q (some (vI (f k))) σ) (h2 : ¬ (0 ≤ k ∧ k < n) → Q (some (vI (-1))) σ) : Call x d 0 0 mX1_at [vR q, vI k] N σ Q := by
  refine Call.of mcX1_at (Nat.le_of_ble_eq_true rfl) (fun y hy => ?_)
  subst hy
  refine P.iload_n (dq dtX1_at 0 rfl) rfl ?_
  refine P.if_lt (t := 21) (dq dtX1_at 1 rfl) rfl (by omega) (fun c_1 => ?_) (fun c_1 => ?_)
  · refine P.iconst (dq dtX1_at 11 rfl) ?_
    refine P.iret (dq dtX1_at 12 rfl) rfl rfl rfl ?_
    first | exact h (by omega) | exact h1 (by omega) | exact h2 (by omega) | (exfalso; omega)
  · refine P.iload_n (dq dtX1_at 2 rfl) rfl ?_
    refine P.aload_n (dq dtX1_at 3 rfl) rfl ?_
    refine P.get flX1_9 (dq dtX1_at 4 rfl) (by repeat (first | assumption | exact up_s | rw [up_n (by first | assumption | (apply Ne.symm; assumption) | decide | omega)])) (by rfl) ?_
    refine P.icmp_ge (t := 21) (dq dtX1_at 5 rfl) rfl (by omega) (by omega) (fun c_9 => ?_) (fun c_9 => ?_)
    · refine P.iconst (dq dtX1_at 11 rfl) ?_
      refine P.iret (dq dtX1_at 12 rfl) rfl rfl rfl ?_
      first | exact h (by omega) | exact h1 (by omega) | exact h2 (by omega) | (exfalso; omega)
    · refine P.aload_n (dq dtX1_at 6 rfl) rfl ?_
      refine P.get flX1_21 (dq dtX1_at 7 rfl) (by repeat (first | assumption | exact up_s | rw [up_n (by first | assumption | (apply Ne.symm; assumption) | decide | omega)])) (by rfl) ?_
      refine P.iload_n (dq dtX1_at 8 rfl) rfl ?_
      refine P.iald (dq dtX1_at 9 rfl) (by repeat (first | assumption | exact up_s | rw [up_n (by first | assumption | (apply Ne.symm; assumption) | decide | omega)])) (by omega) (by omega) (by omega) ?_
      refine P.goto (t := 22) (dq dtX1_at 10 rfl) rfl ?_
      refine P.iret (dq dtX1_at 12 rfl) rfl rfl rfl ?_
      first | exact h (by omega) | exact h1 (by omega) | exact h2 (by omega) | (exfalso; omega)
/-- Letters.hasRoomFor -/
theorem ct_X1_hasRoomFor {x : CM} {d N : Nat} {σ : PH} {Q : PQ} {q a r : Nat} {n : Int} {f : Int → Int} (hq : σ q = pcO 1 [vR a, vI n]) (ha : σ a = pcI 0 r f) (hn : 0 ≤ n ∧ n ≤ r ∧ r < 1000) {k : Int} (hk : -1000000 < k ∧ k < 1000000) (ht : n + k ≤ r → Q (some (vI 1)) σ) (hf : ¬ (n + k ≤ r) → Q (some (vI 0)) σ) : Call x d 0 0 mX1_hasRoomFor [vR q, vI k] N σ Q := by
  refine Call.of mcX1_hasRoomFor (Nat.le_of_ble_eq_true rfl) (fun y hy => ?_)
  subst hy
  refine P.aload_n (dq dtX1_hasRoomFor 0 rfl) rfl ?_
  refine P.get flX1_9 (dq dtX1_hasRoomFor 1 rfl) (by repeat (first | assumption | exact up_s | rw [up_n (by first | assumption | (apply Ne.symm; assumption) | decide | omega)])) (by rfl) ?_
  refine P.iload_n (dq dtX1_hasRoomFor 2 rfl) rfl ?_
  refine P.iadd (dq dtX1_hasRoomFor 3 rfl) ?_
  refine P.aload_n (dq dtX1_hasRoomFor 4 rfl) rfl ?_
  refine P.get flX1_21 (dq dtX1_hasRoomFor 5 rfl) (by repeat (first | assumption | exact up_s | rw [up_n (by first | assumption | (apply Ne.symm; assumption) | decide | omega)])) (by rfl) ?_
  refine P.alen (dq dtX1_hasRoomFor 6 rfl) (by repeat (first | assumption | exact up_s | rw [up_n (by first | assumption | (apply Ne.symm; assumption) | decide | omega)])) (by decide) ?_
  refine P.icmp_gt (t := 18) (dq dtX1_hasRoomFor 7 rfl) rfl (by omega) (by omega) (fun c_11 => ?_) (fun c_11 => ?_)
  · refine P.iconst (dq dtX1_hasRoomFor 10 rfl) ?_
    refine P.zret (dq dtX1_hasRoomFor 11 rfl) rfl rfl (by decide) rfl ?_
    first | exact ht (by omega) | exact hf (by omega)
  · refine P.iconst (dq dtX1_hasRoomFor 8 rfl) ?_
    refine P.goto (t := 19) (dq dtX1_hasRoomFor 9 rfl) rfl ?_
    refine P.zret (dq dtX1_hasRoomFor 11 rfl) rfl rfl (by decide) rfl ?_
    first | exact ht (by omega) | exact hf (by omega)
/-- Measured.hasPoint -/
theorem ct_X2_hasPoint {x : CM} {d N : Nat} {σ : PH} {Q : PQ} {q c e : Nat} {p s : Int} (hq : σ q = pcO 2 [vI p, vI s, vR c, vR e]) (hp : 0 ≤ p ∧ p ≤ 8) {k : Int} (hk : inR k) (ht : 0 ≤ k ∧ k < p → Q (some (vI 1)) σ) (hf : ¬ (0 ≤ k ∧ k < p) → Q (some (vI 0)) σ) : Call x d 0 0 mX2_hasPoint [vR q, vI k] N σ Q := by
  refine Call.of mcX2_hasPoint (Nat.le_of_ble_eq_true rfl) (fun y hy => ?_)
  subst hy
  refine P.iload_n (dq dtX2_hasPoint 0 rfl) rfl ?_
  refine P.if_lt (t := 16) (dq dtX2_hasPoint 1 rfl) rfl (by omega) (fun c_1 => ?_) (fun c_1 => ?_)
  · refine P.iconst (dq dtX2_hasPoint 8 rfl) ?_
    refine P.zret (dq dtX2_hasPoint 9 rfl) rfl rfl (by decide) rfl ?_
    first | exact ht (by omega) | exact hf (by omega)
  · refine P.iload_n (dq dtX2_hasPoint 2 rfl) rfl ?_
    refine P.aload_n (dq dtX2_hasPoint 3 rfl) rfl ?_
    refine P.get flX2_9 (dq dtX2_hasPoint 4 rfl) (by repeat (first | assumption | exact up_s | rw [up_n (by first | assumption | (apply Ne.symm; assumption) | decide | omega)])) (by rfl) ?_
    refine P.icmp_ge (t := 16) (dq dtX2_hasPoint 5 rfl) rfl (by omega) (by omega) (fun c_9 => ?_) (fun c_9 => ?_)
    · refine P.iconst (dq dtX2_hasPoint 8 rfl) ?_
      refine P.zret (dq dtX2_hasPoint 9 rfl) rfl rfl (by decide) rfl ?_
      first | exact ht (by omega) | exact hf (by omega)
    · refine P.iconst (dq dtX2_hasPoint 6 rfl) ?_
      refine P.goto (t := 17) (dq dtX2_hasPoint 7 rfl) rfl ?_
      refine P.zret (dq dtX2_hasPoint 9 rfl) rfl rfl (by decide) rfl ?_
      first | exact ht (by omega) | exact hf (by omega)
/-- Measured.slotOf -/
theorem ct_X2_slotOf {x : CM} {d N : Nat} {σ : PH} {Q : PQ} {q c e : Nat} {p s : Int} (hq : σ q = pcO 2 [vI p, vI s, vR c, vR e]) (hp : 0 ≤ p ∧ p ≤ 8) {k w : Int} (hk : inR k) (hw : inR w) (h1 : (0 ≤ k ∧ k < p) ∧ 0 ≤ w ∧ w < 2 → Q (some (vI (k * 2 + w))) σ) (h2 : ¬ ((0 ≤ k ∧ k < p) ∧ 0 ≤ w ∧ w < 2) → Q (some (vI (-1))) σ) : Call x d 0 0 mX2_slotOf [vR q, vI k, vI w] N σ Q := by
  refine Call.of mcX2_slotOf (Nat.le_of_ble_eq_true rfl) (fun y hy => ?_)
  subst hy
  refine P.iload_n (dq dtX2_slotOf 0 rfl) rfl ?_
  refine P.if_lt (t := 29) (dq dtX2_slotOf 1 rfl) rfl (by omega) (fun c_1 => ?_) (fun c_1 => ?_)
  · refine P.iconst (dq dtX2_slotOf 17 rfl) ?_
    refine P.iret (dq dtX2_slotOf 18 rfl) rfl rfl rfl ?_
    first | exact h (by omega) | exact h1 (by omega) | exact h2 (by omega) | (exfalso; omega)
  · refine P.iload_n (dq dtX2_slotOf 2 rfl) rfl ?_
    refine P.aload_n (dq dtX2_slotOf 3 rfl) rfl ?_
    refine P.get flX2_9 (dq dtX2_slotOf 4 rfl) (by repeat (first | assumption | exact up_s | rw [up_n (by first | assumption | (apply Ne.symm; assumption) | decide | omega)])) (by rfl) ?_
    refine P.icmp_ge (t := 29) (dq dtX2_slotOf 5 rfl) rfl (by omega) (by omega) (fun c_9 => ?_) (fun c_9 => ?_)
    · refine P.iconst (dq dtX2_slotOf 17 rfl) ?_
      refine P.iret (dq dtX2_slotOf 18 rfl) rfl rfl rfl ?_
      first | exact h (by omega) | exact h1 (by omega) | exact h2 (by omega) | (exfalso; omega)
    · refine P.iload_n (dq dtX2_slotOf 6 rfl) rfl ?_
      refine P.if_lt (t := 29) (dq dtX2_slotOf 7 rfl) rfl (by omega) (fun c_13 => ?_) (fun c_13 => ?_)
      · refine P.iconst (dq dtX2_slotOf 17 rfl) ?_
        refine P.iret (dq dtX2_slotOf 18 rfl) rfl rfl rfl ?_
        first | exact h (by omega) | exact h1 (by omega) | exact h2 (by omega) | (exfalso; omega)
      · refine P.iload_n (dq dtX2_slotOf 8 rfl) rfl ?_
        refine P.iconst (dq dtX2_slotOf 9 rfl) ?_
        refine P.icmp_ge (t := 29) (dq dtX2_slotOf 10 rfl) rfl (by omega) (by omega) (fun c_18 => ?_) (fun c_18 => ?_)
        · refine P.iconst (dq dtX2_slotOf 17 rfl) ?_
          refine P.iret (dq dtX2_slotOf 18 rfl) rfl rfl rfl ?_
          first | exact h (by omega) | exact h1 (by omega) | exact h2 (by omega) | (exfalso; omega)
        · refine P.iload_n (dq dtX2_slotOf 11 rfl) rfl ?_
          refine P.iconst (dq dtX2_slotOf 12 rfl) ?_
          refine P.imul (dq dtX2_slotOf 13 rfl) ?_
          refine P.iload_n (dq dtX2_slotOf 14 rfl) rfl ?_
          refine P.iadd (dq dtX2_slotOf 15 rfl) ?_
          refine P.goto (t := 30) (dq dtX2_slotOf 16 rfl) rfl ?_
          refine P.iret (dq dtX2_slotOf 18 rfl) rfl rfl rfl ?_
          first | exact h (by omega) | exact h1 (by omega) | exact h2 (by omega) | (exfalso; omega)
/-- Measured.countAt -/
theorem ct_X2_countAt {x : CM} {d N : Nat} {σ : PH} {Q : PQ} {q c e : Nat} {p s : Int} (hq : σ q = pcO 2 [vI p, vI s, vR c, vR e]) (hp : 0 ≤ p ∧ p ≤ 8) {cn : Int → Int} (hd : 1 ≤ d) (hc : σ c = pcI 0 16 cn) {k w : Int} (hk : inR k) (hw : inR w) (h1 : (0 ≤ k ∧ k < p) ∧ 0 ≤ w ∧ w < 2 → Q (some (vI (cn (k * 2 + w)))) σ) (h2 : ¬ ((0 ≤ k ∧ k < p) ∧ 0 ≤ w ∧ w < 2) → Q (some (vI 0)) σ) : Call x d 0 0 mX2_countAt [vR q, vI k, vI w] N σ Q := by
  refine Call.of mcX2_countAt (Nat.le_of_ble_eq_true rfl) (fun y hy => ?_)
  subst hy
  refine P.aload_n (dq dtX2_countAt 0 rfl) rfl ?_
  refine P.iload_n (dq dtX2_countAt 1 rfl) rfl ?_
  refine P.iload_n (dq dtX2_countAt 2 rfl) rfl ?_
  refine P.callV2 (M' := mX2_slotOf) (d' := d - 1) mlX2_34 mcX2_slotOf mvX2_slotOf (dq dtX2_countAt 3 rfl) (by omega) (Nat.le_of_ble_eq_true rfl) (by repeat (first | assumption | exact up_s | rw [up_n (by first | assumption | (apply Ne.symm; assumption) | decide | omega)])) rfl ?_
  refine ct_X2_slotOf (by repeat (first | assumption | exact up_s | rw [up_n (by first | assumption | (apply Ne.symm; assumption) | decide | omega)])) (by omega) (by omega) (by omega) (fun n_3 => ?_) (fun n_3 => ?_)
  · refine P.istore_n (dq dtX2_countAt 4 rfl) (by decide) rfl rfl ?_
    refine P.iload_n (dq dtX2_countAt 5 rfl) rfl ?_
    refine P.if_ge (t := 15) (dq dtX2_countAt 6 rfl) rfl (by omega) (fun c_8 => ?_) (fun c_8 => ?_)
    · refine P.aload_n (dq dtX2_countAt 9 rfl) rfl ?_
      refine P.get flX2_18 (dq dtX2_countAt 10 rfl) (by repeat (first | assumption | exact up_s | rw [up_n (by first | assumption | (apply Ne.symm; assumption) | decide | omega)])) (by rfl) ?_
      refine P.iload_n (dq dtX2_countAt 11 rfl) rfl ?_
      refine P.iald (dq dtX2_countAt 12 rfl) (by repeat (first | assumption | exact up_s | rw [up_n (by first | assumption | (apply Ne.symm; assumption) | decide | omega)])) (by omega) (by omega) (by omega) ?_
      refine P.iret (dq dtX2_countAt 13 rfl) rfl rfl rfl ?_
      first | exact h (by omega) | exact h1 (by omega) | exact h2 (by omega) | (exfalso; omega)
    · refine P.iconst (dq dtX2_countAt 7 rfl) ?_
      refine P.goto (t := 21) (dq dtX2_countAt 8 rfl) rfl ?_
      refine P.iret (dq dtX2_countAt 13 rfl) rfl rfl rfl ?_
      first | exact h (by omega) | exact h1 (by omega) | exact h2 (by omega) | (exfalso; omega)
  · refine P.istore_n (dq dtX2_countAt 4 rfl) (by decide) rfl rfl ?_
    refine P.iload_n (dq dtX2_countAt 5 rfl) rfl ?_
    refine P.if_ge (t := 15) (dq dtX2_countAt 6 rfl) rfl (by omega) (fun c_8 => ?_) (fun c_8 => ?_)
    · refine P.aload_n (dq dtX2_countAt 9 rfl) rfl ?_
      refine P.get flX2_18 (dq dtX2_countAt 10 rfl) (by repeat (first | assumption | exact up_s | rw [up_n (by first | assumption | (apply Ne.symm; assumption) | decide | omega)])) (by rfl) ?_
      refine P.iload_n (dq dtX2_countAt 11 rfl) rfl ?_
      refine P.iald (dq dtX2_countAt 12 rfl) (by repeat (first | assumption | exact up_s | rw [up_n (by first | assumption | (apply Ne.symm; assumption) | decide | omega)])) (by omega) (by omega) (by omega) ?_
      refine P.iret (dq dtX2_countAt 13 rfl) rfl rfl rfl ?_
      first | exact h (by omega) | exact h1 (by omega) | exact h2 (by omega) | (exfalso; omega)
    · refine P.iconst (dq dtX2_countAt 7 rfl) ?_
      refine P.goto (t := 21) (dq dtX2_countAt 8 rfl) rfl ?_
      refine P.iret (dq dtX2_countAt 13 rfl) rfl rfl rfl ?_
      first | exact h (by omega) | exact h1 (by omega) | exact h2 (by omega) | (exfalso; omega)
/-- Measured.errAt -/
theorem ct_X2_errAt {x : CM} {d N : Nat} {σ : PH} {Q : PQ} {q c e : Nat} {p s : Int} (hq : σ q = pcO 2 [vI p, vI s, vR c, vR e]) (hp : 0 ≤ p ∧ p ≤ 8) {cn er : Int → Int} (hd : 1 ≤ d) (hc : σ c = pcI 0 16 cn) (he : σ e = pcI 0 96 er) {k w j : Int} (hk : inR k) (hw : inR w) (hj : inR j) (hcn : (0 ≤ k ∧ k < p) ∧ 0 ≤ w ∧ w < 2 → 0 ≤ cn (k * 2 + w) ∧ cn (k * 2 + w) ≤ 6) (h1 : ((0 ≤ k ∧ k < p) ∧ 0 ≤ w ∧ w < 2) ∧ 0 ≤ j ∧ j < cn (k * 2 + w) → Q (some (vI (er ((k * 2 + w) * 6 + j)))) σ) (h2 : ¬ (((0 ≤ k ∧ k < p) ∧ 0 ≤ w ∧ w < 2) ∧ 0 ≤ j ∧ j < cn (k * 2 + w)) → Q (some (vI (-100000))) σ) : Call x d 0 0 mX2_errAt [vR q, vI k, vI w, vI j] N σ Q := by
  refine Call.of mcX2_errAt (Nat.le_of_ble_eq_true rfl) (fun y hy => ?_)
  subst hy
  refine P.aload_n (dq dtX2_errAt 0 rfl) rfl ?_
  refine P.iload_n (dq dtX2_errAt 1 rfl) rfl ?_
  refine P.iload_n (dq dtX2_errAt 2 rfl) rfl ?_
  refine P.callV2 (M' := mX2_slotOf) (d' := d - 1) mlX2_34 mcX2_slotOf mvX2_slotOf (dq dtX2_errAt 3 rfl) (by omega) (Nat.le_of_ble_eq_true rfl) (by repeat (first | assumption | exact up_s | rw [up_n (by first | assumption | (apply Ne.symm; assumption) | decide | omega)])) rfl ?_
  refine ct_X2_slotOf (by repeat (first | assumption | exact up_s | rw [up_n (by first | assumption | (apply Ne.symm; assumption) | decide | omega)])) (by omega) (by omega) (by omega) (fun n_3 => ?_) (fun n_3 => ?_)
  · refine P.istore (dq dtX2_errAt 4 rfl) (by decide) rfl rfl ?_
    refine P.iload (dq dtX2_errAt 5 rfl) rfl ?_
    refine P.if_lt (t := 28) (dq dtX2_errAt 6 rfl) rfl (by omega) (fun c_10 => ?_) (fun c_10 => ?_)
    · refine P.ldc (n := -100000) (dq dtX2_errAt 15 rfl) kcX2_37 rfl ?_
      refine P.goto (t := 45) (dq dtX2_errAt 16 rfl) rfl ?_
      refine P.iret (dq dtX2_errAt 25 rfl) rfl rfl rfl ?_
      first | exact h (by omega) | exact h1 (by omega) | exact h2 (by omega) | (exfalso; omega)
    · refine P.iload_n (dq dtX2_errAt 7 rfl) rfl ?_
      refine P.if_lt (t := 28) (dq dtX2_errAt 8 rfl) rfl (by omega) (fun c_14 => ?_) (fun c_14 => ?_)
      · refine P.ldc (n := -100000) (dq dtX2_errAt 15 rfl) kcX2_37 rfl ?_
        refine P.goto (t := 45) (dq dtX2_errAt 16 rfl) rfl ?_
        refine P.iret (dq dtX2_errAt 25 rfl) rfl rfl rfl ?_
        first | exact h (by omega) | exact h1 (by omega) | exact h2 (by omega) | (exfalso; omega)
      · refine P.iload_n (dq dtX2_errAt 9 rfl) rfl ?_
        refine P.aload_n (dq dtX2_errAt 10 rfl) rfl ?_
        refine P.get flX2_18 (dq dtX2_errAt 11 rfl) (by repeat (first | assumption | exact up_s | rw [up_n (by first | assumption | (apply Ne.symm; assumption) | decide | omega)])) (by rfl) ?_
        refine P.iload (dq dtX2_errAt 12 rfl) rfl ?_
        refine P.iald (dq dtX2_errAt 13 rfl) (by repeat (first | assumption | exact up_s | rw [up_n (by first | assumption | (apply Ne.symm; assumption) | decide | omega)])) (by omega) (by omega) (by omega) ?_
        refine P.icmp_lt (t := 33) (dq dtX2_errAt 14 rfl) rfl (by omega) (by omega) (fun c_25 => ?_) (fun c_25 => ?_)
        · refine P.aload_n (dq dtX2_errAt 17 rfl) rfl ?_
          refine P.get flX2_22 (dq dtX2_errAt 18 rfl) (by repeat (first | assumption | exact up_s | rw [up_n (by first | assumption | (apply Ne.symm; assumption) | decide | omega)])) (by rfl) ?_
          refine P.iload (dq dtX2_errAt 19 rfl) rfl ?_
          refine P.bipush (dq dtX2_errAt 20 rfl) rfl ?_
          refine P.imul (dq dtX2_errAt 21 rfl) ?_
          refine P.iload_n (dq dtX2_errAt 22 rfl) rfl ?_
          refine P.iadd (dq dtX2_errAt 23 rfl) ?_
          refine P.iald (dq dtX2_errAt 24 rfl) (by repeat (first | assumption | exact up_s | rw [up_n (by first | assumption | (apply Ne.symm; assumption) | decide | omega)])) (by omega) (by omega) (by omega) ?_
          refine P.iret (dq dtX2_errAt 25 rfl) rfl rfl rfl ?_
          first | exact h (by omega) | exact h1 (by omega) | exact h2 (by omega) | (exfalso; omega)
        · refine P.ldc (n := -100000) (dq dtX2_errAt 15 rfl) kcX2_37 rfl ?_
          refine P.goto (t := 45) (dq dtX2_errAt 16 rfl) rfl ?_
          refine P.iret (dq dtX2_errAt 25 rfl) rfl rfl rfl ?_
          first | exact h (by omega) | exact h1 (by omega) | exact h2 (by omega) | (exfalso; omega)
  · refine P.istore (dq dtX2_errAt 4 rfl) (by decide) rfl rfl ?_
    refine P.iload (dq dtX2_errAt 5 rfl) rfl ?_
    refine P.if_lt (t := 28) (dq dtX2_errAt 6 rfl) rfl (by omega) (fun c_10 => ?_) (fun c_10 => ?_)
    · refine P.ldc (n := -100000) (dq dtX2_errAt 15 rfl) kcX2_37 rfl ?_
      refine P.goto (t := 45) (dq dtX2_errAt 16 rfl) rfl ?_
      refine P.iret (dq dtX2_errAt 25 rfl) rfl rfl rfl ?_
      first | exact h (by omega) | exact h1 (by omega) | exact h2 (by omega) | (exfalso; omega)
    · refine P.iload_n (dq dtX2_errAt 7 rfl) rfl ?_
      refine P.if_lt (t := 28) (dq dtX2_errAt 8 rfl) rfl (by omega) (fun c_14 => ?_) (fun c_14 => ?_)
      · refine P.ldc (n := -100000) (dq dtX2_errAt 15 rfl) kcX2_37 rfl ?_
        refine P.goto (t := 45) (dq dtX2_errAt 16 rfl) rfl ?_
        refine P.iret (dq dtX2_errAt 25 rfl) rfl rfl rfl ?_
        first | exact h (by omega) | exact h1 (by omega) | exact h2 (by omega) | (exfalso; omega)
      · refine P.iload_n (dq dtX2_errAt 9 rfl) rfl ?_
        refine P.aload_n (dq dtX2_errAt 10 rfl) rfl ?_
        refine P.get flX2_18 (dq dtX2_errAt 11 rfl) (by repeat (first | assumption | exact up_s | rw [up_n (by first | assumption | (apply Ne.symm; assumption) | decide | omega)])) (by rfl) ?_
        refine P.iload (dq dtX2_errAt 12 rfl) rfl ?_
        refine P.iald (dq dtX2_errAt 13 rfl) (by repeat (first | assumption | exact up_s | rw [up_n (by first | assumption | (apply Ne.symm; assumption) | decide | omega)])) (by omega) (by omega) (by omega) ?_
        refine P.icmp_lt (t := 33) (dq dtX2_errAt 14 rfl) rfl (by omega) (by omega) (fun c_25 => ?_) (fun c_25 => ?_)
        · refine P.aload_n (dq dtX2_errAt 17 rfl) rfl ?_
          refine P.get flX2_22 (dq dtX2_errAt 18 rfl) (by repeat (first | assumption | exact up_s | rw [up_n (by first | assumption | (apply Ne.symm; assumption) | decide | omega)])) (by rfl) ?_
          refine P.iload (dq dtX2_errAt 19 rfl) rfl ?_
          refine P.bipush (dq dtX2_errAt 20 rfl) rfl ?_
          refine P.imul (dq dtX2_errAt 21 rfl) ?_
          refine P.iload_n (dq dtX2_errAt 22 rfl) rfl ?_
          refine P.iadd (dq dtX2_errAt 23 rfl) ?_
          refine P.iald (dq dtX2_errAt 24 rfl) (by repeat (first | assumption | exact up_s | rw [up_n (by first | assumption | (apply Ne.symm; assumption) | decide | omega)])) (by omega) (by omega) (by omega) ?_
          refine P.iret (dq dtX2_errAt 25 rfl) rfl rfl rfl ?_
          first | exact h (by omega) | exact h1 (by omega) | exact h2 (by omega) | (exfalso; omega)
        · refine P.ldc (n := -100000) (dq dtX2_errAt 15 rfl) kcX2_37 rfl ?_
          refine P.goto (t := 45) (dq dtX2_errAt 16 rfl) rfl ?_
          refine P.iret (dq dtX2_errAt 25 rfl) rfl rfl rfl ?_
          first | exact h (by omega) | exact h1 (by omega) | exact h2 (by omega) | (exfalso; omega)
