theorem ct_minI {x : CM} {d N : Nat} {σ : PH} {Q : PQ} {a c : Int} (ha : inR a) (hc : inR c) (h : Q (some (vI (min a c))) σ) : Call x d 0 0 mJ9_min_7cf53 [vI a, vI c] N σ Q := ct_min ha hc (fun h9 => by rw [Int.min_eq_left h9] at h; exact h) (fun h9 => by rw [Int.min_eq_right (by omega)] at h; exact h)
theorem ct_absI {x : CM} {d N : Nat} {σ : PH} {Q : PQ} {a : Int} (ha : inR a) (h : Q (some (vI (absI a))) σ) : Call x d 0 0 mJ9_abs_0f7a4 [vI a] N σ Q := ct_abs ha (fun h9 => by unfold absI at h; rw [if_pos h9] at h; exact h) (fun h9 => by unfold absI at h; rw [if_neg (by omega)] at h; exact h)
theorem rise_bd {co : Int → Int} {p s k y : Int} (hT : TB co p) (hk : 0 ≤ k) (hk1 : k + 1 < p) (hy : 0 ≤ y) (hys : y ≤ s) (hs : s ≤ 99) : (1 ≤ co (k + 1) - co k ∧ co (k + 1) - co k ≤ 1511) ∧ 0 ≤ (co (k + 1) - co k) * y ∧ (co (k + 1) - co k) * y ≤ 149589 := by
  have h1 := hT.2 k hk hk1
  have h2 := hT.1 k hk (by omega)
  have h3 := hT.1 (k + 1) (by omega) hk1
  have h4 := Int.mul_nonneg (show 0 ≤ co (k + 1) - co k by omega) hy
  have h5 : (co (k + 1) - co k) * y ≤ 1511 * y := Int.mul_le_mul_of_nonneg_right (by omega) hy
  omega
/-- Figures.countAt -/
theorem ct_X0_countAt {x : CM} {d N : Nat} {σ : PH} {Q : PQ} {q : Nat} {p s po pt pl : Int} {co : Int → Int} (hq : σ q = fgO q p s po pt pl) (h7 : σ (q + 7) = pcI 0 8 co) (hp : 2 ≤ p ∧ p ≤ 8) (hs : 10 ≤ s ∧ s ≤ 99) (hT : TB co p) (hd : 2 ≤ d) {z : Int} (hz : 0 ≤ z ∧ z ≤ (p - 1) * s) (h : Q (some (vI (cntF co p s z))) σ) : Call x d 0 0 mX0_countAt [vR q, vI z] N σ Q := by
  refine Call.of mcX0_countAt (Nat.le_of_ble_eq_true rfl) (fun y hy => ?_)
  subst hy
  have hL := mul_bd (k := p - 1) (s := s) (by omega) (by omega) (by omega) (by omega)
  obtain ⟨d1, d2, d3, d4⟩ := div_bd hz.1 hz.2 (show 0 < s by omega) hp.1
  have e0 : z.tdiv s = z / s := Int.tdiv_eq_ediv_of_nonneg hz.1
  have e9 := Int.ediv_nonneg hz.1 (show 0 ≤ s by omega)
  have e8 : z / s ≤ z := Int.ediv_le_self _ hz.1
  unfold cntF at h
  obtain ⟨⟨r1, r2⟩, r3, r4⟩ := rise_bd (y := z - min (z / s) (p - 2) * s) hT d1 (by omega) d3 d4 (by omega)
  refine P.aload_n (dq dtX0_countAt 0 rfl) rfl ?_
  refine P.iload_n (dq dtX0_countAt 1 rfl) rfl ?_
  refine P.callV1 (M' := mX0_hasPlace) (d' := d - 1) mlX0_117 mcX0_hasPlace mvX0_hasPlace (dq dtX0_countAt 2 rfl) (by omega) (Nat.le_of_ble_eq_true rfl) (by repeat (first | assumption | exact up_s | rw [up_n (by first | assumption | (apply Ne.symm; assumption) | decide | omega)])) rfl ?_
  refine ct_X0_hasPlace (by repeat (first | assumption | exact up_s | rw [up_n (by first | assumption | (apply Ne.symm; assumption) | decide | omega)])) (by omega) (by omega) (by omega) (fun n_2 => ?_) (fun n_2 => absurd hz n_2)
  refine P.if_eq (t := 16) (dq dtX0_countAt 3 rfl) rfl (by omega) (fun h9 => absurd h9 (by decide)) (fun _ => ?_)
  refine P.aload_n (dq dtX0_countAt 4 rfl) rfl ?_
  refine P.get flX0_15 (dq dtX0_countAt 5 rfl) (by repeat (first | assumption | exact up_s | rw [up_n (by first | assumption | (apply Ne.symm; assumption) | decide | omega)])) (by rfl) ?_
  refine P.iconst (dq dtX0_countAt 6 rfl) ?_
  refine P.icmp_ge (t := 18) (dq dtX0_countAt 7 rfl) rfl (by omega) (by omega) (fun c_13 => ?_) (fun c_13 => ?_)
  · refine P.iload_n (dq dtX0_countAt 10 rfl) rfl ?_
    refine P.aload_n (dq dtX0_countAt 11 rfl) rfl ?_
    refine P.get flX0_15 (dq dtX0_countAt 12 rfl) (by repeat (first | assumption | exact up_s | rw [up_n (by first | assumption | (apply Ne.symm; assumption) | decide | omega)])) (by rfl) ?_
    refine P.idiv (dq dtX0_countAt 13 rfl) (by omega) (by omega) (by omega) ?_
    rw [e0]
    refine P.aload_n (dq dtX0_countAt 14 rfl) rfl ?_
    refine P.get flX0_9 (dq dtX0_countAt 15 rfl) (by repeat (first | assumption | exact up_s | rw [up_n (by first | assumption | (apply Ne.symm; assumption) | decide | omega)])) (by rfl) ?_
    refine P.iconst (dq dtX0_countAt 16 rfl) ?_
    refine P.isub (dq dtX0_countAt 17 rfl) ?_
    refine P.callS2 (M' := mJ9_min_7cf53) (d' := d - 1) mlX0_52 mcJ9_min_7cf53 msJ9_min_7cf53 (dq dtX0_countAt 18 rfl) (by omega) (Nat.le_of_ble_eq_true rfl) ?_
    refine ct_minI (by omega) (by omega) ?_
    generalize hmn : min (z / s) (p - 2) = m at *
    refine P.istore_n (dq dtX0_countAt 19 rfl) (by decide) rfl rfl ?_
    refine P.aload_n (dq dtX0_countAt 20 rfl) rfl ?_
    refine P.iload_n (dq dtX0_countAt 21 rfl) rfl ?_
    refine P.iconst (dq dtX0_countAt 22 rfl) ?_
    refine P.iadd (dq dtX0_countAt 23 rfl) ?_
    refine P.callV1 (M' := mX0_tableAt) (d' := d - 1) mlX0_105 mcX0_tableAt mvX0_tableAt (dq dtX0_countAt 24 rfl) (by omega) (Nat.le_of_ble_eq_true rfl) (by repeat (first | assumption | exact up_s | rw [up_n (by first | assumption | (apply Ne.symm; assumption) | decide | omega)])) rfl ?_
    refine ct_X0_tableAt (by repeat (first | assumption | exact up_s | rw [up_n (by first | assumption | (apply Ne.symm; assumption) | decide | omega)])) (by omega) (by omega) (by repeat (first | assumption | exact up_s | rw [up_n (by first | assumption | (apply Ne.symm; assumption) | decide | omega)])) (by omega) ?_
    refine P.aload_n (dq dtX0_countAt 25 rfl) rfl ?_
    refine P.iload_n (dq dtX0_countAt 26 rfl) rfl ?_
    refine P.callV1 (M' := mX0_tableAt) (d' := d - 1) mlX0_105 mcX0_tableAt mvX0_tableAt (dq dtX0_countAt 27 rfl) (by omega) (Nat.le_of_ble_eq_true rfl) (by repeat (first | assumption | exact up_s | rw [up_n (by first | assumption | (apply Ne.symm; assumption) | decide | omega)])) rfl ?_
    refine ct_X0_tableAt (by repeat (first | assumption | exact up_s | rw [up_n (by first | assumption | (apply Ne.symm; assumption) | decide | omega)])) (by omega) (by omega) (by repeat (first | assumption | exact up_s | rw [up_n (by first | assumption | (apply Ne.symm; assumption) | decide | omega)])) (by omega) ?_
    refine P.isub (dq dtX0_countAt 28 rfl) ?_
    refine P.istore_n (dq dtX0_countAt 29 rfl) (by decide) rfl rfl ?_
    refine P.aload_n (dq dtX0_countAt 30 rfl) rfl ?_
    refine P.iload_n (dq dtX0_countAt 31 rfl) rfl ?_
    refine P.callV1 (M' := mX0_tableAt) (d' := d - 1) mlX0_105 mcX0_tableAt mvX0_tableAt (dq dtX0_countAt 32 rfl) (by omega) (Nat.le_of_ble_eq_true rfl) (by repeat (first | assumption | exact up_s | rw [up_n (by first | assumption | (apply Ne.symm; assumption) | decide | omega)])) rfl ?_
    refine ct_X0_tableAt (by repeat (first | assumption | exact up_s | rw [up_n (by first | assumption | (apply Ne.symm; assumption) | decide | omega)])) (by omega) (by omega) (by repeat (first | assumption | exact up_s | rw [up_n (by first | assumption | (apply Ne.symm; assumption) | decide | omega)])) (by omega) ?_
    refine P.iload_n (dq dtX0_countAt 33 rfl) rfl ?_
    refine P.iload_n (dq dtX0_countAt 34 rfl) rfl ?_
    refine P.iload_n (dq dtX0_countAt 35 rfl) rfl ?_
    refine P.aload_n (dq dtX0_countAt 36 rfl) rfl ?_
    refine P.get flX0_15 (dq dtX0_countAt 37 rfl) (by repeat (first | assumption | exact up_s | rw [up_n (by first | assumption | (apply Ne.symm; assumption) | decide | omega)])) (by rfl) ?_
    refine P.imul (dq dtX0_countAt 38 rfl) ?_
    refine P.isub (dq dtX0_countAt 39 rfl) ?_
    refine P.imul (dq dtX0_countAt 40 rfl) ?_
    refine P.aload_n (dq dtX0_countAt 41 rfl) rfl ?_
    refine P.get flX0_15 (dq dtX0_countAt 42 rfl) (by repeat (first | assumption | exact up_s | rw [up_n (by first | assumption | (apply Ne.symm; assumption) | decide | omega)])) (by rfl) ?_
    refine P.callS2 (M' := mJ9_floorDiv_7cf53) (d' := d - 1) mlX0_120 mcJ9_floorDiv_7cf53 msJ9_floorDiv_7cf53 (dq dtX0_countAt 43 rfl) (by omega) (Nat.le_of_ble_eq_true rfl) ?_
    refine ct_floorDiv (by omega) (by omega) (by omega) ?_
    refine P.iadd (dq dtX0_countAt 44 rfl) ?_
    refine P.iret (dq dtX0_countAt 45 rfl) rfl rfl rfl ?_
    exact h
  · refine P.iconst (dq dtX0_countAt 8 rfl) ?_
    refine P.iret (dq dtX0_countAt 9 rfl) rfl rfl rfl ?_
    exfalso; omega
theorem lp_placeAt {x : CX} {d N : Nat} {σ : PH} {Q : PQ} {q : Nat} {p s po pt pl : Int} {co : Int → Int} (hq : σ q = fgO q p s po pt pl) (h7 : σ (q + 7) = pcI 0 8 co) (hp : 2 ≤ p ∧ p ≤ 8) (hs : 10 ≤ s ∧ s ≤ 99) (hT : TB co p) (hd : 2 ≤ d) {y : Int} (hy : -200 ≤ y ∧ y ≤ 2000) : ∀ (t : Nat) (k : Int), 0 < t → 0 ≤ k → k + t = p → co k < y → Q (some (vI (plF co s y (t - 1) k))) σ → P x d mX0_placeAt Q (0, 0) 13 [some (vR q), some (vI y), some (vI k), none, none] [] N σ := by
  intro t
  induction t with
  | zero =>
    intro k h00 hk ht hlo h
    exfalso; omega
  | succ t ih =>
    intro k h00 hk ht hlo h
    refine P.iload_n (dq dtX0_placeAt 9 rfl) rfl ?_
    refine P.aload_n (dq dtX0_placeAt 10 rfl) rfl ?_
    refine P.get flX0_9 (dq dtX0_placeAt 11 rfl) (by repeat (first | assumption | exact up_s | rw [up_n (by first | assumption | (apply Ne.symm; assumption) | decide | omega)])) (by rfl) ?_
    refine P.iconst (dq dtX0_placeAt 12 rfl) ?_
    refine P.isub (dq dtX0_placeAt 13 rfl) ?_
    refine P.icmp_ge (t := 87) (dq dtX0_placeAt 14 rfl) rfl (by omega) (by omega) (fun c_20 => ?_) (fun c_20 => ?_)
    · refine P.ldc (n := -100000) (dq dtX0_placeAt 55 rfl) kcX0_123 rfl ?_
      refine P.iret (dq dtX0_placeAt 56 rfl) rfl rfl rfl ?_
      obtain rfl : t = 0 := by omega
      exact h
    · obtain ⟨t, rfl⟩ : ∃ w, t = w + 1 := ⟨t - 1, by omega⟩
      have hx : plF co s y (t + 1 + 1 - 1) k = if y ≤ co (k + 1) then k * s - (-(y - co k) * s) / (co (k + 1) - co k) else plF co s y t (k + 1) := rfl
      rw [hx] at h
      have b1 := hT.1 k (by omega) (by omega)
      have b2 := hT.1 (k + 1) (by omega) (by omega)
      have b3 := hT.2 k (by omega) (by omega)
      refine P.aload_n (dq dtX0_placeAt 15 rfl) rfl ?_
      refine P.iload_n (dq dtX0_placeAt 16 rfl) rfl ?_
      refine P.iconst (dq dtX0_placeAt 17 rfl) ?_
      refine P.iadd (dq dtX0_placeAt 18 rfl) ?_
      refine P.callV1 (M' := mX0_tableAt) (d' := d - 1) mlX0_105 mcX0_tableAt mvX0_tableAt (dq dtX0_placeAt 19 rfl) (by omega) (Nat.le_of_ble_eq_true rfl) (by repeat (first | assumption | exact up_s | rw [up_n (by first | assumption | (apply Ne.symm; assumption) | decide | omega)])) rfl ?_
      refine ct_X0_tableAt (by repeat (first | assumption | exact up_s | rw [up_n (by first | assumption | (apply Ne.symm; assumption) | decide | omega)])) (by omega) (by omega) (by repeat (first | assumption | exact up_s | rw [up_n (by first | assumption | (apply Ne.symm; assumption) | decide | omega)])) (by omega) ?_
      refine P.aload_n (dq dtX0_placeAt 20 rfl) rfl ?_
      refine P.iload_n (dq dtX0_placeAt 21 rfl) rfl ?_
      refine P.callV1 (M' := mX0_tableAt) (d' := d - 1) mlX0_105 mcX0_tableAt mvX0_tableAt (dq dtX0_placeAt 22 rfl) (by omega) (Nat.le_of_ble_eq_true rfl) (by repeat (first | assumption | exact up_s | rw [up_n (by first | assumption | (apply Ne.symm; assumption) | decide | omega)])) rfl ?_
      refine ct_X0_tableAt (by repeat (first | assumption | exact up_s | rw [up_n (by first | assumption | (apply Ne.symm; assumption) | decide | omega)])) (by omega) (by omega) (by repeat (first | assumption | exact up_s | rw [up_n (by first | assumption | (apply Ne.symm; assumption) | decide | omega)])) (by omega) ?_
      refine P.isub (dq dtX0_placeAt 23 rfl) ?_
      refine P.istore_n (dq dtX0_placeAt 24 rfl) (by decide) rfl rfl ?_
      refine P.iload_n (dq dtX0_placeAt 25 rfl) rfl ?_
      refine P.aload_n (dq dtX0_placeAt 26 rfl) rfl ?_
      refine P.iload_n (dq dtX0_placeAt 27 rfl) rfl ?_
      refine P.iconst (dq dtX0_placeAt 28 rfl) ?_
      refine P.iadd (dq dtX0_placeAt 29 rfl) ?_
      refine P.callV1 (M' := mX0_tableAt) (d' := d - 1) mlX0_105 mcX0_tableAt mvX0_tableAt (dq dtX0_placeAt 30 rfl) (by omega) (Nat.le_of_ble_eq_true rfl) (by repeat (first | assumption | exact up_s | rw [up_n (by first | assumption | (apply Ne.symm; assumption) | decide | omega)])) rfl ?_
      refine ct_X0_tableAt (by repeat (first | assumption | exact up_s | rw [up_n (by first | assumption | (apply Ne.symm; assumption) | decide | omega)])) (by omega) (by omega) (by repeat (first | assumption | exact up_s | rw [up_n (by first | assumption | (apply Ne.symm; assumption) | decide | omega)])) (by omega) ?_
      refine P.icmp_gt (t := 81) (dq dtX0_placeAt 31 rfl) rfl (by omega) (by omega) (fun c_45 => ?_) (fun c_45 => ?_)
      · refine P.iinc (dq dtX0_placeAt 53 rfl) rfl (by decide) rfl rfl ?_
        refine P.goto (t := 13) (dq dtX0_placeAt 54 rfl) rfl ?_
        rw [if_neg (show ¬ y ≤ co (k + 1) by omega)] at h
        refine P.keep [0, 1, 2] ?_
        exact ih (k + 1) (by omega) (by omega) (by omega) (by omega) h
      · refine P.iload_n (dq dtX0_placeAt 32 rfl) rfl ?_
        refine P.if_le (t := 81) (dq dtX0_placeAt 33 rfl) rfl (by omega) (fun c_49 => ?_) (fun c_49 => ?_)
        · refine P.iinc (dq dtX0_placeAt 53 rfl) rfl (by decide) rfl rfl ?_
          refine P.goto (t := 13) (dq dtX0_placeAt 54 rfl) rfl ?_
          rw [if_neg (show ¬ y ≤ co (k + 1) by omega)] at h
          refine P.keep [0, 1, 2] ?_
          exact ih (k + 1) (by omega) (by omega) (by omega) (by omega) h
        · have b4 : 0 ≤ (y - co k) * s := Int.mul_nonneg (by omega) (by omega)
          have b5 : (y - co k) * s ≤ 2751 * s := Int.mul_le_mul_of_nonneg_right (by omega) (by omega)
          have b6 : -(y - co k) * s = -((y - co k) * s) := Int.neg_mul _ _
          refine P.iload_n (dq dtX0_placeAt 34 rfl) rfl ?_
          refine P.aload_n (dq dtX0_placeAt 35 rfl) rfl ?_
          refine P.iload_n (dq dtX0_placeAt 36 rfl) rfl ?_
          refine P.callV1 (M' := mX0_tableAt) (d' := d - 1) mlX0_105 mcX0_tableAt mvX0_tableAt (dq dtX0_placeAt 37 rfl) (by omega) (Nat.le_of_ble_eq_true rfl) (by repeat (first | assumption | exact up_s | rw [up_n (by first | assumption | (apply Ne.symm; assumption) | decide | omega)])) rfl ?_
          refine ct_X0_tableAt (by repeat (first | assumption | exact up_s | rw [up_n (by first | assumption | (apply Ne.symm; assumption) | decide | omega)])) (by omega) (by omega) (by repeat (first | assumption | exact up_s | rw [up_n (by first | assumption | (apply Ne.symm; assumption) | decide | omega)])) (by omega) ?_
          refine P.isub (dq dtX0_placeAt 38 rfl) ?_
          refine P.istore (dq dtX0_placeAt 39 rfl) (by decide) rfl rfl ?_
          refine P.iload_n (dq dtX0_placeAt 40 rfl) rfl ?_
          refine P.aload_n (dq dtX0_placeAt 41 rfl) rfl ?_
          refine P.get flX0_15 (dq dtX0_placeAt 42 rfl) (by repeat (first | assumption | exact up_s | rw [up_n (by first | assumption | (apply Ne.symm; assumption) | decide | omega)])) (by rfl) ?_
          refine P.imul (dq dtX0_placeAt 43 rfl) ?_
          refine P.iload (dq dtX0_placeAt 44 rfl) rfl ?_
          refine P.ineg (dq dtX0_placeAt 45 rfl) ?_
          refine P.aload_n (dq dtX0_placeAt 46 rfl) rfl ?_
          refine P.get flX0_15 (dq dtX0_placeAt 47 rfl) (by repeat (first | assumption | exact up_s | rw [up_n (by first | assumption | (apply Ne.symm; assumption) | decide | omega)])) (by rfl) ?_
          refine P.imul (dq dtX0_placeAt 48 rfl) ?_
          refine P.iload_n (dq dtX0_placeAt 49 rfl) rfl ?_
          refine P.callS2 (M' := mJ9_floorDiv_7cf53) (d' := d - 1) mlX0_120 mcJ9_floorDiv_7cf53 msJ9_floorDiv_7cf53 (dq dtX0_placeAt 50 rfl) (by omega) (Nat.le_of_ble_eq_true rfl) ?_
          refine ct_floorDiv (by omega) (by omega) (by omega) ?_
          refine P.isub (dq dtX0_placeAt 51 rfl) ?_
          refine P.iret (dq dtX0_placeAt 52 rfl) rfl rfl rfl ?_
          rw [if_pos (show y ≤ co (k + 1) by omega)] at h
          exact h
/-- Figures.placeAt -/
theorem ct_X0_placeAt {x : CM} {d N : Nat} {σ : PH} {Q : PQ} {q : Nat} {p s po pt pl : Int} {co : Int → Int} (hq : σ q = fgO q p s po pt pl) (h7 : σ (q + 7) = pcI 0 8 co) (hp : 2 ≤ p ∧ p ≤ 8) (hs : 10 ≤ s ∧ s ≤ 99) (hT : TB co p) (hd : 2 ≤ d) {u : Int} (hy : -200 ≤ u ∧ u ≤ 2000) (h : Q (some (vI (if u ≤ co 0 then 0 else plF co s u (p - 1).toNat 0))) σ) : Call x d 0 0 mX0_placeAt [vR q, vI u] N σ Q := by
  refine Call.of mcX0_placeAt (Nat.le_of_ble_eq_true rfl) (fun y hy => ?_)
  subst hy
  have b1 := hT.1 0 (by omega) (by omega)
  refine P.iload_n (dq dtX0_placeAt 0 rfl) rfl ?_
  refine P.aload_n (dq dtX0_placeAt 1 rfl) rfl ?_
  refine P.iconst (dq dtX0_placeAt 2 rfl) ?_
  refine P.callV1 (M' := mX0_tableAt) (d' := d - 1) mlX0_105 mcX0_tableAt mvX0_tableAt (dq dtX0_placeAt 3 rfl) (by omega) (Nat.le_of_ble_eq_true rfl) (by repeat (first | assumption | exact up_s | rw [up_n (by first | assumption | (apply Ne.symm; assumption) | decide | omega)])) rfl ?_
  refine ct_X0_tableAt (by repeat (first | assumption | exact up_s | rw [up_n (by first | assumption | (apply Ne.symm; assumption) | decide | omega)])) (by omega) (by omega) (by repeat (first | assumption | exact up_s | rw [up_n (by first | assumption | (apply Ne.symm; assumption) | decide | omega)])) (by omega) ?_
  refine P.icmp_gt (t := 11) (dq dtX0_placeAt 4 rfl) rfl (by omega) (by omega) (fun c_6 => ?_) (fun c_6 => ?_)
  · refine P.iconst (dq dtX0_placeAt 7 rfl) ?_
    refine P.istore_n (dq dtX0_placeAt 8 rfl) (by decide) rfl rfl ?_
    rw [if_neg (show ¬ u ≤ co 0 by omega)] at h
    exact lp_placeAt hq h7 hp hs hT hd hy ((p - 1).toNat + 1) 0 (by omega) (by omega) (by omega) (by omega) h
  · refine P.iconst (dq dtX0_placeAt 5 rfl) ?_
    refine P.iret (dq dtX0_placeAt 6 rfl) rfl rfl rfl ?_
    rw [if_pos (show u ≤ co 0 by omega)] at h
    exact h
theorem lp_worst {x : CX} {d N : Nat} {σ : PH} {Q : PQ} {q : Nat} {p s po pt pl : Int} {me co : Int → Int} (hq : σ q = fgO q p s po pt pl) (h7 : σ (q + 7) = pcI 0 8 co) (hp : 2 ≤ p ∧ p ≤ 8) (hs : 10 ≤ s ∧ s ≤ 99) (hT : TB co p) (h1 : σ (q + 1) = pcI 0 16 me) (hd : 4 ≤ d) (hmb : ∀ k : Int, 0 ≤ k → k < 2 * p → -1000000 ≤ misF me co s pl (k / 2) (k % 2) ∧ misF me co s pl (k / 2) (k % 2) ≤ 1000000) (h : Q (some (vI (wst (fun k => absI (misF me co s pl (k / 2) (k % 2))) (2 * p).toNat).1)) σ) : ∀ (t n : Nat), (n : Int) ≤ 2 * p → 2 * p - n < t → (-1 ≤ (wst (fun k => absI (misF me co s pl (k / 2) (k % 2))) n).2 ∧ (wst (fun k => absI (misF me co s pl (k / 2) (k % 2))) n).2 ≤ 1000000) → P x d mX0_worstSlot Q (0, 0) 6 [some (vR q), some (vI (wst (fun k => absI (misF me co s pl (k / 2) (k % 2))) n).1), some (vI (wst (fun k => absI (misF me co s pl (k / 2) (k % 2))) n).2), some (vI n), none] [] N σ := by
  intro t
  induction t with
  | zero =>
    intro n hn ht hb
    exfalso; omega
  | succ t ih =>
    intro n hn ht hb
    refine P.iload_n (dq dtX0_worstSlot 6 rfl) rfl ?_
    refine P.aload_n (dq dtX0_worstSlot 7 rfl) rfl ?_
    refine P.get flX0_9 (dq dtX0_worstSlot 8 rfl) (by repeat (first | assumption | exact up_s | rw [up_n (by first | assumption | (apply Ne.symm; assumption) | decide | omega)])) (by rfl) ?_
    refine P.iconst (dq dtX0_worstSlot 9 rfl) ?_
    refine P.imul (dq dtX0_worstSlot 10 rfl) ?_
    refine P.icmp_ge (t := 48) (dq dtX0_worstSlot 11 rfl) rfl (by omega) (by omega) (fun c_13 => ?_) (fun c_13 => ?_)
    · refine P.iload_n (dq dtX0_worstSlot 31 rfl) rfl ?_
      refine P.iret (dq dtX0_worstSlot 32 rfl) rfl rfl rfl ?_
      obtain rfl : n = (2 * p).toNat := by omega
      exact h
    · have hmk := hmb n (by omega) (by omega)
      have e1 : (n : Int).tdiv 2 = (n : Int) / 2 := Int.tdiv_eq_ediv_of_nonneg (by omega)
      have e2 : (n : Int).tmod 2 = (n : Int) % 2 := Int.tmod_eq_emod_of_nonneg (by omega)
      have hx : wst (fun k => absI (misF me co s pl (k / 2) (k % 2))) (n + 1) = if (wst (fun k => absI (misF me co s pl (k / 2) (k % 2))) n).2 < absI (misF me co s pl ((n : Int) / 2) ((n : Int) % 2)) then ((n : Int), absI (misF me co s pl ((n : Int) / 2) ((n : Int) % 2))) else wst (fun k => absI (misF me co s pl (k / 2) (k % 2))) n := rfl
      refine P.aload_n (dq dtX0_worstSlot 12 rfl) rfl ?_
      refine P.iload_n (dq dtX0_worstSlot 13 rfl) rfl ?_
      refine P.iconst (dq dtX0_worstSlot 14 rfl) ?_
      refine P.idiv (dq dtX0_worstSlot 15 rfl) (by omega) (by omega) (by omega) ?_
      rw [e1]
      refine P.iload_n (dq dtX0_worstSlot 16 rfl) rfl ?_
      refine P.iconst (dq dtX0_worstSlot 17 rfl) ?_
      refine P.irem (dq dtX0_worstSlot 18 rfl) (by omega) (by omega) (by omega) ?_
      rw [e2]
      refine P.callV2 (M' := mX0_missAt) (d' := d - 1) mlX0_111 mcX0_missAt mvX0_missAt (dq dtX0_worstSlot 19 rfl) (by omega) (Nat.le_of_ble_eq_true rfl) (by repeat (first | assumption | exact up_s | rw [up_n (by first | assumption | (apply Ne.symm; assumption) | decide | omega)])) rfl ?_
      refine ct_X0_missAt (me := me) (co := co) (by repeat (first | assumption | exact up_s | rw [up_n (by first | assumption | (apply Ne.symm; assumption) | decide | omega)])) (by omega) (by omega) (by repeat (first | assumption | exact up_s | rw [up_n (by first | assumption | (apply Ne.symm; assumption) | decide | omega)])) (by repeat (first | assumption | exact up_s | rw [up_n (by first | assumption | (apply Ne.symm; assumption) | decide | omega)])) (by omega) (by omega) ?_
      rw [show me ((n : Int) / 2 * 2 + (n : Int) % 2) + 60 * (co ((n : Int) / 2) - (n : Int) / 2 * s + if (n : Int) % 2 = 1 then pl else 0) = misF me co s pl ((n : Int) / 2) ((n : Int) % 2) from rfl]
      refine P.callS1 (M' := mJ9_abs_0f7a4) (d' := d - 1) mlX0_114 mcJ9_abs_0f7a4 msJ9_abs_0f7a4 (dq dtX0_worstSlot 20 rfl) (by omega) (Nat.le_of_ble_eq_true rfl) ?_
      refine ct_absI (by omega) ?_
      have hab : 0 ≤ absI (misF me co s pl ((n : Int) / 2) ((n : Int) % 2)) ∧ absI (misF me co s pl ((n : Int) / 2) ((n : Int) % 2)) ≤ 1000000 := by { unfold absI; split <;> omega }
      generalize hg : misF me co s pl ((n : Int) / 2) ((n : Int) % 2) = z at *
      refine P.istore (dq dtX0_worstSlot 21 rfl) (by decide) rfl rfl ?_
      refine P.iload (dq dtX0_worstSlot 22 rfl) rfl ?_
      refine P.iload_n (dq dtX0_worstSlot 23 rfl) rfl ?_
      refine P.icmp_le (t := 42) (dq dtX0_worstSlot 24 rfl) rfl (by omega) (by omega) (fun c_34 => ?_) (fun c_34 => ?_)
      · rw [if_neg (by omega)] at hx
        refine P.iinc (dq dtX0_worstSlot 29 rfl) rfl (by decide) rfl rfl ?_
        refine P.goto (t := 6) (dq dtX0_worstSlot 30 rfl) rfl ?_
        refine P.keep [0, 1, 2, 3] ?_
        rw [← hx]
        exact ih (n + 1) (by omega) (by omega) (by rw [hx]; omega)
      · rw [if_pos (by omega)] at hx
        refine P.iload (dq dtX0_worstSlot 25 rfl) rfl ?_
        refine P.istore_n (dq dtX0_worstSlot 26 rfl) (by decide) rfl rfl ?_
        refine P.iload_n (dq dtX0_worstSlot 27 rfl) rfl ?_
        refine P.istore_n (dq dtX0_worstSlot 28 rfl) (by decide) rfl rfl ?_
        refine P.iinc (dq dtX0_worstSlot 29 rfl) rfl (by decide) rfl rfl ?_
        refine P.goto (t := 6) (dq dtX0_worstSlot 30 rfl) rfl ?_
        refine P.keep [0, 1, 2, 3] ?_
        have e5 : ((n : Int)) = (wst (fun k => absI (misF me co s pl (k / 2) (k % 2))) (n + 1)).1 := by { rw [hx] }
        have e6 : absI z = (wst (fun k => absI (misF me co s pl (k / 2) (k % 2))) (n + 1)).2 := by { rw [hx] }
        have hk := ih (n + 1) (by omega) (by omega) (by rw [← e6]; omega)
        rw [← e5, ← e6] at hk
        exact hk
/-- Figures.worstSlot -/
theorem ct_X0_worstSlot {x : CM} {d N : Nat} {σ : PH} {Q : PQ} {q : Nat} {p s po pt pl : Int} {me co : Int → Int} (hq : σ q = fgO q p s po pt pl) (h7 : σ (q + 7) = pcI 0 8 co) (hp : 2 ≤ p ∧ p ≤ 8) (hs : 10 ≤ s ∧ s ≤ 99) (hT : TB co p) (h1 : σ (q + 1) = pcI 0 16 me) (hd : 4 ≤ d) (hmb : ∀ k : Int, 0 ≤ k → k < 2 * p → -1000000 ≤ misF me co s pl (k / 2) (k % 2) ∧ misF me co s pl (k / 2) (k % 2) ≤ 1000000) (h : Q (some (vI (wst (fun k => absI (misF me co s pl (k / 2) (k % 2))) (2 * p).toNat).1)) σ) : Call x d 0 0 mX0_worstSlot [vR q] N σ Q := by
  refine Call.of mcX0_worstSlot (Nat.le_of_ble_eq_true rfl) (fun y hy => ?_)
  subst hy
  refine P.iconst (dq dtX0_worstSlot 0 rfl) ?_
  refine P.istore_n (dq dtX0_worstSlot 1 rfl) (by decide) rfl rfl ?_
  refine P.iconst (dq dtX0_worstSlot 2 rfl) ?_
  refine P.istore_n (dq dtX0_worstSlot 3 rfl) (by decide) rfl rfl ?_
  refine P.iconst (dq dtX0_worstSlot 4 rfl) ?_
  refine P.istore_n (dq dtX0_worstSlot 5 rfl) (by decide) rfl rfl ?_
  exact lp_worst hq h7 hp hs hT h1 hd hmb h 17 0 (by omega) (by omega) (by show -1 ≤ (-1 : Int) ∧ (-1 : Int) ≤ 1000000; omega)
