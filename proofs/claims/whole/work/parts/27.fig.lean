/-- Figures: the object at q, its rows behind it -/
abbrev fgO (q : Nat) (p s po pt pl : Int) : PC := pcO 0 [vI p, vI s, vR (q + 1), vR (q + 2), vI po, vR (q + 3), vR (q + 4), vR (q + 5), vR (q + 6), vR (q + 7), vI pt, vI pl]
/-- Figures.hasPoint -/
theorem ct_X0_hasPoint {x : CM} {d N : Nat} {σ : PH} {Q : PQ} {q : Nat} {p s po pt pl : Int} (hq : σ q = fgO q p s po pt pl) (hp : 0 ≤ p ∧ p ≤ 8) {k : Int} (hk : inR k) (ht : 0 ≤ k ∧ k < p → Q (some (vI 1)) σ) (hf : ¬ (0 ≤ k ∧ k < p) → Q (some (vI 0)) σ) : Call x d 0 0 mX0_hasPoint [vR q, vI k] N σ Q := by
  refine Call.of mcX0_hasPoint (Nat.le_of_ble_eq_true rfl) (fun y hy => ?_)
  subst hy
  refine P.iload_n (dq dtX0_hasPoint 0 rfl) rfl ?_
  refine P.if_lt (t := 16) (dq dtX0_hasPoint 1 rfl) rfl (by omega) (fun c_1 => ?_) (fun c_1 => ?_)
  · refine P.iconst (dq dtX0_hasPoint 8 rfl) ?_
    refine P.zret (dq dtX0_hasPoint 9 rfl) rfl rfl (by decide) rfl ?_
    first | exact ht (by omega) | exact hf (by omega)
  · refine P.iload_n (dq dtX0_hasPoint 2 rfl) rfl ?_
    refine P.aload_n (dq dtX0_hasPoint 3 rfl) rfl ?_
    refine P.get flX0_9 (dq dtX0_hasPoint 4 rfl) (by repeat (first | assumption | exact up_s | rw [up_n (by first | assumption | (apply Ne.symm; assumption) | decide | omega)])) (by rfl) ?_
    refine P.icmp_ge (t := 16) (dq dtX0_hasPoint 5 rfl) rfl (by omega) (by omega) (fun c_9 => ?_) (fun c_9 => ?_)
    · refine P.iconst (dq dtX0_hasPoint 8 rfl) ?_
      refine P.zret (dq dtX0_hasPoint 9 rfl) rfl rfl (by decide) rfl ?_
      first | exact ht (by omega) | exact hf (by omega)
    · refine P.iconst (dq dtX0_hasPoint 6 rfl) ?_
      refine P.goto (t := 17) (dq dtX0_hasPoint 7 rfl) rfl ?_
      refine P.zret (dq dtX0_hasPoint 9 rfl) rfl rfl (by decide) rfl ?_
      first | exact ht (by omega) | exact hf (by omega)
/-- Figures.hasPlace -/
theorem ct_X0_hasPlace {x : CM} {d N : Nat} {σ : PH} {Q : PQ} {q : Nat} {p s po pt pl : Int} (hq : σ q = fgO q p s po pt pl) (hp : 0 ≤ p ∧ p ≤ 8) (hL : 0 ≤ (p - 1) * s ∧ (p - 1) * s ≤ 1000) {k : Int} (hk : inR k) (ht : 0 ≤ k ∧ k ≤ (p - 1) * s → Q (some (vI 1)) σ) (hf : ¬ (0 ≤ k ∧ k ≤ (p - 1) * s) → Q (some (vI 0)) σ) : Call x d 0 0 mX0_hasPlace [vR q, vI k] N σ Q := by
  refine Call.of mcX0_hasPlace (Nat.le_of_ble_eq_true rfl) (fun y hy => ?_)
  subst hy
  refine P.iload_n (dq dtX0_hasPlace 0 rfl) rfl ?_
  refine P.if_lt (t := 23) (dq dtX0_hasPlace 1 rfl) rfl (by omega) (fun c_1 => ?_) (fun c_1 => ?_)
  · refine P.iconst (dq dtX0_hasPlace 13 rfl) ?_
    refine P.zret (dq dtX0_hasPlace 14 rfl) rfl rfl (by decide) rfl ?_
    first | exact ht (by omega) | exact hf (by omega)
  · refine P.iload_n (dq dtX0_hasPlace 2 rfl) rfl ?_
    refine P.aload_n (dq dtX0_hasPlace 3 rfl) rfl ?_
    refine P.get flX0_9 (dq dtX0_hasPlace 4 rfl) (by repeat (first | assumption | exact up_s | rw [up_n (by first | assumption | (apply Ne.symm; assumption) | decide | omega)])) (by rfl) ?_
    refine P.iconst (dq dtX0_hasPlace 5 rfl) ?_
    refine P.isub (dq dtX0_hasPlace 6 rfl) ?_
    refine P.aload_n (dq dtX0_hasPlace 7 rfl) rfl ?_
    refine P.get flX0_15 (dq dtX0_hasPlace 8 rfl) (by repeat (first | assumption | exact up_s | rw [up_n (by first | assumption | (apply Ne.symm; assumption) | decide | omega)])) (by rfl) ?_
    refine P.imul (dq dtX0_hasPlace 9 rfl) ?_
    refine P.icmp_gt (t := 23) (dq dtX0_hasPlace 10 rfl) rfl (by omega) (by omega) (fun c_16 => ?_) (fun c_16 => ?_)
    · refine P.iconst (dq dtX0_hasPlace 13 rfl) ?_
      refine P.zret (dq dtX0_hasPlace 14 rfl) rfl rfl (by decide) rfl ?_
      first | exact ht (by omega) | exact hf (by omega)
    · refine P.iconst (dq dtX0_hasPlace 11 rfl) ?_
      refine P.goto (t := 24) (dq dtX0_hasPlace 12 rfl) rfl ?_
      refine P.zret (dq dtX0_hasPlace 14 rfl) rfl rfl (by decide) rfl ?_
      first | exact ht (by omega) | exact hf (by omega)
/-- Figures.meanAt -/
theorem ct_X0_meanAt {x : CM} {d N : Nat} {σ : PH} {Q : PQ} {q : Nat} {p s po pt pl : Int} (hq : σ q = fgO q p s po pt pl) (hp : 0 ≤ p ∧ p ≤ 8) (hd : 1 ≤ d) {me : Int → Int} (hm : σ (q + 1) = pcI 0 16 me) {k w : Int} (hk : 0 ≤ k ∧ k < p) (hw : w = 0 ∨ w = 1) (h : Q (some (vI (me (k * 2 + w)))) σ) : Call x d 0 0 mX0_meanAt [vR q, vI k, vI w] N σ Q := by
  refine Call.of mcX0_meanAt (Nat.le_of_ble_eq_true rfl) (fun y hy => ?_)
  subst hy
  refine P.aload_n (dq dtX0_meanAt 0 rfl) rfl ?_
  refine P.iload_n (dq dtX0_meanAt 1 rfl) rfl ?_
  refine P.callV1 (M' := mX0_hasPoint) (d' := d - 1) mlX0_98 mcX0_hasPoint mvX0_hasPoint (dq dtX0_meanAt 2 rfl) (by omega) (Nat.le_of_ble_eq_true rfl) (by repeat (first | assumption | exact up_s | rw [up_n (by first | assumption | (apply Ne.symm; assumption) | decide | omega)])) rfl ?_
  refine ct_X0_hasPoint (by repeat (first | assumption | exact up_s | rw [up_n (by first | assumption | (apply Ne.symm; assumption) | decide | omega)])) (by omega) (by omega) (fun n_2 => ?_) (fun n_2 => absurd (by omega) n_2)
  refine P.if_eq (t := 28) (dq dtX0_meanAt 3 rfl) rfl (by omega) (fun h9 => absurd h9 (by decide)) (fun _ => ?_)
  refine P.iload_n (dq dtX0_meanAt 4 rfl) rfl ?_
  refine P.callSN1 (M' := mX6_isWay) (d' := d - 1) nlX0_102 mcX6_isWay msX6_isWay (dq dtX0_meanAt 5 rfl) (by omega) (Nat.le_of_ble_eq_true rfl) ?_
  refine ct_X6_isWay (by omega) (fun n_9 => ?_) (fun n_9 => absurd (by omega) n_9)
  refine P.if_eq (t := 28) (dq dtX0_meanAt 6 rfl) rfl (by omega) (fun h9 => absurd h9 (by decide)) (fun _ => ?_)
  refine P.aload_n (dq dtX0_meanAt 7 rfl) rfl ?_
  refine P.get flX0_18 (dq dtX0_meanAt 8 rfl) (by repeat (first | assumption | exact up_s | rw [up_n (by first | assumption | (apply Ne.symm; assumption) | decide | omega)])) (by rfl) ?_
  refine P.iload_n (dq dtX0_meanAt 9 rfl) rfl ?_
  refine P.iconst (dq dtX0_meanAt 10 rfl) ?_
  refine P.imul (dq dtX0_meanAt 11 rfl) ?_
  refine P.iload_n (dq dtX0_meanAt 12 rfl) rfl ?_
  refine P.iadd (dq dtX0_meanAt 13 rfl) ?_
  refine P.iald (dq dtX0_meanAt 14 rfl) (by repeat (first | assumption | exact up_s | rw [up_n (by first | assumption | (apply Ne.symm; assumption) | decide | omega)])) (by omega) (by omega) (by omega) ?_
  refine P.goto (t := 29) (dq dtX0_meanAt 15 rfl) rfl ?_
  refine P.iret (dq dtX0_meanAt 17 rfl) rfl rfl rfl ?_
  exact h
/-- Figures.slopeAt -/
theorem ct_X0_slopeAt {x : CM} {d N : Nat} {σ : PH} {Q : PQ} {q : Nat} {p s po pt pl : Int} (hq : σ q = fgO q p s po pt pl) (hp : 0 ≤ p ∧ p ≤ 8) (hd : 2 ≤ d) {me : Int → Int} (hm : σ (q + 1) = pcI 0 16 me) {k : Int} (hk : 0 ≤ k ∧ k < p) (h : Q (some (vI (me (k * 2 + 0) + me (k * 2 + 1)))) σ) : Call x d 0 0 mX0_slopeAt [vR q, vI k] N σ Q := by
  refine Call.of mcX0_slopeAt (Nat.le_of_ble_eq_true rfl) (fun y hy => ?_)
  subst hy
  refine P.aload_n (dq dtX0_slopeAt 0 rfl) rfl ?_
  refine P.iload_n (dq dtX0_slopeAt 1 rfl) rfl ?_
  refine P.iconst (dq dtX0_slopeAt 2 rfl) ?_
  refine P.callV2 (M' := mX0_meanAt) (d' := d - 1) mlX0_82 mcX0_meanAt mvX0_meanAt (dq dtX0_slopeAt 3 rfl) (by omega) (Nat.le_of_ble_eq_true rfl) (by repeat (first | assumption | exact up_s | rw [up_n (by first | assumption | (apply Ne.symm; assumption) | decide | omega)])) rfl ?_
  refine ct_X0_meanAt (by repeat (first | assumption | exact up_s | rw [up_n (by first | assumption | (apply Ne.symm; assumption) | decide | omega)])) (by omega) (by omega) (by repeat (first | assumption | exact up_s | rw [up_n (by first | assumption | (apply Ne.symm; assumption) | decide | omega)])) (by omega) (by omega) ?_
  refine P.aload_n (dq dtX0_slopeAt 4 rfl) rfl ?_
  refine P.iload_n (dq dtX0_slopeAt 5 rfl) rfl ?_
  refine P.iconst (dq dtX0_slopeAt 6 rfl) ?_
  refine P.callV2 (M' := mX0_meanAt) (d' := d - 1) mlX0_82 mcX0_meanAt mvX0_meanAt (dq dtX0_slopeAt 7 rfl) (by omega) (Nat.le_of_ble_eq_true rfl) (by repeat (first | assumption | exact up_s | rw [up_n (by first | assumption | (apply Ne.symm; assumption) | decide | omega)])) rfl ?_
  refine ct_X0_meanAt (by repeat (first | assumption | exact up_s | rw [up_n (by first | assumption | (apply Ne.symm; assumption) | decide | omega)])) (by omega) (by omega) (by repeat (first | assumption | exact up_s | rw [up_n (by first | assumption | (apply Ne.symm; assumption) | decide | omega)])) (by omega) (by omega) ?_
  refine P.iadd (dq dtX0_slopeAt 8 rfl) ?_
  refine P.iret (dq dtX0_slopeAt 9 rfl) rfl rfl rfl ?_
  exact h
/-- Figures.wantedAt -/
theorem ct_X0_wantedAt {x : CM} {d N : Nat} {σ : PH} {Q : PQ} {q : Nat} {p s po pt pl : Int} (hq : σ q = fgO q p s po pt pl) (hp : 0 ≤ p ∧ p ≤ 8) (hd : 1 ≤ d) {wa : Int → Int} (hm : σ (q + 2) = pcI 0 8 wa) {k : Int} (hk : 0 ≤ k ∧ k < p) (h : Q (some (vI (wa k))) σ) : Call x d 0 0 mX0_wantedAt [vR q, vI k] N σ Q := by
  refine Call.of mcX0_wantedAt (Nat.le_of_ble_eq_true rfl) (fun y hy => ?_)
  subst hy
  refine P.aload_n (dq dtX0_wantedAt 0 rfl) rfl ?_
  refine P.iload_n (dq dtX0_wantedAt 1 rfl) rfl ?_
  refine P.callV1 (M' := mX0_hasPoint) (d' := d - 1) mlX0_98 mcX0_hasPoint mvX0_hasPoint (dq dtX0_wantedAt 2 rfl) (by omega) (Nat.le_of_ble_eq_true rfl) (by repeat (first | assumption | exact up_s | rw [up_n (by first | assumption | (apply Ne.symm; assumption) | decide | omega)])) rfl ?_
  refine ct_X0_hasPoint (by repeat (first | assumption | exact up_s | rw [up_n (by first | assumption | (apply Ne.symm; assumption) | decide | omega)])) (by omega) (by omega) (fun n_2 => ?_) (fun n_2 => absurd (by omega) n_2)
  refine P.if_eq (t := 17) (dq dtX0_wantedAt 3 rfl) rfl (by omega) (fun h9 => absurd h9 (by decide)) (fun _ => ?_)
  refine P.aload_n (dq dtX0_wantedAt 4 rfl) rfl ?_
  refine P.get flX0_22 (dq dtX0_wantedAt 5 rfl) (by repeat (first | assumption | exact up_s | rw [up_n (by first | assumption | (apply Ne.symm; assumption) | decide | omega)])) (by rfl) ?_
  refine P.iload_n (dq dtX0_wantedAt 6 rfl) rfl ?_
  refine P.iald (dq dtX0_wantedAt 7 rfl) (by repeat (first | assumption | exact up_s | rw [up_n (by first | assumption | (apply Ne.symm; assumption) | decide | omega)])) (by omega) (by omega) (by omega) ?_
  refine P.goto (t := 18) (dq dtX0_wantedAt 8 rfl) rfl ?_
  refine P.iret (dq dtX0_wantedAt 10 rfl) rfl rfl rfl ?_
  exact h
/-- Figures.poolFirstAt -/
theorem ct_X0_poolFirstAt {x : CM} {d N : Nat} {σ : PH} {Q : PQ} {q : Nat} {p s po pt pl : Int} (hq : σ q = fgO q p s po pt pl) (hp : 0 ≤ p ∧ p ≤ 8) (hd : 1 ≤ d) {pf f : Int → Int} (hm : σ (q + 3) = pcI 0 8 f) (hm2 : σ (q + 6) = pcI 0 8 pf) {k : Int} (hk : 0 ≤ k ∧ k < p) (hb : 0 ≤ pf k ∧ pf k < 8) (h : Q (some (vI (f (pf k)))) σ) : Call x d 0 0 mX0_poolFirstAt [vR q, vI k] N σ Q := by
  refine Call.of mcX0_poolFirstAt (Nat.le_of_ble_eq_true rfl) (fun y hy => ?_)
  subst hy
  refine P.aload_n (dq dtX0_poolFirstAt 0 rfl) rfl ?_
  refine P.iload_n (dq dtX0_poolFirstAt 1 rfl) rfl ?_
  refine P.callV1 (M' := mX0_hasPoint) (d' := d - 1) mlX0_98 mcX0_hasPoint mvX0_hasPoint (dq dtX0_poolFirstAt 2 rfl) (by omega) (Nat.le_of_ble_eq_true rfl) (by repeat (first | assumption | exact up_s | rw [up_n (by first | assumption | (apply Ne.symm; assumption) | decide | omega)])) rfl ?_
  refine ct_X0_hasPoint (by repeat (first | assumption | exact up_s | rw [up_n (by first | assumption | (apply Ne.symm; assumption) | decide | omega)])) (by omega) (by omega) (fun n_2 => ?_) (fun n_2 => absurd (by omega) n_2)
  refine P.if_eq (t := 22) (dq dtX0_poolFirstAt 3 rfl) rfl (by omega) (fun h9 => absurd h9 (by decide)) (fun _ => ?_)
  refine P.aload_n (dq dtX0_poolFirstAt 4 rfl) rfl ?_
  refine P.get flX0_28 (dq dtX0_poolFirstAt 5 rfl) (by repeat (first | assumption | exact up_s | rw [up_n (by first | assumption | (apply Ne.symm; assumption) | decide | omega)])) (by rfl) ?_
  refine P.aload_n (dq dtX0_poolFirstAt 6 rfl) rfl ?_
  refine P.get flX0_37 (dq dtX0_poolFirstAt 7 rfl) (by repeat (first | assumption | exact up_s | rw [up_n (by first | assumption | (apply Ne.symm; assumption) | decide | omega)])) (by rfl) ?_
  refine P.iload_n (dq dtX0_poolFirstAt 8 rfl) rfl ?_
  refine P.iald (dq dtX0_poolFirstAt 9 rfl) (by repeat (first | assumption | exact up_s | rw [up_n (by first | assumption | (apply Ne.symm; assumption) | decide | omega)])) (by omega) (by omega) (by omega) ?_
  refine P.iald (dq dtX0_poolFirstAt 10 rfl) (by repeat (first | assumption | exact up_s | rw [up_n (by first | assumption | (apply Ne.symm; assumption) | decide | omega)])) (by omega) (by omega) (by omega) ?_
  refine P.goto (t := 23) (dq dtX0_poolFirstAt 11 rfl) rfl ?_
  refine P.iret (dq dtX0_poolFirstAt 13 rfl) rfl rfl rfl ?_
  exact h
/-- Figures.poolSizeAt -/
theorem ct_X0_poolSizeAt {x : CM} {d N : Nat} {σ : PH} {Q : PQ} {q : Nat} {p s po pt pl : Int} (hq : σ q = fgO q p s po pt pl) (hp : 0 ≤ p ∧ p ≤ 8) (hd : 1 ≤ d) {pf f : Int → Int} (hm : σ (q + 4) = pcI 0 8 f) (hm2 : σ (q + 6) = pcI 0 8 pf) {k : Int} (hk : 0 ≤ k ∧ k < p) (hb : 0 ≤ pf k ∧ pf k < 8) (h : Q (some (vI (f (pf k)))) σ) : Call x d 0 0 mX0_poolSizeAt [vR q, vI k] N σ Q := by
  refine Call.of mcX0_poolSizeAt (Nat.le_of_ble_eq_true rfl) (fun y hy => ?_)
  subst hy
  refine P.aload_n (dq dtX0_poolSizeAt 0 rfl) rfl ?_
  refine P.iload_n (dq dtX0_poolSizeAt 1 rfl) rfl ?_
  refine P.callV1 (M' := mX0_hasPoint) (d' := d - 1) mlX0_98 mcX0_hasPoint mvX0_hasPoint (dq dtX0_poolSizeAt 2 rfl) (by omega) (Nat.le_of_ble_eq_true rfl) (by repeat (first | assumption | exact up_s | rw [up_n (by first | assumption | (apply Ne.symm; assumption) | decide | omega)])) rfl ?_
  refine ct_X0_hasPoint (by repeat (first | assumption | exact up_s | rw [up_n (by first | assumption | (apply Ne.symm; assumption) | decide | omega)])) (by omega) (by omega) (fun n_2 => ?_) (fun n_2 => absurd (by omega) n_2)
  refine P.if_eq (t := 22) (dq dtX0_poolSizeAt 3 rfl) rfl (by omega) (fun h9 => absurd h9 (by decide)) (fun _ => ?_)
  refine P.aload_n (dq dtX0_poolSizeAt 4 rfl) rfl ?_
  refine P.get flX0_31 (dq dtX0_poolSizeAt 5 rfl) (by repeat (first | assumption | exact up_s | rw [up_n (by first | assumption | (apply Ne.symm; assumption) | decide | omega)])) (by rfl) ?_
  refine P.aload_n (dq dtX0_poolSizeAt 6 rfl) rfl ?_
  refine P.get flX0_37 (dq dtX0_poolSizeAt 7 rfl) (by repeat (first | assumption | exact up_s | rw [up_n (by first | assumption | (apply Ne.symm; assumption) | decide | omega)])) (by rfl) ?_
  refine P.iload_n (dq dtX0_poolSizeAt 8 rfl) rfl ?_
  refine P.iald (dq dtX0_poolSizeAt 9 rfl) (by repeat (first | assumption | exact up_s | rw [up_n (by first | assumption | (apply Ne.symm; assumption) | decide | omega)])) (by omega) (by omega) (by omega) ?_
  refine P.iald (dq dtX0_poolSizeAt 10 rfl) (by repeat (first | assumption | exact up_s | rw [up_n (by first | assumption | (apply Ne.symm; assumption) | decide | omega)])) (by omega) (by omega) (by omega) ?_
  refine P.goto (t := 23) (dq dtX0_poolSizeAt 11 rfl) rfl ?_
  refine P.iret (dq dtX0_poolSizeAt 13 rfl) rfl rfl rfl ?_
  exact h
/-- Figures.poolTotalAt -/
theorem ct_X0_poolTotalAt {x : CM} {d N : Nat} {σ : PH} {Q : PQ} {q : Nat} {p s po pt pl : Int} (hq : σ q = fgO q p s po pt pl) (hp : 0 ≤ p ∧ p ≤ 8) (hd : 1 ≤ d) {pf f : Int → Int} (hm : σ (q + 5) = pcI 0 8 f) (hm2 : σ (q + 6) = pcI 0 8 pf) {k : Int} (hk : 0 ≤ k ∧ k < p) (hb : 0 ≤ pf k ∧ pf k < 8) (h : Q (some (vI (f (pf k)))) σ) : Call x d 0 0 mX0_poolTotalAt [vR q, vI k] N σ Q := by
  refine Call.of mcX0_poolTotalAt (Nat.le_of_ble_eq_true rfl) (fun y hy => ?_)
  subst hy
  refine P.aload_n (dq dtX0_poolTotalAt 0 rfl) rfl ?_
  refine P.iload_n (dq dtX0_poolTotalAt 1 rfl) rfl ?_
  refine P.callV1 (M' := mX0_hasPoint) (d' := d - 1) mlX0_98 mcX0_hasPoint mvX0_hasPoint (dq dtX0_poolTotalAt 2 rfl) (by omega) (Nat.le_of_ble_eq_true rfl) (by repeat (first | assumption | exact up_s | rw [up_n (by first | assumption | (apply Ne.symm; assumption) | decide | omega)])) rfl ?_
  refine ct_X0_hasPoint (by repeat (first | assumption | exact up_s | rw [up_n (by first | assumption | (apply Ne.symm; assumption) | decide | omega)])) (by omega) (by omega) (fun n_2 => ?_) (fun n_2 => absurd (by omega) n_2)
  refine P.if_eq (t := 22) (dq dtX0_poolTotalAt 3 rfl) rfl (by omega) (fun h9 => absurd h9 (by decide)) (fun _ => ?_)
  refine P.aload_n (dq dtX0_poolTotalAt 4 rfl) rfl ?_
  refine P.get flX0_34 (dq dtX0_poolTotalAt 5 rfl) (by repeat (first | assumption | exact up_s | rw [up_n (by first | assumption | (apply Ne.symm; assumption) | decide | omega)])) (by rfl) ?_
  refine P.aload_n (dq dtX0_poolTotalAt 6 rfl) rfl ?_
  refine P.get flX0_37 (dq dtX0_poolTotalAt 7 rfl) (by repeat (first | assumption | exact up_s | rw [up_n (by first | assumption | (apply Ne.symm; assumption) | decide | omega)])) (by rfl) ?_
  refine P.iload_n (dq dtX0_poolTotalAt 8 rfl) rfl ?_
  refine P.iald (dq dtX0_poolTotalAt 9 rfl) (by repeat (first | assumption | exact up_s | rw [up_n (by first | assumption | (apply Ne.symm; assumption) | decide | omega)])) (by omega) (by omega) (by omega) ?_
  refine P.iald (dq dtX0_poolTotalAt 10 rfl) (by repeat (first | assumption | exact up_s | rw [up_n (by first | assumption | (apply Ne.symm; assumption) | decide | omega)])) (by omega) (by omega) (by omega) ?_
  refine P.goto (t := 23) (dq dtX0_poolTotalAt 11 rfl) rfl ?_
  refine P.iret (dq dtX0_poolTotalAt 13 rfl) rfl rfl rfl ?_
  exact h
/-- Figures.tableAt -/
theorem ct_X0_tableAt {x : CM} {d N : Nat} {σ : PH} {Q : PQ} {q : Nat} {p s po pt pl : Int} (hq : σ q = fgO q p s po pt pl) (hp : 0 ≤ p ∧ p ≤ 8) (hd : 1 ≤ d) {co : Int → Int} (hm : σ (q + 7) = pcI 0 8 co) {k : Int} (hk : 0 ≤ k ∧ k < p) (h : Q (some (vI (co k))) σ) : Call x d 0 0 mX0_tableAt [vR q, vI k] N σ Q := by
  refine Call.of mcX0_tableAt (Nat.le_of_ble_eq_true rfl) (fun y hy => ?_)
  subst hy
  refine P.aload_n (dq dtX0_tableAt 0 rfl) rfl ?_
  refine P.iload_n (dq dtX0_tableAt 1 rfl) rfl ?_
  refine P.callV1 (M' := mX0_hasPoint) (d' := d - 1) mlX0_98 mcX0_hasPoint mvX0_hasPoint (dq dtX0_tableAt 2 rfl) (by omega) (Nat.le_of_ble_eq_true rfl) (by repeat (first | assumption | exact up_s | rw [up_n (by first | assumption | (apply Ne.symm; assumption) | decide | omega)])) rfl ?_
  refine ct_X0_hasPoint (by repeat (first | assumption | exact up_s | rw [up_n (by first | assumption | (apply Ne.symm; assumption) | decide | omega)])) (by omega) (by omega) (fun n_2 => ?_) (fun n_2 => absurd (by omega) n_2)
  refine P.if_eq (t := 17) (dq dtX0_tableAt 3 rfl) rfl (by omega) (fun h9 => absurd h9 (by decide)) (fun _ => ?_)
  refine P.aload_n (dq dtX0_tableAt 4 rfl) rfl ?_
  refine P.get flX0_40 (dq dtX0_tableAt 5 rfl) (by repeat (first | assumption | exact up_s | rw [up_n (by first | assumption | (apply Ne.symm; assumption) | decide | omega)])) (by rfl) ?_
  refine P.iload_n (dq dtX0_tableAt 6 rfl) rfl ?_
  refine P.iald (dq dtX0_tableAt 7 rfl) (by repeat (first | assumption | exact up_s | rw [up_n (by first | assumption | (apply Ne.symm; assumption) | decide | omega)])) (by omega) (by omega) (by omega) ?_
  refine P.goto (t := 18) (dq dtX0_tableAt 8 rfl) rfl ?_
  refine P.iret (dq dtX0_tableAt 10 rfl) rfl rfl rfl ?_
  exact h
/-- Figures.offsetAt -/
theorem ct_X0_offsetAt {x : CM} {d N : Nat} {σ : PH} {Q : PQ} {q : Nat} {p s po pt pl : Int} (hq : σ q = fgO q p s po pt pl) (hp : 0 ≤ p ∧ p ≤ 8) (hd : 2 ≤ d) {co : Int → Int} (hm : σ (q + 7) = pcI 0 8 co) {k : Int} (hk : 0 ≤ k ∧ k < p) (h : Q (some (vI (co k - k * s))) σ) : Call x d 0 0 mX0_offsetAt [vR q, vI k] N σ Q := by
  refine Call.of mcX0_offsetAt (Nat.le_of_ble_eq_true rfl) (fun y hy => ?_)
  subst hy
  refine P.aload_n (dq dtX0_offsetAt 0 rfl) rfl ?_
  refine P.iload_n (dq dtX0_offsetAt 1 rfl) rfl ?_
  refine P.callV1 (M' := mX0_tableAt) (d' := d - 1) mlX0_105 mcX0_tableAt mvX0_tableAt (dq dtX0_offsetAt 2 rfl) (by omega) (Nat.le_of_ble_eq_true rfl) (by repeat (first | assumption | exact up_s | rw [up_n (by first | assumption | (apply Ne.symm; assumption) | decide | omega)])) rfl ?_
  refine ct_X0_tableAt (by repeat (first | assumption | exact up_s | rw [up_n (by first | assumption | (apply Ne.symm; assumption) | decide | omega)])) (by omega) (by omega) (by repeat (first | assumption | exact up_s | rw [up_n (by first | assumption | (apply Ne.symm; assumption) | decide | omega)])) (by omega) ?_
  refine P.iload_n (dq dtX0_offsetAt 3 rfl) rfl ?_
  refine P.aload_n (dq dtX0_offsetAt 4 rfl) rfl ?_
  refine P.get flX0_15 (dq dtX0_offsetAt 5 rfl) (by repeat (first | assumption | exact up_s | rw [up_n (by first | assumption | (apply Ne.symm; assumption) | decide | omega)])) (by rfl) ?_
  refine P.imul (dq dtX0_offsetAt 6 rfl) ?_
  refine P.isub (dq dtX0_offsetAt 7 rfl) ?_
  refine P.iret (dq dtX0_offsetAt 8 rfl) rfl rfl rfl ?_
  exact h
/-- Figures.missAt -/
theorem ct_X0_missAt {x : CM} {d N : Nat} {σ : PH} {Q : PQ} {q : Nat} {p s po pt pl : Int} (hq : σ q = fgO q p s po pt pl) (hp : 0 ≤ p ∧ p ≤ 8) (hd : 3 ≤ d) {me co : Int → Int} (hm1 : σ (q + 1) = pcI 0 16 me) (hm : σ (q + 7) = pcI 0 8 co) {k w : Int} (hk : 0 ≤ k ∧ k < p) (hw : w = 0 ∨ w = 1) (h : Q (some (vI (me (k * 2 + w) + 60 * (co k - k * s + if w = 1 then pl else 0)))) σ) : Call x d 0 0 mX0_missAt [vR q, vI k, vI w] N σ Q := by
  refine Call.of mcX0_missAt (Nat.le_of_ble_eq_true rfl) (fun y hy => ?_)
  subst hy
  refine P.aload_n (dq dtX0_missAt 0 rfl) rfl ?_
  refine P.iload_n (dq dtX0_missAt 1 rfl) rfl ?_
  refine P.callV1 (M' := mX0_offsetAt) (d' := d - 1) mlX0_108 mcX0_offsetAt mvX0_offsetAt (dq dtX0_missAt 2 rfl) (by omega) (Nat.le_of_ble_eq_true rfl) (by repeat (first | assumption | exact up_s | rw [up_n (by first | assumption | (apply Ne.symm; assumption) | decide | omega)])) rfl ?_
  refine ct_X0_offsetAt (by repeat (first | assumption | exact up_s | rw [up_n (by first | assumption | (apply Ne.symm; assumption) | decide | omega)])) (by omega) (by omega) (by repeat (first | assumption | exact up_s | rw [up_n (by first | assumption | (apply Ne.symm; assumption) | decide | omega)])) (by omega) ?_
  refine P.iload_n (dq dtX0_missAt 3 rfl) rfl ?_
  refine P.iconst (dq dtX0_missAt 4 rfl) ?_
  refine P.icmp_ne (t := 17) (dq dtX0_missAt 5 rfl) rfl (by omega) (by omega) (fun c_7 => ?_) (fun c_7 => ?_)
  · rw [if_neg (show ¬ w = 1 by omega)] at h
    refine P.iconst (dq dtX0_missAt 9 rfl) ?_
    refine P.iadd (dq dtX0_missAt 10 rfl) ?_
    refine P.istore_n (dq dtX0_missAt 11 rfl) (by decide) rfl rfl ?_
    refine P.aload_n (dq dtX0_missAt 12 rfl) rfl ?_
    refine P.iload_n (dq dtX0_missAt 13 rfl) rfl ?_
    refine P.iload_n (dq dtX0_missAt 14 rfl) rfl ?_
    refine P.callV2 (M' := mX0_meanAt) (d' := d - 1) mlX0_82 mcX0_meanAt mvX0_meanAt (dq dtX0_missAt 15 rfl) (by omega) (Nat.le_of_ble_eq_true rfl) (by repeat (first | assumption | exact up_s | rw [up_n (by first | assumption | (apply Ne.symm; assumption) | decide | omega)])) rfl ?_
    refine ct_X0_meanAt (by repeat (first | assumption | exact up_s | rw [up_n (by first | assumption | (apply Ne.symm; assumption) | decide | omega)])) (by omega) (by omega) (by repeat (first | assumption | exact up_s | rw [up_n (by first | assumption | (apply Ne.symm; assumption) | decide | omega)])) (by omega) (by omega) ?_
    refine P.bipush (dq dtX0_missAt 16 rfl) rfl ?_
    refine P.iload_n (dq dtX0_missAt 17 rfl) rfl ?_
    refine P.imul (dq dtX0_missAt 18 rfl) ?_
    refine P.iadd (dq dtX0_missAt 19 rfl) ?_
    refine P.iret (dq dtX0_missAt 20 rfl) rfl rfl rfl ?_
    exact h
  · rw [if_pos (show w = 1 by omega)] at h
    refine P.aload_n (dq dtX0_missAt 6 rfl) rfl ?_
    refine P.get flX0_46 (dq dtX0_missAt 7 rfl) (by repeat (first | assumption | exact up_s | rw [up_n (by first | assumption | (apply Ne.symm; assumption) | decide | omega)])) (by rfl) ?_
    refine P.goto (t := 18) (dq dtX0_missAt 8 rfl) rfl ?_
    refine P.iadd (dq dtX0_missAt 10 rfl) ?_
    refine P.istore_n (dq dtX0_missAt 11 rfl) (by decide) rfl rfl ?_
    refine P.aload_n (dq dtX0_missAt 12 rfl) rfl ?_
    refine P.iload_n (dq dtX0_missAt 13 rfl) rfl ?_
    refine P.iload_n (dq dtX0_missAt 14 rfl) rfl ?_
    refine P.callV2 (M' := mX0_meanAt) (d' := d - 1) mlX0_82 mcX0_meanAt mvX0_meanAt (dq dtX0_missAt 15 rfl) (by omega) (Nat.le_of_ble_eq_true rfl) (by repeat (first | assumption | exact up_s | rw [up_n (by first | assumption | (apply Ne.symm; assumption) | decide | omega)])) rfl ?_
    refine ct_X0_meanAt (by repeat (first | assumption | exact up_s | rw [up_n (by first | assumption | (apply Ne.symm; assumption) | decide | omega)])) (by omega) (by omega) (by repeat (first | assumption | exact up_s | rw [up_n (by first | assumption | (apply Ne.symm; assumption) | decide | omega)])) (by omega) (by omega) ?_
    refine P.bipush (dq dtX0_missAt 16 rfl) rfl ?_
    refine P.iload_n (dq dtX0_missAt 17 rfl) rfl ?_
    refine P.imul (dq dtX0_missAt 18 rfl) ?_
    refine P.iadd (dq dtX0_missAt 19 rfl) ?_
    refine P.iret (dq dtX0_missAt 20 rfl) rfl rfl rfl ?_
    exact h
/-- Figures.lastIsNotMore -/
theorem ct_X0_lastIsNotMore {x : CM} {d N : Nat} {σ : PH} {Q : PQ} {q : Nat} {p s po pt pl : Int} (hq : σ q = fgO q p s po pt pl) (hp : 0 ≤ p ∧ p ≤ 8) {si to : Int → Int} (hs : σ (q + 4) = pcI 0 8 si) (ht0 : σ (q + 5) = pcI 0 8 to) (hpo : 2 ≤ po ∧ po ≤ 8) (hb1 : -100000000 ≤ to (po - 1) * si (po - 1 - 1) ∧ to (po - 1) * si (po - 1 - 1) ≤ 100000000) (hb2 : -100000000 ≤ to (po - 1 - 1) * si (po - 1) ∧ to (po - 1 - 1) * si (po - 1) ≤ 100000000) (ht : to (po - 1) * si (po - 1 - 1) ≤ to (po - 1 - 1) * si (po - 1) → Q (some (vI 1)) σ) (hf : ¬ (to (po - 1) * si (po - 1 - 1) ≤ to (po - 1 - 1) * si (po - 1)) → Q (some (vI 0)) σ) : Call x d 0 0 mX0_lastIsNotMore [vR q] N σ Q := by
  refine Call.of mcX0_lastIsNotMore (Nat.le_of_ble_eq_true rfl) (fun y hy => ?_)
  subst hy
  refine P.aload_n (dq dtX0_lastIsNotMore 0 rfl) rfl ?_
  refine P.get flX0_25 (dq dtX0_lastIsNotMore 1 rfl) (by repeat (first | assumption | exact up_s | rw [up_n (by first | assumption | (apply Ne.symm; assumption) | decide | omega)])) (by rfl) ?_
  refine P.iconst (dq dtX0_lastIsNotMore 2 rfl) ?_
  refine P.isub (dq dtX0_lastIsNotMore 3 rfl) ?_
  refine P.istore_n (dq dtX0_lastIsNotMore 4 rfl) (by decide) rfl rfl ?_
  refine P.aload_n (dq dtX0_lastIsNotMore 5 rfl) rfl ?_
  refine P.get flX0_34 (dq dtX0_lastIsNotMore 6 rfl) (by repeat (first | assumption | exact up_s | rw [up_n (by first | assumption | (apply Ne.symm; assumption) | decide | omega)])) (by rfl) ?_
  refine P.iload_n (dq dtX0_lastIsNotMore 7 rfl) rfl ?_
  refine P.iald (dq dtX0_lastIsNotMore 8 rfl) (by repeat (first | assumption | exact up_s | rw [up_n (by first | assumption | (apply Ne.symm; assumption) | decide | omega)])) (by omega) (by omega) (by omega) ?_
  refine P.aload_n (dq dtX0_lastIsNotMore 9 rfl) rfl ?_
  refine P.get flX0_31 (dq dtX0_lastIsNotMore 10 rfl) (by repeat (first | assumption | exact up_s | rw [up_n (by first | assumption | (apply Ne.symm; assumption) | decide | omega)])) (by rfl) ?_
  refine P.iload_n (dq dtX0_lastIsNotMore 11 rfl) rfl ?_
  refine P.iconst (dq dtX0_lastIsNotMore 12 rfl) ?_
  refine P.isub (dq dtX0_lastIsNotMore 13 rfl) ?_
  refine P.iald (dq dtX0_lastIsNotMore 14 rfl) (by repeat (first | assumption | exact up_s | rw [up_n (by first | assumption | (apply Ne.symm; assumption) | decide | omega)])) (by omega) (by omega) (by omega) ?_
  refine P.imul (dq dtX0_lastIsNotMore 15 rfl) ?_
  refine P.aload_n (dq dtX0_lastIsNotMore 16 rfl) rfl ?_
  refine P.get flX0_34 (dq dtX0_lastIsNotMore 17 rfl) (by repeat (first | assumption | exact up_s | rw [up_n (by first | assumption | (apply Ne.symm; assumption) | decide | omega)])) (by rfl) ?_
  refine P.iload_n (dq dtX0_lastIsNotMore 18 rfl) rfl ?_
  refine P.iconst (dq dtX0_lastIsNotMore 19 rfl) ?_
  refine P.isub (dq dtX0_lastIsNotMore 20 rfl) ?_
  refine P.iald (dq dtX0_lastIsNotMore 21 rfl) (by repeat (first | assumption | exact up_s | rw [up_n (by first | assumption | (apply Ne.symm; assumption) | decide | omega)])) (by omega) (by omega) (by omega) ?_
  refine P.aload_n (dq dtX0_lastIsNotMore 22 rfl) rfl ?_
  refine P.get flX0_31 (dq dtX0_lastIsNotMore 23 rfl) (by repeat (first | assumption | exact up_s | rw [up_n (by first | assumption | (apply Ne.symm; assumption) | decide | omega)])) (by rfl) ?_
  refine P.iload_n (dq dtX0_lastIsNotMore 24 rfl) rfl ?_
  refine P.iald (dq dtX0_lastIsNotMore 25 rfl) (by repeat (first | assumption | exact up_s | rw [up_n (by first | assumption | (apply Ne.symm; assumption) | decide | omega)])) (by omega) (by omega) (by omega) ?_
  refine P.imul (dq dtX0_lastIsNotMore 26 rfl) ?_
  refine P.icmp_gt (t := 44) (dq dtX0_lastIsNotMore 27 rfl) rfl (by omega) (by omega) (fun c_37 => ?_) (fun c_37 => ?_)
  · refine P.iconst (dq dtX0_lastIsNotMore 30 rfl) ?_
    refine P.zret (dq dtX0_lastIsNotMore 31 rfl) rfl rfl (by decide) rfl ?_
    first | exact ht (by omega) | exact hf (by omega)
  · refine P.iconst (dq dtX0_lastIsNotMore 28 rfl) ?_
    refine P.goto (t := 45) (dq dtX0_lastIsNotMore 29 rfl) rfl ?_
    refine P.zret (dq dtX0_lastIsNotMore 31 rfl) rfl rfl (by decide) rfl ?_
    first | exact ht (by omega) | exact hf (by omega)
