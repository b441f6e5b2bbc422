/-- X7_isPoint -/
theorem ct_X7_isPoint {x : CM} {d N : Nat} {σ : PH} {Q : PQ} {p s u l fi be rp cl dg nu pk wm : Int} (h84 : σ 84 = mdO p s u l fi be rp cl dg nu pk wm) (hp : 0 ≤ p ∧ p ≤ 8) (hd : 1 ≤ d) {a : Int} (ha : inR a) (ht : (0 ≤ a ∧ a < p) → Q (some (vI 1)) σ) (hf : ¬ ((0 ≤ a ∧ a < p)) → Q (some (vI 0)) σ) : Call x d 0 0 mX7_isPoint [vR 84, vI a] N σ Q := by
  refine Call.of mcX7_isPoint (Nat.le_of_ble_eq_true rfl) (fun y hy => ?_)
  subst hy
  refine P.iload_n (dq dtX7_isPoint 0 rfl) rfl ?_
  refine P.i2l (dq dtX7_isPoint 1 rfl) (by omega) ?_
  refine P.lconst (z := 0) (dq dtX7_isPoint 2 rfl) rfl ?_
  refine P.aload_n (dq dtX7_isPoint 3 rfl) rfl ?_
  refine P.get flX7_7 (dq dtX7_isPoint 4 rfl) (by repeat (first | assumption | exact up_s | rw [up_n (by first | assumption | (apply Ne.symm; assumption) | decide | omega)])) (by rfl) ?_
  refine P.iconst (dq dtX7_isPoint 5 rfl) ?_
  refine P.isub (dq dtX7_isPoint 6 rfl) ?_
  refine P.i2l (dq dtX7_isPoint 7 rfl) (by omega) ?_
  refine P.callS3 (M' := mX7_in) (d' := d - 1) mlX7_65 mcX7_in msX7_in (dq dtX7_isPoint 8 rfl) (by omega) (Nat.le_of_ble_eq_true rfl) ?_
  refine ct_X7_in (by omega) (by omega) (by omega) (fun n_10 => ?_) (fun n_10 => ?_)
  · refine P.zret (dq dtX7_isPoint 9 rfl) rfl rfl (by decide) rfl ?_
    first | exact ht (by omega) | exact hf (by omega)
  · refine P.zret (dq dtX7_isPoint 9 rfl) rfl rfl (by decide) rfl ?_
    first | exact ht (by omega) | exact hf (by omega)
theorem lp_copy {x : CX} {d N : Nat} {σ : PH} {Q : PQ} {p s u l fi be rp cl dg nu pk wm : Int} (h84 : σ 84 = mdO p s u l fi be rp cl dg nu pk wm) {wf : Int → Int} (h85 : σ 85 = pcI 0 1404 wf) {a b : Int} (hab : (0 ≤ a ∧ a + 117 ≤ 1404) ∧ 0 ≤ b ∧ b + 117 ≤ 1404) (hd2 : b ≤ a ∨ a + 117 ≤ b) (h : Q none (up σ 85 (pcI 0 1404 (cpI wf wf a b 117)))) : ∀ (t : Nat) (k : Int), 0 ≤ k ∧ k ≤ 117 → 117 - k < t → P x d mX7_copy Q (0, 0) 2 [some (vR 84), some (vI a), some (vI b), some (vI k)] [] N (up σ 85 (pcI 0 1404 (cpI wf wf a b k))) := by
  intro t
  induction t with
  | zero =>
    intro k hk hm
    exfalso; omega
  | succ t ih =>
    intro k hk hm
    refine P.iload_n (dq dtX7_copy 2 rfl) rfl ?_
    refine P.bipush (dq dtX7_copy 3 rfl) rfl ?_
    refine P.icmp_ge (t := 30) (dq dtX7_copy 4 rfl) rfl (by omega) (by omega) (fun c_5 => ?_) (fun c_5 => ?_)
    · refine P.vret (dq dtX7_copy 19 rfl) rfl rfl rfl ?_
      obtain rfl : k = 117 := by omega
      exact h
    · refine P.aload_n (dq dtX7_copy 5 rfl) rfl ?_
      refine P.get flX7_16 (dq dtX7_copy 6 rfl) (by repeat (first | assumption | exact up_s | rw [up_n (by first | assumption | (apply Ne.symm; assumption) | decide | omega)])) (by rfl) ?_
      refine P.iload_n (dq dtX7_copy 7 rfl) rfl ?_
      refine P.iload_n (dq dtX7_copy 8 rfl) rfl ?_
      refine P.iadd (dq dtX7_copy 9 rfl) ?_
      refine P.aload_n (dq dtX7_copy 10 rfl) rfl ?_
      refine P.get flX7_16 (dq dtX7_copy 11 rfl) (by repeat (first | assumption | exact up_s | rw [up_n (by first | assumption | (apply Ne.symm; assumption) | decide | omega)])) (by rfl) ?_
      refine P.iload_n (dq dtX7_copy 12 rfl) rfl ?_
      refine P.iload_n (dq dtX7_copy 13 rfl) rfl ?_
      refine P.iadd (dq dtX7_copy 14 rfl) ?_
      refine P.iald (dq dtX7_copy 15 rfl) (by repeat (first | assumption | exact up_s | rw [up_n (by first | assumption | (apply Ne.symm; assumption) | decide | omega)])) (by omega) (by omega) (by omega) ?_
      refine P.iast (dq dtX7_copy 16 rfl) (by repeat (first | assumption | exact up_s | rw [up_n (by first | assumption | (apply Ne.symm; assumption) | decide | omega)])) (by omega) (by omega) (by omega) ?_
      refine P.iinc (dq dtX7_copy 17 rfl) rfl (by decide) rfl rfl ?_
      refine P.goto (t := 2) (dq dtX7_copy 18 rfl) rfl ?_
      rw [up_up, cpI_step (by omega) (by omega)]
      exact ih (k + 1) (by omega) (by omega)
/-- copy -/
theorem ct_X7_copy {x : CM} {d N : Nat} {σ : PH} {Q : PQ} {p s u l fi be rp cl dg nu pk wm : Int} (h84 : σ 84 = mdO p s u l fi be rp cl dg nu pk wm) {wf : Int → Int} (h85 : σ 85 = pcI 0 1404 wf) {a b : Int} (hab : (0 ≤ a ∧ a + 117 ≤ 1404) ∧ 0 ≤ b ∧ b + 117 ≤ 1404) (hd2 : b ≤ a ∨ a + 117 ≤ b) (h : Q none (up σ 85 (pcI 0 1404 (cpI wf wf a b 117)))) : Call x d 0 0 mX7_copy [vR 84, vI a, vI b] N σ Q := by
  refine Call.of mcX7_copy (Nat.le_of_ble_eq_true rfl) (fun y hy => ?_)
  subst hy
  refine P.iconst (dq dtX7_copy 0 rfl) ?_
  refine P.istore_n (dq dtX7_copy 1 rfl) (by decide) rfl rfl ?_
  rw [← up_id h85]
  conv => rhs; rw [← cpI_0 (f := wf) (sp := a) (dp := b)]
  exact lp_copy h84 h85 hab hd2 h 118 0 (by omega) (by omega)
theorem lp_mean {x : CX} {d N : Nat} {σ : PH} {Q : PQ} {p s u l fi be rp cl dg nu pk wm : Int} (h84 : σ 84 = mdO p s u l fi be rp cl dg nu pk wm) {wf : Int → Int} (h85 : σ 85 = pcI 0 1404 wf) {r : Int} {v : MsV} (hG : GMs v) (hR : Rw wf r v) (hr : 0 ≤ r ∧ r ≤ 1287) {k w : Int} (hk : 0 ≤ k ∧ k < v.1) (hw : w = 0 ∨ w = 1) (h : Q (some (vI (mm v (k * 2 + w)))) σ) : ∀ (t j : Nat), (j : Int) ≤ v.2.2.1 (k * 2 + w) → v.2.2.1 (k * 2 + w) - j < t → P x d mX7_mean Q (0, 0) 13 [some (vR 84), some (vI r), some (vI k), some (vI w), some (vI (2 * k + w)), some (vI (sumF v.2.2.2 ((k * 2 + w) * 6) j)), some (vI j)] [] N σ := by
  intro t
  induction t with
  | zero =>
    intro j hj hm
    exfalso; omega
  | succ t ih =>
    intro j hj hm
    have bc := (hG.2.2 (k * 2 + w) (by have := hG.1; omega) (by have := hG.1; omega)).1
    have bj := (hG.2.2 (k * 2 + w) (by have := hG.1; omega) (by have := hG.1; omega)).2
    have e0 : wf (r + 0 + (2 * k + w)) = v.2.2.1 (k * 2 + w) := by
      rw [show r + 0 + (2 * k + w) = r + (k * 2 + w) by omega]
      exact hR.1 _ (by have := hG.1; omega) (by have := hG.1; omega)
    have hp8 := hG.1
    refine P.iload (dq dtX7_mean 10 rfl) rfl ?_
    refine P.aload_n (dq dtX7_mean 11 rfl) rfl ?_
    refine P.get flX7_16 (dq dtX7_mean 12 rfl) (by repeat (first | assumption | exact up_s | rw [up_n (by first | assumption | (apply Ne.symm; assumption) | decide | omega)])) (by rfl) ?_
    refine P.iload_n (dq dtX7_mean 13 rfl) rfl ?_
    refine P.iconst (dq dtX7_mean 14 rfl) ?_
    refine P.iadd (dq dtX7_mean 15 rfl) ?_
    refine P.iload (dq dtX7_mean 16 rfl) rfl ?_
    refine P.iadd (dq dtX7_mean 17 rfl) ?_
    refine P.iald (dq dtX7_mean 18 rfl) (by repeat (first | assumption | exact up_s | rw [up_n (by first | assumption | (apply Ne.symm; assumption) | decide | omega)])) (by omega) (by omega) (by omega) ?_
    rw [e0]
    refine P.icmp_ge (t := 58) (dq dtX7_mean 19 rfl) rfl (by omega) (by omega) (fun c_26 => ?_) (fun c_26 => ?_)
    · refine P.aload_n (dq dtX7_mean 37 rfl) rfl ?_
      refine P.get flX7_16 (dq dtX7_mean 38 rfl) (by repeat (first | assumption | exact up_s | rw [up_n (by first | assumption | (apply Ne.symm; assumption) | decide | omega)])) (by rfl) ?_
      refine P.iload_n (dq dtX7_mean 39 rfl) rfl ?_
      refine P.iconst (dq dtX7_mean 40 rfl) ?_
      refine P.iadd (dq dtX7_mean 41 rfl) ?_
      refine P.iload (dq dtX7_mean 42 rfl) rfl ?_
      refine P.iadd (dq dtX7_mean 43 rfl) ?_
      refine P.iald (dq dtX7_mean 44 rfl) (by repeat (first | assumption | exact up_s | rw [up_n (by first | assumption | (apply Ne.symm; assumption) | decide | omega)])) (by omega) (by omega) (by omega) ?_
      rw [e0]
      refine P.if_ne (t := 76) (dq dtX7_mean 45 rfl) rfl (by omega) (fun c_69 => ?_) (fun c_69 => ?_)
      · refine P.bipush (dq dtX7_mean 48 rfl) rfl ?_
        refine P.iload (dq dtX7_mean 49 rfl) rfl ?_
        refine P.imul (dq dtX7_mean 50 rfl) ?_
        refine P.aload_n (dq dtX7_mean 51 rfl) rfl ?_
        refine P.get flX7_16 (dq dtX7_mean 52 rfl) (by repeat (first | assumption | exact up_s | rw [up_n (by first | assumption | (apply Ne.symm; assumption) | decide | omega)])) (by rfl) ?_
        refine P.iload_n (dq dtX7_mean 53 rfl) rfl ?_
        refine P.iconst (dq dtX7_mean 54 rfl) ?_
        refine P.iadd (dq dtX7_mean 55 rfl) ?_
        refine P.iload (dq dtX7_mean 56 rfl) rfl ?_
        refine P.iadd (dq dtX7_mean 57 rfl) ?_
        refine P.iald (dq dtX7_mean 58 rfl) (by repeat (first | assumption | exact up_s | rw [up_n (by first | assumption | (apply Ne.symm; assumption) | decide | omega)])) (by omega) (by omega) (by omega) ?_
        rw [e0]
        have sb := sumF_b (f := v.2.2.2) (a := (k * 2 + w) * 6) (c := 40) (by omega) j (fun z hz => bj z (by omega))
        refine P.idiv (dq dtX7_mean 59 rfl) (by omega) (by omega) (by omega) ?_
        refine P.iret (dq dtX7_mean 60 rfl) rfl rfl rfl ?_
        obtain hjj : v.2.2.1 (k * 2 + w) = j := by omega
        first | (refine cgQ h ?_; unfold mm m60; rw [if_pos (by assumption)]; done) | (refine cgQ h ?_; unfold mm m60; rw [if_neg (by assumption), hjj, Int.toNat_natCast, Int.mul_comm])
      · refine P.iconst (dq dtX7_mean 46 rfl) ?_
        refine P.goto (t := 93) (dq dtX7_mean 47 rfl) rfl ?_
        refine P.iret (dq dtX7_mean 60 rfl) rfl rfl rfl ?_
        obtain hjj : v.2.2.1 (k * 2 + w) = j := by omega
        first | (refine cgQ h ?_; unfold mm m60; rw [if_pos (by assumption)]; done) | (refine cgQ h ?_; unfold mm m60; rw [if_neg (by assumption), hjj, Int.toNat_natCast, Int.mul_comm])
    · refine P.iload (dq dtX7_mean 20 rfl) rfl ?_
      refine P.aload_n (dq dtX7_mean 21 rfl) rfl ?_
      refine P.get flX7_16 (dq dtX7_mean 22 rfl) (by repeat (first | assumption | exact up_s | rw [up_n (by first | assumption | (apply Ne.symm; assumption) | decide | omega)])) (by rfl) ?_
      refine P.iload_n (dq dtX7_mean 23 rfl) rfl ?_
      refine P.bipush (dq dtX7_mean 24 rfl) rfl ?_
      refine P.iadd (dq dtX7_mean 25 rfl) ?_
      refine P.bipush (dq dtX7_mean 26 rfl) rfl ?_
      refine P.iload (dq dtX7_mean 27 rfl) rfl ?_
      refine P.imul (dq dtX7_mean 28 rfl) ?_
      refine P.iadd (dq dtX7_mean 29 rfl) ?_
      refine P.iload (dq dtX7_mean 30 rfl) rfl ?_
      refine P.iadd (dq dtX7_mean 31 rfl) ?_
      refine P.iald (dq dtX7_mean 32 rfl) (by repeat (first | assumption | exact up_s | rw [up_n (by first | assumption | (apply Ne.symm; assumption) | decide | omega)])) (by omega) (by omega) (by omega) ?_
      rw [show wf (r + 16 + 6 * (2 * k + w) + (j : Int)) = v.2.2.2 ((k * 2 + w) * 6 + j) by rw [show r + 16 + 6 * (2 * k + w) + (j : Int) = r + 16 + 6 * (k * 2 + w) + j by omega]; exact hR.2.1 _ _ (by omega) (by omega) (by omega) (by omega)]
      refine P.iadd (dq dtX7_mean 33 rfl) ?_
      refine P.istore (dq dtX7_mean 34 rfl) (by decide) rfl rfl ?_
      refine P.iinc (dq dtX7_mean 35 rfl) rfl (by decide) rfl rfl ?_
      refine P.goto (t := 13) (dq dtX7_mean 36 rfl) rfl ?_
      have hh := ih (j + 1) (by omega) (by omega)
      rw [show ((j + 1 : Nat) : Int) = (j : Int) + 1 by omega] at hh
      exact hh
/-- mean -/
theorem ct_X7_mean {x : CM} {d N : Nat} {σ : PH} {Q : PQ} {p s u l fi be rp cl dg nu pk wm : Int} (h84 : σ 84 = mdO p s u l fi be rp cl dg nu pk wm) {wf : Int → Int} (h85 : σ 85 = pcI 0 1404 wf) {r : Int} {v : MsV} (hG : GMs v) (hR : Rw wf r v) (hr : 0 ≤ r ∧ r ≤ 1287) {k w : Int} (hk : 0 ≤ k ∧ k < v.1) (hw : w = 0 ∨ w = 1) (h : Q (some (vI (mm v (k * 2 + w)))) σ) : Call x d 0 0 mX7_mean [vR 84, vI r, vI k, vI w] N σ Q := by
  refine Call.of mcX7_mean (Nat.le_of_ble_eq_true rfl) (fun y hy => ?_)
  subst hy
  have bc := (hG.2.2 (k * 2 + w) (by have := hG.1; omega) (by have := hG.1; omega)).1
  have bj := (hG.2.2 (k * 2 + w) (by have := hG.1; omega) (by have := hG.1; omega)).2
  have e0 : wf (r + 0 + (2 * k + w)) = v.2.2.1 (k * 2 + w) := by
    rw [show r + 0 + (2 * k + w) = r + (k * 2 + w) by omega]
    exact hR.1 _ (by have := hG.1; omega) (by have := hG.1; omega)
  have hp8 := hG.1
  refine P.iconst (dq dtX7_mean 0 rfl) ?_
  refine P.iload_n (dq dtX7_mean 1 rfl) rfl ?_
  refine P.imul (dq dtX7_mean 2 rfl) ?_
  refine P.iload_n (dq dtX7_mean 3 rfl) rfl ?_
  refine P.iadd (dq dtX7_mean 4 rfl) ?_
  refine P.istore (dq dtX7_mean 5 rfl) (by decide) rfl rfl ?_
  refine P.iconst (dq dtX7_mean 6 rfl) ?_
  refine P.istore (dq dtX7_mean 7 rfl) (by decide) rfl rfl ?_
  refine P.iconst (dq dtX7_mean 8 rfl) ?_
  refine P.istore (dq dtX7_mean 9 rfl) (by decide) rfl rfl ?_
  exact lp_mean h84 h85 hG hR hr hk hw h ((v.2.2.1 (k * 2 + w)).toNat + 1) 0 (by omega) (by omega)
/-- wanted -/
theorem ct_X7_wanted {x : CM} {d N : Nat} {σ : PH} {Q : PQ} {p s u l fi be rp cl dg nu pk wm : Int} (h84 : σ 84 = mdO p s u l fi be rp cl dg nu pk wm) {wf : Int → Int} (h85 : σ 85 = pcI 0 1404 wf) {r : Int} {v : MsV} (hG : GMs v) (hR : Rw wf r v) (hr : 0 ≤ r ∧ r ≤ 1287) (hs : s = v.2.1) (hd : 1 ≤ d) {k : Int} (hk : 0 ≤ k ∧ k < v.1) (h : Q (some (vI (wnt v k))) σ) : Call x d 0 0 mX7_wanted [vR 84, vI r, vI k] N σ Q := by
  refine Call.of mcX7_wanted (Nat.le_of_ble_eq_true rfl) (fun y hy => ?_)
  subst hy
  refine P.bipush (dq dtX7_wanted 0 rfl) rfl ?_
  refine P.aload_n (dq dtX7_wanted 1 rfl) rfl ?_
  refine P.get flX7_13 (dq dtX7_wanted 2 rfl) (by repeat (first | assumption | exact up_s | rw [up_n (by first | assumption | (apply Ne.symm; assumption) | decide | omega)])) (by rfl) ?_
  refine P.imul (dq dtX7_wanted 3 rfl) ?_
  refine P.iload_n (dq dtX7_wanted 4 rfl) rfl ?_
  refine P.imul (dq dtX7_wanted 5 rfl) ?_
  refine P.aload_n (dq dtX7_wanted 6 rfl) rfl ?_
  refine P.iload_n (dq dtX7_wanted 7 rfl) rfl ?_
  refine P.iload_n (dq dtX7_wanted 8 rfl) rfl ?_
  refine P.iconst (dq dtX7_wanted 9 rfl) ?_
  refine P.callV3 (M' := mX7_mean) (d' := d - 1) mlX7_171 mcX7_mean mvX7_mean (dq dtX7_wanted 10 rfl) (by omega) (Nat.le_of_ble_eq_true rfl) (by repeat (first | assumption | exact up_s | rw [up_n (by first | assumption | (apply Ne.symm; assumption) | decide | omega)])) rfl ?_
  refine ct_X7_mean h84 h85 hG hR hr hk (by omega) ?_
  refine P.isub (dq dtX7_wanted 11 rfl) ?_
  refine P.aload_n (dq dtX7_wanted 12 rfl) rfl ?_
  refine P.iload_n (dq dtX7_wanted 13 rfl) rfl ?_
  refine P.iload_n (dq dtX7_wanted 14 rfl) rfl ?_
  refine P.iconst (dq dtX7_wanted 15 rfl) ?_
  refine P.callV3 (M' := mX7_mean) (d' := d - 1) mlX7_171 mcX7_mean mvX7_mean (dq dtX7_wanted 16 rfl) (by omega) (Nat.le_of_ble_eq_true rfl) (by repeat (first | assumption | exact up_s | rw [up_n (by first | assumption | (apply Ne.symm; assumption) | decide | omega)])) rfl ?_
  refine ct_X7_mean h84 h85 hG hR hr hk (by omega) ?_
  refine P.isub (dq dtX7_wanted 17 rfl) ?_
  refine P.iret (dq dtX7_wanted 18 rfl) rfl rfl rfl ?_
  refine cgQ h ?_
  unfold wnt
  rw [hs, show 120 * k * v.2.1 = 120 * v.2.1 * k by rw [Int.mul_assoc, Int.mul_comm k, ← Int.mul_assoc]]
  omega
theorem lp_sixty {x : CX} {d N : Nat} {σ : PH} {Q : PQ} {p s u l fi be rp cl dg nu pk wm : Int} (h84 : σ 84 = mdO p s u l fi be rp cl dg nu pk wm) {wf : Int → Int} (h85 : σ 85 = pcI 0 1404 wf) {r : Int} {v : MsV} (hG : GMs v) (hR : Rw wf r v) (hr : 0 ≤ r ∧ r ≤ 1287) (hp : p = v.1) (hd : 1 ≤ d) (h : Q (some (vI (plp v))) σ) : ∀ (t j : Nat), (j : Int) ≤ v.1 → v.1 - j < t → P x d mX7_sixtyPlays Q (0, 0) 4 [some (vR 84), some (vI r), some (vI (plT (mm v) j)), some (vI j)] [] N σ := by
  intro t
  induction t with
  | zero =>
    intro j hj hm
    exfalso; omega
  | succ t ih =>
    intro j hj hm
    have hp8 := hG.1
    refine P.iload_n (dq dtX7_sixtyPlays 4 rfl) rfl ?_
    refine P.aload_n (dq dtX7_sixtyPlays 5 rfl) rfl ?_
    refine P.get flX7_7 (dq dtX7_sixtyPlays 6 rfl) (by repeat (first | assumption | exact up_s | rw [up_n (by first | assumption | (apply Ne.symm; assumption) | decide | omega)])) (by rfl) ?_
    refine P.icmp_ge (t := 36) (dq dtX7_sixtyPlays 7 rfl) rfl (by omega) (by omega) (fun c_9 => ?_) (fun c_9 => ?_)
    · refine P.iload_n (dq dtX7_sixtyPlays 24 rfl) rfl ?_
      refine P.iret (dq dtX7_sixtyPlays 25 rfl) rfl rfl rfl ?_
      unfold plp at h
      rw [show v.1.toNat = j by omega] at h
      exact h
    · refine P.iload_n (dq dtX7_sixtyPlays 8 rfl) rfl ?_
      refine P.aload_n (dq dtX7_sixtyPlays 9 rfl) rfl ?_
      refine P.iload_n (dq dtX7_sixtyPlays 10 rfl) rfl ?_
      refine P.iload_n (dq dtX7_sixtyPlays 11 rfl) rfl ?_
      refine P.iconst (dq dtX7_sixtyPlays 12 rfl) ?_
      refine P.callV3 (M' := mX7_mean) (d' := d - 1) mlX7_171 mcX7_mean mvX7_mean (dq dtX7_sixtyPlays 13 rfl) (by omega) (Nat.le_of_ble_eq_true rfl) (by repeat (first | assumption | exact up_s | rw [up_n (by first | assumption | (apply Ne.symm; assumption) | decide | omega)])) rfl ?_
      refine ct_X7_mean h84 h85 hG hR hr ⟨by omega, by omega⟩ (by omega) ?_
      refine P.aload_n (dq dtX7_sixtyPlays 14 rfl) rfl ?_
      refine P.iload_n (dq dtX7_sixtyPlays 15 rfl) rfl ?_
      refine P.iload_n (dq dtX7_sixtyPlays 16 rfl) rfl ?_
      refine P.iconst (dq dtX7_sixtyPlays 17 rfl) ?_
      refine P.callV3 (M' := mX7_mean) (d' := d - 1) mlX7_171 mcX7_mean mvX7_mean (dq dtX7_sixtyPlays 18 rfl) (by omega) (Nat.le_of_ble_eq_true rfl) (by repeat (first | assumption | exact up_s | rw [up_n (by first | assumption | (apply Ne.symm; assumption) | decide | omega)])) rfl ?_
      refine ct_X7_mean h84 h85 hG hR hr ⟨by omega, by omega⟩ (by omega) ?_
      refine P.isub (dq dtX7_sixtyPlays 19 rfl) ?_
      refine P.iadd (dq dtX7_sixtyPlays 20 rfl) ?_
      refine P.istore_n (dq dtX7_sixtyPlays 21 rfl) (by decide) rfl rfl ?_
      refine P.iinc (dq dtX7_sixtyPlays 22 rfl) rfl (by decide) rfl rfl ?_
      refine P.goto (t := 4) (dq dtX7_sixtyPlays 23 rfl) rfl ?_
      have hh := ih (j + 1) (by omega) (by omega)
      rw [show ((j + 1 : Nat) : Int) = (j : Int) + 1 by omega] at hh
      exact hh
/-- sixtyPlays -/
theorem ct_X7_sixtyPlays {x : CM} {d N : Nat} {σ : PH} {Q : PQ} {p s u l fi be rp cl dg nu pk wm : Int} (h84 : σ 84 = mdO p s u l fi be rp cl dg nu pk wm) {wf : Int → Int} (h85 : σ 85 = pcI 0 1404 wf) {r : Int} {v : MsV} (hG : GMs v) (hR : Rw wf r v) (hr : 0 ≤ r ∧ r ≤ 1287) (hp : p = v.1) (hd : 1 ≤ d) (h : Q (some (vI (plp v))) σ) : Call x d 0 0 mX7_sixtyPlays [vR 84, vI r] N σ Q := by
  refine Call.of mcX7_sixtyPlays (Nat.le_of_ble_eq_true rfl) (fun y hy => ?_)
  subst hy
  refine P.iconst (dq dtX7_sixtyPlays 0 rfl) ?_
  refine P.istore_n (dq dtX7_sixtyPlays 1 rfl) (by decide) rfl rfl ?_
  refine P.iconst (dq dtX7_sixtyPlays 2 rfl) ?_
  refine P.istore_n (dq dtX7_sixtyPlays 3 rfl) (by decide) rfl rfl ?_
  have hp8 := hG.1
  exact lp_sixty h84 h85 hG hR hr hp hd h (v.1.toNat + 1) 0 (by omega) (by omega)
/-- last -/
theorem ct_X7_last {x : CM} {d N : Nat} {σ : PH} {Q : PQ} {p s u l fi be rp cl dg nu pk wm : Int} (h84 : σ 84 = mdO p s u l fi be rp cl dg nu pk wm) (h : Q (some (vI ((p - 1) * s))) σ) : Call x d 0 0 mX7_last [vR 84] N σ Q := by
  refine Call.of mcX7_last (Nat.le_of_ble_eq_true rfl) (fun y hy => ?_)
  subst hy
  refine P.aload_n (dq dtX7_last 0 rfl) rfl ?_
  refine P.get flX7_13 (dq dtX7_last 1 rfl) (by repeat (first | assumption | exact up_s | rw [up_n (by first | assumption | (apply Ne.symm; assumption) | decide | omega)])) (by rfl) ?_
  refine P.aload_n (dq dtX7_last 2 rfl) rfl ?_
  refine P.get flX7_7 (dq dtX7_last 3 rfl) (by repeat (first | assumption | exact up_s | rw [up_n (by first | assumption | (apply Ne.symm; assumption) | decide | omega)])) (by rfl) ?_
  refine P.iconst (dq dtX7_last 4 rfl) ?_
  refine P.isub (dq dtX7_last 5 rfl) ?_
  refine P.imul (dq dtX7_last 6 rfl) ?_
  refine P.iret (dq dtX7_last 7 rfl) rfl rfl rfl ?_
  exact cgQ h (Int.mul_comm _ _)
/-- countAt -/
theorem ct_X7_countAt {x : CM} {d N : Nat} {σ : PH} {Q : PQ} {p s u l fi be rp cl dg nu pk wm : Int} (h84 : σ 84 = mdO p s u l fi be rp cl dg nu pk wm) {co : Int → Int} (h89 : σ 89 = pcI 0 8 co) (hp : 2 ≤ p ∧ p ≤ 8) (hs : 10 ≤ s ∧ s ≤ 99) (hT : TB co p) {z : Int} (hz : 0 ≤ z ∧ z ≤ (p - 1) * s) (h : Q (some (vI (cntF co p s z))) σ) : Call x d 0 0 mX7_countAt [vR 84, vI z] N σ Q := by
  refine Call.of mcX7_countAt (Nat.le_of_ble_eq_true rfl) (fun y hy => ?_)
  subst hy
  have hL9 := mul_bd (k := p - 1) (s := s) (by omega) (by omega) (by omega) (by omega)
  obtain ⟨d1, d2, d3, d4⟩ := div_bd hz.1 hz.2 (show 0 < s by omega) hp.1
  obtain ⟨r1, r2, r3⟩ := rise_bd hT d1 (by omega) d3 d4 hs.2
  have et : z.tdiv s = z / s := Int.tdiv_eq_ediv_of_nonneg hz.1
  have eq0 := Int.ediv_nonneg hz.1 (show 0 ≤ s by omega)
  have eqL : z / s ≤ z := Int.ediv_le_self _ hz.1
  refine P.iload_n (dq dtX7_countAt 0 rfl) rfl ?_
  refine P.aload_n (dq dtX7_countAt 1 rfl) rfl ?_
  refine P.get flX7_13 (dq dtX7_countAt 2 rfl) (by repeat (first | assumption | exact up_s | rw [up_n (by first | assumption | (apply Ne.symm; assumption) | decide | omega)])) (by rfl) ?_
  refine P.idiv (dq dtX7_countAt 3 rfl) (by omega) (by omega) (by omega) ?_
  rw [et]
  refine P.istore_n (dq dtX7_countAt 4 rfl) (by decide) rfl rfl ?_
  refine P.iload_n (dq dtX7_countAt 5 rfl) rfl ?_
  refine P.aload_n (dq dtX7_countAt 6 rfl) rfl ?_
  refine P.get flX7_7 (dq dtX7_countAt 7 rfl) (by repeat (first | assumption | exact up_s | rw [up_n (by first | assumption | (apply Ne.symm; assumption) | decide | omega)])) (by rfl) ?_
  refine P.iconst (dq dtX7_countAt 8 rfl) ?_
  refine P.isub (dq dtX7_countAt 9 rfl) ?_
  refine P.icmp_le (t := 26) (dq dtX7_countAt 10 rfl) rfl (by omega) (by omega) (fun c_14 => ?_) (fun c_14 => ?_)
  · refine P.iload_n (dq dtX7_countAt 16 rfl) rfl ?_
    refine P.istore_n (dq dtX7_countAt 17 rfl) (by decide) rfl rfl ?_
    first | rw [show z / s = min (z / s) (p - 2) by omega] | rw [show p - 2 = min (z / s) (p - 2) by omega]
    generalize hm : min (z / s) (p - 2) = m at *
    refine P.aload_n (dq dtX7_countAt 18 rfl) rfl ?_
    refine P.get flX7_30 (dq dtX7_countAt 19 rfl) (by repeat (first | assumption | exact up_s | rw [up_n (by first | assumption | (apply Ne.symm; assumption) | decide | omega)])) (by rfl) ?_
    refine P.iload_n (dq dtX7_countAt 20 rfl) rfl ?_
    refine P.iald (dq dtX7_countAt 21 rfl) (by repeat (first | assumption | exact up_s | rw [up_n (by first | assumption | (apply Ne.symm; assumption) | decide | omega)])) (by omega) (by omega) (by omega) ?_
    refine P.aload_n (dq dtX7_countAt 22 rfl) rfl ?_
    refine P.get flX7_30 (dq dtX7_countAt 23 rfl) (by repeat (first | assumption | exact up_s | rw [up_n (by first | assumption | (apply Ne.symm; assumption) | decide | omega)])) (by rfl) ?_
    refine P.iload_n (dq dtX7_countAt 24 rfl) rfl ?_
    refine P.iconst (dq dtX7_countAt 25 rfl) ?_
    refine P.iadd (dq dtX7_countAt 26 rfl) ?_
    refine P.iald (dq dtX7_countAt 27 rfl) (by repeat (first | assumption | exact up_s | rw [up_n (by first | assumption | (apply Ne.symm; assumption) | decide | omega)])) (by omega) (by omega) (by omega) ?_
    refine P.aload_n (dq dtX7_countAt 28 rfl) rfl ?_
    refine P.get flX7_30 (dq dtX7_countAt 29 rfl) (by repeat (first | assumption | exact up_s | rw [up_n (by first | assumption | (apply Ne.symm; assumption) | decide | omega)])) (by rfl) ?_
    refine P.iload_n (dq dtX7_countAt 30 rfl) rfl ?_
    refine P.iald (dq dtX7_countAt 31 rfl) (by repeat (first | assumption | exact up_s | rw [up_n (by first | assumption | (apply Ne.symm; assumption) | decide | omega)])) (by omega) (by omega) (by omega) ?_
    refine P.isub (dq dtX7_countAt 32 rfl) ?_
    refine P.iload_n (dq dtX7_countAt 33 rfl) rfl ?_
    refine P.aload_n (dq dtX7_countAt 34 rfl) rfl ?_
    refine P.get flX7_13 (dq dtX7_countAt 35 rfl) (by repeat (first | assumption | exact up_s | rw [up_n (by first | assumption | (apply Ne.symm; assumption) | decide | omega)])) (by rfl) ?_
    refine P.iload_n (dq dtX7_countAt 36 rfl) rfl ?_
    refine P.imul (dq dtX7_countAt 37 rfl) ?_
    refine P.isub (dq dtX7_countAt 38 rfl) ?_
    refine P.imul (dq dtX7_countAt 39 rfl) ?_
    refine P.aload_n (dq dtX7_countAt 40 rfl) rfl ?_
    refine P.get flX7_13 (dq dtX7_countAt 41 rfl) (by repeat (first | assumption | exact up_s | rw [up_n (by first | assumption | (apply Ne.symm; assumption) | decide | omega)])) (by rfl) ?_
    rw [Int.mul_comm s m]
    refine P.idiv (dq dtX7_countAt 42 rfl) (by omega) (by omega) (by omega) ?_
    refine P.iadd (dq dtX7_countAt 43 rfl) ?_
    refine P.iret (dq dtX7_countAt 44 rfl) rfl rfl rfl ?_
    refine cgQ h ?_
    unfold cntF
    rw [hm, Int.tdiv_eq_ediv_of_nonneg r2]
  · refine P.aload_n (dq dtX7_countAt 11 rfl) rfl ?_
    refine P.get flX7_7 (dq dtX7_countAt 12 rfl) (by repeat (first | assumption | exact up_s | rw [up_n (by first | assumption | (apply Ne.symm; assumption) | decide | omega)])) (by rfl) ?_
    refine P.iconst (dq dtX7_countAt 13 rfl) ?_
    refine P.isub (dq dtX7_countAt 14 rfl) ?_
    refine P.goto (t := 27) (dq dtX7_countAt 15 rfl) rfl ?_
    refine P.istore_n (dq dtX7_countAt 17 rfl) (by decide) rfl rfl ?_
    first | rw [show z / s = min (z / s) (p - 2) by omega] | rw [show p - 2 = min (z / s) (p - 2) by omega]
    generalize hm : min (z / s) (p - 2) = m at *
    refine P.aload_n (dq dtX7_countAt 18 rfl) rfl ?_
    refine P.get flX7_30 (dq dtX7_countAt 19 rfl) (by repeat (first | assumption | exact up_s | rw [up_n (by first | assumption | (apply Ne.symm; assumption) | decide | omega)])) (by rfl) ?_
    refine P.iload_n (dq dtX7_countAt 20 rfl) rfl ?_
    refine P.iald (dq dtX7_countAt 21 rfl) (by repeat (first | assumption | exact up_s | rw [up_n (by first | assumption | (apply Ne.symm; assumption) | decide | omega)])) (by omega) (by omega) (by omega) ?_
    refine P.aload_n (dq dtX7_countAt 22 rfl) rfl ?_
    refine P.get flX7_30 (dq dtX7_countAt 23 rfl) (by repeat (first | assumption | exact up_s | rw [up_n (by first | assumption | (apply Ne.symm; assumption) | decide | omega)])) (by rfl) ?_
    refine P.iload_n (dq dtX7_countAt 24 rfl) rfl ?_
    refine P.iconst (dq dtX7_countAt 25 rfl) ?_
    refine P.iadd (dq dtX7_countAt 26 rfl) ?_
    refine P.iald (dq dtX7_countAt 27 rfl) (by repeat (first | assumption | exact up_s | rw [up_n (by first | assumption | (apply Ne.symm; assumption) | decide | omega)])) (by omega) (by omega) (by omega) ?_
    refine P.aload_n (dq dtX7_countAt 28 rfl) rfl ?_
    refine P.get flX7_30 (dq dtX7_countAt 29 rfl) (by repeat (first | assumption | exact up_s | rw [up_n (by first | assumption | (apply Ne.symm; assumption) | decide | omega)])) (by rfl) ?_
    refine P.iload_n (dq dtX7_countAt 30 rfl) rfl ?_
    refine P.iald (dq dtX7_countAt 31 rfl) (by repeat (first | assumption | exact up_s | rw [up_n (by first | assumption | (apply Ne.symm; assumption) | decide | omega)])) (by omega) (by omega) (by omega) ?_
    refine P.isub (dq dtX7_countAt 32 rfl) ?_
    refine P.iload_n (dq dtX7_countAt 33 rfl) rfl ?_
    refine P.aload_n (dq dtX7_countAt 34 rfl) rfl ?_
    refine P.get flX7_13 (dq dtX7_countAt 35 rfl) (by repeat (first | assumption | exact up_s | rw [up_n (by first | assumption | (apply Ne.symm; assumption) | decide | omega)])) (by rfl) ?_
    refine P.iload_n (dq dtX7_countAt 36 rfl) rfl ?_
    refine P.imul (dq dtX7_countAt 37 rfl) ?_
    refine P.isub (dq dtX7_countAt 38 rfl) ?_
    refine P.imul (dq dtX7_countAt 39 rfl) ?_
    refine P.aload_n (dq dtX7_countAt 40 rfl) rfl ?_
    refine P.get flX7_13 (dq dtX7_countAt 41 rfl) (by repeat (first | assumption | exact up_s | rw [up_n (by first | assumption | (apply Ne.symm; assumption) | decide | omega)])) (by rfl) ?_
    rw [Int.mul_comm s m]
    refine P.idiv (dq dtX7_countAt 42 rfl) (by omega) (by omega) (by omega) ?_
    refine P.iadd (dq dtX7_countAt 43 rfl) ?_
    refine P.iret (dq dtX7_countAt 44 rfl) rfl rfl rfl ?_
    refine cgQ h ?_
    unfold cntF
    rw [hm, Int.tdiv_eq_ediv_of_nonneg r2]
