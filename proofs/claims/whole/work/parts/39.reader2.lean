theorem lp_readRow {x : CX} {d N : Nat} {Q : PQ} {q mq : Nat} {st kd vl : Int → Int} {m c w : Int} (hT : TKr st kd vl m) (hqq : q + 3 < mq ∨ mq + 2 < q) (hd : 4 ≤ d) (hw : w = 0 ∨ w = 1) : ∀ (t : Nat) (k i : Int) (v : MsV) (σ : PH), GMs v → 0 ≤ k → k + t = v.1 → (0 ≤ i ∧ i < m) → Rd σ q st kd vl m i c → Ms σ mq v → (∀ σ' : PH, Rd σ' q st kd vl m (pRow kd vl m w t k i v).2.1 c → Ms σ' mq (pRow kd vl m w t k i v).2.2 → Fr σ σ' [q, mq, mq + 1, mq + 2] → Q (some (vI (pRow kd vl m w t k i v).1)) σ') → P x d mX5_readRow Q (0, 0) 2 [some (vR q), some (vR mq), some (vI w), some (vI k)] [] N σ := by
  intro t
  induction t with
  | zero =>
    intro k i v σ hG hk ht hi hR hM h
    have hv := hG.1
    have hMq := hM.1
    have hRq := hR.1
    refine P.iload_n (dq dtX5_readRow 2 rfl) rfl ?_
    refine P.aload_n (dq dtX5_readRow 3 rfl) rfl ?_
    refine P.get flX5_92 (dq dtX5_readRow 4 rfl) (by repeat (first | assumption | exact up_s | rw [up_n (by first | assumption | (apply Ne.symm; assumption) | decide | omega)])) (by rfl) ?_
    refine P.icmp_ge (t := 28) (dq dtX5_readRow 5 rfl) rfl (by omega) (by omega) (fun c_7 => ?_) (fun c_7 => ?_)
    · refine P.iconst (dq dtX5_readRow 16 rfl) ?_
      refine P.zret (dq dtX5_readRow 17 rfl) rfl rfl (by decide) rfl ?_
      exact h σ hR hM Fr.rf
    · exfalso; omega
  | succ t ih =>
    intro k i v σ hG hk ht hi hR hM h
    have hv := hG.1
    have hMq := hM.1
    have hRq := hR.1
    obtain ⟨g1, g2⟩ := pErr_G (kd := kd) (vl := vl) (m := m) (k := k) (i := i) hG ⟨hk, by omega⟩ hw
    have gb := pErr_b (kd := kd) (vl := vl) (m := m) (k := k) (w := w) (i := i) (v := v) hi
    have hx : pRow kd vl m w (t + 1) k i v = if (pErr kd vl m k w i v).1 = 0 then pErr kd vl m k w i v else pRow kd vl m w t (k + 1) (pErr kd vl m k w i v).2.1 (pErr kd vl m k w i v).2.2 := rfl
    rw [hx] at h
    have e01 : (pErr kd vl m k w i v).1 = 0 ∨ (pErr kd vl m k w i v).1 = 1 := by { unfold pErr; split <;> simp }
    refine P.iload_n (dq dtX5_readRow 2 rfl) rfl ?_
    refine P.aload_n (dq dtX5_readRow 3 rfl) rfl ?_
    refine P.get flX5_92 (dq dtX5_readRow 4 rfl) (by repeat (first | assumption | exact up_s | rw [up_n (by first | assumption | (apply Ne.symm; assumption) | decide | omega)])) (by rfl) ?_
    refine P.icmp_ge (t := 28) (dq dtX5_readRow 5 rfl) rfl (by omega) (by omega) (fun c_7 => ?_) (fun c_7 => ?_)
    · exfalso; omega
    · refine P.aload_n (dq dtX5_readRow 6 rfl) rfl ?_
      refine P.aload_n (dq dtX5_readRow 7 rfl) rfl ?_
      refine P.iload_n (dq dtX5_readRow 8 rfl) rfl ?_
      refine P.iload_n (dq dtX5_readRow 9 rfl) rfl ?_
      refine P.callV3 (M' := mX5_readErr) (d' := d - 1) mlX5_95 mcX5_readErr mvX5_readErr (dq dtX5_readRow 10 rfl) (by omega) (Nat.le_of_ble_eq_true rfl) (by repeat (first | assumption | exact up_s | rw [up_n (by first | assumption | (apply Ne.symm; assumption) | decide | omega)])) rfl ?_
      refine ct_X5_readErr hR hT hi hM hG hqq (by omega) ⟨hk, by omega⟩ hw (fun σ1 hR1 hM1 hF1 => ?_)
      generalize hr : pErr kd vl m k w i v = r at *
      refine P.if_ne (t := 22) (dq dtX5_readRow 11 rfl) rfl (by omega) (fun c_17 => ?_) (fun c_17 => ?_)
      · refine P.iinc (dq dtX5_readRow 14 rfl) rfl (by decide) rfl rfl ?_
        refine P.goto (t := 2) (dq dtX5_readRow 15 rfl) rfl ?_
        rw [if_neg (by omega)] at h
        exact ih (k + 1) r.2.1 r.2.2 σ1 g1 (by omega) (by omega) gb hR1 hM1 (fun σ' q1 q2 q3 => h σ' q1 q2 (hF1.trans q3))
      · refine P.iconst (dq dtX5_readRow 12 rfl) ?_
        refine P.zret (dq dtX5_readRow 13 rfl) rfl rfl (by decide) rfl ?_
        rw [if_pos (by omega)] at h
        have e0 : r.1 = 0 := by omega
        rw [e0] at h
        exact h σ1 hR1 hM1 hF1
/-- Reader.readRow -/
theorem ct_X5_readRow {x : CM} {d N : Nat} {σ : PH} {Q : PQ} {q mq : Nat} {st kd vl : Int → Int} {m i c : Int} {v : MsV} (hR : Rd σ q st kd vl m i c) (hT : TKr st kd vl m) (hi : 0 ≤ i ∧ i < m) (hM : Ms σ mq v) (hG : GMs v) (hqq : q + 3 < mq ∨ mq + 2 < q) (hd : 4 ≤ d) {w : Int} (hw : w = 0 ∨ w = 1) (h : ∀ σ' : PH, Rd σ' q st kd vl m (pRow kd vl m w v.1.toNat 0 i v).2.1 c → Ms σ' mq (pRow kd vl m w v.1.toNat 0 i v).2.2 → Fr σ σ' [q, mq, mq + 1, mq + 2] → Q (some (vI (pRow kd vl m w v.1.toNat 0 i v).1)) σ') : Call x d 0 0 mX5_readRow [vR q, vR mq, vI w] N σ Q := by
  refine Call.of mcX5_readRow (Nat.le_of_ble_eq_true rfl) (fun y hy => ?_)
  subst hy
  refine P.iconst (dq dtX5_readRow 0 rfl) ?_
  refine P.istore_n (dq dtX5_readRow 1 rfl) (by decide) rfl rfl ?_
  have hv := hG.1
  exact lp_readRow hT hqq hd hw v.1.toNat 0 i v σ hG (by omega) (by omega) hi hR hM h
/-- Reader.readAxis -/
theorem ct_X5_readAxis {x : CM} {d N : Nat} {σ : PH} {Q : PQ} {q mq : Nat} {st kd vl : Int → Int} {m i c : Int} {v : MsV} (hR : Rd σ q st kd vl m i c) (hT : TKr st kd vl m) (hi : 0 ≤ i ∧ i < m) (hM : Ms σ mq v) (hG : GMs v) (hqq : q + 3 < mq ∨ mq + 2 < q) (hd : 3 ≤ d) (h : ∀ σ' : PH, Rd σ' q st kd vl m (pAxis (fun f => f) kd vl m i v).2.1 c → Ms σ' mq (pAxis (fun f => f) kd vl m i v).2.2 → Fr σ σ' [q, mq, mq + 1, mq + 2] → Q (some (vI (pAxis (fun f => f) kd vl m i v).1)) σ') : Call x d 0 0 mX5_readAxis [vR q, vR mq] N σ Q := by
  refine Call.of mcX5_readAxis (Nat.le_of_ble_eq_true rfl) (fun y hy => ?_)
  subst hy
  have hRq := hR.1
  have hm := hT.1
  unfold pAxis at h
  refine P.aload_n (dq dtX5_readAxis 0 rfl) rfl ?_
  refine P.iconst (dq dtX5_readAxis 1 rfl) ?_
  refine P.bipush (dq dtX5_readAxis 2 rfl) rfl ?_
  refine P.callV2 (M' := mX5_readNumber) (d' := d - 1) mlX5_83 mcX5_readNumber mvX5_readNumber (dq dtX5_readAxis 3 rfl) (by omega) (Nat.le_of_ble_eq_true rfl) (by repeat (first | assumption | exact up_s | rw [up_n (by first | assumption | (apply Ne.symm; assumption) | decide | omega)])) rfl ?_
  refine ct_X5_readNumber hR hT hi (by omega) (by omega) (by omega) (fun σ1 hR1 hF1 => ?_)
  have hM1 : Ms σ1 mq v := hM.fr hF1 (by simp <;> omega) (by simp <;> omega) (by simp <;> omega)
  have hnb := pNum_b (kd := kd) (vl := vl) (lo := 2) (hi := 8) hi
  have hnv := pNum_v (kd := kd) (vl := vl) (m := m) (lo := 2) (hi := 8) (i := i)
  have hRq1 := hR1.1
  have hni : inR (pNum kd vl m 2 8 i).1 := by { by_cases e : (pNum kd vl m 2 8 i).1 = -1; rw [e]; omega; have := hnv e; omega }
  generalize pNum kd vl m 2 8 i = r at *
  refine P.istore_n (dq dtX5_readAxis 4 rfl) (by decide) rfl rfl ?_
  refine P.iload_n (dq dtX5_readAxis 5 rfl) rfl ?_
  refine P.iconst (dq dtX5_readAxis 6 rfl) ?_
  refine P.icmp_ne (t := 15) (dq dtX5_readAxis 7 rfl) rfl (by omega) (by omega) (fun c_10 => ?_) (fun c_10 => ?_)
  · refine P.aload_n (dq dtX5_readAxis 10 rfl) rfl ?_
    refine P.bipush (dq dtX5_readAxis 11 rfl) rfl ?_
    refine P.bipush (dq dtX5_readAxis 12 rfl) rfl ?_
    refine P.callV2 (M' := mX5_readNumber) (d' := d - 1) mlX5_83 mcX5_readNumber mvX5_readNumber (dq dtX5_readAxis 13 rfl) (by omega) (Nat.le_of_ble_eq_true rfl) (by repeat (first | assumption | exact up_s | rw [up_n (by first | assumption | (apply Ne.symm; assumption) | decide | omega)])) rfl ?_
    refine ct_X5_readNumber hR1 hT hnb (by omega) (by omega) (by omega) (fun σ2 hR2 hF2 => ?_)
    have hM2 : Ms σ2 mq v := hM1.fr hF2 (by simp <;> omega) (by simp <;> omega) (by simp <;> omega)
    have hMq2 := hM2.1
    have hnv2 := pNum_v (kd := kd) (vl := vl) (m := m) (lo := 10) (hi := 99) (i := r.2)
    have hni2 : inR (pNum kd vl m 10 99 r.2).1 := by { by_cases e : (pNum kd vl m 10 99 r.2).1 = -1; rw [e]; omega; have := hnv2 e; omega }
    generalize pNum kd vl m 10 99 r.2 = r2 at *
    refine P.istore_n (dq dtX5_readAxis 14 rfl) (by decide) rfl rfl ?_
    refine P.iload_n (dq dtX5_readAxis 15 rfl) rfl ?_
    refine P.iconst (dq dtX5_readAxis 16 rfl) ?_
    refine P.icmp_ne (t := 31) (dq dtX5_readAxis 17 rfl) rfl (by omega) (by omega) (fun c_26 => ?_) (fun c_26 => ?_)
    · refine P.aload_n (dq dtX5_readAxis 20 rfl) rfl ?_
      refine P.iload_n (dq dtX5_readAxis 21 rfl) rfl ?_
      refine P.iload_n (dq dtX5_readAxis 22 rfl) rfl ?_
      refine P.callV2 (M' := mX2_begin) (d' := d - 1) mlX5_86 mcX2_begin mvX2_begin (dq dtX5_readAxis 23 rfl) (by omega) (Nat.le_of_ble_eq_true rfl) (by repeat (first | assumption | exact up_s | rw [up_n (by first | assumption | (apply Ne.symm; assumption) | decide | omega)])) rfl ?_
      refine ct_X2_begin hM2 (by omega) (by omega) (by omega) (fun σ3 hM3 hF3 => ?_)
      refine P.iconst (dq dtX5_readAxis 24 rfl) ?_
      refine P.zret (dq dtX5_readAxis 25 rfl) rfl rfl (by decide) rfl ?_
      rw [if_neg (by omega), if_neg (by omega)] at h
      exact h σ3 (hR2.fr hF3 (by simp <;> omega) (by simp <;> omega) (by simp <;> omega) (by simp <;> omega)) hM3 (((hF1.trans hF2).wide (by simp)).trans (hF3.wide (by simp)))
    · refine P.iconst (dq dtX5_readAxis 18 rfl) ?_
      refine P.zret (dq dtX5_readAxis 19 rfl) rfl rfl (by decide) rfl ?_
      rw [if_neg (by omega), if_pos (by omega)] at h
      exact h σ2 hR2 hM2 ((hF1.trans hF2).wide (by simp))
  · refine P.iconst (dq dtX5_readAxis 8 rfl) ?_
    refine P.zret (dq dtX5_readAxis 9 rfl) rfl rfl (by decide) rfl ?_
    rw [if_pos (by omega)] at h
    exact h σ1 hR1 hM1 (hF1.wide (by simp))
/-- Reader.readOne -/
theorem ct_X5_readOne {x : CM} {d N : Nat} {σ : PH} {Q : PQ} {q mq : Nat} {st kd vl : Int → Int} {m i c : Int} {v : MsV} (hR : Rd σ q st kd vl m i c) (hT : TKr st kd vl m) (hi : 0 ≤ i ∧ i < m) (hM : Ms σ mq v) (hG : GMs v) (hqq : q + 3 < mq ∨ mq + 2 < q) (hd : 4 ≤ d) (h : ∀ σ' : PH, Rd σ' q st kd vl m (pOne kd vl m i v).2.1 c → Ms σ' mq (pOne kd vl m i v).2.2 → Fr σ σ' [q, mq, mq + 1, mq + 2] → Q (some (vI (pOne kd vl m i v).1)) σ') : Call x d 0 0 mX5_readOne [vR q, vR mq] N σ Q := by
  refine Call.of mcX5_readOne (Nat.le_of_ble_eq_true rfl) (fun y hy => ?_)
  subst hy
  have hRq := hR.1
  have hMq := hM.1
  have hm := hT.1
  have hv := hG.1
  unfold pOne at h
  refine P.aload_n (dq dtX5_readOne 0 rfl) rfl ?_
  refine P.iconst (dq dtX5_readOne 1 rfl) ?_
  refine P.aload_n (dq dtX5_readOne 2 rfl) rfl ?_
  refine P.get flX5_92 (dq dtX5_readOne 3 rfl) (by repeat (first | assumption | exact up_s | rw [up_n (by first | assumption | (apply Ne.symm; assumption) | decide | omega)])) (by rfl) ?_
  refine P.iconst (dq dtX5_readOne 4 rfl) ?_
  refine P.isub (dq dtX5_readOne 5 rfl) ?_
  refine P.callV2 (M' := mX5_readNumber) (d' := d - 1) mlX5_83 mcX5_readNumber mvX5_readNumber (dq dtX5_readOne 6 rfl) (by omega) (Nat.le_of_ble_eq_true rfl) (by repeat (first | assumption | exact up_s | rw [up_n (by first | assumption | (apply Ne.symm; assumption) | decide | omega)])) rfl ?_
  refine ct_X5_readNumber hR hT hi (by omega) (by omega) (by omega) (fun σ1 hR1 hF1 => ?_)
  have hM1 : Ms σ1 mq v := hM.fr hF1 (by simp <;> omega) (by simp <;> omega) (by simp <;> omega)
  have hnb := pNum_b (kd := kd) (vl := vl) (lo := 0) (hi := v.1 - 1) hi
  have hnv := pNum_v (kd := kd) (vl := vl) (m := m) (lo := 0) (hi := v.1 - 1) (i := i)
  obtain ⟨hRq1, hRa, hRb, hRc⟩ := id hR1
  have hMq1 := hM1.1
  have hni : inR (pNum kd vl m 0 (v.1 - 1) i).1 := by { by_cases e : (pNum kd vl m 0 (v.1 - 1) i).1 = -1; rw [e]; omega; have := hnv e; omega }
  obtain ⟨u1, u2, u3⟩ := hT.2 _ hnb.1 hnb.2
  generalize pNum kd vl m 0 (v.1 - 1) i = r at *
  refine P.istore_n (dq dtX5_readOne 7 rfl) (by decide) rfl rfl ?_
  refine P.iload_n (dq dtX5_readOne 8 rfl) rfl ?_
  refine P.iconst (dq dtX5_readOne 9 rfl) ?_
  refine P.icmp_ne (t := 19) (dq dtX5_readOne 10 rfl) rfl (by omega) (by omega) (fun c_14 => ?_) (fun c_14 => ?_)
  · refine P.aload_n (dq dtX5_readOne 13 rfl) rfl ?_
    refine P.get flX5_18 (dq dtX5_readOne 14 rfl) (by repeat (first | assumption | exact up_s | rw [up_n (by first | assumption | (apply Ne.symm; assumption) | decide | omega)])) (by rfl) ?_
    refine P.aload_n (dq dtX5_readOne 15 rfl) rfl ?_
    refine P.get flX5_25 (dq dtX5_readOne 16 rfl) (by repeat (first | assumption | exact up_s | rw [up_n (by first | assumption | (apply Ne.symm; assumption) | decide | omega)])) (by rfl) ?_
    refine P.iald (dq dtX5_readOne 17 rfl) (by repeat (first | assumption | exact up_s | rw [up_n (by first | assumption | (apply Ne.symm; assumption) | decide | omega)])) (by omega) (by omega) (by omega) ?_
    refine P.istore_n (dq dtX5_readOne 18 rfl) (by decide) rfl rfl ?_
    refine P.aload_n (dq dtX5_readOne 19 rfl) rfl ?_
    refine P.get flX5_15 (dq dtX5_readOne 20 rfl) (by repeat (first | assumption | exact up_s | rw [up_n (by first | assumption | (apply Ne.symm; assumption) | decide | omega)])) (by rfl) ?_
    refine P.aload_n (dq dtX5_readOne 21 rfl) rfl ?_
    refine P.get flX5_25 (dq dtX5_readOne 22 rfl) (by repeat (first | assumption | exact up_s | rw [up_n (by first | assumption | (apply Ne.symm; assumption) | decide | omega)])) (by rfl) ?_
    refine P.iald (dq dtX5_readOne 23 rfl) (by repeat (first | assumption | exact up_s | rw [up_n (by first | assumption | (apply Ne.symm; assumption) | decide | omega)])) (by omega) (by omega) (by omega) ?_
    refine P.iconst (dq dtX5_readOne 24 rfl) ?_
    refine P.icmp_ne (t := 49) (dq dtX5_readOne 25 rfl) rfl (by omega) (by omega) (fun c_39 => ?_) (fun c_39 => ?_)
    · refine P.iconst (dq dtX5_readOne 29 rfl) ?_
      refine P.zret (dq dtX5_readOne 30 rfl) rfl rfl (by decide) rfl ?_
      first | (rw [if_neg (show ¬ r.1 = -1 by omega), if_neg (fun h9 => absurd h9.1 (by omega))] at h; exact h σ1 hR1 hM1 (hF1.wide (by simp))) | (rw [if_neg (show ¬ r.1 = -1 by omega), if_neg (fun h9 => n_43 h9.2)] at h; exact h σ1 hR1 hM1 (hF1.wide (by simp)))
    · refine P.iload_n (dq dtX5_readOne 26 rfl) rfl ?_
      refine P.callSN1 (M' := mX6_isWay) (d' := d - 1) nlX5_99 mcX6_isWay msX6_isWay (dq dtX5_readOne 27 rfl) (by omega) (Nat.le_of_ble_eq_true rfl) ?_
      refine ct_X6_isWay (by omega) (fun n_43 => ?_) (fun n_43 => ?_)
      · refine P.if_ne (t := 51) (dq dtX5_readOne 28 rfl) rfl (by omega) (fun _ => ?_) (fun h9 => absurd h9 (by decide))
        refine P.aload_n (dq dtX5_readOne 31 rfl) rfl ?_
        refine P.callV0 (M' := mX5_goOn) (d' := d - 1) mlX5_43 mcX5_goOn mvX5_goOn (dq dtX5_readOne 32 rfl) (by omega) (Nat.le_of_ble_eq_true rfl) (by repeat (first | assumption | exact up_s | rw [up_n (by first | assumption | (apply Ne.symm; assumption) | decide | omega)])) rfl ?_
        refine ct_X5_goOn hR1 hT hnb (fun σ2 hR2 hF2 => ?_)
        have hM2 : Ms σ2 mq v := hM1.fr hF2 (by simp <;> omega) (by simp <;> omega) (by simp <;> omega)
        have hRq2 := hR2.1
        refine P.aload_n (dq dtX5_readOne 33 rfl) rfl ?_
        refine P.aload_n (dq dtX5_readOne 34 rfl) rfl ?_
        refine P.iload_n (dq dtX5_readOne 35 rfl) rfl ?_
        refine P.iload_n (dq dtX5_readOne 36 rfl) rfl ?_
        refine P.callV3 (M' := mX5_readErr) (d' := d - 1) mlX5_95 mcX5_readErr mvX5_readErr (dq dtX5_readOne 37 rfl) (by omega) (Nat.le_of_ble_eq_true rfl) (by repeat (first | assumption | exact up_s | rw [up_n (by first | assumption | (apply Ne.symm; assumption) | decide | omega)])) rfl ?_
        refine ct_X5_readErr hR2 hT (nx_b hnb) hM2 hG hqq (by omega) (by have := hnv (by omega); omega) n_43 (fun σ3 hR3 hM3 hF3 => ?_)
        rw [if_neg (by omega), if_pos ⟨by omega, n_43⟩] at h
        have e01 : (pErr kd vl m r.1 (vl r.2) (nx m r.2) v).1 = 0 ∨ (pErr kd vl m r.1 (vl r.2) (nx m r.2) v).1 = 1 := by { unfold pErr; split <;> simp }
        refine P.zret (dq dtX5_readOne 38 rfl) rfl rfl e01 rfl ?_
        exact h σ3 hR3 hM3 (((hF1.trans hF2).wide (by simp)).trans hF3)
      · refine P.if_ne (t := 51) (dq dtX5_readOne 28 rfl) rfl (by omega) (fun h9 => absurd h9 (by decide)) (fun _ => ?_)
        refine P.iconst (dq dtX5_readOne 29 rfl) ?_
        refine P.zret (dq dtX5_readOne 30 rfl) rfl rfl (by decide) rfl ?_
        first | (rw [if_neg (show ¬ r.1 = -1 by omega), if_neg (fun h9 => absurd h9.1 (by omega))] at h; exact h σ1 hR1 hM1 (hF1.wide (by simp))) | (rw [if_neg (show ¬ r.1 = -1 by omega), if_neg (fun h9 => n_43 h9.2)] at h; exact h σ1 hR1 hM1 (hF1.wide (by simp)))
  · refine P.iconst (dq dtX5_readOne 11 rfl) ?_
    refine P.zret (dq dtX5_readOne 12 rfl) rfl rfl (by decide) rfl ?_
    rw [if_pos (by omega)] at h
    exact h σ1 hR1 hM1 (hF1.wide (by simp))
