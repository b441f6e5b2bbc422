theorem lp_takeMeans {x : CX} {d N : Nat} {σ : PH} {Q : PQ} {q mq : Nat} {v : MsV} {po pt pl : Int} (hG : GMs v) (hmq : mq + 2 < q ∨ q + 7 < mq) (hd : 3 ≤ d) (hq : σ q = fgO q v.1 v.2.1 po pt pl) (hM : Ms σ mq v) (h : ∀ (σ' : PH) (me wa : Int → Int), σ' (q + 1) = pcI 0 16 me → σ' (q + 2) = pcI 0 8 wa → (∀ i : Int, 0 ≤ i → i < 2 * v.1 → me i = mm v i) → (∀ i : Int, 0 ≤ i → i < v.1 → wa i = wnt v i) → Fr σ σ' [q + 1, q + 2] → Q none σ') : ∀ (t : Nat) (k : Int) (me wa : Int → Int) (σ' : PH), 0 ≤ k ∧ k ≤ v.1 → v.1 - k < t → σ' (q + 1) = pcI 0 16 me → σ' (q + 2) = pcI 0 8 wa → (∀ i : Int, 0 ≤ i → i < 2 * k → me i = mm v i) → (∀ i : Int, 0 ≤ i → i < k → wa i = wnt v i) → Fr σ σ' [q + 1, q + 2] → P x d mX0_takeMeans Q (0, 0) 2 [some (vR q), some (vR mq), some (vI k)] [] N σ' := by
  intro t
  induction t with
  | zero =>
    intro k me wa σ' hk ht h1 h2 hme hwa hF
    exfalso; omega
  | succ t ih =>
    intro k me wa σ' hk ht h1 h2 hme hwa hF
    have hq' : σ' q = fgO q v.1 v.2.1 po pt pl := (hF q (by simp)).trans hq
    have hM1 : Ms σ' mq v := hM.fr hF (by simp <;> omega) (by simp <;> omega) (by simp <;> omega)
    have hv1 := hG.1
    have hv2 := hG.2.1
    refine P.iload_n (dq dtX0_takeMeans 2 rfl) rfl ?_
    refine P.aload_n (dq dtX0_takeMeans 3 rfl) rfl ?_
    refine P.get flX0_9 (dq dtX0_takeMeans 4 rfl) (by repeat (first | assumption | exact up_s | rw [up_n (by first | assumption | (apply Ne.symm; assumption) | decide | omega)])) (by rfl) ?_
    refine P.icmp_ge (t := 69) (dq dtX0_takeMeans 5 rfl) rfl (by omega) (by omega) (fun c_7 => ?_) (fun c_7 => ?_)
    · refine P.vret (dq dtX0_takeMeans 46 rfl) rfl rfl rfl ?_
      obtain rfl : k = v.1 := by omega
      exact h _ me wa h1 h2 hme hwa hF
    · refine P.aload_n (dq dtX0_takeMeans 6 rfl) rfl ?_
      refine P.get flX0_18 (dq dtX0_takeMeans 7 rfl) (by repeat (first | assumption | exact up_s | rw [up_n (by first | assumption | (apply Ne.symm; assumption) | decide | omega)])) (by rfl) ?_
      refine P.iload_n (dq dtX0_takeMeans 8 rfl) rfl ?_
      refine P.iconst (dq dtX0_takeMeans 9 rfl) ?_
      refine P.imul (dq dtX0_takeMeans 10 rfl) ?_
      refine P.iconst (dq dtX0_takeMeans 11 rfl) ?_
      refine P.iadd (dq dtX0_takeMeans 12 rfl) ?_
      refine P.aload_n (dq dtX0_takeMeans 13 rfl) rfl ?_
      refine P.iload_n (dq dtX0_takeMeans 14 rfl) rfl ?_
      refine P.iconst (dq dtX0_takeMeans 15 rfl) ?_
      refine P.callV2 (M' := mX2_meanOf) (d' := d - 1) mlX0_75 mcX2_meanOf mvX2_meanOf (dq dtX0_takeMeans 16 rfl) (by omega) (Nat.le_of_ble_eq_true rfl) hM1.1 rfl ?_
      refine ct_X2_meanOf (v := v) hM1 (by omega) (by omega) (by omega) (by omega) (hG.2.2 (k * 2 + 0) (by omega) (by omega)).1 (hG.2.2 (k * 2 + 0) (by omega) (by omega)).2 ?_
      refine P.iast (dq dtX0_takeMeans 17 rfl) (by repeat (first | assumption | exact up_s | rw [up_n (by first | assumption | (apply Ne.symm; assumption) | decide | omega)])) (by omega) (by omega) (by omega) ?_
      refine P.aload_n (dq dtX0_takeMeans 18 rfl) rfl ?_
      refine P.get flX0_18 (dq dtX0_takeMeans 19 rfl) (by repeat (first | assumption | exact up_s | rw [up_n (by first | assumption | (apply Ne.symm; assumption) | decide | omega)])) (by rfl) ?_
      refine P.iload_n (dq dtX0_takeMeans 20 rfl) rfl ?_
      refine P.iconst (dq dtX0_takeMeans 21 rfl) ?_
      refine P.imul (dq dtX0_takeMeans 22 rfl) ?_
      refine P.iconst (dq dtX0_takeMeans 23 rfl) ?_
      refine P.iadd (dq dtX0_takeMeans 24 rfl) ?_
      refine P.aload_n (dq dtX0_takeMeans 25 rfl) rfl ?_
      refine P.iload_n (dq dtX0_takeMeans 26 rfl) rfl ?_
      refine P.iconst (dq dtX0_takeMeans 27 rfl) ?_
      refine P.callV2 (M' := mX2_meanOf) (d' := d - 1) mlX0_75 mcX2_meanOf mvX2_meanOf (dq dtX0_takeMeans 28 rfl) (by omega) (Nat.le_of_ble_eq_true rfl) ((up_n (by omega)).trans hM1.1) rfl ?_
      refine ct_X2_meanOf (v := v) (hM1.fr (S := [q + 1]) (by repeat (first | assumption | exact Fr.rf | refine Fr.up ?_ (by simp))) (by simp <;> omega) (by simp <;> omega) (by simp <;> omega)) (by omega) (by omega) (by omega) (by omega) (hG.2.2 (k * 2 + 1) (by omega) (by omega)).1 (hG.2.2 (k * 2 + 1) (by omega) (by omega)).2 ?_
      refine P.iast (dq dtX0_takeMeans 29 rfl) (by repeat (first | assumption | exact up_s | rw [up_n (by first | assumption | (apply Ne.symm; assumption) | decide | omega)])) (by omega) (by omega) (by omega) ?_
      refine P.aload_n (dq dtX0_takeMeans 30 rfl) rfl ?_
      refine P.get flX0_22 (dq dtX0_takeMeans 31 rfl) (by repeat (first | assumption | exact up_s | rw [up_n (by first | assumption | (apply Ne.symm; assumption) | decide | omega)])) (by rfl) ?_
      refine P.iload_n (dq dtX0_takeMeans 32 rfl) rfl ?_
      refine P.bipush (dq dtX0_takeMeans 33 rfl) rfl ?_
      refine P.iload_n (dq dtX0_takeMeans 34 rfl) rfl ?_
      refine P.imul (dq dtX0_takeMeans 35 rfl) ?_
      refine P.aload_n (dq dtX0_takeMeans 36 rfl) rfl ?_
      refine P.get flX0_15 (dq dtX0_takeMeans 37 rfl) (by repeat (first | assumption | exact up_s | rw [up_n (by first | assumption | (apply Ne.symm; assumption) | decide | omega)])) (by rfl) ?_
      refine P.imul (dq dtX0_takeMeans 38 rfl) ?_
      refine P.aload_n (dq dtX0_takeMeans 39 rfl) rfl ?_
      refine P.iload_n (dq dtX0_takeMeans 40 rfl) rfl ?_
      refine P.callV1 (M' := mX0_slopeAt) (d' := d - 1) mlX0_78 mcX0_slopeAt mvX0_slopeAt (dq dtX0_takeMeans 41 rfl) (by omega) (Nat.le_of_ble_eq_true rfl) (by repeat (first | assumption | exact up_s | rw [up_n (by first | assumption | (apply Ne.symm; assumption) | decide | omega)])) rfl ?_
      refine ct_X0_slopeAt (by repeat (first | assumption | exact up_s | rw [up_n (by first | assumption | (apply Ne.symm; assumption) | decide | omega)])) (by omega) (by omega) (by repeat (first | assumption | exact up_s | rw [up_n (by first | assumption | (apply Ne.symm; assumption) | decide | omega)])) (by omega) ?_
      refine P.isub (dq dtX0_takeMeans 42 rfl) ?_
      refine P.iast (dq dtX0_takeMeans 43 rfl) (by repeat (first | assumption | exact up_s | rw [up_n (by first | assumption | (apply Ne.symm; assumption) | decide | omega)])) (by omega) (by omega) (by omega) ?_
      refine P.iinc (dq dtX0_takeMeans 44 rfl) rfl (by decide) rfl rfl ?_
      refine P.goto (t := 2) (dq dtX0_takeMeans 45 rfl) rfl ?_
      refine ih (k + 1) (upI (upI me (k * 2 + 0) (mm v (k * 2 + 0))) (k * 2 + 1) (mm v (k * 2 + 1))) (upI wa k (wnt v k)) _ (by omega) (by omega) (by repeat (first | assumption | exact up_s | rw [up_n (by first | assumption | (apply Ne.symm; assumption) | decide | omega)])) ?_ (fun i g1 g2 => ?_) (fun i g1 g2 => ?_) (by repeat (first | assumption | exact Fr.rf | refine Fr.up ?_ (by simp)))
      · rw [up_s]
        congr 2
        have e1 : upI (upI me (k * 2 + 0) (mm v (k * 2 + 0))) (k * 2 + 1) (mm v (k * 2 + 1)) (k * 2 + 0) = mm v (k * 2 + 0) := by { rw [upI_n (by omega), upI_s] }
        have e2 : upI (upI me (k * 2 + 0) (mm v (k * 2 + 0))) (k * 2 + 1) (mm v (k * 2 + 1)) (k * 2 + 1) = mm v (k * 2 + 1) := upI_s
        rw [e1, e2]
        rfl
      · by_cases e3 : i = k * 2 + 1
        · rw [e3, upI_s]
        · rw [upI_n e3]
          by_cases e4 : i = k * 2 + 0
          · rw [e4, upI_s]
          · rw [upI_n e4]
            exact hme i g1 (by omega)
      · by_cases e3 : i = k
        · rw [e3, upI_s]
        · rw [upI_n e3]
          exact hwa i g1 (by omega)
/-- Figures.takeMeans -/
theorem ct_X0_takeMeans {x : CM} {d N : Nat} {σ : PH} {Q : PQ} {q mq : Nat} {v : MsV} {po pt pl : Int} {me0 wa0 : Int → Int} (hG : GMs v) (hmq : mq + 2 < q ∨ q + 7 < mq) (hd : 3 ≤ d) (hq : σ q = fgO q v.1 v.2.1 po pt pl) (hM : Ms σ mq v) (hm1 : σ (q + 1) = pcI 0 16 me0) (hm2 : σ (q + 2) = pcI 0 8 wa0) (h : ∀ (σ' : PH) (me wa : Int → Int), σ' (q + 1) = pcI 0 16 me → σ' (q + 2) = pcI 0 8 wa → (∀ i : Int, 0 ≤ i → i < 2 * v.1 → me i = mm v i) → (∀ i : Int, 0 ≤ i → i < v.1 → wa i = wnt v i) → Fr σ σ' [q + 1, q + 2] → Q none σ') : Call x d 0 0 mX0_takeMeans [vR q, vR mq] N σ Q := by
  refine Call.of mcX0_takeMeans (Nat.le_of_ble_eq_true rfl) (fun y hy => ?_)
  subst hy
  refine P.iconst (dq dtX0_takeMeans 0 rfl) ?_
  refine P.istore_n (dq dtX0_takeMeans 1 rfl) (by decide) rfl rfl ?_
  have hv1 := hG.1
  exact lp_takeMeans hG hmq hd hq hM h 9 0 me0 wa0 σ (by omega) (by omega) hm1 hm2 (fun i g1 g2 => absurd g1 (by omega)) (fun i g1 g2 => absurd g1 (by omega)) Fr.rf
def plc (p T : Int) : Int := if near T (60 * p) ≤ 0 then 0 else near T (60 * p)
theorem lp_takePlay {x : CX} {d N : Nat} {σ : PH} {Q : PQ} {q : Nat} {p s po pl : Int} {me : Int → Int} (hp : 2 ≤ p ∧ p ≤ 8) (hd : 2 ≤ d) (hm : σ (q + 1) = pcI 0 16 me) (hb : ∀ t : Int, 0 ≤ t → t < 2 * p → -2400 ≤ me t ∧ me t ≤ 2400) (h : ∀ σ' : PH, σ' q = fgO q p s po (plT me p.toNat) (plc p (plT me p.toNat)) → Fr σ σ' [q] → Q none σ') : ∀ (t k : Nat) (σ' : PH), (k : Int) ≤ p → p - k < t → σ' q = fgO q p s po (plT me k) pl → Fr σ σ' [q] → P x d mX0_takePlay Q (0, 0) 7 [some (vR q), some (vI k)] [] N σ' := by
  intro t
  induction t with
  | zero =>
    intro k σ' hk ht hq hF
    exfalso; omega
  | succ t ih =>
    intro k σ' hk ht hq hF
    have hm' : σ' (q + 1) = pcI 0 16 me := (hF (q + 1) (by simp)).trans hm
    refine P.iload_n (dq dtX0_takePlay 5 rfl) rfl ?_
    refine P.aload_n (dq dtX0_takePlay 6 rfl) rfl ?_
    refine P.get flX0_9 (dq dtX0_takePlay 7 rfl) (by repeat (first | assumption | exact up_s | rw [up_n (by first | assumption | (apply Ne.symm; assumption) | decide | omega)])) (by rfl) ?_
    refine P.icmp_ge (t := 43) (dq dtX0_takePlay 8 rfl) rfl (by omega) (by omega) (fun c_12 => ?_) (fun c_12 => ?_)
    · obtain rfl : k = p.toNat := by omega
      have hT := plT_b (m := me) p.toNat (fun t g1 g2 => hb t g1 (by omega))
      have hN := near_b (a := plT me p.toNat) (c := 60 * p) (b := 80) (by omega) (by omega) (by omega) (by omega)
      unfold plc at h
      refine P.aload_n (dq dtX0_takePlay 25 rfl) rfl ?_
      refine P.iconst (dq dtX0_takePlay 26 rfl) ?_
      refine P.aload_n (dq dtX0_takePlay 27 rfl) rfl ?_
      refine P.get flX0_43 (dq dtX0_takePlay 28 rfl) (by repeat (first | assumption | exact up_s | rw [up_n (by first | assumption | (apply Ne.symm; assumption) | decide | omega)])) (by rfl) ?_
      refine P.bipush (dq dtX0_takePlay 29 rfl) rfl ?_
      refine P.aload_n (dq dtX0_takePlay 30 rfl) rfl ?_
      refine P.get flX0_9 (dq dtX0_takePlay 31 rfl) (by repeat (first | assumption | exact up_s | rw [up_n (by first | assumption | (apply Ne.symm; assumption) | decide | omega)])) (by rfl) ?_
      refine P.imul (dq dtX0_takePlay 32 rfl) ?_
      refine P.callSN2 (M' := mX6_nearestLesser) (d' := d - 1) nlX0_85 mcX6_nearestLesser msX6_nearestLesser (dq dtX0_takePlay 33 rfl) (by omega) (Nat.le_of_ble_eq_true rfl) ?_
      refine ct_X6_nearestLesser (by omega) (by omega) (by omega) ?_
      refine P.callS2 (M' := mJ9_max_7cf53) (d' := d - 1) mlX0_58 mcJ9_max_7cf53 msJ9_max_7cf53 (dq dtX0_takePlay 34 rfl) (by omega) (Nat.le_of_ble_eq_true rfl) ?_
      refine ct_max (by omega) (by omega) (fun n_59 => ?_) (fun n_59 => ?_)
      · refine P.put flX0_46 rfl (dq dtX0_takePlay 35 rfl) (by repeat (first | assumption | exact up_s | rw [up_n (by first | assumption | (apply Ne.symm; assumption) | decide | omega)])) (by exact Nat.le_of_ble_eq_true rfl) rfl rfl rfl rfl rfl ?_
        refine P.vret (dq dtX0_takePlay 36 rfl) rfl rfl rfl ?_
        first | (rw [if_pos (show near (plT me p.toNat) (60 * p) ≤ 0 by omega)] at h; exact h _ up_s (by repeat (first | assumption | exact Fr.rf | refine Fr.up ?_ (by simp)))) | (rw [if_neg (show ¬ near (plT me p.toNat) (60 * p) ≤ 0 by omega)] at h; exact h _ up_s (by repeat (first | assumption | exact Fr.rf | refine Fr.up ?_ (by simp))))
      · refine P.put flX0_46 rfl (dq dtX0_takePlay 35 rfl) (by repeat (first | assumption | exact up_s | rw [up_n (by first | assumption | (apply Ne.symm; assumption) | decide | omega)])) (by exact Nat.le_of_ble_eq_true rfl) rfl rfl rfl rfl rfl ?_
        refine P.vret (dq dtX0_takePlay 36 rfl) rfl rfl rfl ?_
        first | (rw [if_pos (show near (plT me p.toNat) (60 * p) ≤ 0 by omega)] at h; exact h _ up_s (by repeat (first | assumption | exact Fr.rf | refine Fr.up ?_ (by simp)))) | (rw [if_neg (show ¬ near (plT me p.toNat) (60 * p) ≤ 0 by omega)] at h; exact h _ up_s (by repeat (first | assumption | exact Fr.rf | refine Fr.up ?_ (by simp))))
    · refine P.aload_n (dq dtX0_takePlay 9 rfl) rfl ?_
      refine P.dup (dq dtX0_takePlay 10 rfl) rfl ?_
      refine P.get flX0_43 (dq dtX0_takePlay 11 rfl) (by repeat (first | assumption | exact up_s | rw [up_n (by first | assumption | (apply Ne.symm; assumption) | decide | omega)])) (by rfl) ?_
      refine P.aload_n (dq dtX0_takePlay 12 rfl) rfl ?_
      refine P.iload_n (dq dtX0_takePlay 13 rfl) rfl ?_
      refine P.iconst (dq dtX0_takePlay 14 rfl) ?_
      refine P.callV2 (M' := mX0_meanAt) (d' := d - 1) mlX0_82 mcX0_meanAt mvX0_meanAt (dq dtX0_takePlay 15 rfl) (by omega) (Nat.le_of_ble_eq_true rfl) (by repeat (first | assumption | exact up_s | rw [up_n (by first | assumption | (apply Ne.symm; assumption) | decide | omega)])) rfl ?_
      refine ct_X0_meanAt (by repeat (first | assumption | exact up_s | rw [up_n (by first | assumption | (apply Ne.symm; assumption) | decide | omega)])) (by omega) (by omega) (by repeat (first | assumption | exact up_s | rw [up_n (by first | assumption | (apply Ne.symm; assumption) | decide | omega)])) (by omega) (by omega) ?_
      refine P.aload_n (dq dtX0_takePlay 16 rfl) rfl ?_
      refine P.iload_n (dq dtX0_takePlay 17 rfl) rfl ?_
      refine P.iconst (dq dtX0_takePlay 18 rfl) ?_
      refine P.callV2 (M' := mX0_meanAt) (d' := d - 1) mlX0_82 mcX0_meanAt mvX0_meanAt (dq dtX0_takePlay 19 rfl) (by omega) (Nat.le_of_ble_eq_true rfl) (by repeat (first | assumption | exact up_s | rw [up_n (by first | assumption | (apply Ne.symm; assumption) | decide | omega)])) rfl ?_
      refine ct_X0_meanAt (by repeat (first | assumption | exact up_s | rw [up_n (by first | assumption | (apply Ne.symm; assumption) | decide | omega)])) (by omega) (by omega) (by repeat (first | assumption | exact up_s | rw [up_n (by first | assumption | (apply Ne.symm; assumption) | decide | omega)])) (by omega) (by omega) ?_
      refine P.isub (dq dtX0_takePlay 20 rfl) ?_
      refine P.iadd (dq dtX0_takePlay 21 rfl) ?_
      refine P.put flX0_43 rfl (dq dtX0_takePlay 22 rfl) (by repeat (first | assumption | exact up_s | rw [up_n (by first | assumption | (apply Ne.symm; assumption) | decide | omega)])) (by exact Nat.le_of_ble_eq_true rfl) rfl rfl rfl rfl rfl ?_
      refine P.iinc (dq dtX0_takePlay 23 rfl) rfl (by decide) rfl rfl ?_
      refine P.goto (t := 7) (dq dtX0_takePlay 24 rfl) rfl ?_
      exact ih (k + 1) _ (by omega) (by omega) up_s (by repeat (first | assumption | exact Fr.rf | refine Fr.up ?_ (by simp)))
/-- Figures.takePlay -/
theorem ct_X0_takePlay {x : CM} {d N : Nat} {σ : PH} {Q : PQ} {q : Nat} {p s po pt pl : Int} {me : Int → Int} (hq : σ q = fgO q p s po pt pl) (hp : 2 ≤ p ∧ p ≤ 8) (hd : 2 ≤ d) (hm : σ (q + 1) = pcI 0 16 me) (hb : ∀ t : Int, 0 ≤ t → t < 2 * p → -2400 ≤ me t ∧ me t ≤ 2400) (h : ∀ σ' : PH, σ' q = fgO q p s po (plT me p.toNat) (plc p (plT me p.toNat)) → Fr σ σ' [q] → Q none σ') : Call x d 0 0 mX0_takePlay [vR q] N σ Q := by
  refine Call.of mcX0_takePlay (Nat.le_of_ble_eq_true rfl) (fun y hy => ?_)
  subst hy
  refine P.aload_n (dq dtX0_takePlay 0 rfl) rfl ?_
  refine P.iconst (dq dtX0_takePlay 1 rfl) ?_
  refine P.put flX0_43 rfl (dq dtX0_takePlay 2 rfl) (by repeat (first | assumption | exact up_s | rw [up_n (by first | assumption | (apply Ne.symm; assumption) | decide | omega)])) (by exact Nat.le_of_ble_eq_true rfl) rfl rfl rfl rfl rfl ?_
  refine P.iconst (dq dtX0_takePlay 3 rfl) ?_
  refine P.istore_n (dq dtX0_takePlay 4 rfl) (by decide) rfl rfl ?_
  exact lp_takePlay hp hd (σ := σ) hm hb h 9 0 _ (by omega) (by omega) up_s (by repeat (first | assumption | exact Fr.rf | refine Fr.up ?_ (by simp)))
