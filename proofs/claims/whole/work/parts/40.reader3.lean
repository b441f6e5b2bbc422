theorem pErr_01 {kd vl : Int → Int} {m k w i : Int} {v : MsV} : (pErr kd vl m k w i v).1 = 0 ∨ (pErr kd vl m k w i v).1 = 1 := by unfold pErr; split <;> simp
theorem pRow_01 {kd vl : Int → Int} {m w : Int} : ∀ (t : Nat) (k i : Int) (v : MsV), (pRow kd vl m w t k i v).1 = 0 ∨ (pRow kd vl m w t k i v).1 = 1 := by
  intro t
  induction t with
  | zero => intro k i v; exact Or.inr rfl
  | succ t ih =>
    intro k i v
    unfold pRow
    split
    · exact pErr_01
    · exact ih _ _ _
theorem pAxis_01 {bg : (Int → Int) → Int → Int} {kd vl : Int → Int} {m i : Int} {v : MsV} : (pAxis bg kd vl m i v).1 = 0 ∨ (pAxis bg kd vl m i v).1 = 1 := by
  unfold pAxis; split
  · exact Or.inl rfl
  · split
    · exact Or.inl rfl
    · exact Or.inr rfl
theorem pOne_01 {kd vl : Int → Int} {m i : Int} {v : MsV} : (pOne kd vl m i v).1 = 0 ∨ (pOne kd vl m i v).1 = 1 := by
  unfold pOne; split
  · exact Or.inl rfl
  · split
    · exact pErr_01
    · exact Or.inl rfl
theorem pCl_01 {bg : (Int → Int) → Int → Int} {kd vl : Int → Int} {m i : Int} {v : MsV} : (pCl bg kd vl m i v).1 = 0 ∨ (pCl bg kd vl m i v).1 = 1 := by
  unfold pCl; split
  · exact pRow_01 _ _ _ _
  · split
    · exact pAxis_01
    · split
      · exact pOne_01
      · exact Or.inl rfl
/-- Reader.readClause -/
theorem ct_X5_readClause {x : CM} {d N : Nat} {σ : PH} {Q : PQ} {q mq : Nat} {st kd vl : Int → Int} {m i c : Int} {v : MsV} (hR : Rd σ q st kd vl m i c) (hT : TKr st kd vl m) (hi : 0 ≤ i ∧ i < m) (hM : Ms σ mq v) (hG : GMs v) (hqq : q + 3 < mq ∨ mq + 2 < q) (hd : 5 ≤ d) (h : ∀ σ' : PH, Rd σ' q st kd vl m (pCl (fun f => f) kd vl m i v).2.1 c → Ms σ' mq (pCl (fun f => f) kd vl m i v).2.2 → Fr σ σ' [q, mq, mq + 1, mq + 2] → Q (some (vI (pCl (fun f => f) kd vl m i v).1)) σ') : Call x d 0 0 mX5_readClause [vR q, vR mq] N σ Q := by
  refine Call.of mcX5_readClause (Nat.le_of_ble_eq_true rfl) (fun y hy => ?_)
  subst hy
  obtain ⟨hRq, hRa, hRb, hRc⟩ := id hR
  have hm := hT.1
  have hv := hG.1
  obtain ⟨u1, u2, u3⟩ := hT.2 i hi.1 hi.2
  unfold pCl at h
  refine P.aload_n (dq dtX5_readClause 0 rfl) rfl ?_
  refine P.get flX5_15 (dq dtX5_readClause 1 rfl) (by repeat (first | assumption | exact up_s | rw [up_n (by first | assumption | (apply Ne.symm; assumption) | decide | omega)])) (by rfl) ?_
  refine P.aload_n (dq dtX5_readClause 2 rfl) rfl ?_
  refine P.get flX5_25 (dq dtX5_readClause 3 rfl) (by repeat (first | assumption | exact up_s | rw [up_n (by first | assumption | (apply Ne.symm; assumption) | decide | omega)])) (by rfl) ?_
  refine P.iald (dq dtX5_readClause 4 rfl) (by repeat (first | assumption | exact up_s | rw [up_n (by first | assumption | (apply Ne.symm; assumption) | decide | omega)])) (by omega) (by omega) (by omega) ?_
  refine P.iconst (dq dtX5_readClause 5 rfl) ?_
  refine P.icmp_eq (t := 15) (dq dtX5_readClause 6 rfl) rfl (by omega) (by omega) (fun c_10 => ?_) (fun c_10 => ?_)
  · refine P.aload_n (dq dtX5_readClause 9 rfl) rfl ?_
    refine P.get flX5_18 (dq dtX5_readClause 10 rfl) (by repeat (first | assumption | exact up_s | rw [up_n (by first | assumption | (apply Ne.symm; assumption) | decide | omega)])) (by rfl) ?_
    refine P.aload_n (dq dtX5_readClause 11 rfl) rfl ?_
    refine P.get flX5_25 (dq dtX5_readClause 12 rfl) (by repeat (first | assumption | exact up_s | rw [up_n (by first | assumption | (apply Ne.symm; assumption) | decide | omega)])) (by rfl) ?_
    refine P.iald (dq dtX5_readClause 13 rfl) (by repeat (first | assumption | exact up_s | rw [up_n (by first | assumption | (apply Ne.symm; assumption) | decide | omega)])) (by omega) (by omega) (by omega) ?_
    refine P.istore_n (dq dtX5_readClause 14 rfl) (by decide) rfl rfl ?_
    refine P.iload_n (dq dtX5_readClause 15 rfl) rfl ?_
    rcases (show vl i = 0 ∨ vl i = 1 ∨ vl i = 2 ∨ vl i = 3 ∨ (vl i < 0 ∨ 3 < vl i) by omega) with e_26 | e_26 | e_26 | e_26 | e_26
    · refine P.tswIn (off := 30) (t := 56) (dq dtX5_readClause 16 rfl) (by omega) (by omega) (by omega) (by rw [e_26]; rfl) rfl ?_
      refine P.aload_n (dq dtX5_readClause 17 rfl) rfl ?_
      refine P.callV0 (M' := mX5_goOn) (d' := d - 1) mlX5_43 mcX5_goOn mvX5_goOn (dq dtX5_readClause 18 rfl) (by omega) (Nat.le_of_ble_eq_true rfl) (by repeat (first | assumption | exact up_s | rw [up_n (by first | assumption | (apply Ne.symm; assumption) | decide | omega)])) rfl ?_
      refine ct_X5_goOn hR hT hi (fun σ1 hR1 hF1 => ?_)
      have hM1 : Ms σ1 mq v := hM.fr hF1 (by simp <;> omega) (by simp <;> omega) (by simp <;> omega)
      have hRq1 := hR1.1
      refine P.aload_n (dq dtX5_readClause 19 rfl) rfl ?_
      refine P.aload_n (dq dtX5_readClause 20 rfl) rfl ?_
      refine P.iload_n (dq dtX5_readClause 21 rfl) rfl ?_
      refine P.callV2 (M' := mX5_readRow) (d' := d - 1) mlX5_73 mcX5_readRow mvX5_readRow (dq dtX5_readClause 22 rfl) (by omega) (Nat.le_of_ble_eq_true rfl) (by repeat (first | assumption | exact up_s | rw [up_n (by first | assumption | (apply Ne.symm; assumption) | decide | omega)])) rfl ?_
      refine ct_X5_readRow hR1 hT (nx_b hi) hM1 hG hqq (by omega) (by omega) (fun σ2 hR2 hM2 hF2 => ?_)
      rw [if_pos (show kd i = 1 ∧ (vl i = 0 ∨ vl i = 1) by omega)] at h
      refine P.zret (dq dtX5_readClause 23 rfl) rfl rfl (pRow_01 _ _ _ _) rfl ?_
      exact h σ2 hR2 hM2 ((hF1.wide (by simp)).trans hF2)
    · refine P.tswIn (off := 30) (t := 56) (dq dtX5_readClause 16 rfl) (by omega) (by omega) (by omega) (by rw [e_26]; rfl) rfl ?_
      refine P.aload_n (dq dtX5_readClause 17 rfl) rfl ?_
      refine P.callV0 (M' := mX5_goOn) (d' := d - 1) mlX5_43 mcX5_goOn mvX5_goOn (dq dtX5_readClause 18 rfl) (by omega) (Nat.le_of_ble_eq_true rfl) (by repeat (first | assumption | exact up_s | rw [up_n (by first | assumption | (apply Ne.symm; assumption) | decide | omega)])) rfl ?_
      refine ct_X5_goOn hR hT hi (fun σ1 hR1 hF1 => ?_)
      have hM1 : Ms σ1 mq v := hM.fr hF1 (by simp <;> omega) (by simp <;> omega) (by simp <;> omega)
      have hRq1 := hR1.1
      refine P.aload_n (dq dtX5_readClause 19 rfl) rfl ?_
      refine P.aload_n (dq dtX5_readClause 20 rfl) rfl ?_
      refine P.iload_n (dq dtX5_readClause 21 rfl) rfl ?_
      refine P.callV2 (M' := mX5_readRow) (d' := d - 1) mlX5_73 mcX5_readRow mvX5_readRow (dq dtX5_readClause 22 rfl) (by omega) (Nat.le_of_ble_eq_true rfl) (by repeat (first | assumption | exact up_s | rw [up_n (by first | assumption | (apply Ne.symm; assumption) | decide | omega)])) rfl ?_
      refine ct_X5_readRow hR1 hT (nx_b hi) hM1 hG hqq (by omega) (by omega) (fun σ2 hR2 hM2 hF2 => ?_)
      rw [if_pos (show kd i = 1 ∧ (vl i = 0 ∨ vl i = 1) by omega)] at h
      refine P.zret (dq dtX5_readClause 23 rfl) rfl rfl (pRow_01 _ _ _ _) rfl ?_
      exact h σ2 hR2 hM2 ((hF1.wide (by simp)).trans hF2)
    · refine P.tswIn (off := 41) (t := 67) (dq dtX5_readClause 16 rfl) (by omega) (by omega) (by omega) (by rw [e_26]; rfl) rfl ?_
      refine P.aload_n (dq dtX5_readClause 24 rfl) rfl ?_
      refine P.callV0 (M' := mX5_goOn) (d' := d - 1) mlX5_43 mcX5_goOn mvX5_goOn (dq dtX5_readClause 25 rfl) (by omega) (Nat.le_of_ble_eq_true rfl) (by repeat (first | assumption | exact up_s | rw [up_n (by first | assumption | (apply Ne.symm; assumption) | decide | omega)])) rfl ?_
      refine ct_X5_goOn hR hT hi (fun σ1 hR1 hF1 => ?_)
      have hM1 : Ms σ1 mq v := hM.fr hF1 (by simp <;> omega) (by simp <;> omega) (by simp <;> omega)
      have hRq1 := hR1.1
      refine P.aload_n (dq dtX5_readClause 26 rfl) rfl ?_
      refine P.aload_n (dq dtX5_readClause 27 rfl) rfl ?_
      refine P.callV1 (M' := mX5_readAxis) (d' := d - 1) mlX5_77 mcX5_readAxis mvX5_readAxis (dq dtX5_readClause 28 rfl) (by omega) (Nat.le_of_ble_eq_true rfl) (by repeat (first | assumption | exact up_s | rw [up_n (by first | assumption | (apply Ne.symm; assumption) | decide | omega)])) rfl ?_
      refine ct_X5_readAxis hR1 hT (nx_b hi) hM1 hG hqq (by omega) (fun σ2 hR2 hM2 hF2 => ?_)
      rw [if_neg (show ¬ (kd i = 1 ∧ (vl i = 0 ∨ vl i = 1)) by omega), if_pos (show kd i = 1 ∧ vl i = 2 by omega)] at h
      refine P.zret (dq dtX5_readClause 29 rfl) rfl rfl pAxis_01 rfl ?_
      exact h σ2 hR2 hM2 ((hF1.wide (by simp)).trans hF2)
    · refine P.tswIn (off := 51) (t := 77) (dq dtX5_readClause 16 rfl) (by omega) (by omega) (by omega) (by rw [e_26]; rfl) rfl ?_
      refine P.aload_n (dq dtX5_readClause 30 rfl) rfl ?_
      refine P.callV0 (M' := mX5_goOn) (d' := d - 1) mlX5_43 mcX5_goOn mvX5_goOn (dq dtX5_readClause 31 rfl) (by omega) (Nat.le_of_ble_eq_true rfl) (by repeat (first | assumption | exact up_s | rw [up_n (by first | assumption | (apply Ne.symm; assumption) | decide | omega)])) rfl ?_
      refine ct_X5_goOn hR hT hi (fun σ1 hR1 hF1 => ?_)
      have hM1 : Ms σ1 mq v := hM.fr hF1 (by simp <;> omega) (by simp <;> omega) (by simp <;> omega)
      have hRq1 := hR1.1
      refine P.aload_n (dq dtX5_readClause 32 rfl) rfl ?_
      refine P.aload_n (dq dtX5_readClause 33 rfl) rfl ?_
      refine P.callV1 (M' := mX5_readOne) (d' := d - 1) mlX5_80 mcX5_readOne mvX5_readOne (dq dtX5_readClause 34 rfl) (by omega) (Nat.le_of_ble_eq_true rfl) (by repeat (first | assumption | exact up_s | rw [up_n (by first | assumption | (apply Ne.symm; assumption) | decide | omega)])) rfl ?_
      refine ct_X5_readOne hR1 hT (nx_b hi) hM1 hG hqq (by omega) (fun σ2 hR2 hM2 hF2 => ?_)
      rw [if_neg (show ¬ (kd i = 1 ∧ (vl i = 0 ∨ vl i = 1)) by omega), if_neg (show ¬ (kd i = 1 ∧ vl i = 2) by omega), if_pos (show kd i = 1 ∧ vl i = 3 by omega)] at h
      refine P.zret (dq dtX5_readClause 35 rfl) rfl rfl pOne_01 rfl ?_
      exact h σ2 hR2 hM2 ((hF1.wide (by simp)).trans hF2)
    · refine P.tswOut (t := 87) (dq dtX5_readClause 16 rfl) (by omega) e_26 rfl ?_
      refine P.iconst (dq dtX5_readClause 36 rfl) ?_
      refine P.zret (dq dtX5_readClause 37 rfl) rfl rfl (by decide) rfl ?_
      rw [if_neg (by omega), if_neg (by omega), if_neg (by omega)] at h
      exact h σ hR hM Fr.rf
  · refine P.iconst (dq dtX5_readClause 7 rfl) ?_
    refine P.zret (dq dtX5_readClause 8 rfl) rfl rfl (by decide) rfl ?_
    rw [if_neg (by omega), if_neg (by omega), if_neg (by omega)] at h
    exact h σ hR hM Fr.rf
theorem lp_readInto {x : CX} {d N : Nat} {Q : PQ} {q mq tq : Nat} {st kd vl : Int → Int} {m : Int} (hT : TKr st kd vl m) (hqq : q + 3 < mq ∨ mq + 2 < q) (hd : 6 ≤ d) : ∀ (t : Nat) (c i : Int) (v : MsV) (σ : PH), GMs v → 1 ≤ c → c + t = 25 → 0 < t → (0 ≤ i ∧ i < m) → Rd σ q st kd vl m i c → Ms σ mq v → (∀ (σ' : PH) (j : Int), Rd σ' q st kd vl m j (pTx (fun f => f) kd vl m t c i v).2.2.2 → Ms σ' mq (pTx (fun f => f) kd vl m t c i v).2.2.1 → Fr σ σ' [q, mq, mq + 1, mq + 2] → Q (some (vI (if (pTx (fun f => f) kd vl m t c i v).1 = 1 then -1 else st (pTx (fun f => f) kd vl m t c i v).2.1))) σ') → P x d mX5_readInto Q (0, 0) 15 [some (vR q), some (vR mq), some (vR tq)] [] N σ := by
  intro t
  induction t with
  | zero => intro c i v σ hG hc ht h0; omega
  | succ t ih =>
    intro c i v σ hG hc ht h0 hi hR hM h
    have hm := hT.1
    have hRq := hR.1
    have g1 := pCl_G (bg := (fun f => f)) (kd := kd) (vl := vl) (m := m) (i := i) hG
    have gb := pCl_b (bg := (fun f => f)) (kd := kd) (vl := vl) (m := m) (i := i) (v := v) hi
    have g01 := pCl_01 (bg := (fun f => f)) (kd := kd) (vl := vl) (m := m) (i := i) (v := v)
    have hx : pTx (fun f => f) kd vl m (t + 1) c i v = if (pCl (fun f => f) kd vl m i v).1 = 0 then (0, (pCl (fun f => f) kd vl m i v).2.1, (pCl (fun f => f) kd vl m i v).2.2, c) else if kd (pCl (fun f => f) kd vl m i v).2.1 = 0 then (1, (pCl (fun f => f) kd vl m i v).2.1, (pCl (fun f => f) kd vl m i v).2.2, c) else if ¬ (kd (pCl (fun f => f) kd vl m i v).2.1 = 3 ∧ vl (pCl (fun f => f) kd vl m i v).2.1 = 59) ∨ c = 24 then (0, (pCl (fun f => f) kd vl m i v).2.1, (pCl (fun f => f) kd vl m i v).2.2, c) else pTx (fun f => f) kd vl m t (c + 1) (nx m (pCl (fun f => f) kd vl m i v).2.1) (pCl (fun f => f) kd vl m i v).2.2 := rfl
    rw [hx] at h
    refine P.aload_n (dq dtX5_readInto 9 rfl) rfl ?_
    refine P.get flX5_28 (dq dtX5_readInto 10 rfl) (by repeat (first | assumption | exact up_s | rw [up_n (by first | assumption | (apply Ne.symm; assumption) | decide | omega)])) (by rfl) ?_
    refine P.bipush (dq dtX5_readInto 11 rfl) rfl ?_
    refine P.icmp_gt (t := 101) (dq dtX5_readInto 12 rfl) rfl (by omega) (by omega) (fun c_21 => ?_) (fun c_21 => ?_)
    · exfalso; omega
    · refine P.aload_n (dq dtX5_readInto 13 rfl) rfl ?_
      refine P.aload_n (dq dtX5_readInto 14 rfl) rfl ?_
      refine P.callV1 (M' := mX5_readClause) (d' := d - 1) mlX5_35 mcX5_readClause mvX5_readClause (dq dtX5_readInto 15 rfl) (by omega) (Nat.le_of_ble_eq_true rfl) (by repeat (first | assumption | exact up_s | rw [up_n (by first | assumption | (apply Ne.symm; assumption) | decide | omega)])) rfl ?_
      refine ct_X5_readClause hR hT hi hM hG hqq (by omega) (fun σ1 hR1 hM1 hF1 => ?_)
      obtain ⟨hRq1, hRa1, hRb1, hRc1⟩ := id hR1
      obtain ⟨u1, u2, u3⟩ := hT.2 _ gb.1 gb.2
      generalize pCl (fun f => f) kd vl m i v = r at *
      refine P.if_ne (t := 42) (dq dtX5_readInto 16 rfl) rfl (by omega) (fun c_29 => ?_) (fun c_29 => ?_)
      · refine P.aload_n (dq dtX5_readInto 23 rfl) rfl ?_
        refine P.get flX5_15 (dq dtX5_readInto 24 rfl) (by repeat (first | assumption | exact up_s | rw [up_n (by first | assumption | (apply Ne.symm; assumption) | decide | omega)])) (by rfl) ?_
        refine P.aload_n (dq dtX5_readInto 25 rfl) rfl ?_
        refine P.get flX5_25 (dq dtX5_readInto 26 rfl) (by repeat (first | assumption | exact up_s | rw [up_n (by first | assumption | (apply Ne.symm; assumption) | decide | omega)])) (by rfl) ?_
        refine P.iald (dq dtX5_readInto 27 rfl) (by repeat (first | assumption | exact up_s | rw [up_n (by first | assumption | (apply Ne.symm; assumption) | decide | omega)])) (by omega) (by omega) (by omega) ?_
        refine P.if_ne (t := 56) (dq dtX5_readInto 28 rfl) rfl (by omega) (fun c_51 => ?_) (fun c_51 => ?_)
        · refine P.aload_n (dq dtX5_readInto 31 rfl) rfl ?_
          refine P.bipush (dq dtX5_readInto 32 rfl) rfl ?_
          refine P.callV1 (M' := mX5_isSign) (d' := d - 1) mlX5_39 mcX5_isSign mvX5_isSign (dq dtX5_readInto 33 rfl) (by omega) (Nat.le_of_ble_eq_true rfl) (by repeat (first | assumption | exact up_s | rw [up_n (by first | assumption | (apply Ne.symm; assumption) | decide | omega)])) rfl ?_
          refine ct_X5_isSign hR1 hT gb (by omega) (fun n_59 => ?_) (fun n_59 => ?_)
          · refine P.if_eq (t := 74) (dq dtX5_readInto 34 rfl) rfl (by omega) (fun h9 => absurd h9 (by decide)) (fun _ => ?_)
            refine P.aload_n (dq dtX5_readInto 35 rfl) rfl ?_
            refine P.get flX5_28 (dq dtX5_readInto 36 rfl) (by repeat (first | assumption | exact up_s | rw [up_n (by first | assumption | (apply Ne.symm; assumption) | decide | omega)])) (by rfl) ?_
            refine P.bipush (dq dtX5_readInto 37 rfl) rfl ?_
            refine P.icmp_ne (t := 84) (dq dtX5_readInto 38 rfl) rfl (by omega) (by omega) (fun c_71 => ?_) (fun c_71 => ?_)
            · refine P.aload_n (dq dtX5_readInto 45 rfl) rfl ?_
              refine P.callV0 (M' := mX5_goOn) (d' := d - 1) mlX5_43 mcX5_goOn mvX5_goOn (dq dtX5_readInto 46 rfl) (by omega) (Nat.le_of_ble_eq_true rfl) (by repeat (first | assumption | exact up_s | rw [up_n (by first | assumption | (apply Ne.symm; assumption) | decide | omega)])) rfl ?_
              refine ct_X5_goOn hR1 hT gb (fun σ2 hR2 hF2 => ?_)
              have hRq2 := hR2.1
              have hM2 : Ms σ2 mq r.2.2 := hM1.fr hF2 (by simp <;> omega) (by simp <;> omega) (by simp <;> omega)
              refine P.aload_n (dq dtX5_readInto 47 rfl) rfl ?_
              refine P.dup (dq dtX5_readInto 48 rfl) rfl ?_
              refine P.get flX5_28 (dq dtX5_readInto 49 rfl) (by repeat (first | assumption | exact up_s | rw [up_n (by first | assumption | (apply Ne.symm; assumption) | decide | omega)])) (by rfl) ?_
              refine P.iconst (dq dtX5_readInto 50 rfl) ?_
              refine P.iadd (dq dtX5_readInto 51 rfl) ?_
              refine P.put flX5_28 rfl (dq dtX5_readInto 52 rfl) (by repeat (first | assumption | exact up_s | rw [up_n (by first | assumption | (apply Ne.symm; assumption) | decide | omega)])) (by exact Nat.le_of_ble_eq_true rfl) rfl rfl rfl rfl rfl ?_
              refine P.goto (t := 15) (dq dtX5_readInto 53 rfl) rfl ?_
              rw [if_neg (by omega), if_neg (by omega), if_neg (by omega)] at h
              refine ih (c + 1) (nx m r.2.1) r.2.2 _ g1 (by omega) (by omega) (by omega) (nx_b gb) hR2.up (hM2.fr (S := [q]) (by repeat (first | assumption | exact Fr.rf | refine Fr.up ?_ (by simp))) (by simp <;> omega) (by simp <;> omega) (by simp <;> omega)) (fun σ' j q1 q2 q3 => h σ' j q1 q2 ((hF1.trans (hF2.wide (by simp))).trans ((Fr.wide (S := [q]) (by repeat (first | assumption | exact Fr.rf | refine Fr.up ?_ (by simp))) (by simp)).trans q3)))
            · refine P.aload_n (dq dtX5_readInto 39 rfl) rfl ?_
              refine P.get flX5_9 (dq dtX5_readInto 40 rfl) (by repeat (first | assumption | exact up_s | rw [up_n (by first | assumption | (apply Ne.symm; assumption) | decide | omega)])) (by rfl) ?_
              refine P.aload_n (dq dtX5_readInto 41 rfl) rfl ?_
              refine P.get flX5_25 (dq dtX5_readInto 42 rfl) (by repeat (first | assumption | exact up_s | rw [up_n (by first | assumption | (apply Ne.symm; assumption) | decide | omega)])) (by rfl) ?_
              refine P.iald (dq dtX5_readInto 43 rfl) (by repeat (first | assumption | exact up_s | rw [up_n (by first | assumption | (apply Ne.symm; assumption) | decide | omega)])) (by omega) (by omega) (by omega) ?_
              refine P.iret (dq dtX5_readInto 44 rfl) rfl rfl rfl ?_
              rw [if_neg (by omega), if_neg (by omega), if_pos (by omega)] at h
              have h9 := h σ1 r.2.1 hR1 hM1 hF1
              exact h9
          · refine P.if_eq (t := 74) (dq dtX5_readInto 34 rfl) rfl (by omega) (fun _ => ?_) (fun h9 => absurd h9 (by decide))
            refine P.aload_n (dq dtX5_readInto 39 rfl) rfl ?_
            refine P.get flX5_9 (dq dtX5_readInto 40 rfl) (by repeat (first | assumption | exact up_s | rw [up_n (by first | assumption | (apply Ne.symm; assumption) | decide | omega)])) (by rfl) ?_
            refine P.aload_n (dq dtX5_readInto 41 rfl) rfl ?_
            refine P.get flX5_25 (dq dtX5_readInto 42 rfl) (by repeat (first | assumption | exact up_s | rw [up_n (by first | assumption | (apply Ne.symm; assumption) | decide | omega)])) (by rfl) ?_
            refine P.iald (dq dtX5_readInto 43 rfl) (by repeat (first | assumption | exact up_s | rw [up_n (by first | assumption | (apply Ne.symm; assumption) | decide | omega)])) (by omega) (by omega) (by omega) ?_
            refine P.iret (dq dtX5_readInto 44 rfl) rfl rfl rfl ?_
            rw [if_neg (by omega), if_neg (by omega), if_pos (by omega)] at h
            have h9 := h σ1 r.2.1 hR1 hM1 hF1
            exact h9
        · refine P.iconst (dq dtX5_readInto 29 rfl) ?_
          refine P.iret (dq dtX5_readInto 30 rfl) rfl rfl rfl ?_
          rw [if_neg (by omega), if_pos (by omega)] at h
          have h9 := h σ1 r.2.1 hR1 hM1 hF1
          exact h9
      · refine P.aload_n (dq dtX5_readInto 17 rfl) rfl ?_
        refine P.get flX5_9 (dq dtX5_readInto 18 rfl) (by repeat (first | assumption | exact up_s | rw [up_n (by first | assumption | (apply Ne.symm; assumption) | decide | omega)])) (by rfl) ?_
        refine P.aload_n (dq dtX5_readInto 19 rfl) rfl ?_
        refine P.get flX5_25 (dq dtX5_readInto 20 rfl) (by repeat (first | assumption | exact up_s | rw [up_n (by first | assumption | (apply Ne.symm; assumption) | decide | omega)])) (by rfl) ?_
        refine P.iald (dq dtX5_readInto 21 rfl) (by repeat (first | assumption | exact up_s | rw [up_n (by first | assumption | (apply Ne.symm; assumption) | decide | omega)])) (by omega) (by omega) (by omega) ?_
        refine P.iret (dq dtX5_readInto 22 rfl) rfl rfl rfl ?_
        rw [if_pos (by omega)] at h
        have h9 := h σ1 r.2.1 hR1 hM1 hF1
        exact h9
