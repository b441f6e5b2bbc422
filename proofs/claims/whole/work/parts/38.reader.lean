/-- the reader at q: starts, kinds, values; how many tokens, the token, the clauses -/
abbrev rdO (q : Nat) (m i c : Int) : PC := pcO 5 [vR (q + 1), vR (q + 2), vR (q + 3), vI m, vI i, vI c]
def Rd (σ : PH) (q : Nat) (st kd vl : Int → Int) (m i c : Int) : Prop := σ q = rdO q m i c ∧ σ (q + 1) = pcI 0 201 st ∧ σ (q + 2) = pcI 0 201 kd ∧ σ (q + 3) = pcI 0 201 vl
theorem Rd.fr {σ σ' : PH} {q : Nat} {st kd vl : Int → Int} {m i c : Int} {S : List Nat} (h : Rd σ q st kd vl m i c) (hF : Fr σ σ' S) (h0 : q ∉ S) (h1 : q + 1 ∉ S) (h2 : q + 2 ∉ S) (h3 : q + 3 ∉ S) : Rd σ' q st kd vl m i c := ⟨(hF _ h0).trans h.1, (hF _ h1).trans h.2.1, (hF _ h2).trans h.2.2.1, (hF _ h3).trans h.2.2.2⟩
theorem Rd.up {σ : PH} {q : Nat} {st kd vl : Int → Int} {m i c i' c' : Int} (h : Rd σ q st kd vl m i c) : Rd (up σ q (rdO q m i' c')) q st kd vl m i' c' := ⟨up_s, (up_n (by omega)).trans h.2.1, (up_n (by omega)).trans h.2.2.1, (up_n (by omega)).trans h.2.2.2⟩
/-- Reader.goOn -/
theorem ct_X5_goOn {x : CM} {d N : Nat} {σ : PH} {Q : PQ} {q : Nat} {st kd vl : Int → Int} {m i c : Int} (hR : Rd σ q st kd vl m i c) (hT : TKr st kd vl m) (hi : 0 ≤ i ∧ i < m) (h : ∀ σ' : PH, Rd σ' q st kd vl m (nx m i) c → Fr σ σ' [q] → Q none σ') : Call x d 0 0 mX5_goOn [vR q] N σ Q := by
  refine Call.of mcX5_goOn (Nat.le_of_ble_eq_true rfl) (fun y hy => ?_)
  subst hy
  obtain ⟨hq, h1, h2, h3⟩ := id hR
  have hm := hT.1
  obtain ⟨t1, t2, t3⟩ := hT.2 i hi.1 hi.2
  unfold nx at h
  refine P.aload_n (dq dtX5_goOn 0 rfl) rfl ?_
  refine P.get flX5_25 (dq dtX5_goOn 1 rfl) (by repeat (first | assumption | exact up_s | rw [up_n (by first | assumption | (apply Ne.symm; assumption) | decide | omega)])) (by rfl) ?_
  refine P.aload_n (dq dtX5_goOn 2 rfl) rfl ?_
  refine P.get flX5_21 (dq dtX5_goOn 3 rfl) (by repeat (first | assumption | exact up_s | rw [up_n (by first | assumption | (apply Ne.symm; assumption) | decide | omega)])) (by rfl) ?_
  refine P.iconst (dq dtX5_goOn 4 rfl) ?_
  refine P.isub (dq dtX5_goOn 5 rfl) ?_
  refine P.icmp_ge (t := 23) (dq dtX5_goOn 6 rfl) rfl (by omega) (by omega) (fun c_10 => ?_) (fun c_10 => ?_)
  · refine P.vret (dq dtX5_goOn 13 rfl) rfl rfl rfl ?_
    first | (rw [if_pos (show i < m - 1 by omega)] at h; exact h _ hR.up (by repeat (first | assumption | exact Fr.rf | refine Fr.up ?_ (by simp)))) | (rw [if_neg (show ¬ i < m - 1 by omega)] at h; exact h _ hR Fr.rf)
  · refine P.aload_n (dq dtX5_goOn 7 rfl) rfl ?_
    refine P.dup (dq dtX5_goOn 8 rfl) rfl ?_
    refine P.get flX5_25 (dq dtX5_goOn 9 rfl) (by repeat (first | assumption | exact up_s | rw [up_n (by first | assumption | (apply Ne.symm; assumption) | decide | omega)])) (by rfl) ?_
    refine P.iconst (dq dtX5_goOn 10 rfl) ?_
    refine P.iadd (dq dtX5_goOn 11 rfl) ?_
    refine P.put flX5_25 rfl (dq dtX5_goOn 12 rfl) (by repeat (first | assumption | exact up_s | rw [up_n (by first | assumption | (apply Ne.symm; assumption) | decide | omega)])) (by exact Nat.le_of_ble_eq_true rfl) rfl rfl rfl rfl rfl ?_
    refine P.vret (dq dtX5_goOn 13 rfl) rfl rfl rfl ?_
    first | (rw [if_pos (show i < m - 1 by omega)] at h; exact h _ hR.up (by repeat (first | assumption | exact Fr.rf | refine Fr.up ?_ (by simp)))) | (rw [if_neg (show ¬ i < m - 1 by omega)] at h; exact h _ hR Fr.rf)
/-- Reader.isSign -/
theorem ct_X5_isSign {x : CM} {d N : Nat} {σ : PH} {Q : PQ} {q : Nat} {st kd vl : Int → Int} {m i c : Int} (hR : Rd σ q st kd vl m i c) (hT : TKr st kd vl m) (hi : 0 ≤ i ∧ i < m) {z : Int} (hz : inR z) (ht : kd i = 3 ∧ vl i = z → Q (some (vI 1)) σ) (hf : ¬ (kd i = 3 ∧ vl i = z) → Q (some (vI 0)) σ) : Call x d 0 0 mX5_isSign [vR q, vI z] N σ Q := by
  refine Call.of mcX5_isSign (Nat.le_of_ble_eq_true rfl) (fun y hy => ?_)
  subst hy
  obtain ⟨hq, h1, h2, h3⟩ := id hR
  have hm := hT.1
  obtain ⟨t1, t2, t3⟩ := hT.2 i hi.1 hi.2
  refine P.aload_n (dq dtX5_isSign 0 rfl) rfl ?_
  refine P.get flX5_15 (dq dtX5_isSign 1 rfl) (by repeat (first | assumption | exact up_s | rw [up_n (by first | assumption | (apply Ne.symm; assumption) | decide | omega)])) (by rfl) ?_
  refine P.aload_n (dq dtX5_isSign 2 rfl) rfl ?_
  refine P.get flX5_25 (dq dtX5_isSign 3 rfl) (by repeat (first | assumption | exact up_s | rw [up_n (by first | assumption | (apply Ne.symm; assumption) | decide | omega)])) (by rfl) ?_
  refine P.iald (dq dtX5_isSign 4 rfl) (by repeat (first | assumption | exact up_s | rw [up_n (by first | assumption | (apply Ne.symm; assumption) | decide | omega)])) (by omega) (by omega) (by omega) ?_
  refine P.iconst (dq dtX5_isSign 5 rfl) ?_
  refine P.icmp_ne (t := 30) (dq dtX5_isSign 6 rfl) rfl (by omega) (by omega) (fun c_10 => ?_) (fun c_10 => ?_)
  · refine P.iconst (dq dtX5_isSign 16 rfl) ?_
    refine P.zret (dq dtX5_isSign 17 rfl) rfl rfl (by decide) rfl ?_
    first | exact ht (by omega) | exact hf (by omega)
  · refine P.aload_n (dq dtX5_isSign 7 rfl) rfl ?_
    refine P.get flX5_18 (dq dtX5_isSign 8 rfl) (by repeat (first | assumption | exact up_s | rw [up_n (by first | assumption | (apply Ne.symm; assumption) | decide | omega)])) (by rfl) ?_
    refine P.aload_n (dq dtX5_isSign 9 rfl) rfl ?_
    refine P.get flX5_25 (dq dtX5_isSign 10 rfl) (by repeat (first | assumption | exact up_s | rw [up_n (by first | assumption | (apply Ne.symm; assumption) | decide | omega)])) (by rfl) ?_
    refine P.iald (dq dtX5_isSign 11 rfl) (by repeat (first | assumption | exact up_s | rw [up_n (by first | assumption | (apply Ne.symm; assumption) | decide | omega)])) (by omega) (by omega) (by omega) ?_
    refine P.iload_n (dq dtX5_isSign 12 rfl) rfl ?_
    refine P.icmp_ne (t := 30) (dq dtX5_isSign 13 rfl) rfl (by omega) (by omega) (fun c_23 => ?_) (fun c_23 => ?_)
    · refine P.iconst (dq dtX5_isSign 16 rfl) ?_
      refine P.zret (dq dtX5_isSign 17 rfl) rfl rfl (by decide) rfl ?_
      first | exact ht (by omega) | exact hf (by omega)
    · refine P.iconst (dq dtX5_isSign 14 rfl) ?_
      refine P.goto (t := 31) (dq dtX5_isSign 15 rfl) rfl ?_
      refine P.zret (dq dtX5_isSign 17 rfl) rfl rfl (by decide) rfl ?_
      first | exact ht (by omega) | exact hf (by omega)
/-- Reader.readNumber -/
theorem ct_X5_readNumber {x : CM} {d N : Nat} {σ : PH} {Q : PQ} {q : Nat} {st kd vl : Int → Int} {m i c : Int} (hR : Rd σ q st kd vl m i c) (hT : TKr st kd vl m) (hi : 0 ≤ i ∧ i < m) (hd : 1 ≤ d) {lo hi2 : Int} (hlo : inR lo ∧ 0 ≤ lo) (hhi : inR hi2) (h : ∀ σ' : PH, Rd σ' q st kd vl m (pNum kd vl m lo hi2 i).2 c → Fr σ σ' [q] → Q (some (vI (pNum kd vl m lo hi2 i).1)) σ') : Call x d 0 0 mX5_readNumber [vR q, vI lo, vI hi2] N σ Q := by
  refine Call.of mcX5_readNumber (Nat.le_of_ble_eq_true rfl) (fun y hy => ?_)
  subst hy
  obtain ⟨hq, h1, h2, h3⟩ := id hR
  have hm := hT.1
  obtain ⟨t1, t2, t3⟩ := hT.2 i hi.1 hi.2
  unfold pNum at h
  refine P.aload_n (dq dtX5_readNumber 0 rfl) rfl ?_
  refine P.get flX5_18 (dq dtX5_readNumber 1 rfl) (by repeat (first | assumption | exact up_s | rw [up_n (by first | assumption | (apply Ne.symm; assumption) | decide | omega)])) (by rfl) ?_
  refine P.aload_n (dq dtX5_readNumber 2 rfl) rfl ?_
  refine P.get flX5_25 (dq dtX5_readNumber 3 rfl) (by repeat (first | assumption | exact up_s | rw [up_n (by first | assumption | (apply Ne.symm; assumption) | decide | omega)])) (by rfl) ?_
  refine P.iald (dq dtX5_readNumber 4 rfl) (by repeat (first | assumption | exact up_s | rw [up_n (by first | assumption | (apply Ne.symm; assumption) | decide | omega)])) (by omega) (by omega) (by omega) ?_
  refine P.istore_n (dq dtX5_readNumber 5 rfl) (by decide) rfl rfl ?_
  refine P.aload_n (dq dtX5_readNumber 6 rfl) rfl ?_
  refine P.get flX5_15 (dq dtX5_readNumber 7 rfl) (by repeat (first | assumption | exact up_s | rw [up_n (by first | assumption | (apply Ne.symm; assumption) | decide | omega)])) (by rfl) ?_
  refine P.aload_n (dq dtX5_readNumber 8 rfl) rfl ?_
  refine P.get flX5_25 (dq dtX5_readNumber 9 rfl) (by repeat (first | assumption | exact up_s | rw [up_n (by first | assumption | (apply Ne.symm; assumption) | decide | omega)])) (by rfl) ?_
  refine P.iald (dq dtX5_readNumber 10 rfl) (by repeat (first | assumption | exact up_s | rw [up_n (by first | assumption | (apply Ne.symm; assumption) | decide | omega)])) (by omega) (by omega) (by omega) ?_
  refine P.iconst (dq dtX5_readNumber 11 rfl) ?_
  refine P.icmp_ne (t := 33) (dq dtX5_readNumber 12 rfl) rfl (by omega) (by omega) (fun c_20 => ?_) (fun c_20 => ?_)
  · refine P.iconst (dq dtX5_readNumber 19 rfl) ?_
    refine P.iret (dq dtX5_readNumber 20 rfl) rfl rfl rfl ?_
    rw [if_neg (by omega)] at h
    exact h _ hR Fr.rf
  · refine P.iload_n (dq dtX5_readNumber 13 rfl) rfl ?_
    refine P.iload_n (dq dtX5_readNumber 14 rfl) rfl ?_
    refine P.icmp_lt (t := 33) (dq dtX5_readNumber 15 rfl) rfl (by omega) (by omega) (fun c_25 => ?_) (fun c_25 => ?_)
    · refine P.iconst (dq dtX5_readNumber 19 rfl) ?_
      refine P.iret (dq dtX5_readNumber 20 rfl) rfl rfl rfl ?_
      rw [if_neg (by omega)] at h
      exact h _ hR Fr.rf
    · refine P.iload_n (dq dtX5_readNumber 16 rfl) rfl ?_
      refine P.iload_n (dq dtX5_readNumber 17 rfl) rfl ?_
      refine P.icmp_le (t := 35) (dq dtX5_readNumber 18 rfl) rfl (by omega) (by omega) (fun c_30 => ?_) (fun c_30 => ?_)
      · refine P.aload_n (dq dtX5_readNumber 21 rfl) rfl ?_
        refine P.callV0 (M' := mX5_goOn) (d' := d - 1) mlX5_43 mcX5_goOn mvX5_goOn (dq dtX5_readNumber 22 rfl) (by omega) (Nat.le_of_ble_eq_true rfl) (by repeat (first | assumption | exact up_s | rw [up_n (by first | assumption | (apply Ne.symm; assumption) | decide | omega)])) rfl ?_
        refine ct_X5_goOn hR hT hi (fun σ1 hR1 hF1 => ?_)
        refine P.iload_n (dq dtX5_readNumber 23 rfl) rfl ?_
        refine P.iret (dq dtX5_readNumber 24 rfl) rfl rfl rfl ?_
        rw [if_pos (by omega)] at h
        exact h _ hR1 hF1
      · refine P.iconst (dq dtX5_readNumber 19 rfl) ?_
        refine P.iret (dq dtX5_readNumber 20 rfl) rfl rfl rfl ?_
        rw [if_neg (by omega)] at h
        exact h _ hR Fr.rf
theorem re_mid {x : CX} {d N : Nat} {σ : PH} {Q : PQ} {q mq : Nat} {st kd vl : Int → Int} {m i c : Int} {v : MsV} (hR : Rd σ q st kd vl m i c) (hT : TKr st kd vl m) (hi : 0 ≤ i ∧ i < m) (hM : Ms σ mq v) (hG : GMs v) (hqq : q + 3 < mq ∨ mq + 2 < q) (hd : 3 ≤ d) {k w b : Int} (hk : 0 ≤ k ∧ k < v.1) (hw : w = 0 ∨ w = 1) (hb : b = 0 ∨ b = 1) (h0 : (pNum kd vl m 0 40 i).1 = -1 → ∀ σ' : PH, Rd σ' q st kd vl m (pNum kd vl m 0 40 i).2 c → Ms σ' mq v → Fr σ σ' [q, mq, mq + 1, mq + 2] → Q (some (vI 0)) σ')
    (h1 : (pNum kd vl m 0 40 i).1 ≠ -1 → ∀ σ' : PH, Rd σ' q st kd vl m (pNum kd vl m 0 40 i).2 c → Ms σ' mq (addM v (k * 2 + w) (if b = 1 then -(pNum kd vl m 0 40 i).1 else (pNum kd vl m 0 40 i).1)) → Fr σ σ' [q, mq, mq + 1, mq + 2] → Q (some (vI 1)) σ') : P x d mX5_readErr Q (0, 0) 17 [some (vR q), some (vR mq), some (vI k), some (vI w), some (vI b), none] [] N σ := by
  obtain ⟨hq, a1, a2, a3⟩ := id hR
  have hm := hT.1
  have hv := hG.1
  have hMq := hM.1
  have hgc := hG.2.2 (k * 2 + w) (by omega) (by omega)
  refine P.aload_n (dq dtX5_readErr 8 rfl) rfl ?_
  refine P.iconst (dq dtX5_readErr 9 rfl) ?_
  refine P.bipush (dq dtX5_readErr 10 rfl) rfl ?_
  refine P.callV2 (M' := mX5_readNumber) (d' := d - 1) mlX5_83 mcX5_readNumber mvX5_readNumber (dq dtX5_readErr 11 rfl) (by omega) (Nat.le_of_ble_eq_true rfl) (by repeat (first | assumption | exact up_s | rw [up_n (by first | assumption | (apply Ne.symm; assumption) | decide | omega)])) rfl ?_
  refine ct_X5_readNumber hR hT hi (by omega) (by omega) (by omega) (fun σ1 hR1 hF1 => ?_)
  have hM1 : Ms σ1 mq v := hM.fr hF1 (by simp <;> omega) (by simp <;> omega) (by simp <;> omega)
  have hnv := pNum_v (kd := kd) (vl := vl) (m := m) (lo := 0) (hi := 40) (i := i)
  have hnb : inR (pNum kd vl m 0 40 i).1 := by { by_cases e : (pNum kd vl m 0 40 i).1 = -1; rw [e]; omega; have := hnv e; omega }
  generalize (pNum kd vl m 0 40 i).1 = z at *
  have hMq1 := hM1.1
  refine P.istore (dq dtX5_readErr 12 rfl) (by decide) rfl rfl ?_
  refine P.iload (dq dtX5_readErr 13 rfl) rfl ?_
  refine P.iconst (dq dtX5_readErr 14 rfl) ?_
  refine P.icmp_ne (t := 34) (dq dtX5_readErr 15 rfl) rfl (by omega) (by omega) (fun c_29 => ?_) (fun c_29 => ?_)
  · refine P.aload_n (dq dtX5_readErr 18 rfl) rfl ?_
    refine P.iload_n (dq dtX5_readErr 19 rfl) rfl ?_
    refine P.iload_n (dq dtX5_readErr 20 rfl) rfl ?_
    refine P.iload (dq dtX5_readErr 21 rfl) rfl ?_
    refine P.if_eq (t := 48) (dq dtX5_readErr 22 rfl) rfl (by omega) (fun c_39 => ?_) (fun c_39 => ?_)
    · refine P.iload (dq dtX5_readErr 26 rfl) rfl ?_
      refine P.callV3 (M' := mX2_add) (d' := d - 1) mlX5_102 mcX2_add mvX2_add (dq dtX5_readErr 27 rfl) (by omega) (Nat.le_of_ble_eq_true rfl) (by repeat (first | assumption | exact up_s | rw [up_n (by first | assumption | (apply Ne.symm; assumption) | decide | omega)])) rfl ?_
      refine ct_X2_add hM1 (by omega) (by omega) (by omega) (by omega) hgc.1 (fun σ2 hM2 hF2 => ?_)
      refine P.pop (dq dtX5_readErr 28 rfl) rfl ?_
      refine P.iconst (dq dtX5_readErr 29 rfl) ?_
      refine P.zret (dq dtX5_readErr 30 rfl) rfl rfl (by decide) rfl ?_
      first | (rw [if_pos (show b = 1 by omega)] at h1; exact h1 (by omega) σ2 (hR1.fr hF2 (by simp <;> omega) (by simp <;> omega) (by simp <;> omega) (by simp <;> omega)) hM2 ((hF1.wide (by simp)).trans (hF2.wide (by simp)))) | (rw [if_neg (show ¬ b = 1 by omega)] at h1; exact h1 (by omega) σ2 (hR1.fr hF2 (by simp <;> omega) (by simp <;> omega) (by simp <;> omega) (by simp <;> omega)) hM2 ((hF1.wide (by simp)).trans (hF2.wide (by simp))))
    · refine P.iload (dq dtX5_readErr 23 rfl) rfl ?_
      refine P.ineg (dq dtX5_readErr 24 rfl) ?_
      refine P.goto (t := 50) (dq dtX5_readErr 25 rfl) rfl ?_
      refine P.callV3 (M' := mX2_add) (d' := d - 1) mlX5_102 mcX2_add mvX2_add (dq dtX5_readErr 27 rfl) (by omega) (Nat.le_of_ble_eq_true rfl) (by repeat (first | assumption | exact up_s | rw [up_n (by first | assumption | (apply Ne.symm; assumption) | decide | omega)])) rfl ?_
      refine ct_X2_add hM1 (by omega) (by omega) (by omega) (by omega) hgc.1 (fun σ2 hM2 hF2 => ?_)
      refine P.pop (dq dtX5_readErr 28 rfl) rfl ?_
      refine P.iconst (dq dtX5_readErr 29 rfl) ?_
      refine P.zret (dq dtX5_readErr 30 rfl) rfl rfl (by decide) rfl ?_
      first | (rw [if_pos (show b = 1 by omega)] at h1; exact h1 (by omega) σ2 (hR1.fr hF2 (by simp <;> omega) (by simp <;> omega) (by simp <;> omega) (by simp <;> omega)) hM2 ((hF1.wide (by simp)).trans (hF2.wide (by simp)))) | (rw [if_neg (show ¬ b = 1 by omega)] at h1; exact h1 (by omega) σ2 (hR1.fr hF2 (by simp <;> omega) (by simp <;> omega) (by simp <;> omega) (by simp <;> omega)) hM2 ((hF1.wide (by simp)).trans (hF2.wide (by simp))))
  · refine P.iconst (dq dtX5_readErr 16 rfl) ?_
    refine P.zret (dq dtX5_readErr 17 rfl) rfl rfl (by decide) rfl ?_
    exact h0 (by omega) σ1 hR1 hM1 (hF1.wide (by simp))
/-- Reader.readErr -/
theorem ct_X5_readErr {x : CM} {d N : Nat} {σ : PH} {Q : PQ} {q mq : Nat} {st kd vl : Int → Int} {m i c : Int} {v : MsV} (hR : Rd σ q st kd vl m i c) (hT : TKr st kd vl m) (hi : 0 ≤ i ∧ i < m) (hM : Ms σ mq v) (hG : GMs v) (hqq : q + 3 < mq ∨ mq + 2 < q) (hd : 3 ≤ d) {k w : Int} (hk : 0 ≤ k ∧ k < v.1) (hw : w = 0 ∨ w = 1) (h : ∀ σ' : PH, Rd σ' q st kd vl m (pErr kd vl m k w i v).2.1 c → Ms σ' mq (pErr kd vl m k w i v).2.2 → Fr σ σ' [q, mq, mq + 1, mq + 2] → Q (some (vI (pErr kd vl m k w i v).1)) σ') : Call x d 0 0 mX5_readErr [vR q, vR mq, vI k, vI w] N σ Q := by
  refine Call.of mcX5_readErr (Nat.le_of_ble_eq_true rfl) (fun y hy => ?_)
  subst hy
  obtain ⟨hq, h1, h2, h3⟩ := id hR
  have hm := hT.1
  obtain ⟨t1, t2, t3⟩ := hT.2 i hi.1 hi.2
  unfold pErr at h
  refine P.aload_n (dq dtX5_readErr 0 rfl) rfl ?_
  refine P.bipush (dq dtX5_readErr 1 rfl) rfl ?_
  refine P.callV1 (M' := mX5_isSign) (d' := d - 1) mlX5_39 mcX5_isSign mvX5_isSign (dq dtX5_readErr 2 rfl) (by omega) (Nat.le_of_ble_eq_true rfl) (by repeat (first | assumption | exact up_s | rw [up_n (by first | assumption | (apply Ne.symm; assumption) | decide | omega)])) rfl ?_
  refine ct_X5_isSign hR hT hi (by omega) (fun n_3 => ?_) (fun n_3 => ?_)
  · refine P.istore (dq dtX5_readErr 3 rfl) (by decide) rfl rfl ?_
    refine P.iload (dq dtX5_readErr 4 rfl) rfl ?_
    refine P.if_eq (t := 17) (dq dtX5_readErr 5 rfl) rfl (by omega) (fun h9 => absurd h9 (by decide)) (fun _ => ?_)
    refine P.aload_n (dq dtX5_readErr 6 rfl) rfl ?_
    refine P.callV0 (M' := mX5_goOn) (d' := d - 1) mlX5_43 mcX5_goOn mvX5_goOn (dq dtX5_readErr 7 rfl) (by omega) (Nat.le_of_ble_eq_true rfl) (by repeat (first | assumption | exact up_s | rw [up_n (by first | assumption | (apply Ne.symm; assumption) | decide | omega)])) rfl ?_
    refine ct_X5_goOn hR hT hi (fun σ1 hR1 hF1 => ?_)
    have eS : pSg kd vl m i = nx m i := if_pos n_3
    rw [eS, if_pos n_3] at h
    have hM1 : Ms σ1 mq v := hM.fr hF1 (by simp <;> omega) (by simp <;> omega) (by simp <;> omega)
    first | (refine P.keep [0, 1, 2, 3, 4] ?_; refine re_mid hR1 hT (nx_b hi) hM1 hG hqq hd hk hw (by decide) (fun h9 σ2 q1 q2 q3 => ?_) (fun h9 σ2 q1 q2 q3 => ?_); (rw [if_pos h9] at h; exact h σ2 q1 q2 ((hF1.wide (by simp)).trans q3)); (rw [if_neg h9] at h; exact h σ2 q1 q2 ((hF1.wide (by simp)).trans q3))) | (have eS : pSg kd vl m i = i := if_neg n_3; rw [eS, if_neg n_3] at h; refine P.keep [0, 1, 2, 3, 4] ?_; refine re_mid hR hT hi hM hG hqq hd hk hw (by decide) (fun h9 σ2 q1 q2 q3 => ?_) (fun h9 σ2 q1 q2 q3 => ?_); (rw [if_pos h9] at h; exact h σ2 q1 q2 q3); (rw [if_neg h9] at h; exact h σ2 q1 q2 q3))
  · refine P.istore (dq dtX5_readErr 3 rfl) (by decide) rfl rfl ?_
    refine P.iload (dq dtX5_readErr 4 rfl) rfl ?_
    refine P.if_eq (t := 17) (dq dtX5_readErr 5 rfl) rfl (by omega) (fun _ => ?_) (fun h9 => absurd h9 (by decide))
    first | (refine P.keep [0, 1, 2, 3, 4] ?_; refine re_mid hR1 hT (nx_b hi) hM1 hG hqq hd hk hw (by decide) (fun h9 σ2 q1 q2 q3 => ?_) (fun h9 σ2 q1 q2 q3 => ?_); (rw [if_pos h9] at h; exact h σ2 q1 q2 ((hF1.wide (by simp)).trans q3)); (rw [if_neg h9] at h; exact h σ2 q1 q2 ((hF1.wide (by simp)).trans q3))) | (have eS : pSg kd vl m i = i := if_neg n_3; rw [eS, if_neg n_3] at h; refine P.keep [0, 1, 2, 3, 4] ?_; refine re_mid hR hT hi hM hG hqq hd hk hw (by decide) (fun h9 σ2 q1 q2 q3 => ?_) (fun h9 σ2 q1 q2 q3 => ?_); (rw [if_pos h9] at h; exact h σ2 q1 q2 q3); (rw [if_neg h9] at h; exact h σ2 q1 q2 q3))
