/-- Measured.add -/
theorem ct_X2_add {x : CM} {d N : Nat} {σ : PH} {Q : PQ} {q : Nat} {v : MsV} (hM : Ms σ q v) (hp : 0 ≤ v.1 ∧ v.1 ≤ 8) (hd : 2 ≤ d) {k w : Int} (hk : 0 ≤ k ∧ k < v.1) (hw : 0 ≤ w ∧ w < 2) (hcn : 0 ≤ v.2.2.1 (k * 2 + w) ∧ v.2.2.1 (k * 2 + w) ≤ 6) {z : Int} (h : ∀ σ' : PH, Ms σ' q (v.1, v.2.1, addC v.2.2.1 (k * 2 + w), addE v.2.2.1 v.2.2.2 (k * 2 + w) z) → Fr σ σ' [q, q + 1, q + 2] → Q (some (vI (addC v.2.2.1 (k * 2 + w) (k * 2 + w)))) σ') : Call x d 0 0 mX2_add [vR q, vI k, vI w, vI z] N σ Q := by
  refine Call.of mcX2_add (Nat.le_of_ble_eq_true rfl) (fun y hy => ?_)
  subst hy
  obtain ⟨p, s, cn, er⟩ := v
  obtain ⟨hq, hc, he⟩ := hM
  dsimp only at hcn hq hc he hp hk h
  have g1 : q + 1 ≠ q + 2 := by omega
  refine P.aload_n (dq dtX2_add 0 rfl) rfl ?_
  refine P.iload_n (dq dtX2_add 1 rfl) rfl ?_
  refine P.iload_n (dq dtX2_add 2 rfl) rfl ?_
  refine P.callV2 (M' := mX2_slotOf) (d' := d - 1) mlX2_34 mcX2_slotOf mvX2_slotOf (dq dtX2_add 3 rfl) (by omega) (Nat.le_of_ble_eq_true rfl) (by repeat (first | assumption | exact up_s | rw [up_n (by first | assumption | (apply Ne.symm; assumption) | decide | omega)])) rfl ?_
  refine ct_X2_slotOf (by repeat (first | assumption | exact up_s | rw [up_n (by first | assumption | (apply Ne.symm; assumption) | decide | omega)])) (by omega) (by omega) (by omega) (fun n_3 => ?_) (fun n_3 => absurd (by omega) n_3)
  refine P.istore (dq dtX2_add 4 rfl) (by decide) rfl rfl ?_
  refine P.iload (dq dtX2_add 5 rfl) rfl ?_
  refine P.if_ge (t := 15) (dq dtX2_add 6 rfl) rfl (by omega) (fun c_10 => ?_) (fun c_10 => ?_)
  · have ht : 0 ≤ k * 2 + w ∧ k * 2 + w < 16 := by omega
    generalize k * 2 + w = t at *
    refine P.iload (dq dtX2_add 9 rfl) rfl ?_
    refine P.bipush (dq dtX2_add 10 rfl) rfl ?_
    refine P.imul (dq dtX2_add 11 rfl) ?_
    refine P.istore (dq dtX2_add 12 rfl) (by decide) rfl rfl ?_
    refine P.aload_n (dq dtX2_add 13 rfl) rfl ?_
    refine P.get flX2_18 (dq dtX2_add 14 rfl) (by repeat (first | assumption | exact up_s | rw [up_n (by first | assumption | (apply Ne.symm; assumption) | decide | omega)])) (by rfl) ?_
    refine P.iload (dq dtX2_add 15 rfl) rfl ?_
    refine P.iald (dq dtX2_add 16 rfl) (by repeat (first | assumption | exact up_s | rw [up_n (by first | assumption | (apply Ne.symm; assumption) | decide | omega)])) (by omega) (by omega) (by omega) ?_
    refine P.bipush (dq dtX2_add 17 rfl) rfl ?_
    refine P.icmp_lt (t := 60) (dq dtX2_add 18 rfl) rfl (by omega) (by omega) (fun c_31 => ?_) (fun c_31 => ?_)
    · refine P.aload_n (dq dtX2_add 34 rfl) rfl ?_
      refine P.get flX2_22 (dq dtX2_add 35 rfl) (by repeat (first | assumption | exact up_s | rw [up_n (by first | assumption | (apply Ne.symm; assumption) | decide | omega)])) (by rfl) ?_
      refine P.iload (dq dtX2_add 36 rfl) rfl ?_
      refine P.aload_n (dq dtX2_add 37 rfl) rfl ?_
      refine P.get flX2_18 (dq dtX2_add 38 rfl) (by repeat (first | assumption | exact up_s | rw [up_n (by first | assumption | (apply Ne.symm; assumption) | decide | omega)])) (by rfl) ?_
      refine P.iload (dq dtX2_add 39 rfl) rfl ?_
      refine P.iald (dq dtX2_add 40 rfl) (by repeat (first | assumption | exact up_s | rw [up_n (by first | assumption | (apply Ne.symm; assumption) | decide | omega)])) (by omega) (by omega) (by omega) ?_
      try rw [show upI cn t 5 t = 5 from upI_s]
      refine P.iadd (dq dtX2_add 41 rfl) ?_
      refine P.iload_n (dq dtX2_add 42 rfl) rfl ?_
      refine P.iast (dq dtX2_add 43 rfl) (by repeat (first | assumption | exact up_s | rw [up_n (by first | assumption | (apply Ne.symm; assumption) | decide | omega)])) (by omega) (by omega) (by omega) ?_
      refine P.aload_n (dq dtX2_add 44 rfl) rfl ?_
      refine P.get flX2_18 (dq dtX2_add 45 rfl) (by repeat (first | assumption | exact up_s | rw [up_n (by first | assumption | (apply Ne.symm; assumption) | decide | omega)])) (by rfl) ?_
      refine P.iload (dq dtX2_add 46 rfl) rfl ?_
      refine P.dup2 (dq dtX2_add 47 rfl) rfl rfl ?_
      refine P.iald (dq dtX2_add 48 rfl) (by repeat (first | assumption | exact up_s | rw [up_n (by first | assumption | (apply Ne.symm; assumption) | decide | omega)])) (by omega) (by omega) (by omega) ?_
      try rw [show upI cn t 5 t = 5 from upI_s]
      refine P.iconst (dq dtX2_add 49 rfl) ?_
      refine P.iadd (dq dtX2_add 50 rfl) ?_
      refine P.iast (dq dtX2_add 51 rfl) (by repeat (first | assumption | exact up_s | rw [up_n (by first | assumption | (apply Ne.symm; assumption) | decide | omega)])) (by omega) (by omega) (by omega) ?_
      refine P.aload_n (dq dtX2_add 52 rfl) rfl ?_
      refine P.get flX2_18 (dq dtX2_add 53 rfl) (by repeat (first | assumption | exact up_s | rw [up_n (by first | assumption | (apply Ne.symm; assumption) | decide | omega)])) (by rfl) ?_
      refine P.iload (dq dtX2_add 54 rfl) rfl ?_
      refine P.iald (dq dtX2_add 55 rfl) (by repeat (first | assumption | exact up_s | rw [up_n (by first | assumption | (apply Ne.symm; assumption) | decide | omega)])) (by omega) (by omega) (by omega) ?_
      refine P.iret (dq dtX2_add 56 rfl) rfl rfl rfl ?_
      first | (have eC : addC cn t = upI cn t (cn t + 1) := by { unfold addC; rw [if_neg (by omega)] }; have eE : addE cn er t z = upI er (t * 6 + cn t) z := by { unfold addE; rw [if_neg (by omega)] }; rw [eC, eE] at h; exact h _ ⟨(by repeat (first | assumption | exact up_s | rw [up_n (by first | assumption | (apply Ne.symm; assumption) | decide | omega)])), (by repeat (first | assumption | exact up_s | rw [up_n (by first | assumption | (apply Ne.symm; assumption) | decide | omega)])), (by repeat (first | assumption | exact up_s | rw [up_n (by first | assumption | (apply Ne.symm; assumption) | decide | omega)]))⟩ (by repeat (first | assumption | exact Fr.rf | refine Fr.up ?_ (by simp)))) | (have eC : addC cn t = upI (upI cn t 5) t (5 + 1) := by { unfold addC; rw [if_pos (by omega)]; funext i; simp only [upI]; split <;> rfl }; have eE : addE cn er t z = upI (cpI er er (t * 6 + 1) (t * 6) 5) (t * 6 + 5) z := by { unfold addE; rw [if_pos (by omega)] }; rw [eC, eE] at h; exact h _ ⟨(by repeat (first | assumption | exact up_s | rw [up_n (by first | assumption | (apply Ne.symm; assumption) | decide | omega)])), (by repeat (first | assumption | exact up_s | rw [up_n (by first | assumption | (apply Ne.symm; assumption) | decide | omega)])), (by repeat (first | assumption | exact up_s | rw [up_n (by first | assumption | (apply Ne.symm; assumption) | decide | omega)]))⟩ (by repeat (first | assumption | exact Fr.rf | refine Fr.up ?_ (by simp))))
    · refine P.aload_n (dq dtX2_add 19 rfl) rfl ?_
      refine P.get flX2_22 (dq dtX2_add 20 rfl) (by repeat (first | assumption | exact up_s | rw [up_n (by first | assumption | (apply Ne.symm; assumption) | decide | omega)])) (by rfl) ?_
      refine P.iload (dq dtX2_add 21 rfl) rfl ?_
      refine P.iconst (dq dtX2_add 22 rfl) ?_
      refine P.iadd (dq dtX2_add 23 rfl) ?_
      refine P.aload_n (dq dtX2_add 24 rfl) rfl ?_
      refine P.get flX2_22 (dq dtX2_add 25 rfl) (by repeat (first | assumption | exact up_s | rw [up_n (by first | assumption | (apply Ne.symm; assumption) | decide | omega)])) (by rfl) ?_
      refine P.iload (dq dtX2_add 26 rfl) rfl ?_
      refine P.iconst (dq dtX2_add 27 rfl) ?_
      refine P.copyI (dq dtX2_add 28 rfl) mlX2_38 (by repeat (first | assumption | exact up_s | rw [up_n (by first | assumption | (apply Ne.symm; assumption) | decide | omega)])) (by repeat (first | assumption | exact up_s | rw [up_n (by first | assumption | (apply Ne.symm; assumption) | decide | omega)])) (by omega) (by omega) (by omega) (by omega) (by omega) (by omega) (by omega) (by omega) (Nat.le_of_ble_eq_true rfl) ?_
      refine P.aload_n (dq dtX2_add 29 rfl) rfl ?_
      refine P.get flX2_18 (dq dtX2_add 30 rfl) (by repeat (first | assumption | exact up_s | rw [up_n (by first | assumption | (apply Ne.symm; assumption) | decide | omega)])) (by rfl) ?_
      refine P.iload (dq dtX2_add 31 rfl) rfl ?_
      refine P.iconst (dq dtX2_add 32 rfl) ?_
      refine P.iast (dq dtX2_add 33 rfl) (by repeat (first | assumption | exact up_s | rw [up_n (by first | assumption | (apply Ne.symm; assumption) | decide | omega)])) (by omega) (by omega) (by omega) ?_
      refine P.aload_n (dq dtX2_add 34 rfl) rfl ?_
      refine P.get flX2_22 (dq dtX2_add 35 rfl) (by repeat (first | assumption | exact up_s | rw [up_n (by first | assumption | (apply Ne.symm; assumption) | decide | omega)])) (by rfl) ?_
      refine P.iload (dq dtX2_add 36 rfl) rfl ?_
      refine P.aload_n (dq dtX2_add 37 rfl) rfl ?_
      refine P.get flX2_18 (dq dtX2_add 38 rfl) (by repeat (first | assumption | exact up_s | rw [up_n (by first | assumption | (apply Ne.symm; assumption) | decide | omega)])) (by rfl) ?_
      refine P.iload (dq dtX2_add 39 rfl) rfl ?_
      refine P.iald (dq dtX2_add 40 rfl) (by repeat (first | assumption | exact up_s | rw [up_n (by first | assumption | (apply Ne.symm; assumption) | decide | omega)])) (by omega) (by omega) (by omega) ?_
      try rw [show upI cn t 5 t = 5 from upI_s]
      refine P.iadd (dq dtX2_add 41 rfl) ?_
      refine P.iload_n (dq dtX2_add 42 rfl) rfl ?_
      refine P.iast (dq dtX2_add 43 rfl) (by repeat (first | assumption | exact up_s | rw [up_n (by first | assumption | (apply Ne.symm; assumption) | decide | omega)])) (by omega) (by omega) (by omega) ?_
      refine P.aload_n (dq dtX2_add 44 rfl) rfl ?_
      refine P.get flX2_18 (dq dtX2_add 45 rfl) (by repeat (first | assumption | exact up_s | rw [up_n (by first | assumption | (apply Ne.symm; assumption) | decide | omega)])) (by rfl) ?_
      refine P.iload (dq dtX2_add 46 rfl) rfl ?_
      refine P.dup2 (dq dtX2_add 47 rfl) rfl rfl ?_
      refine P.iald (dq dtX2_add 48 rfl) (by repeat (first | assumption | exact up_s | rw [up_n (by first | assumption | (apply Ne.symm; assumption) | decide | omega)])) (by omega) (by omega) (by omega) ?_
      try rw [show upI cn t 5 t = 5 from upI_s]
      refine P.iconst (dq dtX2_add 49 rfl) ?_
      refine P.iadd (dq dtX2_add 50 rfl) ?_
      refine P.iast (dq dtX2_add 51 rfl) (by repeat (first | assumption | exact up_s | rw [up_n (by first | assumption | (apply Ne.symm; assumption) | decide | omega)])) (by omega) (by omega) (by omega) ?_
      refine P.aload_n (dq dtX2_add 52 rfl) rfl ?_
      refine P.get flX2_18 (dq dtX2_add 53 rfl) (by repeat (first | assumption | exact up_s | rw [up_n (by first | assumption | (apply Ne.symm; assumption) | decide | omega)])) (by rfl) ?_
      refine P.iload (dq dtX2_add 54 rfl) rfl ?_
      refine P.iald (dq dtX2_add 55 rfl) (by repeat (first | assumption | exact up_s | rw [up_n (by first | assumption | (apply Ne.symm; assumption) | decide | omega)])) (by omega) (by omega) (by omega) ?_
      refine P.iret (dq dtX2_add 56 rfl) rfl rfl rfl ?_
      first | (have eC : addC cn t = upI cn t (cn t + 1) := by { unfold addC; rw [if_neg (by omega)] }; have eE : addE cn er t z = upI er (t * 6 + cn t) z := by { unfold addE; rw [if_neg (by omega)] }; rw [eC, eE] at h; exact h _ ⟨(by repeat (first | assumption | exact up_s | rw [up_n (by first | assumption | (apply Ne.symm; assumption) | decide | omega)])), (by repeat (first | assumption | exact up_s | rw [up_n (by first | assumption | (apply Ne.symm; assumption) | decide | omega)])), (by repeat (first | assumption | exact up_s | rw [up_n (by first | assumption | (apply Ne.symm; assumption) | decide | omega)]))⟩ (by repeat (first | assumption | exact Fr.rf | refine Fr.up ?_ (by simp)))) | (have eC : addC cn t = upI (upI cn t 5) t (5 + 1) := by { unfold addC; rw [if_pos (by omega)]; funext i; simp only [upI]; split <;> rfl }; have eE : addE cn er t z = upI (cpI er er (t * 6 + 1) (t * 6) 5) (t * 6 + 5) z := by { unfold addE; rw [if_pos (by omega)] }; rw [eC, eE] at h; exact h _ ⟨(by repeat (first | assumption | exact up_s | rw [up_n (by first | assumption | (apply Ne.symm; assumption) | decide | omega)])), (by repeat (first | assumption | exact up_s | rw [up_n (by first | assumption | (apply Ne.symm; assumption) | decide | omega)])), (by repeat (first | assumption | exact up_s | rw [up_n (by first | assumption | (apply Ne.symm; assumption) | decide | omega)]))⟩ (by repeat (first | assumption | exact Fr.rf | refine Fr.up ?_ (by simp))))
  · refine P.iconst (dq dtX2_add 7 rfl) ?_
    refine P.iret (dq dtX2_add 8 rfl) rfl rfl rfl ?_
    exfalso; omega
/-- Measured.forget -/
theorem ct_X2_forget {x : CM} {d N : Nat} {σ : PH} {Q : PQ} {q : Nat} {v : MsV} (hM : Ms σ q v) (hp : 0 ≤ v.1 ∧ v.1 ≤ 8) (hd : 2 ≤ d) {k w : Int} (hk : 0 ≤ k ∧ k < v.1) (hw : 0 ≤ w ∧ w < 2) (h : ∀ σ' : PH, Ms σ' q (v.1, v.2.1, upI v.2.2.1 (k * 2 + w) 0, v.2.2.2) → Fr σ σ' [q, q + 1, q + 2] → Q (some (vI (v.2.2.1 (k * 2 + w)))) σ') : Call x d 0 0 mX2_forget [vR q, vI k, vI w] N σ Q := by
  refine Call.of mcX2_forget (Nat.le_of_ble_eq_true rfl) (fun y hy => ?_)
  subst hy
  obtain ⟨p, s, cn, er⟩ := v
  obtain ⟨hq, hc, he⟩ := hM
  dsimp only at hq hc he hp hk h
  have g1 : q + 1 ≠ q + 2 := by omega
  refine P.aload_n (dq dtX2_forget 0 rfl) rfl ?_
  refine P.iload_n (dq dtX2_forget 1 rfl) rfl ?_
  refine P.iload_n (dq dtX2_forget 2 rfl) rfl ?_
  refine P.callV2 (M' := mX2_slotOf) (d' := d - 1) mlX2_34 mcX2_slotOf mvX2_slotOf (dq dtX2_forget 3 rfl) (by omega) (Nat.le_of_ble_eq_true rfl) (by repeat (first | assumption | exact up_s | rw [up_n (by first | assumption | (apply Ne.symm; assumption) | decide | omega)])) rfl ?_
  refine ct_X2_slotOf (by repeat (first | assumption | exact up_s | rw [up_n (by first | assumption | (apply Ne.symm; assumption) | decide | omega)])) (by omega) (by omega) (by omega) (fun n_3 => ?_) (fun n_3 => absurd (by omega) n_3)
  refine P.istore_n (dq dtX2_forget 4 rfl) (by decide) rfl rfl ?_
  refine P.iload_n (dq dtX2_forget 5 rfl) rfl ?_
  refine P.if_ge (t := 13) (dq dtX2_forget 6 rfl) rfl (by omega) (fun c_8 => ?_) (fun c_8 => ?_)
  · refine P.aload_n (dq dtX2_forget 9 rfl) rfl ?_
    refine P.get flX2_18 (dq dtX2_forget 10 rfl) (by repeat (first | assumption | exact up_s | rw [up_n (by first | assumption | (apply Ne.symm; assumption) | decide | omega)])) (by rfl) ?_
    refine P.iload_n (dq dtX2_forget 11 rfl) rfl ?_
    refine P.iald (dq dtX2_forget 12 rfl) (by repeat (first | assumption | exact up_s | rw [up_n (by first | assumption | (apply Ne.symm; assumption) | decide | omega)])) (by omega) (by omega) (by omega) ?_
    refine P.istore (dq dtX2_forget 13 rfl) (by decide) rfl rfl ?_
    refine P.aload_n (dq dtX2_forget 14 rfl) rfl ?_
    refine P.get flX2_18 (dq dtX2_forget 15 rfl) (by repeat (first | assumption | exact up_s | rw [up_n (by first | assumption | (apply Ne.symm; assumption) | decide | omega)])) (by rfl) ?_
    refine P.iload_n (dq dtX2_forget 16 rfl) rfl ?_
    refine P.iconst (dq dtX2_forget 17 rfl) ?_
    refine P.iast (dq dtX2_forget 18 rfl) (by repeat (first | assumption | exact up_s | rw [up_n (by first | assumption | (apply Ne.symm; assumption) | decide | omega)])) (by omega) (by omega) (by omega) ?_
    refine P.iload (dq dtX2_forget 19 rfl) rfl ?_
    refine P.iret (dq dtX2_forget 20 rfl) rfl rfl rfl ?_
    exact h _ ⟨(by repeat (first | assumption | exact up_s | rw [up_n (by first | assumption | (apply Ne.symm; assumption) | decide | omega)])), (by repeat (first | assumption | exact up_s | rw [up_n (by first | assumption | (apply Ne.symm; assumption) | decide | omega)])), (by repeat (first | assumption | exact up_s | rw [up_n (by first | assumption | (apply Ne.symm; assumption) | decide | omega)]))⟩ (by repeat (first | assumption | exact Fr.rf | refine Fr.up ?_ (by simp)))
  · refine P.iconst (dq dtX2_forget 7 rfl) ?_
    refine P.iret (dq dtX2_forget 8 rfl) rfl rfl rfl ?_
    exfalso; omega
