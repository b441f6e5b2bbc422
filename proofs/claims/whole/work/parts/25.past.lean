/-- Moment.rest -/
theorem ct_X3_rest {x : CM} {d N : Nat} {σ : PH} {Q : PQ} {q : Nat} {v : MoV} (hM : Mo σ q v) {z : Int} (h : ∀ σ' : PH, Mo σ' q (v.1, 0, z, 0, 0, 1) → Fr σ σ' [q] → Q none σ') : Call x d 0 0 mX3_rest [vR q, vI z] N σ Q := by
  refine Call.of mcX3_rest (Nat.le_of_ble_eq_true rfl) (fun y hy => ?_)
  subst hy
  obtain ⟨v1, pl, sc, tu, tr, wu⟩ := v
  obtain ⟨hq, hM⟩ := hM
  dsimp only at hq hM h
  refine P.aload_n (dq dtX3_rest 0 rfl) rfl ?_
  refine P.iconst (dq dtX3_rest 1 rfl) ?_
  refine P.put flX3_16 rfl (dq dtX3_rest 2 rfl) (by repeat (first | assumption | exact up_s | rw [up_n (by first | assumption | (apply Ne.symm; assumption) | decide | omega)])) (by exact Nat.le_of_ble_eq_true rfl) rfl rfl rfl rfl rfl ?_
  refine P.aload_n (dq dtX3_rest 3 rfl) rfl ?_
  refine P.iload_n (dq dtX3_rest 4 rfl) rfl ?_
  refine P.put flX3_20 rfl (dq dtX3_rest 5 rfl) (by repeat (first | assumption | exact up_s | rw [up_n (by first | assumption | (apply Ne.symm; assumption) | decide | omega)])) (by exact Nat.le_of_ble_eq_true rfl) rfl rfl rfl rfl rfl ?_
  refine P.aload_n (dq dtX3_rest 6 rfl) rfl ?_
  refine P.iconst (dq dtX3_rest 7 rfl) ?_
  refine P.put flX3_23 rfl (dq dtX3_rest 8 rfl) (by repeat (first | assumption | exact up_s | rw [up_n (by first | assumption | (apply Ne.symm; assumption) | decide | omega)])) (by exact Nat.le_of_ble_eq_true rfl) rfl rfl rfl rfl rfl ?_
  refine P.aload_n (dq dtX3_rest 9 rfl) rfl ?_
  refine P.iconst (dq dtX3_rest 10 rfl) ?_
  refine P.put flX3_26 rfl (dq dtX3_rest 11 rfl) (by repeat (first | assumption | exact up_s | rw [up_n (by first | assumption | (apply Ne.symm; assumption) | decide | omega)])) (by exact Nat.le_of_ble_eq_true rfl) rfl rfl rfl rfl rfl ?_
  refine P.aload_n (dq dtX3_rest 12 rfl) rfl ?_
  refine P.iconst (dq dtX3_rest 13 rfl) ?_
  refine P.put flX3_29 rfl (dq dtX3_rest 14 rfl) (by repeat (first | assumption | exact up_s | rw [up_n (by first | assumption | (apply Ne.symm; assumption) | decide | omega)])) (by exact Nat.le_of_ble_eq_true rfl) rfl rfl rfl rfl rfl ?_
  refine P.vret (dq dtX3_rest 15 rfl) rfl rfl rfl ?_
  exact h _ ⟨(by repeat (first | assumption | exact up_s | rw [up_n (by first | assumption | (apply Ne.symm; assumption) | decide | omega)])), hM.fr (S := [q]) (by repeat (first | assumption | exact Fr.rf | refine Fr.up ?_ (by simp))) (by simp <;> omega) (by simp <;> omega) (by simp <;> omega)⟩ (by repeat (first | assumption | exact Fr.rf | refine Fr.up ?_ (by simp)))
/-- Moment.go -/
theorem ct_X3_go {x : CM} {d N : Nat} {σ : PH} {Q : PQ} {q : Nat} {v : MoV} (hM : Mo σ q v) (hd : 1 ≤ d) {a z u : Int} (hu : u = 0 ∨ u = 1) (hwu : v.2.2.2.2.2 = 0 ∨ v.2.2.2.2.2 = 1) (hz : -100000 ≤ z ∧ z ≤ 100000) (hs : -100000 ≤ v.2.2.1 ∧ v.2.2.1 ≤ 100000) (h : ∀ σ' : PH, Mo σ' q (v.1, a, z, if u = v.2.2.2.2.2 then v.2.2.2.1 else v.2.2.2.1 + 1, v.2.2.2.2.1 + (if 0 ≤ z - v.2.2.1 then z - v.2.2.1 else -(z - v.2.2.1)), u) → Fr σ σ' [q] → Q none σ') : Call x d 0 0 mX3_go [vR q, vI a, vI z, vI u] N σ Q := by
  refine Call.of mcX3_go (Nat.le_of_ble_eq_true rfl) (fun y hy => ?_)
  subst hy
  obtain ⟨v1, pl, sc, tu, tr, wu⟩ := v
  obtain ⟨hq, hM⟩ := hM
  dsimp only at hwu hs hq hM h
  refine P.iload_n (dq dtX3_go 0 rfl) rfl ?_
  refine P.aload_n (dq dtX3_go 1 rfl) rfl ?_
  refine P.get flX3_29 (dq dtX3_go 2 rfl) (by repeat (first | assumption | exact up_s | rw [up_n (by first | assumption | (apply Ne.symm; assumption) | decide | omega)])) (by rfl) ?_
  refine P.icmp_eq (t := 18) (dq dtX3_go 3 rfl) rfl (by omega) (by omega) (fun c_5 => ?_) (fun c_5 => ?_)
  · refine P.aload_n (dq dtX3_go 10 rfl) rfl ?_
    refine P.dup (dq dtX3_go 11 rfl) rfl ?_
    refine P.get flX3_26 (dq dtX3_go 12 rfl) (by repeat (first | assumption | exact up_s | rw [up_n (by first | assumption | (apply Ne.symm; assumption) | decide | omega)])) (by rfl) ?_
    refine P.iload_n (dq dtX3_go 13 rfl) rfl ?_
    refine P.aload_n (dq dtX3_go 14 rfl) rfl ?_
    refine P.get flX3_20 (dq dtX3_go 15 rfl) (by repeat (first | assumption | exact up_s | rw [up_n (by first | assumption | (apply Ne.symm; assumption) | decide | omega)])) (by rfl) ?_
    refine P.isub (dq dtX3_go 16 rfl) ?_
    refine P.callS1 (M' := mJ9_abs_0f7a4) (d' := d - 1) mlX3_33 mcJ9_abs_0f7a4 msJ9_abs_0f7a4 (dq dtX3_go 17 rfl) (by omega) (Nat.le_of_ble_eq_true rfl) ?_
    refine ct_abs (by omega) (fun n_29 => ?_) (fun n_29 => ?_)
    · refine P.iadd (dq dtX3_go 18 rfl) ?_
      refine P.put flX3_26 rfl (dq dtX3_go 19 rfl) (by repeat (first | assumption | exact up_s | rw [up_n (by first | assumption | (apply Ne.symm; assumption) | decide | omega)])) (by exact Nat.le_of_ble_eq_true rfl) rfl rfl rfl rfl rfl ?_
      refine P.aload_n (dq dtX3_go 20 rfl) rfl ?_
      refine P.iload_n (dq dtX3_go 21 rfl) rfl ?_
      refine P.put flX3_16 rfl (dq dtX3_go 22 rfl) (by repeat (first | assumption | exact up_s | rw [up_n (by first | assumption | (apply Ne.symm; assumption) | decide | omega)])) (by exact Nat.le_of_ble_eq_true rfl) rfl rfl rfl rfl rfl ?_
      refine P.aload_n (dq dtX3_go 23 rfl) rfl ?_
      refine P.iload_n (dq dtX3_go 24 rfl) rfl ?_
      refine P.put flX3_20 rfl (dq dtX3_go 25 rfl) (by repeat (first | assumption | exact up_s | rw [up_n (by first | assumption | (apply Ne.symm; assumption) | decide | omega)])) (by exact Nat.le_of_ble_eq_true rfl) rfl rfl rfl rfl rfl ?_
      refine P.aload_n (dq dtX3_go 26 rfl) rfl ?_
      refine P.iload_n (dq dtX3_go 27 rfl) rfl ?_
      refine P.put flX3_29 rfl (dq dtX3_go 28 rfl) (by repeat (first | assumption | exact up_s | rw [up_n (by first | assumption | (apply Ne.symm; assumption) | decide | omega)])) (by exact Nat.le_of_ble_eq_true rfl) rfl rfl (bz_nar (by omega)) (bz_fit (by omega)) rfl ?_
      refine P.vret (dq dtX3_go 29 rfl) rfl rfl rfl ?_
      first | (rw [if_pos (show u = wu by omega), if_pos (show 0 ≤ z - sc by omega)] at h; exact h _ ⟨(by repeat (first | assumption | exact up_s | rw [up_n (by first | assumption | (apply Ne.symm; assumption) | decide | omega)])), hM.fr (S := [q]) (by repeat (first | assumption | exact Fr.rf | refine Fr.up ?_ (by simp))) (by simp <;> omega) (by simp <;> omega) (by simp <;> omega)⟩ (by repeat (first | assumption | exact Fr.rf | refine Fr.up ?_ (by simp)))) | (rw [if_pos (show u = wu by omega), if_neg (show ¬ 0 ≤ z - sc by omega)] at h; exact h _ ⟨(by repeat (first | assumption | exact up_s | rw [up_n (by first | assumption | (apply Ne.symm; assumption) | decide | omega)])), hM.fr (S := [q]) (by repeat (first | assumption | exact Fr.rf | refine Fr.up ?_ (by simp))) (by simp <;> omega) (by simp <;> omega) (by simp <;> omega)⟩ (by repeat (first | assumption | exact Fr.rf | refine Fr.up ?_ (by simp)))) | (rw [if_neg (show ¬ u = wu by omega), if_pos (show 0 ≤ z - sc by omega)] at h; exact h _ ⟨(by repeat (first | assumption | exact up_s | rw [up_n (by first | assumption | (apply Ne.symm; assumption) | decide | omega)])), hM.fr (S := [q]) (by repeat (first | assumption | exact Fr.rf | refine Fr.up ?_ (by simp))) (by simp <;> omega) (by simp <;> omega) (by simp <;> omega)⟩ (by repeat (first | assumption | exact Fr.rf | refine Fr.up ?_ (by simp)))) | (rw [if_neg (show ¬ u = wu by omega), if_neg (show ¬ 0 ≤ z - sc by omega)] at h; exact h _ ⟨(by repeat (first | assumption | exact up_s | rw [up_n (by first | assumption | (apply Ne.symm; assumption) | decide | omega)])), hM.fr (S := [q]) (by repeat (first | assumption | exact Fr.rf | refine Fr.up ?_ (by simp))) (by simp <;> omega) (by simp <;> omega) (by simp <;> omega)⟩ (by repeat (first | assumption | exact Fr.rf | refine Fr.up ?_ (by simp))))
    · refine P.iadd (dq dtX3_go 18 rfl) ?_
      refine P.put flX3_26 rfl (dq dtX3_go 19 rfl) (by repeat (first | assumption | exact up_s | rw [up_n (by first | assumption | (apply Ne.symm; assumption) | decide | omega)])) (by exact Nat.le_of_ble_eq_true rfl) rfl rfl rfl rfl rfl ?_
      refine P.aload_n (dq dtX3_go 20 rfl) rfl ?_
      refine P.iload_n (dq dtX3_go 21 rfl) rfl ?_
      refine P.put flX3_16 rfl (dq dtX3_go 22 rfl) (by repeat (first | assumption | exact up_s | rw [up_n (by first | assumption | (apply Ne.symm; assumption) | decide | omega)])) (by exact Nat.le_of_ble_eq_true rfl) rfl rfl rfl rfl rfl ?_
      refine P.aload_n (dq dtX3_go 23 rfl) rfl ?_
      refine P.iload_n (dq dtX3_go 24 rfl) rfl ?_
      refine P.put flX3_20 rfl (dq dtX3_go 25 rfl) (by repeat (first | assumption | exact up_s | rw [up_n (by first | assumption | (apply Ne.symm; assumption) | decide | omega)])) (by exact Nat.le_of_ble_eq_true rfl) rfl rfl rfl rfl rfl ?_
      refine P.aload_n (dq dtX3_go 26 rfl) rfl ?_
      refine P.iload_n (dq dtX3_go 27 rfl) rfl ?_
      refine P.put flX3_29 rfl (dq dtX3_go 28 rfl) (by repeat (first | assumption | exact up_s | rw [up_n (by first | assumption | (apply Ne.symm; assumption) | decide | omega)])) (by exact Nat.le_of_ble_eq_true rfl) rfl rfl (bz_nar (by omega)) (bz_fit (by omega)) rfl ?_
      refine P.vret (dq dtX3_go 29 rfl) rfl rfl rfl ?_
      first | (rw [if_pos (show u = wu by omega), if_pos (show 0 ≤ z - sc by omega)] at h; exact h _ ⟨(by repeat (first | assumption | exact up_s | rw [up_n (by first | assumption | (apply Ne.symm; assumption) | decide | omega)])), hM.fr (S := [q]) (by repeat (first | assumption | exact Fr.rf | refine Fr.up ?_ (by simp))) (by simp <;> omega) (by simp <;> omega) (by simp <;> omega)⟩ (by repeat (first | assumption | exact Fr.rf | refine Fr.up ?_ (by simp)))) | (rw [if_pos (show u = wu by omega), if_neg (show ¬ 0 ≤ z - sc by omega)] at h; exact h _ ⟨(by repeat (first | assumption | exact up_s | rw [up_n (by first | assumption | (apply Ne.symm; assumption) | decide | omega)])), hM.fr (S := [q]) (by repeat (first | assumption | exact Fr.rf | refine Fr.up ?_ (by simp))) (by simp <;> omega) (by simp <;> omega) (by simp <;> omega)⟩ (by repeat (first | assumption | exact Fr.rf | refine Fr.up ?_ (by simp)))) | (rw [if_neg (show ¬ u = wu by omega), if_pos (show 0 ≤ z - sc by omega)] at h; exact h _ ⟨(by repeat (first | assumption | exact up_s | rw [up_n (by first | assumption | (apply Ne.symm; assumption) | decide | omega)])), hM.fr (S := [q]) (by repeat (first | assumption | exact Fr.rf | refine Fr.up ?_ (by simp))) (by simp <;> omega) (by simp <;> omega) (by simp <;> omega)⟩ (by repeat (first | assumption | exact Fr.rf | refine Fr.up ?_ (by simp)))) | (rw [if_neg (show ¬ u = wu by omega), if_neg (show ¬ 0 ≤ z - sc by omega)] at h; exact h _ ⟨(by repeat (first | assumption | exact up_s | rw [up_n (by first | assumption | (apply Ne.symm; assumption) | decide | omega)])), hM.fr (S := [q]) (by repeat (first | assumption | exact Fr.rf | refine Fr.up ?_ (by simp))) (by simp <;> omega) (by simp <;> omega) (by simp <;> omega)⟩ (by repeat (first | assumption | exact Fr.rf | refine Fr.up ?_ (by simp))))
  · refine P.aload_n (dq dtX3_go 4 rfl) rfl ?_
    refine P.dup (dq dtX3_go 5 rfl) rfl ?_
    refine P.get flX3_23 (dq dtX3_go 6 rfl) (by repeat (first | assumption | exact up_s | rw [up_n (by first | assumption | (apply Ne.symm; assumption) | decide | omega)])) (by rfl) ?_
    refine P.iconst (dq dtX3_go 7 rfl) ?_
    refine P.iadd (dq dtX3_go 8 rfl) ?_
    refine P.put flX3_23 rfl (dq dtX3_go 9 rfl) (by repeat (first | assumption | exact up_s | rw [up_n (by first | assumption | (apply Ne.symm; assumption) | decide | omega)])) (by exact Nat.le_of_ble_eq_true rfl) rfl rfl rfl rfl rfl ?_
    refine P.aload_n (dq dtX3_go 10 rfl) rfl ?_
    refine P.dup (dq dtX3_go 11 rfl) rfl ?_
    refine P.get flX3_26 (dq dtX3_go 12 rfl) (by repeat (first | assumption | exact up_s | rw [up_n (by first | assumption | (apply Ne.symm; assumption) | decide | omega)])) (by rfl) ?_
    refine P.iload_n (dq dtX3_go 13 rfl) rfl ?_
    refine P.aload_n (dq dtX3_go 14 rfl) rfl ?_
    refine P.get flX3_20 (dq dtX3_go 15 rfl) (by repeat (first | assumption | exact up_s | rw [up_n (by first | assumption | (apply Ne.symm; assumption) | decide | omega)])) (by rfl) ?_
    refine P.isub (dq dtX3_go 16 rfl) ?_
    refine P.callS1 (M' := mJ9_abs_0f7a4) (d' := d - 1) mlX3_33 mcJ9_abs_0f7a4 msJ9_abs_0f7a4 (dq dtX3_go 17 rfl) (by omega) (Nat.le_of_ble_eq_true rfl) ?_
    refine ct_abs (by omega) (fun n_29 => ?_) (fun n_29 => ?_)
    · refine P.iadd (dq dtX3_go 18 rfl) ?_
      refine P.put flX3_26 rfl (dq dtX3_go 19 rfl) (by repeat (first | assumption | exact up_s | rw [up_n (by first | assumption | (apply Ne.symm; assumption) | decide | omega)])) (by exact Nat.le_of_ble_eq_true rfl) rfl rfl rfl rfl rfl ?_
      refine P.aload_n (dq dtX3_go 20 rfl) rfl ?_
      refine P.iload_n (dq dtX3_go 21 rfl) rfl ?_
      refine P.put flX3_16 rfl (dq dtX3_go 22 rfl) (by repeat (first | assumption | exact up_s | rw [up_n (by first | assumption | (apply Ne.symm; assumption) | decide | omega)])) (by exact Nat.le_of_ble_eq_true rfl) rfl rfl rfl rfl rfl ?_
      refine P.aload_n (dq dtX3_go 23 rfl) rfl ?_
      refine P.iload_n (dq dtX3_go 24 rfl) rfl ?_
      refine P.put flX3_20 rfl (dq dtX3_go 25 rfl) (by repeat (first | assumption | exact up_s | rw [up_n (by first | assumption | (apply Ne.symm; assumption) | decide | omega)])) (by exact Nat.le_of_ble_eq_true rfl) rfl rfl rfl rfl rfl ?_
      refine P.aload_n (dq dtX3_go 26 rfl) rfl ?_
      refine P.iload_n (dq dtX3_go 27 rfl) rfl ?_
      refine P.put flX3_29 rfl (dq dtX3_go 28 rfl) (by repeat (first | assumption | exact up_s | rw [up_n (by first | assumption | (apply Ne.symm; assumption) | decide | omega)])) (by exact Nat.le_of_ble_eq_true rfl) rfl rfl (bz_nar (by omega)) (bz_fit (by omega)) rfl ?_
      refine P.vret (dq dtX3_go 29 rfl) rfl rfl rfl ?_
      first | (rw [if_pos (show u = wu by omega), if_pos (show 0 ≤ z - sc by omega)] at h; exact h _ ⟨(by repeat (first | assumption | exact up_s | rw [up_n (by first | assumption | (apply Ne.symm; assumption) | decide | omega)])), hM.fr (S := [q]) (by repeat (first | assumption | exact Fr.rf | refine Fr.up ?_ (by simp))) (by simp <;> omega) (by simp <;> omega) (by simp <;> omega)⟩ (by repeat (first | assumption | exact Fr.rf | refine Fr.up ?_ (by simp)))) | (rw [if_pos (show u = wu by omega), if_neg (show ¬ 0 ≤ z - sc by omega)] at h; exact h _ ⟨(by repeat (first | assumption | exact up_s | rw [up_n (by first | assumption | (apply Ne.symm; assumption) | decide | omega)])), hM.fr (S := [q]) (by repeat (first | assumption | exact Fr.rf | refine Fr.up ?_ (by simp))) (by simp <;> omega) (by simp <;> omega) (by simp <;> omega)⟩ (by repeat (first | assumption | exact Fr.rf | refine Fr.up ?_ (by simp)))) | (rw [if_neg (show ¬ u = wu by omega), if_pos (show 0 ≤ z - sc by omega)] at h; exact h _ ⟨(by repeat (first | assumption | exact up_s | rw [up_n (by first | assumption | (apply Ne.symm; assumption) | decide | omega)])), hM.fr (S := [q]) (by repeat (first | assumption | exact Fr.rf | refine Fr.up ?_ (by simp))) (by simp <;> omega) (by simp <;> omega) (by simp <;> omega)⟩ (by repeat (first | assumption | exact Fr.rf | refine Fr.up ?_ (by simp)))) | (rw [if_neg (show ¬ u = wu by omega), if_neg (show ¬ 0 ≤ z - sc by omega)] at h; exact h _ ⟨(by repeat (first | assumption | exact up_s | rw [up_n (by first | assumption | (apply Ne.symm; assumption) | decide | omega)])), hM.fr (S := [q]) (by repeat (first | assumption | exact Fr.rf | refine Fr.up ?_ (by simp))) (by simp <;> omega) (by simp <;> omega) (by simp <;> omega)⟩ (by repeat (first | assumption | exact Fr.rf | refine Fr.up ?_ (by simp))))
    · refine P.iadd (dq dtX3_go 18 rfl) ?_
      refine P.put flX3_26 rfl (dq dtX3_go 19 rfl) (by repeat (first | assumption | exact up_s | rw [up_n (by first | assumption | (apply Ne.symm; assumption) | decide | omega)])) (by exact Nat.le_of_ble_eq_true rfl) rfl rfl rfl rfl rfl ?_
      refine P.aload_n (dq dtX3_go 20 rfl) rfl ?_
      refine P.iload_n (dq dtX3_go 21 rfl) rfl ?_
      refine P.put flX3_16 rfl (dq dtX3_go 22 rfl) (by repeat (first | assumption | exact up_s | rw [up_n (by first | assumption | (apply Ne.symm; assumption) | decide | omega)])) (by exact Nat.le_of_ble_eq_true rfl) rfl rfl rfl rfl rfl ?_
      refine P.aload_n (dq dtX3_go 23 rfl) rfl ?_
      refine P.iload_n (dq dtX3_go 24 rfl) rfl ?_
      refine P.put flX3_20 rfl (dq dtX3_go 25 rfl) (by repeat (first | assumption | exact up_s | rw [up_n (by first | assumption | (apply Ne.symm; assumption) | decide | omega)])) (by exact Nat.le_of_ble_eq_true rfl) rfl rfl rfl rfl rfl ?_
      refine P.aload_n (dq dtX3_go 26 rfl) rfl ?_
      refine P.iload_n (dq dtX3_go 27 rfl) rfl ?_
      refine P.put flX3_29 rfl (dq dtX3_go 28 rfl) (by repeat (first | assumption | exact up_s | rw [up_n (by first | assumption | (apply Ne.symm; assumption) | decide | omega)])) (by exact Nat.le_of_ble_eq_true rfl) rfl rfl (bz_nar (by omega)) (bz_fit (by omega)) rfl ?_
      refine P.vret (dq dtX3_go 29 rfl) rfl rfl rfl ?_
      first | (rw [if_pos (show u = wu by omega), if_pos (show 0 ≤ z - sc by omega)] at h; exact h _ ⟨(by repeat (first | assumption | exact up_s | rw [up_n (by first | assumption | (apply Ne.symm; assumption) | decide | omega)])), hM.fr (S := [q]) (by repeat (first | assumption | exact Fr.rf | refine Fr.up ?_ (by simp))) (by simp <;> omega) (by simp <;> omega) (by simp <;> omega)⟩ (by repeat (first | assumption | exact Fr.rf | refine Fr.up ?_ (by simp)))) | (rw [if_pos (show u = wu by omega), if_neg (show ¬ 0 ≤ z - sc by omega)] at h; exact h _ ⟨(by repeat (first | assumption | exact up_s | rw [up_n (by first | assumption | (apply Ne.symm; assumption) | decide | omega)])), hM.fr (S := [q]) (by repeat (first | assumption | exact Fr.rf | refine Fr.up ?_ (by simp))) (by simp <;> omega) (by simp <;> omega) (by simp <;> omega)⟩ (by repeat (first | assumption | exact Fr.rf | refine Fr.up ?_ (by simp)))) | (rw [if_neg (show ¬ u = wu by omega), if_pos (show 0 ≤ z - sc by omega)] at h; exact h _ ⟨(by repeat (first | assumption | exact up_s | rw [up_n (by first | assumption | (apply Ne.symm; assumption) | decide | omega)])), hM.fr (S := [q]) (by repeat (first | assumption | exact Fr.rf | refine Fr.up ?_ (by simp))) (by simp <;> omega) (by simp <;> omega) (by simp <;> omega)⟩ (by repeat (first | assumption | exact Fr.rf | refine Fr.up ?_ (by simp)))) | (rw [if_neg (show ¬ u = wu by omega), if_neg (show ¬ 0 ≤ z - sc by omega)] at h; exact h _ ⟨(by repeat (first | assumption | exact up_s | rw [up_n (by first | assumption | (apply Ne.symm; assumption) | decide | omega)])), hM.fr (S := [q]) (by repeat (first | assumption | exact Fr.rf | refine Fr.up ?_ (by simp))) (by simp <;> omega) (by simp <;> omega) (by simp <;> omega)⟩ (by repeat (first | assumption | exact Fr.rf | refine Fr.up ?_ (by simp))))
/-- Moment.copyFrom -/
theorem ct_X3_copyFrom {x : CM} {d N : Nat} {σ : PH} {Q : PQ} {q q2 : Nat} {v w : MoV} (hM : Mo σ q v) (hM2 : Mo σ q2 w) (hqq : q + 3 < q2 ∨ q2 + 3 < q) (hwu : w.2.2.2.2.2 = 0 ∨ w.2.2.2.2.2 = 1) (hd : 2 ≤ d) (h : ∀ σ' : PH, Mo σ' q w → Fr σ σ' [q, q + 1, q + 2, q + 3] → Q none σ') : Call x d 0 0 mX3_copyFrom [vR q, vR q2] N σ Q := by
  refine Call.of mcX3_copyFrom (Nat.le_of_ble_eq_true rfl) (fun y hy => ?_)
  subst hy
  obtain ⟨v1, pl, sc, tu, tr, wu⟩ := v
  obtain ⟨w1, pl2, sc2, tu2, tr2, wu2⟩ := w
  obtain ⟨hq, hM⟩ := hM
  obtain ⟨hq2, hM2⟩ := hM2
  dsimp only at hq hM hq2 hM2 h hwu
  have hMq := hM.1
  refine P.aload_n (dq dtX3_copyFrom 0 rfl) rfl ?_
  refine P.get flX3_10 (dq dtX3_copyFrom 1 rfl) (by repeat (first | assumption | exact up_s | rw [up_n (by first | assumption | (apply Ne.symm; assumption) | decide | omega)])) (by rfl) ?_
  refine P.aload_n (dq dtX3_copyFrom 2 rfl) rfl ?_
  refine P.get flX3_10 (dq dtX3_copyFrom 3 rfl) (by repeat (first | assumption | exact up_s | rw [up_n (by first | assumption | (apply Ne.symm; assumption) | decide | omega)])) (by rfl) ?_
  refine P.callV1 (M' := mX2_copyFrom) (d' := d - 1) mlX3_39 mcX2_copyFrom mvX2_copyFrom (dq dtX3_copyFrom 4 rfl) (by omega) (Nat.le_of_ble_eq_true rfl) (by repeat (first | assumption | exact up_s | rw [up_n (by first | assumption | (apply Ne.symm; assumption) | decide | omega)])) rfl ?_
  refine ct_X2_copyFrom hM hM2 (by omega) (by omega) (fun σ1 hM1 hF1 => ?_)
  have hqA : σ1 q = pcO 3 [vR (q + 1), vI pl, vI sc, vI tu, vI tr, vI wu] := (hF1 q (by simp <;> omega)).trans hq
  have hqB : σ1 q2 = pcO 3 [vR (q2 + 1), vI pl2, vI sc2, vI tu2, vI tr2, vI wu2] := (hF1 q2 (by simp <;> omega)).trans hq2
  have hne : q ≠ q2 := by omega
  refine P.aload_n (dq dtX3_copyFrom 5 rfl) rfl ?_
  refine P.aload_n (dq dtX3_copyFrom 6 rfl) rfl ?_
  refine P.get flX3_16 (dq dtX3_copyFrom 7 rfl) (by repeat (first | assumption | exact up_s | rw [up_n (by first | assumption | (apply Ne.symm; assumption) | decide | omega)])) (by rfl) ?_
  refine P.put flX3_16 rfl (dq dtX3_copyFrom 8 rfl) (by repeat (first | assumption | exact up_s | rw [up_n (by first | assumption | (apply Ne.symm; assumption) | decide | omega)])) (by exact Nat.le_of_ble_eq_true rfl) rfl rfl rfl rfl rfl ?_
  refine P.aload_n (dq dtX3_copyFrom 9 rfl) rfl ?_
  refine P.aload_n (dq dtX3_copyFrom 10 rfl) rfl ?_
  refine P.get flX3_20 (dq dtX3_copyFrom 11 rfl) (by repeat (first | assumption | exact up_s | rw [up_n (by first | assumption | (apply Ne.symm; assumption) | decide | omega)])) (by rfl) ?_
  refine P.put flX3_20 rfl (dq dtX3_copyFrom 12 rfl) (by repeat (first | assumption | exact up_s | rw [up_n (by first | assumption | (apply Ne.symm; assumption) | decide | omega)])) (by exact Nat.le_of_ble_eq_true rfl) rfl rfl rfl rfl rfl ?_
  refine P.aload_n (dq dtX3_copyFrom 13 rfl) rfl ?_
  refine P.aload_n (dq dtX3_copyFrom 14 rfl) rfl ?_
  refine P.get flX3_23 (dq dtX3_copyFrom 15 rfl) (by repeat (first | assumption | exact up_s | rw [up_n (by first | assumption | (apply Ne.symm; assumption) | decide | omega)])) (by rfl) ?_
  refine P.put flX3_23 rfl (dq dtX3_copyFrom 16 rfl) (by repeat (first | assumption | exact up_s | rw [up_n (by first | assumption | (apply Ne.symm; assumption) | decide | omega)])) (by exact Nat.le_of_ble_eq_true rfl) rfl rfl rfl rfl rfl ?_
  refine P.aload_n (dq dtX3_copyFrom 17 rfl) rfl ?_
  refine P.aload_n (dq dtX3_copyFrom 18 rfl) rfl ?_
  refine P.get flX3_26 (dq dtX3_copyFrom 19 rfl) (by repeat (first | assumption | exact up_s | rw [up_n (by first | assumption | (apply Ne.symm; assumption) | decide | omega)])) (by rfl) ?_
  refine P.put flX3_26 rfl (dq dtX3_copyFrom 20 rfl) (by repeat (first | assumption | exact up_s | rw [up_n (by first | assumption | (apply Ne.symm; assumption) | decide | omega)])) (by exact Nat.le_of_ble_eq_true rfl) rfl rfl rfl rfl rfl ?_
  refine P.aload_n (dq dtX3_copyFrom 21 rfl) rfl ?_
  refine P.aload_n (dq dtX3_copyFrom 22 rfl) rfl ?_
  refine P.get flX3_29 (dq dtX3_copyFrom 23 rfl) (by repeat (first | assumption | exact up_s | rw [up_n (by first | assumption | (apply Ne.symm; assumption) | decide | omega)])) (by rfl) ?_
  refine P.put flX3_29 rfl (dq dtX3_copyFrom 24 rfl) (by repeat (first | assumption | exact up_s | rw [up_n (by first | assumption | (apply Ne.symm; assumption) | decide | omega)])) (by exact Nat.le_of_ble_eq_true rfl) rfl rfl (bz_nar (by omega)) (bz_fit (by omega)) rfl ?_
  refine P.vret (dq dtX3_copyFrom 25 rfl) rfl rfl rfl ?_
  exact h _ ⟨(by repeat (first | assumption | exact up_s | rw [up_n (by first | assumption | (apply Ne.symm; assumption) | decide | omega)])), hM1.fr (S := [q]) (by repeat (first | assumption | exact Fr.rf | refine Fr.up ?_ (by simp))) (by simp <;> omega) (by simp <;> omega) (by simp <;> omega)⟩ ((hF1.wide (by simp)).trans (Fr.wide (S := [q]) (by repeat (first | assumption | exact Fr.rf | refine Fr.up ?_ (by simp))) (by simp)))
/-- Past.remember -/
theorem ct_X4_remember {x : CM} {d N : Nat} {σ : PH} {Q : PQ} {q m a q2 : Nat} {nx ct : Int} {g : Int → Option Nat} {v w : MoV} (hq : σ q = pcO 4 [vR m, vI nx, vI ct]) (hm : σ m = pcR 3 8 g) (hn : 0 ≤ nx ∧ nx < 8) (hc : 0 ≤ ct ∧ ct ≤ 8) (hg : g nx = some a) (hT : Mo σ a v) (hM2 : Mo σ q2 w) (hqq : a + 3 < q2 ∨ q2 + 3 < a) (hqa : q < a ∨ a + 3 < q) (hwu : w.2.2.2.2.2 = 0 ∨ w.2.2.2.2.2 = 1) (hd : 3 ≤ d) (h : ∀ σ' : PH, Mo σ' a w → σ' q = pcO 4 [vR m, vI (if nx = 7 then 0 else nx + 1), vI (if 8 ≤ ct then 8 else ct + 1)] → Fr σ σ' [q, a, a + 1, a + 2, a + 3] → Q none σ') : Call x d 0 0 mX4_remember [vR q, vR q2] N σ Q := by
  refine Call.of mcX4_remember (Nat.le_of_ble_eq_true rfl) (fun y hy => ?_)
  subst hy
  have hTa := hT.1
  refine P.aload_n (dq dtX4_remember 0 rfl) rfl ?_
  refine P.get flX4_11 (dq dtX4_remember 1 rfl) (by repeat (first | assumption | exact up_s | rw [up_n (by first | assumption | (apply Ne.symm; assumption) | decide | omega)])) (by rfl) ?_
  refine P.aload_n (dq dtX4_remember 2 rfl) rfl ?_
  refine P.get flX4_17 (dq dtX4_remember 3 rfl) (by repeat (first | assumption | exact up_s | rw [up_n (by first | assumption | (apply Ne.symm; assumption) | decide | omega)])) (by rfl) ?_
  refine P.aald (dq dtX4_remember 4 rfl) (by repeat (first | assumption | exact up_s | rw [up_n (by first | assumption | (apply Ne.symm; assumption) | decide | omega)])) (by decide) (by omega) (by omega) (by omega) hg ?_
  refine P.aload_n (dq dtX4_remember 5 rfl) rfl ?_
  refine P.callV1 (M' := mX3_copyFrom) (d' := d - 1) mlX4_25 mcX3_copyFrom mvX3_copyFrom (dq dtX4_remember 6 rfl) (by omega) (Nat.le_of_ble_eq_true rfl) (by repeat (first | assumption | exact up_s | rw [up_n (by first | assumption | (apply Ne.symm; assumption) | decide | omega)])) rfl ?_
  refine ct_X3_copyFrom hT hM2 (by omega) (by omega) (by omega) (fun σ1 hM1 hF1 => ?_)
  have hqA : σ1 q = pcO 4 [vR m, vI nx, vI ct] := (hF1 q (by simp <;> omega)).trans hq
  have e1 : (nx + 1).tmod 8 = if nx = 7 then 0 else nx + 1 := by { rw [Int.tmod_eq_emod_of_nonneg (by omega)]; split <;> omega }
  refine P.aload_n (dq dtX4_remember 7 rfl) rfl ?_
  refine P.aload_n (dq dtX4_remember 8 rfl) rfl ?_
  refine P.get flX4_17 (dq dtX4_remember 9 rfl) (by repeat (first | assumption | exact up_s | rw [up_n (by first | assumption | (apply Ne.symm; assumption) | decide | omega)])) (by rfl) ?_
  refine P.iconst (dq dtX4_remember 10 rfl) ?_
  refine P.iadd (dq dtX4_remember 11 rfl) ?_
  refine P.bipush (dq dtX4_remember 12 rfl) rfl ?_
  refine P.irem (dq dtX4_remember 13 rfl) (by omega) (by omega) (by omega) ?_
  rw [e1]
  refine P.put flX4_17 rfl (dq dtX4_remember 14 rfl) (by repeat (first | assumption | exact up_s | rw [up_n (by first | assumption | (apply Ne.symm; assumption) | decide | omega)])) (by exact Nat.le_of_ble_eq_true rfl) rfl rfl rfl rfl rfl ?_
  refine P.aload_n (dq dtX4_remember 15 rfl) rfl ?_
  refine P.aload_n (dq dtX4_remember 16 rfl) rfl ?_
  refine P.get flX4_21 (dq dtX4_remember 17 rfl) (by repeat (first | assumption | exact up_s | rw [up_n (by first | assumption | (apply Ne.symm; assumption) | decide | omega)])) (by rfl) ?_
  refine P.iconst (dq dtX4_remember 18 rfl) ?_
  refine P.iadd (dq dtX4_remember 19 rfl) ?_
  refine P.bipush (dq dtX4_remember 20 rfl) rfl ?_
  refine P.callS2 (M' := mJ9_min_7cf53) (d' := d - 1) mlX4_29 mcJ9_min_7cf53 msJ9_min_7cf53 (dq dtX4_remember 21 rfl) (by omega) (Nat.le_of_ble_eq_true rfl) ?_
  refine ct_min (by omega) (by omega) (fun n_35 => ?_) (fun n_35 => ?_)
  · refine P.put flX4_21 rfl (dq dtX4_remember 22 rfl) (by repeat (first | assumption | exact up_s | rw [up_n (by first | assumption | (apply Ne.symm; assumption) | decide | omega)])) (by exact Nat.le_of_ble_eq_true rfl) rfl rfl rfl rfl rfl ?_
    refine P.vret (dq dtX4_remember 23 rfl) rfl rfl rfl ?_
    first | (rw [if_neg (show ¬ 8 ≤ ct by omega)] at h; exact h _ (hM1.fr (S := [q]) (by repeat (first | assumption | exact Fr.rf | refine Fr.up ?_ (by simp))) (by simp <;> omega) (by simp <;> omega) (by simp <;> omega) (by simp <;> omega)) (by repeat (first | assumption | exact up_s | rw [up_n (by first | assumption | (apply Ne.symm; assumption) | decide | omega)])) ((hF1.wide (by simp)).trans (Fr.wide (S := [q]) (by repeat (first | assumption | exact Fr.rf | refine Fr.up ?_ (by simp))) (by simp)))) | (rw [if_pos (show 8 ≤ ct by omega)] at h; exact h _ (hM1.fr (S := [q]) (by repeat (first | assumption | exact Fr.rf | refine Fr.up ?_ (by simp))) (by simp <;> omega) (by simp <;> omega) (by simp <;> omega) (by simp <;> omega)) (by repeat (first | assumption | exact up_s | rw [up_n (by first | assumption | (apply Ne.symm; assumption) | decide | omega)])) ((hF1.wide (by simp)).trans (Fr.wide (S := [q]) (by repeat (first | assumption | exact Fr.rf | refine Fr.up ?_ (by simp))) (by simp))))
  · refine P.put flX4_21 rfl (dq dtX4_remember 22 rfl) (by repeat (first | assumption | exact up_s | rw [up_n (by first | assumption | (apply Ne.symm; assumption) | decide | omega)])) (by exact Nat.le_of_ble_eq_true rfl) rfl rfl rfl rfl rfl ?_
    refine P.vret (dq dtX4_remember 23 rfl) rfl rfl rfl ?_
    first | (rw [if_neg (show ¬ 8 ≤ ct by omega)] at h; exact h _ (hM1.fr (S := [q]) (by repeat (first | assumption | exact Fr.rf | refine Fr.up ?_ (by simp))) (by simp <;> omega) (by simp <;> omega) (by simp <;> omega) (by simp <;> omega)) (by repeat (first | assumption | exact up_s | rw [up_n (by first | assumption | (apply Ne.symm; assumption) | decide | omega)])) ((hF1.wide (by simp)).trans (Fr.wide (S := [q]) (by repeat (first | assumption | exact Fr.rf | refine Fr.up ?_ (by simp))) (by simp)))) | (rw [if_pos (show 8 ≤ ct by omega)] at h; exact h _ (hM1.fr (S := [q]) (by repeat (first | assumption | exact Fr.rf | refine Fr.up ?_ (by simp))) (by simp <;> omega) (by simp <;> omega) (by simp <;> omega) (by simp <;> omega)) (by repeat (first | assumption | exact up_s | rw [up_n (by first | assumption | (apply Ne.symm; assumption) | decide | omega)])) ((hF1.wide (by simp)).trans (Fr.wide (S := [q]) (by repeat (first | assumption | exact Fr.rf | refine Fr.up ?_ (by simp))) (by simp))))
/-- Past.recallInto -/
theorem ct_X4_recallInto {x : CM} {d N : Nat} {σ : PH} {Q : PQ} {q m a q2 : Nat} {nx ct : Int} {g : Int → Option Nat} {v w : MoV} (hq : σ q = pcO 4 [vR m, vI nx, vI ct]) (hm : σ m = pcR 3 8 g) (hn : 0 ≤ nx ∧ nx < 8) (hc : 0 ≤ ct ∧ ct ≤ 8) (h0 : 0 < ct) (hg : g (if nx = 0 then 7 else nx - 1) = some q2) (hT : Mo σ a v) (hM2 : Mo σ q2 w) (hqq : a + 3 < q2 ∨ q2 + 3 < a) (hqa : q < a ∨ a + 3 < q) (hqb : q < q2 ∨ q2 + 3 < q) (hwu : w.2.2.2.2.2 = 0 ∨ w.2.2.2.2.2 = 1) (hd : 3 ≤ d) (h : ∀ σ' : PH, Mo σ' a w → σ' q = pcO 4 [vR m, vI (if nx = 0 then 7 else nx - 1), vI (ct - 1)] → Fr σ σ' [q, a, a + 1, a + 2, a + 3] → Q none σ') : Call x d 0 0 mX4_recallInto [vR q, vR a] N σ Q := by
  refine Call.of mcX4_recallInto (Nat.le_of_ble_eq_true rfl) (fun y hy => ?_)
  subst hy
  have hTa := hT.1
  have hne : q ≠ m := ne_oR hq hm
  have hbn : 0 ≤ (if nx = 0 then 7 else nx - 1) ∧ (if nx = 0 then 7 else nx - 1) < 8 := by { split <;> omega }
  have e1 : (nx + 8 - 1).tmod 8 = if nx = 0 then 7 else nx - 1 := by { rw [Int.tmod_eq_emod_of_nonneg (by omega)]; split <;> omega }
  refine P.aload_n (dq dtX4_recallInto 0 rfl) rfl ?_
  refine P.get flX4_21 (dq dtX4_recallInto 1 rfl) (by repeat (first | assumption | exact up_s | rw [up_n (by first | assumption | (apply Ne.symm; assumption) | decide | omega)])) (by rfl) ?_
  refine P.if_ne (t := 8) (dq dtX4_recallInto 2 rfl) rfl (by omega) (fun c_4 => ?_) (fun c_4 => ?_)
  · refine P.aload_n (dq dtX4_recallInto 4 rfl) rfl ?_
    refine P.aload_n (dq dtX4_recallInto 5 rfl) rfl ?_
    refine P.get flX4_17 (dq dtX4_recallInto 6 rfl) (by repeat (first | assumption | exact up_s | rw [up_n (by first | assumption | (apply Ne.symm; assumption) | decide | omega)])) (by rfl) ?_
    refine P.bipush (dq dtX4_recallInto 7 rfl) rfl ?_
    refine P.iadd (dq dtX4_recallInto 8 rfl) ?_
    refine P.iconst (dq dtX4_recallInto 9 rfl) ?_
    refine P.isub (dq dtX4_recallInto 10 rfl) ?_
    refine P.bipush (dq dtX4_recallInto 11 rfl) rfl ?_
    refine P.irem (dq dtX4_recallInto 12 rfl) (by omega) (by omega) (by omega) ?_
    rw [e1]
    generalize (if nx = 0 then 7 else nx - 1) = y9 at *
    refine P.put flX4_17 rfl (dq dtX4_recallInto 13 rfl) (by repeat (first | assumption | exact up_s | rw [up_n (by first | assumption | (apply Ne.symm; assumption) | decide | omega)])) (by exact Nat.le_of_ble_eq_true rfl) rfl rfl rfl rfl rfl ?_
    refine P.aload_n (dq dtX4_recallInto 14 rfl) rfl ?_
    refine P.dup (dq dtX4_recallInto 15 rfl) rfl ?_
    refine P.get flX4_21 (dq dtX4_recallInto 16 rfl) (by repeat (first | assumption | exact up_s | rw [up_n (by first | assumption | (apply Ne.symm; assumption) | decide | omega)])) (by rfl) ?_
    refine P.iconst (dq dtX4_recallInto 17 rfl) ?_
    refine P.isub (dq dtX4_recallInto 18 rfl) ?_
    refine P.put flX4_21 rfl (dq dtX4_recallInto 19 rfl) (by repeat (first | assumption | exact up_s | rw [up_n (by first | assumption | (apply Ne.symm; assumption) | decide | omega)])) (by exact Nat.le_of_ble_eq_true rfl) rfl rfl rfl rfl rfl ?_
    refine P.aload_n (dq dtX4_recallInto 20 rfl) rfl ?_
    refine P.aload_n (dq dtX4_recallInto 21 rfl) rfl ?_
    refine P.get flX4_11 (dq dtX4_recallInto 22 rfl) (by repeat (first | assumption | exact up_s | rw [up_n (by first | assumption | (apply Ne.symm; assumption) | decide | omega)])) (by rfl) ?_
    refine P.aload_n (dq dtX4_recallInto 23 rfl) rfl ?_
    refine P.get flX4_17 (dq dtX4_recallInto 24 rfl) (by repeat (first | assumption | exact up_s | rw [up_n (by first | assumption | (apply Ne.symm; assumption) | decide | omega)])) (by rfl) ?_
    refine P.aald (dq dtX4_recallInto 25 rfl) (by repeat (first | assumption | exact up_s | rw [up_n (by first | assumption | (apply Ne.symm; assumption) | decide | omega)])) (by decide) (by omega) (by omega) (by omega) hg ?_
    refine P.callV1 (M' := mX3_copyFrom) (d' := d - 1) mlX4_25 mcX3_copyFrom mvX3_copyFrom (dq dtX4_recallInto 26 rfl) (by omega) (Nat.le_of_ble_eq_true rfl) (by repeat (first | assumption | exact up_s | rw [up_n (by first | assumption | (apply Ne.symm; assumption) | decide | omega)])) rfl ?_
    refine ct_X3_copyFrom (hT.fr (S := [q]) (by repeat (first | assumption | exact Fr.rf | refine Fr.up ?_ (by simp))) (by simp <;> omega) (by simp <;> omega) (by simp <;> omega) (by simp <;> omega)) (hM2.fr (S := [q]) (by repeat (first | assumption | exact Fr.rf | refine Fr.up ?_ (by simp))) (by simp <;> omega) (by simp <;> omega) (by simp <;> omega) (by simp <;> omega)) (by omega) (by omega) (by omega) (fun σ1 hM1 hF1 => ?_)
    refine P.vret (dq dtX4_recallInto 27 rfl) rfl rfl rfl ?_
    exact h _ hM1 ((hF1 q (by simp <;> omega)).trans (by repeat (first | assumption | exact up_s | rw [up_n (by first | assumption | (apply Ne.symm; assumption) | decide | omega)]))) ((Fr.wide (S := [q]) (by repeat (first | assumption | exact Fr.rf | refine Fr.up ?_ (by simp))) (by simp)).trans (hF1.wide (by simp)))
  · refine P.vret (dq dtX4_recallInto 3 rfl) rfl rfl rfl ?_
    exfalso; omega
/-- Past.forgetAll -/
theorem ct_X4_forgetAll {x : CM} {d N : Nat} {σ : PH} {Q : PQ} {q m : Nat} {nx ct : Int} (hq : σ q = pcO 4 [vR m, vI nx, vI ct]) (h : Q none (up σ q (pcO 4 [vR m, vI nx, vI 0]))) : Call x d 0 0 mX4_forgetAll [vR q] N σ Q := by
  refine Call.of mcX4_forgetAll (Nat.le_of_ble_eq_true rfl) (fun y hy => ?_)
  subst hy
  refine P.aload_n (dq dtX4_forgetAll 0 rfl) rfl ?_
  refine P.iconst (dq dtX4_forgetAll 1 rfl) ?_
  refine P.put flX4_21 rfl (dq dtX4_forgetAll 2 rfl) (by repeat (first | assumption | exact up_s | rw [up_n (by first | assumption | (apply Ne.symm; assumption) | decide | omega)])) (by exact Nat.le_of_ble_eq_true rfl) rfl rfl rfl rfl rfl ?_
  refine P.vret (dq dtX4_forgetAll 3 rfl) rfl rfl rfl ?_
  exact h
