theorem P.nN {x : CX} {d : Nat} {M : MI} {Q : PQ} {b : Nat × Nat} {pc : Nat} {L : List (Option Value)} {st : List Value} {N N' : Nat} {σ : PH} (h : N = N') (k : P x d M Q b pc L st N' σ) : P x d M Q b pc L st N σ := h ▸ k
theorem P.bud {x : CX} {d : Nat} {M : MI} {Q : PQ} {b b' : Nat × Nat} {pc : Nat} {L : List (Option Value)} {st : List Value} {N : Nat} {σ : PH} (h : b = b') (k : P x d M Q b' pc L st N σ) : P x d M Q b pc L st N σ := h ▸ k
/-- Letters -/
theorem ct_X1_init {x : CM} {d : Nat} {σ : PH} {Q : PQ} {q : Nat} (hq9 : q < 950) {r : Nat} {z : Int} (hz : z = (r : Int)) (hr : r < 1000) (hd : 1 ≤ d) (hq : σ q = pcO 1 [.null, vI 0]) (h : ∀ σ' : PH, Ls σ' q r 0 (fun _ => 0) → Fr σ σ' [q, q + 1] → Q none σ') : Call x d 1 r mX1_init [vR q, vI z] (q + 1) σ Q := by
  refine Call.of mcX1_init (Nat.le_of_ble_eq_true rfl) (fun y hy => ?_)
  subst hy
  refine P.aload_n (dq dtX1_init 0 rfl) rfl ?_
  refine P.objInit (dq dtX1_init 1 rfl) mlX1_3 (by omega) (Nat.le_of_ble_eq_true rfl) ?_
  refine P.aload_n (dq dtX1_init 2 rfl) rfl ?_
  refine P.iconst (dq dtX1_init 3 rfl) ?_
  refine P.put flX1_9 rfl (dq dtX1_init 4 rfl) (by repeat (first | assumption | exact up_s | rw [up_n (by first | assumption | (apply Ne.symm; assumption) | decide | omega)])) (by exact Nat.le_of_ble_eq_true rfl) rfl rfl rfl rfl rfl ?_
  refine P.aload_n (dq dtX1_init 5 rfl) rfl ?_
  refine P.iload_n (dq dtX1_init 6 rfl) rfl ?_
  refine P.iconst (dq dtX1_init 7 rfl) ?_
  refine P.callS2 (M' := mJ9_max_7cf53) (d' := d - 1) mlX1_15 mcJ9_max_7cf53 msJ9_max_7cf53 (dq dtX1_init 8 rfl) (by omega) (Nat.le_of_ble_eq_true rfl) ?_
  refine ct_max_l (by omega) (by omega) (by omega) ?_
  refine P.bud (b' := (0 + 1, 0 + r)) (by simp) ?_
  refine P.newI (n := r) (b1 := 0) (b2 := 0) (dq dtX1_init 9 rfl) hz (by omega) (by omega) ?_
  refine P.nN (N' := q + 2) rfl ?_
  refine P.putF flX1_21 rfl (dq dtX1_init 10 rfl) (by repeat (first | assumption | exact up_s | rw [up_n (by first | assumption | (apply Ne.symm; assumption) | decide | omega)])) (by exact Nat.le_of_ble_eq_true rfl) rfl rfl rfl rfl rfl rfl rfl ?_
  refine P.vret (dq dtX1_init 11 rfl) rfl rfl rfl ?_
  exact h _ ⟨up_s, (by repeat (first | assumption | exact up_s | rw [up_n (by first | assumption | (apply Ne.symm; assumption) | decide | omega)]))⟩ (by repeat (first | assumption | exact Fr.rf | refine Fr.up ?_ (by simp)))
/-- Measured -/
theorem ct_X2_init {x : CM} {d : Nat} {σ : PH} {Q : PQ} {q : Nat} (hq9 : q < 950) (hd : 1 ≤ d) (hq : σ q = pcO 2 [vI 0, vI 0, .null, .null]) (h : ∀ σ' : PH, Ms σ' q (3, 20, (fun _ => 0), (fun _ => 0)) → Fr σ σ' [q, q + 1, q + 2] → Q none σ') : Call x d 2 112 mX2_init [vR q] (q + 1) σ Q := by
  refine Call.of mcX2_init (Nat.le_of_ble_eq_true rfl) (fun y hy => ?_)
  subst hy
  refine P.aload_n (dq dtX2_init 0 rfl) rfl ?_
  refine P.objInit (dq dtX2_init 1 rfl) mlX2_3 (by omega) (Nat.le_of_ble_eq_true rfl) ?_
  refine P.aload_n (dq dtX2_init 2 rfl) rfl ?_
  refine P.iconst (dq dtX2_init 3 rfl) ?_
  refine P.put flX2_9 rfl (dq dtX2_init 4 rfl) (by repeat (first | assumption | exact up_s | rw [up_n (by first | assumption | (apply Ne.symm; assumption) | decide | omega)])) (by exact Nat.le_of_ble_eq_true rfl) rfl rfl rfl rfl rfl ?_
  refine P.aload_n (dq dtX2_init 5 rfl) rfl ?_
  refine P.bipush (dq dtX2_init 6 rfl) rfl ?_
  refine P.put flX2_15 rfl (dq dtX2_init 7 rfl) (by repeat (first | assumption | exact up_s | rw [up_n (by first | assumption | (apply Ne.symm; assumption) | decide | omega)])) (by exact Nat.le_of_ble_eq_true rfl) rfl rfl rfl rfl rfl ?_
  refine P.aload_n (dq dtX2_init 8 rfl) rfl ?_
  refine P.bipush (dq dtX2_init 9 rfl) rfl ?_
  refine P.newI (n := 16) (b1 := 1) (b2 := 96) (dq dtX2_init 10 rfl) rfl (by omega) (by omega) ?_
  refine P.nN (N' := q + 2) rfl ?_
  refine P.putF flX2_18 rfl (dq dtX2_init 11 rfl) (by repeat (first | assumption | exact up_s | rw [up_n (by first | assumption | (apply Ne.symm; assumption) | decide | omega)])) (by exact Nat.le_of_ble_eq_true rfl) rfl rfl rfl rfl rfl rfl rfl ?_
  refine P.aload_n (dq dtX2_init 12 rfl) rfl ?_
  refine P.bipush (dq dtX2_init 13 rfl) rfl ?_
  refine P.newI (n := 96) (b1 := 0) (b2 := 0) (dq dtX2_init 14 rfl) rfl (by omega) (by omega) ?_
  refine P.nN (N' := q + 3) rfl ?_
  refine P.putF flX2_22 rfl (dq dtX2_init 15 rfl) (by repeat (first | assumption | exact up_s | rw [up_n (by first | assumption | (apply Ne.symm; assumption) | decide | omega)])) (by exact Nat.le_of_ble_eq_true rfl) rfl rfl rfl rfl rfl rfl rfl ?_
  refine P.vret (dq dtX2_init 16 rfl) rfl rfl rfl ?_
  exact h _ ⟨up_s, (by repeat (first | assumption | exact up_s | rw [up_n (by first | assumption | (apply Ne.symm; assumption) | decide | omega)])), (by repeat (first | assumption | exact up_s | rw [up_n (by first | assumption | (apply Ne.symm; assumption) | decide | omega)]))⟩ (by repeat (first | assumption | exact Fr.rf | refine Fr.up ?_ (by simp)))
/-- Moment -/
theorem ct_X3_init {x : CM} {d : Nat} {σ : PH} {Q : PQ} {q : Nat} (hq9 : q < 940) (hd : 2 ≤ d) (hq : σ q = pcO 3 [.null, vI 0, vI 0, vI 0, vI 0, vI 0]) (h : ∀ σ' : PH, Mo σ' q ((3, 20, (fun _ => 0), (fun _ => 0)), 0, 0, 0, 0, 1) → Fr σ σ' [q, q + 1, q + 2, q + 3] → Q none σ') : Call x d 3 116 mX3_init [vR q] (q + 1) σ Q := by
  refine Call.of mcX3_init (Nat.le_of_ble_eq_true rfl) (fun y hy => ?_)
  subst hy
  refine P.aload_n (dq dtX3_init 0 rfl) rfl ?_
  refine P.objInit (dq dtX3_init 1 rfl) mlX3_1 (by omega) (Nat.le_of_ble_eq_true rfl) ?_
  refine P.aload_n (dq dtX3_init 2 rfl) rfl ?_
  refine P.new (ci := 2) (n := 4) (fs := [vI 0, vI 0, .null, .null]) (b1 := 2) (b2 := 112) (dq dtX3_init 3 rfl) clX3_7 rfl rfl rfl (by omega) ?_
  refine P.nN (N' := q + 2) rfl ?_
  refine P.dup (dq dtX3_init 4 rfl) rfl ?_
  refine P.callINg (M' := mX2_init) (d' := d - 1) (mc := 2) (ms := 112) (As := []) nlX3_9 mcX2_init mnX2_init rfl rfl (dq dtX3_init 5 rfl) rfl (by omega) (Nat.le_of_ble_eq_true rfl) ⟨by omega, by omega⟩ ?_
  refine ct_X2_init (q := q + 1) (by omega) (by omega) up_s (fun σ1 k1 f1 => ?_)
  have hq1 := (f1 q (by simp; omega)).trans (show _ = _ from (up_n (by omega)).trans hq)
  refine P.bud (b' := (0, 0)) rfl ?_
  refine P.nN (N' := q + 4) rfl ?_
  refine P.putF flX3_10 rfl (dq dtX3_init 6 rfl) (by repeat (first | assumption | exact up_s | rw [up_n (by first | assumption | (apply Ne.symm; assumption) | decide | omega)])) (by exact Nat.le_of_ble_eq_true rfl) rfl rfl rfl rfl rfl rfl rfl ?_
  refine P.aload_n (dq dtX3_init 7 rfl) rfl ?_
  refine P.iconst (dq dtX3_init 8 rfl) ?_
  refine P.put flX3_16 rfl (dq dtX3_init 9 rfl) (by repeat (first | assumption | exact up_s | rw [up_n (by first | assumption | (apply Ne.symm; assumption) | decide | omega)])) (by exact Nat.le_of_ble_eq_true rfl) rfl rfl rfl rfl rfl ?_
  refine P.aload_n (dq dtX3_init 10 rfl) rfl ?_
  refine P.iconst (dq dtX3_init 11 rfl) ?_
  refine P.put flX3_20 rfl (dq dtX3_init 12 rfl) (by repeat (first | assumption | exact up_s | rw [up_n (by first | assumption | (apply Ne.symm; assumption) | decide | omega)])) (by exact Nat.le_of_ble_eq_true rfl) rfl rfl rfl rfl rfl ?_
  refine P.aload_n (dq dtX3_init 13 rfl) rfl ?_
  refine P.iconst (dq dtX3_init 14 rfl) ?_
  refine P.put flX3_23 rfl (dq dtX3_init 15 rfl) (by repeat (first | assumption | exact up_s | rw [up_n (by first | assumption | (apply Ne.symm; assumption) | decide | omega)])) (by exact Nat.le_of_ble_eq_true rfl) rfl rfl rfl rfl rfl ?_
  refine P.aload_n (dq dtX3_init 16 rfl) rfl ?_
  refine P.iconst (dq dtX3_init 17 rfl) ?_
  refine P.put flX3_26 rfl (dq dtX3_init 18 rfl) (by repeat (first | assumption | exact up_s | rw [up_n (by first | assumption | (apply Ne.symm; assumption) | decide | omega)])) (by exact Nat.le_of_ble_eq_true rfl) rfl rfl rfl rfl rfl ?_
  refine P.aload_n (dq dtX3_init 19 rfl) rfl ?_
  refine P.iconst (dq dtX3_init 20 rfl) ?_
  refine P.put flX3_29 rfl (dq dtX3_init 21 rfl) (by repeat (first | assumption | exact up_s | rw [up_n (by first | assumption | (apply Ne.symm; assumption) | decide | omega)])) (by exact Nat.le_of_ble_eq_true rfl) rfl rfl rfl rfl rfl ?_
  refine P.vret (dq dtX3_init 22 rfl) rfl rfl rfl ?_
  have k2 := k1.1
  have k3 := k1.2.1
  have k4 := k1.2.2
  exact h _ ⟨up_s, (by repeat (first | assumption | exact up_s | rw [up_n (by first | assumption | (apply Ne.symm; assumption) | decide | omega)])), (by repeat (first | assumption | exact up_s | rw [up_n (by first | assumption | (apply Ne.symm; assumption) | decide | omega)])), (by repeat (first | assumption | exact up_s | rw [up_n (by first | assumption | (apply Ne.symm; assumption) | decide | omega)]))⟩ (Fr.trans (Fr.trans (σ' := up σ (q + 1) _) (by repeat (first | assumption | exact Fr.rf | refine Fr.up ?_ (by simp))) (f1.wide (by simp))) (by repeat (first | assumption | exact Fr.rf | refine Fr.up ?_ (by simp))))
/-- Reader -/
theorem ct_X5_init {x : CM} {d : Nat} {σ : PH} {Q : PQ} {q : Nat} (hq9 : q < 950) (hd : 1 ≤ d) (hq : σ q = pcO 5 [.null, .null, .null, vI 0, vI 0, vI 0]) (h : ∀ σ' : PH, Rd σ' q (fun _ => 0) (fun _ => 0) (fun _ => 0) 0 0 0 → Fr σ σ' [q, q + 1, q + 2, q + 3] → Q none σ') : Call x d 3 603 mX5_init [vR q] (q + 1) σ Q := by
  refine Call.of mcX5_init (Nat.le_of_ble_eq_true rfl) (fun y hy => ?_)
  subst hy
  refine P.aload_n (dq dtX5_init 0 rfl) rfl ?_
  refine P.objInit (dq dtX5_init 1 rfl) mlX5_3 (by omega) (Nat.le_of_ble_eq_true rfl) ?_
  refine P.aload_n (dq dtX5_init 2 rfl) rfl ?_
  refine P.sipush (dq dtX5_init 3 rfl) rfl ?_
  refine P.newI (n := 201) (b1 := 2) (b2 := 402) (dq dtX5_init 4 rfl) rfl (by omega) (by omega) ?_
  refine P.nN (N' := q + 2) rfl ?_
  refine P.putF flX5_9 rfl (dq dtX5_init 5 rfl) (by repeat (first | assumption | exact up_s | rw [up_n (by first | assumption | (apply Ne.symm; assumption) | decide | omega)])) (by exact Nat.le_of_ble_eq_true rfl) rfl rfl rfl rfl rfl rfl rfl ?_
  refine P.aload_n (dq dtX5_init 6 rfl) rfl ?_
  refine P.sipush (dq dtX5_init 7 rfl) rfl ?_
  refine P.newI (n := 201) (b1 := 1) (b2 := 201) (dq dtX5_init 8 rfl) rfl (by omega) (by omega) ?_
  refine P.nN (N' := q + 3) rfl ?_
  refine P.putF flX5_15 rfl (dq dtX5_init 9 rfl) (by repeat (first | assumption | exact up_s | rw [up_n (by first | assumption | (apply Ne.symm; assumption) | decide | omega)])) (by exact Nat.le_of_ble_eq_true rfl) rfl rfl rfl rfl rfl rfl rfl ?_
  refine P.aload_n (dq dtX5_init 10 rfl) rfl ?_
  refine P.sipush (dq dtX5_init 11 rfl) rfl ?_
  refine P.newI (n := 201) (b1 := 0) (b2 := 0) (dq dtX5_init 12 rfl) rfl (by omega) (by omega) ?_
  refine P.nN (N' := q + 4) rfl ?_
  refine P.putF flX5_18 rfl (dq dtX5_init 13 rfl) (by repeat (first | assumption | exact up_s | rw [up_n (by first | assumption | (apply Ne.symm; assumption) | decide | omega)])) (by exact Nat.le_of_ble_eq_true rfl) rfl rfl rfl rfl rfl rfl rfl ?_
  refine P.aload_n (dq dtX5_init 14 rfl) rfl ?_
  refine P.iconst (dq dtX5_init 15 rfl) ?_
  refine P.put flX5_21 rfl (dq dtX5_init 16 rfl) (by repeat (first | assumption | exact up_s | rw [up_n (by first | assumption | (apply Ne.symm; assumption) | decide | omega)])) (by exact Nat.le_of_ble_eq_true rfl) rfl rfl rfl rfl rfl ?_
  refine P.aload_n (dq dtX5_init 17 rfl) rfl ?_
  refine P.iconst (dq dtX5_init 18 rfl) ?_
  refine P.put flX5_25 rfl (dq dtX5_init 19 rfl) (by repeat (first | assumption | exact up_s | rw [up_n (by first | assumption | (apply Ne.symm; assumption) | decide | omega)])) (by exact Nat.le_of_ble_eq_true rfl) rfl rfl rfl rfl rfl ?_
  refine P.aload_n (dq dtX5_init 20 rfl) rfl ?_
  refine P.iconst (dq dtX5_init 21 rfl) ?_
  refine P.put flX5_28 rfl (dq dtX5_init 22 rfl) (by repeat (first | assumption | exact up_s | rw [up_n (by first | assumption | (apply Ne.symm; assumption) | decide | omega)])) (by exact Nat.le_of_ble_eq_true rfl) rfl rfl rfl rfl rfl ?_
  refine P.vret (dq dtX5_init 23 rfl) rfl rfl rfl ?_
  exact h _ ⟨up_s, (by repeat (first | assumption | exact up_s | rw [up_n (by first | assumption | (apply Ne.symm; assumption) | decide | omega)])), (by repeat (first | assumption | exact up_s | rw [up_n (by first | assumption | (apply Ne.symm; assumption) | decide | omega)])), (by repeat (first | assumption | exact up_s | rw [up_n (by first | assumption | (apply Ne.symm; assumption) | decide | omega)]))⟩ (by repeat (first | assumption | exact Fr.rf | refine Fr.up ?_ (by simp)))
/-- Figures -/
theorem ct_X0_init {x : CM} {d : Nat} {σ : PH} {Q : PQ} {q : Nat} (hq9 : q < 950) (hd : 1 ≤ d) (hq : σ q = pcO 0 [vI 0, vI 0, .null, .null, vI 0, .null, .null, .null, .null, .null, vI 0, vI 0]) (h : ∀ σ' : PH, Fg0 σ' q → Fr σ σ' [q, q + 1, q + 2, q + 3, q + 4, q + 5, q + 6, q + 7] → Q none σ') : Call x d 7 64 mX0_init [vR q] (q + 1) σ Q := by
  refine Call.of mcX0_init (Nat.le_of_ble_eq_true rfl) (fun y hy => ?_)
  subst hy
  refine P.aload_n (dq dtX0_init 0 rfl) rfl ?_
  refine P.objInit (dq dtX0_init 1 rfl) mlX0_3 (by omega) (Nat.le_of_ble_eq_true rfl) ?_
  refine P.aload_n (dq dtX0_init 2 rfl) rfl ?_
  refine P.iconst (dq dtX0_init 3 rfl) ?_
  refine P.put flX0_9 rfl (dq dtX0_init 4 rfl) (by repeat (first | assumption | exact up_s | rw [up_n (by first | assumption | (apply Ne.symm; assumption) | decide | omega)])) (by exact Nat.le_of_ble_eq_true rfl) rfl rfl rfl rfl rfl ?_
  refine P.aload_n (dq dtX0_init 5 rfl) rfl ?_
  refine P.bipush (dq dtX0_init 6 rfl) rfl ?_
  refine P.put flX0_15 rfl (dq dtX0_init 7 rfl) (by repeat (first | assumption | exact up_s | rw [up_n (by first | assumption | (apply Ne.symm; assumption) | decide | omega)])) (by exact Nat.le_of_ble_eq_true rfl) rfl rfl rfl rfl rfl ?_
  refine P.aload_n (dq dtX0_init 8 rfl) rfl ?_
  refine P.bipush (dq dtX0_init 9 rfl) rfl ?_
  refine P.newI (n := 16) (b1 := 6) (b2 := 48) (dq dtX0_init 10 rfl) rfl (by omega) (by omega) ?_
  refine P.nN (N' := q + 2) rfl ?_
  refine P.putF flX0_18 rfl (dq dtX0_init 11 rfl) (by repeat (first | assumption | exact up_s | rw [up_n (by first | assumption | (apply Ne.symm; assumption) | decide | omega)])) (by exact Nat.le_of_ble_eq_true rfl) rfl rfl rfl rfl rfl rfl rfl ?_
  refine P.aload_n (dq dtX0_init 12 rfl) rfl ?_
  refine P.bipush (dq dtX0_init 13 rfl) rfl ?_
  refine P.newI (n := 8) (b1 := 5) (b2 := 40) (dq dtX0_init 14 rfl) rfl (by omega) (by omega) ?_
  refine P.nN (N' := q + 3) rfl ?_
  refine P.putF flX0_22 rfl (dq dtX0_init 15 rfl) (by repeat (first | assumption | exact up_s | rw [up_n (by first | assumption | (apply Ne.symm; assumption) | decide | omega)])) (by exact Nat.le_of_ble_eq_true rfl) rfl rfl rfl rfl rfl rfl rfl ?_
  refine P.aload_n (dq dtX0_init 16 rfl) rfl ?_
  refine P.iconst (dq dtX0_init 17 rfl) ?_
  refine P.put flX0_25 rfl (dq dtX0_init 18 rfl) (by repeat (first | assumption | exact up_s | rw [up_n (by first | assumption | (apply Ne.symm; assumption) | decide | omega)])) (by exact Nat.le_of_ble_eq_true rfl) rfl rfl rfl rfl rfl ?_
  refine P.aload_n (dq dtX0_init 19 rfl) rfl ?_
  refine P.bipush (dq dtX0_init 20 rfl) rfl ?_
  refine P.newI (n := 8) (b1 := 4) (b2 := 32) (dq dtX0_init 21 rfl) rfl (by omega) (by omega) ?_
  refine P.nN (N' := q + 4) rfl ?_
  refine P.putF flX0_28 rfl (dq dtX0_init 22 rfl) (by repeat (first | assumption | exact up_s | rw [up_n (by first | assumption | (apply Ne.symm; assumption) | decide | omega)])) (by exact Nat.le_of_ble_eq_true rfl) rfl rfl rfl rfl rfl rfl rfl ?_
  refine P.aload_n (dq dtX0_init 23 rfl) rfl ?_
  refine P.bipush (dq dtX0_init 24 rfl) rfl ?_
  refine P.newI (n := 8) (b1 := 3) (b2 := 24) (dq dtX0_init 25 rfl) rfl (by omega) (by omega) ?_
  refine P.nN (N' := q + 5) rfl ?_
  refine P.putF flX0_31 rfl (dq dtX0_init 26 rfl) (by repeat (first | assumption | exact up_s | rw [up_n (by first | assumption | (apply Ne.symm; assumption) | decide | omega)])) (by exact Nat.le_of_ble_eq_true rfl) rfl rfl rfl rfl rfl rfl rfl ?_
  refine P.aload_n (dq dtX0_init 27 rfl) rfl ?_
  refine P.bipush (dq dtX0_init 28 rfl) rfl ?_
  refine P.newI (n := 8) (b1 := 2) (b2 := 16) (dq dtX0_init 29 rfl) rfl (by omega) (by omega) ?_
  refine P.nN (N' := q + 6) rfl ?_
  refine P.putF flX0_34 rfl (dq dtX0_init 30 rfl) (by repeat (first | assumption | exact up_s | rw [up_n (by first | assumption | (apply Ne.symm; assumption) | decide | omega)])) (by exact Nat.le_of_ble_eq_true rfl) rfl rfl rfl rfl rfl rfl rfl ?_
  refine P.aload_n (dq dtX0_init 31 rfl) rfl ?_
  refine P.bipush (dq dtX0_init 32 rfl) rfl ?_
  refine P.newI (n := 8) (b1 := 1) (b2 := 8) (dq dtX0_init 33 rfl) rfl (by omega) (by omega) ?_
  refine P.nN (N' := q + 7) rfl ?_
  refine P.putF flX0_37 rfl (dq dtX0_init 34 rfl) (by repeat (first | assumption | exact up_s | rw [up_n (by first | assumption | (apply Ne.symm; assumption) | decide | omega)])) (by exact Nat.le_of_ble_eq_true rfl) rfl rfl rfl rfl rfl rfl rfl ?_
  refine P.aload_n (dq dtX0_init 35 rfl) rfl ?_
  refine P.bipush (dq dtX0_init 36 rfl) rfl ?_
  refine P.newI (n := 8) (b1 := 0) (b2 := 0) (dq dtX0_init 37 rfl) rfl (by omega) (by omega) ?_
  refine P.nN (N' := q + 8) rfl ?_
  refine P.putF flX0_40 rfl (dq dtX0_init 38 rfl) (by repeat (first | assumption | exact up_s | rw [up_n (by first | assumption | (apply Ne.symm; assumption) | decide | omega)])) (by exact Nat.le_of_ble_eq_true rfl) rfl rfl rfl rfl rfl rfl rfl ?_
  refine P.aload_n (dq dtX0_init 39 rfl) rfl ?_
  refine P.iconst (dq dtX0_init 40 rfl) ?_
  refine P.put flX0_43 rfl (dq dtX0_init 41 rfl) (by repeat (first | assumption | exact up_s | rw [up_n (by first | assumption | (apply Ne.symm; assumption) | decide | omega)])) (by exact Nat.le_of_ble_eq_true rfl) rfl rfl rfl rfl rfl ?_
  refine P.aload_n (dq dtX0_init 42 rfl) rfl ?_
  refine P.iconst (dq dtX0_init 43 rfl) ?_
  refine P.put flX0_46 rfl (dq dtX0_init 44 rfl) (by repeat (first | assumption | exact up_s | rw [up_n (by first | assumption | (apply Ne.symm; assumption) | decide | omega)])) (by exact Nat.le_of_ble_eq_true rfl) rfl rfl rfl rfl rfl ?_
  refine P.vret (dq dtX0_init 45 rfl) rfl rfl rfl ?_
  exact h _ ⟨2, 10, 0, 0, 0, ((fun _ => 0), (fun _ => 0), (fun _ => 0), (fun _ => 0), (fun _ => 0), (fun _ => 0), (fun _ => 0)), up_s, (by repeat (first | assumption | exact up_s | rw [up_n (by first | assumption | (apply Ne.symm; assumption) | decide | omega)])), (by repeat (first | assumption | exact up_s | rw [up_n (by first | assumption | (apply Ne.symm; assumption) | decide | omega)])), (by repeat (first | assumption | exact up_s | rw [up_n (by first | assumption | (apply Ne.symm; assumption) | decide | omega)])), (by repeat (first | assumption | exact up_s | rw [up_n (by first | assumption | (apply Ne.symm; assumption) | decide | omega)])), (by repeat (first | assumption | exact up_s | rw [up_n (by first | assumption | (apply Ne.symm; assumption) | decide | omega)])), (by repeat (first | assumption | exact up_s | rw [up_n (by first | assumption | (apply Ne.symm; assumption) | decide | omega)])), (by repeat (first | assumption | exact up_s | rw [up_n (by first | assumption | (apply Ne.symm; assumption) | decide | omega)]))⟩ (by repeat (first | assumption | exact Fr.rf | refine Fr.up ?_ (by simp)))
/-- the past's moments that are made already -/
def PaK (σ : PH) (q : Nat) (k : Nat) : Prop := σ q = pcO 4 [vR (q + 1), vI 0, vI 0] ∧ (∃ g : Int → Option Nat, σ (q + 1) = pcR 3 8 g ∧ ∀ i : Int, 0 ≤ i → i < k → g i = some (q + 2 + 4 * i.toNat)) ∧ ∀ i : Nat, i < k → Mo σ (q + 2 + 4 * i) ((3, 20, (fun _ => 0), (fun _ => 0)), 0, 0, 0, 0, 1)
/-- below a place all is as it was, and behind another -/
def Fb (σ σ' : PH) (a b : Nat) : Prop := ∀ j : Nat, j < a ∨ b ≤ j → σ' j = σ j
theorem PaK.s {σ σ1 : PH} {q k : Nat} {g : Int → Option Nat} (h : PaK σ q k) (hg : σ (q + 1) = pcR 3 8 g) (hg2 : ∀ i : Int, 0 ≤ i → i < k → g i = some (q + 2 + 4 * i.toNat)) (hF : Fb σ σ1 (q + 2 + 4 * k) 2000) (hM : Mo σ1 (q + 2 + 4 * k) ((3, 20, (fun _ => 0), (fun _ => 0)), 0, 0, 0, 0, 1)) : PaK (up σ1 (q + 1) (pcR 3 8 (upI g k (some (q + 2 + 4 * k))))) q (k + 1) := by
  refine ⟨(up_n (by omega)).trans ((hF q (by omega)).trans h.1), ⟨_, up_s, fun i h0 h1 => ?_⟩, fun i hi => ?_⟩
  · by_cases e : i = k
    · rw [e, upI_s]; rfl
    · rw [upI_n e]; exact hg2 i h0 (by omega)
  · have key : ∀ j : Nat, q + 2 ≤ j → up σ1 (q + 1) (pcR 3 8 (upI g k (some (q + 2 + 4 * k)))) j = σ1 j := fun j hj => up_n (by omega)
    by_cases e : i = k
    · rw [e]
      exact ⟨(key _ (by omega)).trans hM.1, (key _ (by omega)).trans hM.2.1, (key _ (by omega)).trans hM.2.2.1, (key _ (by omega)).trans hM.2.2.2⟩
    · have hm := h.2.2 i (by omega)
      exact ⟨(key _ (by omega)).trans ((hF _ (by omega)).trans hm.1), (key _ (by omega)).trans ((hF _ (by omega)).trans hm.2.1), (key _ (by omega)).trans ((hF _ (by omega)).trans hm.2.2.1), (key _ (by omega)).trans ((hF _ (by omega)).trans hm.2.2.2)⟩
theorem lp_past {x : CX} {d : Nat} {σ : PH} {Q : PQ} {q : Nat} (hq9 : q < 800) (hd : 3 ≤ d) (h : ∀ σ' : PH, PaK σ' q 8 → Fb σ σ' q (q + 34) → Q none σ') : ∀ (t k : Nat) (σ' : PH), k + t = 8 → PaK σ' q k → Fb σ σ' q (q + 2 + 4 * k) → P x d mX4_init Q (4 * t, 122 * t) 25 [some (vR q), some (vI k)] [] (q + 2 + 4 * k) σ' := by
  intro t
  induction t with
  | zero =>
    intro k σ' hk hP hF
    obtain rfl : k = 8 := by omega
    refine P.iload_n (dq dtX4_init 14 rfl) rfl ?_
    refine P.bipush (dq dtX4_init 15 rfl) rfl ?_
    refine P.icmp_ge (t := 50) (dq dtX4_init 16 rfl) rfl (by omega) (by omega) (fun c_28 => ?_) (fun c_28 => ?_)
    · refine P.vret (dq dtX4_init 26 rfl) rfl rfl rfl ?_
      exact h σ' hP hF
    · exact absurd c_28 (by omega)
  | succ t ih =>
    intro k σ' hk hP hF
    have x0 := hP.1
    obtain ⟨g, x1, hg⟩ := id hP.2.1
    refine P.iload_n (dq dtX4_init 14 rfl) rfl ?_
    refine P.bipush (dq dtX4_init 15 rfl) rfl ?_
    refine P.icmp_ge (t := 50) (dq dtX4_init 16 rfl) rfl (by omega) (by omega) (fun c_28 => ?_) (fun c_28 => ?_)
    · exact absurd c_28 (by omega)
    · refine P.aload_n (dq dtX4_init 17 rfl) rfl ?_
      refine P.get flX4_11 (dq dtX4_init 18 rfl) (by repeat (first | assumption | exact up_s | rw [up_n (by first | assumption | (apply Ne.symm; assumption) | decide | omega)])) (by rfl) ?_
      refine P.iload_n (dq dtX4_init 19 rfl) rfl ?_
      refine P.bud (b' := (4 * t + 3 + 1, 122 * t + 116 + 6)) (by congr 1) ?_
      refine P.new (ci := 3) (n := 6) (fs := [.null, vI 0, vI 0, vI 0, vI 0, vI 0]) (b1 := 4 * t + 3) (b2 := 122 * t + 116) (dq dtX4_init 20 rfl) clX4_9 rfl rfl rfl (by omega) ?_
      refine P.dup (dq dtX4_init 21 rfl) rfl ?_
      refine P.callINg (M' := mX3_init) (d' := d - 1) (mc := 3) (ms := 116) (As := []) nlX4_24 mcX3_init mnX3_init rfl rfl (dq dtX4_init 22 rfl) rfl (by omega) (Nat.le_of_ble_eq_true rfl) ⟨by simp, by simp⟩ ?_
      refine ct_X3_init (q := q + 2 + 4 * k) (by omega) (by omega) up_s (fun σ1 k1 f1 => ?_)
      refine P.bud (b' := (4 * t, 122 * t)) (by simp) ?_
      have fb : Fb σ' σ1 (q + 2 + 4 * k) 2000 := fun j hj => (f1 j (by simp; omega)).trans (up_n (by omega))
      have y1 : σ1 (q + 1) = pcR 3 8 g := (fb (q + 1) (by omega)).trans x1
      have y2 := k1.1
      refine P.aast (dq dtX4_init 23 rfl) y1 y2 rfl (Or.inr ⟨rfl, rfl⟩) (by omega) (by omega) (by omega) ?_
      refine P.iinc (dq dtX4_init 24 rfl) rfl (by decide) rfl rfl ?_
      refine P.goto (t := 25) (dq dtX4_init 25 rfl) rfl ?_
      refine P.nN (N' := q + 2 + 4 * (k + 1)) (by omega) ?_
      exact ih (k + 1) _ (by omega) (hP.s x1 hg fb k1) (fun j hj => (up_n (by omega)).trans ((f1 j (by simp; omega)).trans ((up_n (by omega)).trans (hF j (by omega)))))
/-- Past -/
theorem ct_X4_init {x : CM} {d : Nat} {σ : PH} {Q : PQ} {q : Nat} (hq9 : q < 800) (hd : 3 ≤ d) (hq : σ q = pcO 4 [.null, vI 0, vI 0]) (h : ∀ σ' : PH, PaK σ' q 8 → Fb σ σ' q (q + 34) → Q none σ') : Call x d 33 984 mX4_init [vR q] (q + 1) σ Q := by
  refine Call.of mcX4_init (Nat.le_of_ble_eq_true rfl) (fun y hy => ?_)
  subst hy
  refine P.aload_n (dq dtX4_init 0 rfl) rfl ?_
  refine P.objInit (dq dtX4_init 1 rfl) mlX4_3 (by omega) (Nat.le_of_ble_eq_true rfl) ?_
  refine P.aload_n (dq dtX4_init 2 rfl) rfl ?_
  refine P.bipush (dq dtX4_init 3 rfl) rfl ?_
  refine P.newR (n := 8) (t := 3) (b1 := 32) (b2 := 976) (dq dtX4_init 4 rfl) clX4_9 (Or.inr ⟨rfl, rfl⟩) rfl (by omega) (by omega) ?_
  refine P.nN (N' := q + 2) rfl ?_
  refine P.putF flX4_11 rfl (dq dtX4_init 5 rfl) (by repeat (first | assumption | exact up_s | rw [up_n (by first | assumption | (apply Ne.symm; assumption) | decide | omega)])) (by exact Nat.le_of_ble_eq_true rfl) rfl rfl rfl rfl rfl rfl rfl ?_
  refine P.aload_n (dq dtX4_init 6 rfl) rfl ?_
  refine P.iconst (dq dtX4_init 7 rfl) ?_
  refine P.put flX4_17 rfl (dq dtX4_init 8 rfl) (by repeat (first | assumption | exact up_s | rw [up_n (by first | assumption | (apply Ne.symm; assumption) | decide | omega)])) (by exact Nat.le_of_ble_eq_true rfl) rfl rfl rfl rfl rfl ?_
  refine P.aload_n (dq dtX4_init 9 rfl) rfl ?_
  refine P.iconst (dq dtX4_init 10 rfl) ?_
  refine P.put flX4_21 rfl (dq dtX4_init 11 rfl) (by repeat (first | assumption | exact up_s | rw [up_n (by first | assumption | (apply Ne.symm; assumption) | decide | omega)])) (by exact Nat.le_of_ble_eq_true rfl) rfl rfl rfl rfl rfl ?_
  refine P.iconst (dq dtX4_init 12 rfl) ?_
  refine P.istore_n (dq dtX4_init 13 rfl) (by decide) rfl rfl ?_
  refine P.bud (b' := (4 * 8, 122 * 8)) rfl ?_
  exact lp_past hq9 hd h 8 0 _ rfl ⟨up_s, ⟨_, (by repeat (first | assumption | exact up_s | rw [up_n (by first | assumption | (apply Ne.symm; assumption) | decide | omega)])), fun i g1 g2 => absurd g2 (by omega)⟩, fun i hi => absurd hi (by omega)⟩ (fun j hj => by repeat (rw [up_n (by omega)]))
