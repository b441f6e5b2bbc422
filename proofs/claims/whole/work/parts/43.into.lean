/-- Reader.partIntoTokens -/
theorem ct_X5_partIntoTokens {x : CM} {d N : Nat} {σ : PH} {Q : PQ} {q tq : Nat} {st0 kd0 vl0 : Int → Int} {m0 ti c : Int} (hR0 : Rd σ q st0 kd0 vl0 m0 ti c) (hqq : q + 3 < tq ∨ tq + 1 < q) {n : Int} {f : Int → Int} (hL : Ls σ tq 200 n f) (hn : 0 ≤ n ∧ n ≤ 200) (hf : ∀ i : Int, 0 ≤ i ∧ i < n → 0 ≤ f i ∧ f i ≤ 255) (hd : 6 ≤ d) (h : ∀ (σ' : PH) (st kd vl : Int → Int) (m : Int), Rd σ' q st kd vl m ti c → TK f n st kd vl m → Fr σ σ' [q, q + 1, q + 2, q + 3] → Q none σ') : Call x d 0 0 mX5_partIntoTokens [vR q, vR tq] N σ Q := by
  refine Call.of mcX5_partIntoTokens (Nat.le_of_ble_eq_true rfl) (fun y hy => ?_)
  subst hy
  obtain ⟨hq0, hq1, hq2, hq3⟩ := id hR0
  refine P.aload_n (dq dtX5_partIntoTokens_0 0 rfl) rfl ?_
  refine P.iconst (dq dtX5_partIntoTokens_0 1 rfl) ?_
  refine P.put flX5_21 rfl (dq dtX5_partIntoTokens_0 2 rfl) (by repeat (first | assumption | exact up_s | rw [up_n (by first | assumption | (apply Ne.symm; assumption) | decide | omega)])) (by exact Nat.le_of_ble_eq_true rfl) rfl rfl rfl rfl rfl ?_
  refine P.iconst (dq dtX5_partIntoTokens_0 3 rfl) ?_
  refine P.istore_n (dq dtX5_partIntoTokens_0 4 rfl) (by decide) rfl rfl ?_
  refine P.keep [0, 1, 2] ?_
  exact lp_part hL hn hf hd hqq h (n + 1).toNat 0 0 st0 kd0 vl0 _ (by omega) (by omega) ⟨(by repeat (first | assumption | exact up_s | rw [up_n (by first | assumption | (apply Ne.symm; assumption) | decide | omega)])), (by repeat (first | assumption | exact up_s | rw [up_n (by first | assumption | (apply Ne.symm; assumption) | decide | omega)])), (by repeat (first | assumption | exact up_s | rw [up_n (by first | assumption | (apply Ne.symm; assumption) | decide | omega)])), (by repeat (first | assumption | exact up_s | rw [up_n (by first | assumption | (apply Ne.symm; assumption) | decide | omega)]))⟩ (by omega) (fun i g1 g2 => absurd g1 (by omega)) (fun i g1 g2 => absurd g1 (by omega)) (fun h9 => absurd h9 (by omega)) (fun _ => rfl) (by repeat (first | assumption | exact Fr.rf | refine Fr.up ?_ (by simp)))
/-- Reader.readInto -/
theorem ct_X5_readInto {x : CM} {d N : Nat} {σ : PH} {Q : PQ} {q mq tq : Nat} {st0 kd0 vl0 : Int → Int} {m0 ti c n : Int} {f : Int → Int} {v : MsV} (hR0 : Rd σ q st0 kd0 vl0 m0 ti c) (hM : Ms σ mq v) (hG : GMs v) (hL : Ls σ tq 200 n f) (hn : 0 ≤ n ∧ n ≤ 200) (hf : ∀ i : Int, 0 ≤ i ∧ i < n → 0 ≤ f i ∧ f i ≤ 255) (hd : 7 ≤ d) (hqt : q + 3 < tq ∨ tq + 1 < q) (hqm : q + 3 < mq ∨ mq + 2 < q) (h : ∀ (σ' : PH) (st kd vl : Int → Int) (m j : Int), TK f n st kd vl m → Rd σ' q st kd vl m j (pTx (fun f => f) kd vl m 24 1 0 v).2.2.2 → Ms σ' mq (pTx (fun f => f) kd vl m 24 1 0 v).2.2.1 → Fr σ σ' [q, q + 1, q + 2, q + 3, mq, mq + 1, mq + 2] → Q (some (vI (if (pTx (fun f => f) kd vl m 24 1 0 v).1 = 1 then -1 else st (pTx (fun f => f) kd vl m 24 1 0 v).2.1))) σ') : Call x d 0 0 mX5_readInto [vR q, vR mq, vR tq] N σ Q := by
  refine Call.of mcX5_readInto (Nat.le_of_ble_eq_true rfl) (fun y hy => ?_)
  subst hy
  have hRq := hR0.1
  refine P.aload_n (dq dtX5_readInto 0 rfl) rfl ?_
  refine P.aload_n (dq dtX5_readInto 1 rfl) rfl ?_
  refine P.callV1 (M' := mX5_partIntoTokens) (d' := d - 1) mlX5_31 mcX5_partIntoTokens mvX5_partIntoTokens (dq dtX5_readInto 2 rfl) (by omega) (Nat.le_of_ble_eq_true rfl) (by repeat (first | assumption | exact up_s | rw [up_n (by first | assumption | (apply Ne.symm; assumption) | decide | omega)])) rfl ?_
  refine ct_X5_partIntoTokens hR0 hqt hL hn hf (by omega) (fun σ1 st kd vl m hR1 hK hF1 => ?_)
  have hT := hK.r hn hf
  have hRq1 := hR1.1
  have hM1 : Ms σ1 mq v := hM.fr hF1 (by simp <;> omega) (by simp <;> omega) (by simp <;> omega)
  refine P.aload_n (dq dtX5_readInto 3 rfl) rfl ?_
  refine P.iconst (dq dtX5_readInto 4 rfl) ?_
  refine P.put flX5_25 rfl (dq dtX5_readInto 5 rfl) (by repeat (first | assumption | exact up_s | rw [up_n (by first | assumption | (apply Ne.symm; assumption) | decide | omega)])) (by exact Nat.le_of_ble_eq_true rfl) rfl rfl rfl rfl rfl ?_
  refine P.aload_n (dq dtX5_readInto 6 rfl) rfl ?_
  refine P.iconst (dq dtX5_readInto 7 rfl) ?_
  refine P.put flX5_28 rfl (dq dtX5_readInto 8 rfl) (by repeat (first | assumption | exact up_s | rw [up_n (by first | assumption | (apply Ne.symm; assumption) | decide | omega)])) (by exact Nat.le_of_ble_eq_true rfl) rfl rfl rfl rfl rfl ?_
  rw [up_up]
  refine lp_readInto (tq := tq) hT hqm (by omega) 24 1 0 v _ hG (by omega) (by omega) (by omega) (by have := hT.1; omega) hR1.up (hM1.fr (S := [q]) (by repeat (first | assumption | exact Fr.rf | refine Fr.up ?_ (by simp))) (by simp <;> omega) (by simp <;> omega) (by simp <;> omega)) (fun σ' j q1 q2 q3 => h σ' st kd vl m j hK q1 q2 ((hF1.wide (by simp)).trans ((Fr.wide (S := [q]) (by repeat (first | assumption | exact Fr.rf | refine Fr.up ?_ (by simp))) (by simp)).trans (q3.wide (by simp)))))
