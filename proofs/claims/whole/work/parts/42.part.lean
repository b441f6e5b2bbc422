/-- Reader.addToken -/
theorem ct_X5_addToken {x : CM} {d N : Nat} {σ : PH} {Q : PQ} {q : Nat} {st kd vl : Int → Int} {j i c : Int} (hR : Rd σ q st kd vl j i c) (hj : 0 ≤ j ∧ j < 201) {a b e : Int} (h : ∀ σ' : PH, Rd σ' q (upI st j a) (upI kd j b) (upI vl j e) (j + 1) i c → Fr σ σ' [q, q + 1, q + 2, q + 3] → Q none σ') : Call x d 0 0 mX5_addToken [vR q, vI a, vI b, vI e] N σ Q := by
  refine Call.of mcX5_addToken (Nat.le_of_ble_eq_true rfl) (fun y hy => ?_)
  subst hy
  obtain ⟨hq, h1, h2, h3⟩ := id hR
  refine P.aload_n (dq dtX5_addToken 0 rfl) rfl ?_
  refine P.get flX5_21 (dq dtX5_addToken 1 rfl) (by repeat (first | assumption | exact up_s | rw [up_n (by first | assumption | (apply Ne.symm; assumption) | decide | omega)])) (by rfl) ?_
  refine P.aload_n (dq dtX5_addToken 2 rfl) rfl ?_
  refine P.get flX5_9 (dq dtX5_addToken 3 rfl) (by repeat (first | assumption | exact up_s | rw [up_n (by first | assumption | (apply Ne.symm; assumption) | decide | omega)])) (by rfl) ?_
  refine P.alen (dq dtX5_addToken 4 rfl) (by repeat (first | assumption | exact up_s | rw [up_n (by first | assumption | (apply Ne.symm; assumption) | decide | omega)])) (by decide) ?_
  refine P.icmp_lt (t := 13) (dq dtX5_addToken 5 rfl) rfl (by omega) (by omega) (fun c_9 => ?_) (fun c_9 => ?_)
  · refine P.aload_n (dq dtX5_addToken 7 rfl) rfl ?_
    refine P.get flX5_9 (dq dtX5_addToken 8 rfl) (by repeat (first | assumption | exact up_s | rw [up_n (by first | assumption | (apply Ne.symm; assumption) | decide | omega)])) (by rfl) ?_
    refine P.aload_n (dq dtX5_addToken 9 rfl) rfl ?_
    refine P.get flX5_21 (dq dtX5_addToken 10 rfl) (by repeat (first | assumption | exact up_s | rw [up_n (by first | assumption | (apply Ne.symm; assumption) | decide | omega)])) (by rfl) ?_
    refine P.iload_n (dq dtX5_addToken 11 rfl) rfl ?_
    refine P.iast (dq dtX5_addToken 12 rfl) (by repeat (first | assumption | exact up_s | rw [up_n (by first | assumption | (apply Ne.symm; assumption) | decide | omega)])) (by omega) (by omega) (by omega) ?_
    refine P.aload_n (dq dtX5_addToken 13 rfl) rfl ?_
    refine P.get flX5_15 (dq dtX5_addToken 14 rfl) (by repeat (first | assumption | exact up_s | rw [up_n (by first | assumption | (apply Ne.symm; assumption) | decide | omega)])) (by rfl) ?_
    refine P.aload_n (dq dtX5_addToken 15 rfl) rfl ?_
    refine P.get flX5_21 (dq dtX5_addToken 16 rfl) (by repeat (first | assumption | exact up_s | rw [up_n (by first | assumption | (apply Ne.symm; assumption) | decide | omega)])) (by rfl) ?_
    refine P.iload_n (dq dtX5_addToken 17 rfl) rfl ?_
    refine P.iast (dq dtX5_addToken 18 rfl) (by repeat (first | assumption | exact up_s | rw [up_n (by first | assumption | (apply Ne.symm; assumption) | decide | omega)])) (by omega) (by omega) (by omega) ?_
    refine P.aload_n (dq dtX5_addToken 19 rfl) rfl ?_
    refine P.get flX5_18 (dq dtX5_addToken 20 rfl) (by repeat (first | assumption | exact up_s | rw [up_n (by first | assumption | (apply Ne.symm; assumption) | decide | omega)])) (by rfl) ?_
    refine P.aload_n (dq dtX5_addToken 21 rfl) rfl ?_
    refine P.get flX5_21 (dq dtX5_addToken 22 rfl) (by repeat (first | assumption | exact up_s | rw [up_n (by first | assumption | (apply Ne.symm; assumption) | decide | omega)])) (by rfl) ?_
    refine P.iload_n (dq dtX5_addToken 23 rfl) rfl ?_
    refine P.iast (dq dtX5_addToken 24 rfl) (by repeat (first | assumption | exact up_s | rw [up_n (by first | assumption | (apply Ne.symm; assumption) | decide | omega)])) (by omega) (by omega) (by omega) ?_
    refine P.aload_n (dq dtX5_addToken 25 rfl) rfl ?_
    refine P.dup (dq dtX5_addToken 26 rfl) rfl ?_
    refine P.get flX5_21 (dq dtX5_addToken 27 rfl) (by repeat (first | assumption | exact up_s | rw [up_n (by first | assumption | (apply Ne.symm; assumption) | decide | omega)])) (by rfl) ?_
    refine P.iconst (dq dtX5_addToken 28 rfl) ?_
    refine P.iadd (dq dtX5_addToken 29 rfl) ?_
    refine P.put flX5_21 rfl (dq dtX5_addToken 30 rfl) (by repeat (first | assumption | exact up_s | rw [up_n (by first | assumption | (apply Ne.symm; assumption) | decide | omega)])) (by exact Nat.le_of_ble_eq_true rfl) rfl rfl rfl rfl rfl ?_
    refine P.vret (dq dtX5_addToken 31 rfl) rfl rfl rfl ?_
    exact h _ ⟨(by repeat (first | assumption | exact up_s | rw [up_n (by first | assumption | (apply Ne.symm; assumption) | decide | omega)])), (by repeat (first | assumption | exact up_s | rw [up_n (by first | assumption | (apply Ne.symm; assumption) | decide | omega)])), (by repeat (first | assumption | exact up_s | rw [up_n (by first | assumption | (apply Ne.symm; assumption) | decide | omega)])), (by repeat (first | assumption | exact up_s | rw [up_n (by first | assumption | (apply Ne.symm; assumption) | decide | omega)]))⟩ (by repeat (first | assumption | exact Fr.rf | refine Fr.up ?_ (by simp)))
  · refine P.vret (dq dtX5_addToken 6 rfl) rfl rfl rfl ?_
    exfalso; omega
theorem lp_runS {x : CX} {d N : Nat} {σ : PH} {Q : PQ} {q tq : Nat} {n : Int} {f : Int → Int} (hL : Ls σ tq 200 n f) (hn : 0 ≤ n ∧ n ≤ 200) (hf : ∀ i : Int, 0 ≤ i ∧ i < n → 0 ≤ f i ∧ f i ≤ 255) (hd : 6 ≤ d) {k u : Int} (kk : P x d mX5_partIntoTokens Q (0, 0) 55 [some (vR q), some (vR tq), some (vI k), some (vI (rn bS f n u))] [] N σ) : ∀ (t : Nat) (e : Int), 0 ≤ e ∧ e ≤ n → n - e < t → rn bS f n e = rn bS f n u → P x d mX5_partIntoTokens Q (0, 0) 30 [some (vR q), some (vR tq), some (vI k), some (vI e)] [] N σ := by
  intro t
  induction t with
  | zero =>
    intro e he ht hr
    exfalso; omega
  | succ t ih =>
    intro e he ht hr
    have hLq := hL.1
    refine P.iload_n (dq dtX5_partIntoTokens_0 18 rfl) rfl ?_
    refine P.aload_n (dq dtX5_partIntoTokens_0 19 rfl) rfl ?_
    refine P.get flX5_46 (dq dtX5_partIntoTokens_0 20 rfl) (by repeat (first | assumption | exact up_s | rw [up_n (by first | assumption | (apply Ne.symm; assumption) | decide | omega)])) (by rfl) ?_
    refine P.icmp_ge (t := 55) (dq dtX5_partIntoTokens_0 21 rfl) rfl (by omega) (by omega) (fun c_35 => ?_) (fun c_35 => ?_)
    · first | (rw [rn_n (by omega)] at hr; rw [hr]; exact kk) | (rw [rn_n (fun h9 => m_43 (of_decide_eq_true h9.2))] at hr; rw [hr]; exact kk)
    · refine P.aload_n (dq dtX5_partIntoTokens_0 22 rfl) rfl ?_
      refine P.iload_n (dq dtX5_partIntoTokens_0 23 rfl) rfl ?_
      refine P.callV1 (M' := mX1_at) (d' := d - 1) mlX5_51 mcX1_at mvX1_at (dq dtX5_partIntoTokens_0 24 rfl) (by omega) (Nat.le_of_ble_eq_true rfl) (by repeat (first | assumption | exact up_s | rw [up_n (by first | assumption | (apply Ne.symm; assumption) | decide | omega)])) rfl ?_
      refine ct_X1_at hL.1 hL.2 (by omega) (by omega) (fun n_40 => ?_) (fun n_40 => absurd (by omega) n_40)
      have f_40 := hf _ n_40
      refine P.callSN1 (M' := mX6_isSmallLetter) (d' := d - 1) nlX5_55 mcX6_isSmallLetter msX6_isSmallLetter (dq dtX5_partIntoTokens_0 25 rfl) (by omega) (Nat.le_of_ble_eq_true rfl) ?_
      refine ct_X6_isSmallLetter (by omega) (fun m_43 => ?_) (fun m_43 => ?_)
      · refine P.if_eq (t := 55) (dq dtX5_partIntoTokens_0 26 rfl) rfl (by omega) (fun h9 => absurd h9 (by decide)) (fun _ => ?_)
        refine P.iinc (dq dtX5_partIntoTokens_0 27 rfl) rfl (by decide) rfl rfl ?_
        refine P.goto (t := 30) (dq dtX5_partIntoTokens_0 28 rfl) rfl ?_
        exact ih (e + 1) (by omega) (by omega) (by rw [← hr]; exact (rn_y (by omega) (decide_eq_true m_43)).symm)
      · refine P.if_eq (t := 55) (dq dtX5_partIntoTokens_0 26 rfl) rfl (by omega) (fun _ => ?_) (fun h9 => absurd h9 (by decide))
        first | (rw [rn_n (by omega)] at hr; rw [hr]; exact kk) | (rw [rn_n (fun h9 => m_43 (of_decide_eq_true h9.2))] at hr; rw [hr]; exact kk)
theorem lp_runD {x : CX} {d N : Nat} {σ : PH} {Q : PQ} {q tq : Nat} {n : Int} {f : Int → Int} (hL : Ls σ tq 200 n f) (hn : 0 ≤ n ∧ n ≤ 200) (hf : ∀ i : Int, 0 ≤ i ∧ i < n → 0 ≤ f i ∧ f i ≤ 255) (hd : 6 ≤ d) {k u : Int} (kk : P x d mX5_partIntoTokens Q (0, 0) 106 [some (vR q), some (vR tq), some (vI k), some (vI (rn bD f n u))] [] N σ) : ∀ (t : Nat) (e : Int), 0 ≤ e ∧ e ≤ n → n - e < t → rn bD f n e = rn bD f n u → P x d mX5_partIntoTokens Q (0, 0) 81 [some (vR q), some (vR tq), some (vI k), some (vI e)] [] N σ := by
  intro t
  induction t with
  | zero =>
    intro e he ht hr
    exfalso; omega
  | succ t ih =>
    intro e he ht hr
    have hLq := hL.1
    refine P.iload_n (dq dtX5_partIntoTokens_0 43 rfl) rfl ?_
    refine P.aload_n (dq dtX5_partIntoTokens_0 44 rfl) rfl ?_
    refine P.get flX5_46 (dq dtX5_partIntoTokens_0 45 rfl) (by repeat (first | assumption | exact up_s | rw [up_n (by first | assumption | (apply Ne.symm; assumption) | decide | omega)])) (by rfl) ?_
    refine P.icmp_ge (t := 106) (dq dtX5_partIntoTokens_0 46 rfl) rfl (by omega) (by omega) (fun c_86 => ?_) (fun c_86 => ?_)
    · first | (rw [rn_n (by omega)] at hr; rw [hr]; exact kk) | (rw [rn_n (fun h9 => m_94 (of_decide_eq_true h9.2))] at hr; rw [hr]; exact kk)
    · refine P.aload_n (dq dtX5_partIntoTokens_0 47 rfl) rfl ?_
      refine P.iload_n (dq dtX5_partIntoTokens_0 48 rfl) rfl ?_
      refine P.callV1 (M' := mX1_at) (d' := d - 1) mlX5_51 mcX1_at mvX1_at (dq dtX5_partIntoTokens_0 49 rfl) (by omega) (Nat.le_of_ble_eq_true rfl) (by repeat (first | assumption | exact up_s | rw [up_n (by first | assumption | (apply Ne.symm; assumption) | decide | omega)])) rfl ?_
      refine ct_X1_at hL.1 hL.2 (by omega) (by omega) (fun n_91 => ?_) (fun n_91 => absurd (by omega) n_91)
      have f_91 := hf _ n_91
      refine P.callSN1 (M' := mX6_isDigit) (d' := d - 1) nlX5_66 mcX6_isDigit msX6_isDigit (dq dtX5_partIntoTokens_0 50 rfl) (by omega) (Nat.le_of_ble_eq_true rfl) ?_
      refine ct_X6_isDigit (by omega) (fun m_94 => ?_) (fun m_94 => ?_)
      · refine P.if_eq (t := 106) (dq dtX5_partIntoTokens_0 51 rfl) rfl (by omega) (fun h9 => absurd h9 (by decide)) (fun _ => ?_)
        refine P.iinc (dq dtX5_partIntoTokens_0 52 rfl) rfl (by decide) rfl rfl ?_
        refine P.goto (t := 81) (dq dtX5_partIntoTokens_0 53 rfl) rfl ?_
        exact ih (e + 1) (by omega) (by omega) (by rw [← hr]; exact (rn_y (by omega) (decide_eq_true m_94)).symm)
      · refine P.if_eq (t := 106) (dq dtX5_partIntoTokens_0 51 rfl) rfl (by omega) (fun _ => ?_) (fun h9 => absurd h9 (by decide))
        first | (rw [rn_n (by omega)] at hr; rw [hr]; exact kk) | (rw [rn_n (fun h9 => m_94 (of_decide_eq_true h9.2))] at hr; rw [hr]; exact kk)
theorem lp_part {x : CX} {d N : Nat} {σ : PH} {Q : PQ} {q tq : Nat} {n : Int} {f : Int → Int} (hL : Ls σ tq 200 n f) (hn : 0 ≤ n ∧ n ≤ 200) (hf : ∀ i : Int, 0 ≤ i ∧ i < n → 0 ≤ f i ∧ f i ≤ 255) (hd : 6 ≤ d) {ti c : Int} (hqq : q + 3 < tq ∨ tq + 1 < q) (h : ∀ (σ' : PH) (st kd vl : Int → Int) (m : Int), Rd σ' q st kd vl m ti c → TK f n st kd vl m → Fr σ σ' [q, q + 1, q + 2, q + 3] → Q none σ') : ∀ (t : Nat) (k j : Int) (st kd vl : Int → Int) (σ' : PH), 0 ≤ k ∧ k ≤ n → n - k < t → Rd σ' q st kd vl j ti c → (0 ≤ j ∧ j ≤ k) → (∀ i : Int, 0 ≤ i → i < j → TK1 f n st kd vl i) → (∀ i : Int, 0 ≤ i → i + 1 < j → st (i + 1) = skp f n (tkE f n (st i))) → (0 < j → st 0 = skp f n 0 ∧ skp f n k = skp f n (tkE f n (st (j - 1)))) → (j = 0 → skp f n k = skp f n 0) → Fr σ σ' [q, q + 1, q + 2, q + 3] → P x d mX5_partIntoTokens Q (0, 0) 7 [some (vR q), some (vR tq), some (vI k), none] [] N σ' := by
  intro t
  induction t with
  | zero =>
    intro k j st kd vl σ' hk ht hR hj hA hB hC hD hF
    exfalso; omega
  | succ t ih =>
    intro k j st kd vl σ' hk ht hR hj hA hB hC hD hF
    have hL1 : Ls σ' tq 200 n f := hL.fr hF (by simp <;> omega) (by simp <;> omega)
    have hLq := hL1.1
    have hRq := hR.1
    refine P.iload_n (dq dtX5_partIntoTokens_0 5 rfl) rfl ?_
    refine P.aload_n (dq dtX5_partIntoTokens_0 6 rfl) rfl ?_
    refine P.get flX5_46 (dq dtX5_partIntoTokens_0 7 rfl) (by repeat (first | assumption | exact up_s | rw [up_n (by first | assumption | (apply Ne.symm; assumption) | decide | omega)])) (by rfl) ?_
    refine P.icmp_ge (t := 148) (dq dtX5_partIntoTokens_0 8 rfl) rfl (by omega) (by omega) (fun c_12 => ?_) (fun c_12 => ?_)
    · refine P.aload_n (dq dtX5_partIntoTokens_1 15 rfl) rfl ?_
      refine P.aload_n (dq dtX5_partIntoTokens_1 16 rfl) rfl ?_
      refine P.get flX5_46 (dq dtX5_partIntoTokens_1 17 rfl) (by repeat (first | assumption | exact up_s | rw [up_n (by first | assumption | (apply Ne.symm; assumption) | decide | omega)])) (by rfl) ?_
      refine P.iconst (dq dtX5_partIntoTokens_1 18 rfl) ?_
      refine P.iconst (dq dtX5_partIntoTokens_1 19 rfl) ?_
      refine P.callV3 (M' := mX5_addToken) (d' := d - 1) mlX5_62 mcX5_addToken mvX5_addToken (dq dtX5_partIntoTokens_1 20 rfl) (by omega) (Nat.le_of_ble_eq_true rfl) (by repeat (first | assumption | exact up_s | rw [up_n (by first | assumption | (apply Ne.symm; assumption) | decide | omega)])) rfl ?_
      refine ct_X5_addToken hR (by omega) (fun σ1 hR1 hF1 => ?_)
      refine P.vret (dq dtX5_partIntoTokens_1 21 rfl) rfl rfl rfl ?_
      obtain rfl : k = n := by omega
      have hks : skp f k k = k := rn_n (by omega)
      refine h σ1 (upI st j k) (upI kd j 0) (upI vl j 0) (j + 1) hR1 ⟨by omega, ?_, fun i g1 g2 => ⟨?_, ?_⟩, ?_, ?_, ?_⟩ (hF.trans hF1)
      · by_cases e : j = 0
        · have := hD e
          rw [e, upI_s, ← this, hks]
        · rw [upI_n (by omega)]
          exact (hC (by omega)).1
      · have := hA i g1 (by omega)
        unfold TK1 at this ⊢
        rw [upI_n (by omega), upI_n (by omega), upI_n (by omega)]
        exact this
      · by_cases e : i + 1 = j
        · rw [e, upI_s, upI_n (by omega)]
          have := (hC (by omega)).2
          rw [show j - 1 = i by omega] at this
          rw [← this, hks]
        · rw [upI_n e, upI_n (by omega)]
          exact hB i g1 (by omega)
      · rw [show j + 1 - 1 = j by omega, upI_s]
      · rw [show j + 1 - 1 = j by omega, upI_s]
      · rw [show j + 1 - 1 = j by omega, upI_s]
    · refine P.iload_n (dq dtX5_partIntoTokens_0 9 rfl) rfl ?_
      refine P.iconst (dq dtX5_partIntoTokens_0 10 rfl) ?_
      refine P.iadd (dq dtX5_partIntoTokens_0 11 rfl) ?_
      refine P.istore_n (dq dtX5_partIntoTokens_0 12 rfl) (by decide) rfl rfl ?_
      refine P.aload_n (dq dtX5_partIntoTokens_0 13 rfl) rfl ?_
      refine P.iload_n (dq dtX5_partIntoTokens_0 14 rfl) rfl ?_
      refine P.callV1 (M' := mX1_at) (d' := d - 1) mlX5_51 mcX1_at mvX1_at (dq dtX5_partIntoTokens_0 15 rfl) (by omega) (Nat.le_of_ble_eq_true rfl) (by repeat (first | assumption | exact up_s | rw [up_n (by first | assumption | (apply Ne.symm; assumption) | decide | omega)])) rfl ?_
      refine ct_X1_at hL1.1 hL1.2 (by omega) (by omega) (fun n_21 => ?_) (fun n_21 => absurd (by omega) n_21)
      have f_21 := hf _ n_21
      refine P.callSN1 (M' := mX6_isSmallLetter) (d' := d - 1) nlX5_55 mcX6_isSmallLetter msX6_isSmallLetter (dq dtX5_partIntoTokens_0 16 rfl) (by omega) (Nat.le_of_ble_eq_true rfl) ?_
      refine ct_X6_isSmallLetter (by omega) (fun m_24 => ?_) (fun m_24 => ?_)
      · refine P.if_eq (t := 70) (dq dtX5_partIntoTokens_0 17 rfl) rfl (by omega) (fun h9 => absurd h9 (by decide)) (fun _ => ?_)
        have hb8 := rn_bd (pr := bS) (f := f) (n := n) (k := k + 1)
        refine lp_runS (u := k + 1) hL1 hn hf hd ?_ (n - k + 1).toNat (k + 1) (by omega) (by omega) rfl
        refine P.aload_n (dq dtX5_partIntoTokens_0 29 rfl) rfl ?_
        refine P.iload_n (dq dtX5_partIntoTokens_0 30 rfl) rfl ?_
        refine P.iconst (dq dtX5_partIntoTokens_0 31 rfl) ?_
        refine P.aload_n (dq dtX5_partIntoTokens_0 32 rfl) rfl ?_
        refine P.iload_n (dq dtX5_partIntoTokens_0 33 rfl) rfl ?_
        refine P.iload_n (dq dtX5_partIntoTokens_0 34 rfl) rfl ?_
        refine P.callV2 (M' := mX1_wordIn) (d' := d - 1) mlX5_58 mcX1_wordIn mvX1_wordIn (dq dtX5_partIntoTokens_0 35 rfl) (by omega) (Nat.le_of_ble_eq_true rfl) (by repeat (first | assumption | exact up_s | rw [up_n (by first | assumption | (apply Ne.symm; assumption) | decide | omega)])) rfl ?_
        refine ct_X1_wordIn hL1.1 hL1.2 (by omega) (fun i hi => by have := hf i hi; omega) (by omega) (by omega) ?_
        refine P.callV3 (M' := mX5_addToken) (d' := d - 1) mlX5_62 mcX5_addToken mvX5_addToken (dq dtX5_partIntoTokens_0 36 rfl) (by omega) (Nat.le_of_ble_eq_true rfl) (by repeat (first | assumption | exact up_s | rw [up_n (by first | assumption | (apply Ne.symm; assumption) | decide | omega)])) rfl ?_
        refine ct_X5_addToken hR (by omega) (fun σ1 hR1 hF1 => ?_)
        refine P.goto (t := 143) (dq dtX5_partIntoTokens_0 37 rfl) rfl ?_
        refine P.iload_n (dq dtX5_partIntoTokens_1 12 rfl) rfl ?_
        refine P.istore_n (dq dtX5_partIntoTokens_1 13 rfl) (by decide) rfl rfl ?_
        refine P.goto (t := 7) (dq dtX5_partIntoTokens_1 14 rfl) rfl ?_
        have eT : tkE f n k = rn bS f n (k + 1) := if_pos (show bS (f k) = true from decide_eq_true m_24)
        have hb9 := tkE_b (f := f) (n := n) (k := k) (by omega)
        have hks : skp f n k = k := rn_n (fun h9 => (show f k ≠ 32 by omega) (of_decide_eq_true h9.2))
        refine P.keep [0, 1, 2] ?_
        refine ih (rn bS f n (k + 1)) (j + 1) (upI st j k) (upI kd j (1)) (upI vl j (wdF f k (rn bS f n (k + 1)))) σ1 (by omega) (by omega) hR1 (by omega) (fun i g1 g2 => ?_) (fun i g1 g2 => ?_) (fun _ => ⟨?_, ?_⟩) (fun h9 => absurd h9 (by omega)) (hF.trans hF1)
        · by_cases e : i = j
          · subst e
            unfold TK1
            rw [upI_s, upI_s, upI_s]
            exact ⟨by omega, by omega, by omega, (if_pos (show bS (f k) = true from decide_eq_true m_24)).symm, by { unfold vlF; rw [if_pos (show bS (f k) = true from decide_eq_true m_24), eT] }⟩
          · have := hA i g1 (by omega)
            unfold TK1 at this ⊢
            rw [upI_n e, upI_n e, upI_n e]
            exact this
        · by_cases e : i + 1 = j
          · rw [e, upI_s, upI_n (by omega)]
            have := (hC (by omega)).2
            rw [show j - 1 = i by omega] at this
            rw [← this, hks]
          · rw [upI_n e, upI_n (by omega)]
            exact hB i g1 (by omega)
        · by_cases e : j = 0
          · have := hD e
            rw [e, upI_s, ← this, hks]
          · rw [upI_n (by omega)]
            exact (hC (by omega)).1
        · rw [show j + 1 - 1 = j by omega, upI_s, eT]
      · refine P.if_eq (t := 70) (dq dtX5_partIntoTokens_0 17 rfl) rfl (by omega) (fun _ => ?_) (fun h9 => absurd h9 (by decide))
        refine P.aload_n (dq dtX5_partIntoTokens_0 38 rfl) rfl ?_
        refine P.iload_n (dq dtX5_partIntoTokens_0 39 rfl) rfl ?_
        refine P.callV1 (M' := mX1_at) (d' := d - 1) mlX5_51 mcX1_at mvX1_at (dq dtX5_partIntoTokens_0 40 rfl) (by omega) (Nat.le_of_ble_eq_true rfl) (by repeat (first | assumption | exact up_s | rw [up_n (by first | assumption | (apply Ne.symm; assumption) | decide | omega)])) rfl ?_
        refine ct_X1_at hL1.1 hL1.2 (by omega) (by omega) (fun n_72 => ?_) (fun n_72 => absurd (by omega) n_72)
        have f_72 := hf _ n_72
        refine P.callSN1 (M' := mX6_isDigit) (d' := d - 1) nlX5_66 mcX6_isDigit msX6_isDigit (dq dtX5_partIntoTokens_0 41 rfl) (by omega) (Nat.le_of_ble_eq_true rfl) ?_
        refine ct_X6_isDigit (by omega) (fun m_75 => ?_) (fun m_75 => ?_)
        · refine P.if_eq (t := 122) (dq dtX5_partIntoTokens_0 42 rfl) rfl (by omega) (fun h9 => absurd h9 (by decide)) (fun _ => ?_)
          have hb8 := rn_bd (pr := bD) (f := f) (n := n) (k := k + 1)
          refine lp_runD (u := k + 1) hL1 hn hf hd ?_ (n - k + 1).toNat (k + 1) (by omega) (by omega) rfl
          refine P.aload_n (dq dtX5_partIntoTokens_0 54 rfl) rfl ?_
          refine P.iload_n (dq dtX5_partIntoTokens_0 55 rfl) rfl ?_
          refine P.iconst (dq dtX5_partIntoTokens_0 56 rfl) ?_
          refine P.aload_n (dq dtX5_partIntoTokens_0 57 rfl) rfl ?_
          refine P.iload_n (dq dtX5_partIntoTokens_0 58 rfl) rfl ?_
          refine P.iload_n (dq dtX5_partIntoTokens_0 59 rfl) rfl ?_
          refine P.iconst (dq dtX5_partIntoTokens_0 60 rfl) ?_
          refine P.callV3 (M' := mX1_numberIn) (d' := d - 1) mlX5_69 mcX1_numberIn mvX1_numberIn (dq dtX5_partIntoTokens_0 61 rfl) (by omega) (Nat.le_of_ble_eq_true rfl) (by repeat (first | assumption | exact up_s | rw [up_n (by first | assumption | (apply Ne.symm; assumption) | decide | omega)])) rfl ?_
          refine ct_X1_numberIn hL1.1 hL1.2 (by omega) (fun i hi => by have := hf i hi; omega) (by omega) (by omega) (by omega) (fun n_113 => ?_) (fun n_113 => ?_)
          · refine P.callV3 (M' := mX5_addToken) (d' := d - 1) mlX5_62 mcX5_addToken mvX5_addToken (dq dtX5_partIntoTokens_0 62 rfl) (by omega) (Nat.le_of_ble_eq_true rfl) (by repeat (first | assumption | exact up_s | rw [up_n (by first | assumption | (apply Ne.symm; assumption) | decide | omega)])) rfl ?_
            refine ct_X5_addToken hR (by omega) (fun σ1 hR1 hF1 => ?_)
            refine P.goto (t := 143) (dq dtX5_partIntoTokens_0 63 rfl) rfl ?_
            refine P.iload_n (dq dtX5_partIntoTokens_1 12 rfl) rfl ?_
            refine P.istore_n (dq dtX5_partIntoTokens_1 13 rfl) (by decide) rfl rfl ?_
            refine P.goto (t := 7) (dq dtX5_partIntoTokens_1 14 rfl) rfl ?_
            have eT : tkE f n k = rn bD f n (k + 1) := (if_neg (show ¬ bS (f k) = true from fun h9 => m_24 (of_decide_eq_true h9))).trans (if_pos (show bD (f k) = true from decide_eq_true m_75))
            have hb9 := tkE_b (f := f) (n := n) (k := k) (by omega)
            have hks : skp f n k = k := rn_n (fun h9 => (show f k ≠ 32 by omega) (of_decide_eq_true h9.2))
            refine P.keep [0, 1, 2] ?_
            refine ih (rn bD f n (k + 1)) (j + 1) (upI st j k) (upI kd j (2)) (upI vl j (-1)) σ1 (by omega) (by omega) hR1 (by omega) (fun i g1 g2 => ?_) (fun i g1 g2 => ?_) (fun _ => ⟨?_, ?_⟩) (fun h9 => absurd h9 (by omega)) (hF.trans hF1)
            · by_cases e : i = j
              · subst e
                unfold TK1
                rw [upI_s, upI_s, upI_s]
                exact ⟨by omega, by omega, by omega, ((if_neg (show ¬ bS (f k) = true from fun h9 => m_24 (of_decide_eq_true h9))).trans (if_pos (show bD (f k) = true from decide_eq_true m_75))).symm, by { unfold vlF; rw [if_neg (show ¬ bS (f k) = true from fun h9 => m_24 (of_decide_eq_true h9)), if_pos (show bD (f k) = true from decide_eq_true m_75), eT]; unfold nmF; rw [if_neg n_113] }⟩
              · have := hA i g1 (by omega)
                unfold TK1 at this ⊢
                rw [upI_n e, upI_n e, upI_n e]
                exact this
            · by_cases e : i + 1 = j
              · rw [e, upI_s, upI_n (by omega)]
                have := (hC (by omega)).2
                rw [show j - 1 = i by omega] at this
                rw [← this, hks]
              · rw [upI_n e, upI_n (by omega)]
                exact hB i g1 (by omega)
            · by_cases e : j = 0
              · have := hD e
                rw [e, upI_s, ← this, hks]
              · rw [upI_n (by omega)]
                exact (hC (by omega)).1
            · rw [show j + 1 - 1 = j by omega, upI_s, eT]
          · refine P.callV3 (M' := mX5_addToken) (d' := d - 1) mlX5_62 mcX5_addToken mvX5_addToken (dq dtX5_partIntoTokens_0 62 rfl) (by omega) (Nat.le_of_ble_eq_true rfl) (by repeat (first | assumption | exact up_s | rw [up_n (by first | assumption | (apply Ne.symm; assumption) | decide | omega)])) rfl ?_
            refine ct_X5_addToken hR (by omega) (fun σ1 hR1 hF1 => ?_)
            refine P.goto (t := 143) (dq dtX5_partIntoTokens_0 63 rfl) rfl ?_
            refine P.iload_n (dq dtX5_partIntoTokens_1 12 rfl) rfl ?_
            refine P.istore_n (dq dtX5_partIntoTokens_1 13 rfl) (by decide) rfl rfl ?_
            refine P.goto (t := 7) (dq dtX5_partIntoTokens_1 14 rfl) rfl ?_
            have eT : tkE f n k = rn bD f n (k + 1) := (if_neg (show ¬ bS (f k) = true from fun h9 => m_24 (of_decide_eq_true h9))).trans (if_pos (show bD (f k) = true from decide_eq_true m_75))
            have hb9 := tkE_b (f := f) (n := n) (k := k) (by omega)
            have hks : skp f n k = k := rn_n (fun h9 => (show f k ≠ 32 by omega) (of_decide_eq_true h9.2))
            refine P.keep [0, 1, 2] ?_
            refine ih (rn bD f n (k + 1)) (j + 1) (upI st j k) (upI kd j (2)) (upI vl j (dgF f (rn bD f n (k + 1) - k).toNat k 0)) σ1 (by omega) (by omega) hR1 (by omega) (fun i g1 g2 => ?_) (fun i g1 g2 => ?_) (fun _ => ⟨?_, ?_⟩) (fun h9 => absurd h9 (by omega)) (hF.trans hF1)
            · by_cases e : i = j
              · subst e
                unfold TK1
                rw [upI_s, upI_s, upI_s]
                exact ⟨by omega, by omega, by omega, ((if_neg (show ¬ bS (f k) = true from fun h9 => m_24 (of_decide_eq_true h9))).trans (if_pos (show bD (f k) = true from decide_eq_true m_75))).symm, by { unfold vlF; rw [if_neg (show ¬ bS (f k) = true from fun h9 => m_24 (of_decide_eq_true h9)), if_pos (show bD (f k) = true from decide_eq_true m_75), eT]; unfold nmF; rw [if_pos n_113] }⟩
              · have := hA i g1 (by omega)
                unfold TK1 at this ⊢
                rw [upI_n e, upI_n e, upI_n e]
                exact this
            · by_cases e : i + 1 = j
              · rw [e, upI_s, upI_n (by omega)]
                have := (hC (by omega)).2
                rw [show j - 1 = i by omega] at this
                rw [← this, hks]
              · rw [upI_n e, upI_n (by omega)]
                exact hB i g1 (by omega)
            · by_cases e : j = 0
              · have := hD e
                rw [e, upI_s, ← this, hks]
              · rw [upI_n (by omega)]
                exact (hC (by omega)).1
            · rw [show j + 1 - 1 = j by omega, upI_s, eT]
        · refine P.if_eq (t := 122) (dq dtX5_partIntoTokens_0 42 rfl) rfl (by omega) (fun _ => ?_) (fun h9 => absurd h9 (by decide))
          refine P.aload_n (dq dtX5_partIntoTokens_1 0 rfl) rfl ?_
          refine P.iload_n (dq dtX5_partIntoTokens_1 1 rfl) rfl ?_
          refine P.callV1 (M' := mX1_at) (d' := d - 1) mlX5_51 mcX1_at mvX1_at (dq dtX5_partIntoTokens_1 2 rfl) (by omega) (Nat.le_of_ble_eq_true rfl) (by repeat (first | assumption | exact up_s | rw [up_n (by first | assumption | (apply Ne.symm; assumption) | decide | omega)])) rfl ?_
          refine ct_X1_at hL1.1 hL1.2 (by omega) (by omega) (fun n_124 => ?_) (fun n_124 => absurd (by omega) n_124)
          have f_124 := hf _ n_124
          refine P.bipush (dq dtX5_partIntoTokens_1 3 rfl) rfl ?_
          refine P.icmp_eq (t := 143) (dq dtX5_partIntoTokens_1 4 rfl) rfl (by omega) (by omega) (fun c_129 => ?_) (fun c_129 => ?_)
          · refine P.iload_n (dq dtX5_partIntoTokens_1 12 rfl) rfl ?_
            refine P.istore_n (dq dtX5_partIntoTokens_1 13 rfl) (by decide) rfl rfl ?_
            refine P.goto (t := 7) (dq dtX5_partIntoTokens_1 14 rfl) rfl ?_
            refine P.keep [0, 1, 2] ?_
            refine ih (k + 1) j st kd vl σ' (by omega) (by omega) hR (by omega) hA hB (fun h9 => ⟨(hC h9).1, by rw [← (hC h9).2]; exact (rn_y (by omega) (decide_eq_true (show f k = 32 by omega))).symm⟩) (fun h9 => by rw [← hD h9]; exact (rn_y (by omega) (decide_eq_true (show f k = 32 by omega))).symm) hF
          · refine P.aload_n (dq dtX5_partIntoTokens_1 5 rfl) rfl ?_
            refine P.iload_n (dq dtX5_partIntoTokens_1 6 rfl) rfl ?_
            refine P.iconst (dq dtX5_partIntoTokens_1 7 rfl) ?_
            refine P.aload_n (dq dtX5_partIntoTokens_1 8 rfl) rfl ?_
            refine P.iload_n (dq dtX5_partIntoTokens_1 9 rfl) rfl ?_
            refine P.callV1 (M' := mX1_at) (d' := d - 1) mlX5_51 mcX1_at mvX1_at (dq dtX5_partIntoTokens_1 10 rfl) (by omega) (Nat.le_of_ble_eq_true rfl) (by repeat (first | assumption | exact up_s | rw [up_n (by first | assumption | (apply Ne.symm; assumption) | decide | omega)])) rfl ?_
            refine ct_X1_at hL1.1 hL1.2 (by omega) (by omega) (fun n_137 => ?_) (fun n_137 => absurd (by omega) n_137)
            have f_137 := hf _ n_137
            refine P.callV3 (M' := mX5_addToken) (d' := d - 1) mlX5_62 mcX5_addToken mvX5_addToken (dq dtX5_partIntoTokens_1 11 rfl) (by omega) (Nat.le_of_ble_eq_true rfl) (by repeat (first | assumption | exact up_s | rw [up_n (by first | assumption | (apply Ne.symm; assumption) | decide | omega)])) rfl ?_
            refine ct_X5_addToken hR (by omega) (fun σ1 hR1 hF1 => ?_)
            refine P.iload_n (dq dtX5_partIntoTokens_1 12 rfl) rfl ?_
            refine P.istore_n (dq dtX5_partIntoTokens_1 13 rfl) (by decide) rfl rfl ?_
            refine P.goto (t := 7) (dq dtX5_partIntoTokens_1 14 rfl) rfl ?_
            have eT : tkE f n k = k + 1 := (if_neg (show ¬ bS (f k) = true from fun h9 => m_24 (of_decide_eq_true h9))).trans (if_neg (show ¬ bD (f k) = true from fun h9 => m_75 (of_decide_eq_true h9)))
            have hb9 := tkE_b (f := f) (n := n) (k := k) (by omega)
            have hks : skp f n k = k := rn_n (fun h9 => (show f k ≠ 32 by omega) (of_decide_eq_true h9.2))
            refine P.keep [0, 1, 2] ?_
            refine ih (k + 1) (j + 1) (upI st j k) (upI kd j (3)) (upI vl j (f k)) σ1 (by omega) (by omega) hR1 (by omega) (fun i g1 g2 => ?_) (fun i g1 g2 => ?_) (fun _ => ⟨?_, ?_⟩) (fun h9 => absurd h9 (by omega)) (hF.trans hF1)
            · by_cases e : i = j
              · subst e
                unfold TK1
                rw [upI_s, upI_s, upI_s]
                exact ⟨by omega, by omega, by omega, ((if_neg (show ¬ bS (f k) = true from fun h9 => m_24 (of_decide_eq_true h9))).trans (if_neg (show ¬ bD (f k) = true from fun h9 => m_75 (of_decide_eq_true h9)))).symm, by { unfold vlF; rw [if_neg (show ¬ bS (f k) = true from fun h9 => m_24 (of_decide_eq_true h9)), if_neg (show ¬ bD (f k) = true from fun h9 => m_75 (of_decide_eq_true h9))] }⟩
              · have := hA i g1 (by omega)
                unfold TK1 at this ⊢
                rw [upI_n e, upI_n e, upI_n e]
                exact this
            · by_cases e : i + 1 = j
              · rw [e, upI_s, upI_n (by omega)]
                have := (hC (by omega)).2
                rw [show j - 1 = i by omega] at this
                rw [← this, hks]
              · rw [upI_n e, upI_n (by omega)]
                exact hB i g1 (by omega)
            · by_cases e : j = 0
              · have := hD e
                rw [e, upI_s, ← this, hks]
              · rw [upI_n (by omega)]
                exact (hC (by omega)).1
            · rw [show j + 1 - 1 = j by omega, upI_s, eT]
