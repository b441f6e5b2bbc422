theorem lp_writeOut {x : CX} {d N : Nat} {σ : PH} {Q : PQ} {q lq r : Nat} {p s po pt pl : Int} {co : Int → Int} (hq : σ q = fgO q p s po pt pl) (h7 : σ (q + 7) = pcI 0 8 co) (hp : 2 ≤ p ∧ p ≤ 8) (hs : 10 ≤ s ∧ s ≤ 99) (hT : TB co p) (hpl : 0 ≤ pl ∧ pl < 10000) (hr : r = 128) (hlq : lq + 1 < q ∨ q + 7 < lq) (hd : 4 ≤ d) (h : ∀ (σ' : PH) (f' : Int → Int), Ls σ' lq r (shA co s p pl).length f' → Rp f' (shA co s p pl) → Fr σ σ' [lq, lq + 1] → Q none σ') : ∀ (t k : Nat) (f0 : Int → Int) (σ' : PH), (k : Int) ≤ p → p - k < t → Ls σ' lq r (shL co s k).length f0 → Rp f0 (shL co s k) → Fr σ σ' [lq, lq + 1] → P x d mX0_writeOut Q (0, 0) 7 [some (vR q), some (vR lq), some (vI k), none] [] N σ' := by
  intro t
  induction t with
  | zero =>
    intro k f0 σ' hk ht a0 b0 hF
    exfalso; omega
  | succ t ih =>
    intro k f0 σ' hk ht a0 b0 hF
    have hl0 := shL_len co s k (by omega)
    have l0 := a0.1
    have hq' : σ' q = fgO q p s po pt pl := (hF q (by simp <;> omega)).trans hq
    have h7' : σ' (q + 7) = pcI 0 8 co := (hF (q + 7) (by simp <;> omega)).trans h7
    refine P.iload_n (dq dtX0_writeOut 5 rfl) rfl ?_
    refine P.aload_n (dq dtX0_writeOut 6 rfl) rfl ?_
    refine P.get flX0_9 (dq dtX0_writeOut 7 rfl) (by repeat (first | assumption | exact up_s | rw [up_n (by first | assumption | (apply Ne.symm; assumption) | decide | omega)])) (by rfl) ?_
    refine P.icmp_ge (t := 67) (dq dtX0_writeOut 8 rfl) rfl (by omega) (by omega) (fun c_12 => ?_) (fun c_12 => ?_)
    · obtain rfl : k = p.toNat := by omega
      refine P.aload_n (dq dtX0_writeOut 35 rfl) rfl ?_
      refine P.bipush (dq dtX0_writeOut 36 rfl) rfl ?_
      refine P.callV1 (M' := mX1_put) (d' := d - 1) mlX0_133 mcX1_put mvX1_put (dq dtX0_writeOut 37 rfl) (by omega) (Nat.le_of_ble_eq_true rfl) (by repeat (first | assumption | exact up_s | rw [up_n (by first | assumption | (apply Ne.symm; assumption) | decide | omega)])) rfl ?_
      refine ct_putL a0 b0 (by first | omega | (simp only [List.length_append, List.length_singleton] at *; omega)) (by omega) (fun σ1 f1 a1 b1 g1 => ?_)
      have l1 := a1.1
      have hq1 : σ1 q = fgO q p s po pt pl := (g1 q (by simp <;> omega)).trans hq'
      refine P.aload_n (dq dtX0_writeOut 38 rfl) rfl ?_
      refine P.aload_n (dq dtX0_writeOut 39 rfl) rfl ?_
      refine P.get flX0_46 (dq dtX0_writeOut 40 rfl) (by repeat (first | assumption | exact up_s | rw [up_n (by first | assumption | (apply Ne.symm; assumption) | decide | omega)])) (by rfl) ?_
      refine P.callV1 (M' := mX1_putNumber) (d' := d - 1) mlX0_129 mcX1_putNumber mvX1_putNumber (dq dtX0_writeOut 41 rfl) (by omega) (Nat.le_of_ble_eq_true rfl) (by repeat (first | assumption | exact up_s | rw [up_n (by first | assumption | (apply Ne.symm; assumption) | decide | omega)])) rfl ?_
      refine ct_X1_putNumber a1 b1 (by first | omega | (simp only [List.length_append, List.length_singleton] at *; omega)) (by omega) (by omega) (fun σ2 f2 a2 b2 g2 => ?_)
      refine P.vret (dq dtX0_writeOut 42 rfl) rfl rfl rfl ?_
      exact h σ2 f2 a2 b2 ((hF.trans g1).trans g2)
    · have hms := mul_bd (k := k) (s := s) (by omega) (by omega) (by omega) (by omega)
      have hcb := hT.1 k (by omega) (by omega)
      have hd1 := digs_len k
      have hd2 : (digs k).length = 1 := by { unfold digs; rw [if_pos (by omega)]; rfl }
      refine P.aload_n (dq dtX0_writeOut 9 rfl) rfl ?_
      refine P.iload_n (dq dtX0_writeOut 10 rfl) rfl ?_
      refine P.callV1 (M' := mX0_offsetAt) (d' := d - 1) mlX0_108 mcX0_offsetAt mvX0_offsetAt (dq dtX0_writeOut 11 rfl) (by omega) (Nat.le_of_ble_eq_true rfl) (by repeat (first | assumption | exact up_s | rw [up_n (by first | assumption | (apply Ne.symm; assumption) | decide | omega)])) rfl ?_
      refine ct_X0_offsetAt (by repeat (first | assumption | exact up_s | rw [up_n (by first | assumption | (apply Ne.symm; assumption) | decide | omega)])) (by omega) (by omega) (by repeat (first | assumption | exact up_s | rw [up_n (by first | assumption | (apply Ne.symm; assumption) | decide | omega)])) (by omega) ?_
      refine P.istore_n (dq dtX0_writeOut 12 rfl) (by decide) rfl rfl ?_
      refine P.aload_n (dq dtX0_writeOut 13 rfl) rfl ?_
      refine P.iload_n (dq dtX0_writeOut 14 rfl) rfl ?_
      refine P.callV1 (M' := mX1_putNumber) (d' := d - 1) mlX0_129 mcX1_putNumber mvX1_putNumber (dq dtX0_writeOut 15 rfl) (by omega) (Nat.le_of_ble_eq_true rfl) (by repeat (first | assumption | exact up_s | rw [up_n (by first | assumption | (apply Ne.symm; assumption) | decide | omega)])) rfl ?_
      refine ct_X1_putNumber a0 b0 (by first | omega | (simp only [List.length_append, List.length_singleton] at *; omega)) (by omega) (by omega) (fun σ1 f1 a1 b1 g1 => ?_)
      have l1 := a1.1
      refine P.aload_n (dq dtX0_writeOut 16 rfl) rfl ?_
      refine P.bipush (dq dtX0_writeOut 17 rfl) rfl ?_
      refine P.callV1 (M' := mX1_put) (d' := d - 1) mlX0_133 mcX1_put mvX1_put (dq dtX0_writeOut 18 rfl) (by omega) (Nat.le_of_ble_eq_true rfl) (by repeat (first | assumption | exact up_s | rw [up_n (by first | assumption | (apply Ne.symm; assumption) | decide | omega)])) rfl ?_
      refine ct_putL a1 b1 (by first | omega | (simp only [List.length_append, List.length_singleton] at *; omega)) (by omega) (fun σ2 f2 a2 b2 g2 => ?_)
      have l2 := a2.1
      refine P.aload_n (dq dtX0_writeOut 19 rfl) rfl ?_
      refine P.iload_n (dq dtX0_writeOut 20 rfl) rfl ?_
      refine P.if_ge (t := 42) (dq dtX0_writeOut 21 rfl) rfl (by omega) (fun c_34 => ?_) (fun c_34 => ?_)
      · refine P.bipush (dq dtX0_writeOut 24 rfl) rfl ?_
        refine P.callV1 (M' := mX1_put) (d' := d - 1) mlX0_133 mcX1_put mvX1_put (dq dtX0_writeOut 25 rfl) (by omega) (Nat.le_of_ble_eq_true rfl) (by repeat (first | assumption | exact up_s | rw [up_n (by first | assumption | (apply Ne.symm; assumption) | decide | omega)])) rfl ?_
        refine ct_putL a2 b2 (by first | omega | (simp only [List.length_append, List.length_singleton] at *; omega)) (by omega) (fun σ3 f3 a3 b3 g3 => ?_)
        have l3 := a3.1
        refine P.aload_n (dq dtX0_writeOut 26 rfl) rfl ?_
        refine P.iload_n (dq dtX0_writeOut 27 rfl) rfl ?_
        refine P.callS1 (M' := mJ9_abs_0f7a4) (d' := d - 1) mlX0_114 mcJ9_abs_0f7a4 msJ9_abs_0f7a4 (dq dtX0_writeOut 28 rfl) (by omega) (Nat.le_of_ble_eq_true rfl) ?_
        refine ct_abs (by omega) (fun n_49 => ?_) (fun n_49 => ?_)
        · refine P.callV1 (M' := mX1_putNumber) (d' := d - 1) mlX0_129 mcX1_putNumber mvX1_putNumber (dq dtX0_writeOut 29 rfl) (by omega) (Nat.le_of_ble_eq_true rfl) (by repeat (first | assumption | exact up_s | rw [up_n (by first | assumption | (apply Ne.symm; assumption) | decide | omega)])) rfl ?_
          refine ct_X1_putNumber a3 b3 (by first | omega | (simp only [List.length_append, List.length_singleton] at *; omega)) (by omega) (by omega) (fun σ4 f4 a4 b4 g4 => ?_)
          have l4 := a4.1
          refine P.aload_n (dq dtX0_writeOut 30 rfl) rfl ?_
          refine P.bipush (dq dtX0_writeOut 31 rfl) rfl ?_
          refine P.callV1 (M' := mX1_put) (d' := d - 1) mlX0_133 mcX1_put mvX1_put (dq dtX0_writeOut 32 rfl) (by omega) (Nat.le_of_ble_eq_true rfl) (by repeat (first | assumption | exact up_s | rw [up_n (by first | assumption | (apply Ne.symm; assumption) | decide | omega)])) rfl ?_
          refine ct_putL a4 b4 (by have hd3 := digs_len (co k - k * s); have hd4 := digs_len (-(co k - k * s)); simp only [List.length_append, List.length_singleton] at *; omega) (by omega) (fun σ5 f5 a5 b5 g5 => ?_)
          refine P.iinc (dq dtX0_writeOut 33 rfl) rfl (by decide) rfl rfl ?_
          refine P.goto (t := 7) (dq dtX0_writeOut 34 rfl) rfl ?_
          refine P.keep [0, 1, 2] ?_
          have el : shL co s (k + 1) = shL co s k ++ digs k ++ [58] ++ [43] ++ digs (co k - k * s) ++ [59] := by
            show shL co s k ++ offL co s k = _
            unfold offL
            first | rw [if_pos (show co k - k * s < 0 by omega)] | rw [if_neg (show ¬ co k - k * s < 0 by omega)]
            first | rw [if_pos (show 0 ≤ co k - k * s by omega)] | rw [if_neg (show ¬ 0 ≤ co k - k * s by omega)]
            first | (exfalso; omega) | simp only [List.append_assoc]
          rw [← el] at a5 b5
          exact ih (k + 1) f5 σ5 (by omega) (by omega) a5 b5 ((((hF.trans g1).trans g2).trans g3).trans g4 |>.trans g5)
        · refine P.callV1 (M' := mX1_putNumber) (d' := d - 1) mlX0_129 mcX1_putNumber mvX1_putNumber (dq dtX0_writeOut 29 rfl) (by omega) (Nat.le_of_ble_eq_true rfl) (by repeat (first | assumption | exact up_s | rw [up_n (by first | assumption | (apply Ne.symm; assumption) | decide | omega)])) rfl ?_
          refine ct_X1_putNumber a3 b3 (by first | omega | (simp only [List.length_append, List.length_singleton] at *; omega)) (by omega) (by omega) (fun σ4 f4 a4 b4 g4 => ?_)
          have l4 := a4.1
          refine P.aload_n (dq dtX0_writeOut 30 rfl) rfl ?_
          refine P.bipush (dq dtX0_writeOut 31 rfl) rfl ?_
          refine P.callV1 (M' := mX1_put) (d' := d - 1) mlX0_133 mcX1_put mvX1_put (dq dtX0_writeOut 32 rfl) (by omega) (Nat.le_of_ble_eq_true rfl) (by repeat (first | assumption | exact up_s | rw [up_n (by first | assumption | (apply Ne.symm; assumption) | decide | omega)])) rfl ?_
          refine ct_putL a4 b4 (by have hd3 := digs_len (co k - k * s); have hd4 := digs_len (-(co k - k * s)); simp only [List.length_append, List.length_singleton] at *; omega) (by omega) (fun σ5 f5 a5 b5 g5 => ?_)
          refine P.iinc (dq dtX0_writeOut 33 rfl) rfl (by decide) rfl rfl ?_
          refine P.goto (t := 7) (dq dtX0_writeOut 34 rfl) rfl ?_
          refine P.keep [0, 1, 2] ?_
          have el : shL co s (k + 1) = shL co s k ++ digs k ++ [58] ++ [43] ++ digs (-(co k - k * s)) ++ [59] := by
            show shL co s k ++ offL co s k = _
            unfold offL
            first | rw [if_pos (show co k - k * s < 0 by omega)] | rw [if_neg (show ¬ co k - k * s < 0 by omega)]
            first | rw [if_pos (show 0 ≤ co k - k * s by omega)] | rw [if_neg (show ¬ 0 ≤ co k - k * s by omega)]
            first | (exfalso; omega) | simp only [List.append_assoc]
          rw [← el] at a5 b5
          exact ih (k + 1) f5 σ5 (by omega) (by omega) a5 b5 ((((hF.trans g1).trans g2).trans g3).trans g4 |>.trans g5)
      · refine P.bipush (dq dtX0_writeOut 22 rfl) rfl ?_
        refine P.goto (t := 44) (dq dtX0_writeOut 23 rfl) rfl ?_
        refine P.callV1 (M' := mX1_put) (d' := d - 1) mlX0_133 mcX1_put mvX1_put (dq dtX0_writeOut 25 rfl) (by omega) (Nat.le_of_ble_eq_true rfl) (by repeat (first | assumption | exact up_s | rw [up_n (by first | assumption | (apply Ne.symm; assumption) | decide | omega)])) rfl ?_
        refine ct_putL a2 b2 (by first | omega | (simp only [List.length_append, List.length_singleton] at *; omega)) (by omega) (fun σ3 f3 a3 b3 g3 => ?_)
        have l3 := a3.1
        refine P.aload_n (dq dtX0_writeOut 26 rfl) rfl ?_
        refine P.iload_n (dq dtX0_writeOut 27 rfl) rfl ?_
        refine P.callS1 (M' := mJ9_abs_0f7a4) (d' := d - 1) mlX0_114 mcJ9_abs_0f7a4 msJ9_abs_0f7a4 (dq dtX0_writeOut 28 rfl) (by omega) (Nat.le_of_ble_eq_true rfl) ?_
        refine ct_abs (by omega) (fun n_49 => ?_) (fun n_49 => ?_)
        · refine P.callV1 (M' := mX1_putNumber) (d' := d - 1) mlX0_129 mcX1_putNumber mvX1_putNumber (dq dtX0_writeOut 29 rfl) (by omega) (Nat.le_of_ble_eq_true rfl) (by repeat (first | assumption | exact up_s | rw [up_n (by first | assumption | (apply Ne.symm; assumption) | decide | omega)])) rfl ?_
          refine ct_X1_putNumber a3 b3 (by first | omega | (simp only [List.length_append, List.length_singleton] at *; omega)) (by omega) (by omega) (fun σ4 f4 a4 b4 g4 => ?_)
          have l4 := a4.1
          refine P.aload_n (dq dtX0_writeOut 30 rfl) rfl ?_
          refine P.bipush (dq dtX0_writeOut 31 rfl) rfl ?_
          refine P.callV1 (M' := mX1_put) (d' := d - 1) mlX0_133 mcX1_put mvX1_put (dq dtX0_writeOut 32 rfl) (by omega) (Nat.le_of_ble_eq_true rfl) (by repeat (first | assumption | exact up_s | rw [up_n (by first | assumption | (apply Ne.symm; assumption) | decide | omega)])) rfl ?_
          refine ct_putL a4 b4 (by have hd3 := digs_len (co k - k * s); have hd4 := digs_len (-(co k - k * s)); simp only [List.length_append, List.length_singleton] at *; omega) (by omega) (fun σ5 f5 a5 b5 g5 => ?_)
          refine P.iinc (dq dtX0_writeOut 33 rfl) rfl (by decide) rfl rfl ?_
          refine P.goto (t := 7) (dq dtX0_writeOut 34 rfl) rfl ?_
          refine P.keep [0, 1, 2] ?_
          have el : shL co s (k + 1) = shL co s k ++ digs k ++ [58] ++ [45] ++ digs (co k - k * s) ++ [59] := by
            show shL co s k ++ offL co s k = _
            unfold offL
            first | rw [if_pos (show co k - k * s < 0 by omega)] | rw [if_neg (show ¬ co k - k * s < 0 by omega)]
            first | rw [if_pos (show 0 ≤ co k - k * s by omega)] | rw [if_neg (show ¬ 0 ≤ co k - k * s by omega)]
            first | (exfalso; omega) | simp only [List.append_assoc]
          rw [← el] at a5 b5
          exact ih (k + 1) f5 σ5 (by omega) (by omega) a5 b5 ((((hF.trans g1).trans g2).trans g3).trans g4 |>.trans g5)
        · refine P.callV1 (M' := mX1_putNumber) (d' := d - 1) mlX0_129 mcX1_putNumber mvX1_putNumber (dq dtX0_writeOut 29 rfl) (by omega) (Nat.le_of_ble_eq_true rfl) (by repeat (first | assumption | exact up_s | rw [up_n (by first | assumption | (apply Ne.symm; assumption) | decide | omega)])) rfl ?_
          refine ct_X1_putNumber a3 b3 (by first | omega | (simp only [List.length_append, List.length_singleton] at *; omega)) (by omega) (by omega) (fun σ4 f4 a4 b4 g4 => ?_)
          have l4 := a4.1
          refine P.aload_n (dq dtX0_writeOut 30 rfl) rfl ?_
          refine P.bipush (dq dtX0_writeOut 31 rfl) rfl ?_
          refine P.callV1 (M' := mX1_put) (d' := d - 1) mlX0_133 mcX1_put mvX1_put (dq dtX0_writeOut 32 rfl) (by omega) (Nat.le_of_ble_eq_true rfl) (by repeat (first | assumption | exact up_s | rw [up_n (by first | assumption | (apply Ne.symm; assumption) | decide | omega)])) rfl ?_
          refine ct_putL a4 b4 (by have hd3 := digs_len (co k - k * s); have hd4 := digs_len (-(co k - k * s)); simp only [List.length_append, List.length_singleton] at *; omega) (by omega) (fun σ5 f5 a5 b5 g5 => ?_)
          refine P.iinc (dq dtX0_writeOut 33 rfl) rfl (by decide) rfl rfl ?_
          refine P.goto (t := 7) (dq dtX0_writeOut 34 rfl) rfl ?_
          refine P.keep [0, 1, 2] ?_
          have el : shL co s (k + 1) = shL co s k ++ digs k ++ [58] ++ [45] ++ digs (-(co k - k * s)) ++ [59] := by
            show shL co s k ++ offL co s k = _
            unfold offL
            first | rw [if_pos (show co k - k * s < 0 by omega)] | rw [if_neg (show ¬ co k - k * s < 0 by omega)]
            first | rw [if_pos (show 0 ≤ co k - k * s by omega)] | rw [if_neg (show ¬ 0 ≤ co k - k * s by omega)]
            first | (exfalso; omega) | simp only [List.append_assoc]
          rw [← el] at a5 b5
          exact ih (k + 1) f5 σ5 (by omega) (by omega) a5 b5 ((((hF.trans g1).trans g2).trans g3).trans g4 |>.trans g5)
/-- Figures.writeOut -/
theorem ct_X0_writeOut {x : CM} {d N : Nat} {σ : PH} {Q : PQ} {q lq r : Nat} {p s po pt pl : Int} {co : Int → Int} (hq : σ q = fgO q p s po pt pl) (h7 : σ (q + 7) = pcI 0 8 co) (hp : 2 ≤ p ∧ p ≤ 8) (hs : 10 ≤ s ∧ s ≤ 99) (hT : TB co p) {n0 : Int} {f0 : Int → Int} (hpl : 0 ≤ pl ∧ pl < 10000) (hr : r = 128) (hlq : lq + 1 < q ∨ q + 7 < lq) (hd : 4 ≤ d) (hL : Ls σ lq r n0 f0) (h : ∀ (σ' : PH) (f' : Int → Int), Ls σ' lq r (shA co s p pl).length f' → Rp f' (shA co s p pl) → Fr σ σ' [lq, lq + 1] → Q none σ') : Call x d 0 0 mX0_writeOut [vR q, vR lq] N σ Q := by
  refine Call.of mcX0_writeOut (Nat.le_of_ble_eq_true rfl) (fun y hy => ?_)
  subst hy
  have hL0 := hL.1
  refine P.aload_n (dq dtX0_writeOut 0 rfl) rfl ?_
  refine P.iconst (dq dtX0_writeOut 1 rfl) ?_
  refine P.put flX0_124 rfl (dq dtX0_writeOut 2 rfl) (by repeat (first | assumption | exact up_s | rw [up_n (by first | assumption | (apply Ne.symm; assumption) | decide | omega)])) (by exact Nat.le_of_ble_eq_true rfl) rfl rfl rfl rfl rfl ?_
  refine P.iconst (dq dtX0_writeOut 3 rfl) ?_
  refine P.istore_n (dq dtX0_writeOut 4 rfl) (by decide) rfl rfl ?_
  refine P.keep [0, 1, 2] ?_
  refine lp_writeOut (σ := σ) hq h7 hp hs hT hpl hr hlq hd h 9 0 f0 _ (by omega) (by omega) ⟨?_, ?_⟩ Rp_nil (by repeat (first | assumption | exact Fr.rf | refine Fr.up ?_ (by simp)))
  · exact up_s
  · rw [up_n (by omega)]
    exact hL.2
