theorem lp_sheet {x : CX} {d N : Nat} {σ : PH} {Q : PQ} {p s u l0 fi be rp cl dg nu pk : Int} {co : Int → Int} (h89 : σ 89 = pcI 0 8 co) (hp : 2 ≤ p ∧ p ≤ 8) (hs : 10 ≤ s ∧ s ≤ 99) (hT : TB co p) (hpl : 0 ≤ pk ∧ pk < 10000) (hd : 4 ≤ d) (h : ∀ (σ' : PH) (f' : Int → Int), Lw σ' p s u l0 fi be rp cl dg nu pk (shA co s p pk).length f' → Rp f' (shA co s p pk) → Fr σ σ' [84, 93] → Q none σ') : ∀ (t k : Nat) (f0 : Int → Int) (σ' : PH), (k : Int) ≤ p → p - k < t → Lw σ' p s u l0 fi be rp cl dg nu pk (shL co s k).length f0 → Rp f0 (shL co s k) → Fr σ σ' [84, 93] → P x d mX7_laySheet Q (0, 0) 12 [some (vR 84), some (vI k), none] [] N σ' := by
  intro t
  induction t with
  | zero =>
    intro k f0 σ' hk ht a0 b0 hF
    exfalso; omega
  | succ t ih =>
    intro k f0 σ' hk ht a0 b0 hF
    have hl0 := shL_len co s k (by omega)
    have l0q := a0.1
    have h89' : σ' 89 = pcI 0 8 co := (hF 89 (by decide)).trans h89
    refine P.iload_n (dq dtX7_laySheet 8 rfl) rfl ?_
    refine P.aload_n (dq dtX7_laySheet 9 rfl) rfl ?_
    refine P.get flX7_7 (dq dtX7_laySheet 10 rfl) (by repeat (first | assumption | exact up_s | rw [up_n (by first | assumption | (apply Ne.symm; assumption) | decide | omega)])) (by rfl) ?_
    refine P.icmp_ge (t := 89) (dq dtX7_laySheet 11 rfl) rfl (by omega) (by omega) (fun c_17 => ?_) (fun c_17 => ?_)
    · obtain rfl : k = p.toNat := by omega
      refine P.aload_n (dq dtX7_laySheet 50 rfl) rfl ?_
      refine P.bipush (dq dtX7_laySheet 51 rfl) rfl ?_
      refine P.callV1 (M' := mX7_puts) (d' := d - 1) mlX7_211 mcX7_puts mvX7_puts (dq dtX7_laySheet 52 rfl) (by omega) (Nat.le_of_ble_eq_true rfl) (by repeat (first | assumption | exact up_s | rw [up_n (by first | assumption | (apply Ne.symm; assumption) | decide | omega)])) rfl ?_
      refine ct_puts a0 b0 (by first | omega | (simp only [List.length_append, List.length_singleton, List.length_cons, List.length_nil] at *; omega)) (fun σ1 f1 a1 b1 g1 => ?_)
      have l1 := a1.1
      refine P.aload_n (dq dtX7_laySheet 53 rfl) rfl ?_
      refine P.aload_n (dq dtX7_laySheet 54 rfl) rfl ?_
      refine P.get flX7_185 (dq dtX7_laySheet 55 rfl) (by repeat (first | assumption | exact up_s | rw [up_n (by first | assumption | (apply Ne.symm; assumption) | decide | omega)])) (by rfl) ?_
      refine P.callV1 (M' := mX7_putsNumber) (d' := d - 1) mlX7_214 mcX7_putsNumber mvX7_putsNumber (dq dtX7_laySheet 56 rfl) (by omega) (Nat.le_of_ble_eq_true rfl) (by repeat (first | assumption | exact up_s | rw [up_n (by first | assumption | (apply Ne.symm; assumption) | decide | omega)])) rfl ?_
      refine ct_putsNumber a1 b1 (by first | omega | (simp only [List.length_append, List.length_singleton, List.length_cons, List.length_nil] at *; omega)) (by omega) (by omega) (fun σ2 f2 a2 b2 g2 => ?_)
      refine P.vret (dq dtX7_laySheet 57 rfl) rfl rfl rfl ?_
      exact h σ2 f2 a2 b2 ((hF.trans g1).trans g2)
    · have hms := mul_bd (k := k) (s := s) (by omega) (by omega) (by omega) (by omega)
      have hcb := hT.1 k (by omega) (by omega)
      have hd2 : digs k = [48 + (k : Int)] := by { unfold digs; rw [if_pos (by omega)] }
      refine P.aload_n (dq dtX7_laySheet 12 rfl) rfl ?_
      refine P.get flX7_30 (dq dtX7_laySheet 13 rfl) (by repeat (first | assumption | exact up_s | rw [up_n (by first | assumption | (apply Ne.symm; assumption) | decide | omega)])) (by rfl) ?_
      refine P.iload_n (dq dtX7_laySheet 14 rfl) rfl ?_
      refine P.iald (dq dtX7_laySheet 15 rfl) (by repeat (first | assumption | exact up_s | rw [up_n (by first | assumption | (apply Ne.symm; assumption) | decide | omega)])) (by omega) (by omega) (by omega) ?_
      refine P.aload_n (dq dtX7_laySheet 16 rfl) rfl ?_
      refine P.get flX7_13 (dq dtX7_laySheet 17 rfl) (by repeat (first | assumption | exact up_s | rw [up_n (by first | assumption | (apply Ne.symm; assumption) | decide | omega)])) (by rfl) ?_
      refine P.iload_n (dq dtX7_laySheet 18 rfl) rfl ?_
      refine P.imul (dq dtX7_laySheet 19 rfl) ?_
      refine P.isub (dq dtX7_laySheet 20 rfl) ?_
      rw [Int.mul_comm s k]
      refine P.istore_n (dq dtX7_laySheet 21 rfl) (by decide) rfl rfl ?_
      refine P.aload_n (dq dtX7_laySheet 22 rfl) rfl ?_
      refine P.bipush (dq dtX7_laySheet 23 rfl) rfl ?_
      refine P.iload_n (dq dtX7_laySheet 24 rfl) rfl ?_
      refine P.iadd (dq dtX7_laySheet 25 rfl) ?_
      refine P.callV1 (M' := mX7_puts) (d' := d - 1) mlX7_211 mcX7_puts mvX7_puts (dq dtX7_laySheet 26 rfl) (by omega) (Nat.le_of_ble_eq_true rfl) (by repeat (first | assumption | exact up_s | rw [up_n (by first | assumption | (apply Ne.symm; assumption) | decide | omega)])) rfl ?_
      refine ct_puts a0 b0 (by first | omega | (simp only [List.length_append, List.length_singleton, List.length_cons, List.length_nil] at *; omega)) (fun σ1 f1 a1 b1 g1 => ?_)
      have l1 := a1.1
      refine P.aload_n (dq dtX7_laySheet 27 rfl) rfl ?_
      refine P.bipush (dq dtX7_laySheet 28 rfl) rfl ?_
      refine P.callV1 (M' := mX7_puts) (d' := d - 1) mlX7_211 mcX7_puts mvX7_puts (dq dtX7_laySheet 29 rfl) (by omega) (Nat.le_of_ble_eq_true rfl) (by repeat (first | assumption | exact up_s | rw [up_n (by first | assumption | (apply Ne.symm; assumption) | decide | omega)])) rfl ?_
      refine ct_puts a1 b1 (by first | omega | (simp only [List.length_append, List.length_singleton, List.length_cons, List.length_nil] at *; omega)) (fun σ2 f2 a2 b2 g2 => ?_)
      have l2 := a2.1
      refine P.aload_n (dq dtX7_laySheet 30 rfl) rfl ?_
      refine P.iload_n (dq dtX7_laySheet 31 rfl) rfl ?_
      refine P.if_ge (t := 58) (dq dtX7_laySheet 32 rfl) rfl (by omega) (fun c_50 => ?_) (fun c_50 => ?_)
      · refine P.bipush (dq dtX7_laySheet 35 rfl) rfl ?_
        refine P.callV1 (M' := mX7_puts) (d' := d - 1) mlX7_211 mcX7_puts mvX7_puts (dq dtX7_laySheet 36 rfl) (by omega) (Nat.le_of_ble_eq_true rfl) (by repeat (first | assumption | exact up_s | rw [up_n (by first | assumption | (apply Ne.symm; assumption) | decide | omega)])) rfl ?_
        refine ct_puts a2 b2 (by first | omega | (simp only [List.length_append, List.length_singleton, List.length_cons, List.length_nil] at *; omega)) (fun σ3 f3 a3 b3 g3 => ?_)
        have l3 := a3.1
        refine P.aload_n (dq dtX7_laySheet 37 rfl) rfl ?_
        refine P.iload_n (dq dtX7_laySheet 38 rfl) rfl ?_
        refine P.if_ge (t := 73) (dq dtX7_laySheet 39 rfl) rfl (by omega) (fun c_65 => ?_) (fun c_65 => ?_)
        · refine P.iload_n (dq dtX7_laySheet 43 rfl) rfl ?_
          refine P.callV1 (M' := mX7_putsNumber) (d' := d - 1) mlX7_214 mcX7_putsNumber mvX7_putsNumber (dq dtX7_laySheet 44 rfl) (by omega) (Nat.le_of_ble_eq_true rfl) (by repeat (first | assumption | exact up_s | rw [up_n (by first | assumption | (apply Ne.symm; assumption) | decide | omega)])) rfl ?_
          refine ct_putsNumber a3 b3 (by first | omega | (simp only [List.length_append, List.length_singleton, List.length_cons, List.length_nil] at *; omega)) (by omega) (by omega) (fun σ4 f4 a4 b4 g4 => ?_)
          have l4 := a4.1
          refine P.aload_n (dq dtX7_laySheet 45 rfl) rfl ?_
          refine P.bipush (dq dtX7_laySheet 46 rfl) rfl ?_
          refine P.callV1 (M' := mX7_puts) (d' := d - 1) mlX7_211 mcX7_puts mvX7_puts (dq dtX7_laySheet 47 rfl) (by omega) (Nat.le_of_ble_eq_true rfl) (by repeat (first | assumption | exact up_s | rw [up_n (by first | assumption | (apply Ne.symm; assumption) | decide | omega)])) rfl ?_
          refine ct_puts a4 b4 (by have hd3 := digs_len (co k - k * s); have hd4 := digs_len (-(co k - k * s)); simp only [List.length_append, List.length_singleton] at *; omega) (fun σ5 f5 a5 b5 g5 => ?_)
          refine P.iinc (dq dtX7_laySheet 48 rfl) rfl (by decide) rfl rfl ?_
          refine P.goto (t := 12) (dq dtX7_laySheet 49 rfl) rfl ?_
          refine P.keep [0, 1] ?_
          have el : shL co s (k + 1) = shL co s k ++ [48 + (k : Int)] ++ [58] ++ [43] ++ digs (co k - k * s) ++ [59] := by
            show shL co s k ++ offL co s k = _
            unfold offL
            rw [hd2]
            first | rw [if_pos (show co k - k * s < 0 by omega)] | rw [if_neg (show ¬ co k - k * s < 0 by omega)]
            first | rw [if_pos (show 0 ≤ co k - k * s by omega)] | rw [if_neg (show ¬ 0 ≤ co k - k * s by omega)]
            first | (exfalso; omega) | simp only [List.append_assoc]
          rw [← el] at a5 b5
          exact ih (k + 1) f5 σ5 (by omega) (by omega) a5 b5 ((((hF.trans g1).trans g2).trans g3).trans g4 |>.trans g5)
        · refine P.iload_n (dq dtX7_laySheet 40 rfl) rfl ?_
          refine P.ineg (dq dtX7_laySheet 41 rfl) ?_
          refine P.goto (t := 74) (dq dtX7_laySheet 42 rfl) rfl ?_
          refine P.callV1 (M' := mX7_putsNumber) (d' := d - 1) mlX7_214 mcX7_putsNumber mvX7_putsNumber (dq dtX7_laySheet 44 rfl) (by omega) (Nat.le_of_ble_eq_true rfl) (by repeat (first | assumption | exact up_s | rw [up_n (by first | assumption | (apply Ne.symm; assumption) | decide | omega)])) rfl ?_
          refine ct_putsNumber a3 b3 (by first | omega | (simp only [List.length_append, List.length_singleton, List.length_cons, List.length_nil] at *; omega)) (by omega) (by omega) (fun σ4 f4 a4 b4 g4 => ?_)
          have l4 := a4.1
          refine P.aload_n (dq dtX7_laySheet 45 rfl) rfl ?_
          refine P.bipush (dq dtX7_laySheet 46 rfl) rfl ?_
          refine P.callV1 (M' := mX7_puts) (d' := d - 1) mlX7_211 mcX7_puts mvX7_puts (dq dtX7_laySheet 47 rfl) (by omega) (Nat.le_of_ble_eq_true rfl) (by repeat (first | assumption | exact up_s | rw [up_n (by first | assumption | (apply Ne.symm; assumption) | decide | omega)])) rfl ?_
          refine ct_puts a4 b4 (by have hd3 := digs_len (co k - k * s); have hd4 := digs_len (-(co k - k * s)); simp only [List.length_append, List.length_singleton] at *; omega) (fun σ5 f5 a5 b5 g5 => ?_)
          refine P.iinc (dq dtX7_laySheet 48 rfl) rfl (by decide) rfl rfl ?_
          refine P.goto (t := 12) (dq dtX7_laySheet 49 rfl) rfl ?_
          refine P.keep [0, 1] ?_
          have el : shL co s (k + 1) = shL co s k ++ [48 + (k : Int)] ++ [58] ++ [43] ++ digs (-(co k - k * s)) ++ [59] := by
            show shL co s k ++ offL co s k = _
            unfold offL
            rw [hd2]
            first | rw [if_pos (show co k - k * s < 0 by omega)] | rw [if_neg (show ¬ co k - k * s < 0 by omega)]
            first | rw [if_pos (show 0 ≤ co k - k * s by omega)] | rw [if_neg (show ¬ 0 ≤ co k - k * s by omega)]
            first | (exfalso; omega) | simp only [List.append_assoc]
          rw [← el] at a5 b5
          exact ih (k + 1) f5 σ5 (by omega) (by omega) a5 b5 ((((hF.trans g1).trans g2).trans g3).trans g4 |>.trans g5)
      · refine P.bipush (dq dtX7_laySheet 33 rfl) rfl ?_
        refine P.goto (t := 60) (dq dtX7_laySheet 34 rfl) rfl ?_
        refine P.callV1 (M' := mX7_puts) (d' := d - 1) mlX7_211 mcX7_puts mvX7_puts (dq dtX7_laySheet 36 rfl) (by omega) (Nat.le_of_ble_eq_true rfl) (by repeat (first | assumption | exact up_s | rw [up_n (by first | assumption | (apply Ne.symm; assumption) | decide | omega)])) rfl ?_
        refine ct_puts a2 b2 (by first | omega | (simp only [List.length_append, List.length_singleton, List.length_cons, List.length_nil] at *; omega)) (fun σ3 f3 a3 b3 g3 => ?_)
        have l3 := a3.1
        refine P.aload_n (dq dtX7_laySheet 37 rfl) rfl ?_
        refine P.iload_n (dq dtX7_laySheet 38 rfl) rfl ?_
        refine P.if_ge (t := 73) (dq dtX7_laySheet 39 rfl) rfl (by omega) (fun c_65 => ?_) (fun c_65 => ?_)
        · refine P.iload_n (dq dtX7_laySheet 43 rfl) rfl ?_
          refine P.callV1 (M' := mX7_putsNumber) (d' := d - 1) mlX7_214 mcX7_putsNumber mvX7_putsNumber (dq dtX7_laySheet 44 rfl) (by omega) (Nat.le_of_ble_eq_true rfl) (by repeat (first | assumption | exact up_s | rw [up_n (by first | assumption | (apply Ne.symm; assumption) | decide | omega)])) rfl ?_
          refine ct_putsNumber a3 b3 (by first | omega | (simp only [List.length_append, List.length_singleton, List.length_cons, List.length_nil] at *; omega)) (by omega) (by omega) (fun σ4 f4 a4 b4 g4 => ?_)
          have l4 := a4.1
          refine P.aload_n (dq dtX7_laySheet 45 rfl) rfl ?_
          refine P.bipush (dq dtX7_laySheet 46 rfl) rfl ?_
          refine P.callV1 (M' := mX7_puts) (d' := d - 1) mlX7_211 mcX7_puts mvX7_puts (dq dtX7_laySheet 47 rfl) (by omega) (Nat.le_of_ble_eq_true rfl) (by repeat (first | assumption | exact up_s | rw [up_n (by first | assumption | (apply Ne.symm; assumption) | decide | omega)])) rfl ?_
          refine ct_puts a4 b4 (by have hd3 := digs_len (co k - k * s); have hd4 := digs_len (-(co k - k * s)); simp only [List.length_append, List.length_singleton] at *; omega) (fun σ5 f5 a5 b5 g5 => ?_)
          refine P.iinc (dq dtX7_laySheet 48 rfl) rfl (by decide) rfl rfl ?_
          refine P.goto (t := 12) (dq dtX7_laySheet 49 rfl) rfl ?_
          refine P.keep [0, 1] ?_
          have el : shL co s (k + 1) = shL co s k ++ [48 + (k : Int)] ++ [58] ++ [45] ++ digs (co k - k * s) ++ [59] := by
            show shL co s k ++ offL co s k = _
            unfold offL
            rw [hd2]
            first | rw [if_pos (show co k - k * s < 0 by omega)] | rw [if_neg (show ¬ co k - k * s < 0 by omega)]
            first | rw [if_pos (show 0 ≤ co k - k * s by omega)] | rw [if_neg (show ¬ 0 ≤ co k - k * s by omega)]
            first | (exfalso; omega) | simp only [List.append_assoc]
          rw [← el] at a5 b5
          exact ih (k + 1) f5 σ5 (by omega) (by omega) a5 b5 ((((hF.trans g1).trans g2).trans g3).trans g4 |>.trans g5)
        · refine P.iload_n (dq dtX7_laySheet 40 rfl) rfl ?_
          refine P.ineg (dq dtX7_laySheet 41 rfl) ?_
          refine P.goto (t := 74) (dq dtX7_laySheet 42 rfl) rfl ?_
          refine P.callV1 (M' := mX7_putsNumber) (d' := d - 1) mlX7_214 mcX7_putsNumber mvX7_putsNumber (dq dtX7_laySheet 44 rfl) (by omega) (Nat.le_of_ble_eq_true rfl) (by repeat (first | assumption | exact up_s | rw [up_n (by first | assumption | (apply Ne.symm; assumption) | decide | omega)])) rfl ?_
          refine ct_putsNumber a3 b3 (by first | omega | (simp only [List.length_append, List.length_singleton, List.length_cons, List.length_nil] at *; omega)) (by omega) (by omega) (fun σ4 f4 a4 b4 g4 => ?_)
          have l4 := a4.1
          refine P.aload_n (dq dtX7_laySheet 45 rfl) rfl ?_
          refine P.bipush (dq dtX7_laySheet 46 rfl) rfl ?_
          refine P.callV1 (M' := mX7_puts) (d' := d - 1) mlX7_211 mcX7_puts mvX7_puts (dq dtX7_laySheet 47 rfl) (by omega) (Nat.le_of_ble_eq_true rfl) (by repeat (first | assumption | exact up_s | rw [up_n (by first | assumption | (apply Ne.symm; assumption) | decide | omega)])) rfl ?_
          refine ct_puts a4 b4 (by have hd3 := digs_len (co k - k * s); have hd4 := digs_len (-(co k - k * s)); simp only [List.length_append, List.length_singleton] at *; omega) (fun σ5 f5 a5 b5 g5 => ?_)
          refine P.iinc (dq dtX7_laySheet 48 rfl) rfl (by decide) rfl rfl ?_
          refine P.goto (t := 12) (dq dtX7_laySheet 49 rfl) rfl ?_
          refine P.keep [0, 1] ?_
          have el : shL co s (k + 1) = shL co s k ++ [48 + (k : Int)] ++ [58] ++ [45] ++ digs (-(co k - k * s)) ++ [59] := by
            show shL co s k ++ offL co s k = _
            unfold offL
            rw [hd2]
            first | rw [if_pos (show co k - k * s < 0 by omega)] | rw [if_neg (show ¬ co k - k * s < 0 by omega)]
            first | rw [if_pos (show 0 ≤ co k - k * s by omega)] | rw [if_neg (show ¬ 0 ≤ co k - k * s by omega)]
            first | (exfalso; omega) | simp only [List.append_assoc]
          rw [← el] at a5 b5
          exact ih (k + 1) f5 σ5 (by omega) (by omega) a5 b5 ((((hF.trans g1).trans g2).trans g3).trans g4 |>.trans g5)
/-- laySheet -/
theorem ct_X7_laySheet {x : CM} {d N : Nat} {σ : PH} {Q : PQ} {p s u l fi be rp cl dg nu pk wm : Int} (h84 : σ 84 = mdO p s u l fi be rp cl dg nu pk wm) {wf : Int → Int} (h85 : σ 85 = pcI 0 1404 wf) {v : MsV} (hG : GMs v) (hR : Rw wf 0 v) (hp : p = v.1) (hs : s = v.2.1) (hd : 5 ≤ d) {a1 a2 a3 a4 : Int → Int} (h89 : σ 89 = pcI 0 8 a1) (h90 : σ 90 = pcI 0 8 a2) (h91 : σ 91 = pcI 0 8 a3) (h92 : σ 92 = pcI 0 8 a4) {F : FgV} (hF : FgR v F) {a5 : Int → Int} (h93 : σ 93 = pcI 0 80 a5) (h : ∀ (σ2 : PH) (b1 b2 b3 b4 f' : Int → Int), σ2 84 = mdO p s u l fi be rp cl dg nu (plc v.1 (plp v)) (tbl v F).length → σ2 89 = pcI 0 8 b1 → σ2 90 = pcI 0 8 b2 → σ2 91 = pcI 0 8 b3 → σ2 92 = pcI 0 8 b4 → σ2 93 = pcI 0 80 f' → Rp f' (tbl v F) → Fr σ σ2 [84, 89, 90, 91, 92, 93] → Q none σ2) : Call x d 0 0 mX7_laySheet [vR 84] N σ Q := by
  refine Call.of mcX7_laySheet (Nat.le_of_ble_eq_true rfl) (fun y hy => ?_)
  subst hy
  refine P.aload_n (dq dtX7_laySheet 0 rfl) rfl ?_
  refine P.iconst (dq dtX7_laySheet 1 rfl) ?_
  refine P.callV1 (M' := mX7_layTable) (d' := d - 1) mlX7_54 mcX7_layTable mvX7_layTable (dq dtX7_laySheet 2 rfl) (by omega) (Nat.le_of_ble_eq_true rfl) (by repeat (first | assumption | exact up_s | rw [up_n (by first | assumption | (apply Ne.symm; assumption) | decide | omega)])) rfl ?_
  refine ct_X7_layTable (ro := 0) h84 h85 hG hR (by omega) hp hs (by omega) h89 h90 h91 h92 hF (fun σ2 co pf si to q84 q89 q90 q91 q92 hag fr2 => ?_)
  have tB := (hF.tb hG).c (fun i g1 g2 => (hag i g1 g2).1)
  have q93 := (fr2 93 (by decide)).trans h93
  refine P.aload_n (dq dtX7_laySheet 3 rfl) rfl ?_
  refine P.iconst (dq dtX7_laySheet 4 rfl) ?_
  refine P.put flX7_208 rfl (dq dtX7_laySheet 5 rfl) (by repeat (first | assumption | exact up_s | rw [up_n (by first | assumption | (apply Ne.symm; assumption) | decide | omega)])) (by exact Nat.le_of_ble_eq_true rfl) rfl rfl rfl rfl rfl ?_
  refine P.iconst (dq dtX7_laySheet 6 rfl) ?_
  refine P.istore_n (dq dtX7_laySheet 7 rfl) (by decide) rfl rfl ?_
  refine P.keep [0, 1] ?_
  have eT : shA co v.2.1 v.1 (plc v.1 (plp v)) = tbl v F := by
    unfold tbl shA
    rw [shL_c (fun i g1 g2 => (hag i g1 g2).1) v.1.toNat (by have := hG.1; omega)]
  subst hp hs
  refine lp_sheet (σ := σ2) (u := u) (l0 := l) (fi := fi) (be := be) (rp := rp) (cl := cl) (dg := dg) (nu := nu) q89 hG.1 hG.2.1 tB (by have := plc_b hG; omega) (by omega) (fun σ3 f' z1 z2 z3 => ?_) 9 0 a5 _ (by have := hG.1; omega) (by have := hG.1; omega) ⟨up_s, (by repeat (first | assumption | exact up_s | rw [up_n (by first | assumption | (apply Ne.symm; assumption) | decide | omega)]))⟩ Rp_nil (by repeat (first | assumption | exact Fr.rf | refine Fr.up ?_ (by simp)))
  rw [eT] at z1 z2
  exact h σ3 co pf si to f' z1.1 ((z3 89 (by decide)).trans q89) ((z3 90 (by decide)).trans q90) ((z3 91 (by decide)).trans q91) ((z3 92 (by decide)).trans q92) z1.2 z2 (fr2.wide (by simp) |>.trans (z3.wide (by simp)))
/-- sheetLong -/
theorem ct_X7_sheetLong {x : CM} {d N : Nat} {σ : PH} {Q : PQ} {p s u l fi be rp cl dg nu pk wm : Int} (h84 : σ 84 = mdO p s u l fi be rp cl dg nu pk wm) {wf : Int → Int} (h85 : σ 85 = pcI 0 1404 wf) {v : MsV} (hG : GMs v) (hR : Rw wf 0 v) (hp : p = v.1) (hs : s = v.2.1) (hd : 6 ≤ d) {a1 a2 a3 a4 : Int → Int} (h89 : σ 89 = pcI 0 8 a1) (h90 : σ 90 = pcI 0 8 a2) (h91 : σ 91 = pcI 0 8 a3) (h92 : σ 92 = pcI 0 8 a4) {F : FgV} (hF : FgR v F) {a5 : Int → Int} (h93 : σ 93 = pcI 0 80 a5) (h : ∀ (σ2 : PH) (b1 b2 b3 b4 f' : Int → Int), σ2 84 = mdO p s u l fi be rp cl dg nu (plc v.1 (plp v)) (tbl v F).length → σ2 89 = pcI 0 8 b1 → σ2 90 = pcI 0 8 b2 → σ2 91 = pcI 0 8 b3 → σ2 92 = pcI 0 8 b4 → σ2 93 = pcI 0 80 f' → Rp f' (tbl v F) → Fr σ σ2 [84, 89, 90, 91, 92, 93] → Q (some (vI (tbl v F).length)) σ2) : Call x d 0 0 mX7_sheetLong [vR 84] N σ Q := by
  refine Call.of mcX7_sheetLong (Nat.le_of_ble_eq_true rfl) (fun y hy => ?_)
  subst hy
  refine P.aload_n (dq dtX7_sheetLong 0 rfl) rfl ?_
  refine P.callV0 (M' := mX7_laySheet) (d' := d - 1) mlX7_217 mcX7_laySheet mvX7_laySheet (dq dtX7_sheetLong 1 rfl) (by omega) (Nat.le_of_ble_eq_true rfl) (by repeat (first | assumption | exact up_s | rw [up_n (by first | assumption | (apply Ne.symm; assumption) | decide | omega)])) rfl ?_
  refine ct_X7_laySheet h84 h85 hG hR hp hs (by omega) h89 h90 h91 h92 hF h93 (fun σ2 b1 b2 b3 b4 f' q84 q89 q90 q91 q92 q93 hRp fr2 => ?_)
  refine P.aload_n (dq dtX7_sheetLong 2 rfl) rfl ?_
  refine P.get flX7_208 (dq dtX7_sheetLong 3 rfl) (by repeat (first | assumption | exact up_s | rw [up_n (by first | assumption | (apply Ne.symm; assumption) | decide | omega)])) (by rfl) ?_
  refine P.iret (dq dtX7_sheetLong 4 rfl) rfl rfl rfl ?_
  exact h σ2 b1 b2 b3 b4 f' q84 q89 q90 q91 q92 q93 hRp fr2
/-- playNow -/
theorem ct_X7_playNow {x : CM} {d N : Nat} {σ : PH} {Q : PQ} {p s u l fi be rp cl dg nu pk wm : Int} (h84 : σ 84 = mdO p s u l fi be rp cl dg nu pk wm) {wf : Int → Int} (h85 : σ 85 = pcI 0 1404 wf) {v : MsV} (hG : GMs v) (hR : Rw wf 0 v) (hp : p = v.1) (hs : s = v.2.1) (hd : 3 ≤ d) {a1 a2 a3 a4 : Int → Int} (h89 : σ 89 = pcI 0 8 a1) (h90 : σ 90 = pcI 0 8 a2) (h91 : σ 91 = pcI 0 8 a3) (h92 : σ 92 = pcI 0 8 a4) {F : FgV} (hF : FgR v F) (h : ∀ (σ2 : PH) (b1 b2 b3 b4 : Int → Int), σ2 84 = mdO p s u l fi be rp cl dg nu (plc v.1 (plp v)) wm → σ2 89 = pcI 0 8 b1 → σ2 90 = pcI 0 8 b2 → σ2 91 = pcI 0 8 b3 → σ2 92 = pcI 0 8 b4 → Fr σ σ2 [84, 89, 90, 91, 92] → Q (some (vI (plc v.1 (plp v)))) σ2) : Call x d 0 0 mX7_playNow [vR 84] N σ Q := by
  refine Call.of mcX7_playNow (Nat.le_of_ble_eq_true rfl) (fun y hy => ?_)
  subst hy
  refine P.aload_n (dq dtX7_playNow 0 rfl) rfl ?_
  refine P.iconst (dq dtX7_playNow 1 rfl) ?_
  refine P.callV1 (M' := mX7_layTable) (d' := d - 1) mlX7_54 mcX7_layTable mvX7_layTable (dq dtX7_playNow 2 rfl) (by omega) (Nat.le_of_ble_eq_true rfl) (by repeat (first | assumption | exact up_s | rw [up_n (by first | assumption | (apply Ne.symm; assumption) | decide | omega)])) rfl ?_
  refine ct_X7_layTable (ro := 0) h84 h85 hG hR (by omega) hp hs (by omega) h89 h90 h91 h92 hF (fun σ2 co pf si to q84 q89 q90 q91 q92 hag fr2 => ?_)
  refine P.aload_n (dq dtX7_playNow 3 rfl) rfl ?_
  refine P.get flX7_185 (dq dtX7_playNow 4 rfl) (by repeat (first | assumption | exact up_s | rw [up_n (by first | assumption | (apply Ne.symm; assumption) | decide | omega)])) (by rfl) ?_
  refine P.iret (dq dtX7_playNow 5 rfl) rfl rfl rfl ?_
  exact h σ2 co pf si to q84 q89 q90 q91 q92 fr2
/-- rests -/
theorem ct_X7_rests {x : CM} {d N : Nat} {σ : PH} {Q : PQ} {p s u l fi be rp cl dg nu pk wm : Int} (h84 : σ 84 = mdO p s u l fi be rp cl dg nu pk wm) {wf : Int → Int} (h85 : σ 85 = pcI 0 1404 wf) {v : MsV} (hG : GMs v) (hR : Rw wf 0 v) (hp : p = v.1) (hs : s = v.2.1) (hd : 3 ≤ d) {a1 a2 a3 a4 : Int → Int} (h89 : σ 89 = pcI 0 8 a1) (h90 : σ 90 = pcI 0 8 a2) (h91 : σ 91 = pcI 0 8 a3) (h92 : σ 92 = pcI 0 8 a4) {F : FgV} (hF : FgR v F) {ik sz : Int → Int} (h86 : σ 86 = pcI 1 2 ik) (h94 : σ 94 = pcI 0 3 sz) (h : ∀ (σ2 : PH) (wf' b1 b2 b3 b4 : Int → Int), σ2 84 = mdO p s 0 l fi be rp cl dg nu (plc v.1 (plp v)) wm → σ2 85 = pcI 0 1404 wf' → Rw wf' 0 v → Rs wf' 0 (0, cntF F.2.2.2.2.2.2 v.1 v.2.1 0, 0, 0, 1) → σ2 86 = pcI 1 2 (fun _ => 0) → σ2 94 = pcI 0 3 (fun _ => -1) → σ2 89 = pcI 0 8 b1 → σ2 90 = pcI 0 8 b2 → σ2 91 = pcI 0 8 b3 → σ2 92 = pcI 0 8 b4 → Fr σ σ2 [84, 85, 86, 89, 90, 91, 92, 94] → Q none σ2) : Call x d 0 0 mX7_rests [vR 84] N σ Q := by
  refine Call.of mcX7_rests (Nat.le_of_ble_eq_true rfl) (fun y hy => ?_)
  subst hy
  subst hp hs
  refine P.aload_n (dq dtX7_rests 0 rfl) rfl ?_
  refine P.iconst (dq dtX7_rests 1 rfl) ?_
  refine P.callV1 (M' := mX7_layTable) (d' := d - 1) mlX7_54 mcX7_layTable mvX7_layTable (dq dtX7_rests 2 rfl) (by omega) (Nat.le_of_ble_eq_true rfl) (by repeat (first | assumption | exact up_s | rw [up_n (by first | assumption | (apply Ne.symm; assumption) | decide | omega)])) rfl ?_
  refine ct_X7_layTable (ro := 0) h84 h85 hG hR (by omega) rfl rfl (by omega) h89 h90 h91 h92 hF (fun σ2 co pf si to q84 q89 q90 q91 q92 hag fr2 => ?_)
  have tB := (hF.tb hG).c (fun i g1 g2 => (hag i g1 g2).1)
  have q85 := (fr2 85 (by decide)).trans h85
  have q86 := (fr2 86 (by decide)).trans h86
  have q94 := (fr2 94 (by decide)).trans h94
  have bL := mul_bd (k := v.1 - 1) (s := v.2.1) (by have := hG.1; omega) (by have := hG.1; omega) hG.2.1.1 hG.2.1.2
  have ec := cntF_c (x := 0) hG.1.1 (show 0 < v.2.1 by have := hG.2.1; omega) ⟨by omega, bL.1⟩ (fun i g1 g2 => (hag i g1 g2).1)
  refine P.aload_n (dq dtX7_rests 3 rfl) rfl ?_
  refine P.get flX7_16 (dq dtX7_rests 4 rfl) (by repeat (first | assumption | exact up_s | rw [up_n (by first | assumption | (apply Ne.symm; assumption) | decide | omega)])) (by rfl) ?_
  refine P.bipush (dq dtX7_rests 5 rfl) rfl ?_
  refine P.iconst (dq dtX7_rests 6 rfl) ?_
  refine P.iast (dq dtX7_rests 7 rfl) (by repeat (first | assumption | exact up_s | rw [up_n (by first | assumption | (apply Ne.symm; assumption) | decide | omega)])) (by omega) (by omega) (by omega) ?_
  refine P.aload_n (dq dtX7_rests 8 rfl) rfl ?_
  refine P.get flX7_16 (dq dtX7_rests 9 rfl) (by repeat (first | assumption | exact up_s | rw [up_n (by first | assumption | (apply Ne.symm; assumption) | decide | omega)])) (by rfl) ?_
  refine P.bipush (dq dtX7_rests 10 rfl) rfl ?_
  refine P.aload_n (dq dtX7_rests 11 rfl) rfl ?_
  refine P.iconst (dq dtX7_rests 12 rfl) ?_
  refine P.callV1 (M' := mX7_countAt) (d' := d - 1) mlX7_58 mcX7_countAt mvX7_countAt (dq dtX7_rests 13 rfl) (by omega) (Nat.le_of_ble_eq_true rfl) (by repeat (first | assumption | exact up_s | rw [up_n (by first | assumption | (apply Ne.symm; assumption) | decide | omega)])) rfl ?_
  refine ct_X7_countAt (co := co) (by repeat (first | assumption | exact up_s | rw [up_n (by first | assumption | (apply Ne.symm; assumption) | decide | omega)])) (by repeat (first | assumption | exact up_s | rw [up_n (by first | assumption | (apply Ne.symm; assumption) | decide | omega)])) hG.1 hG.2.1 tB ⟨by omega, bL.1⟩ ?_
  refine P.iast (dq dtX7_rests 14 rfl) (by repeat (first | assumption | exact up_s | rw [up_n (by first | assumption | (apply Ne.symm; assumption) | decide | omega)])) (by omega) (by omega) (by omega) ?_
  refine P.aload_n (dq dtX7_rests 15 rfl) rfl ?_
  refine P.get flX7_16 (dq dtX7_rests 16 rfl) (by repeat (first | assumption | exact up_s | rw [up_n (by first | assumption | (apply Ne.symm; assumption) | decide | omega)])) (by rfl) ?_
  refine P.bipush (dq dtX7_rests 17 rfl) rfl ?_
  refine P.iconst (dq dtX7_rests 18 rfl) ?_
  refine P.iast (dq dtX7_rests 19 rfl) (by repeat (first | assumption | exact up_s | rw [up_n (by first | assumption | (apply Ne.symm; assumption) | decide | omega)])) (by omega) (by omega) (by omega) ?_
  refine P.aload_n (dq dtX7_rests 20 rfl) rfl ?_
  refine P.get flX7_16 (dq dtX7_rests 21 rfl) (by repeat (first | assumption | exact up_s | rw [up_n (by first | assumption | (apply Ne.symm; assumption) | decide | omega)])) (by rfl) ?_
  refine P.bipush (dq dtX7_rests 22 rfl) rfl ?_
  refine P.iconst (dq dtX7_rests 23 rfl) ?_
  refine P.iast (dq dtX7_rests 24 rfl) (by repeat (first | assumption | exact up_s | rw [up_n (by first | assumption | (apply Ne.symm; assumption) | decide | omega)])) (by omega) (by omega) (by omega) ?_
  refine P.aload_n (dq dtX7_rests 25 rfl) rfl ?_
  refine P.get flX7_16 (dq dtX7_rests 26 rfl) (by repeat (first | assumption | exact up_s | rw [up_n (by first | assumption | (apply Ne.symm; assumption) | decide | omega)])) (by rfl) ?_
  refine P.bipush (dq dtX7_rests 27 rfl) rfl ?_
  refine P.iconst (dq dtX7_rests 28 rfl) ?_
  refine P.iast (dq dtX7_rests 29 rfl) (by repeat (first | assumption | exact up_s | rw [up_n (by first | assumption | (apply Ne.symm; assumption) | decide | omega)])) (by omega) (by omega) (by omega) ?_
  refine P.aload_n (dq dtX7_rests 30 rfl) rfl ?_
  refine P.iconst (dq dtX7_rests 31 rfl) ?_
  refine P.put flX7_62 rfl (dq dtX7_rests 32 rfl) (by repeat (first | assumption | exact up_s | rw [up_n (by first | assumption | (apply Ne.symm; assumption) | decide | omega)])) (by exact Nat.le_of_ble_eq_true rfl) rfl rfl rfl rfl rfl ?_
  refine P.iconst (dq dtX7_rests 33 rfl) ?_
  refine P.istore_n (dq dtX7_rests 34 rfl) (by decide) rfl rfl ?_
  refine P.iload_n (dq dtX7_rests 35 rfl) rfl ?_
  refine P.iconst (dq dtX7_rests 36 rfl) ?_
  refine P.icmp_ge (t := 74) (dq dtX7_rests 37 rfl) rfl (by omega) (by omega) (fun h9 => absurd h9 (by decide)) (fun _ => ?_)
  refine P.aload_n (dq dtX7_rests 38 rfl) rfl ?_
  refine P.get flX7_20 (dq dtX7_rests 39 rfl) (by repeat (first | assumption | exact up_s | rw [up_n (by first | assumption | (apply Ne.symm; assumption) | decide | omega)])) (by rfl) ?_
  refine P.iload_n (dq dtX7_rests 40 rfl) rfl ?_
  refine P.iconst (dq dtX7_rests 41 rfl) ?_
  refine P.zast (dq dtX7_rests 42 rfl) (by repeat (first | assumption | exact up_s | rw [up_n (by first | assumption | (apply Ne.symm; assumption) | decide | omega)])) (by omega) (by omega) (by omega) (by decide) ?_
  refine P.iinc (dq dtX7_rests 43 rfl) rfl (by decide) rfl rfl ?_
  refine P.goto (t := 56) (dq dtX7_rests 44 rfl) rfl ?_
  refine P.iload_n (dq dtX7_rests 35 rfl) rfl ?_
  refine P.iconst (dq dtX7_rests 36 rfl) ?_
  refine P.icmp_ge (t := 74) (dq dtX7_rests 37 rfl) rfl (by omega) (by omega) (fun h9 => absurd h9 (by decide)) (fun _ => ?_)
  refine P.aload_n (dq dtX7_rests 38 rfl) rfl ?_
  refine P.get flX7_20 (dq dtX7_rests 39 rfl) (by repeat (first | assumption | exact up_s | rw [up_n (by first | assumption | (apply Ne.symm; assumption) | decide | omega)])) (by rfl) ?_
  refine P.iload_n (dq dtX7_rests 40 rfl) rfl ?_
  refine P.iconst (dq dtX7_rests 41 rfl) ?_
  refine P.zast (dq dtX7_rests 42 rfl) (by repeat (first | assumption | exact up_s | rw [up_n (by first | assumption | (apply Ne.symm; assumption) | decide | omega)])) (by omega) (by omega) (by omega) (by decide) ?_
  refine P.iinc (dq dtX7_rests 43 rfl) rfl (by decide) rfl rfl ?_
  refine P.goto (t := 56) (dq dtX7_rests 44 rfl) rfl ?_
  refine P.iload_n (dq dtX7_rests 35 rfl) rfl ?_
  refine P.iconst (dq dtX7_rests 36 rfl) ?_
  refine P.icmp_ge (t := 74) (dq dtX7_rests 37 rfl) rfl (by omega) (by omega) (fun _ => ?_) (fun h9 => absurd h9 (by decide))
  refine P.ext (q := 86) (t := 1) (n := 2) (f' := fun _ => 0) (by repeat (first | assumption | exact up_s | rw [up_n (by first | assumption | (apply Ne.symm; assumption) | decide | omega)])) (fun i g1 g2 => ?_) ?_
  · rcases (show i = 0 ∨ i = 1 by omega) with e | e <;> (rw [e]; rfl)
  refine P.iconst (dq dtX7_rests 45 rfl) ?_
  refine P.istore_n (dq dtX7_rests 46 rfl) (by decide) rfl rfl ?_
  refine P.iload_n (dq dtX7_rests 47 rfl) rfl ?_
  refine P.iconst (dq dtX7_rests 48 rfl) ?_
  refine P.icmp_ge (t := 94) (dq dtX7_rests 49 rfl) rfl (by omega) (by omega) (fun h9 => absurd h9 (by decide)) (fun _ => ?_)
  refine P.aload_n (dq dtX7_rests 50 rfl) rfl ?_
  refine P.get flX7_45 (dq dtX7_rests 51 rfl) (by repeat (first | assumption | exact up_s | rw [up_n (by first | assumption | (apply Ne.symm; assumption) | decide | omega)])) (by rfl) ?_
  refine P.iload_n (dq dtX7_rests 52 rfl) rfl ?_
  refine P.iconst (dq dtX7_rests 53 rfl) ?_
  refine P.iast (dq dtX7_rests 54 rfl) (by repeat (first | assumption | exact up_s | rw [up_n (by first | assumption | (apply Ne.symm; assumption) | decide | omega)])) (by omega) (by omega) (by omega) ?_
  refine P.iinc (dq dtX7_rests 55 rfl) rfl (by decide) rfl rfl ?_
  refine P.goto (t := 76) (dq dtX7_rests 56 rfl) rfl ?_
  refine P.iload_n (dq dtX7_rests 47 rfl) rfl ?_
  refine P.iconst (dq dtX7_rests 48 rfl) ?_
  refine P.icmp_ge (t := 94) (dq dtX7_rests 49 rfl) rfl (by omega) (by omega) (fun h9 => absurd h9 (by decide)) (fun _ => ?_)
  refine P.aload_n (dq dtX7_rests 50 rfl) rfl ?_
  refine P.get flX7_45 (dq dtX7_rests 51 rfl) (by repeat (first | assumption | exact up_s | rw [up_n (by first | assumption | (apply Ne.symm; assumption) | decide | omega)])) (by rfl) ?_
  refine P.iload_n (dq dtX7_rests 52 rfl) rfl ?_
  refine P.iconst (dq dtX7_rests 53 rfl) ?_
  refine P.iast (dq dtX7_rests 54 rfl) (by repeat (first | assumption | exact up_s | rw [up_n (by first | assumption | (apply Ne.symm; assumption) | decide | omega)])) (by omega) (by omega) (by omega) ?_
  refine P.iinc (dq dtX7_rests 55 rfl) rfl (by decide) rfl rfl ?_
  refine P.goto (t := 76) (dq dtX7_rests 56 rfl) rfl ?_
  refine P.iload_n (dq dtX7_rests 47 rfl) rfl ?_
  refine P.iconst (dq dtX7_rests 48 rfl) ?_
  refine P.icmp_ge (t := 94) (dq dtX7_rests 49 rfl) rfl (by omega) (by omega) (fun h9 => absurd h9 (by decide)) (fun _ => ?_)
  refine P.aload_n (dq dtX7_rests 50 rfl) rfl ?_
  refine P.get flX7_45 (dq dtX7_rests 51 rfl) (by repeat (first | assumption | exact up_s | rw [up_n (by first | assumption | (apply Ne.symm; assumption) | decide | omega)])) (by rfl) ?_
  refine P.iload_n (dq dtX7_rests 52 rfl) rfl ?_
  refine P.iconst (dq dtX7_rests 53 rfl) ?_
  refine P.iast (dq dtX7_rests 54 rfl) (by repeat (first | assumption | exact up_s | rw [up_n (by first | assumption | (apply Ne.symm; assumption) | decide | omega)])) (by omega) (by omega) (by omega) ?_
  refine P.iinc (dq dtX7_rests 55 rfl) rfl (by decide) rfl rfl ?_
  refine P.goto (t := 76) (dq dtX7_rests 56 rfl) rfl ?_
  refine P.iload_n (dq dtX7_rests 47 rfl) rfl ?_
  refine P.iconst (dq dtX7_rests 48 rfl) ?_
  refine P.icmp_ge (t := 94) (dq dtX7_rests 49 rfl) rfl (by omega) (by omega) (fun _ => ?_) (fun h9 => absurd h9 (by decide))
  refine P.ext (q := 94) (t := 0) (n := 3) (f' := fun _ => -1) (by repeat (first | assumption | exact up_s | rw [up_n (by first | assumption | (apply Ne.symm; assumption) | decide | omega)])) (fun i g1 g2 => ?_) ?_
  · rcases (show i = 0 ∨ i = 1 ∨ i = 2 by omega) with e | e | e <;> (rw [e]; rfl)
  refine P.vret (dq dtX7_rests 57 rfl) rfl rfl rfl ?_
  refine h _ (upI (upI (upI (upI (upI wf 112 0) 113 (cntF co v.1 v.2.1 0)) 114 0) 115 0) 116 1) co pf si to (by repeat (first | assumption | exact up_s | rw [up_n (by first | assumption | (apply Ne.symm; assumption) | decide | omega)])) (by repeat (first | assumption | exact up_s | rw [up_n (by first | assumption | (apply Ne.symm; assumption) | decide | omega)])) (hR.c hG (fun j g0 g1 => ?_)) ⟨?_, ?_, ?_, ?_, ?_⟩ (by repeat (first | assumption | exact up_s | rw [up_n (by first | assumption | (apply Ne.symm; assumption) | decide | omega)])) up_s (by repeat (first | assumption | exact up_s | rw [up_n (by first | assumption | (apply Ne.symm; assumption) | decide | omega)])) (by repeat (first | assumption | exact up_s | rw [up_n (by first | assumption | (apply Ne.symm; assumption) | decide | omega)])) (by repeat (first | assumption | exact up_s | rw [up_n (by first | assumption | (apply Ne.symm; assumption) | decide | omega)])) (by repeat (first | assumption | exact up_s | rw [up_n (by first | assumption | (apply Ne.symm; assumption) | decide | omega)])) (Fr.trans (fr2.wide (by simp)) (by repeat (first | assumption | exact Fr.rf | refine Fr.up ?_ (by simp))))
  · rw [upI_n (by omega), upI_n (by omega), upI_n (by omega), upI_n (by omega), upI_n (by omega)]
  · rfl
  · show (upI (upI (upI (upI (upI wf 112 0) 113 (cntF co v.1 v.2.1 0)) 114 0) 115 0) 116 1) (0 + 113) = _
    rw [← ec]
    rfl
  · rfl
  · rfl
  · rfl
