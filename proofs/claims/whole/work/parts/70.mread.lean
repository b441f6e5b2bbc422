theorem nt_skip {x : CX} {d N : Nat} {σ : PH} {Q : PQ} {p s u n be rp cl dg nu pk wm : Int} {f : Int → Int} (h87 : σ 87 = pcI 0 200 f) (hn : 0 ≤ n ∧ n ≤ 200) (hf : ∀ i : Int, 0 ≤ i ∧ i < n → 0 ≤ f i ∧ f i ≤ 255) (kk : P x d mX7_nextToken Q (0, 0) 46 [some (vR 84), none] [] N (up σ 84 (mdO p s u n (skp f n be) be rp cl dg nu pk wm))) : ∀ (t : Nat) (k : Int), 0 ≤ k ∧ k ≤ n → n - k < t → skp f n k = skp f n be → P x d mX7_nextToken Q (0, 0) 8 [some (vR 84), none] [] N (up σ 84 (mdO p s u n k be rp cl dg nu pk wm)) := by
  intro t
  induction t with
  | zero =>
    intro k hk ht
    exfalso; omega
  | succ t ih =>
    intro k hk ht he
    refine P.aload_n (dq dtX7_nextToken_0 4 rfl) rfl ?_
    refine P.get flX7_91 (dq dtX7_nextToken_0 5 rfl) (by repeat (first | assumption | exact up_s | rw [up_n (by first | assumption | (apply Ne.symm; assumption) | decide | omega)])) (by rfl) ?_
    refine P.aload_n (dq dtX7_nextToken_0 6 rfl) rfl ?_
    refine P.get flX7_76 (dq dtX7_nextToken_0 7 rfl) (by repeat (first | assumption | exact up_s | rw [up_n (by first | assumption | (apply Ne.symm; assumption) | decide | omega)])) (by rfl) ?_
    refine P.icmp_ge (t := 46) (dq dtX7_nextToken_0 8 rfl) rfl (by omega) (by omega) (fun c_16 => ?_) (fun c_16 => ?_)
    · rw [← he] at kk
      have e : skp f n k = k := rn_n (fun z => by have := of_decide_eq_true z.2; omega)
      rw [e] at kk
      exact kk
    · have q1 := hf k (by omega)
      refine P.aload_n (dq dtX7_nextToken_0 9 rfl) rfl ?_
      refine P.get flX7_24 (dq dtX7_nextToken_0 10 rfl) (by repeat (first | assumption | exact up_s | rw [up_n (by first | assumption | (apply Ne.symm; assumption) | decide | omega)])) (by rfl) ?_
      refine P.aload_n (dq dtX7_nextToken_0 11 rfl) rfl ?_
      refine P.get flX7_91 (dq dtX7_nextToken_0 12 rfl) (by repeat (first | assumption | exact up_s | rw [up_n (by first | assumption | (apply Ne.symm; assumption) | decide | omega)])) (by rfl) ?_
      refine P.iald (dq dtX7_nextToken_0 13 rfl) (by repeat (first | assumption | exact up_s | rw [up_n (by first | assumption | (apply Ne.symm; assumption) | decide | omega)])) (by omega) (by omega) (by omega) ?_
      refine P.bipush (dq dtX7_nextToken_0 14 rfl) rfl ?_
      refine P.icmp_ne (t := 46) (dq dtX7_nextToken_0 15 rfl) rfl (by omega) (by omega) (fun c_30 => ?_) (fun c_30 => ?_)
      · rw [← he] at kk
        have e : skp f n k = k := rn_n (fun z => by have := of_decide_eq_true z.2; omega)
        rw [e] at kk
        exact kk
      · refine P.aload_n (dq dtX7_nextToken_0 16 rfl) rfl ?_
        refine P.dup (dq dtX7_nextToken_0 17 rfl) rfl ?_
        refine P.get flX7_91 (dq dtX7_nextToken_0 18 rfl) (by repeat (first | assumption | exact up_s | rw [up_n (by first | assumption | (apply Ne.symm; assumption) | decide | omega)])) (by rfl) ?_
        refine P.iconst (dq dtX7_nextToken_0 19 rfl) ?_
        refine P.iadd (dq dtX7_nextToken_0 20 rfl) ?_
        refine P.put flX7_91 rfl (dq dtX7_nextToken_0 21 rfl) (by repeat (first | assumption | exact up_s | rw [up_n (by first | assumption | (apply Ne.symm; assumption) | decide | omega)])) (by exact Nat.le_of_ble_eq_true rfl) rfl rfl rfl rfl rfl ?_
        refine P.goto (t := 8) (dq dtX7_nextToken_0 22 rfl) rfl ?_
        repeat (rw [up_up])
        refine ih (k + 1) (by omega) (by omega) (Eq.trans ?_ he)
        exact (rn_y (by omega) (decide_eq_true (by omega))).symm
theorem nt_end {x : CX} {d N : Nat} {σ : PH} {Q : PQ} {p s u n be rp cl dg nu pk wm : Int} {f : Int → Int} (h87 : σ 87 = pcI 0 200 f) (hn : 0 ≤ n ∧ n ≤ 200) (hf : ∀ i : Int, 0 ≤ i ∧ i < n → 0 ≤ f i ∧ f i ≤ 255) (hd : 2 ≤ d) {k : Int} (hk : 0 ≤ k ∧ k < n) (h : Q none (up σ 84 (mdO p s u n k (tkE f n k) rp cl dg nu pk wm))) : ∀ (t : Nat) (e : Int), k < e ∧ e ≤ n → n - e < t → rn (prC (f k)) f n e = tkE f n k → P x d mX7_nextToken Q (0, 0) 85 [some (vR 84), some (vI (f k))] [] N (up σ 84 (mdO p s u n k e rp cl dg nu pk wm)) := by
  intro t
  induction t with
  | zero =>
    intro e he ht
    exfalso; omega
  | succ t ih =>
    intro e he ht hr
    have q0 := hf k (by omega)
    refine P.aload_n (dq dtX7_nextToken_0 44 rfl) rfl ?_
    refine P.get flX7_88 (dq dtX7_nextToken_0 45 rfl) (by repeat (first | assumption | exact up_s | rw [up_n (by first | assumption | (apply Ne.symm; assumption) | decide | omega)])) (by rfl) ?_
    refine P.aload_n (dq dtX7_nextToken_0 46 rfl) rfl ?_
    refine P.get flX7_76 (dq dtX7_nextToken_0 47 rfl) (by repeat (first | assumption | exact up_s | rw [up_n (by first | assumption | (apply Ne.symm; assumption) | decide | omega)])) (by rfl) ?_
    refine P.icmp_ge (t := 153) (dq dtX7_nextToken_0 48 rfl) rfl (by omega) (by omega) (fun c_93 => ?_) (fun c_93 => ?_)
    · refine P.vret (dq dtX7_nextToken_1 12 rfl) rfl rfl rfl ?_
      have e9 : rn (prC (f k)) f n e = e := rn_n (fun z => by have := prC_iff.mp z.2; omega)
      rw [← hr, e9] at h
      exact h
    · have q1 := hf e (by omega)
      refine P.iload_n (dq dtX7_nextToken_0 49 rfl) rfl ?_
      refine P.callS1 (M' := mX7_isSmall) (d' := d - 1) mlX7_94 mcX7_isSmall msX7_isSmall (dq dtX7_nextToken_0 50 rfl) (by omega) (Nat.le_of_ble_eq_true rfl) ?_
      refine ct_X7_isSmall (by omega) (by omega) (fun n_97 => ?_) (fun n_97 => ?_)
      · refine P.if_eq (t := 118) (dq dtX7_nextToken_0 51 rfl) rfl (by omega) (fun h9 => absurd h9 (by decide)) (fun _ => ?_)
        refine P.aload_n (dq dtX7_nextToken_0 52 rfl) rfl ?_
        refine P.get flX7_24 (dq dtX7_nextToken_0 53 rfl) (by repeat (first | assumption | exact up_s | rw [up_n (by first | assumption | (apply Ne.symm; assumption) | decide | omega)])) (by rfl) ?_
        refine P.aload_n (dq dtX7_nextToken_0 54 rfl) rfl ?_
        refine P.get flX7_88 (dq dtX7_nextToken_0 55 rfl) (by repeat (first | assumption | exact up_s | rw [up_n (by first | assumption | (apply Ne.symm; assumption) | decide | omega)])) (by rfl) ?_
        refine P.iald (dq dtX7_nextToken_0 56 rfl) (by repeat (first | assumption | exact up_s | rw [up_n (by first | assumption | (apply Ne.symm; assumption) | decide | omega)])) (by omega) (by omega) (by omega) ?_
        refine P.callS1 (M' := mX7_isSmall) (d' := d - 1) mlX7_94 mcX7_isSmall msX7_isSmall (dq dtX7_nextToken_0 57 rfl) (by omega) (Nat.le_of_ble_eq_true rfl) ?_
        refine ct_X7_isSmall (by omega) (by omega) (fun n_112 => ?_) (fun n_112 => ?_)
        · refine P.if_ne (t := 140) (dq dtX7_nextToken_0 58 rfl) rfl (by omega) (fun _ => ?_) (fun h9 => absurd h9 (by decide))
          refine P.aload_n (dq dtX7_nextToken_1 5 rfl) rfl ?_
          refine P.dup (dq dtX7_nextToken_1 6 rfl) rfl ?_
          refine P.get flX7_88 (dq dtX7_nextToken_1 7 rfl) (by repeat (first | assumption | exact up_s | rw [up_n (by first | assumption | (apply Ne.symm; assumption) | decide | omega)])) (by rfl) ?_
          refine P.iconst (dq dtX7_nextToken_1 8 rfl) ?_
          refine P.iadd (dq dtX7_nextToken_1 9 rfl) ?_
          refine P.put flX7_88 rfl (dq dtX7_nextToken_1 10 rfl) (by repeat (first | assumption | exact up_s | rw [up_n (by first | assumption | (apply Ne.symm; assumption) | decide | omega)])) (by exact Nat.le_of_ble_eq_true rfl) rfl rfl rfl rfl rfl ?_
          refine P.goto (t := 85) (dq dtX7_nextToken_1 11 rfl) rfl ?_
          repeat (rw [up_up])
          refine ih (e + 1) (by omega) (by omega) (Eq.trans ?_ hr)
          exact (rn_y (by omega) (prC_iff.mpr (by omega))).symm
        · refine P.if_ne (t := 140) (dq dtX7_nextToken_0 58 rfl) rfl (by omega) (fun h9 => absurd h9 (by decide)) (fun _ => ?_)
          refine P.iload_n (dq dtX7_nextToken_0 59 rfl) rfl ?_
          refine P.callS1 (M' := mX7_isDigit) (d' := d - 1) mlX7_98 mcX7_isDigit msX7_isDigit (dq dtX7_nextToken_0 60 rfl) (by omega) (Nat.le_of_ble_eq_true rfl) ?_
          refine ct_X7_isDigit (by omega) (by omega) (fun n_119 => ?_) (fun n_119 => ?_)
          · refine P.if_eq (t := 153) (dq dtX7_nextToken_0 61 rfl) rfl (by omega) (fun h9 => absurd h9 (by decide)) (fun _ => ?_)
            refine P.aload_n (dq dtX7_nextToken_0 62 rfl) rfl ?_
            refine P.get flX7_24 (dq dtX7_nextToken_0 63 rfl) (by repeat (first | assumption | exact up_s | rw [up_n (by first | assumption | (apply Ne.symm; assumption) | decide | omega)])) (by rfl) ?_
            refine P.aload_n (dq dtX7_nextToken_1 0 rfl) rfl ?_
            refine P.get flX7_88 (dq dtX7_nextToken_1 1 rfl) (by repeat (first | assumption | exact up_s | rw [up_n (by first | assumption | (apply Ne.symm; assumption) | decide | omega)])) (by rfl) ?_
            refine P.iald (dq dtX7_nextToken_1 2 rfl) (by repeat (first | assumption | exact up_s | rw [up_n (by first | assumption | (apply Ne.symm; assumption) | decide | omega)])) (by omega) (by omega) (by omega) ?_
            refine P.callS1 (M' := mX7_isDigit) (d' := d - 1) mlX7_98 mcX7_isDigit msX7_isDigit (dq dtX7_nextToken_1 3 rfl) (by omega) (Nat.le_of_ble_eq_true rfl) ?_
            refine ct_X7_isDigit (by omega) (by omega) (fun n_134 => ?_) (fun n_134 => ?_)
            · refine P.if_eq (t := 153) (dq dtX7_nextToken_1 4 rfl) rfl (by omega) (fun h9 => absurd h9 (by decide)) (fun _ => ?_)
              refine P.aload_n (dq dtX7_nextToken_1 5 rfl) rfl ?_
              refine P.dup (dq dtX7_nextToken_1 6 rfl) rfl ?_
              refine P.get flX7_88 (dq dtX7_nextToken_1 7 rfl) (by repeat (first | assumption | exact up_s | rw [up_n (by first | assumption | (apply Ne.symm; assumption) | decide | omega)])) (by rfl) ?_
              refine P.iconst (dq dtX7_nextToken_1 8 rfl) ?_
              refine P.iadd (dq dtX7_nextToken_1 9 rfl) ?_
              refine P.put flX7_88 rfl (dq dtX7_nextToken_1 10 rfl) (by repeat (first | assumption | exact up_s | rw [up_n (by first | assumption | (apply Ne.symm; assumption) | decide | omega)])) (by exact Nat.le_of_ble_eq_true rfl) rfl rfl rfl rfl rfl ?_
              refine P.goto (t := 85) (dq dtX7_nextToken_1 11 rfl) rfl ?_
              repeat (rw [up_up])
              refine ih (e + 1) (by omega) (by omega) (Eq.trans ?_ hr)
              exact (rn_y (by omega) (prC_iff.mpr (by omega))).symm
            · refine P.if_eq (t := 153) (dq dtX7_nextToken_1 4 rfl) rfl (by omega) (fun _ => ?_) (fun h9 => absurd h9 (by decide))
              refine P.vret (dq dtX7_nextToken_1 12 rfl) rfl rfl rfl ?_
              have e9 : rn (prC (f k)) f n e = e := rn_n (fun z => by have := prC_iff.mp z.2; omega)
              rw [← hr, e9] at h
              exact h
          · refine P.if_eq (t := 153) (dq dtX7_nextToken_0 61 rfl) rfl (by omega) (fun _ => ?_) (fun h9 => absurd h9 (by decide))
            refine P.vret (dq dtX7_nextToken_1 12 rfl) rfl rfl rfl ?_
            have e9 : rn (prC (f k)) f n e = e := rn_n (fun z => by have := prC_iff.mp z.2; omega)
            rw [← hr, e9] at h
            exact h
      · refine P.if_eq (t := 118) (dq dtX7_nextToken_0 51 rfl) rfl (by omega) (fun _ => ?_) (fun h9 => absurd h9 (by decide))
        refine P.iload_n (dq dtX7_nextToken_0 59 rfl) rfl ?_
        refine P.callS1 (M' := mX7_isDigit) (d' := d - 1) mlX7_98 mcX7_isDigit msX7_isDigit (dq dtX7_nextToken_0 60 rfl) (by omega) (Nat.le_of_ble_eq_true rfl) ?_
        refine ct_X7_isDigit (by omega) (by omega) (fun n_119 => ?_) (fun n_119 => ?_)
        · refine P.if_eq (t := 153) (dq dtX7_nextToken_0 61 rfl) rfl (by omega) (fun h9 => absurd h9 (by decide)) (fun _ => ?_)
          refine P.aload_n (dq dtX7_nextToken_0 62 rfl) rfl ?_
          refine P.get flX7_24 (dq dtX7_nextToken_0 63 rfl) (by repeat (first | assumption | exact up_s | rw [up_n (by first | assumption | (apply Ne.symm; assumption) | decide | omega)])) (by rfl) ?_
          refine P.aload_n (dq dtX7_nextToken_1 0 rfl) rfl ?_
          refine P.get flX7_88 (dq dtX7_nextToken_1 1 rfl) (by repeat (first | assumption | exact up_s | rw [up_n (by first | assumption | (apply Ne.symm; assumption) | decide | omega)])) (by rfl) ?_
          refine P.iald (dq dtX7_nextToken_1 2 rfl) (by repeat (first | assumption | exact up_s | rw [up_n (by first | assumption | (apply Ne.symm; assumption) | decide | omega)])) (by omega) (by omega) (by omega) ?_
          refine P.callS1 (M' := mX7_isDigit) (d' := d - 1) mlX7_98 mcX7_isDigit msX7_isDigit (dq dtX7_nextToken_1 3 rfl) (by omega) (Nat.le_of_ble_eq_true rfl) ?_
          refine ct_X7_isDigit (by omega) (by omega) (fun n_134 => ?_) (fun n_134 => ?_)
          · refine P.if_eq (t := 153) (dq dtX7_nextToken_1 4 rfl) rfl (by omega) (fun h9 => absurd h9 (by decide)) (fun _ => ?_)
            refine P.aload_n (dq dtX7_nextToken_1 5 rfl) rfl ?_
            refine P.dup (dq dtX7_nextToken_1 6 rfl) rfl ?_
            refine P.get flX7_88 (dq dtX7_nextToken_1 7 rfl) (by repeat (first | assumption | exact up_s | rw [up_n (by first | assumption | (apply Ne.symm; assumption) | decide | omega)])) (by rfl) ?_
            refine P.iconst (dq dtX7_nextToken_1 8 rfl) ?_
            refine P.iadd (dq dtX7_nextToken_1 9 rfl) ?_
            refine P.put flX7_88 rfl (dq dtX7_nextToken_1 10 rfl) (by repeat (first | assumption | exact up_s | rw [up_n (by first | assumption | (apply Ne.symm; assumption) | decide | omega)])) (by exact Nat.le_of_ble_eq_true rfl) rfl rfl rfl rfl rfl ?_
            refine P.goto (t := 85) (dq dtX7_nextToken_1 11 rfl) rfl ?_
            repeat (rw [up_up])
            refine ih (e + 1) (by omega) (by omega) (Eq.trans ?_ hr)
            exact (rn_y (by omega) (prC_iff.mpr (by omega))).symm
          · refine P.if_eq (t := 153) (dq dtX7_nextToken_1 4 rfl) rfl (by omega) (fun _ => ?_) (fun h9 => absurd h9 (by decide))
            refine P.vret (dq dtX7_nextToken_1 12 rfl) rfl rfl rfl ?_
            have e9 : rn (prC (f k)) f n e = e := rn_n (fun z => by have := prC_iff.mp z.2; omega)
            rw [← hr, e9] at h
            exact h
        · refine P.if_eq (t := 153) (dq dtX7_nextToken_0 61 rfl) rfl (by omega) (fun _ => ?_) (fun h9 => absurd h9 (by decide))
          refine P.vret (dq dtX7_nextToken_1 12 rfl) rfl rfl rfl ?_
          have e9 : rn (prC (f k)) f n e = e := rn_n (fun z => by have := prC_iff.mp z.2; omega)
          rw [← hr, e9] at h
          exact h
/-- nextToken -/
theorem ct_nextTok {x : CM} {d N : Nat} {σ : PH} {Q : PQ} {p s u n be rp cl dg nu pk wm : Int} {f : Int → Int} (h87 : σ 87 = pcI 0 200 f) (hn : 0 ≤ n ∧ n ≤ 200) (hf : ∀ i : Int, 0 ≤ i ∧ i < n → 0 ≤ f i ∧ f i ≤ 255) {fi : Int} (h84 : σ 84 = mdO p s u n fi be rp cl dg nu pk wm) (hd : 2 ≤ d) (hbe : 0 ≤ be ∧ be ≤ n) (h : Q none (up σ 84 (mdO p s u n (skp f n be) (if skp f n be < n then tkE f n (skp f n be) else skp f n be) rp cl dg nu pk wm))) : Call x d 0 0 mX7_nextToken [vR 84] N σ Q := by
  refine Call.of mcX7_nextToken (Nat.le_of_ble_eq_true rfl) (fun y hy => ?_)
  subst hy
  refine P.aload_n (dq dtX7_nextToken_0 0 rfl) rfl ?_
  refine P.aload_n (dq dtX7_nextToken_0 1 rfl) rfl ?_
  refine P.get flX7_88 (dq dtX7_nextToken_0 2 rfl) (by repeat (first | assumption | exact up_s | rw [up_n (by first | assumption | (apply Ne.symm; assumption) | decide | omega)])) (by rfl) ?_
  refine P.put flX7_91 rfl (dq dtX7_nextToken_0 3 rfl) (by repeat (first | assumption | exact up_s | rw [up_n (by first | assumption | (apply Ne.symm; assumption) | decide | omega)])) (by exact Nat.le_of_ble_eq_true rfl) rfl rfl rfl rfl rfl ?_
  repeat (rw [up_up])
  refine nt_skip (σ := σ) h87 hn hf ?_ (n - be + 1).toNat be hbe (by omega) rfl
  have kb := rn_bd (pr := bB) (f := f) (n := n) (k := be)
  have kb2 : be ≤ skp f n be ∧ (be ≤ n → skp f n be ≤ n) := kb
  generalize hk : skp f n be = k at *
  refine P.aload_n (dq dtX7_nextToken_0 23 rfl) rfl ?_
  refine P.aload_n (dq dtX7_nextToken_0 24 rfl) rfl ?_
  refine P.get flX7_91 (dq dtX7_nextToken_0 25 rfl) (by repeat (first | assumption | exact up_s | rw [up_n (by first | assumption | (apply Ne.symm; assumption) | decide | omega)])) (by rfl) ?_
  refine P.put flX7_88 rfl (dq dtX7_nextToken_0 26 rfl) (by repeat (first | assumption | exact up_s | rw [up_n (by first | assumption | (apply Ne.symm; assumption) | decide | omega)])) (by exact Nat.le_of_ble_eq_true rfl) rfl rfl rfl rfl rfl ?_
  refine P.aload_n (dq dtX7_nextToken_0 27 rfl) rfl ?_
  refine P.get flX7_91 (dq dtX7_nextToken_0 28 rfl) (by repeat (first | assumption | exact up_s | rw [up_n (by first | assumption | (apply Ne.symm; assumption) | decide | omega)])) (by rfl) ?_
  refine P.aload_n (dq dtX7_nextToken_0 29 rfl) rfl ?_
  refine P.get flX7_76 (dq dtX7_nextToken_0 30 rfl) (by repeat (first | assumption | exact up_s | rw [up_n (by first | assumption | (apply Ne.symm; assumption) | decide | omega)])) (by rfl) ?_
  refine P.icmp_ge (t := 153) (dq dtX7_nextToken_0 31 rfl) rfl (by omega) (by omega) (fun c_62 => ?_) (fun c_62 => ?_)
  · refine P.vret (dq dtX7_nextToken_1 12 rfl) rfl rfl rfl ?_
    repeat (rw [up_up])
    rw [if_neg (by omega)] at h
    exact h
  · have q0 := hf k (by omega)
    refine P.aload_n (dq dtX7_nextToken_0 32 rfl) rfl ?_
    refine P.get flX7_24 (dq dtX7_nextToken_0 33 rfl) (by repeat (first | assumption | exact up_s | rw [up_n (by first | assumption | (apply Ne.symm; assumption) | decide | omega)])) (by rfl) ?_
    refine P.aload_n (dq dtX7_nextToken_0 34 rfl) rfl ?_
    refine P.get flX7_91 (dq dtX7_nextToken_0 35 rfl) (by repeat (first | assumption | exact up_s | rw [up_n (by first | assumption | (apply Ne.symm; assumption) | decide | omega)])) (by rfl) ?_
    refine P.iald (dq dtX7_nextToken_0 36 rfl) (by repeat (first | assumption | exact up_s | rw [up_n (by first | assumption | (apply Ne.symm; assumption) | decide | omega)])) (by omega) (by omega) (by omega) ?_
    refine P.istore_n (dq dtX7_nextToken_0 37 rfl) (by decide) rfl rfl ?_
    refine P.aload_n (dq dtX7_nextToken_0 38 rfl) rfl ?_
    refine P.dup (dq dtX7_nextToken_0 39 rfl) rfl ?_
    refine P.get flX7_88 (dq dtX7_nextToken_0 40 rfl) (by repeat (first | assumption | exact up_s | rw [up_n (by first | assumption | (apply Ne.symm; assumption) | decide | omega)])) (by rfl) ?_
    refine P.iconst (dq dtX7_nextToken_0 41 rfl) ?_
    refine P.iadd (dq dtX7_nextToken_0 42 rfl) ?_
    refine P.put flX7_88 rfl (dq dtX7_nextToken_0 43 rfl) (by repeat (first | assumption | exact up_s | rw [up_n (by first | assumption | (apply Ne.symm; assumption) | decide | omega)])) (by exact Nat.le_of_ble_eq_true rfl) rfl rfl rfl rfl rfl ?_
    repeat (rw [up_up])
    rw [if_pos (by omega)] at h
    exact nt_end (σ := σ) (be := be) h87 hn hf hd (by omega) h (n - k).toNat (k + 1) (by omega) (by omega) tkE_pr.symm
theorem rs_next {x : CM} {d N : Nat} {σ : PH} {Q : PQ} {f st kd vl : Int → Int} {n m : Int} (hT : TK f n st kd vl m) (hn : 0 ≤ n ∧ n ≤ 200) (hf : ∀ i : Int, 0 ≤ i ∧ i < n → 0 ≤ f i ∧ f i ≤ 255) {u pk wm dg p0 s0 : Int} {wf0 : Int → Int} {i cl nu : Int} {v : MsV} (hi : 0 ≤ i ∧ i < m) (hR : RS f st n m u pk wm dg p0 s0 wf0 σ i v cl nu) (hd : 2 ≤ d) (h : ∀ σ' : PH, RS f st n m u pk wm dg p0 s0 wf0 σ' (nx m i) v cl nu → Fr σ σ' [84, 85] → Q none σ') : Call x d 0 0 mX7_nextToken [vR 84] N σ Q := by
  obtain ⟨h87, h88, p, s, wf, h84, h85, hD⟩ := id hR
  obtain ⟨b1, b2, b3⟩ := tok_b hT hi hn.1
  obtain ⟨t1, t2⟩ := tok_next hT hi
  refine ct_nextTok h87 hn hf h84 hd (by omega) ?_
  rw [t1, t2]
  exact h _ ⟨(up_n (by decide)).trans h87, (up_n (by decide)).trans h88, p, s, wf, up_s, (up_n (by decide)).trans h85, hD⟩ (Fr.up Fr.rf (by simp))
/-- takesNumber -/
theorem rs_num {x : CM} {d N : Nat} {σ : PH} {Q : PQ} {f st kd vl : Int → Int} {n m : Int} (hT : TK f n st kd vl m) (hn : 0 ≤ n ∧ n ≤ 200) (hf : ∀ i : Int, 0 ≤ i ∧ i < n → 0 ≤ f i ∧ f i ≤ 255) {u pk wm dg p0 s0 : Int} {wf0 : Int → Int} {i cl nu : Int} {v : MsV} (hi : 0 ≤ i ∧ i < m) (hR : RS f st n m u pk wm dg p0 s0 wf0 σ i v cl nu) (hd : 3 ≤ d) {lo hi2 : Int} (hlo : 0 ≤ lo ∧ inR lo) (hhi : inR hi2) (h : ∀ (σ' : PH) (nu' : Int), RS f st n m u pk wm dg p0 s0 wf0 σ' (pNum kd vl m lo hi2 i).2 v cl nu' → Fr σ σ' [84, 85] → ((pNum kd vl m lo hi2 i).1 ≠ -1 → nu' = (pNum kd vl m lo hi2 i).1) → Q (some (vI (if (pNum kd vl m lo hi2 i).1 = -1 then 0 else 1))) σ') : Call x d 0 0 mX7_takesNumber [vR 84, vI lo, vI hi2] N σ Q := by
  refine Call.of mcX7_takesNumber (Nat.le_of_ble_eq_true rfl) (fun y hy => ?_)
  subst hy
  obtain ⟨h87, h88, p, s, wf, h84, h85, hD⟩ := id hR
  obtain ⟨b1, b2, b3⟩ := tok_b hT hi hn.1
  have b4 := tok_end hT hi hn.1
  obtain ⟨c1, c2⟩ := tok_num hT hi hn.1
  refine P.aload_n (dq dtX7_takesNumber_0 0 rfl) rfl ?_
  refine P.get flX7_91 (dq dtX7_takesNumber_0 1 rfl) (by repeat (first | assumption | exact up_s | rw [up_n (by first | assumption | (apply Ne.symm; assumption) | decide | omega)])) (by rfl) ?_
  refine P.aload_n (dq dtX7_takesNumber_0 2 rfl) rfl ?_
  refine P.get flX7_76 (dq dtX7_takesNumber_0 3 rfl) (by repeat (first | assumption | exact up_s | rw [up_n (by first | assumption | (apply Ne.symm; assumption) | decide | omega)])) (by rfl) ?_
  refine P.icmp_eq (t := 39) (dq dtX7_takesNumber_0 4 rfl) rfl (by omega) (by omega) (fun c_8 => ?_) (fun c_8 => ?_)
  · refine P.iconst (dq dtX7_takesNumber_0 19 rfl) ?_
    refine P.zret (dq dtX7_takesNumber_0 20 rfl) rfl rfl (by decide) rfl ?_
    first
    | (have ep : pNum kd vl m lo hi2 i = (-1, i) := if_neg (fun z => by have := c1.mp z.1; omega)
       rw [ep] at h
       have hh := h σ nu hR Fr.rf (fun z => absurd rfl z)
       rw [if_pos rfl] at hh
       exact hh)
    | (have ek : kd i = 2 := c1.mpr ⟨by omega, by omega⟩
       have ev := (c2 ek).2.2 (by omega)
       have ep : pNum kd vl m lo hi2 i = (-1, i) := if_neg (fun z => by omega)
       rw [ep] at h
       have hh := h σ nu hR Fr.rf (fun z => absurd rfl z)
       rw [if_pos rfl] at hh
       exact hh)
  · have q0 := hf (st i) (by omega)
    refine P.aload_n (dq dtX7_takesNumber_0 5 rfl) rfl ?_
    refine P.get flX7_24 (dq dtX7_takesNumber_0 6 rfl) (by repeat (first | assumption | exact up_s | rw [up_n (by first | assumption | (apply Ne.symm; assumption) | decide | omega)])) (by rfl) ?_
    refine P.aload_n (dq dtX7_takesNumber_0 7 rfl) rfl ?_
    refine P.get flX7_91 (dq dtX7_takesNumber_0 8 rfl) (by repeat (first | assumption | exact up_s | rw [up_n (by first | assumption | (apply Ne.symm; assumption) | decide | omega)])) (by rfl) ?_
    refine P.iald (dq dtX7_takesNumber_0 9 rfl) (by repeat (first | assumption | exact up_s | rw [up_n (by first | assumption | (apply Ne.symm; assumption) | decide | omega)])) (by omega) (by omega) (by omega) ?_
    refine P.callS1 (M' := mX7_isDigit) (d' := d - 1) mlX7_98 mcX7_isDigit msX7_isDigit (dq dtX7_takesNumber_0 10 rfl) (by omega) (Nat.le_of_ble_eq_true rfl) ?_
    refine ct_X7_isDigit (by omega) (by omega) (fun n_20 => ?_) (fun n_20 => ?_)
    · refine P.if_eq (t := 39) (dq dtX7_takesNumber_0 11 rfl) rfl (by omega) (fun h9 => absurd h9 (by decide)) (fun _ => ?_)
      refine P.aload_n (dq dtX7_takesNumber_0 12 rfl) rfl ?_
      refine P.get flX7_88 (dq dtX7_takesNumber_0 13 rfl) (by repeat (first | assumption | exact up_s | rw [up_n (by first | assumption | (apply Ne.symm; assumption) | decide | omega)])) (by rfl) ?_
      refine P.aload_n (dq dtX7_takesNumber_0 14 rfl) rfl ?_
      refine P.get flX7_91 (dq dtX7_takesNumber_0 15 rfl) (by repeat (first | assumption | exact up_s | rw [up_n (by first | assumption | (apply Ne.symm; assumption) | decide | omega)])) (by rfl) ?_
      refine P.isub (dq dtX7_takesNumber_0 16 rfl) ?_
      refine P.iconst (dq dtX7_takesNumber_0 17 rfl) ?_
      refine P.icmp_le (t := 41) (dq dtX7_takesNumber_0 18 rfl) rfl (by omega) (by omega) (fun c_36 => ?_) (fun c_36 => ?_)
      · have ek : kd i = 2 := c1.mpr ⟨by omega, by omega⟩
        obtain ⟨d1, d2, d3⟩ := c2 ek
        have hlt : i < m - 1 := by
          rcases Int.lt_or_le i (m - 1) with z | z
          · exact z
          · have := b3 (by omega); omega
        have b5 := b2 hlt
        refine P.aload_n (dq dtX7_takesNumber_0 21 rfl) rfl ?_
        refine P.get flX7_24 (dq dtX7_takesNumber_0 22 rfl) (by repeat (first | assumption | exact up_s | rw [up_n (by first | assumption | (apply Ne.symm; assumption) | decide | omega)])) (by rfl) ?_
        refine P.aload_n (dq dtX7_takesNumber_0 23 rfl) rfl ?_
        refine P.get flX7_91 (dq dtX7_takesNumber_0 24 rfl) (by repeat (first | assumption | exact up_s | rw [up_n (by first | assumption | (apply Ne.symm; assumption) | decide | omega)])) (by rfl) ?_
        refine P.iald (dq dtX7_takesNumber_0 25 rfl) (by repeat (first | assumption | exact up_s | rw [up_n (by first | assumption | (apply Ne.symm; assumption) | decide | omega)])) (by omega) (by omega) (by omega) ?_
        refine P.bipush (dq dtX7_takesNumber_0 26 rfl) rfl ?_
        refine P.isub (dq dtX7_takesNumber_0 27 rfl) ?_
        refine P.istore_n (dq dtX7_takesNumber_0 28 rfl) (by decide) rfl rfl ?_
        refine P.aload_n (dq dtX7_takesNumber_0 29 rfl) rfl ?_
        refine P.get flX7_88 (dq dtX7_takesNumber_0 30 rfl) (by repeat (first | assumption | exact up_s | rw [up_n (by first | assumption | (apply Ne.symm; assumption) | decide | omega)])) (by rfl) ?_
        refine P.aload_n (dq dtX7_takesNumber_0 31 rfl) rfl ?_
        refine P.get flX7_91 (dq dtX7_takesNumber_0 32 rfl) (by repeat (first | assumption | exact up_s | rw [up_n (by first | assumption | (apply Ne.symm; assumption) | decide | omega)])) (by rfl) ?_
        refine P.isub (dq dtX7_takesNumber_0 33 rfl) ?_
        refine P.iconst (dq dtX7_takesNumber_0 34 rfl) ?_
        refine P.icmp_ne (t := 89) (dq dtX7_takesNumber_0 35 rfl) rfl (by omega) (by omega) (fun c_64 => ?_) (fun c_64 => ?_)
        · refine P.iload_n (dq dtX7_takesNumber_0 50 rfl) rfl ?_
          refine P.istore_n (dq dtX7_takesNumber_0 51 rfl) (by decide) rfl rfl ?_
          first
          | rw [show 10 * (f (st i) - 48) + f (st i + 1) - 48 = vl i by omega]
          | rw [show f (st i) - 48 = vl i by (have := d1 (by omega); omega)]
          have bv : -1 ≤ vl i ∧ vl i ≤ 99 := by omega
          refine P.iload_n (dq dtX7_takesNumber_0 52 rfl) rfl ?_
          refine P.i2l (dq dtX7_takesNumber_0 53 rfl) (by omega) ?_
          refine P.iload_n (dq dtX7_takesNumber_0 54 rfl) rfl ?_
          refine P.i2l (dq dtX7_takesNumber_0 55 rfl) (by omega) ?_
          refine P.iload_n (dq dtX7_takesNumber_0 56 rfl) rfl ?_
          refine P.i2l (dq dtX7_takesNumber_0 57 rfl) (by omega) ?_
          refine P.callS3 (M' := mX7_in) (d' := d - 1) mlX7_65 mcX7_in msX7_in (dq dtX7_takesNumber_0 58 rfl) (by omega) (Nat.le_of_ble_eq_true rfl) ?_
          refine ct_X7_in (by omega) (by omega) (by omega) (fun n_97 => ?_) (fun n_97 => ?_)
          · refine P.if_ne (t := 105) (dq dtX7_takesNumber_0 59 rfl) rfl (by omega) (fun _ => ?_) (fun h9 => absurd h9 (by decide))
            refine P.aload_n (dq dtX7_takesNumber_0 62 rfl) rfl ?_
            refine P.iload_n (dq dtX7_takesNumber_0 63 rfl) rfl ?_
            refine P.put flX7_101 rfl (dq dtX7_takesNumber_1 0 rfl) (by repeat (first | assumption | exact up_s | rw [up_n (by first | assumption | (apply Ne.symm; assumption) | decide | omega)])) (by exact Nat.le_of_ble_eq_true rfl) rfl rfl rfl rfl rfl ?_
            refine P.aload_n (dq dtX7_takesNumber_1 1 rfl) rfl ?_
            refine P.callV0 (M' := mX7_nextToken) (d' := d - 1) mlX7_104 mcX7_nextToken mvX7_nextToken (dq dtX7_takesNumber_1 2 rfl) (by omega) (Nat.le_of_ble_eq_true rfl) (by repeat (first | assumption | exact up_s | rw [up_n (by first | assumption | (apply Ne.symm; assumption) | decide | omega)])) rfl ?_
            have ep : pNum kd vl m lo hi2 i = (vl i, nx m i) := if_pos ⟨ek, n_97⟩
            refine rs_next (nu := vl i) (i := i) (v := v) (cl := cl) hT hn hf hi ⟨(by repeat (first | assumption | exact up_s | rw [up_n (by first | assumption | (apply Ne.symm; assumption) | decide | omega)])), (by repeat (first | assumption | exact up_s | rw [up_n (by first | assumption | (apply Ne.symm; assumption) | decide | omega)])), p, s, wf, up_s, (by repeat (first | assumption | exact up_s | rw [up_n (by first | assumption | (apply Ne.symm; assumption) | decide | omega)])), hD⟩ (by omega) (fun σ2 hR2 fr2 => ?_)
            refine P.iconst (dq dtX7_takesNumber_1 3 rfl) ?_
            refine P.zret (dq dtX7_takesNumber_1 4 rfl) rfl rfl (by decide) rfl ?_
            rw [ep] at h
            have hh := h σ2 (vl i) hR2 (Fr.trans (Fr.up Fr.rf (by simp)) fr2) (fun _ => rfl)
            rw [if_neg (show vl i ≠ -1 by omega)] at hh
            exact hh
          · refine P.if_ne (t := 105) (dq dtX7_takesNumber_0 59 rfl) rfl (by omega) (fun h9 => absurd h9 (by decide)) (fun _ => ?_)
            refine P.iconst (dq dtX7_takesNumber_0 60 rfl) ?_
            refine P.zret (dq dtX7_takesNumber_0 61 rfl) rfl rfl (by decide) rfl ?_
            have ep : pNum kd vl m lo hi2 i = (-1, i) := if_neg (fun z => n_97 z.2)
            rw [ep] at h
            have hh := h σ nu hR Fr.rf (fun z => absurd rfl z)
            rw [if_pos rfl] at hh
            exact hh
        · have d4 := d2 (by omega)
          refine P.bipush (dq dtX7_takesNumber_0 36 rfl) rfl ?_
          refine P.iload_n (dq dtX7_takesNumber_0 37 rfl) rfl ?_
          refine P.imul (dq dtX7_takesNumber_0 38 rfl) ?_
          refine P.aload_n (dq dtX7_takesNumber_0 39 rfl) rfl ?_
          refine P.get flX7_24 (dq dtX7_takesNumber_0 40 rfl) (by repeat (first | assumption | exact up_s | rw [up_n (by first | assumption | (apply Ne.symm; assumption) | decide | omega)])) (by rfl) ?_
          refine P.aload_n (dq dtX7_takesNumber_0 41 rfl) rfl ?_
          refine P.get flX7_91 (dq dtX7_takesNumber_0 42 rfl) (by repeat (first | assumption | exact up_s | rw [up_n (by first | assumption | (apply Ne.symm; assumption) | decide | omega)])) (by rfl) ?_
          refine P.iconst (dq dtX7_takesNumber_0 43 rfl) ?_
          refine P.iadd (dq dtX7_takesNumber_0 44 rfl) ?_
          refine P.iald (dq dtX7_takesNumber_0 45 rfl) (by repeat (first | assumption | exact up_s | rw [up_n (by first | assumption | (apply Ne.symm; assumption) | decide | omega)])) (by omega) (by omega) (by omega) ?_
          refine P.iadd (dq dtX7_takesNumber_0 46 rfl) ?_
          refine P.bipush (dq dtX7_takesNumber_0 47 rfl) rfl ?_
          refine P.isub (dq dtX7_takesNumber_0 48 rfl) ?_
          refine P.goto (t := 90) (dq dtX7_takesNumber_0 49 rfl) rfl ?_
          refine P.istore_n (dq dtX7_takesNumber_0 51 rfl) (by decide) rfl rfl ?_
          first
          | rw [show 10 * (f (st i) - 48) + f (st i + 1) - 48 = vl i by omega]
          | rw [show f (st i) - 48 = vl i by (have := d1 (by omega); omega)]
          have bv : -1 ≤ vl i ∧ vl i ≤ 99 := by omega
          refine P.iload_n (dq dtX7_takesNumber_0 52 rfl) rfl ?_
          refine P.i2l (dq dtX7_takesNumber_0 53 rfl) (by omega) ?_
          refine P.iload_n (dq dtX7_takesNumber_0 54 rfl) rfl ?_
          refine P.i2l (dq dtX7_takesNumber_0 55 rfl) (by omega) ?_
          refine P.iload_n (dq dtX7_takesNumber_0 56 rfl) rfl ?_
          refine P.i2l (dq dtX7_takesNumber_0 57 rfl) (by omega) ?_
          refine P.callS3 (M' := mX7_in) (d' := d - 1) mlX7_65 mcX7_in msX7_in (dq dtX7_takesNumber_0 58 rfl) (by omega) (Nat.le_of_ble_eq_true rfl) ?_
          refine ct_X7_in (by omega) (by omega) (by omega) (fun n_97 => ?_) (fun n_97 => ?_)
          · refine P.if_ne (t := 105) (dq dtX7_takesNumber_0 59 rfl) rfl (by omega) (fun _ => ?_) (fun h9 => absurd h9 (by decide))
            refine P.aload_n (dq dtX7_takesNumber_0 62 rfl) rfl ?_
            refine P.iload_n (dq dtX7_takesNumber_0 63 rfl) rfl ?_
            refine P.put flX7_101 rfl (dq dtX7_takesNumber_1 0 rfl) (by repeat (first | assumption | exact up_s | rw [up_n (by first | assumption | (apply Ne.symm; assumption) | decide | omega)])) (by exact Nat.le_of_ble_eq_true rfl) rfl rfl rfl rfl rfl ?_
            refine P.aload_n (dq dtX7_takesNumber_1 1 rfl) rfl ?_
            refine P.callV0 (M' := mX7_nextToken) (d' := d - 1) mlX7_104 mcX7_nextToken mvX7_nextToken (dq dtX7_takesNumber_1 2 rfl) (by omega) (Nat.le_of_ble_eq_true rfl) (by repeat (first | assumption | exact up_s | rw [up_n (by first | assumption | (apply Ne.symm; assumption) | decide | omega)])) rfl ?_
            have ep : pNum kd vl m lo hi2 i = (vl i, nx m i) := if_pos ⟨ek, n_97⟩
            refine rs_next (nu := vl i) (i := i) (v := v) (cl := cl) hT hn hf hi ⟨(by repeat (first | assumption | exact up_s | rw [up_n (by first | assumption | (apply Ne.symm; assumption) | decide | omega)])), (by repeat (first | assumption | exact up_s | rw [up_n (by first | assumption | (apply Ne.symm; assumption) | decide | omega)])), p, s, wf, up_s, (by repeat (first | assumption | exact up_s | rw [up_n (by first | assumption | (apply Ne.symm; assumption) | decide | omega)])), hD⟩ (by omega) (fun σ2 hR2 fr2 => ?_)
            refine P.iconst (dq dtX7_takesNumber_1 3 rfl) ?_
            refine P.zret (dq dtX7_takesNumber_1 4 rfl) rfl rfl (by decide) rfl ?_
            rw [ep] at h
            have hh := h σ2 (vl i) hR2 (Fr.trans (Fr.up Fr.rf (by simp)) fr2) (fun _ => rfl)
            rw [if_neg (show vl i ≠ -1 by omega)] at hh
            exact hh
          · refine P.if_ne (t := 105) (dq dtX7_takesNumber_0 59 rfl) rfl (by omega) (fun h9 => absurd h9 (by decide)) (fun _ => ?_)
            refine P.iconst (dq dtX7_takesNumber_0 60 rfl) ?_
            refine P.zret (dq dtX7_takesNumber_0 61 rfl) rfl rfl (by decide) rfl ?_
            have ep : pNum kd vl m lo hi2 i = (-1, i) := if_neg (fun z => n_97 z.2)
            rw [ep] at h
            have hh := h σ nu hR Fr.rf (fun z => absurd rfl z)
            rw [if_pos rfl] at hh
            exact hh
      · refine P.iconst (dq dtX7_takesNumber_0 19 rfl) ?_
        refine P.zret (dq dtX7_takesNumber_0 20 rfl) rfl rfl (by decide) rfl ?_
        first
        | (have ep : pNum kd vl m lo hi2 i = (-1, i) := if_neg (fun z => by have := c1.mp z.1; omega)
           rw [ep] at h
           have hh := h σ nu hR Fr.rf (fun z => absurd rfl z)
           rw [if_pos rfl] at hh
           exact hh)
        | (have ek : kd i = 2 := c1.mpr ⟨by omega, by omega⟩
           have ev := (c2 ek).2.2 (by omega)
           have ep : pNum kd vl m lo hi2 i = (-1, i) := if_neg (fun z => by omega)
           rw [ep] at h
           have hh := h σ nu hR Fr.rf (fun z => absurd rfl z)
           rw [if_pos rfl] at hh
           exact hh)
    · refine P.if_eq (t := 39) (dq dtX7_takesNumber_0 11 rfl) rfl (by omega) (fun _ => ?_) (fun h9 => absurd h9 (by decide))
      refine P.iconst (dq dtX7_takesNumber_0 19 rfl) ?_
      refine P.zret (dq dtX7_takesNumber_0 20 rfl) rfl rfl (by decide) rfl ?_
      first
      | (have ep : pNum kd vl m lo hi2 i = (-1, i) := if_neg (fun z => by have := c1.mp z.1; omega)
         rw [ep] at h
         have hh := h σ nu hR Fr.rf (fun z => absurd rfl z)
         rw [if_pos rfl] at hh
         exact hh)
      | (have ek : kd i = 2 := c1.mpr ⟨by omega, by omega⟩
         have ev := (c2 ek).2.2 (by omega)
         have ep : pNum kd vl m lo hi2 i = (-1, i) := if_neg (fun z => by omega)
         rw [ep] at h
         have hh := h σ nu hR Fr.rf (fun z => absurd rfl z)
         rw [if_pos rfl] at hh
         exact hh)
/-- takesErr -/
theorem rs_err {x : CM} {d N : Nat} {σ : PH} {Q : PQ} {f st kd vl : Int → Int} {n m : Int} (hT : TK f n st kd vl m) (hn : 0 ≤ n ∧ n ≤ 200) (hf : ∀ i : Int, 0 ≤ i ∧ i < n → 0 ≤ f i ∧ f i ≤ 255) {u pk wm dg p0 s0 : Int} {wf0 : Int → Int} {i cl nu : Int} {v : MsV} (hi : 0 ≤ i ∧ i < m) (hR : RS f st n m u pk wm dg p0 s0 wf0 σ i v cl nu) (hd : 4 ≤ d) (h : ∀ (σ' : PH) (nu' : Int), RS f st n m u pk wm dg p0 s0 wf0 σ' (pNum kd vl m 0 40 (pSg kd vl m i)).2 v cl nu' → Fr σ σ' [84, 85] → ((pNum kd vl m 0 40 (pSg kd vl m i)).1 ≠ -1 → nu' = if kd i = 3 ∧ vl i = 45 then -(pNum kd vl m 0 40 (pSg kd vl m i)).1 else (pNum kd vl m 0 40 (pSg kd vl m i)).1) → Q (some (vI (if (pNum kd vl m 0 40 (pSg kd vl m i)).1 = -1 then 0 else 1))) σ') : Call x d 0 0 mX7_takesErr [vR 84] N σ Q := by
  refine Call.of mcX7_takesErr (Nat.le_of_ble_eq_true rfl) (fun y hy => ?_)
  subst hy
  obtain ⟨h87, h88, p, s, wf, h84, h85, hD⟩ := id hR
  obtain ⟨b1, b2, b3⟩ := tok_b hT hi hn.1
  have b4 := tok_end hT hi hn.1
  have sg := tok_sign (c := 45) hT hi hn.1 (by omega)
  refine P.aload_n (dq dtX7_takesErr 0 rfl) rfl ?_
  refine P.get flX7_91 (dq dtX7_takesErr 1 rfl) (by repeat (first | assumption | exact up_s | rw [up_n (by first | assumption | (apply Ne.symm; assumption) | decide | omega)])) (by rfl) ?_
  refine P.aload_n (dq dtX7_takesErr 2 rfl) rfl ?_
  refine P.get flX7_76 (dq dtX7_takesErr 3 rfl) (by repeat (first | assumption | exact up_s | rw [up_n (by first | assumption | (apply Ne.symm; assumption) | decide | omega)])) (by rfl) ?_
  refine P.icmp_ge (t := 29) (dq dtX7_takesErr 4 rfl) rfl (by omega) (by omega) (fun c_8 => ?_) (fun c_8 => ?_)
  · refine P.iconst (dq dtX7_takesErr 14 rfl) ?_
    refine P.istore_n (dq dtX7_takesErr 15 rfl) (by decide) rfl rfl ?_
    refine P.iload_n (dq dtX7_takesErr 16 rfl) rfl ?_
    refine P.if_eq (t := 39) (dq dtX7_takesErr 17 rfl) rfl (by omega) (fun _ => ?_) (fun h9 => absurd h9 (by decide))
    first
    | (have es : pSg kd vl m i = nx m i := if_pos (sg.mpr (by omega))
       rw [es] at h)
    | (have es : pSg kd vl m i = i := if_neg (fun z => by have := sg.mp z; omega)
       rw [es] at h)
    refine P.aload_n (dq dtX7_takesErr 20 rfl) rfl ?_
    refine P.iconst (dq dtX7_takesErr 21 rfl) ?_
    refine P.bipush (dq dtX7_takesErr 22 rfl) rfl ?_
    refine P.callV2 (M' := mX7_takesNumber) (d' := d - 1) mlX7_107 mcX7_takesNumber mvX7_takesNumber (dq dtX7_takesErr 23 rfl) (by omega) (Nat.le_of_ble_eq_true rfl) (by repeat (first | assumption | exact up_s | rw [up_n (by first | assumption | (apply Ne.symm; assumption) | decide | omega)])) rfl ?_
    first
    | refine rs_num hT hn hf hi1 hR1 (by omega) (by omega) (by omega) (fun σ2 nu2 hR2 fr2 hnu => ?_)
    | refine rs_num hT hn hf hi hR (by omega) (by omega) (by omega) (fun σ2 nu2 hR2 fr2 hnu => ?_)
    obtain ⟨w87, w88, p2, s2, wf2, w84, w85, wD⟩ := id hR2
    refine P.if_ne (t := 51) (dq dtX7_takesErr 24 rfl) rfl (by split <;> omega) (fun c_46 => ?_) (fun c_46 => ?_)
    · refine P.aload_n (dq dtX7_takesErr 27 rfl) rfl ?_
      refine P.iload_n (dq dtX7_takesErr 28 rfl) rfl ?_
      refine P.if_eq (t := 64) (dq dtX7_takesErr 29 rfl) rfl (by omega) (fun _ => ?_) (fun h9 => absurd h9 (by decide))
      refine P.aload_n (dq dtX7_takesErr 34 rfl) rfl ?_
      refine P.get flX7_101 (dq dtX7_takesErr 35 rfl) (by repeat (first | assumption | exact up_s | rw [up_n (by first | assumption | (apply Ne.symm; assumption) | decide | omega)])) (by rfl) ?_
      refine P.put flX7_101 rfl (dq dtX7_takesErr 36 rfl) (by repeat (first | assumption | exact up_s | rw [up_n (by first | assumption | (apply Ne.symm; assumption) | decide | omega)])) (by exact Nat.le_of_ble_eq_true rfl) rfl rfl rfl rfl rfl ?_
      refine P.iconst (dq dtX7_takesErr 37 rfl) ?_
      refine P.zret (dq dtX7_takesErr 38 rfl) rfl rfl (by omega) rfl ?_
      have hne : ¬ (pNum kd vl m 0 40 _).1 = -1 := fun z => c_46 (if_pos z)
      have hv := hnu hne
      first
      | (have hh := h _ (-nu2) ⟨(by repeat (first | assumption | exact up_s | rw [up_n (by first | assumption | (apply Ne.symm; assumption) | decide | omega)])), (by repeat (first | assumption | exact up_s | rw [up_n (by first | assumption | (apply Ne.symm; assumption) | decide | omega)])), p2, s2, wf2, up_s, (by repeat (first | assumption | exact up_s | rw [up_n (by first | assumption | (apply Ne.symm; assumption) | decide | omega)])), wD⟩ (Fr.trans (fr1.trans fr2) (by repeat (first | assumption | exact Fr.rf | refine Fr.up ?_ (by simp)))) (fun _ => by rw [if_pos (sg.mpr (by omega)), hv])
         rw [if_neg hne] at hh
         exact hh)
      | (have hh := h _ nu2 ⟨(by repeat (first | assumption | exact up_s | rw [up_n (by first | assumption | (apply Ne.symm; assumption) | decide | omega)])), (by repeat (first | assumption | exact up_s | rw [up_n (by first | assumption | (apply Ne.symm; assumption) | decide | omega)])), p2, s2, wf2, up_s, (by repeat (first | assumption | exact up_s | rw [up_n (by first | assumption | (apply Ne.symm; assumption) | decide | omega)])), wD⟩ (Fr.trans fr2 (by repeat (first | assumption | exact Fr.rf | refine Fr.up ?_ (by simp)))) (fun _ => by rw [if_neg (fun z => by have := sg.mp z; omega), hv])
         rw [if_neg hne] at hh
         exact hh)
    · refine P.iconst (dq dtX7_takesErr 25 rfl) ?_
      refine P.zret (dq dtX7_takesErr 26 rfl) rfl rfl (by decide) rfl ?_
      first
      | (have hh := h σ2 nu2 hR2 (fr1.trans fr2) (fun z => absurd (by split at c_46 <;> omega) z)
         rw [c_46] at hh
         exact hh)
      | (have hh := h σ2 nu2 hR2 fr2 (fun z => absurd (by split at c_46 <;> omega) z)
         rw [c_46] at hh
         exact hh)
  · have q0 := hf (st i) (by omega)
    refine P.aload_n (dq dtX7_takesErr 5 rfl) rfl ?_
    refine P.get flX7_24 (dq dtX7_takesErr 6 rfl) (by repeat (first | assumption | exact up_s | rw [up_n (by first | assumption | (apply Ne.symm; assumption) | decide | omega)])) (by rfl) ?_
    refine P.aload_n (dq dtX7_takesErr 7 rfl) rfl ?_
    refine P.get flX7_91 (dq dtX7_takesErr 8 rfl) (by repeat (first | assumption | exact up_s | rw [up_n (by first | assumption | (apply Ne.symm; assumption) | decide | omega)])) (by rfl) ?_
    refine P.iald (dq dtX7_takesErr 9 rfl) (by repeat (first | assumption | exact up_s | rw [up_n (by first | assumption | (apply Ne.symm; assumption) | decide | omega)])) (by omega) (by omega) (by omega) ?_
    refine P.bipush (dq dtX7_takesErr 10 rfl) rfl ?_
    refine P.icmp_ne (t := 29) (dq dtX7_takesErr 11 rfl) rfl (by omega) (by omega) (fun c_22 => ?_) (fun c_22 => ?_)
    · refine P.iconst (dq dtX7_takesErr 14 rfl) ?_
      refine P.istore_n (dq dtX7_takesErr 15 rfl) (by decide) rfl rfl ?_
      refine P.iload_n (dq dtX7_takesErr 16 rfl) rfl ?_
      refine P.if_eq (t := 39) (dq dtX7_takesErr 17 rfl) rfl (by omega) (fun _ => ?_) (fun h9 => absurd h9 (by decide))
      first
      | (have es : pSg kd vl m i = nx m i := if_pos (sg.mpr (by omega))
         rw [es] at h)
      | (have es : pSg kd vl m i = i := if_neg (fun z => by have := sg.mp z; omega)
         rw [es] at h)
      refine P.aload_n (dq dtX7_takesErr 20 rfl) rfl ?_
      refine P.iconst (dq dtX7_takesErr 21 rfl) ?_
      refine P.bipush (dq dtX7_takesErr 22 rfl) rfl ?_
      refine P.callV2 (M' := mX7_takesNumber) (d' := d - 1) mlX7_107 mcX7_takesNumber mvX7_takesNumber (dq dtX7_takesErr 23 rfl) (by omega) (Nat.le_of_ble_eq_true rfl) (by repeat (first | assumption | exact up_s | rw [up_n (by first | assumption | (apply Ne.symm; assumption) | decide | omega)])) rfl ?_
      first
      | refine rs_num hT hn hf hi1 hR1 (by omega) (by omega) (by omega) (fun σ2 nu2 hR2 fr2 hnu => ?_)
      | refine rs_num hT hn hf hi hR (by omega) (by omega) (by omega) (fun σ2 nu2 hR2 fr2 hnu => ?_)
      obtain ⟨w87, w88, p2, s2, wf2, w84, w85, wD⟩ := id hR2
      refine P.if_ne (t := 51) (dq dtX7_takesErr 24 rfl) rfl (by split <;> omega) (fun c_46 => ?_) (fun c_46 => ?_)
      · refine P.aload_n (dq dtX7_takesErr 27 rfl) rfl ?_
        refine P.iload_n (dq dtX7_takesErr 28 rfl) rfl ?_
        refine P.if_eq (t := 64) (dq dtX7_takesErr 29 rfl) rfl (by omega) (fun _ => ?_) (fun h9 => absurd h9 (by decide))
        refine P.aload_n (dq dtX7_takesErr 34 rfl) rfl ?_
        refine P.get flX7_101 (dq dtX7_takesErr 35 rfl) (by repeat (first | assumption | exact up_s | rw [up_n (by first | assumption | (apply Ne.symm; assumption) | decide | omega)])) (by rfl) ?_
        refine P.put flX7_101 rfl (dq dtX7_takesErr 36 rfl) (by repeat (first | assumption | exact up_s | rw [up_n (by first | assumption | (apply Ne.symm; assumption) | decide | omega)])) (by exact Nat.le_of_ble_eq_true rfl) rfl rfl rfl rfl rfl ?_
        refine P.iconst (dq dtX7_takesErr 37 rfl) ?_
        refine P.zret (dq dtX7_takesErr 38 rfl) rfl rfl (by omega) rfl ?_
        have hne : ¬ (pNum kd vl m 0 40 _).1 = -1 := fun z => c_46 (if_pos z)
        have hv := hnu hne
        first
        | (have hh := h _ (-nu2) ⟨(by repeat (first | assumption | exact up_s | rw [up_n (by first | assumption | (apply Ne.symm; assumption) | decide | omega)])), (by repeat (first | assumption | exact up_s | rw [up_n (by first | assumption | (apply Ne.symm; assumption) | decide | omega)])), p2, s2, wf2, up_s, (by repeat (first | assumption | exact up_s | rw [up_n (by first | assumption | (apply Ne.symm; assumption) | decide | omega)])), wD⟩ (Fr.trans (fr1.trans fr2) (by repeat (first | assumption | exact Fr.rf | refine Fr.up ?_ (by simp)))) (fun _ => by rw [if_pos (sg.mpr (by omega)), hv])
           rw [if_neg hne] at hh
           exact hh)
        | (have hh := h _ nu2 ⟨(by repeat (first | assumption | exact up_s | rw [up_n (by first | assumption | (apply Ne.symm; assumption) | decide | omega)])), (by repeat (first | assumption | exact up_s | rw [up_n (by first | assumption | (apply Ne.symm; assumption) | decide | omega)])), p2, s2, wf2, up_s, (by repeat (first | assumption | exact up_s | rw [up_n (by first | assumption | (apply Ne.symm; assumption) | decide | omega)])), wD⟩ (Fr.trans fr2 (by repeat (first | assumption | exact Fr.rf | refine Fr.up ?_ (by simp)))) (fun _ => by rw [if_neg (fun z => by have := sg.mp z; omega), hv])
           rw [if_neg hne] at hh
           exact hh)
      · refine P.iconst (dq dtX7_takesErr 25 rfl) ?_
        refine P.zret (dq dtX7_takesErr 26 rfl) rfl rfl (by decide) rfl ?_
        first
        | (have hh := h σ2 nu2 hR2 (fr1.trans fr2) (fun z => absurd (by split at c_46 <;> omega) z)
           rw [c_46] at hh
           exact hh)
        | (have hh := h σ2 nu2 hR2 fr2 (fun z => absurd (by split at c_46 <;> omega) z)
           rw [c_46] at hh
           exact hh)
    · refine P.iconst (dq dtX7_takesErr 12 rfl) ?_
      refine P.goto (t := 30) (dq dtX7_takesErr 13 rfl) rfl ?_
      refine P.istore_n (dq dtX7_takesErr 15 rfl) (by decide) rfl rfl ?_
      refine P.iload_n (dq dtX7_takesErr 16 rfl) rfl ?_
      refine P.if_eq (t := 39) (dq dtX7_takesErr 17 rfl) rfl (by omega) (fun h9 => absurd h9 (by decide)) (fun _ => ?_)
      refine P.aload_n (dq dtX7_takesErr 18 rfl) rfl ?_
      refine P.callV0 (M' := mX7_nextToken) (d' := d - 1) mlX7_104 mcX7_nextToken mvX7_nextToken (dq dtX7_takesErr 19 rfl) (by omega) (Nat.le_of_ble_eq_true rfl) (by repeat (first | assumption | exact up_s | rw [up_n (by first | assumption | (apply Ne.symm; assumption) | decide | omega)])) rfl ?_
      refine rs_next hT hn hf hi hR (by omega) (fun σ1 hR1 fr1 => ?_)
      have hi1 := nx_b hi
      have k84 := hR1.2.2.choose_spec.choose_spec.choose_spec.1
      first
      | (have es : pSg kd vl m i = nx m i := if_pos (sg.mpr (by omega))
         rw [es] at h)
      | (have es : pSg kd vl m i = i := if_neg (fun z => by have := sg.mp z; omega)
         rw [es] at h)
      refine P.aload_n (dq dtX7_takesErr 20 rfl) rfl ?_
      refine P.iconst (dq dtX7_takesErr 21 rfl) ?_
      refine P.bipush (dq dtX7_takesErr 22 rfl) rfl ?_
      refine P.callV2 (M' := mX7_takesNumber) (d' := d - 1) mlX7_107 mcX7_takesNumber mvX7_takesNumber (dq dtX7_takesErr 23 rfl) (by omega) (Nat.le_of_ble_eq_true rfl) (by repeat (first | assumption | exact up_s | rw [up_n (by first | assumption | (apply Ne.symm; assumption) | decide | omega)])) rfl ?_
      first
      | refine rs_num hT hn hf hi1 hR1 (by omega) (by omega) (by omega) (fun σ2 nu2 hR2 fr2 hnu => ?_)
      | refine rs_num hT hn hf hi hR (by omega) (by omega) (by omega) (fun σ2 nu2 hR2 fr2 hnu => ?_)
      obtain ⟨w87, w88, p2, s2, wf2, w84, w85, wD⟩ := id hR2
      refine P.if_ne (t := 51) (dq dtX7_takesErr 24 rfl) rfl (by split <;> omega) (fun c_46 => ?_) (fun c_46 => ?_)
      · refine P.aload_n (dq dtX7_takesErr 27 rfl) rfl ?_
        refine P.iload_n (dq dtX7_takesErr 28 rfl) rfl ?_
        refine P.if_eq (t := 64) (dq dtX7_takesErr 29 rfl) rfl (by omega) (fun h9 => absurd h9 (by decide)) (fun _ => ?_)
        refine P.aload_n (dq dtX7_takesErr 30 rfl) rfl ?_
        refine P.get flX7_101 (dq dtX7_takesErr 31 rfl) (by repeat (first | assumption | exact up_s | rw [up_n (by first | assumption | (apply Ne.symm; assumption) | decide | omega)])) (by rfl) ?_
        refine P.ineg (dq dtX7_takesErr 32 rfl) ?_
        refine P.goto (t := 68) (dq dtX7_takesErr 33 rfl) rfl ?_
        refine P.put flX7_101 rfl (dq dtX7_takesErr 36 rfl) (by repeat (first | assumption | exact up_s | rw [up_n (by first | assumption | (apply Ne.symm; assumption) | decide | omega)])) (by exact Nat.le_of_ble_eq_true rfl) rfl rfl rfl rfl rfl ?_
        refine P.iconst (dq dtX7_takesErr 37 rfl) ?_
        refine P.zret (dq dtX7_takesErr 38 rfl) rfl rfl (by omega) rfl ?_
        have hne : ¬ (pNum kd vl m 0 40 _).1 = -1 := fun z => c_46 (if_pos z)
        have hv := hnu hne
        first
        | (have hh := h _ (-nu2) ⟨(by repeat (first | assumption | exact up_s | rw [up_n (by first | assumption | (apply Ne.symm; assumption) | decide | omega)])), (by repeat (first | assumption | exact up_s | rw [up_n (by first | assumption | (apply Ne.symm; assumption) | decide | omega)])), p2, s2, wf2, up_s, (by repeat (first | assumption | exact up_s | rw [up_n (by first | assumption | (apply Ne.symm; assumption) | decide | omega)])), wD⟩ (Fr.trans (fr1.trans fr2) (by repeat (first | assumption | exact Fr.rf | refine Fr.up ?_ (by simp)))) (fun _ => by rw [if_pos (sg.mpr (by omega)), hv])
           rw [if_neg hne] at hh
           exact hh)
        | (have hh := h _ nu2 ⟨(by repeat (first | assumption | exact up_s | rw [up_n (by first | assumption | (apply Ne.symm; assumption) | decide | omega)])), (by repeat (first | assumption | exact up_s | rw [up_n (by first | assumption | (apply Ne.symm; assumption) | decide | omega)])), p2, s2, wf2, up_s, (by repeat (first | assumption | exact up_s | rw [up_n (by first | assumption | (apply Ne.symm; assumption) | decide | omega)])), wD⟩ (Fr.trans fr2 (by repeat (first | assumption | exact Fr.rf | refine Fr.up ?_ (by simp)))) (fun _ => by rw [if_neg (fun z => by have := sg.mp z; omega), hv])
           rw [if_neg hne] at hh
           exact hh)
      · refine P.iconst (dq dtX7_takesErr 25 rfl) ?_
        refine P.zret (dq dtX7_takesErr 26 rfl) rfl rfl (by decide) rfl ?_
        first
        | (have hh := h σ2 nu2 hR2 (fr1.trans fr2) (fun z => absurd (by split at c_46 <;> omega) z)
           rw [c_46] at hh
           exact hh)
        | (have hh := h σ2 nu2 hR2 fr2 (fun z => absurd (by split at c_46 <;> omega) z)
           rw [c_46] at hh
           exact hh)
