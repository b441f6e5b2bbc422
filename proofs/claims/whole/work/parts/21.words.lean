/-- Letters.numberIn -/
theorem ct_X1_numberIn {x : CM} {d N : Nat} {σ : PH} {Q : PQ} {q a r : Nat} {n : Int} {f : Int → Int} (hq : σ q = pcO 1 [vR a, vI n]) (ha : σ a = pcI 0 r f) (hn : 0 ≤ n ∧ n ≤ r ∧ r < 1000) (hf : ∀ i, 0 ≤ i ∧ i < n → inR (f i)) (hd : 1 ≤ d) {u w mo : Int} (hu : 0 ≤ u ∧ w ≤ n ∧ inR w ∧ inR u) (hmo : 0 ≤ mo ∧ mo ≤ 100) (h1 : ¬ (u < w ∧ w - u ≤ mo) → Q (some (vI (-1))) σ) (h2 : u < w ∧ w - u ≤ mo → Q (some (vI (dgF f (w - u).toNat u 0))) σ) : Call x d 0 0 mX1_numberIn [vR q, vI u, vI w, vI mo] N σ Q := by
  refine Call.of mcX1_numberIn (Nat.le_of_ble_eq_true rfl) (fun y hy => ?_)
  subst hy
  refine P.iload_n (dq dtX1_numberIn 0 rfl) rfl ?_
  refine P.iload_n (dq dtX1_numberIn 1 rfl) rfl ?_
  refine P.icmp_le (t := 12) (dq dtX1_numberIn 2 rfl) rfl (by omega) (by omega) (fun c_2 => ?_) (fun c_2 => ?_)
  · refine P.iconst (dq dtX1_numberIn 8 rfl) ?_
    refine P.iret (dq dtX1_numberIn 9 rfl) rfl rfl rfl ?_
    exact h1 (by omega)
  · refine P.iload_n (dq dtX1_numberIn 3 rfl) rfl ?_
    refine P.iload_n (dq dtX1_numberIn 4 rfl) rfl ?_
    refine P.isub (dq dtX1_numberIn 5 rfl) ?_
    refine P.iload_n (dq dtX1_numberIn 6 rfl) rfl ?_
    refine P.icmp_le (t := 14) (dq dtX1_numberIn 7 rfl) rfl (by omega) (by omega) (fun c_9 => ?_) (fun c_9 => ?_)
    · refine P.iconst (dq dtX1_numberIn 10 rfl) ?_
      refine P.istore (dq dtX1_numberIn 11 rfl) (by decide) rfl rfl ?_
      refine P.iload_n (dq dtX1_numberIn 12 rfl) rfl ?_
      refine P.istore (dq dtX1_numberIn 13 rfl) (by decide) rfl rfl ?_
      exact lp_numberIn hq ha hn hf hd (by omega) (by omega) ((w - u).toNat + 1) u 0 (by omega) (by omega) (by omega) (h2 (by omega))
    · refine P.iconst (dq dtX1_numberIn 8 rfl) ?_
      refine P.iret (dq dtX1_numberIn 9 rfl) rfl rfl rfl ?_
      exact h1 (by omega)
def spB (f : Int → Int) (u w : Int) (k : Nat) : Bool := decide (w - u = lnS k) && eqF f (chS k) u (lnS k).toNat 0
theorem chS_R (k : Nat) (j : Int) : inR (chS k j) := inR_toInt _
theorem lp_spells {x : CX} {d N k : Nat} {σ : PH} {Q : PQ} {q a r : Nat} {n : Int} {f : Int → Int} (hq : σ q = pcO 1 [vR a, vI n]) (ha : σ a = pcI 0 r f) (hn : 0 ≤ n ∧ n ≤ r ∧ r < 1000) (hf : ∀ i, 0 ≤ i ∧ i < n → inR (f i)) (hd : 4 ≤ d) (hk : k < 4) {u w : Int} (hu : 0 ≤ u ∧ w ≤ n ∧ w - u = lnS k) : ∀ (t : Nat) (j : Int), 0 < t → 0 ≤ j → j + t = lnS k + 1 → (eqF f (chS k) u (t - 1) j = true → Q (some (vI 1)) σ) → (eqF f (chS k) u (t - 1) j = false → Q (some (vI 0)) σ) → P x d mX1_spells Q (0, 0) 15 [some (vR q), some (vR (1000 + k)), some (vI u), some (vI w), some (vI j)] [] N σ := by
  have hlb := lnS_b hk
  intro t
  induction t with
  | zero =>
    intro j h00
    exfalso; omega
  | succ t ih =>
    intro j h00 hj ht h1 h0
    refine P.iload (dq dtX1_spells 10 rfl) rfl ?_
    refine P.aload_n (dq dtX1_spells 11 rfl) rfl ?_
    refine P.callVs (As := []) (M' := mJ0_length_8abf5) (d' := d - 1) hk mlX1_62 mcJ0_length_8abf5 mvJ0_length_8abf5 rfl (dq dtX1_spells 12 rfl) rfl (by omega) (Nat.le_of_ble_eq_true rfl) ?_
    refine ct_length (by omega) hk ?_
    refine P.icmp_ge (t := 49) (dq dtX1_spells 13 rfl) rfl (by omega) (by omega) (fun c_21 => ?_) (fun c_21 => ?_)
    · obtain rfl : t = 0 := by omega
      refine P.iconst (dq dtX1_spells 27 rfl) ?_
      exact P.zret (dq dtX1_spells 28 rfl) rfl rfl (by decide) rfl (h1 rfl)
    · obtain ⟨t, rfl⟩ : ∃ z, t = z + 1 := ⟨t - 1, by omega⟩
      have hx : eqF f (chS k) u (t + 1 + 1 - 1) j = (decide (f (u + j) = chS k j) && eqF f (chS k) u t (j + 1)) := rfl
      rw [hx] at h1 h0
      have f1 := hf (u + j) (by omega)
      have f2 := chS_R k j
      refine P.aload_n (dq dtX1_spells 14 rfl) rfl ?_
      refine P.iload_n (dq dtX1_spells 15 rfl) rfl ?_
      refine P.iload (dq dtX1_spells 16 rfl) rfl ?_
      refine P.iadd (dq dtX1_spells 17 rfl) ?_
      refine P.callV1 (M' := mX1_at) (d' := d - 1) mlX1_33 mcX1_at mvX1_at (dq dtX1_spells 18 rfl) (by omega) (Nat.le_of_ble_eq_true rfl) hq rfl ?_
      refine ct_X1_at hq ha (by omega) (by omega) (fun n_29 => ?_) (fun n_29 => absurd (by omega) n_29)
      refine P.aload_n (dq dtX1_spells 19 rfl) rfl ?_
      refine P.iload (dq dtX1_spells 20 rfl) rfl ?_
      refine P.callVs (As := [vI j]) (M' := mJ0_charAt_5068e) (d' := d - 1) hk mlX1_68 mcJ0_charAt_5068e mvJ0_charAt_5068e rfl (dq dtX1_spells 21 rfl) rfl (by omega) (Nat.le_of_ble_eq_true rfl) ?_
      refine ct_charAt (by omega) hk (by omega) ?_
      refine P.icmp_eq (t := 43) (dq dtX1_spells 22 rfl) rfl f1 f2 (fun c_38 => ?_) (fun c_38 => ?_)
      · rw [decide_eq_true c_38, Bool.true_and] at h1 h0
        refine P.iinc (dq dtX1_spells 25 rfl) rfl (by decide) rfl rfl ?_
        refine P.goto (t := 15) (dq dtX1_spells 26 rfl) rfl ?_
        exact ih (j + 1) (by omega) (by omega) (by omega) h1 h0
      · refine P.iconst (dq dtX1_spells 23 rfl) ?_
        exact P.zret (dq dtX1_spells 24 rfl) rfl rfl (by decide) rfl (h0 (by rw [decide_eq_false c_38, Bool.false_and]))
theorem ct_X1_spells {x : CM} {d N k : Nat} {σ : PH} {Q : PQ} {q a r : Nat} {n : Int} {f : Int → Int} (hq : σ q = pcO 1 [vR a, vI n]) (ha : σ a = pcI 0 r f) (hn : 0 ≤ n ∧ n ≤ r ∧ r < 1000) (hf : ∀ i, 0 ≤ i ∧ i < n → inR (f i)) (hd : 4 ≤ d) (hk : k < 4) {u w : Int} (hu : 0 ≤ u ∧ u ≤ w ∧ w ≤ n) (h1 : spB f u w k = true → Q (some (vI 1)) σ) (h0 : spB f u w k = false → Q (some (vI 0)) σ) : Call x d 0 0 mX1_spells [vR q, vR (1000 + k), vI u, vI w] N σ Q := by
  refine Call.of mcX1_spells (Nat.le_of_ble_eq_true rfl) (fun y hy => ?_)
  subst hy
  have hlb := lnS_b hk
  unfold spB at h1 h0
  refine P.iload_n (dq dtX1_spells 0 rfl) rfl ?_
  refine P.iload_n (dq dtX1_spells 1 rfl) rfl ?_
  refine P.isub (dq dtX1_spells 2 rfl) ?_
  refine P.aload_n (dq dtX1_spells 3 rfl) rfl ?_
  refine P.callVs (As := []) (M' := mJ0_length_8abf5) (d' := d - 1) hk mlX1_62 mcJ0_length_8abf5 mvJ0_length_8abf5 rfl (dq dtX1_spells 4 rfl) rfl (by omega) (Nat.le_of_ble_eq_true rfl) ?_
  refine ct_length (by omega) hk ?_
  refine P.icmp_eq (t := 12) (dq dtX1_spells 5 rfl) rfl (by omega) (by omega) (fun c_7 => ?_) (fun c_7 => ?_)
  · rw [decide_eq_true c_7, Bool.true_and] at h1 h0
    refine P.iconst (dq dtX1_spells 8 rfl) ?_
    refine P.istore (dq dtX1_spells 9 rfl) (by decide) rfl rfl ?_
    exact lp_spells hq ha hn hf hd hk (by omega) ((lnS k).toNat + 1) 0 (by omega) (by omega) (by omega) h1 h0
  · refine P.iconst (dq dtX1_spells 6 rfl) ?_
    exact P.zret (dq dtX1_spells 7 rfl) rfl rfl (by decide) rfl (h0 (by rw [decide_eq_false c_7, Bool.false_and]))
/-- which word: up 0, down 1, axis 2, at 3 -/
def wdF (f : Int → Int) (u w : Int) : Int := if spB f u w 0 = true then 0 else if spB f u w 1 = true then 1 else if spB f u w 2 = true then 2 else if spB f u w 3 = true then 3 else -100000
/-- Letters.wordIn -/
theorem ct_X1_wordIn {x : CM} {d N : Nat} {σ : PH} {Q : PQ} {q a r : Nat} {n : Int} {f : Int → Int} (hq : σ q = pcO 1 [vR a, vI n]) (ha : σ a = pcI 0 r f) (hn : 0 ≤ n ∧ n ≤ r ∧ r < 1000) (hf : ∀ i, 0 ≤ i ∧ i < n → inR (f i)) (hd : 5 ≤ d) {u w : Int} (hu : 0 ≤ u ∧ u ≤ w ∧ w ≤ n) (h : Q (some (vI (wdF f u w))) σ) : Call x d 0 0 mX1_wordIn [vR q, vI u, vI w] N σ Q := by
  refine Call.of mcX1_wordIn (Nat.le_of_ble_eq_true rfl) (fun y hy => ?_)
  subst hy
  unfold wdF at h
  refine P.aload_n (dq dtX1_wordIn 0 rfl) rfl ?_
  refine P.ldcS (k := 0) (dq dtX1_wordIn 1 rfl) rfl (by decide) ?_
  refine P.iload_n (dq dtX1_wordIn 2 rfl) rfl ?_
  refine P.iload_n (dq dtX1_wordIn 3 rfl) rfl ?_
  refine P.callV3 (M' := mX1_spells) (d' := d - 1) mlX1_52 mcX1_spells mvX1_spells (dq dtX1_wordIn 4 rfl) (by omega) (Nat.le_of_ble_eq_true rfl) (by repeat (first | assumption | exact up_s | rw [up_n (by first | assumption | (apply Ne.symm; assumption) | decide | omega)])) rfl ?_
  refine ct_X1_spells (k := 0) (by repeat (first | assumption | exact up_s | rw [up_n (by first | assumption | (apply Ne.symm; assumption) | decide | omega)])) (by repeat (first | assumption | exact up_s | rw [up_n (by first | assumption | (apply Ne.symm; assumption) | decide | omega)])) (by omega) hf (by omega) (by decide) (by omega) (fun n_5 => ?_) (fun n_5 => ?_)
  · refine P.if_eq (t := 13) (dq dtX1_wordIn 5 rfl) rfl (by omega) (fun h9 => absurd h9 (by decide)) (fun _ => ?_)
    refine P.iconst (dq dtX1_wordIn 6 rfl) ?_
    refine P.iret (dq dtX1_wordIn 7 rfl) rfl rfl rfl ?_
    rw [if_pos n_5] at h
    exact h
  · refine P.if_eq (t := 13) (dq dtX1_wordIn 5 rfl) rfl (by omega) (fun _ => ?_) (fun h9 => absurd h9 (by decide))
    refine P.aload_n (dq dtX1_wordIn 8 rfl) rfl ?_
    refine P.ldcS (k := 1) (dq dtX1_wordIn 9 rfl) rfl (by decide) ?_
    refine P.iload_n (dq dtX1_wordIn 10 rfl) rfl ?_
    refine P.iload_n (dq dtX1_wordIn 11 rfl) rfl ?_
    refine P.callV3 (M' := mX1_spells) (d' := d - 1) mlX1_52 mcX1_spells mvX1_spells (dq dtX1_wordIn 12 rfl) (by omega) (Nat.le_of_ble_eq_true rfl) (by repeat (first | assumption | exact up_s | rw [up_n (by first | assumption | (apply Ne.symm; assumption) | decide | omega)])) rfl ?_
    refine ct_X1_spells (k := 1) (by repeat (first | assumption | exact up_s | rw [up_n (by first | assumption | (apply Ne.symm; assumption) | decide | omega)])) (by repeat (first | assumption | exact up_s | rw [up_n (by first | assumption | (apply Ne.symm; assumption) | decide | omega)])) (by omega) hf (by omega) (by decide) (by omega) (fun n_18 => ?_) (fun n_18 => ?_)
    · refine P.if_eq (t := 26) (dq dtX1_wordIn 13 rfl) rfl (by omega) (fun h9 => absurd h9 (by decide)) (fun _ => ?_)
      refine P.iconst (dq dtX1_wordIn 14 rfl) ?_
      refine P.iret (dq dtX1_wordIn 15 rfl) rfl rfl rfl ?_
      rw [n_5, if_neg (by decide), if_pos n_18] at h
      exact h
    · refine P.if_eq (t := 26) (dq dtX1_wordIn 13 rfl) rfl (by omega) (fun _ => ?_) (fun h9 => absurd h9 (by decide))
      refine P.aload_n (dq dtX1_wordIn 16 rfl) rfl ?_
      refine P.ldcS (k := 2) (dq dtX1_wordIn 17 rfl) rfl (by decide) ?_
      refine P.iload_n (dq dtX1_wordIn 18 rfl) rfl ?_
      refine P.iload_n (dq dtX1_wordIn 19 rfl) rfl ?_
      refine P.callV3 (M' := mX1_spells) (d' := d - 1) mlX1_52 mcX1_spells mvX1_spells (dq dtX1_wordIn 20 rfl) (by omega) (Nat.le_of_ble_eq_true rfl) (by repeat (first | assumption | exact up_s | rw [up_n (by first | assumption | (apply Ne.symm; assumption) | decide | omega)])) rfl ?_
      refine ct_X1_spells (k := 2) (by repeat (first | assumption | exact up_s | rw [up_n (by first | assumption | (apply Ne.symm; assumption) | decide | omega)])) (by repeat (first | assumption | exact up_s | rw [up_n (by first | assumption | (apply Ne.symm; assumption) | decide | omega)])) (by omega) hf (by omega) (by decide) (by omega) (fun n_31 => ?_) (fun n_31 => ?_)
      · refine P.if_eq (t := 39) (dq dtX1_wordIn 21 rfl) rfl (by omega) (fun h9 => absurd h9 (by decide)) (fun _ => ?_)
        refine P.iconst (dq dtX1_wordIn 22 rfl) ?_
        refine P.iret (dq dtX1_wordIn 23 rfl) rfl rfl rfl ?_
        rw [n_5, if_neg (by decide), n_18, if_neg (by decide), if_pos n_31] at h
        exact h
      · refine P.if_eq (t := 39) (dq dtX1_wordIn 21 rfl) rfl (by omega) (fun _ => ?_) (fun h9 => absurd h9 (by decide))
        refine P.aload_n (dq dtX1_wordIn 24 rfl) rfl ?_
        refine P.ldcS (k := 3) (dq dtX1_wordIn 25 rfl) rfl (by decide) ?_
        refine P.iload_n (dq dtX1_wordIn 26 rfl) rfl ?_
        refine P.iload_n (dq dtX1_wordIn 27 rfl) rfl ?_
        refine P.callV3 (M' := mX1_spells) (d' := d - 1) mlX1_52 mcX1_spells mvX1_spells (dq dtX1_wordIn 28 rfl) (by omega) (Nat.le_of_ble_eq_true rfl) (by repeat (first | assumption | exact up_s | rw [up_n (by first | assumption | (apply Ne.symm; assumption) | decide | omega)])) rfl ?_
        refine ct_X1_spells (k := 3) (by repeat (first | assumption | exact up_s | rw [up_n (by first | assumption | (apply Ne.symm; assumption) | decide | omega)])) (by repeat (first | assumption | exact up_s | rw [up_n (by first | assumption | (apply Ne.symm; assumption) | decide | omega)])) (by omega) hf (by omega) (by decide) (by omega) (fun n_44 => ?_) (fun n_44 => ?_)
        · refine P.if_eq (t := 54) (dq dtX1_wordIn 29 rfl) rfl (by omega) (fun h9 => absurd h9 (by decide)) (fun _ => ?_)
          refine P.iconst (dq dtX1_wordIn 30 rfl) ?_
          refine P.goto (t := 56) (dq dtX1_wordIn 31 rfl) rfl ?_
          refine P.iret (dq dtX1_wordIn 33 rfl) rfl rfl rfl ?_
          rw [n_5, if_neg (by decide), n_18, if_neg (by decide), n_31, if_neg (by decide), n_44] at h
          exact h
        · refine P.if_eq (t := 54) (dq dtX1_wordIn 29 rfl) rfl (by omega) (fun _ => ?_) (fun h9 => absurd h9 (by decide))
          refine P.ldc (n := -100000) (dq dtX1_wordIn 32 rfl) kcX1_61 rfl ?_
          refine P.iret (dq dtX1_wordIn 33 rfl) rfl rfl rfl ?_
          rw [n_5, if_neg (by decide), n_18, if_neg (by decide), n_31, if_neg (by decide), n_44] at h
          exact h
