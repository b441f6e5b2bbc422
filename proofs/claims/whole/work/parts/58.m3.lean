theorem lp_first {x : CX} {d N : Nat} {σ : PH} {Q : PQ} {p s u l fi be rp cl dg nu pk wm : Int} (h84 : σ 84 = mdO p s u l fi be rp cl dg nu pk wm) {pf : Int → Int} (h90 : σ 90 = pcI 0 8 pf) {v : MsV} {F : FgV} (hG : GMs v) (hF : FgR v F) (hag : ∀ i : Int, 0 ≤ i → i < v.1 → pf i = F.2.2.2.2.2.1 i) {k : Int} (hk : 0 ≤ k ∧ k < v.1) {j : Nat} (j1 : j < (pls v).length) (j2 : F.2.2.2.2.2.1 k = j) (j3 : sumF F.2.2.2.1 0 j ≤ k ∧ k < sumF F.2.2.2.1 0 j + F.2.2.2.1 j) (h : Q (some (vI (sumF F.2.2.2.1 0 j))) σ) : ∀ (t : Nat) (i : Int), sumF F.2.2.2.1 0 j ≤ i ∧ i ≤ k → i - sumF F.2.2.2.1 0 j < t → P x d mX7_firstOf Q (0, 0) 2 [some (vR 84), some (vI k), some (vI i)] [] N σ := by
  intro t
  induction t with
  | zero =>
    intro i hi ht
    exfalso; omega
  | succ t ih =>
    intro i hi ht
    have hp8 := hG.1
    have hs1 : ∀ i : Int, 0 ≤ i → i < (pls v).length → 1 ≤ F.2.2.2.1 i := fun i g1 g2 => (Rl_GB _ hF.2.2.2.1 (pls_GB hG) i g1 g2).1
    have hl8 := GB_len _ (pls_GB hG)
    have hsz := pls_sz hG
    have hm0 := sumF_mono hs1 0 j (by omega) (by omega)
    have hm00 : sumF F.2.2.2.1 0 0 = 0 := rfl
    refine P.iload_n (dq dtX7_firstOf 2 rfl) rfl ?_
    refine P.if_le (t := 29) (dq dtX7_firstOf 3 rfl) rfl (by omega) (fun c_3 => ?_) (fun c_3 => ?_)
    · refine P.iload_n (dq dtX7_firstOf 17 rfl) rfl ?_
      refine P.iret (dq dtX7_firstOf 18 rfl) rfl rfl rfl ?_
      have : i = sumF F.2.2.2.1 0 j := by omega
      rw [this]
      exact h
    · refine P.aload_n (dq dtX7_firstOf 4 rfl) rfl ?_
      refine P.get flX7_33 (dq dtX7_firstOf 5 rfl) (by repeat (first | assumption | exact up_s | rw [up_n (by first | assumption | (apply Ne.symm; assumption) | decide | omega)])) (by rfl) ?_
      refine P.iload_n (dq dtX7_firstOf 6 rfl) rfl ?_
      refine P.iconst (dq dtX7_firstOf 7 rfl) ?_
      refine P.isub (dq dtX7_firstOf 8 rfl) ?_
      refine P.iald (dq dtX7_firstOf 9 rfl) (by repeat (first | assumption | exact up_s | rw [up_n (by first | assumption | (apply Ne.symm; assumption) | decide | omega)])) (by omega) (by omega) (by omega) ?_
      refine P.aload_n (dq dtX7_firstOf 10 rfl) rfl ?_
      refine P.get flX7_33 (dq dtX7_firstOf 11 rfl) (by repeat (first | assumption | exact up_s | rw [up_n (by first | assumption | (apply Ne.symm; assumption) | decide | omega)])) (by rfl) ?_
      refine P.iload_n (dq dtX7_firstOf 12 rfl) rfl ?_
      refine P.iald (dq dtX7_firstOf 13 rfl) (by repeat (first | assumption | exact up_s | rw [up_n (by first | assumption | (apply Ne.symm; assumption) | decide | omega)])) (by omega) (by omega) (by omega) ?_
      rw [hag k hk.1 hk.2, j2, hag (i - 1) (by omega) (by omega)]
      obtain ⟨j', p1, p2, p3, p4, -⟩ := hF.at hG (k := i - 1) (by omega) (by omega)
      rw [p2]
      have key : ((j' : Int) = j ↔ sumF F.2.2.2.1 0 j < i) := by
        constructor
        · intro e
          obtain rfl : j' = j := by omega
          omega
        · intro e
          have := hF.2.2.2.2.1 j (i - 1 - sumF F.2.2.2.1 0 j) j1 (by omega) (by omega)
          rw [show sumF F.2.2.2.1 0 j + (i - 1 - sumF F.2.2.2.1 0 j) = i - 1 by omega, p2] at this
          exact this
      refine P.icmp_ne (t := 29) (dq dtX7_firstOf 14 rfl) rfl (by omega) (by omega) (fun c_20 => ?_) (fun c_20 => ?_)
      · refine P.iload_n (dq dtX7_firstOf 17 rfl) rfl ?_
        refine P.iret (dq dtX7_firstOf 18 rfl) rfl rfl rfl ?_
        have : i = sumF F.2.2.2.1 0 j := by omega
        rw [this]
        exact h
      · refine P.iinc (dq dtX7_firstOf 15 rfl) rfl (by decide) rfl rfl ?_
        refine P.goto (t := 2) (dq dtX7_firstOf 16 rfl) rfl ?_
        have hh := ih (i - 1) (by omega) (by omega)
        rw [show i - 1 = i + -1 by omega] at hh
        exact hh
/-- firstOf -/
theorem ct_X7_firstOf {x : CM} {d N : Nat} {σ : PH} {Q : PQ} {p s u l fi be rp cl dg nu pk wm : Int} (h84 : σ 84 = mdO p s u l fi be rp cl dg nu pk wm) {pf : Int → Int} (h90 : σ 90 = pcI 0 8 pf) {v : MsV} {F : FgV} (hG : GMs v) (hF : FgR v F) (hag : ∀ i : Int, 0 ≤ i → i < v.1 → pf i = F.2.2.2.2.2.1 i) {k : Int} (hk : 0 ≤ k ∧ k < v.1) (h : Q (some (vI (F.2.2.1 (F.2.2.2.2.2.1 k)))) σ) : Call x d 0 0 mX7_firstOf [vR 84, vI k] N σ Q := by
  refine Call.of mcX7_firstOf (Nat.le_of_ble_eq_true rfl) (fun y hy => ?_)
  subst hy
  refine P.iload_n (dq dtX7_firstOf 0 rfl) rfl ?_
  refine P.istore_n (dq dtX7_firstOf 1 rfl) (by decide) rfl rfl ?_
  obtain ⟨j, p1, p2, p3, p4, p5⟩ := hF.at hG hk.1 hk.2
  rw [p5] at h
  exact lp_first h84 h90 hG hF hag hk p1 p2 ⟨p3, p4⟩ h (k - sumF F.2.2.2.1 0 j + 1).toNat k ⟨by omega, by omega⟩ (by omega)
/-- missed -/
theorem ct_X7_missed {x : CM} {d N : Nat} {σ : PH} {Q : PQ} {p s u l fi be rp cl dg nu pk wm : Int} (h84 : σ 84 = mdO p s u l fi be rp cl dg nu pk wm) {wf : Int → Int} (h85 : σ 85 = pcI 0 1404 wf) {co : Int → Int} (h89 : σ 89 = pcI 0 8 co) {v : MsV} {F : FgV} (hG : GMs v) (hF : FgR v F) (hR : Rw wf 0 v) (hs : s = v.2.1) (hag : ∀ i : Int, 0 ≤ i → i < v.1 → co i = F.2.2.2.2.2.2 i) (hd : 1 ≤ d) {k w : Int} (hk : 0 ≤ k ∧ k < v.1) (hw : w = 0 ∨ w = 1) (h : Q (some (vI (misF F.1 F.2.2.2.2.2.2 v.2.1 pk k w))) σ) : Call x d 0 0 mX7_missed [vR 84, vI k, vI w] N σ Q := by
  refine Call.of mcX7_missed (Nat.le_of_ble_eq_true rfl) (fun y hy => ?_)
  subst hy
  have hp8 := hG.1
  refine P.aload_n (dq dtX7_missed 0 rfl) rfl ?_
  refine P.iconst (dq dtX7_missed 1 rfl) ?_
  refine P.iload_n (dq dtX7_missed 2 rfl) rfl ?_
  refine P.iload_n (dq dtX7_missed 3 rfl) rfl ?_
  refine P.callV3 (M' := mX7_mean) (d' := d - 1) mlX7_171 mcX7_mean mvX7_mean (dq dtX7_missed 4 rfl) (by omega) (Nat.le_of_ble_eq_true rfl) (by repeat (first | assumption | exact up_s | rw [up_n (by first | assumption | (apply Ne.symm; assumption) | decide | omega)])) rfl ?_
  refine ct_X7_mean h84 h85 hG hR (by omega) hk hw ?_
  refine P.bipush (dq dtX7_missed 5 rfl) rfl ?_
  refine P.aload_n (dq dtX7_missed 6 rfl) rfl ?_
  refine P.get flX7_30 (dq dtX7_missed 7 rfl) (by repeat (first | assumption | exact up_s | rw [up_n (by first | assumption | (apply Ne.symm; assumption) | decide | omega)])) (by rfl) ?_
  refine P.iload_n (dq dtX7_missed 8 rfl) rfl ?_
  refine P.iald (dq dtX7_missed 9 rfl) (by repeat (first | assumption | exact up_s | rw [up_n (by first | assumption | (apply Ne.symm; assumption) | decide | omega)])) (by omega) (by omega) (by omega) ?_
  refine P.aload_n (dq dtX7_missed 10 rfl) rfl ?_
  refine P.get flX7_13 (dq dtX7_missed 11 rfl) (by repeat (first | assumption | exact up_s | rw [up_n (by first | assumption | (apply Ne.symm; assumption) | decide | omega)])) (by rfl) ?_
  refine P.iload_n (dq dtX7_missed 12 rfl) rfl ?_
  refine P.imul (dq dtX7_missed 13 rfl) ?_
  refine P.isub (dq dtX7_missed 14 rfl) ?_
  refine P.iload_n (dq dtX7_missed 15 rfl) rfl ?_
  refine P.iconst (dq dtX7_missed 16 rfl) ?_
  refine P.icmp_ne (t := 34) (dq dtX7_missed 17 rfl) rfl (by omega) (by omega) (fun c_24 => ?_) (fun c_24 => ?_)
  · refine P.iconst (dq dtX7_missed 21 rfl) ?_
    refine P.iadd (dq dtX7_missed 22 rfl) ?_
    refine P.imul (dq dtX7_missed 23 rfl) ?_
    refine P.iadd (dq dtX7_missed 24 rfl) ?_
    refine P.iret (dq dtX7_missed 25 rfl) rfl rfl rfl ?_
    refine cgQ h ?_
    unfold misF
    rw [hF.1 (k * 2 + w) (by omega) (by omega), hag k hk.1 hk.2, hs, Int.mul_comm v.2.1 k]
    first | rw [if_pos (by assumption)] | rw [if_neg (by assumption)]
  · refine P.aload_n (dq dtX7_missed 18 rfl) rfl ?_
    refine P.get flX7_185 (dq dtX7_missed 19 rfl) (by repeat (first | assumption | exact up_s | rw [up_n (by first | assumption | (apply Ne.symm; assumption) | decide | omega)])) (by rfl) ?_
    refine P.goto (t := 35) (dq dtX7_missed 20 rfl) rfl ?_
    refine P.iadd (dq dtX7_missed 22 rfl) ?_
    refine P.imul (dq dtX7_missed 23 rfl) ?_
    refine P.iadd (dq dtX7_missed 24 rfl) ?_
    refine P.iret (dq dtX7_missed 25 rfl) rfl rfl rfl ?_
    refine cgQ h ?_
    unfold misF
    rw [hF.1 (k * 2 + w) (by omega) (by omega), hag k hk.1 hk.2, hs, Int.mul_comm v.2.1 k]
    first | rw [if_pos (by assumption)] | rw [if_neg (by assumption)]
theorem Rw.addx {f f' : Int → Int} {r k w z c : Int} {v : MsV} (h : Rw f r v) (hG : GMs v) (hk : 0 ≤ k ∧ k < v.1) (hw : w = 0 ∨ w = 1) (hc : v.2.2.1 (k * 2 + w) = c) (h1 : f' (r + (k * 2 + w)) = if 6 ≤ c then 6 else c + 1)
    (h2 : c < 6 → f' (r + 16 + 6 * (k * 2 + w) + c) = z ∧ ∀ j : Int, 0 ≤ j → j < c → f' (r + 16 + 6 * (k * 2 + w) + j) = f (r + 16 + 6 * (k * 2 + w) + j))
    (h3 : 6 ≤ c → f' (r + 16 + 6 * (k * 2 + w) + 5) = z ∧ ∀ j : Int, 0 ≤ j → j < 5 → f' (r + 16 + 6 * (k * 2 + w) + j) = f (r + 16 + 6 * (k * 2 + w) + (j + 1)))
    (h4 : ∀ i : Int, r ≤ i → i < r + 112 → i ≠ r + (k * 2 + w) → ¬ (r + 16 + 6 * (k * 2 + w) ≤ i ∧ i < r + 16 + 6 * (k * 2 + w) + 6) → f' i = f i) : Rw f' r (addM v (k * 2 + w) z) := by
  subst hc
  have hp := hG.1
  refine h.add hG (by omega) h1 h2 h3 (fun t e g0 g1 => ⟨h4 _ (by omega) (by omega) (by omega) (by omega), fun j q0 q1 => h4 _ (by omega) (by omega) (by omega) (by omega)⟩)
theorem lp_adds {x : CX} {d N : Nat} {σ : PH} {Q : PQ} {p s u l fi be rp cl dg nu pk wm : Int} (h84 : σ 84 = mdO p s u l fi be rp cl dg nu pk wm) {wf : Int → Int} (h85 : σ 85 = pcI 0 1404 wf) {r : Int} {v : MsV} (hG : GMs v) (hR : Rw wf r v) (hr : 0 ≤ r ∧ r ≤ 1287) {k w z : Int} (hk : 0 ≤ k ∧ k < v.1) (hw : w = 0 ∨ w = 1) (h6 : v.2.2.1 (k * 2 + w) = 6) (h : ∀ wf' : Int → Int, Rw wf' r (addM v (k * 2 + w) z) → (∀ i : Int, ¬ (r ≤ i ∧ i < r + 112) → wf' i = wf i) → Q none (up σ 85 (pcI 0 1404 wf')))  : ∀ (t : Nat) (i : Int), 1 ≤ i ∧ i ≤ 6 → 6 - i < t → P x d mX7_adds Q (0, 0) 26 [some (vR 84), some (vI r), some (vI k), some (vI w), some (vI z), some (vI (2 * k + w)), some (vI i)] [] N (up σ 85 (pcI 0 1404 (cpI wf wf ((r + 16 + 6 * (2 * k + w)) + 1) (r + 16 + 6 * (2 * k + w)) (i - 1)))) := by
  intro t
  induction t with
  | zero =>
    intro i hi ht
    exfalso; omega
  | succ t ih =>
    intro i hi ht
    have bc := (hG.2.2 (k * 2 + w) (by have := hG.1; omega) (by have := hG.1; omega)).1
    have bjj := (hG.2.2 (k * 2 + w) (by have := hG.1; omega) (by have := hG.1; omega)).2
    have e0 : wf (r + 0 + (2 * k + w)) = v.2.2.1 (k * 2 + w) := by
      rw [show r + 0 + (2 * k + w) = r + (k * 2 + w) by omega]
      exact hR.1 _ (by have := hG.1; omega) (by have := hG.1; omega)
    have hp8 := hG.1
    refine P.iload (dq dtX7_adds_0 18 rfl) rfl ?_
    refine P.bipush (dq dtX7_adds_0 19 rfl) rfl ?_
    refine P.icmp_ge (t := 77) (dq dtX7_adds_0 20 rfl) rfl (by omega) (by omega) (fun c_30 => ?_) (fun c_30 => ?_)
    · obtain rfl : i = 6 := by omega
      have c0 : cpI wf wf ((r + 16 + 6 * (2 * k + w)) + 1) (r + 16 + 6 * (2 * k + w)) (6 - 1) (r + 0 + (2 * k + w)) = 6 := by
        rw [cpI_out (by omega), e0, h6]
      refine P.aload_n (dq dtX7_adds_0 49 rfl) rfl ?_
      refine P.get flX7_16 (dq dtX7_adds_0 50 rfl) (by repeat (first | assumption | exact up_s | rw [up_n (by first | assumption | (apply Ne.symm; assumption) | decide | omega)])) (by rfl) ?_
      refine P.iload_n (dq dtX7_adds_0 51 rfl) rfl ?_
      refine P.iconst (dq dtX7_adds_0 52 rfl) ?_
      refine P.iadd (dq dtX7_adds_0 53 rfl) ?_
      refine P.iload (dq dtX7_adds_0 54 rfl) rfl ?_
      refine P.iadd (dq dtX7_adds_0 55 rfl) ?_
      refine P.dup2 (dq dtX7_adds_0 56 rfl) rfl rfl ?_
      refine P.iald (dq dtX7_adds_0 57 rfl) (by repeat (first | assumption | exact up_s | rw [up_n (by first | assumption | (apply Ne.symm; assumption) | decide | omega)])) (by omega) (by omega) (by omega) ?_
      refine P.iconst (dq dtX7_adds_0 58 rfl) ?_
      refine P.isub (dq dtX7_adds_0 59 rfl) ?_
      rw [c0]
      refine P.iast (dq dtX7_adds_0 60 rfl) (by repeat (first | assumption | exact up_s | rw [up_n (by first | assumption | (apply Ne.symm; assumption) | decide | omega)])) (by omega) (by omega) (by omega) ?_
      refine P.aload_n (dq dtX7_adds_0 61 rfl) rfl ?_
      refine P.get flX7_16 (dq dtX7_adds_0 62 rfl) (by repeat (first | assumption | exact up_s | rw [up_n (by first | assumption | (apply Ne.symm; assumption) | decide | omega)])) (by rfl) ?_
      refine P.iload_n (dq dtX7_adds_0 63 rfl) rfl ?_
      refine P.bipush (dq dtX7_adds_1 0 rfl) rfl ?_
      refine P.iadd (dq dtX7_adds_1 1 rfl) ?_
      refine P.bipush (dq dtX7_adds_1 2 rfl) rfl ?_
      refine P.iload (dq dtX7_adds_1 3 rfl) rfl ?_
      refine P.imul (dq dtX7_adds_1 4 rfl) ?_
      refine P.iadd (dq dtX7_adds_1 5 rfl) ?_
      refine P.aload_n (dq dtX7_adds_1 6 rfl) rfl ?_
      refine P.get flX7_16 (dq dtX7_adds_1 7 rfl) (by repeat (first | assumption | exact up_s | rw [up_n (by first | assumption | (apply Ne.symm; assumption) | decide | omega)])) (by rfl) ?_
      refine P.iload_n (dq dtX7_adds_1 8 rfl) rfl ?_
      refine P.iconst (dq dtX7_adds_1 9 rfl) ?_
      refine P.iadd (dq dtX7_adds_1 10 rfl) ?_
      refine P.iload (dq dtX7_adds_1 11 rfl) rfl ?_
      refine P.iadd (dq dtX7_adds_1 12 rfl) ?_
      refine P.iald (dq dtX7_adds_1 13 rfl) (by repeat (first | assumption | exact up_s | rw [up_n (by first | assumption | (apply Ne.symm; assumption) | decide | omega)])) (by omega) (by omega) (by omega) ?_
      rw [upI_s]
      refine P.iadd (dq dtX7_adds_1 14 rfl) ?_
      refine P.iload (dq dtX7_adds_1 15 rfl) rfl ?_
      refine P.iast (dq dtX7_adds_1 16 rfl) (by repeat (first | assumption | exact up_s | rw [up_n (by first | assumption | (apply Ne.symm; assumption) | decide | omega)])) (by omega) (by omega) (by omega) ?_
      refine P.aload_n (dq dtX7_adds_1 17 rfl) rfl ?_
      refine P.get flX7_16 (dq dtX7_adds_1 18 rfl) (by repeat (first | assumption | exact up_s | rw [up_n (by first | assumption | (apply Ne.symm; assumption) | decide | omega)])) (by rfl) ?_
      refine P.iload_n (dq dtX7_adds_1 19 rfl) rfl ?_
      refine P.iconst (dq dtX7_adds_1 20 rfl) ?_
      refine P.iadd (dq dtX7_adds_1 21 rfl) ?_
      refine P.iload (dq dtX7_adds_1 22 rfl) rfl ?_
      refine P.iadd (dq dtX7_adds_1 23 rfl) ?_
      refine P.dup2 (dq dtX7_adds_1 24 rfl) rfl rfl ?_
      refine P.iald (dq dtX7_adds_1 25 rfl) (by repeat (first | assumption | exact up_s | rw [up_n (by first | assumption | (apply Ne.symm; assumption) | decide | omega)])) (by omega) (by omega) (by omega) ?_
      refine P.iconst (dq dtX7_adds_1 26 rfl) ?_
      refine P.iadd (dq dtX7_adds_1 27 rfl) ?_
      rw [upI_n (show r + 0 + (2 * k + w) ≠ (r + 16 + 6 * (2 * k + w)) + (6 - 1) by omega), upI_s]
      refine P.iast (dq dtX7_adds_1 28 rfl) (by repeat (first | assumption | exact up_s | rw [up_n (by first | assumption | (apply Ne.symm; assumption) | decide | omega)])) (by omega) (by omega) (by omega) ?_
      refine P.vret (dq dtX7_adds_1 29 rfl) rfl rfl rfl ?_
      rw [up_up, up_up, up_up]
      refine h _ (hR.addx hG hk hw h6 ?_ (fun q => absurd q (by omega)) (fun _ => ⟨?_, fun j q0 q1 => ?_⟩) (fun i q0 q1 q2 q3 => ?_)) (fun i q0 => ?_)
      · rw [show r + (k * 2 + w) = r + 0 + (2 * k + w) by omega, upI_s]
        rfl
      · rw [upI_n (by omega), show r + 16 + 6 * (k * 2 + w) + 5 = (r + 16 + 6 * (2 * k + w)) + (6 - 1) by omega, upI_s]
      · rw [upI_n (by omega), upI_n (by omega), upI_n (by omega), cpI_in (by omega)]
        congr 1
        omega
      · rw [upI_n (by omega), upI_n (by omega), upI_n (by omega), cpI_out (by omega)]
      · rw [upI_n (by omega), upI_n (by omega), upI_n (by omega), cpI_out (by omega)]
    · refine P.aload_n (dq dtX7_adds_0 21 rfl) rfl ?_
      refine P.get flX7_16 (dq dtX7_adds_0 22 rfl) (by repeat (first | assumption | exact up_s | rw [up_n (by first | assumption | (apply Ne.symm; assumption) | decide | omega)])) (by rfl) ?_
      refine P.iload_n (dq dtX7_adds_0 23 rfl) rfl ?_
      refine P.bipush (dq dtX7_adds_0 24 rfl) rfl ?_
      refine P.iadd (dq dtX7_adds_0 25 rfl) ?_
      refine P.bipush (dq dtX7_adds_0 26 rfl) rfl ?_
      refine P.iload (dq dtX7_adds_0 27 rfl) rfl ?_
      refine P.imul (dq dtX7_adds_0 28 rfl) ?_
      refine P.iadd (dq dtX7_adds_0 29 rfl) ?_
      refine P.iload (dq dtX7_adds_0 30 rfl) rfl ?_
      refine P.iadd (dq dtX7_adds_0 31 rfl) ?_
      refine P.iconst (dq dtX7_adds_0 32 rfl) ?_
      refine P.isub (dq dtX7_adds_0 33 rfl) ?_
      refine P.aload_n (dq dtX7_adds_0 34 rfl) rfl ?_
      refine P.get flX7_16 (dq dtX7_adds_0 35 rfl) (by repeat (first | assumption | exact up_s | rw [up_n (by first | assumption | (apply Ne.symm; assumption) | decide | omega)])) (by rfl) ?_
      refine P.iload_n (dq dtX7_adds_0 36 rfl) rfl ?_
      refine P.bipush (dq dtX7_adds_0 37 rfl) rfl ?_
      refine P.iadd (dq dtX7_adds_0 38 rfl) ?_
      refine P.bipush (dq dtX7_adds_0 39 rfl) rfl ?_
      refine P.iload (dq dtX7_adds_0 40 rfl) rfl ?_
      refine P.imul (dq dtX7_adds_0 41 rfl) ?_
      refine P.iadd (dq dtX7_adds_0 42 rfl) ?_
      refine P.iload (dq dtX7_adds_0 43 rfl) rfl ?_
      refine P.iadd (dq dtX7_adds_0 44 rfl) ?_
      refine P.iald (dq dtX7_adds_0 45 rfl) (by repeat (first | assumption | exact up_s | rw [up_n (by first | assumption | (apply Ne.symm; assumption) | decide | omega)])) (by omega) (by omega) (by omega) ?_
      refine P.iast (dq dtX7_adds_0 46 rfl) (by repeat (first | assumption | exact up_s | rw [up_n (by first | assumption | (apply Ne.symm; assumption) | decide | omega)])) (by omega) (by omega) (by omega) ?_
      refine P.iinc (dq dtX7_adds_0 47 rfl) rfl (by decide) rfl rfl ?_
      refine P.goto (t := 26) (dq dtX7_adds_0 48 rfl) rfl ?_
      rw [up_up, show (r + 16 + 6 * (2 * k + w)) + i - 1 = (r + 16 + 6 * (2 * k + w)) + (i - 1) by omega, show (r + 16 + 6 * (2 * k + w)) + i = (r + 16 + 6 * (2 * k + w)) + 1 + (i - 1) by omega, cpI_step (by omega) (by omega), show i - 1 + 1 = i + 1 - 1 by omega]
      exact ih (i + 1) (by omega) (by omega)
/-- adds -/
theorem ct_X7_adds {x : CM} {d N : Nat} {σ : PH} {Q : PQ} {p s u l fi be rp cl dg nu pk wm : Int} (h84 : σ 84 = mdO p s u l fi be rp cl dg nu pk wm) {wf : Int → Int} (h85 : σ 85 = pcI 0 1404 wf) {r : Int} {v : MsV} (hG : GMs v) (hR : Rw wf r v) (hr : 0 ≤ r ∧ r ≤ 1287) {k w z : Int} (hk : 0 ≤ k ∧ k < v.1) (hw : w = 0 ∨ w = 1) (h : ∀ wf' : Int → Int, Rw wf' r (addM v (k * 2 + w) z) → (∀ i : Int, ¬ (r ≤ i ∧ i < r + 112) → wf' i = wf i) → Q none (up σ 85 (pcI 0 1404 wf')))  : Call x d 0 0 mX7_adds [vR 84, vI r, vI k, vI w, vI z] N σ Q := by
  refine Call.of mcX7_adds (Nat.le_of_ble_eq_true rfl) (fun y hy => ?_)
  subst hy
  have bc := (hG.2.2 (k * 2 + w) (by have := hG.1; omega) (by have := hG.1; omega)).1
  have bjj := (hG.2.2 (k * 2 + w) (by have := hG.1; omega) (by have := hG.1; omega)).2
  have e0 : wf (r + 0 + (2 * k + w)) = v.2.2.1 (k * 2 + w) := by
    rw [show r + 0 + (2 * k + w) = r + (k * 2 + w) by omega]
    exact hR.1 _ (by have := hG.1; omega) (by have := hG.1; omega)
  have hp8 := hG.1
  refine P.iconst (dq dtX7_adds_0 0 rfl) ?_
  refine P.iload_n (dq dtX7_adds_0 1 rfl) rfl ?_
  refine P.imul (dq dtX7_adds_0 2 rfl) ?_
  refine P.iload_n (dq dtX7_adds_0 3 rfl) rfl ?_
  refine P.iadd (dq dtX7_adds_0 4 rfl) ?_
  refine P.istore (dq dtX7_adds_0 5 rfl) (by decide) rfl rfl ?_
  refine P.aload_n (dq dtX7_adds_0 6 rfl) rfl ?_
  refine P.get flX7_16 (dq dtX7_adds_0 7 rfl) (by repeat (first | assumption | exact up_s | rw [up_n (by first | assumption | (apply Ne.symm; assumption) | decide | omega)])) (by rfl) ?_
  refine P.iload_n (dq dtX7_adds_0 8 rfl) rfl ?_
  refine P.iconst (dq dtX7_adds_0 9 rfl) ?_
  refine P.iadd (dq dtX7_adds_0 10 rfl) ?_
  refine P.iload (dq dtX7_adds_0 11 rfl) rfl ?_
  refine P.iadd (dq dtX7_adds_0 12 rfl) ?_
  refine P.iald (dq dtX7_adds_0 13 rfl) (by repeat (first | assumption | exact up_s | rw [up_n (by first | assumption | (apply Ne.symm; assumption) | decide | omega)])) (by omega) (by omega) (by omega) ?_
  refine P.bipush (dq dtX7_adds_0 14 rfl) rfl ?_
  rw [e0]
  refine P.icmp_ne (t := 92) (dq dtX7_adds_0 15 rfl) rfl (by omega) (by omega) (fun c_20 => ?_) (fun c_20 => ?_)
  · refine P.aload_n (dq dtX7_adds_0 61 rfl) rfl ?_
    refine P.get flX7_16 (dq dtX7_adds_0 62 rfl) (by repeat (first | assumption | exact up_s | rw [up_n (by first | assumption | (apply Ne.symm; assumption) | decide | omega)])) (by rfl) ?_
    refine P.iload_n (dq dtX7_adds_0 63 rfl) rfl ?_
    refine P.bipush (dq dtX7_adds_1 0 rfl) rfl ?_
    refine P.iadd (dq dtX7_adds_1 1 rfl) ?_
    refine P.bipush (dq dtX7_adds_1 2 rfl) rfl ?_
    refine P.iload (dq dtX7_adds_1 3 rfl) rfl ?_
    refine P.imul (dq dtX7_adds_1 4 rfl) ?_
    refine P.iadd (dq dtX7_adds_1 5 rfl) ?_
    refine P.aload_n (dq dtX7_adds_1 6 rfl) rfl ?_
    refine P.get flX7_16 (dq dtX7_adds_1 7 rfl) (by repeat (first | assumption | exact up_s | rw [up_n (by first | assumption | (apply Ne.symm; assumption) | decide | omega)])) (by rfl) ?_
    refine P.iload_n (dq dtX7_adds_1 8 rfl) rfl ?_
    refine P.iconst (dq dtX7_adds_1 9 rfl) ?_
    refine P.iadd (dq dtX7_adds_1 10 rfl) ?_
    refine P.iload (dq dtX7_adds_1 11 rfl) rfl ?_
    refine P.iadd (dq dtX7_adds_1 12 rfl) ?_
    refine P.iald (dq dtX7_adds_1 13 rfl) (by repeat (first | assumption | exact up_s | rw [up_n (by first | assumption | (apply Ne.symm; assumption) | decide | omega)])) (by omega) (by omega) (by omega) ?_
    rw [e0]
    refine P.iadd (dq dtX7_adds_1 14 rfl) ?_
    refine P.iload (dq dtX7_adds_1 15 rfl) rfl ?_
    refine P.iast (dq dtX7_adds_1 16 rfl) (by repeat (first | assumption | exact up_s | rw [up_n (by first | assumption | (apply Ne.symm; assumption) | decide | omega)])) (by omega) (by omega) (by omega) ?_
    refine P.aload_n (dq dtX7_adds_1 17 rfl) rfl ?_
    refine P.get flX7_16 (dq dtX7_adds_1 18 rfl) (by repeat (first | assumption | exact up_s | rw [up_n (by first | assumption | (apply Ne.symm; assumption) | decide | omega)])) (by rfl) ?_
    refine P.iload_n (dq dtX7_adds_1 19 rfl) rfl ?_
    refine P.iconst (dq dtX7_adds_1 20 rfl) ?_
    refine P.iadd (dq dtX7_adds_1 21 rfl) ?_
    refine P.iload (dq dtX7_adds_1 22 rfl) rfl ?_
    refine P.iadd (dq dtX7_adds_1 23 rfl) ?_
    refine P.dup2 (dq dtX7_adds_1 24 rfl) rfl rfl ?_
    refine P.iald (dq dtX7_adds_1 25 rfl) (by repeat (first | assumption | exact up_s | rw [up_n (by first | assumption | (apply Ne.symm; assumption) | decide | omega)])) (by omega) (by omega) (by omega) ?_
    refine P.iconst (dq dtX7_adds_1 26 rfl) ?_
    refine P.iadd (dq dtX7_adds_1 27 rfl) ?_
    rw [upI_n (show r + 0 + (2 * k + w) ≠ (r + 16 + 6 * (2 * k + w)) + v.2.2.1 (k * 2 + w) by omega), e0]
    refine P.iast (dq dtX7_adds_1 28 rfl) (by repeat (first | assumption | exact up_s | rw [up_n (by first | assumption | (apply Ne.symm; assumption) | decide | omega)])) (by omega) (by omega) (by omega) ?_
    refine P.vret (dq dtX7_adds_1 29 rfl) rfl rfl rfl ?_
    rw [up_up]
    refine h _ (hR.addx hG hk hw rfl ?_ (fun q => ⟨?_, fun j q0 q1 => ?_⟩) (fun q => absurd q (by omega)) (fun i q0 q1 q2 q3 => ?_)) (fun i q0 => ?_)
    · rw [show r + (k * 2 + w) = r + 0 + (2 * k + w) by omega, upI_s, if_neg (by omega)]
    · rw [upI_n (by omega), show r + 16 + 6 * (k * 2 + w) + v.2.2.1 (k * 2 + w) = (r + 16 + 6 * (2 * k + w)) + v.2.2.1 (k * 2 + w) by omega, upI_s]
    · rw [upI_n (by omega), upI_n (by omega)]
    · rw [upI_n (by omega), upI_n (by omega)]
    · rw [upI_n (by omega), upI_n (by omega)]
  · refine P.iconst (dq dtX7_adds_0 16 rfl) ?_
    refine P.istore (dq dtX7_adds_0 17 rfl) (by decide) rfl rfl ?_
    rw [← up_id h85]
    conv => rhs; rw [← cpI_0 (f := wf) (sp := (r + 16 + 6 * (2 * k + w)) + 1) (dp := (r + 16 + 6 * (2 * k + w)))]
    exact lp_adds h84 h85 hG hR hr hk hw (by omega) h 6 1 (by omega) (by omega)
theorem lp_noRuns {x : CX} {d N : Nat} {σ : PH} {Q : PQ} {p s u l fi be rp cl dg nu pk wm : Int} (h84 : σ 84 = mdO p s u l fi be rp cl dg nu pk wm) {wf : Int → Int} (h : ∀ wf' : Int → Int, (∀ i : Int, 0 ≤ i → i < 112 → wf' i = 0) → (∀ i : Int, 112 ≤ i → wf' i = wf i) → Q none (up σ 85 (pcI 0 1404 wf'))) : ∀ (t : Nat) (k : Int) (g : Int → Int), 0 ≤ k ∧ k ≤ 112 → 112 - k < t → (∀ i : Int, 0 ≤ i → i < k → g i = 0) → (∀ i : Int, 112 ≤ i → g i = wf i) → P x d mX7_noRuns Q (0, 0) 2 [some (vR 84), some (vI k)] [] N (up σ 85 (pcI 0 1404 g)) := by
  intro t
  induction t with
  | zero =>
    intro k g hk hm hg hg2
    exfalso; omega
  | succ t ih =>
    intro k g hk hm hg hg2
    refine P.iload_n (dq dtX7_noRuns 2 rfl) rfl ?_
    refine P.bipush (dq dtX7_noRuns 3 rfl) rfl ?_
    refine P.icmp_ge (t := 21) (dq dtX7_noRuns 4 rfl) rfl (by omega) (by omega) (fun c_5 => ?_) (fun c_5 => ?_)
    · refine P.vret (dq dtX7_noRuns 12 rfl) rfl rfl rfl ?_
      exact h g (fun i q0 q1 => hg i q0 (by omega)) hg2
    · refine P.aload_n (dq dtX7_noRuns 5 rfl) rfl ?_
      refine P.get flX7_16 (dq dtX7_noRuns 6 rfl) (by repeat (first | assumption | exact up_s | rw [up_n (by first | assumption | (apply Ne.symm; assumption) | decide | omega)])) (by rfl) ?_
      refine P.iload_n (dq dtX7_noRuns 7 rfl) rfl ?_
      refine P.iconst (dq dtX7_noRuns 8 rfl) ?_
      refine P.iast (dq dtX7_noRuns 9 rfl) (by repeat (first | assumption | exact up_s | rw [up_n (by first | assumption | (apply Ne.symm; assumption) | decide | omega)])) (by omega) (by omega) (by omega) ?_
      refine P.iinc (dq dtX7_noRuns 10 rfl) rfl (by decide) rfl rfl ?_
      refine P.goto (t := 2) (dq dtX7_noRuns 11 rfl) rfl ?_
      rw [up_up]
      exact ih (k + 1) (upI g k 0) (by omega) (by omega) (fun i q0 q1 => by { by_cases e : i = k; rw [e, upI_s]; rw [upI_n e]; exact hg i q0 (by omega) }) (fun i q0 => by rw [upI_n (by omega)]; exact hg2 i q0)
/-- noRuns -/
theorem ct_X7_noRuns {x : CM} {d N : Nat} {σ : PH} {Q : PQ} {p s u l fi be rp cl dg nu pk wm : Int} (h84 : σ 84 = mdO p s u l fi be rp cl dg nu pk wm) {wf : Int → Int} (h85 : σ 85 = pcI 0 1404 wf) (h : ∀ wf' : Int → Int, (∀ i : Int, 0 ≤ i → i < 112 → wf' i = 0) → (∀ i : Int, 112 ≤ i → wf' i = wf i) → Q none (up σ 85 (pcI 0 1404 wf'))) : Call x d 0 0 mX7_noRuns [vR 84] N σ Q := by
  refine Call.of mcX7_noRuns (Nat.le_of_ble_eq_true rfl) (fun y hy => ?_)
  subst hy
  refine P.iconst (dq dtX7_noRuns 0 rfl) ?_
  refine P.istore_n (dq dtX7_noRuns 1 rfl) (by decide) rfl rfl ?_
  rw [← up_id h85]
  exact lp_noRuns h84 h 113 0 wf (by omega) (by omega) (fun i q0 q1 => absurd q0 (by omega)) (fun _ _ => rfl)
theorem lp_minds {x : CX} {d N : Nat} {σ : PH} {Q : PQ} {p s u l fi be rp cl dg nu pk wm : Int} (h84 : σ 84 = mdO p s u l fi be rp cl dg nu pk wm) {wf : Int → Int} (h85 : σ 85 = pcI 0 1404 wf) {S : CSt} (hG : CG S) (hW : WR S wf) (hu : u = S.ct) (hd : 1 ≤ d) (h8 : S.ct = 8) (h : ∀ (σ' : PH) (wf' : Int → Int), σ' 84 = mdO p s (if 8 ≤ u then 8 else u + 1) l fi be rp cl dg nu pk wm → σ' 85 = pcI 0 1404 wf' → WR (sRem S) wf' → Fr σ σ' [84, 85] → Q none σ') : ∀ (t : Nat) (k : Int), 0 ≤ k ∧ k ≤ 819 → 819 - k < t → P x d mX7_minds Q (0, 0) 11 [some (vR 84), some (vI k)] [] N (up σ 85 (pcI 0 1404 (cpI wf wf (468 + 117) 468 k))) := by
  intro t
  induction t with
  | zero =>
    intro k hk hm
    exfalso; omega
  | succ t ih =>
    intro k hk hm
    have bc := hG.2.2.1.2.1
    refine P.iload_n (dq dtX7_minds 6 rfl) rfl ?_
    refine P.sipush (dq dtX7_minds 7 rfl) rfl ?_
    refine P.icmp_ge (t := 47) (dq dtX7_minds 8 rfl) rfl (by omega) (by omega) (fun c_15 => ?_) (fun c_15 => ?_)
    · refine P.aload_n (dq dtX7_minds 25 rfl) rfl ?_
      refine P.dup (dq dtX7_minds 26 rfl) rfl ?_
      refine P.get flX7_62 (dq dtX7_minds 27 rfl) (by repeat (first | assumption | exact up_s | rw [up_n (by first | assumption | (apply Ne.symm; assumption) | decide | omega)])) (by rfl) ?_
      refine P.iconst (dq dtX7_minds 28 rfl) ?_
      refine P.isub (dq dtX7_minds 29 rfl) ?_
      refine P.put flX7_62 rfl (dq dtX7_minds 30 rfl) (by repeat (first | assumption | exact up_s | rw [up_n (by first | assumption | (apply Ne.symm; assumption) | decide | omega)])) (by exact Nat.le_of_ble_eq_true rfl) rfl rfl rfl rfl rfl ?_
      refine P.aload_n (dq dtX7_minds 31 rfl) rfl ?_
      refine P.iconst (dq dtX7_minds 32 rfl) ?_
      refine P.sipush (dq dtX7_minds 33 rfl) rfl ?_
      refine P.bipush (dq dtX7_minds 34 rfl) rfl ?_
      refine P.aload_n (dq dtX7_minds 35 rfl) rfl ?_
      refine P.get flX7_62 (dq dtX7_minds 36 rfl) (by repeat (first | assumption | exact up_s | rw [up_n (by first | assumption | (apply Ne.symm; assumption) | decide | omega)])) (by rfl) ?_
      refine P.imul (dq dtX7_minds 37 rfl) ?_
      refine P.iadd (dq dtX7_minds 38 rfl) ?_
      refine P.callV2 (M' := mX7_copy) (d' := d - 1) mlX7_156 mcX7_copy mvX7_copy (dq dtX7_minds 39 rfl) (by omega) (Nat.le_of_ble_eq_true rfl) (by repeat (first | assumption | exact up_s | rw [up_n (by first | assumption | (apply Ne.symm; assumption) | decide | omega)])) rfl ?_
      obtain rfl : k = 819 := by omega
      refine ct_X7_copy up_s (by repeat (first | assumption | exact up_s | rw [up_n (by first | assumption | (apply Ne.symm; assumption) | decide | omega)])) (by omega) (by omega) ?_
      refine P.aload_n (dq dtX7_minds 40 rfl) rfl ?_
      refine P.dup (dq dtX7_minds 41 rfl) rfl ?_
      refine P.get flX7_62 (dq dtX7_minds 42 rfl) (by repeat (first | assumption | exact up_s | rw [up_n (by first | assumption | (apply Ne.symm; assumption) | decide | omega)])) (by rfl) ?_
      refine P.iconst (dq dtX7_minds 43 rfl) ?_
      refine P.iadd (dq dtX7_minds 44 rfl) ?_
      refine P.put flX7_62 rfl (dq dtX7_minds 45 rfl) (by repeat (first | assumption | exact up_s | rw [up_n (by first | assumption | (apply Ne.symm; assumption) | decide | omega)])) (by exact Nat.le_of_ble_eq_true rfl) rfl rfl rfl rfl rfl ?_
      refine P.vret (dq dtX7_minds 46 rfl) rfl rfl rfl ?_
      refine h _ (cpI (cpI wf wf (468 + 117) 468 819) (cpI wf wf (468 + 117) 468 819) 0 (468 + 117 * (u - 1)) 117) (by rw [up_s]; rw [if_pos (by omega), show u - 1 + 1 = 8 by omega]; rfl) (by repeat (first | assumption | exact up_s | rw [up_n (by first | assumption | (apply Ne.symm; assumption) | decide | omega)])) (hW.rem hG (fun q => absurd q (by omega)) (fun _ i => ?_)) (by repeat (first | assumption | exact Fr.rf | refine Fr.up ?_ (by simp)))
      have eu : 468 + 117 * (u - 1) = 1287 := by omega
      rw [eu]
      by_cases q : 1287 ≤ i ∧ i < 1404
      · rw [if_pos q, cpI_in (by omega), cpI_out (by omega)]
        congr 1
        omega
      · rw [if_neg q, cpI_out (by omega)]
        by_cases q2 : 468 ≤ i ∧ i < 1287
        · rw [if_pos q2, cpI_in (by omega)]
          congr 1
          omega
        · rw [if_neg q2, cpI_out (by omega)]
    · refine P.aload_n (dq dtX7_minds 9 rfl) rfl ?_
      refine P.get flX7_16 (dq dtX7_minds 10 rfl) (by repeat (first | assumption | exact up_s | rw [up_n (by first | assumption | (apply Ne.symm; assumption) | decide | omega)])) (by rfl) ?_
      refine P.sipush (dq dtX7_minds 11 rfl) rfl ?_
      refine P.iload_n (dq dtX7_minds 12 rfl) rfl ?_
      refine P.iadd (dq dtX7_minds 13 rfl) ?_
      refine P.aload_n (dq dtX7_minds 14 rfl) rfl ?_
      refine P.get flX7_16 (dq dtX7_minds 15 rfl) (by repeat (first | assumption | exact up_s | rw [up_n (by first | assumption | (apply Ne.symm; assumption) | decide | omega)])) (by rfl) ?_
      refine P.sipush (dq dtX7_minds 16 rfl) rfl ?_
      refine P.iload_n (dq dtX7_minds 17 rfl) rfl ?_
      refine P.iadd (dq dtX7_minds 18 rfl) ?_
      refine P.bipush (dq dtX7_minds 19 rfl) rfl ?_
      refine P.iadd (dq dtX7_minds 20 rfl) ?_
      refine P.iald (dq dtX7_minds 21 rfl) (by repeat (first | assumption | exact up_s | rw [up_n (by first | assumption | (apply Ne.symm; assumption) | decide | omega)])) (by omega) (by omega) (by omega) ?_
      refine P.iast (dq dtX7_minds 22 rfl) (by repeat (first | assumption | exact up_s | rw [up_n (by first | assumption | (apply Ne.symm; assumption) | decide | omega)])) (by omega) (by omega) (by omega) ?_
      refine P.iinc (dq dtX7_minds 23 rfl) rfl (by decide) rfl rfl ?_
      refine P.goto (t := 11) (dq dtX7_minds 24 rfl) rfl ?_
      rw [up_up, show 468 + k + 117 = 468 + 117 + k by omega, cpI_step (by omega) (by omega)]
      exact ih (k + 1) (by omega) (by omega)
/-- minds -/
theorem ct_X7_minds {x : CM} {d N : Nat} {σ : PH} {Q : PQ} {p s u l fi be rp cl dg nu pk wm : Int} (h84 : σ 84 = mdO p s u l fi be rp cl dg nu pk wm) {wf : Int → Int} (h85 : σ 85 = pcI 0 1404 wf) {S : CSt} (hG : CG S) (hW : WR S wf) (hu : u = S.ct) (hd : 1 ≤ d) (h : ∀ (σ' : PH) (wf' : Int → Int), σ' 84 = mdO p s (if 8 ≤ u then 8 else u + 1) l fi be rp cl dg nu pk wm → σ' 85 = pcI 0 1404 wf' → WR (sRem S) wf' → Fr σ σ' [84, 85] → Q none σ') : Call x d 0 0 mX7_minds [vR 84] N σ Q := by
  refine Call.of mcX7_minds (Nat.le_of_ble_eq_true rfl) (fun y hy => ?_)
  subst hy
  have bc := hG.2.2.1.2.1
  refine P.aload_n (dq dtX7_minds 0 rfl) rfl ?_
  refine P.get flX7_62 (dq dtX7_minds 1 rfl) (by repeat (first | assumption | exact up_s | rw [up_n (by first | assumption | (apply Ne.symm; assumption) | decide | omega)])) (by rfl) ?_
  refine P.bipush (dq dtX7_minds 2 rfl) rfl ?_
  refine P.icmp_ne (t := 57) (dq dtX7_minds 3 rfl) rfl (by omega) (by omega) (fun c_6 => ?_) (fun c_6 => ?_)
  · refine P.aload_n (dq dtX7_minds 31 rfl) rfl ?_
    refine P.iconst (dq dtX7_minds 32 rfl) ?_
    refine P.sipush (dq dtX7_minds 33 rfl) rfl ?_
    refine P.bipush (dq dtX7_minds 34 rfl) rfl ?_
    refine P.aload_n (dq dtX7_minds 35 rfl) rfl ?_
    refine P.get flX7_62 (dq dtX7_minds 36 rfl) (by repeat (first | assumption | exact up_s | rw [up_n (by first | assumption | (apply Ne.symm; assumption) | decide | omega)])) (by rfl) ?_
    refine P.imul (dq dtX7_minds 37 rfl) ?_
    refine P.iadd (dq dtX7_minds 38 rfl) ?_
    refine P.callV2 (M' := mX7_copy) (d' := d - 1) mlX7_156 mcX7_copy mvX7_copy (dq dtX7_minds 39 rfl) (by omega) (Nat.le_of_ble_eq_true rfl) (by repeat (first | assumption | exact up_s | rw [up_n (by first | assumption | (apply Ne.symm; assumption) | decide | omega)])) rfl ?_
    refine ct_X7_copy h84 h85 (by omega) (by omega) ?_
    refine P.aload_n (dq dtX7_minds 40 rfl) rfl ?_
    refine P.dup (dq dtX7_minds 41 rfl) rfl ?_
    refine P.get flX7_62 (dq dtX7_minds 42 rfl) (by repeat (first | assumption | exact up_s | rw [up_n (by first | assumption | (apply Ne.symm; assumption) | decide | omega)])) (by rfl) ?_
    refine P.iconst (dq dtX7_minds 43 rfl) ?_
    refine P.iadd (dq dtX7_minds 44 rfl) ?_
    refine P.put flX7_62 rfl (dq dtX7_minds 45 rfl) (by repeat (first | assumption | exact up_s | rw [up_n (by first | assumption | (apply Ne.symm; assumption) | decide | omega)])) (by exact Nat.le_of_ble_eq_true rfl) rfl rfl rfl rfl rfl ?_
    refine P.vret (dq dtX7_minds 46 rfl) rfl rfl rfl ?_
    refine h _ (cpI wf wf 0 (468 + 117 * u) 117) (by rw [up_s]; rw [if_neg (by omega)]; rfl) (by repeat (first | assumption | exact up_s | rw [up_n (by first | assumption | (apply Ne.symm; assumption) | decide | omega)])) (hW.rem hG (fun _ i => ?_) (fun q => absurd q (by omega))) (by repeat (first | assumption | exact Fr.rf | refine Fr.up ?_ (by simp)))
    rw [hu]
    by_cases q : 468 + 117 * S.ct ≤ i ∧ i < 468 + 117 * S.ct + 117
    · rw [if_pos q, cpI_in q]
      congr 1
      omega
    · rw [if_neg q, cpI_out q]
  · refine P.iconst (dq dtX7_minds 4 rfl) ?_
    refine P.istore_n (dq dtX7_minds 5 rfl) (by decide) rfl rfl ?_
    rw [← up_id h85]
    conv => rhs; rw [← cpI_0 (f := wf) (sp := 468 + 117) (dp := 468)]
    exact lp_minds h84 h85 hG hW hu hd (by omega) h 820 0 (by omega) (by omega)
theorem lp_runs {x : CX} {d N : Nat} {σ : PH} {Q : PQ} {p s u l fi be rp cl dg nu pk wm : Int} (h84 : σ 84 = mdO p s u l fi be rp cl dg nu pk wm) {wf : Int → Int} (h85 : σ 85 = pcI 0 1404 wf) {v : MsV} (hG : GMs v) (hR : Rw wf 0 v) (hp : p = v.1) (h : Q (some (vI (sumF v.2.2.1 0 16))) σ) : ∀ (t j : Nat), (j : Int) ≤ 2 * v.1 → 2 * v.1 - j < t → P x d mX7_runs Q (0, 0) 4 [some (vR 84), some (vI (sumF v.2.2.1 0 j)), some (vI j)] [] N σ := by
  intro t
  induction t with
  | zero =>
    intro j hj hm
    exfalso; omega
  | succ t ih =>
    intro j hj hm
    have hp8 := hG.1
    refine P.iload_n (dq dtX7_runs 4 rfl) rfl ?_
    refine P.iconst (dq dtX7_runs 5 rfl) ?_
    refine P.aload_n (dq dtX7_runs 6 rfl) rfl ?_
    refine P.get flX7_7 (dq dtX7_runs 7 rfl) (by repeat (first | assumption | exact up_s | rw [up_n (by first | assumption | (apply Ne.symm; assumption) | decide | omega)])) (by rfl) ?_
    refine P.imul (dq dtX7_runs 8 rfl) ?_
    refine P.icmp_ge (t := 31) (dq dtX7_runs 9 rfl) rfl (by omega) (by omega) (fun c_11 => ?_) (fun c_11 => ?_)
    · refine P.iload_n (dq dtX7_runs 21 rfl) rfl ?_
      refine P.iret (dq dtX7_runs 22 rfl) rfl rfl rfl ?_
      rw [sumF_pad (n := j) 16 (by omega) (fun t g1 g2 => hR.2.2 t (by omega) (by omega))] at h
      exact h
    · refine P.iload_n (dq dtX7_runs 10 rfl) rfl ?_
      refine P.aload_n (dq dtX7_runs 11 rfl) rfl ?_
      refine P.get flX7_16 (dq dtX7_runs 12 rfl) (by repeat (first | assumption | exact up_s | rw [up_n (by first | assumption | (apply Ne.symm; assumption) | decide | omega)])) (by rfl) ?_
      refine P.iconst (dq dtX7_runs 13 rfl) ?_
      refine P.iload_n (dq dtX7_runs 14 rfl) rfl ?_
      refine P.iadd (dq dtX7_runs 15 rfl) ?_
      refine P.iald (dq dtX7_runs 16 rfl) (by repeat (first | assumption | exact up_s | rw [up_n (by first | assumption | (apply Ne.symm; assumption) | decide | omega)])) (by omega) (by omega) (by omega) ?_
      rw [hR.1 j (by omega) (by omega)]
      refine P.iadd (dq dtX7_runs 17 rfl) ?_
      refine P.istore_n (dq dtX7_runs 18 rfl) (by decide) rfl rfl ?_
      refine P.iinc (dq dtX7_runs 19 rfl) rfl (by decide) rfl rfl ?_
      refine P.goto (t := 4) (dq dtX7_runs 20 rfl) rfl ?_
      have hh := ih (j + 1) (by omega) (by omega)
      have e1 : sumF v.2.2.1 0 (j + 1) = sumF v.2.2.1 0 j + v.2.2.1 j := by
        show _ + v.2.2.1 (0 + j) = _
        rw [Int.zero_add]
      rw [e1, show ((j + 1 : Nat) : Int) = (j : Int) + 1 by omega] at hh
      exact hh
/-- runs -/
theorem ct_X7_runs {x : CM} {d N : Nat} {σ : PH} {Q : PQ} {p s u l fi be rp cl dg nu pk wm : Int} (h84 : σ 84 = mdO p s u l fi be rp cl dg nu pk wm) {wf : Int → Int} (h85 : σ 85 = pcI 0 1404 wf) {v : MsV} (hG : GMs v) (hR : Rw wf 0 v) (hp : p = v.1) (h : Q (some (vI (sumF v.2.2.1 0 16))) σ) : Call x d 0 0 mX7_runs [vR 84] N σ Q := by
  refine Call.of mcX7_runs (Nat.le_of_ble_eq_true rfl) (fun y hy => ?_)
  subst hy
  refine P.iconst (dq dtX7_runs 0 rfl) ?_
  refine P.istore_n (dq dtX7_runs 1 rfl) (by decide) rfl rfl ?_
  refine P.iconst (dq dtX7_runs 2 rfl) ?_
  refine P.istore_n (dq dtX7_runs 3 rfl) (by decide) rfl rfl ?_
  have hp8 := hG.1
  exact lp_runs h84 h85 hG hR hp h 17 0 (by omega) (by omega)
theorem lp_letsM {x : CX} {d N : Nat} {σ : PH} {Q : PQ} {p s u l fi be rp cl dg nu pk wm : Int} (h84 : σ 84 = mdO p s u l fi be rp cl dg nu pk wm) {S : CSt} {sz lt : Int → Int} (hG : CG S) (h94 : σ 94 = pcI 0 3 sz) (hL : LR S sz lt) (h : Q (some (vI (lsm S.it S.ln 3))) σ) : ∀ (t k : Nat), k ≤ 3 → 3 - k < t → P x d mX7_lettersOfAll Q (0, 0) 4 [some (vR 84), some (vI (lsm S.it S.ln k)), some (vI k)] [] N σ := by
  intro t
  induction t with
  | zero =>
    intro k hk hm
    exfalso; omega
  | succ t ih =>
    intro k hk hm
    refine P.iload_n (dq dtX7_lettersOfAll 4 rfl) rfl ?_
    refine P.iconst (dq dtX7_lettersOfAll 5 rfl) ?_
    refine P.icmp_ge (t := 37) (dq dtX7_lettersOfAll 6 rfl) rfl (by omega) (by omega) (fun c_6 => ?_) (fun c_6 => ?_)
    · refine P.iload_n (dq dtX7_lettersOfAll 23 rfl) rfl ?_
      refine P.iret (dq dtX7_lettersOfAll 24 rfl) rfl rfl rfl ?_
      obtain rfl : k = 3 := by omega
      exact h
    · have ek := hL.1 k (by omega) (by omega)
      have bk := (hG.2.2.2.2.2 k (by omega)).1
      have e1 : lsm S.it S.ln (k + 1) = lsm S.it S.ln k + if S.it k = 0 then 0 else S.ln k := rfl
      rw [Int.toNat_natCast] at ek
      have bs : -1 ≤ sz k ∧ sz k ≤ 24 := by rw [ek]; split <;> omega
      refine P.iload_n (dq dtX7_lettersOfAll 7 rfl) rfl ?_
      refine P.aload_n (dq dtX7_lettersOfAll 8 rfl) rfl ?_
      refine P.get flX7_45 (dq dtX7_lettersOfAll 9 rfl) (by repeat (first | assumption | exact up_s | rw [up_n (by first | assumption | (apply Ne.symm; assumption) | decide | omega)])) (by rfl) ?_
      refine P.iload_n (dq dtX7_lettersOfAll 10 rfl) rfl ?_
      refine P.iald (dq dtX7_lettersOfAll 11 rfl) (by repeat (first | assumption | exact up_s | rw [up_n (by first | assumption | (apply Ne.symm; assumption) | decide | omega)])) (by omega) (by omega) (by omega) ?_
      refine P.if_ge (t := 23) (dq dtX7_lettersOfAll 12 rfl) rfl (by omega) (fun c_16 => ?_) (fun c_16 => ?_)
      · refine P.aload_n (dq dtX7_lettersOfAll 15 rfl) rfl ?_
        refine P.get flX7_45 (dq dtX7_lettersOfAll 16 rfl) (by repeat (first | assumption | exact up_s | rw [up_n (by first | assumption | (apply Ne.symm; assumption) | decide | omega)])) (by rfl) ?_
        refine P.iload_n (dq dtX7_lettersOfAll 17 rfl) rfl ?_
        refine P.iald (dq dtX7_lettersOfAll 18 rfl) (by repeat (first | assumption | exact up_s | rw [up_n (by first | assumption | (apply Ne.symm; assumption) | decide | omega)])) (by omega) (by omega) (by omega) ?_
        refine P.iadd (dq dtX7_lettersOfAll 19 rfl) ?_
        refine P.istore_n (dq dtX7_lettersOfAll 20 rfl) (by decide) rfl rfl ?_
        refine P.iinc (dq dtX7_lettersOfAll 21 rfl) rfl (by decide) rfl rfl ?_
        refine P.goto (t := 4) (dq dtX7_lettersOfAll 22 rfl) rfl ?_
        have hh := ih (k + 1) (by omega) (by omega)
        rw [show ((k + 1 : Nat) : Int) = (k : Int) + 1 by omega, e1] at hh
        by_cases q : S.it k = 0
        · rw [if_pos q] at hh ek
          first | exact hh | (exfalso; omega)
        · rw [if_neg q] at hh ek
          first | (rw [← ek] at hh; exact hh) | (exfalso; omega)
      · refine P.iconst (dq dtX7_lettersOfAll 13 rfl) ?_
        refine P.goto (t := 29) (dq dtX7_lettersOfAll 14 rfl) rfl ?_
        refine P.iadd (dq dtX7_lettersOfAll 19 rfl) ?_
        refine P.istore_n (dq dtX7_lettersOfAll 20 rfl) (by decide) rfl rfl ?_
        refine P.iinc (dq dtX7_lettersOfAll 21 rfl) rfl (by decide) rfl rfl ?_
        refine P.goto (t := 4) (dq dtX7_lettersOfAll 22 rfl) rfl ?_
        have hh := ih (k + 1) (by omega) (by omega)
        rw [show ((k + 1 : Nat) : Int) = (k : Int) + 1 by omega, e1] at hh
        by_cases q : S.it k = 0
        · rw [if_pos q] at hh ek
          first | exact hh | (exfalso; omega)
        · rw [if_neg q] at hh ek
          first | (rw [← ek] at hh; exact hh) | (exfalso; omega)
/-- X7_lettersOfAll -/
theorem ct_X7_letters {x : CM} {d N : Nat} {σ : PH} {Q : PQ} {p s u l fi be rp cl dg nu pk wm : Int} (h84 : σ 84 = mdO p s u l fi be rp cl dg nu pk wm) {S : CSt} {sz lt : Int → Int} (hG : CG S) (h94 : σ 94 = pcI 0 3 sz) (hL : LR S sz lt) (h : Q (some (vI (lsm S.it S.ln 3))) σ) : Call x d 0 0 mX7_lettersOfAll [vR 84] N σ Q := by
  refine Call.of mcX7_lettersOfAll (Nat.le_of_ble_eq_true rfl) (fun y hy => ?_)
  subst hy
  refine P.iconst (dq dtX7_lettersOfAll 0 rfl) ?_
  refine P.istore_n (dq dtX7_lettersOfAll 1 rfl) (by decide) rfl rfl ?_
  refine P.iconst (dq dtX7_lettersOfAll 2 rfl) ?_
  refine P.istore_n (dq dtX7_lettersOfAll 3 rfl) (by decide) rfl rfl ?_
  exact lp_letsM h84 hG h94 hL h 4 0 (by omega) (by omega)
def Lw (σ : PH) (p s u l0 fi be rp cl dg nu pk n : Int) (f : Int → Int) : Prop := σ 84 = mdO p s u l0 fi be rp cl dg nu pk n ∧ σ 93 = pcI 0 80 f
/-- puts -/
theorem ct_puts {x : CM} {d N : Nat} {σ : PH} {Q : PQ} {p s u l0 fi be rp cl dg nu pk : Int} {f : Int → Int} {l : List Int} (hL : Lw σ p s u l0 fi be rp cl dg nu pk l.length f) (hR : Rp f l) (hr : l.length < 80) {c : Int} (h : ∀ (σ' : PH) (f' : Int → Int), Lw σ' p s u l0 fi be rp cl dg nu pk (l ++ [c]).length f' → Rp f' (l ++ [c]) → Fr σ σ' [84, 93] → Q none σ') : Call x d 0 0 mX7_puts [vR 84, vI c] N σ Q := by
  refine Call.of mcX7_puts (Nat.le_of_ble_eq_true rfl) (fun y hy => ?_)
  subst hy
  have x84 := hL.1
  have x93 := hL.2
  refine P.aload_n (dq dtX7_puts 0 rfl) rfl ?_
  refine P.get flX7_42 (dq dtX7_puts 1 rfl) (by repeat (first | assumption | exact up_s | rw [up_n (by first | assumption | (apply Ne.symm; assumption) | decide | omega)])) (by rfl) ?_
  refine P.aload_n (dq dtX7_puts 2 rfl) rfl ?_
  refine P.get flX7_208 (dq dtX7_puts 3 rfl) (by repeat (first | assumption | exact up_s | rw [up_n (by first | assumption | (apply Ne.symm; assumption) | decide | omega)])) (by rfl) ?_
  refine P.iload_n (dq dtX7_puts 4 rfl) rfl ?_
  refine P.iast (dq dtX7_puts 5 rfl) (by repeat (first | assumption | exact up_s | rw [up_n (by first | assumption | (apply Ne.symm; assumption) | decide | omega)])) (by omega) (by omega) (by omega) ?_
  refine P.aload_n (dq dtX7_puts 6 rfl) rfl ?_
  refine P.dup (dq dtX7_puts 7 rfl) rfl ?_
  refine P.get flX7_208 (dq dtX7_puts 8 rfl) (by repeat (first | assumption | exact up_s | rw [up_n (by first | assumption | (apply Ne.symm; assumption) | decide | omega)])) (by rfl) ?_
  refine P.iconst (dq dtX7_puts 9 rfl) ?_
  refine P.iadd (dq dtX7_puts 10 rfl) ?_
  refine P.put flX7_208 rfl (dq dtX7_puts 11 rfl) (by repeat (first | assumption | exact up_s | rw [up_n (by first | assumption | (apply Ne.symm; assumption) | decide | omega)])) (by exact Nat.le_of_ble_eq_true rfl) rfl rfl rfl rfl rfl ?_
  refine P.vret (dq dtX7_puts 12 rfl) rfl rfl rfl ?_
  refine h _ (upI f l.length c) ⟨?_, (by repeat (first | assumption | exact up_s | rw [up_n (by first | assumption | (apply Ne.symm; assumption) | decide | omega)]))⟩ (Rp_put hR) (by repeat (first | assumption | exact Fr.rf | refine Fr.up ?_ (by simp)))
  rw [up_s]
  simp [mdO]
theorem mn_h1 {x : CX} {d N : Nat} {σ : PH} {Q : PQ} {v u : Int} (hv : 0 ≤ v ∧ v < 10000) (hu : 1 ≤ u ∧ u ≤ 10000) (k1 : 10 * u ≤ v → P x d mX7_putsNumber Q (0, 0) 2 [some (vR 84), some (vI v), some (vI (u * 10))] [] N σ) (k2 : v < 10 * u → P x d mX7_putsNumber Q (0, 0) 18 [some (vR 84), some (vI v), some (vI u)] [] N σ) : P x d mX7_putsNumber Q (0, 0) 2 [some (vR 84), some (vI v), some (vI u)] [] N σ := by
  have e1 : v.tdiv u = v / u := Int.tdiv_eq_ediv_of_nonneg (by omega)
  have e2 := Int.ediv_nonneg (show 0 ≤ v by omega) (show 0 ≤ u by omega)
  have e5 : v / u ≤ v := Int.ediv_le_self _ (by omega)
  refine P.iload_n (dq dtX7_putsNumber 2 rfl) rfl ?_
  refine P.iload_n (dq dtX7_putsNumber 3 rfl) rfl ?_
  refine P.idiv (dq dtX7_putsNumber 4 rfl) (by omega) (by omega) (by omega) ?_
  refine P.bipush (dq dtX7_putsNumber 5 rfl) rfl ?_
  rw [e1]
  refine P.icmp_le (t := 18) (dq dtX7_putsNumber 6 rfl) rfl (by omega) (by omega) (fun c_7 => ?_) (fun c_7 => ?_)
  · exact k2 (Int.lt_mul_of_ediv_lt (by omega) (by omega))
  · refine P.iload_n (dq dtX7_putsNumber 7 rfl) rfl ?_
    refine P.bipush (dq dtX7_putsNumber 8 rfl) rfl ?_
    refine P.imul (dq dtX7_putsNumber 9 rfl) ?_
    refine P.istore_n (dq dtX7_putsNumber 10 rfl) (by decide) rfl rfl ?_
    refine P.goto (t := 2) (dq dtX7_putsNumber 11 rfl) rfl ?_
    exact k1 (Int.mul_le_of_le_ediv (by omega) (by omega))
theorem mn_h2 {x : CX} {d N : Nat} {σ : PH} {Q : PQ} {p s u0 l0 fi be rp cl dg nu pk : Int} {f : Int → Int} {l : List Int} {v u : Int} (hL : Lw σ p s u0 l0 fi be rp cl dg nu pk l.length f) (hR : Rp f l) (hr : l.length < 80) (hd : 3 ≤ d) (hv : 0 ≤ v ∧ v < 10000) (hu : 1 ≤ u ∧ u ≤ 10000) (kk : ∀ (σ' : PH) (f' : Int → Int), Lw σ' p s u0 l0 fi be rp cl dg nu pk (l ++ [48 + v / u % 10]).length f' → Rp f' (l ++ [48 + v / u % 10]) → Fr σ σ' [84, 93] → P x d mX7_putsNumber Q (0, 0) 18 [some (vR 84), some (vI v), some (vI (u / 10))] [] N σ') : P x d mX7_putsNumber Q (0, 0) 18 [some (vR 84), some (vI v), some (vI u)] [] N σ := by
  have hLq := hL.1
  have e1 : v.tdiv u = v / u := Int.tdiv_eq_ediv_of_nonneg (by omega)
  have e2 := Int.ediv_nonneg (show 0 ≤ v by omega) (show 0 ≤ u by omega)
  have e4 : (v / u).tmod 10 = v / u % 10 := Int.tmod_eq_emod_of_nonneg e2
  have e3 : u.tdiv 10 = u / 10 := Int.tdiv_eq_ediv_of_nonneg (by omega)
  have e5 : v / u ≤ v := Int.ediv_le_self _ (by omega)
  refine P.iload_n (dq dtX7_putsNumber 12 rfl) rfl ?_
  refine P.if_le (t := 43) (dq dtX7_putsNumber 13 rfl) rfl (by omega) (fun c_19 => ?_) (fun c_19 => ?_)
  · exfalso; omega
  · refine P.aload_n (dq dtX7_putsNumber 14 rfl) rfl ?_
    refine P.bipush (dq dtX7_putsNumber 15 rfl) rfl ?_
    refine P.iload_n (dq dtX7_putsNumber 16 rfl) rfl ?_
    refine P.iload_n (dq dtX7_putsNumber 17 rfl) rfl ?_
    refine P.idiv (dq dtX7_putsNumber 18 rfl) (by omega) (by omega) (by omega) ?_
    rw [e1]
    refine P.bipush (dq dtX7_putsNumber 19 rfl) rfl ?_
    refine P.irem (dq dtX7_putsNumber 20 rfl) (by omega) (by omega) (by omega) ?_
    rw [e4]
    refine P.iadd (dq dtX7_putsNumber 21 rfl) ?_
    refine P.callV1 (M' := mX7_puts) (d' := d - 1) mlX7_211 mcX7_puts mvX7_puts (dq dtX7_putsNumber 22 rfl) (by omega) (Nat.le_of_ble_eq_true rfl) (by repeat (first | assumption | exact up_s | rw [up_n (by first | assumption | (apply Ne.symm; assumption) | decide | omega)])) rfl ?_
    refine ct_puts hL hR hr (fun σ' f' q1 q2 q3 => ?_)
    refine P.iload_n (dq dtX7_putsNumber 23 rfl) rfl ?_
    refine P.bipush (dq dtX7_putsNumber 24 rfl) rfl ?_
    refine P.idiv (dq dtX7_putsNumber 25 rfl) (by omega) (by omega) (by omega) ?_
    rw [e3]
    refine P.istore_n (dq dtX7_putsNumber 26 rfl) (by decide) rfl rfl ?_
    refine P.goto (t := 18) (dq dtX7_putsNumber 27 rfl) rfl ?_
    exact kk σ' f' q1 q2 q3
theorem mn_h3 {x : CX} {d N : Nat} {σ : PH} {Q : PQ} {v : Int} (h : Q none σ) : P x d mX7_putsNumber Q (0, 0) 18 [some (vR 84), some (vI v), some (vI 0)] [] N σ := by
  refine P.iload_n (dq dtX7_putsNumber 12 rfl) rfl ?_
  refine P.if_le (t := 43) (dq dtX7_putsNumber 13 rfl) rfl (by omega) (fun c_19 => ?_) (fun c_19 => ?_)
  · refine P.vret (dq dtX7_putsNumber 28 rfl) rfl rfl rfl ?_
    exact h
  · exfalso; omega
theorem ct_putsNumber {x : CM} {d N : Nat} {σ : PH} {Q : PQ} {p s u l0 fi be rp cl dg nu pk : Int} {f : Int → Int} {l : List Int} {v : Int} (hL : Lw σ p s u l0 fi be rp cl dg nu pk l.length f) (hR : Rp f l) (hr : l.length + 4 ≤ 80) (hd : 3 ≤ d) (hv : 0 ≤ v ∧ v < 10000) (h : ∀ (σ' : PH) (f' : Int → Int), Lw σ' p s u l0 fi be rp cl dg nu pk (l ++ digs v).length f' → Rp f' (l ++ digs v) → Fr σ σ' [84, 93] → Q none σ') : Call x d 0 0 mX7_putsNumber [vR 84, vI v] N σ Q := by
  refine Call.of mcX7_putsNumber (Nat.le_of_ble_eq_true rfl) (fun y hy => ?_)
  subst hy
  refine P.iconst (dq dtX7_putsNumber 0 rfl) ?_
  refine P.istore_n (dq dtX7_putsNumber 1 rfl) (by decide) rfl rfl ?_
  rcases Int.lt_or_le v 10 with hc | hc
  · show P y d mX7_putsNumber Q (0, 0) 2 [some (vR 84), some (vI v), some (vI 1)] [] N σ
    refine mn_h1 hv (by omega) (fun h9 => absurd h9 (by omega)) (fun _ => ?_)
    refine mn_h2 hL hR (by first | omega | (simp only [List.length_append, List.length_singleton]; omega)) hd hv (by omega) (fun σ1 f1 a1 b1 c1 => ?_)
    rw [show (1 : Int) / 10 = 0 by decide]
    refine mn_h3 (h σ1 f1 ?_ ?_ ?_)
    · have el : digs v = [48 + v / 1 % 10] := by
        unfold digs
        rw [if_pos (show v < 10 by omega)]
        rw [show 48 + v / 1 % 10 = 48 + v by omega]
      rw [el]
      simpa using a1
    · have el : digs v = [48 + v / 1 % 10] := by
        unfold digs
        rw [if_pos (show v < 10 by omega)]
        rw [show 48 + v / 1 % 10 = 48 + v by omega]
      rw [el]
      simpa using b1
    · exact c1
  · rcases Int.lt_or_le v 100 with hc2 | hc2
    · show P y d mX7_putsNumber Q (0, 0) 2 [some (vR 84), some (vI v), some (vI 1)] [] N σ
      refine mn_h1 hv (by omega) (fun _ => ?_) (fun h9 => absurd h9 (by omega))
      rw [show (1 : Int) * 10 = 10 by omega]
      refine mn_h1 hv (by omega) (fun h9 => absurd h9 (by omega)) (fun _ => ?_)
      refine mn_h2 hL hR (by first | omega | (simp only [List.length_append, List.length_singleton]; omega)) hd hv (by omega) (fun σ1 f1 a1 b1 c1 => ?_)
      rw [show (10 : Int) / 10 = 1 by decide]
      refine mn_h2 a1 b1 (by first | omega | (simp only [List.length_append, List.length_singleton]; omega)) hd hv (by omega) (fun σ2 f2 a2 b2 c2 => ?_)
      rw [show (1 : Int) / 10 = 0 by decide]
      refine mn_h3 (h σ2 f2 ?_ ?_ ?_)
      · have el : digs v = [48 + v / 10 % 10, 48 + v / 1 % 10] := by
          unfold digs
          rw [if_neg (show ¬ v < 10 by omega), if_pos (show v < 100 by omega)]
          rw [show 48 + v / 10 % 10 = 48 + v / 10 by omega, show 48 + v / 1 % 10 = 48 + v % 10 by omega]
        rw [el]
        simpa using a2
      · have el : digs v = [48 + v / 10 % 10, 48 + v / 1 % 10] := by
          unfold digs
          rw [if_neg (show ¬ v < 10 by omega), if_pos (show v < 100 by omega)]
          rw [show 48 + v / 10 % 10 = 48 + v / 10 by omega, show 48 + v / 1 % 10 = 48 + v % 10 by omega]
        rw [el]
        simpa using b2
      · exact (c1).trans c2
    · rcases Int.lt_or_le v 1000 with hc3 | hc3
      · show P y d mX7_putsNumber Q (0, 0) 2 [some (vR 84), some (vI v), some (vI 1)] [] N σ
        refine mn_h1 hv (by omega) (fun _ => ?_) (fun h9 => absurd h9 (by omega))
        rw [show (1 : Int) * 10 = 10 by omega]
        refine mn_h1 hv (by omega) (fun _ => ?_) (fun h9 => absurd h9 (by omega))
        rw [show (10 : Int) * 10 = 100 by omega]
        refine mn_h1 hv (by omega) (fun h9 => absurd h9 (by omega)) (fun _ => ?_)
        refine mn_h2 hL hR (by first | omega | (simp only [List.length_append, List.length_singleton]; omega)) hd hv (by omega) (fun σ1 f1 a1 b1 c1 => ?_)
        rw [show (100 : Int) / 10 = 10 by decide]
        refine mn_h2 a1 b1 (by first | omega | (simp only [List.length_append, List.length_singleton]; omega)) hd hv (by omega) (fun σ2 f2 a2 b2 c2 => ?_)
        rw [show (10 : Int) / 10 = 1 by decide]
        refine mn_h2 a2 b2 (by first | omega | (simp only [List.length_append, List.length_singleton]; omega)) hd hv (by omega) (fun σ3 f3 a3 b3 c3 => ?_)
        rw [show (1 : Int) / 10 = 0 by decide]
        refine mn_h3 (h σ3 f3 ?_ ?_ ?_)
        · have el : digs v = [48 + v / 100 % 10, 48 + v / 10 % 10, 48 + v / 1 % 10] := by
            unfold digs
            rw [if_neg (show ¬ v < 10 by omega), if_neg (show ¬ v < 100 by omega), if_pos (show v < 1000 by omega)]
            rw [show 48 + v / 100 % 10 = 48 + v / 100 by omega, show 48 + v / 1 % 10 = 48 + v % 10 by omega]
          rw [el]
          simpa using a3
        · have el : digs v = [48 + v / 100 % 10, 48 + v / 10 % 10, 48 + v / 1 % 10] := by
            unfold digs
            rw [if_neg (show ¬ v < 10 by omega), if_neg (show ¬ v < 100 by omega), if_pos (show v < 1000 by omega)]
            rw [show 48 + v / 100 % 10 = 48 + v / 100 by omega, show 48 + v / 1 % 10 = 48 + v % 10 by omega]
          rw [el]
          simpa using b3
        · exact ((c1).trans c2).trans c3
      · show P y d mX7_putsNumber Q (0, 0) 2 [some (vR 84), some (vI v), some (vI 1)] [] N σ
        refine mn_h1 hv (by omega) (fun _ => ?_) (fun h9 => absurd h9 (by omega))
        rw [show (1 : Int) * 10 = 10 by omega]
        refine mn_h1 hv (by omega) (fun _ => ?_) (fun h9 => absurd h9 (by omega))
        rw [show (10 : Int) * 10 = 100 by omega]
        refine mn_h1 hv (by omega) (fun _ => ?_) (fun h9 => absurd h9 (by omega))
        rw [show (100 : Int) * 10 = 1000 by omega]
        refine mn_h1 hv (by omega) (fun h9 => absurd h9 (by omega)) (fun _ => ?_)
        refine mn_h2 hL hR (by first | omega | (simp only [List.length_append, List.length_singleton]; omega)) hd hv (by omega) (fun σ1 f1 a1 b1 c1 => ?_)
        rw [show (1000 : Int) / 10 = 100 by decide]
        refine mn_h2 a1 b1 (by first | omega | (simp only [List.length_append, List.length_singleton]; omega)) hd hv (by omega) (fun σ2 f2 a2 b2 c2 => ?_)
        rw [show (100 : Int) / 10 = 10 by decide]
        refine mn_h2 a2 b2 (by first | omega | (simp only [List.length_append, List.length_singleton]; omega)) hd hv (by omega) (fun σ3 f3 a3 b3 c3 => ?_)
        rw [show (10 : Int) / 10 = 1 by decide]
        refine mn_h2 a3 b3 (by first | omega | (simp only [List.length_append, List.length_singleton]; omega)) hd hv (by omega) (fun σ4 f4 a4 b4 c4 => ?_)
        rw [show (1 : Int) / 10 = 0 by decide]
        refine mn_h3 (h σ4 f4 ?_ ?_ ?_)
        · have el : digs v = [48 + v / 1000 % 10, 48 + v / 100 % 10, 48 + v / 10 % 10, 48 + v / 1 % 10] := by
            unfold digs
            rw [if_neg (show ¬ v < 10 by omega), if_neg (show ¬ v < 100 by omega), if_neg (show ¬ v < 1000 by omega)]
            rw [show 48 + v / 1000 % 10 = 48 + v / 1000 by omega, show 48 + v / 1 % 10 = 48 + v % 10 by omega]
          rw [el]
          simpa using a4
        · have el : digs v = [48 + v / 1000 % 10, 48 + v / 100 % 10, 48 + v / 10 % 10, 48 + v / 1 % 10] := by
            unfold digs
            rw [if_neg (show ¬ v < 10 by omega), if_neg (show ¬ v < 100 by omega), if_neg (show ¬ v < 1000 by omega)]
            rw [show 48 + v / 1000 % 10 = 48 + v / 1000 by omega, show 48 + v / 1 % 10 = 48 + v % 10 by omega]
          rw [el]
          simpa using b4
        · exact (((c1).trans c2).trans c3).trans c4
