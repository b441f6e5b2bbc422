theorem ct_max_r {x : CM} {d N : Nat} {σ : PH} {Q : PQ} {a c : Int} (ha : inR a) (hc : inR c) (hac : a ≤ c) (h : Q (some (vI c)) σ) : Call x d 0 0 mJ9_max_7cf53 [vI a, vI c] N σ Q := ct_max ha hc (fun h9 => by rw [show a = c by omega]; exact h) (fun _ => h)
theorem ct_max_l {x : CM} {d N : Nat} {σ : PH} {Q : PQ} {a c : Int} (ha : inR a) (hc : inR c) (hac : c ≤ a) (h : Q (some (vI a)) σ) : Call x d 0 0 mJ9_max_7cf53 [vI a, vI c] N σ Q := ct_max ha hc (fun _ => h) (fun h9 => absurd h9 (by omega))
theorem ct_min_l {x : CM} {d N : Nat} {σ : PH} {Q : PQ} {a c : Int} (ha : inR a) (hc : inR c) (hac : a ≤ c) (h : Q (some (vI a)) σ) : Call x d 0 0 mJ9_min_7cf53 [vI a, vI c] N σ Q := ct_min ha hc (fun _ => h) (fun h9 => absurd h9 (by omega))
theorem ct_min_r {x : CM} {d N : Nat} {σ : PH} {Q : PQ} {a c : Int} (ha : inR a) (hc : inR c) (hac : c ≤ a) (h : Q (some (vI c)) σ) : Call x d 0 0 mJ9_min_7cf53 [vI a, vI c] N σ Q := ct_min ha hc (fun h9 => by rw [show a = c by omega]; exact h) (fun _ => h)
theorem lp_begin {x : CX} {d N : Nat} {σ : PH} {Q : PQ} {q : Nat} {p s : Int} {er g0 : Int → Int} (hq : σ q = pcO 2 [vI p, vI s, vR (q + 1), vR (q + 2)]) {i j : Int} (h : ∀ σ' : PH, Fr σ σ' [q + 1] → σ' (q + 1) = pcI 0 16 (fun _ => 0) → Q none σ') : ∀ (t : Nat) (k : Int) (g : Int → Int) (σ' : PH), 0 ≤ k ∧ k ≤ 16 → 16 - k < t → σ' (q + 1) = pcI 0 16 g → (∀ u, 0 ≤ u → u < k → g u = 0) → Fr σ σ' [q + 1] → P x d mX2_begin Q (0, 0) 31 [some (vR q), some (vI i), some (vI j), some (vI k)] [] N σ' := by
  intro t
  induction t with
  | zero =>
    intro k g σ' hk hm h1 hg hF
    exfalso; omega
  | succ t ih =>
    intro k g σ' hk hm h1 hg hF
    have hq' : σ' q = pcO 2 [vI p, vI s, vR (q + 1), vR (q + 2)] := (hF q (by simp)).trans hq
    refine P.iload_n (dq dtX2_begin 16 rfl) rfl ?_
    refine P.aload_n (dq dtX2_begin 17 rfl) rfl ?_
    refine P.get flX2_18 (dq dtX2_begin 18 rfl) (by repeat (first | assumption | exact up_s | rw [up_n (by first | assumption | (apply Ne.symm; assumption) | decide | omega)])) (by rfl) ?_
    refine P.alen (dq dtX2_begin 19 rfl) (by repeat (first | assumption | exact up_s | rw [up_n (by first | assumption | (apply Ne.symm; assumption) | decide | omega)])) (by decide) ?_
    refine P.icmp_ge (t := 53) (dq dtX2_begin 20 rfl) rfl (by omega) (by omega) (fun c_37 => ?_) (fun c_37 => ?_)
    · refine P.ext (f' := fun _ => 0) h1 (fun u h5 h6 => (hg u h5 (by omega)).symm) ?_
      refine P.vret (dq dtX2_begin 28 rfl) rfl rfl rfl ?_
      exact h _ (hF.up (by simp)) up_s
    · refine P.aload_n (dq dtX2_begin 21 rfl) rfl ?_
      refine P.get flX2_18 (dq dtX2_begin 22 rfl) (by repeat (first | assumption | exact up_s | rw [up_n (by first | assumption | (apply Ne.symm; assumption) | decide | omega)])) (by rfl) ?_
      refine P.iload_n (dq dtX2_begin 23 rfl) rfl ?_
      refine P.iconst (dq dtX2_begin 24 rfl) ?_
      refine P.iast (dq dtX2_begin 25 rfl) (by repeat (first | assumption | exact up_s | rw [up_n (by first | assumption | (apply Ne.symm; assumption) | decide | omega)])) (by omega) (by omega) (by omega) ?_
      refine P.iinc (dq dtX2_begin 26 rfl) rfl (by decide) rfl rfl ?_
      refine P.goto (t := 31) (dq dtX2_begin 27 rfl) rfl ?_
      exact ih (k + 1) (upI g k 0) _ (by omega) (by omega) up_s (fun u h5 h6 => by { by_cases e : u = k; rw [e, upI_s]; rw [upI_n e]; exact hg u h5 (by omega) }) (hF.up (by simp))
/-- Measured.begin -/
theorem ct_X2_begin {x : CM} {d N : Nat} {σ : PH} {Q : PQ} {q : Nat} {v : MsV} (hM : Ms σ q v) (hd : 1 ≤ d) {i j : Int} (hi : 2 ≤ i ∧ i ≤ 8) (hj : 10 ≤ j ∧ j ≤ 99) (h : ∀ σ' : PH, Ms σ' q (i, j, (fun _ => 0), v.2.2.2) → Fr σ σ' [q, q + 1, q + 2] → Q none σ') : Call x d 0 0 mX2_begin [vR q, vI i, vI j] N σ Q := by
  refine Call.of mcX2_begin (Nat.le_of_ble_eq_true rfl) (fun y hy => ?_)
  subst hy
  obtain ⟨p, s, cn, er⟩ := v
  obtain ⟨hq, hc, he⟩ := hM
  dsimp only at hq hc he h
  have g1 : q + 1 ≠ q := by omega
  have g2 : q + 2 ≠ q := by omega
  refine P.aload_n (dq dtX2_begin 0 rfl) rfl ?_
  refine P.iconst (dq dtX2_begin 1 rfl) ?_
  refine P.iload_n (dq dtX2_begin 2 rfl) rfl ?_
  refine P.bipush (dq dtX2_begin 3 rfl) rfl ?_
  refine P.callS2 (M' := mJ9_min_7cf53) (d' := d - 1) mlX2_25 mcJ9_min_7cf53 msJ9_min_7cf53 (dq dtX2_begin 4 rfl) (by omega) (Nat.le_of_ble_eq_true rfl) ?_
  refine ct_min_l (by omega) (by omega) (by omega) ?_
  refine P.callS2 (M' := mJ9_max_7cf53) (d' := d - 1) mlX2_31 mcJ9_max_7cf53 msJ9_max_7cf53 (dq dtX2_begin 5 rfl) (by omega) (Nat.le_of_ble_eq_true rfl) ?_
  refine ct_max_r (by omega) (by omega) (by omega) ?_
  refine P.put flX2_9 rfl (dq dtX2_begin 6 rfl) (by repeat (first | assumption | exact up_s | rw [up_n (by first | assumption | (apply Ne.symm; assumption) | decide | omega)])) (by exact Nat.le_of_ble_eq_true rfl) rfl rfl rfl rfl rfl ?_
  refine P.aload_n (dq dtX2_begin 7 rfl) rfl ?_
  refine P.bipush (dq dtX2_begin 8 rfl) rfl ?_
  refine P.iload_n (dq dtX2_begin 9 rfl) rfl ?_
  refine P.bipush (dq dtX2_begin 10 rfl) rfl ?_
  refine P.callS2 (M' := mJ9_min_7cf53) (d' := d - 1) mlX2_25 mcJ9_min_7cf53 msJ9_min_7cf53 (dq dtX2_begin 11 rfl) (by omega) (Nat.le_of_ble_eq_true rfl) ?_
  refine ct_min_l (by omega) (by omega) (by omega) ?_
  refine P.callS2 (M' := mJ9_max_7cf53) (d' := d - 1) mlX2_31 mcJ9_max_7cf53 msJ9_max_7cf53 (dq dtX2_begin 12 rfl) (by omega) (Nat.le_of_ble_eq_true rfl) ?_
  refine ct_max_r (by omega) (by omega) (by omega) ?_
  refine P.put flX2_15 rfl (dq dtX2_begin 13 rfl) (by repeat (first | assumption | exact up_s | rw [up_n (by first | assumption | (apply Ne.symm; assumption) | decide | omega)])) (by exact Nat.le_of_ble_eq_true rfl) rfl rfl rfl rfl rfl ?_
  refine P.iconst (dq dtX2_begin 14 rfl) ?_
  refine P.istore_n (dq dtX2_begin 15 rfl) (by decide) rfl rfl ?_
  rw [up_up]
  refine lp_begin (σ := up σ q (pcO 2 _)) (g0 := cn) (er := er) up_s (fun σ' hF h1 => h σ' ⟨(hF q (by simp)).trans up_s, h1, ?_⟩ ?_) 17 0 cn _ (by omega) (by omega) (by repeat (first | assumption | exact up_s | rw [up_n (by first | assumption | (apply Ne.symm; assumption) | decide | omega)])) (fun u h5 h6 => absurd h5 (by omega)) Fr.rf
  · rw [hF (q + 2) (by simp), up_n g2]; exact he
  · exact (Fr.up Fr.rf (by simp)).trans (hF.wide (by simp))
theorem lp_meanOf {x : CX} {d N : Nat} {σ : PH} {Q : PQ} {q : Nat} {p s : Int} {cn er : Int → Int} (hq : σ q = pcO 2 [vI p, vI s, vR (q + 1), vR (q + 2)]) (hc : σ (q + 1) = pcI 0 16 cn) (he : σ (q + 2) = pcI 0 96 er) (hp : 0 ≤ p ∧ p ≤ 8) (hd : 2 ≤ d) {k w : Int} (hk : 0 ≤ k ∧ k < p) (hw : 0 ≤ w ∧ w < 2) (hcn : 0 ≤ cn (k * 2 + w) ∧ cn (k * 2 + w) ≤ 6) (h0 : cn (k * 2 + w) ≠ 0) (hb : ∀ j, 0 ≤ j ∧ j < cn (k * 2 + w) → -40 ≤ er ((k * 2 + w) * 6 + j) ∧ er ((k * 2 + w) * 6 + j) ≤ 40) (h : Q (some (vI ((sumF er ((k * 2 + w) * 6) (cn (k * 2 + w)).toNat * 60).tdiv (cn (k * 2 + w))))) σ) : ∀ (t j : Nat), (j : Int) ≤ cn (k * 2 + w) → cn (k * 2 + w) - j < t → P x d mX2_meanOf Q (0, 0) 19 [some (vR q), some (vI k), some (vI w), some (vI (cn (k * 2 + w))), some (vI (sumF er ((k * 2 + w) * 6) j)), some (vI j)] [] N σ := by
  intro t
  induction t with
  | zero =>
    intro j hj ht
    exfalso; omega
  | succ t ih =>
    intro j hj ht
    refine P.iload (dq dtX2_meanOf 13 rfl) rfl ?_
    refine P.iload_n (dq dtX2_meanOf 14 rfl) rfl ?_
    refine P.icmp_ge (t := 44) (dq dtX2_meanOf 15 rfl) rfl (by omega) (by omega) (fun c_22 => ?_) (fun c_22 => ?_)
    · obtain rfl : j = (cn (k * 2 + w)).toNat := by omega
      have hs := sumF_b (f := er) (a := (k * 2 + w) * 6) (c := 40) (by omega) (cn (k * 2 + w)).toNat (fun i hi => hb i (by omega))
      refine P.iload (dq dtX2_meanOf 26 rfl) rfl ?_
      refine P.bipush (dq dtX2_meanOf 27 rfl) rfl ?_
      refine P.imul (dq dtX2_meanOf 28 rfl) ?_
      refine P.iload_n (dq dtX2_meanOf 29 rfl) rfl ?_
      refine P.idiv (dq dtX2_meanOf 30 rfl) (by omega) (by omega) (by omega) ?_
      refine P.iret (dq dtX2_meanOf 31 rfl) rfl rfl rfl ?_
      exact h
    · refine P.iload (dq dtX2_meanOf 16 rfl) rfl ?_
      refine P.aload_n (dq dtX2_meanOf 17 rfl) rfl ?_
      refine P.iload_n (dq dtX2_meanOf 18 rfl) rfl ?_
      refine P.iload_n (dq dtX2_meanOf 19 rfl) rfl ?_
      refine P.iload (dq dtX2_meanOf 20 rfl) rfl ?_
      refine P.callV3 (M' := mX2_errAt) (d' := d - 1) mlX2_47 mcX2_errAt mvX2_errAt (dq dtX2_meanOf 21 rfl) (by omega) (Nat.le_of_ble_eq_true rfl) (by repeat (first | assumption | exact up_s | rw [up_n (by first | assumption | (apply Ne.symm; assumption) | decide | omega)])) rfl ?_
      refine ct_X2_errAt (by repeat (first | assumption | exact up_s | rw [up_n (by first | assumption | (apply Ne.symm; assumption) | decide | omega)])) (by omega) (by omega) (by repeat (first | assumption | exact up_s | rw [up_n (by first | assumption | (apply Ne.symm; assumption) | decide | omega)])) (by repeat (first | assumption | exact up_s | rw [up_n (by first | assumption | (apply Ne.symm; assumption) | decide | omega)])) (by omega) (by omega) (by omega) (fun _ => hcn) (fun n_32 => ?_) (fun n_32 => absurd (by omega) n_32)
      refine P.iadd (dq dtX2_meanOf 22 rfl) ?_
      refine P.istore (dq dtX2_meanOf 23 rfl) (by decide) rfl rfl ?_
      refine P.iinc (dq dtX2_meanOf 24 rfl) rfl (by decide) rfl rfl ?_
      refine P.goto (t := 19) (dq dtX2_meanOf 25 rfl) rfl ?_
      exact ih (j + 1) (by omega) (by omega)
/-- Measured.meanOf -/
theorem ct_X2_meanOf {x : CM} {d N : Nat} {σ : PH} {Q : PQ} {q : Nat} {v : MsV} (hM : Ms σ q v) (hp : 0 ≤ v.1 ∧ v.1 ≤ 8) (hd : 2 ≤ d) {k w : Int} (hk : 0 ≤ k ∧ k < v.1) (hw : 0 ≤ w ∧ w < 2) (hcn : 0 ≤ v.2.2.1 (k * 2 + w) ∧ v.2.2.1 (k * 2 + w) ≤ 6) (hb : ∀ j, 0 ≤ j ∧ j < v.2.2.1 (k * 2 + w) → -40 ≤ v.2.2.2 ((k * 2 + w) * 6 + j) ∧ v.2.2.2 ((k * 2 + w) * 6 + j) ≤ 40) (h : Q (some (vI (m60 v.2.2.1 v.2.2.2 (k * 2 + w)))) σ) : Call x d 0 0 mX2_meanOf [vR q, vI k, vI w] N σ Q := by
  refine Call.of mcX2_meanOf (Nat.le_of_ble_eq_true rfl) (fun y hy => ?_)
  subst hy
  obtain ⟨p, s, cn, er⟩ := v
  obtain ⟨hq, hc, he⟩ := hM
  dsimp only at hcn hb hq hc he hp hk h
  unfold m60 at h
  refine P.aload_n (dq dtX2_meanOf 0 rfl) rfl ?_
  refine P.iload_n (dq dtX2_meanOf 1 rfl) rfl ?_
  refine P.iload_n (dq dtX2_meanOf 2 rfl) rfl ?_
  refine P.callV2 (M' := mX2_countAt) (d' := d - 1) mlX2_44 mcX2_countAt mvX2_countAt (dq dtX2_meanOf 3 rfl) (by omega) (Nat.le_of_ble_eq_true rfl) (by repeat (first | assumption | exact up_s | rw [up_n (by first | assumption | (apply Ne.symm; assumption) | decide | omega)])) rfl ?_
  refine ct_X2_countAt (by repeat (first | assumption | exact up_s | rw [up_n (by first | assumption | (apply Ne.symm; assumption) | decide | omega)])) (by omega) (by omega) (by repeat (first | assumption | exact up_s | rw [up_n (by first | assumption | (apply Ne.symm; assumption) | decide | omega)])) (by omega) (by omega) (fun n_3 => ?_) (fun n_3 => absurd (by omega) n_3)
  refine P.istore_n (dq dtX2_meanOf 4 rfl) (by decide) rfl rfl ?_
  refine P.iload_n (dq dtX2_meanOf 5 rfl) rfl ?_
  refine P.if_ne (t := 13) (dq dtX2_meanOf 6 rfl) rfl (by omega) (fun c_8 => ?_) (fun c_8 => ?_)
  · refine P.iconst (dq dtX2_meanOf 9 rfl) ?_
    refine P.istore (dq dtX2_meanOf 10 rfl) (by decide) rfl rfl ?_
    refine P.iconst (dq dtX2_meanOf 11 rfl) ?_
    refine P.istore (dq dtX2_meanOf 12 rfl) (by decide) rfl rfl ?_
    rw [if_neg (show ¬ cn (k * 2 + w) = 0 by omega)] at h
    exact lp_meanOf hq hc he hp hd hk hw hcn (by omega) hb h 8 0 (by omega) (by omega)
  · refine P.iconst (dq dtX2_meanOf 7 rfl) ?_
    refine P.iret (dq dtX2_meanOf 8 rfl) rfl rfl rfl ?_
    rw [if_pos (show cn (k * 2 + w) = 0 by omega)] at h
    exact h
theorem lp_countOfAll {x : CX} {d N : Nat} {σ : PH} {Q : PQ} {q : Nat} {p s : Int} {cn : Int → Int} (hq : σ q = pcO 2 [vI p, vI s, vR (q + 1), vR (q + 2)]) (hc : σ (q + 1) = pcI 0 16 cn) (h : Q (some (vI (sumF cn 0 16))) σ) : ∀ (t j : Nat), j ≤ 16 → 16 - j < t → P x d mX2_countOfAll Q (0, 0) 4 [some (vR q), some (vI (sumF cn 0 j)), some (vI j)] [] N σ := by
  intro t
  induction t with
  | zero =>
    intro j hj ht
    exfalso; omega
  | succ t ih =>
    intro j hj ht
    refine P.iload_n (dq dtX2_countOfAll 4 rfl) rfl ?_
    refine P.aload_n (dq dtX2_countOfAll 5 rfl) rfl ?_
    refine P.get flX2_18 (dq dtX2_countOfAll 6 rfl) (by repeat (first | assumption | exact up_s | rw [up_n (by first | assumption | (apply Ne.symm; assumption) | decide | omega)])) (by rfl) ?_
    refine P.alen (dq dtX2_countOfAll 7 rfl) (by repeat (first | assumption | exact up_s | rw [up_n (by first | assumption | (apply Ne.symm; assumption) | decide | omega)])) (by decide) ?_
    refine P.icmp_ge (t := 28) (dq dtX2_countOfAll 8 rfl) rfl (by omega) (by omega) (fun c_10 => ?_) (fun c_10 => ?_)
    · refine P.iload_n (dq dtX2_countOfAll 18 rfl) rfl ?_
      refine P.iret (dq dtX2_countOfAll 19 rfl) rfl rfl rfl ?_
      obtain rfl : j = 16 := by omega
      exact h
    · refine P.iload_n (dq dtX2_countOfAll 9 rfl) rfl ?_
      refine P.aload_n (dq dtX2_countOfAll 10 rfl) rfl ?_
      refine P.get flX2_18 (dq dtX2_countOfAll 11 rfl) (by repeat (first | assumption | exact up_s | rw [up_n (by first | assumption | (apply Ne.symm; assumption) | decide | omega)])) (by rfl) ?_
      refine P.iload_n (dq dtX2_countOfAll 12 rfl) rfl ?_
      refine P.iald (dq dtX2_countOfAll 13 rfl) (by repeat (first | assumption | exact up_s | rw [up_n (by first | assumption | (apply Ne.symm; assumption) | decide | omega)])) (by omega) (by omega) (by omega) ?_
      refine P.iadd (dq dtX2_countOfAll 14 rfl) ?_
      refine P.istore_n (dq dtX2_countOfAll 15 rfl) (by decide) rfl rfl ?_
      refine P.iinc (dq dtX2_countOfAll 16 rfl) rfl (by decide) rfl rfl ?_
      refine P.goto (t := 4) (dq dtX2_countOfAll 17 rfl) rfl ?_
      rw [show sumF cn 0 j + cn j = sumF cn 0 (j + 1) by show _ = sumF cn 0 j + cn (0 + j); rw [Int.zero_add]]
      exact ih (j + 1) (by omega) (by omega)
/-- Measured.countOfAll -/
theorem ct_X2_countOfAll {x : CM} {d N : Nat} {σ : PH} {Q : PQ} {q : Nat} {v : MsV} (hM : Ms σ q v) (h : Q (some (vI (sumF v.2.2.1 0 16))) σ) : Call x d 0 0 mX2_countOfAll [vR q] N σ Q := by
  refine Call.of mcX2_countOfAll (Nat.le_of_ble_eq_true rfl) (fun y hy => ?_)
  subst hy
  obtain ⟨p, s, cn, er⟩ := v
  obtain ⟨hq, hc, he⟩ := hM
  dsimp only at hq hc he h
  refine P.iconst (dq dtX2_countOfAll 0 rfl) ?_
  refine P.istore_n (dq dtX2_countOfAll 1 rfl) (by decide) rfl rfl ?_
  refine P.iconst (dq dtX2_countOfAll 2 rfl) ?_
  refine P.istore_n (dq dtX2_countOfAll 3 rfl) (by decide) rfl rfl ?_
  exact lp_countOfAll hq hc h 17 0 (by omega) (by omega)
/-- Measured.copyFrom -/
theorem ct_X2_copyFrom {x : CM} {d N : Nat} {σ : PH} {Q : PQ} {q q2 : Nat} {v w : MsV} (hM : Ms σ q v) (hM2 : Ms σ q2 w) (hqq : q + 2 < q2 ∨ q2 + 2 < q) (hd : 1 ≤ d) (h : ∀ σ' : PH, Ms σ' q w → Fr σ σ' [q, q + 1, q + 2] → Q none σ') : Call x d 0 0 mX2_copyFrom [vR q, vR q2] N σ Q := by
  refine Call.of mcX2_copyFrom (Nat.le_of_ble_eq_true rfl) (fun y hy => ?_)
  subst hy
  obtain ⟨p, s, cn, er⟩ := v
  obtain ⟨p2, s2, cn2, er2⟩ := w
  obtain ⟨hq, hc, he⟩ := hM
  obtain ⟨hq2, hc2, he2⟩ := hM2
  dsimp only at hq hc he hq2 hc2 he2 h
  refine P.aload_n (dq dtX2_copyFrom 0 rfl) rfl ?_
  refine P.aload_n (dq dtX2_copyFrom 1 rfl) rfl ?_
  refine P.get flX2_9 (dq dtX2_copyFrom 2 rfl) (by repeat (first | assumption | exact up_s | rw [up_n (by first | assumption | (apply Ne.symm; assumption) | decide | omega)])) (by rfl) ?_
  refine P.put flX2_9 rfl (dq dtX2_copyFrom 3 rfl) (by repeat (first | assumption | exact up_s | rw [up_n (by first | assumption | (apply Ne.symm; assumption) | decide | omega)])) (by exact Nat.le_of_ble_eq_true rfl) rfl rfl rfl rfl rfl ?_
  refine P.aload_n (dq dtX2_copyFrom 4 rfl) rfl ?_
  refine P.aload_n (dq dtX2_copyFrom 5 rfl) rfl ?_
  refine P.get flX2_15 (dq dtX2_copyFrom 6 rfl) (by repeat (first | assumption | exact up_s | rw [up_n (by first | assumption | (apply Ne.symm; assumption) | decide | omega)])) (by rfl) ?_
  refine P.put flX2_15 rfl (dq dtX2_copyFrom 7 rfl) (by repeat (first | assumption | exact up_s | rw [up_n (by first | assumption | (apply Ne.symm; assumption) | decide | omega)])) (by exact Nat.le_of_ble_eq_true rfl) rfl rfl rfl rfl rfl ?_
  refine P.aload_n (dq dtX2_copyFrom 8 rfl) rfl ?_
  refine P.get flX2_18 (dq dtX2_copyFrom 9 rfl) (by repeat (first | assumption | exact up_s | rw [up_n (by first | assumption | (apply Ne.symm; assumption) | decide | omega)])) (by rfl) ?_
  refine P.iconst (dq dtX2_copyFrom 10 rfl) ?_
  refine P.aload_n (dq dtX2_copyFrom 11 rfl) rfl ?_
  refine P.get flX2_18 (dq dtX2_copyFrom 12 rfl) (by repeat (first | assumption | exact up_s | rw [up_n (by first | assumption | (apply Ne.symm; assumption) | decide | omega)])) (by rfl) ?_
  refine P.iconst (dq dtX2_copyFrom 13 rfl) ?_
  refine P.aload_n (dq dtX2_copyFrom 14 rfl) rfl ?_
  refine P.get flX2_18 (dq dtX2_copyFrom 15 rfl) (by repeat (first | assumption | exact up_s | rw [up_n (by first | assumption | (apply Ne.symm; assumption) | decide | omega)])) (by rfl) ?_
  refine P.alen (dq dtX2_copyFrom 16 rfl) (by repeat (first | assumption | exact up_s | rw [up_n (by first | assumption | (apply Ne.symm; assumption) | decide | omega)])) (by decide) ?_
  refine P.copyI (dq dtX2_copyFrom 17 rfl) mlX2_38 (by repeat (first | assumption | exact up_s | rw [up_n (by first | assumption | (apply Ne.symm; assumption) | decide | omega)])) (by repeat (first | assumption | exact up_s | rw [up_n (by first | assumption | (apply Ne.symm; assumption) | decide | omega)])) (by omega) (by omega) (by omega) (by omega) (by omega) (by omega) (by omega) (by omega) (Nat.le_of_ble_eq_true rfl) ?_
  refine P.ext (f' := cn2) up_s (fun u h5 h6 => by { unfold cpI; rw [if_pos (by omega)]; congr 1; omega }) ?_
  refine P.aload_n (dq dtX2_copyFrom 18 rfl) rfl ?_
  refine P.get flX2_22 (dq dtX2_copyFrom 19 rfl) (by repeat (first | assumption | exact up_s | rw [up_n (by first | assumption | (apply Ne.symm; assumption) | decide | omega)])) (by rfl) ?_
  refine P.iconst (dq dtX2_copyFrom 20 rfl) ?_
  refine P.aload_n (dq dtX2_copyFrom 21 rfl) rfl ?_
  refine P.get flX2_22 (dq dtX2_copyFrom 22 rfl) (by repeat (first | assumption | exact up_s | rw [up_n (by first | assumption | (apply Ne.symm; assumption) | decide | omega)])) (by rfl) ?_
  refine P.iconst (dq dtX2_copyFrom 23 rfl) ?_
  refine P.aload_n (dq dtX2_copyFrom 24 rfl) rfl ?_
  refine P.get flX2_22 (dq dtX2_copyFrom 25 rfl) (by repeat (first | assumption | exact up_s | rw [up_n (by first | assumption | (apply Ne.symm; assumption) | decide | omega)])) (by rfl) ?_
  refine P.alen (dq dtX2_copyFrom 26 rfl) (by repeat (first | assumption | exact up_s | rw [up_n (by first | assumption | (apply Ne.symm; assumption) | decide | omega)])) (by decide) ?_
  refine P.copyI (dq dtX2_copyFrom 27 rfl) mlX2_38 (by repeat (first | assumption | exact up_s | rw [up_n (by first | assumption | (apply Ne.symm; assumption) | decide | omega)])) (by repeat (first | assumption | exact up_s | rw [up_n (by first | assumption | (apply Ne.symm; assumption) | decide | omega)])) (by omega) (by omega) (by omega) (by omega) (by omega) (by omega) (by omega) (by omega) (Nat.le_of_ble_eq_true rfl) ?_
  refine P.ext (f' := er2) up_s (fun u h5 h6 => by { unfold cpI; rw [if_pos (by omega)]; congr 1; omega }) ?_
  refine P.vret (dq dtX2_copyFrom 28 rfl) rfl rfl rfl ?_
  exact h _ ⟨(by repeat (first | assumption | exact up_s | rw [up_n (by first | assumption | (apply Ne.symm; assumption) | decide | omega)])), (by repeat (first | assumption | exact up_s | rw [up_n (by first | assumption | (apply Ne.symm; assumption) | decide | omega)])), (by repeat (first | assumption | exact up_s | rw [up_n (by first | assumption | (apply Ne.symm; assumption) | decide | omega)]))⟩ (by repeat (first | assumption | exact Fr.rf | refine Fr.up ?_ (by simp)))
