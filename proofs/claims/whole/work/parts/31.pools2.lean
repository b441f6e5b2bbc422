theorem lp_pof {x : CX} {d N : Nat} {σ : PH} {Q : PQ} {q : Nat} {p s pt pl : Int} {m : Nat} {fi si : Int → Int} (hq : σ q = fgO q p s m pt pl) (h3 : σ (q + 3) = pcI 0 8 fi) (h4 : σ (q + 4) = pcI 0 8 si) (hm : m ≤ 8) (hs1 : ∀ i : Int, 0 ≤ i → i < m → 1 ≤ si i) (hs2 : sumF si 0 m ≤ 8) (hfi : ∀ j : Nat, j < m → fi j = sumF si 0 j) {j : Nat} (hj : j < m) : ∀ (t : Nat) (k : Int) (pf : Int → Int) (σ' : PH), 0 ≤ k ∧ k ≤ si j → si j - k < t → σ' (q + 6) = pcI 0 8 pf → (∀ (j' : Nat) (k' : Int), j' < j → 0 ≤ k' → k' < si j' → pf (sumF si 0 j' + k') = j') → (∀ k' : Int, 0 ≤ k' → k' < k → pf (sumF si 0 j + k') = j) → Fr σ σ' [q + 6] → (∀ (σ2 : PH) (pf2 : Int → Int), σ2 (q + 6) = pcI 0 8 pf2 → (∀ (j' : Nat) (k' : Int), j' < j + 1 → 0 ≤ k' → k' < si j' → pf2 (sumF si 0 j' + k') = j') → Fr σ σ2 [q + 6] → P x d mX0_poolWanted Q (0, 0) 182 [some (vR q), some (vI j), none] [] N σ2) → P x d mX0_poolWanted Q (0, 0) 152 [some (vR q), some (vI j), some (vI k)] [] N σ' := by
  intro t
  induction t with
  | zero =>
    intro k pf σ' hk ht h6 hdn hcu hF kk
    exfalso; omega
  | succ t ih =>
    intro k pf σ' hk ht h6 hdn hcu hF kk
    have hq' : σ' q = fgO q p s m pt pl := (hF q (by simp)).trans hq
    have h3' : σ' (q + 3) = pcI 0 8 fi := (hF (q + 3) (by simp)).trans h3
    have h4' : σ' (q + 4) = pcI 0 8 si := (hF (q + 4) (by simp)).trans h4
    have hsb : 1 ≤ si j ∧ si j ≤ 8 := ⟨hs1 j (by omega) (by omega), by { have hmo := sumF_mono hs1 (j + 1) m (by omega) (by omega); have hsx : sumF si 0 (j + 1) = sumF si 0 j + si (0 + j) := rfl; rw [Int.zero_add] at hsx; have hm0 := sumF_mono hs1 0 j (by omega) (by omega); have hm00 : sumF si 0 0 = 0 := rfl; omega }⟩
    refine P.iload_n (dq dtX0_poolWanted_1 26 rfl) rfl ?_
    refine P.aload_n (dq dtX0_poolWanted_1 27 rfl) rfl ?_
    refine P.get flX0_31 (dq dtX0_poolWanted_1 28 rfl) (by repeat (first | assumption | exact up_s | rw [up_n (by first | assumption | (apply Ne.symm; assumption) | decide | omega)])) (by rfl) ?_
    refine P.iload_n (dq dtX0_poolWanted_1 29 rfl) rfl ?_
    refine P.iald (dq dtX0_poolWanted_1 30 rfl) (by repeat (first | assumption | exact up_s | rw [up_n (by first | assumption | (apply Ne.symm; assumption) | decide | omega)])) (by omega) (by omega) (by omega) ?_
    refine P.icmp_ge (t := 182) (dq dtX0_poolWanted_1 31 rfl) rfl (by omega) (by omega) (fun c_159 => ?_) (fun c_159 => ?_)
    · refine P.keep [0, 1] ?_
      refine kk σ' pf h6 (fun j' k' g1 g2 g3 => ?_) hF
      by_cases e : j' = j
      · subst e
        exact hcu k' g2 (by omega)
      · exact hdn j' k' (by omega) g2 g3
    · have hsj := hs1 j (by omega) (by omega)
      have hmo := sumF_mono hs1 (j + 1) m (by omega) (by omega)
      have hsx : sumF si 0 (j + 1) = sumF si 0 j + si (0 + j) := rfl
      rw [Int.zero_add] at hsx
      have hm0 := sumF_mono hs1 0 j (by omega) (by omega)
      have hm00 : sumF si 0 0 = 0 := rfl
      refine P.aload_n (dq dtX0_poolWanted_1 32 rfl) rfl ?_
      refine P.get flX0_37 (dq dtX0_poolWanted_1 33 rfl) (by repeat (first | assumption | exact up_s | rw [up_n (by first | assumption | (apply Ne.symm; assumption) | decide | omega)])) (by rfl) ?_
      refine P.aload_n (dq dtX0_poolWanted_1 34 rfl) rfl ?_
      refine P.get flX0_28 (dq dtX0_poolWanted_1 35 rfl) (by repeat (first | assumption | exact up_s | rw [up_n (by first | assumption | (apply Ne.symm; assumption) | decide | omega)])) (by rfl) ?_
      refine P.iload_n (dq dtX0_poolWanted_1 36 rfl) rfl ?_
      refine P.iald (dq dtX0_poolWanted_1 37 rfl) (by repeat (first | assumption | exact up_s | rw [up_n (by first | assumption | (apply Ne.symm; assumption) | decide | omega)])) (by omega) (by omega) (by omega) ?_
      rw [hfi j hj]
      refine P.iload_n (dq dtX0_poolWanted_1 38 rfl) rfl ?_
      refine P.iadd (dq dtX0_poolWanted_1 39 rfl) ?_
      refine P.iload_n (dq dtX0_poolWanted_1 40 rfl) rfl ?_
      refine P.iast (dq dtX0_poolWanted_1 41 rfl) (by repeat (first | assumption | exact up_s | rw [up_n (by first | assumption | (apply Ne.symm; assumption) | decide | omega)])) (by omega) (by omega) (by omega) ?_
      refine P.iinc (dq dtX0_poolWanted_1 42 rfl) rfl (by decide) rfl rfl ?_
      refine P.goto (t := 152) (dq dtX0_poolWanted_1 43 rfl) rfl ?_
      refine ih (k + 1) (upI pf (sumF si 0 j + k) j) _ (by omega) (by omega) (by repeat (first | assumption | exact up_s | rw [up_n (by first | assumption | (apply Ne.symm; assumption) | decide | omega)])) (fun j' k' g1 g2 g3 => ?_) (fun k' g2 g3 => ?_) (by repeat (first | assumption | exact Fr.rf | refine Fr.up ?_ (by simp))) kk
      · have q1 := sumF_mono hs1 (j' + 1) j (by omega) (by omega)
        have q2 : sumF si 0 (j' + 1) = sumF si 0 j' + si (0 + j') := rfl
        rw [Int.zero_add] at q2
        rw [upI_n (by omega)]
        exact hdn j' k' g1 g2 g3
      · by_cases e : k' = k
        · rw [e, upI_s]
        · rw [upI_n (by omega)]
          exact hcu k' g2 (by omega)
theorem lp_pof2 {x : CX} {d N : Nat} {σ : PH} {Q : PQ} {q : Nat} {p s pt pl : Int} {m : Nat} {fi si : Int → Int} (hq : σ q = fgO q p s m pt pl) (h3 : σ (q + 3) = pcI 0 8 fi) (h4 : σ (q + 4) = pcI 0 8 si) (hm : m ≤ 8) (hs1 : ∀ i : Int, 0 ≤ i → i < m → 1 ≤ si i) (hs2 : sumF si 0 m ≤ 8) (hfi : ∀ j : Nat, j < m → fi j = sumF si 0 j) (h : ∀ (σ2 : PH) (pf2 : Int → Int), σ2 (q + 6) = pcI 0 8 pf2 → PO pf2 si m → Fr σ σ2 [q + 6] → Q none σ2) : ∀ (t j : Nat) (pf : Int → Int) (σ' : PH), j ≤ m → m - j < t → σ' (q + 6) = pcI 0 8 pf → (∀ (j' : Nat) (k' : Int), j' < j → 0 ≤ k' → k' < si j' → pf (sumF si 0 j' + k') = j') → Fr σ σ' [q + 6] → P x d mX0_poolWanted Q (0, 0) 142 [some (vR q), some (vI j), none] [] N σ' := by
  intro t
  induction t with
  | zero =>
    intro j pf σ' hj ht h6 hdn hF
    exfalso; omega
  | succ t ih =>
    intro j pf σ' hj ht h6 hdn hF
    have hq' : σ' q = fgO q p s m pt pl := (hF q (by simp)).trans hq
    have hsb : j < m → 1 ≤ si j ∧ si j ≤ 8 := fun hjm => ⟨hs1 j (by omega) (by omega), by { have hmo := sumF_mono hs1 (j + 1) m (by omega) (by omega); have hsx : sumF si 0 (j + 1) = sumF si 0 j + si (0 + j) := rfl; rw [Int.zero_add] at hsx; have hm0 := sumF_mono hs1 0 j (by omega) (by omega); have hm00 : sumF si 0 0 = 0 := rfl; omega }⟩
    refine P.iload_n (dq dtX0_poolWanted_1 20 rfl) rfl ?_
    refine P.aload_n (dq dtX0_poolWanted_1 21 rfl) rfl ?_
    refine P.get flX0_25 (dq dtX0_poolWanted_1 22 rfl) (by repeat (first | assumption | exact up_s | rw [up_n (by first | assumption | (apply Ne.symm; assumption) | decide | omega)])) (by rfl) ?_
    refine P.icmp_ge (t := 188) (dq dtX0_poolWanted_1 23 rfl) rfl (by omega) (by omega) (fun c_147 => ?_) (fun c_147 => ?_)
    · refine P.vret (dq dtX0_poolWanted_1 46 rfl) rfl rfl rfl ?_
      obtain rfl : j = m := by omega
      exact h σ' pf h6 (fun j' k' g1 g2 g3 => hdn j' k' g1 g2 g3) hF
    · refine P.iconst (dq dtX0_poolWanted_1 24 rfl) ?_
      refine P.istore_n (dq dtX0_poolWanted_1 25 rfl) (by decide) rfl rfl ?_
      refine lp_pof hq h3 h4 hm hs1 hs2 hfi (by omega) 9 0 pf σ' (by have := hs1 j (by omega) (by omega); omega) (by omega) h6 hdn (fun k' g1 g2 => absurd g1 (by omega)) hF (fun σ2 pf2 q1 q2 q3 => ?_)
      refine P.iinc (dq dtX0_poolWanted_1 44 rfl) rfl (by decide) rfl rfl ?_
      refine P.goto (t := 142) (dq dtX0_poolWanted_1 45 rfl) rfl ?_
      exact ih (j + 1) pf2 σ2 (by omega) (by omega) q1 q2 q3
/-- Figures.poolWanted -/
theorem ct_X0_poolWanted {x : CM} {d N : Nat} {σ : PH} {Q : PQ} {q : Nat} {p s po pt pl : Int} {wa fi0 si0 to0 pf0 : Int → Int} (hq : σ q = fgO q p s po pt pl) (hp : 0 ≤ p ∧ p ≤ 8) (hd : 1 ≤ d) (hw : σ (q + 2) = pcI 0 8 wa) (h3 : σ (q + 3) = pcI 0 8 fi0) (h4 : σ (q + 4) = pcI 0 8 si0) (h5 : σ (q + 5) = pcI 0 8 to0) (h6 : σ (q + 6) = pcI 0 8 pf0) (hwb : ∀ i : Nat, (i : Int) < p → -90000 ≤ wa i ∧ wa i ≤ 90000) (h : ∀ (σ2 : PH) (fi2 si2 to2 pf2 : Int → Int), σ2 q = fgO q p s (pool wa p.toNat).length pt pl → σ2 (q + 3) = pcI 0 8 fi2 → σ2 (q + 4) = pcI 0 8 si2 → σ2 (q + 5) = pcI 0 8 to2 → σ2 (q + 6) = pcI 0 8 pf2 → Rl to2 si2 (pool wa p.toNat) → RF fi2 (pool wa p.toNat) → GB 90000 (pool wa p.toNat) → PO pf2 si2 (pool wa p.toNat).length → Fr σ σ2 [q, q + 3, q + 4, q + 5, q + 6] → Q none σ2) : Call x d 0 0 mX0_poolWanted [vR q] N σ Q := by
  refine Call.of mcX0_poolWanted (Nat.le_of_ble_eq_true rfl) (fun y hy => ?_)
  subst hy
  refine P.aload_n (dq dtX0_poolWanted_0 0 rfl) rfl ?_
  refine P.iconst (dq dtX0_poolWanted_0 1 rfl) ?_
  refine P.put flX0_25 rfl (dq dtX0_poolWanted_0 2 rfl) (by repeat (first | assumption | exact up_s | rw [up_n (by first | assumption | (apply Ne.symm; assumption) | decide | omega)])) (by exact Nat.le_of_ble_eq_true rfl) rfl rfl rfl rfl rfl ?_
  refine P.iconst (dq dtX0_poolWanted_0 3 rfl) ?_
  refine P.istore_n (dq dtX0_poolWanted_0 4 rfl) (by decide) rfl rfl ?_
  refine lp_pools (σ := σ) (s := s) (pt := pt) (pl := pl) hp hd hw hwb (fun σ2 fi2 si2 to2 q1 q2 q3 q4 q5 q6 q7 q8 => ?_) 9 0 _ fi0 si0 to0 (by omega) (by omega) up_s (by repeat (first | assumption | exact up_s | rw [up_n (by first | assumption | (apply Ne.symm; assumption) | decide | omega)])) (by repeat (first | assumption | exact up_s | rw [up_n (by first | assumption | (apply Ne.symm; assumption) | decide | omega)])) (by repeat (first | assumption | exact up_s | rw [up_n (by first | assumption | (apply Ne.symm; assumption) | decide | omega)])) trivial trivial (by repeat (first | assumption | exact Fr.rf | refine Fr.up ?_ (by simp)))
  have hs := Rl_sum _ q5
  rw [pool_szs] at hs
  have hlen := GB_len _ q7
  rw [pool_szs] at hlen
  have h6' : σ2 (q + 6) = pcI 0 8 pf0 := (q8 (q + 6) (by simp)).trans h6
  refine P.iconst (dq dtX0_poolWanted_1 18 rfl) ?_
  refine P.istore_n (dq dtX0_poolWanted_1 19 rfl) (by decide) rfl rfl ?_
  refine P.keep [0, 1] ?_
  exact lp_pof2 q1 q2 q3 (by omega) (fun i g1 g2 => (Rl_GB _ q5 q7 i g1 g2).1) (by omega) (RF_sum _ q5 q6) (fun σ3 pf3 z1 z2 z3 => h σ3 fi2 si2 to2 pf3 ((z3 q (by simp)).trans q1) ((z3 (q + 3) (by simp)).trans q2) ((z3 (q + 4) (by simp)).trans q3) ((z3 (q + 5) (by simp)).trans q4) z1 q5 q6 q7 z2 ((q8.wide (by simp)).trans (z3.wide (by simp)))) 9 0 pf0 σ2 (by omega) (by omega) h6' (fun j' k' g1 => absurd g1 (by omega)) Fr.rf
