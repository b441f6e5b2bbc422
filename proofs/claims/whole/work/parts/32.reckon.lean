def gF (to si pf : Int → Int) : Int → Int := fun k => near (to (pf k)) (120 * si (pf k))
def PB (to si pf : Int → Int) (p : Int) : Prop := ∀ i : Int, 0 ≤ i → i < p → (0 ≤ pf i ∧ pf i < 8) ∧ (1 ≤ si (pf i) ∧ si (pf i) ≤ 8) ∧ -(90000 * si (pf i)) ≤ to (pf i) ∧ to (pf i) ≤ 90000 * si (pf i)
theorem gF_b {to si pf : Int → Int} {p i : Int} (h : PB to si pf p) (h0 : 0 ≤ i) (h1 : i < p) : -751 ≤ gF to si pf i ∧ gF to si pf i ≤ 751 := by
  obtain ⟨q1, q2, q3, q4⟩ := h i h0 h1
  have := near_b (a := to (pf i)) (c := 120 * si (pf i)) (b := 750) (by omega) (by omega) (by omega) (by omega)
  unfold gF
  omega
theorem PB_of {to si fi pf : Int → Int} {l : List (Int × Int)} {p : Nat} (h1 : Rl to si l) (h2 : GB 90000 l) (h3 : PO pf si l.length) (h4 : szs l = p) (hp : p ≤ 8) : PB to si pf p := by
  have hlen := GB_len l h2
  have hs := Rl_sum l h1
  have hs1 : ∀ i : Int, 0 ≤ i → i < (l.length : Nat) → 1 ≤ si i := fun i g1 g2 => (Rl_GB l h1 h2 i g1 g2).1
  intro i g0 g1
  obtain ⟨j, q1, q2, q3⟩ := in_pool l.length hs1 i g0 (by omega)
  have e := PO_at h3 q1 q2 q3
  obtain ⟨b1, b2, b3⟩ := Rl_GB l h1 h2 j (by omega) (by omega)
  have hmo := sumF_mono hs1 (j + 1) l.length (by omega) (by omega)
  have hsx : sumF si 0 (j + 1) = sumF si 0 j + si (0 + j) := rfl
  rw [Int.zero_add] at hsx
  have hm0 := sumF_mono hs1 0 j (by omega) (by omega)
  have hm00 : sumF si 0 0 = 0 := rfl
  rw [e]
  omega
theorem lp_makeCounts {x : CX} {d N : Nat} {σ : PH} {Q : PQ} {q : Nat} {p s po pt pl : Int} {si to pf : Int → Int} (hq : σ q = fgO q p s po pt pl) (hp : 0 ≤ p ∧ p ≤ 8) (hd : 2 ≤ d) (h4 : σ (q + 4) = pcI 0 8 si) (h5 : σ (q + 5) = pcI 0 8 to) (h6 : σ (q + 6) = pcI 0 8 pf) (hb : PB to si pf p) (h : ∀ (σ2 : PH) (co : Int → Int), σ2 (q + 7) = pcI 0 8 co → (∀ i : Nat, (i : Int) < p → co i = tabF (gF to si pf) i) → Fr σ σ2 [q + 7] → Q none σ2) : ∀ (t k : Nat) (co : Int → Int) (σ' : PH), (k : Int) ≤ p → p - k < t → σ' (q + 7) = pcI 0 8 co → (∀ i : Nat, i < k → co i = tabF (gF to si pf) i) → Fr σ σ' [q + 7] → P x d mX0_makeCounts Q (0, 0) 2 [some (vR q), some (vI k), none] [] N σ' := by
  intro t
  induction t with
  | zero =>
    intro k co σ' hk ht h7 hco hF
    exfalso; omega
  | succ t ih =>
    intro k co σ' hk ht h7 hco hF
    have hq' : σ' q = fgO q p s po pt pl := (hF q (by simp)).trans hq
    have h4' : σ' (q + 4) = pcI 0 8 si := (hF (q + 4) (by simp)).trans h4
    have h5' : σ' (q + 5) = pcI 0 8 to := (hF (q + 5) (by simp)).trans h5
    have h6' : σ' (q + 6) = pcI 0 8 pf := (hF (q + 6) (by simp)).trans h6
    refine P.iload_n (dq dtX0_makeCounts 2 rfl) rfl ?_
    refine P.aload_n (dq dtX0_makeCounts 3 rfl) rfl ?_
    refine P.get flX0_9 (dq dtX0_makeCounts 4 rfl) (by repeat (first | assumption | exact up_s | rw [up_n (by first | assumption | (apply Ne.symm; assumption) | decide | omega)])) (by rfl) ?_
    refine P.icmp_ge (t := 61) (dq dtX0_makeCounts 5 rfl) rfl (by omega) (by omega) (fun c_7 => ?_) (fun c_7 => ?_)
    · refine P.vret (dq dtX0_makeCounts 36 rfl) rfl rfl rfl ?_
      exact h σ' co h7 (fun i g1 => hco i (by omega)) hF
    · obtain ⟨b1, b2, b3, b4⟩ := hb k (by omega) (by omega)
      have hgb := gF_b hb (i := k) (by omega) (by omega)
      refine P.aload_n (dq dtX0_makeCounts 6 rfl) rfl ?_
      refine P.iload_n (dq dtX0_makeCounts 7 rfl) rfl ?_
      refine P.callV1 (M' := mX0_poolTotalAt) (d' := d - 1) mlX0_92 mcX0_poolTotalAt mvX0_poolTotalAt (dq dtX0_makeCounts 8 rfl) (by omega) (Nat.le_of_ble_eq_true rfl) (by repeat (first | assumption | exact up_s | rw [up_n (by first | assumption | (apply Ne.symm; assumption) | decide | omega)])) rfl ?_
      refine ct_X0_poolTotalAt (by repeat (first | assumption | exact up_s | rw [up_n (by first | assumption | (apply Ne.symm; assumption) | decide | omega)])) (by omega) (by omega) (by repeat (first | assumption | exact up_s | rw [up_n (by first | assumption | (apply Ne.symm; assumption) | decide | omega)])) (by repeat (first | assumption | exact up_s | rw [up_n (by first | assumption | (apply Ne.symm; assumption) | decide | omega)])) (by omega) (by omega) ?_
      refine P.bipush (dq dtX0_makeCounts 9 rfl) rfl ?_
      refine P.aload_n (dq dtX0_makeCounts 10 rfl) rfl ?_
      refine P.iload_n (dq dtX0_makeCounts 11 rfl) rfl ?_
      refine P.callV1 (M' := mX0_poolSizeAt) (d' := d - 1) mlX0_95 mcX0_poolSizeAt mvX0_poolSizeAt (dq dtX0_makeCounts 12 rfl) (by omega) (Nat.le_of_ble_eq_true rfl) (by repeat (first | assumption | exact up_s | rw [up_n (by first | assumption | (apply Ne.symm; assumption) | decide | omega)])) rfl ?_
      refine ct_X0_poolSizeAt (by repeat (first | assumption | exact up_s | rw [up_n (by first | assumption | (apply Ne.symm; assumption) | decide | omega)])) (by omega) (by omega) (by repeat (first | assumption | exact up_s | rw [up_n (by first | assumption | (apply Ne.symm; assumption) | decide | omega)])) (by repeat (first | assumption | exact up_s | rw [up_n (by first | assumption | (apply Ne.symm; assumption) | decide | omega)])) (by omega) (by omega) ?_
      refine P.imul (dq dtX0_makeCounts 13 rfl) ?_
      refine P.callSN2 (M' := mX6_nearestLesser) (d' := d - 1) nlX0_85 mcX6_nearestLesser msX6_nearestLesser (dq dtX0_makeCounts 14 rfl) (by omega) (Nat.le_of_ble_eq_true rfl) ?_
      refine ct_X6_nearestLesser (by omega) (by omega) (by omega) ?_
      rw [show near (to (pf k)) (120 * si (pf k)) = gF to si pf k from rfl]
      refine P.istore_n (dq dtX0_makeCounts 15 rfl) (by decide) rfl rfl ?_
      refine P.aload_n (dq dtX0_makeCounts 16 rfl) rfl ?_
      refine P.get flX0_40 (dq dtX0_makeCounts 17 rfl) (by repeat (first | assumption | exact up_s | rw [up_n (by first | assumption | (apply Ne.symm; assumption) | decide | omega)])) (by rfl) ?_
      refine P.iload_n (dq dtX0_makeCounts 18 rfl) rfl ?_
      refine P.iload_n (dq dtX0_makeCounts 19 rfl) rfl ?_
      refine P.if_ne (t := 40) (dq dtX0_makeCounts 20 rfl) rfl (by omega) (fun c_33 => ?_) (fun c_33 => ?_)
      · obtain ⟨u, rfl⟩ : ∃ u, k = u + 1 := ⟨k - 1, by omega⟩
        have hc1 := hco u (by omega)
        have hcb := tabF_b (g := gF to si pf) (lo := -751) (hi := 751) u (fun i hi => gF_b hb (by omega) (by omega))
        refine P.iload_n (dq dtX0_makeCounts 23 rfl) rfl ?_
        refine P.aload_n (dq dtX0_makeCounts 24 rfl) rfl ?_
        refine P.get flX0_40 (dq dtX0_makeCounts 25 rfl) (by repeat (first | assumption | exact up_s | rw [up_n (by first | assumption | (apply Ne.symm; assumption) | decide | omega)])) (by rfl) ?_
        refine P.iload_n (dq dtX0_makeCounts 26 rfl) rfl ?_
        refine P.iconst (dq dtX0_makeCounts 27 rfl) ?_
        refine P.isub (dq dtX0_makeCounts 28 rfl) ?_
        refine P.iald (dq dtX0_makeCounts 29 rfl) (by repeat (first | assumption | exact up_s | rw [up_n (by first | assumption | (apply Ne.symm; assumption) | decide | omega)])) (by omega) (by omega) (by omega) ?_
        rw [show ((u + 1 : Nat) : Int) - 1 = (u : Int) by omega, hc1]
        refine P.iconst (dq dtX0_makeCounts 30 rfl) ?_
        refine P.iadd (dq dtX0_makeCounts 31 rfl) ?_
        refine P.callS2 (M' := mJ9_max_7cf53) (d' := d - 1) mlX0_58 mcJ9_max_7cf53 msJ9_max_7cf53 (dq dtX0_makeCounts 32 rfl) (by omega) (Nat.le_of_ble_eq_true rfl) ?_
        refine ct_max (by omega) (by omega) (fun n_51 => ?_) (fun n_51 => ?_)
        · refine P.iast (dq dtX0_makeCounts 33 rfl) (by repeat (first | assumption | exact up_s | rw [up_n (by first | assumption | (apply Ne.symm; assumption) | decide | omega)])) (by omega) (by omega) (by omega) ?_
          refine P.iinc (dq dtX0_makeCounts 34 rfl) rfl (by decide) rfl rfl ?_
          refine P.goto (t := 2) (dq dtX0_makeCounts 35 rfl) rfl ?_
          first | (refine P.keep [0, 1] ?_; refine ih (k + 1) (upI co k (gF to si pf k)) _ (by omega) (by omega) (by repeat (first | assumption | exact up_s | rw [up_n (by first | assumption | (apply Ne.symm; assumption) | decide | omega)])) (fun i g1 => ?_) (by repeat (first | assumption | exact Fr.rf | refine Fr.up ?_ (by simp))); obtain rfl : k = 0 := (by omega); obtain rfl : i = 0 := (by omega); exact upI_s) | (refine P.keep [0, 1] ?_; refine ih (u + 1 + 1) (upI co ((u + 1 : Nat) : Int) (gF to si pf ((u + 1 : Nat) : Int))) _ (by omega) (by omega) (by repeat (first | assumption | exact up_s | rw [up_n (by first | assumption | (apply Ne.symm; assumption) | decide | omega)])) (fun i g1 => ?_) (by repeat (first | assumption | exact Fr.rf | refine Fr.up ?_ (by simp))); by_cases e : i = u + 1; (subst e; rw [upI_s]; exact (if_neg (by omega)).symm); (rw [upI_n (by omega)]; exact hco i (by omega))) | (refine P.keep [0, 1] ?_; refine ih (u + 1 + 1) (upI co ((u + 1 : Nat) : Int) (tabF (gF to si pf) u + 1)) _ (by omega) (by omega) (by repeat (first | assumption | exact up_s | rw [up_n (by first | assumption | (apply Ne.symm; assumption) | decide | omega)])) (fun i g1 => ?_) (by repeat (first | assumption | exact Fr.rf | refine Fr.up ?_ (by simp))); by_cases e : i = u + 1; (subst e; rw [upI_s]; exact (if_pos (by omega)).symm); (rw [upI_n (by omega)]; exact hco i (by omega)))
        · refine P.iast (dq dtX0_makeCounts 33 rfl) (by repeat (first | assumption | exact up_s | rw [up_n (by first | assumption | (apply Ne.symm; assumption) | decide | omega)])) (by omega) (by omega) (by omega) ?_
          refine P.iinc (dq dtX0_makeCounts 34 rfl) rfl (by decide) rfl rfl ?_
          refine P.goto (t := 2) (dq dtX0_makeCounts 35 rfl) rfl ?_
          first | (refine P.keep [0, 1] ?_; refine ih (k + 1) (upI co k (gF to si pf k)) _ (by omega) (by omega) (by repeat (first | assumption | exact up_s | rw [up_n (by first | assumption | (apply Ne.symm; assumption) | decide | omega)])) (fun i g1 => ?_) (by repeat (first | assumption | exact Fr.rf | refine Fr.up ?_ (by simp))); obtain rfl : k = 0 := (by omega); obtain rfl : i = 0 := (by omega); exact upI_s) | (refine P.keep [0, 1] ?_; refine ih (u + 1 + 1) (upI co ((u + 1 : Nat) : Int) (gF to si pf ((u + 1 : Nat) : Int))) _ (by omega) (by omega) (by repeat (first | assumption | exact up_s | rw [up_n (by first | assumption | (apply Ne.symm; assumption) | decide | omega)])) (fun i g1 => ?_) (by repeat (first | assumption | exact Fr.rf | refine Fr.up ?_ (by simp))); by_cases e : i = u + 1; (subst e; rw [upI_s]; exact (if_neg (by omega)).symm); (rw [upI_n (by omega)]; exact hco i (by omega))) | (refine P.keep [0, 1] ?_; refine ih (u + 1 + 1) (upI co ((u + 1 : Nat) : Int) (tabF (gF to si pf) u + 1)) _ (by omega) (by omega) (by repeat (first | assumption | exact up_s | rw [up_n (by first | assumption | (apply Ne.symm; assumption) | decide | omega)])) (fun i g1 => ?_) (by repeat (first | assumption | exact Fr.rf | refine Fr.up ?_ (by simp))); by_cases e : i = u + 1; (subst e; rw [upI_s]; exact (if_pos (by omega)).symm); (rw [upI_n (by omega)]; exact hco i (by omega)))
      · refine P.iload_n (dq dtX0_makeCounts 21 rfl) rfl ?_
        refine P.goto (t := 54) (dq dtX0_makeCounts 22 rfl) rfl ?_
        refine P.iast (dq dtX0_makeCounts 33 rfl) (by repeat (first | assumption | exact up_s | rw [up_n (by first | assumption | (apply Ne.symm; assumption) | decide | omega)])) (by omega) (by omega) (by omega) ?_
        refine P.iinc (dq dtX0_makeCounts 34 rfl) rfl (by decide) rfl rfl ?_
        refine P.goto (t := 2) (dq dtX0_makeCounts 35 rfl) rfl ?_
        first | (refine P.keep [0, 1] ?_; refine ih (k + 1) (upI co k (gF to si pf k)) _ (by omega) (by omega) (by repeat (first | assumption | exact up_s | rw [up_n (by first | assumption | (apply Ne.symm; assumption) | decide | omega)])) (fun i g1 => ?_) (by repeat (first | assumption | exact Fr.rf | refine Fr.up ?_ (by simp))); obtain rfl : k = 0 := (by omega); obtain rfl : i = 0 := (by omega); exact upI_s) | (refine P.keep [0, 1] ?_; refine ih (u + 1 + 1) (upI co ((u + 1 : Nat) : Int) (gF to si pf ((u + 1 : Nat) : Int))) _ (by omega) (by omega) (by repeat (first | assumption | exact up_s | rw [up_n (by first | assumption | (apply Ne.symm; assumption) | decide | omega)])) (fun i g1 => ?_) (by repeat (first | assumption | exact Fr.rf | refine Fr.up ?_ (by simp))); by_cases e : i = u + 1; (subst e; rw [upI_s]; exact (if_neg (by omega)).symm); (rw [upI_n (by omega)]; exact hco i (by omega))) | (refine P.keep [0, 1] ?_; refine ih (u + 1 + 1) (upI co ((u + 1 : Nat) : Int) (tabF (gF to si pf) u + 1)) _ (by omega) (by omega) (by repeat (first | assumption | exact up_s | rw [up_n (by first | assumption | (apply Ne.symm; assumption) | decide | omega)])) (fun i g1 => ?_) (by repeat (first | assumption | exact Fr.rf | refine Fr.up ?_ (by simp))); by_cases e : i = u + 1; (subst e; rw [upI_s]; exact (if_pos (by omega)).symm); (rw [upI_n (by omega)]; exact hco i (by omega)))
/-- Figures.makeCounts -/
theorem ct_X0_makeCounts {x : CM} {d N : Nat} {σ : PH} {Q : PQ} {q : Nat} {p s po pt pl : Int} {si to pf co0 : Int → Int} (hq : σ q = fgO q p s po pt pl) (hp : 0 ≤ p ∧ p ≤ 8) (hd : 2 ≤ d) (h4 : σ (q + 4) = pcI 0 8 si) (h5 : σ (q + 5) = pcI 0 8 to) (h6 : σ (q + 6) = pcI 0 8 pf) (h7 : σ (q + 7) = pcI 0 8 co0) (hb : PB to si pf p) (h : ∀ (σ2 : PH) (co : Int → Int), σ2 (q + 7) = pcI 0 8 co → (∀ i : Nat, (i : Int) < p → co i = tabF (gF to si pf) i) → Fr σ σ2 [q + 7] → Q none σ2) : Call x d 0 0 mX0_makeCounts [vR q] N σ Q := by
  refine Call.of mcX0_makeCounts (Nat.le_of_ble_eq_true rfl) (fun y hy => ?_)
  subst hy
  refine P.iconst (dq dtX0_makeCounts 0 rfl) ?_
  refine P.istore_n (dq dtX0_makeCounts 1 rfl) (by decide) rfl rfl ?_
  exact lp_makeCounts hq hp hd h4 h5 h6 hb h 9 0 co0 σ (by omega) (by omega) h7 (fun i g1 => absurd g1 (by omega)) Fr.rf
/-- the pools of what is measured -/
def pls (v : MsV) : List (Int × Int) := pool (wnt v) v.1.toNat
/-- Figures at q, reckoned from v: means, wanted, pools' first, size, sum, the pool of each, the table -/
abbrev FgV : Type := (Int → Int) × (Int → Int) × (Int → Int) × (Int → Int) × (Int → Int) × (Int → Int) × (Int → Int)
def FgR (v : MsV) (F : FgV) : Prop := (∀ i : Int, 0 ≤ i → i < 2 * v.1 → F.1 i = mm v i) ∧ (∀ i : Int, 0 ≤ i → i < v.1 → F.2.1 i = wnt v i) ∧ RF F.2.2.1 (pls v) ∧ Rl F.2.2.2.2.1 F.2.2.2.1 (pls v) ∧ PO F.2.2.2.2.2.1 F.2.2.2.1 (pls v).length ∧ (∀ i : Nat, (i : Int) < v.1 → F.2.2.2.2.2.2 i = tabF (gF F.2.2.2.2.1 F.2.2.2.1 F.2.2.2.2.2.1) i)
def plp (v : MsV) : Int := plT (mm v) v.1.toNat
def Fg (σ : PH) (q : Nat) (v : MsV) (F : FgV) : Prop := σ q = fgO q v.1 v.2.1 (pls v).length (plp v) (plc v.1 (plp v)) ∧ σ (q + 1) = pcI 0 16 F.1 ∧ σ (q + 2) = pcI 0 8 F.2.1 ∧ σ (q + 3) = pcI 0 8 F.2.2.1 ∧ σ (q + 4) = pcI 0 8 F.2.2.2.1 ∧ σ (q + 5) = pcI 0 8 F.2.2.2.2.1 ∧ σ (q + 6) = pcI 0 8 F.2.2.2.2.2.1 ∧ σ (q + 7) = pcI 0 8 F.2.2.2.2.2.2 ∧ FgR v F
/-- Figures at q, whatever they hold -/
def Fg0 (σ : PH) (q : Nat) : Prop := ∃ (p s po pt pl : Int) (F : FgV), σ q = fgO q p s po pt pl ∧ σ (q + 1) = pcI 0 16 F.1 ∧ σ (q + 2) = pcI 0 8 F.2.1 ∧ σ (q + 3) = pcI 0 8 F.2.2.1 ∧ σ (q + 4) = pcI 0 8 F.2.2.2.1 ∧ σ (q + 5) = pcI 0 8 F.2.2.2.2.1 ∧ σ (q + 6) = pcI 0 8 F.2.2.2.2.2.1 ∧ σ (q + 7) = pcI 0 8 F.2.2.2.2.2.2
theorem Fg.any {σ : PH} {q : Nat} {v : MsV} {F : FgV} (h : Fg σ q v F) : Fg0 σ q := ⟨_, _, _, _, _, F, h.1, h.2.1, h.2.2.1, h.2.2.2.1, h.2.2.2.2.1, h.2.2.2.2.2.1, h.2.2.2.2.2.2.1, h.2.2.2.2.2.2.2.1⟩
theorem pls_GB {v : MsV} (h : GMs v) : GB 90000 (pls v) := pool_GB _ (fun i hi => wnt_b h (by omega) (by have := h.1; omega))
theorem pls_sz {v : MsV} (h : GMs v) : szs (pls v) = v.1 := by
  unfold pls
  rw [pool_szs]
  have := h.1
  omega
theorem FgR.pb {v : MsV} {F : FgV} (hG : GMs v) (h : FgR v F) : PB F.2.2.2.2.1 F.2.2.2.1 F.2.2.2.2.2.1 v.1 := by
  have hv := hG.1
  have := PB_of (fi := F.1) (p := v.1.toNat) h.2.2.2.1 (pls_GB hG) h.2.2.2.2.1 (by rw [pls_sz hG]; omega) (by omega)
  rwa [show ((v.1.toNat : Nat) : Int) = v.1 by omega] at this
/-- Figures.reckon -/
theorem ct_X0_reckon {x : CM} {d N : Nat} {σ : PH} {Q : PQ} {q mq : Nat} {v : MsV} (hG : GMs v) (hM : Ms σ mq v) (h0 : Fg0 σ q) (hmq : mq + 2 < q ∨ q + 7 < mq) (hd : 4 ≤ d) (h : ∀ (σ2 : PH) (F : FgV), Fg σ2 q v F → Fr σ σ2 [q, q + 1, q + 2, q + 3, q + 4, q + 5, q + 6, q + 7] → Q none σ2) : Call x d 0 0 mX0_reckon [vR q, vR mq] N σ Q := by
  refine Call.of mcX0_reckon (Nat.le_of_ble_eq_true rfl) (fun y hy => ?_)
  subst hy
  obtain ⟨p, s, po, pt, pl, F, hq, h1, h2, h3, h4, h5, h6, h7⟩ := h0
  have hv1 := hG.1
  have hv2 := hG.2.1
  have hMq := hM.1
  have hne : mq ≠ q := by omega
  refine P.aload_n (dq dtX0_reckon 0 rfl) rfl ?_
  refine P.iconst (dq dtX0_reckon 1 rfl) ?_
  refine P.aload_n (dq dtX0_reckon 2 rfl) rfl ?_
  refine P.get flX0_49 (dq dtX0_reckon 3 rfl) (by repeat (first | assumption | exact up_s | rw [up_n (by first | assumption | (apply Ne.symm; assumption) | decide | omega)])) (by rfl) ?_
  refine P.bipush (dq dtX0_reckon 4 rfl) rfl ?_
  refine P.callS2 (M' := mJ9_min_7cf53) (d' := d - 1) mlX0_52 mcJ9_min_7cf53 msJ9_min_7cf53 (dq dtX0_reckon 5 rfl) (by omega) (Nat.le_of_ble_eq_true rfl) ?_
  refine ct_min_l (by omega) (by omega) (by omega) ?_
  refine P.callS2 (M' := mJ9_max_7cf53) (d' := d - 1) mlX0_58 mcJ9_max_7cf53 msJ9_max_7cf53 (dq dtX0_reckon 6 rfl) (by omega) (Nat.le_of_ble_eq_true rfl) ?_
  refine ct_max_r (by omega) (by omega) (by omega) ?_
  refine P.put flX0_9 rfl (dq dtX0_reckon 7 rfl) (by repeat (first | assumption | exact up_s | rw [up_n (by first | assumption | (apply Ne.symm; assumption) | decide | omega)])) (by exact Nat.le_of_ble_eq_true rfl) rfl rfl rfl rfl rfl ?_
  refine P.aload_n (dq dtX0_reckon 8 rfl) rfl ?_
  refine P.bipush (dq dtX0_reckon 9 rfl) rfl ?_
  refine P.aload_n (dq dtX0_reckon 10 rfl) rfl ?_
  refine P.get flX0_61 (dq dtX0_reckon 11 rfl) (by repeat (first | assumption | exact up_s | rw [up_n (by first | assumption | (apply Ne.symm; assumption) | decide | omega)])) (by rfl) ?_
  refine P.callS2 (M' := mJ9_max_7cf53) (d' := d - 1) mlX0_58 mcJ9_max_7cf53 msJ9_max_7cf53 (dq dtX0_reckon 12 rfl) (by omega) (Nat.le_of_ble_eq_true rfl) ?_
  refine ct_max_r (by omega) (by omega) (by omega) ?_
  refine P.put flX0_15 rfl (dq dtX0_reckon 13 rfl) (by repeat (first | assumption | exact up_s | rw [up_n (by first | assumption | (apply Ne.symm; assumption) | decide | omega)])) (by exact Nat.le_of_ble_eq_true rfl) rfl rfl rfl rfl rfl ?_
  rw [up_up]
  refine P.aload_n (dq dtX0_reckon 14 rfl) rfl ?_
  refine P.aload_n (dq dtX0_reckon 15 rfl) rfl ?_
  refine P.callV1 (M' := mX0_takeMeans) (d' := d - 1) mlX0_62 mcX0_takeMeans mvX0_takeMeans (dq dtX0_reckon 16 rfl) (by omega) (Nat.le_of_ble_eq_true rfl) (by repeat (first | assumption | exact up_s | rw [up_n (by first | assumption | (apply Ne.symm; assumption) | decide | omega)])) rfl ?_
  refine ct_X0_takeMeans (v := v) (po := po) (pt := pt) (pl := pl) (me0 := F.1) (wa0 := F.2.1) hG hmq (by omega) up_s (hM.fr (S := [q]) (by repeat (first | assumption | exact Fr.rf | refine Fr.up ?_ (by simp))) (by simp <;> omega) (by simp <;> omega) (by simp <;> omega)) (by repeat (first | assumption | exact up_s | rw [up_n (by first | assumption | (apply Ne.symm; assumption) | decide | omega)])) (by repeat (first | assumption | exact up_s | rw [up_n (by first | assumption | (apply Ne.symm; assumption) | decide | omega)])) (fun σ1 me wa a1 a2 a3 a4 a5 => ?_)
  have hq1 : σ1 q = fgO q v.1 v.2.1 po pt pl := (a5 q (by simp)).trans up_s
  refine P.aload_n (dq dtX0_reckon 17 rfl) rfl ?_
  refine P.callV0 (M' := mX0_takePlay) (d' := d - 1) mlX0_66 mcX0_takePlay mvX0_takePlay (dq dtX0_reckon 18 rfl) (by omega) (Nat.le_of_ble_eq_true rfl) (by repeat (first | assumption | exact up_s | rw [up_n (by first | assumption | (apply Ne.symm; assumption) | decide | omega)])) rfl ?_
  refine ct_X0_takePlay hq1 (by omega) (by omega) a1 (fun t g1 g2 => by rw [a3 t g1 g2]; exact mm_b hG g1 (by omega)) (fun σ2 b1 b2 => ?_)
  have eT : plT me v.1.toNat = plp v := plT_c _ (fun t g1 g2 => a3 t g1 (by omega))
  rw [eT] at b1
  refine P.aload_n (dq dtX0_reckon 19 rfl) rfl ?_
  refine P.callV0 (M' := mX0_poolWanted) (d' := d - 1) mlX0_69 mcX0_poolWanted mvX0_poolWanted (dq dtX0_reckon 20 rfl) (by omega) (Nat.le_of_ble_eq_true rfl) (by repeat (first | assumption | exact up_s | rw [up_n (by first | assumption | (apply Ne.symm; assumption) | decide | omega)])) rfl ?_
  refine ct_X0_poolWanted (wa := wa) (fi0 := F.2.2.1) (si0 := F.2.2.2.1) (to0 := F.2.2.2.2.1) (pf0 := F.2.2.2.2.2.1) b1 (by omega) (by omega) ((b2 (q + 2) (by simp)).trans a2) ((b2 (q + 3) (by simp)).trans ((a5 (q + 3) (by simp)).trans ((up_n (by omega)).trans h3))) ((b2 (q + 4) (by simp)).trans ((a5 (q + 4) (by simp)).trans ((up_n (by omega)).trans h4))) ((b2 (q + 5) (by simp)).trans ((a5 (q + 5) (by simp)).trans ((up_n (by omega)).trans h5))) ((b2 (q + 6) (by simp)).trans ((a5 (q + 6) (by simp)).trans ((up_n (by omega)).trans h6))) (fun i hi => by rw [a4 i (by omega) hi]; exact wnt_b hG (by omega) (by omega)) (fun σ3 fi si to pf c1 c2 c3 c4 c5 c6 c7 c8 c9 c10 => ?_)
  have eP : pool wa v.1.toNat = pls v := pool_c _ (fun i hi => a4 i (by omega) (by omega))
  rw [eP] at c1 c6 c7 c8 c9
  have hPB := PB_of (fi := fi) (p := v.1.toNat) c6 c8 c9 (by rw [pls_sz hG]; omega) (by omega)
  rw [show ((v.1.toNat : Nat) : Int) = v.1 by omega] at hPB
  refine P.aload_n (dq dtX0_reckon 21 rfl) rfl ?_
  refine P.callV0 (M' := mX0_makeCounts) (d' := d - 1) mlX0_72 mcX0_makeCounts mvX0_makeCounts (dq dtX0_reckon 22 rfl) (by omega) (Nat.le_of_ble_eq_true rfl) (by repeat (first | assumption | exact up_s | rw [up_n (by first | assumption | (apply Ne.symm; assumption) | decide | omega)])) rfl ?_
  refine ct_X0_makeCounts (co0 := F.2.2.2.2.2.2) c1 (by omega) (by omega) c3 c4 c5 ((c10 (q + 7) (by simp)).trans ((b2 (q + 7) (by simp)).trans ((a5 (q + 7) (by simp)).trans ((up_n (by omega)).trans h7)))) hPB (fun σ4 co d1 d2 d3 => ?_)
  refine P.vret (dq dtX0_reckon 23 rfl) rfl rfl rfl ?_
  exact h σ4 (me, wa, fi, si, to, pf, co) ⟨(d3 q (by simp)).trans c1, (d3 (q + 1) (by simp)).trans ((c10 (q + 1) (by simp)).trans ((b2 (q + 1) (by simp)).trans a1)), (d3 (q + 2) (by simp)).trans ((c10 (q + 2) (by simp)).trans ((b2 (q + 2) (by simp)).trans a2)), (d3 (q + 3) (by simp)).trans c2, (d3 (q + 4) (by simp)).trans c3, (d3 (q + 5) (by simp)).trans c4, (d3 (q + 6) (by simp)).trans c5, d1, a3, a4, c7, c6, c9, d2⟩ ((((Fr.wide (S := [q]) (by repeat (first | assumption | exact Fr.rf | refine Fr.up ?_ (by simp))) (by simp)).trans (a5.wide (by simp))).trans (b2.wide (by simp))).trans (c10.wide (by simp)) |>.trans (d3.wide (by simp)))
