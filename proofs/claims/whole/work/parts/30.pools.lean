theorem lp_merge {x : CX} {d N : Nat} {σ : PH} {Q : PQ} {q : Nat} {p s pt pl k : Int} (hp : 0 ≤ p ∧ p ≤ 8) (hd : 1 ≤ d) : ∀ (r : List (Int × Int)) (t z : Int) (fi si to : Int → Int) (σ' : PH), σ' q = fgO q p s (r.length + 1) pt pl → σ' (q + 3) = pcI 0 8 fi → σ' (q + 4) = pcI 0 8 si → σ' (q + 5) = pcI 0 8 to → Rl to si ((t, z) :: r) → RF fi ((t, z) :: r) → GB 90000 ((t, z) :: r) → szs ((t, z) :: r) ≤ 8 → Fr σ σ' [q, q + 3, q + 4, q + 5] →
    (∀ (σ2 : PH) (l : List (Int × Int)) (fi2 si2 to2 : Int → Int), l = mrgA t z r → σ2 q = fgO q p s l.length pt pl → σ2 (q + 3) = pcI 0 8 fi2 → σ2 (q + 4) = pcI 0 8 si2 → σ2 (q + 5) = pcI 0 8 to2 → Rl to2 si2 l → RF fi2 l → GB 90000 l → Fr σ σ2 [q, q + 3, q + 4, q + 5] → P x d mX0_poolWanted Q (0, 0) 134 [some (vR q), some (vI k), none] [] N σ2) →
    P x d mX0_poolWanted Q (0, 0) 60 [some (vR q), some (vI k), none] [] N σ' := by
  intro r
  induction r with
  | nil =>
    intro t z fi si to σ' hq h3 h4 h5 hR hF hg hz hFr kk
    simp only [List.length_nil] at hq
    refine P.aload_n (dq dtX0_poolWanted_0 36 rfl) rfl ?_
    refine P.get flX0_25 (dq dtX0_poolWanted_0 37 rfl) (by repeat (first | assumption | exact up_s | rw [up_n (by first | assumption | (apply Ne.symm; assumption) | decide | omega)])) (by rfl) ?_
    refine P.iconst (dq dtX0_poolWanted_0 38 rfl) ?_
    refine P.icmp_le (t := 134) (dq dtX0_poolWanted_0 39 rfl) rfl (by omega) (by omega) (fun c_65 => ?_) (fun c_65 => ?_)
    · exact kk σ' [(t, z)] fi si to rfl (by simpa using hq) h3 h4 h5 hR hF hg hFr
    · exfalso; omega
  | cons a r ih =>
    obtain ⟨t0, z0⟩ := a
    intro t z fi si to σ' hq h3 h4 h5 hR hF hg hz hFr kk
    have hR0 := hR
    have hF0 := hF
    have hg0 := hg
    obtain ⟨R1, R2, R3, R4, R5⟩ := hR
    obtain ⟨F1, F2, F3⟩ := hF
    obtain ⟨⟨g1, g2, g3⟩, ⟨g4, g5, g6⟩, g7⟩ := hg
    have hlen := GB_len r g7
    simp only [szs] at hz
    have ec : ((((t0, z0) :: r).length : Nat) : Int) = (r.length : Int) + 1 := by simp only [List.length_cons]; omega
    have el : ((((t, z) :: (t0, z0) :: r).length : Nat) : Int) = (r.length : Int) + 1 + 1 := by simp only [List.length_cons]; omega
    rw [ec] at hq R1 R2 F1
    have e1 : (r.length : Int) + 1 + 1 - 1 = (r.length : Int) + 1 := by omega
    have e2 : (r.length : Int) + 1 - 1 = (r.length : Int) := by omega
    have A1 : to ((r.length : Int) + 1 + 1 - 1) = t := by rw [e1]; exact R1
    have A2 : si ((r.length : Int) + 1 + 1 - 1) = z := by rw [e1]; exact R2
    have A3 : to ((r.length : Int) + 1 + 1 - 1 - 1) = t0 := by rw [e1, e2]; exact R3
    have A4 : si ((r.length : Int) + 1 + 1 - 1 - 1) = z0 := by rw [e1, e2]; exact R4
    have b1 : -(5760000) ≤ t * z0 ∧ t * z0 ≤ 5760000 := by
      have q1 : t * z0 ≤ (90000 * z) * z0 := Int.mul_le_mul_of_nonneg_right g3 (by omega)
      have q2 : -(90000 * z) * z0 ≤ t * z0 := Int.mul_le_mul_of_nonneg_right g2 (by omega)
      have q3 : z * z0 ≤ 8 * z0 := Int.mul_le_mul_of_nonneg_right (by omega) (by omega)
      rw [Int.mul_assoc] at q1
      rw [Int.neg_mul, Int.mul_assoc] at q2
      omega
    have b2 : -(5760000) ≤ t0 * z ∧ t0 * z ≤ 5760000 := by
      have q1 : t0 * z ≤ (90000 * z0) * z := Int.mul_le_mul_of_nonneg_right g6 (by omega)
      have q2 : -(90000 * z0) * z ≤ t0 * z := Int.mul_le_mul_of_nonneg_right g5 (by omega)
      have q3 : z0 * z ≤ 8 * z := Int.mul_le_mul_of_nonneg_right (by omega) (by omega)
      rw [Int.mul_assoc] at q1
      rw [Int.neg_mul, Int.mul_assoc] at q2
      omega
    refine P.aload_n (dq dtX0_poolWanted_0 36 rfl) rfl ?_
    refine P.get flX0_25 (dq dtX0_poolWanted_0 37 rfl) (by repeat (first | assumption | exact up_s | rw [up_n (by first | assumption | (apply Ne.symm; assumption) | decide | omega)])) (by rfl) ?_
    refine P.iconst (dq dtX0_poolWanted_0 38 rfl) ?_
    refine P.icmp_le (t := 134) (dq dtX0_poolWanted_0 39 rfl) rfl (by omega) (by omega) (fun c_65 => ?_) (fun c_65 => ?_)
    · first | (exfalso; omega) | (rw [A1, A2, A3, A4] at n_69; exact kk σ' ((t, z) :: (t0, z0) :: r) fi si to (show mrgA t z ((t0, z0) :: r) = (t, z) :: (t0, z0) :: r from if_neg n_69).symm (by rw [el]; exact hq) h3 h4 h5 hR0 hF0 hg0 hFr)
    · refine P.aload_n (dq dtX0_poolWanted_0 40 rfl) rfl ?_
      refine P.callV0 (M' := mX0_lastIsNotMore) (d' := d - 1) mlX0_88 mcX0_lastIsNotMore mvX0_lastIsNotMore (dq dtX0_poolWanted_0 41 rfl) (by omega) (Nat.le_of_ble_eq_true rfl) (by repeat (first | assumption | exact up_s | rw [up_n (by first | assumption | (apply Ne.symm; assumption) | decide | omega)])) rfl ?_
      refine ct_X0_lastIsNotMore (si := si) (to := to) (by repeat (first | assumption | exact up_s | rw [up_n (by first | assumption | (apply Ne.symm; assumption) | decide | omega)])) (by omega) (by repeat (first | assumption | exact up_s | rw [up_n (by first | assumption | (apply Ne.symm; assumption) | decide | omega)])) (by repeat (first | assumption | exact up_s | rw [up_n (by first | assumption | (apply Ne.symm; assumption) | decide | omega)])) (by omega) (by rw [A1, A4]; omega) (by rw [A3, A2]; omega) (fun n_69 => ?_) (fun n_69 => ?_)
      · refine P.if_eq (t := 134) (dq dtX0_poolWanted_0 42 rfl) rfl (by omega) (fun h9 => absurd h9 (by decide)) (fun _ => ?_)
        refine P.aload_n (dq dtX0_poolWanted_0 43 rfl) rfl ?_
        refine P.dup (dq dtX0_poolWanted_0 44 rfl) rfl ?_
        refine P.get flX0_25 (dq dtX0_poolWanted_0 45 rfl) (by repeat (first | assumption | exact up_s | rw [up_n (by first | assumption | (apply Ne.symm; assumption) | decide | omega)])) (by rfl) ?_
        refine P.iconst (dq dtX0_poolWanted_0 46 rfl) ?_
        refine P.isub (dq dtX0_poolWanted_0 47 rfl) ?_
        refine P.put flX0_25 rfl (dq dtX0_poolWanted_0 48 rfl) (by repeat (first | assumption | exact up_s | rw [up_n (by first | assumption | (apply Ne.symm; assumption) | decide | omega)])) (by exact Nat.le_of_ble_eq_true rfl) rfl rfl rfl rfl rfl ?_
        rw [e1]
        refine P.aload_n (dq dtX0_poolWanted_0 49 rfl) rfl ?_
        refine P.get flX0_31 (dq dtX0_poolWanted_0 50 rfl) (by repeat (first | assumption | exact up_s | rw [up_n (by first | assumption | (apply Ne.symm; assumption) | decide | omega)])) (by rfl) ?_
        refine P.aload_n (dq dtX0_poolWanted_0 51 rfl) rfl ?_
        refine P.get flX0_25 (dq dtX0_poolWanted_0 52 rfl) (by repeat (first | assumption | exact up_s | rw [up_n (by first | assumption | (apply Ne.symm; assumption) | decide | omega)])) (by rfl) ?_
        refine P.iconst (dq dtX0_poolWanted_0 53 rfl) ?_
        refine P.isub (dq dtX0_poolWanted_0 54 rfl) ?_
        refine P.dup2 (dq dtX0_poolWanted_0 55 rfl) rfl rfl ?_
        refine P.iald (dq dtX0_poolWanted_0 56 rfl) (by repeat (first | assumption | exact up_s | rw [up_n (by first | assumption | (apply Ne.symm; assumption) | decide | omega)])) (by omega) (by omega) (by omega) ?_
        refine P.aload_n (dq dtX0_poolWanted_0 57 rfl) rfl ?_
        refine P.get flX0_31 (dq dtX0_poolWanted_0 58 rfl) (by repeat (first | assumption | exact up_s | rw [up_n (by first | assumption | (apply Ne.symm; assumption) | decide | omega)])) (by rfl) ?_
        refine P.aload_n (dq dtX0_poolWanted_0 59 rfl) rfl ?_
        refine P.get flX0_25 (dq dtX0_poolWanted_0 60 rfl) (by repeat (first | assumption | exact up_s | rw [up_n (by first | assumption | (apply Ne.symm; assumption) | decide | omega)])) (by rfl) ?_
        refine P.iald (dq dtX0_poolWanted_0 61 rfl) (by repeat (first | assumption | exact up_s | rw [up_n (by first | assumption | (apply Ne.symm; assumption) | decide | omega)])) (by omega) (by omega) (by omega) ?_
        refine P.iadd (dq dtX0_poolWanted_0 62 rfl) ?_
        refine P.iast (dq dtX0_poolWanted_0 63 rfl) (by repeat (first | assumption | exact up_s | rw [up_n (by first | assumption | (apply Ne.symm; assumption) | decide | omega)])) (by omega) (by omega) (by omega) ?_
        refine P.aload_n (dq dtX0_poolWanted_1 0 rfl) rfl ?_
        refine P.get flX0_34 (dq dtX0_poolWanted_1 1 rfl) (by repeat (first | assumption | exact up_s | rw [up_n (by first | assumption | (apply Ne.symm; assumption) | decide | omega)])) (by rfl) ?_
        refine P.aload_n (dq dtX0_poolWanted_1 2 rfl) rfl ?_
        refine P.get flX0_25 (dq dtX0_poolWanted_1 3 rfl) (by repeat (first | assumption | exact up_s | rw [up_n (by first | assumption | (apply Ne.symm; assumption) | decide | omega)])) (by rfl) ?_
        refine P.iconst (dq dtX0_poolWanted_1 4 rfl) ?_
        refine P.isub (dq dtX0_poolWanted_1 5 rfl) ?_
        refine P.dup2 (dq dtX0_poolWanted_1 6 rfl) rfl rfl ?_
        refine P.iald (dq dtX0_poolWanted_1 7 rfl) (by repeat (first | assumption | exact up_s | rw [up_n (by first | assumption | (apply Ne.symm; assumption) | decide | omega)])) (by omega) (by omega) (by omega) ?_
        refine P.aload_n (dq dtX0_poolWanted_1 8 rfl) rfl ?_
        refine P.get flX0_34 (dq dtX0_poolWanted_1 9 rfl) (by repeat (first | assumption | exact up_s | rw [up_n (by first | assumption | (apply Ne.symm; assumption) | decide | omega)])) (by rfl) ?_
        refine P.aload_n (dq dtX0_poolWanted_1 10 rfl) rfl ?_
        refine P.get flX0_25 (dq dtX0_poolWanted_1 11 rfl) (by repeat (first | assumption | exact up_s | rw [up_n (by first | assumption | (apply Ne.symm; assumption) | decide | omega)])) (by rfl) ?_
        refine P.iald (dq dtX0_poolWanted_1 12 rfl) (by repeat (first | assumption | exact up_s | rw [up_n (by first | assumption | (apply Ne.symm; assumption) | decide | omega)])) (by omega) (by omega) (by omega) ?_
        refine P.iadd (dq dtX0_poolWanted_1 13 rfl) ?_
        refine P.iast (dq dtX0_poolWanted_1 14 rfl) (by repeat (first | assumption | exact up_s | rw [up_n (by first | assumption | (apply Ne.symm; assumption) | decide | omega)])) (by omega) (by omega) (by omega) ?_
        refine P.goto (t := 60) (dq dtX0_poolWanted_1 15 rfl) rfl ?_
        rw [A1, A2, A3, A4] at n_69
        have em : mrgA t z ((t0, z0) :: r) = mrgA (t0 + t) (z0 + z) r := if_pos n_69
        rw [e2]
        refine ih (t0 + t) (z0 + z) fi (upI si r.length (si r.length + si (r.length + 1))) (upI to r.length (to r.length + to (r.length + 1))) _ (by repeat (first | assumption | exact up_s | rw [up_n (by first | assumption | (apply Ne.symm; assumption) | decide | omega)])) (by repeat (first | assumption | exact up_s | rw [up_n (by first | assumption | (apply Ne.symm; assumption) | decide | omega)])) (by repeat (first | assumption | exact up_s | rw [up_n (by first | assumption | (apply Ne.symm; assumption) | decide | omega)])) (by repeat (first | assumption | exact up_s | rw [up_n (by first | assumption | (apply Ne.symm; assumption) | decide | omega)])) ⟨by rw [upI_s, R3, R1], by rw [upI_s, R4, R2], Rl_up r R5 (by omega) (by omega)⟩ ⟨F2, F3⟩ ⟨⟨by omega, by omega, by omega⟩, g7⟩ (by simp only [szs]; omega) (by repeat (first | assumption | exact Fr.rf | refine Fr.up ?_ (by simp))) (fun σ2 l fi2 si2 to2 hl => kk σ2 l fi2 si2 to2 (hl.trans em.symm))
      · refine P.if_eq (t := 134) (dq dtX0_poolWanted_0 42 rfl) rfl (by omega) (fun _ => ?_) (fun h9 => absurd h9 (by decide))
        first | (exfalso; omega) | (rw [A1, A2, A3, A4] at n_69; exact kk σ' ((t, z) :: (t0, z0) :: r) fi si to (show mrgA t z ((t0, z0) :: r) = (t, z) :: (t0, z0) :: r from if_neg n_69).symm (by rw [el]; exact hq) h3 h4 h5 hR0 hF0 hg0 hFr)
theorem lp_pools {x : CX} {d N : Nat} {σ : PH} {Q : PQ} {q : Nat} {p s pt pl : Int} {wa : Int → Int} (hp : 0 ≤ p ∧ p ≤ 8) (hd : 1 ≤ d) (hw : σ (q + 2) = pcI 0 8 wa) (hwb : ∀ i : Nat, (i : Int) < p → -90000 ≤ wa i ∧ wa i ≤ 90000) (kk : ∀ (σ2 : PH) (fi2 si2 to2 : Int → Int), σ2 q = fgO q p s (pool wa p.toNat).length pt pl → σ2 (q + 3) = pcI 0 8 fi2 → σ2 (q + 4) = pcI 0 8 si2 → σ2 (q + 5) = pcI 0 8 to2 → Rl to2 si2 (pool wa p.toNat) → RF fi2 (pool wa p.toNat) → GB 90000 (pool wa p.toNat) → Fr σ σ2 [q, q + 3, q + 4, q + 5] → P x d mX0_poolWanted Q (0, 0) 140 [some (vR q), some (vI p), none] [] N σ2) : ∀ (t k : Nat) (σ' : PH) (fi si to : Int → Int), (k : Int) ≤ p → p - k < t → σ' q = fgO q p s (pool wa k).length pt pl → σ' (q + 3) = pcI 0 8 fi → σ' (q + 4) = pcI 0 8 si → σ' (q + 5) = pcI 0 8 to → Rl to si (pool wa k) → RF fi (pool wa k) → Fr σ σ' [q, q + 3, q + 4, q + 5] → P x d mX0_poolWanted Q (0, 0) 7 [some (vR q), some (vI k), none] [] N σ' := by
  intro t
  induction t with
  | zero =>
    intro k σ' fi si to hk ht hq h3 h4 h5 hR hF hFr
    exfalso; omega
  | succ t ih =>
    intro k σ' fi si to hk ht hq h3 h4 h5 hR hF hFr
    have hz := pool_szs wa k
    have hg := pool_GB (B := 90000) (w := wa) k (fun i hi => hwb i (by omega))
    have hlen := GB_len _ hg
    have hw' : σ' (q + 2) = pcI 0 8 wa := (hFr (q + 2) (by simp)).trans hw
    refine P.iload_n (dq dtX0_poolWanted_0 5 rfl) rfl ?_
    refine P.aload_n (dq dtX0_poolWanted_0 6 rfl) rfl ?_
    refine P.get flX0_9 (dq dtX0_poolWanted_0 7 rfl) (by repeat (first | assumption | exact up_s | rw [up_n (by first | assumption | (apply Ne.symm; assumption) | decide | omega)])) (by rfl) ?_
    refine P.icmp_ge (t := 140) (dq dtX0_poolWanted_0 8 rfl) rfl (by omega) (by omega) (fun c_12 => ?_) (fun c_12 => ?_)
    · obtain rfl : k = p.toNat := by omega
      rw [show ((p.toNat : Nat) : Int) = p by omega]
      exact kk σ' fi si to hq h3 h4 h5 hR hF hg hFr
    · refine P.aload_n (dq dtX0_poolWanted_0 9 rfl) rfl ?_
      refine P.get flX0_28 (dq dtX0_poolWanted_0 10 rfl) (by repeat (first | assumption | exact up_s | rw [up_n (by first | assumption | (apply Ne.symm; assumption) | decide | omega)])) (by rfl) ?_
      refine P.aload_n (dq dtX0_poolWanted_0 11 rfl) rfl ?_
      refine P.get flX0_25 (dq dtX0_poolWanted_0 12 rfl) (by repeat (first | assumption | exact up_s | rw [up_n (by first | assumption | (apply Ne.symm; assumption) | decide | omega)])) (by rfl) ?_
      refine P.iload_n (dq dtX0_poolWanted_0 13 rfl) rfl ?_
      refine P.iast (dq dtX0_poolWanted_0 14 rfl) (by repeat (first | assumption | exact up_s | rw [up_n (by first | assumption | (apply Ne.symm; assumption) | decide | omega)])) (by omega) (by omega) (by omega) ?_
      refine P.aload_n (dq dtX0_poolWanted_0 15 rfl) rfl ?_
      refine P.get flX0_31 (dq dtX0_poolWanted_0 16 rfl) (by repeat (first | assumption | exact up_s | rw [up_n (by first | assumption | (apply Ne.symm; assumption) | decide | omega)])) (by rfl) ?_
      refine P.aload_n (dq dtX0_poolWanted_0 17 rfl) rfl ?_
      refine P.get flX0_25 (dq dtX0_poolWanted_0 18 rfl) (by repeat (first | assumption | exact up_s | rw [up_n (by first | assumption | (apply Ne.symm; assumption) | decide | omega)])) (by rfl) ?_
      refine P.iconst (dq dtX0_poolWanted_0 19 rfl) ?_
      refine P.iast (dq dtX0_poolWanted_0 20 rfl) (by repeat (first | assumption | exact up_s | rw [up_n (by first | assumption | (apply Ne.symm; assumption) | decide | omega)])) (by omega) (by omega) (by omega) ?_
      refine P.aload_n (dq dtX0_poolWanted_0 21 rfl) rfl ?_
      refine P.get flX0_34 (dq dtX0_poolWanted_0 22 rfl) (by repeat (first | assumption | exact up_s | rw [up_n (by first | assumption | (apply Ne.symm; assumption) | decide | omega)])) (by rfl) ?_
      refine P.aload_n (dq dtX0_poolWanted_0 23 rfl) rfl ?_
      refine P.get flX0_25 (dq dtX0_poolWanted_0 24 rfl) (by repeat (first | assumption | exact up_s | rw [up_n (by first | assumption | (apply Ne.symm; assumption) | decide | omega)])) (by rfl) ?_
      refine P.aload_n (dq dtX0_poolWanted_0 25 rfl) rfl ?_
      refine P.get flX0_22 (dq dtX0_poolWanted_0 26 rfl) (by repeat (first | assumption | exact up_s | rw [up_n (by first | assumption | (apply Ne.symm; assumption) | decide | omega)])) (by rfl) ?_
      refine P.iload_n (dq dtX0_poolWanted_0 27 rfl) rfl ?_
      refine P.iald (dq dtX0_poolWanted_0 28 rfl) (by repeat (first | assumption | exact up_s | rw [up_n (by first | assumption | (apply Ne.symm; assumption) | decide | omega)])) (by omega) (by omega) (by omega) ?_
      refine P.iast (dq dtX0_poolWanted_0 29 rfl) (by repeat (first | assumption | exact up_s | rw [up_n (by first | assumption | (apply Ne.symm; assumption) | decide | omega)])) (by omega) (by omega) (by omega) ?_
      refine P.aload_n (dq dtX0_poolWanted_0 30 rfl) rfl ?_
      refine P.dup (dq dtX0_poolWanted_0 31 rfl) rfl ?_
      refine P.get flX0_25 (dq dtX0_poolWanted_0 32 rfl) (by repeat (first | assumption | exact up_s | rw [up_n (by first | assumption | (apply Ne.symm; assumption) | decide | omega)])) (by rfl) ?_
      refine P.iconst (dq dtX0_poolWanted_0 33 rfl) ?_
      refine P.iadd (dq dtX0_poolWanted_0 34 rfl) ?_
      refine P.put flX0_25 rfl (dq dtX0_poolWanted_0 35 rfl) (by repeat (first | assumption | exact up_s | rw [up_n (by first | assumption | (apply Ne.symm; assumption) | decide | omega)])) (by exact Nat.le_of_ble_eq_true rfl) rfl rfl rfl rfl rfl ?_
      refine lp_merge (σ := σ) hp hd (pool wa k) (wa k) 1 (upI fi (pool wa k).length k) (upI si (pool wa k).length 1) (upI to (pool wa k).length (wa k)) _ (by repeat (first | assumption | exact up_s | rw [up_n (by first | assumption | (apply Ne.symm; assumption) | decide | omega)])) (by repeat (first | assumption | exact up_s | rw [up_n (by first | assumption | (apply Ne.symm; assumption) | decide | omega)])) (by repeat (first | assumption | exact up_s | rw [up_n (by first | assumption | (apply Ne.symm; assumption) | decide | omega)])) (by repeat (first | assumption | exact up_s | rw [up_n (by first | assumption | (apply Ne.symm; assumption) | decide | omega)])) ⟨upI_s, upI_s, Rl_up _ hR (by omega) (by omega)⟩ ⟨by rw [upI_s, hz], RF_up _ hF (by omega)⟩ ⟨⟨by omega, by have := hwb k (by omega); omega, by have := hwb k (by omega); omega⟩, hg⟩ (by simp only [szs]; omega) (by repeat (first | assumption | exact Fr.rf | refine Fr.up ?_ (by simp))) (fun σ2 l fi2 si2 to2 hl q1 q2 q3 q4 q5 q6 q7 q8 => ?_)
      subst hl
      refine P.iinc (dq dtX0_poolWanted_1 16 rfl) rfl (by decide) rfl rfl ?_
      refine P.goto (t := 7) (dq dtX0_poolWanted_1 17 rfl) rfl ?_
      exact ih (k + 1) σ2 fi2 si2 to2 (by omega) (by omega) q1 q2 q3 q4 q5 q6 q8
