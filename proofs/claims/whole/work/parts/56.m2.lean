theorem lm_merge {x : CX} {d N : Nat} {σ : PH} {Q : PQ} {p s u l0 fi be rp cl dg nu pk wm ro k : Int} (h84 : σ 84 = mdO p s u l0 fi be rp cl dg nu pk wm) : ∀ (l : List (Int × Int)) (t z : Int) (si to : Int → Int) (σ' : PH), σ' 91 = pcI 0 8 si → σ' 92 = pcI 0 8 to → Rl to si ((t, z) :: l) → GB 90000 ((t, z) :: l) → szs ((t, z) :: l) ≤ 8 → Fr σ σ' [91, 92] →
    (∀ (σ2 : PH) (l2 : List (Int × Int)) (si2 to2 : Int → Int), l2 = mrgA t z l → σ2 91 = pcI 0 8 si2 → σ2 92 = pcI 0 8 to2 → Rl to2 si2 l2 → GB 90000 l2 → Fr σ σ2 [91, 92] → P x d mX7_layTable Q (0, 0) 120 [some (vR 84), some (vI ro), some (vI l2.length), some (vI k), none, none, none] [] N σ2) →
    P x d mX7_layTable Q (0, 0) 34 [some (vR 84), some (vI ro), some (vI (l.length + 1)), some (vI k), none, none, none] [] N σ' := by
  intro l
  induction l with
  | nil =>
    intro t z si to σ' h91 h92 hR hg hz hFr kk
    have x84 := (hFr 84 (by decide)).trans h84
    simp only [List.length_nil]
    refine P.iload_n (dq dtX7_layTable_0 22 rfl) rfl ?_
    refine P.iconst (dq dtX7_layTable_0 23 rfl) ?_
    refine P.icmp_le (t := 120) (dq dtX7_layTable_0 24 rfl) rfl (by omega) (by omega) (fun c_36 => ?_) (fun c_36 => ?_)
    · exact kk σ' [(t, z)] si to rfl h91 h92 hR hg hFr
    · exfalso; omega
  | cons a l ih =>
    obtain ⟨t0, z0⟩ := a
    intro t z si to σ' h91 h92 hR hg hz hFr kk
    have x84 := (hFr 84 (by decide)).trans h84
    have hR0 := hR
    have hg0 := hg
    obtain ⟨R1, R2, R3, R4, R5⟩ := hR
    obtain ⟨⟨g1, g2, g3⟩, ⟨g4, g5, g6⟩, g7⟩ := hg
    have hlen := GB_len l g7
    simp only [szs] at hz
    have ec : ((((t0, z0) :: l).length : Nat) : Int) = (l.length : Int) + 1 := by simp only [List.length_cons]; omega
    have el : ((((t, z) :: (t0, z0) :: l).length : Nat) : Int) = (l.length : Int) + 1 + 1 := by simp only [List.length_cons]; omega
    rw [ec] at R1 R2
    rw [ec]
    have e1 : (l.length : Int) + 1 + 1 - 1 = (l.length : Int) + 1 := by omega
    have e2 : (l.length : Int) + 1 + 1 - 2 = (l.length : Int) := by omega
    have A1 : to ((l.length : Int) + 1 + 1 - 1) = t := by rw [e1]; exact R1
    have A2 : si ((l.length : Int) + 1 + 1 - 1) = z := by rw [e1]; exact R2
    have A3 : to ((l.length : Int) + 1 + 1 - 2) = t0 := by rw [e2]; exact R3
    have A4 : si ((l.length : Int) + 1 + 1 - 2) = z0 := by rw [e2]; exact R4
    have b1 : -(5760000) ≤ t * z0 ∧ t * z0 ≤ 5760000 := by
      have q1 : t * z0 ≤ (90000 * z) * z0 := Int.mul_le_mul_of_nonneg_right g3 (by omega)
      have q2 : -(90000 * z) * z0 ≤ t * z0 := Int.mul_le_mul_of_nonneg_right g2 (by omega)
      have q3 : z * z0 ≤ 8 * z0 := Int.mul_le_mul_of_nonneg_right (by omega) (by omega)
      rw [Int.mul_assoc] at q1
      rw [Int.neg_mul, Int.mul_assoc] at q2
      omega
    have b2 : -(5760000) ≤ t0 * z ∧ t0 * z ≤ 5760000 := by
      have q1 : t0 * z ≤ (90000 * z0) * z := Int.mul_le_mul_of_nonneg_right g6 (by omega)
      have q2 : -(90000 * z0) * z ≤ t0 * z := Int.mul_le_mul_of_nonneg_right g5 (by omega)
      have q3 : z0 * z ≤ 8 * z := Int.mul_le_mul_of_nonneg_right (by omega) (by omega)
      rw [Int.mul_assoc] at q1
      rw [Int.neg_mul, Int.mul_assoc] at q2
      omega
    refine P.iload_n (dq dtX7_layTable_0 22 rfl) rfl ?_
    refine P.iconst (dq dtX7_layTable_0 23 rfl) ?_
    refine P.icmp_le (t := 120) (dq dtX7_layTable_0 24 rfl) rfl (by omega) (by omega) (fun c_36 => ?_) (fun c_36 => ?_)
    · first | (exfalso; omega) | (rw [A1, A2, A3, A4] at c_73; have hh := kk σ' ((t, z) :: (t0, z0) :: l) si to (show mrgA t z ((t0, z0) :: l) = (t, z) :: (t0, z0) :: l from if_neg (by omega)).symm h91 h92 hR0 hg0 hFr; rw [el] at hh; exact hh)
    · refine P.aload_n (dq dtX7_layTable_0 25 rfl) rfl ?_
      refine P.get flX7_39 (dq dtX7_layTable_0 26 rfl) (by repeat (first | assumption | exact up_s | rw [up_n (by first | assumption | (apply Ne.symm; assumption) | decide | omega)])) (by rfl) ?_
      refine P.iload_n (dq dtX7_layTable_0 27 rfl) rfl ?_
      refine P.iconst (dq dtX7_layTable_0 28 rfl) ?_
      refine P.isub (dq dtX7_layTable_0 29 rfl) ?_
      refine P.iald (dq dtX7_layTable_0 30 rfl) (by repeat (first | assumption | exact up_s | rw [up_n (by first | assumption | (apply Ne.symm; assumption) | decide | omega)])) (by omega) (by omega) (by omega) ?_
      refine P.aload_n (dq dtX7_layTable_0 31 rfl) rfl ?_
      refine P.get flX7_36 (dq dtX7_layTable_0 32 rfl) (by repeat (first | assumption | exact up_s | rw [up_n (by first | assumption | (apply Ne.symm; assumption) | decide | omega)])) (by rfl) ?_
      refine P.iload_n (dq dtX7_layTable_0 33 rfl) rfl ?_
      refine P.iconst (dq dtX7_layTable_0 34 rfl) ?_
      refine P.isub (dq dtX7_layTable_0 35 rfl) ?_
      refine P.iald (dq dtX7_layTable_0 36 rfl) (by repeat (first | assumption | exact up_s | rw [up_n (by first | assumption | (apply Ne.symm; assumption) | decide | omega)])) (by omega) (by omega) (by omega) ?_
      refine P.imul (dq dtX7_layTable_0 37 rfl) ?_
      refine P.aload_n (dq dtX7_layTable_0 38 rfl) rfl ?_
      refine P.get flX7_39 (dq dtX7_layTable_0 39 rfl) (by repeat (first | assumption | exact up_s | rw [up_n (by first | assumption | (apply Ne.symm; assumption) | decide | omega)])) (by rfl) ?_
      refine P.iload_n (dq dtX7_layTable_0 40 rfl) rfl ?_
      refine P.iconst (dq dtX7_layTable_0 41 rfl) ?_
      refine P.isub (dq dtX7_layTable_0 42 rfl) ?_
      refine P.iald (dq dtX7_layTable_0 43 rfl) (by repeat (first | assumption | exact up_s | rw [up_n (by first | assumption | (apply Ne.symm; assumption) | decide | omega)])) (by omega) (by omega) (by omega) ?_
      refine P.aload_n (dq dtX7_layTable_0 44 rfl) rfl ?_
      refine P.get flX7_36 (dq dtX7_layTable_0 45 rfl) (by repeat (first | assumption | exact up_s | rw [up_n (by first | assumption | (apply Ne.symm; assumption) | decide | omega)])) (by rfl) ?_
      refine P.iload_n (dq dtX7_layTable_0 46 rfl) rfl ?_
      refine P.iconst (dq dtX7_layTable_0 47 rfl) ?_
      refine P.isub (dq dtX7_layTable_0 48 rfl) ?_
      refine P.iald (dq dtX7_layTable_0 49 rfl) (by repeat (first | assumption | exact up_s | rw [up_n (by first | assumption | (apply Ne.symm; assumption) | decide | omega)])) (by omega) (by omega) (by omega) ?_
      refine P.imul (dq dtX7_layTable_0 50 rfl) ?_
      refine P.icmp_gt (t := 120) (dq dtX7_layTable_0 51 rfl) rfl (by rw [A1, A4]; omega) (by rw [A3, A2]; omega) (fun c_73 => ?_) (fun c_73 => ?_)
      · first | (exfalso; omega) | (rw [A1, A2, A3, A4] at c_73; have hh := kk σ' ((t, z) :: (t0, z0) :: l) si to (show mrgA t z ((t0, z0) :: l) = (t, z) :: (t0, z0) :: l from if_neg (by omega)).symm h91 h92 hR0 hg0 hFr; rw [el] at hh; exact hh)
      · refine P.aload_n (dq dtX7_layTable_0 52 rfl) rfl ?_
        refine P.get flX7_39 (dq dtX7_layTable_0 53 rfl) (by repeat (first | assumption | exact up_s | rw [up_n (by first | assumption | (apply Ne.symm; assumption) | decide | omega)])) (by rfl) ?_
        refine P.iload_n (dq dtX7_layTable_0 54 rfl) rfl ?_
        refine P.iconst (dq dtX7_layTable_0 55 rfl) ?_
        refine P.isub (dq dtX7_layTable_0 56 rfl) ?_
        refine P.dup2 (dq dtX7_layTable_0 57 rfl) rfl rfl ?_
        refine P.iald (dq dtX7_layTable_0 58 rfl) (by repeat (first | assumption | exact up_s | rw [up_n (by first | assumption | (apply Ne.symm; assumption) | decide | omega)])) (by omega) (by omega) (by omega) ?_
        refine P.aload_n (dq dtX7_layTable_0 59 rfl) rfl ?_
        refine P.get flX7_39 (dq dtX7_layTable_0 60 rfl) (by repeat (first | assumption | exact up_s | rw [up_n (by first | assumption | (apply Ne.symm; assumption) | decide | omega)])) (by rfl) ?_
        refine P.iload_n (dq dtX7_layTable_0 61 rfl) rfl ?_
        refine P.iconst (dq dtX7_layTable_0 62 rfl) ?_
        refine P.isub (dq dtX7_layTable_0 63 rfl) ?_
        refine P.iald (dq dtX7_layTable_1 0 rfl) (by repeat (first | assumption | exact up_s | rw [up_n (by first | assumption | (apply Ne.symm; assumption) | decide | omega)])) (by omega) (by omega) (by omega) ?_
        refine P.iadd (dq dtX7_layTable_1 1 rfl) ?_
        refine P.iast (dq dtX7_layTable_1 2 rfl) (by repeat (first | assumption | exact up_s | rw [up_n (by first | assumption | (apply Ne.symm; assumption) | decide | omega)])) (by omega) (by omega) (by omega) ?_
        refine P.aload_n (dq dtX7_layTable_1 3 rfl) rfl ?_
        refine P.get flX7_36 (dq dtX7_layTable_1 4 rfl) (by repeat (first | assumption | exact up_s | rw [up_n (by first | assumption | (apply Ne.symm; assumption) | decide | omega)])) (by rfl) ?_
        refine P.iload_n (dq dtX7_layTable_1 5 rfl) rfl ?_
        refine P.iconst (dq dtX7_layTable_1 6 rfl) ?_
        refine P.isub (dq dtX7_layTable_1 7 rfl) ?_
        refine P.dup2 (dq dtX7_layTable_1 8 rfl) rfl rfl ?_
        refine P.iald (dq dtX7_layTable_1 9 rfl) (by repeat (first | assumption | exact up_s | rw [up_n (by first | assumption | (apply Ne.symm; assumption) | decide | omega)])) (by omega) (by omega) (by omega) ?_
        refine P.aload_n (dq dtX7_layTable_1 10 rfl) rfl ?_
        refine P.get flX7_36 (dq dtX7_layTable_1 11 rfl) (by repeat (first | assumption | exact up_s | rw [up_n (by first | assumption | (apply Ne.symm; assumption) | decide | omega)])) (by rfl) ?_
        refine P.iload_n (dq dtX7_layTable_1 12 rfl) rfl ?_
        refine P.iconst (dq dtX7_layTable_1 13 rfl) ?_
        refine P.isub (dq dtX7_layTable_1 14 rfl) ?_
        refine P.iald (dq dtX7_layTable_1 15 rfl) (by repeat (first | assumption | exact up_s | rw [up_n (by first | assumption | (apply Ne.symm; assumption) | decide | omega)])) (by omega) (by omega) (by omega) ?_
        refine P.iadd (dq dtX7_layTable_1 16 rfl) ?_
        refine P.iast (dq dtX7_layTable_1 17 rfl) (by repeat (first | assumption | exact up_s | rw [up_n (by first | assumption | (apply Ne.symm; assumption) | decide | omega)])) (by omega) (by omega) (by omega) ?_
        refine P.iinc (dq dtX7_layTable_1 18 rfl) rfl (by decide) rfl rfl ?_
        refine P.goto (t := 34) (dq dtX7_layTable_1 19 rfl) rfl ?_
        rw [A1, A2, A3, A4] at c_73
        have em : mrgA t z ((t0, z0) :: l) = mrgA (t0 + t) (z0 + z) l := if_pos (by omega)
        rw [e1, e2, show (l.length : Int) + 1 + 1 + -1 = (l.length : Int) + 1 by omega]
        refine ih (t0 + t) (z0 + z) (upI si l.length (si l.length + si (l.length + 1))) (upI to l.length (to l.length + to (l.length + 1))) _ (by repeat (first | assumption | exact up_s | rw [up_n (by first | assumption | (apply Ne.symm; assumption) | decide | omega)])) (by repeat (first | assumption | exact up_s | rw [up_n (by first | assumption | (apply Ne.symm; assumption) | decide | omega)])) ⟨by rw [upI_s, R3, R1], by rw [upI_s, R4, R2], Rl_up l R5 (by omega) (by omega)⟩ ⟨⟨by omega, by omega, by omega⟩, g7⟩ (by simp only [szs]; omega) (by repeat (first | assumption | exact Fr.rf | refine Fr.up ?_ (by simp))) (fun σ2 l2 si2 to2 hl => kk σ2 l2 si2 to2 (hl.trans em.symm))
theorem lm_pools {x : CX} {d N : Nat} {σ : PH} {Q : PQ} {p s u l fi be rp cl dg nu pk wm ro : Int} (h84 : σ 84 = mdO p s u l fi be rp cl dg nu pk wm) {wf : Int → Int} (h85 : σ 85 = pcI 0 1404 wf) {v : MsV} (hG : GMs v) (hR : Rw wf ro v) (hr : 0 ≤ ro ∧ ro ≤ 1287) (hp : p = v.1) (hs : s = v.2.1) (hd : 2 ≤ d) (kk : ∀ (σ2 : PH) (si2 to2 : Int → Int), σ2 91 = pcI 0 8 si2 → σ2 92 = pcI 0 8 to2 → Rl to2 si2 (pls v) → GB 90000 (pls v) → Fr σ σ2 [91, 92] → P x d mX7_layTable Q (0, 0) 126 [some (vR 84), some (vI ro), some (vI (pls v).length), some (vI v.1), none, none, none] [] N σ2)  : ∀ (t k : Nat) (σ' : PH) (si to : Int → Int), (k : Int) ≤ v.1 → v.1 - k < t → σ' 91 = pcI 0 8 si → σ' 92 = pcI 0 8 to → Rl to si (pool (wnt v) k) → Fr σ σ' [91, 92] → P x d mX7_layTable Q (0, 0) 4 [some (vR 84), some (vI ro), some (vI (pool (wnt v) k).length), some (vI k), none, none, none] [] N σ' := by
  intro t
  induction t with
  | zero =>
    intro k σ' si to hk ht h91 h92 hRl hFr
    exfalso; omega
  | succ t ih =>
    intro k σ' si to hk ht h91 h92 hRl hFr
    have hp8 := hG.1
    have hz := pool_szs (wnt v) k
    have hg := pool_GB (B := 90000) (w := wnt v) k (fun i hi => wnt_b hG (by omega) (by omega))
    have hlen := GB_len _ hg
    have x84 := (hFr 84 (by decide)).trans h84
    have x85 := (hFr 85 (by decide)).trans h85
    refine P.iload_n (dq dtX7_layTable_0 4 rfl) rfl ?_
    refine P.aload_n (dq dtX7_layTable_0 5 rfl) rfl ?_
    refine P.get flX7_7 (dq dtX7_layTable_0 6 rfl) (by repeat (first | assumption | exact up_s | rw [up_n (by first | assumption | (apply Ne.symm; assumption) | decide | omega)])) (by rfl) ?_
    refine P.icmp_ge (t := 126) (dq dtX7_layTable_0 7 rfl) rfl (by omega) (by omega) (fun c_9 => ?_) (fun c_9 => ?_)
    · obtain rfl : k = v.1.toNat := by omega
      rw [show ((v.1.toNat : Nat) : Int) = v.1 by omega]
      exact kk σ' si to h91 h92 hRl hg hFr
    · have wb := wnt_b hG (k := (k : Int)) (by omega) (by omega)
      refine P.aload_n (dq dtX7_layTable_0 8 rfl) rfl ?_
      refine P.get flX7_36 (dq dtX7_layTable_0 9 rfl) (by repeat (first | assumption | exact up_s | rw [up_n (by first | assumption | (apply Ne.symm; assumption) | decide | omega)])) (by rfl) ?_
      refine P.iload_n (dq dtX7_layTable_0 10 rfl) rfl ?_
      refine P.iconst (dq dtX7_layTable_0 11 rfl) ?_
      refine P.iast (dq dtX7_layTable_0 12 rfl) (by repeat (first | assumption | exact up_s | rw [up_n (by first | assumption | (apply Ne.symm; assumption) | decide | omega)])) (by omega) (by omega) (by omega) ?_
      refine P.aload_n (dq dtX7_layTable_0 13 rfl) rfl ?_
      refine P.get flX7_39 (dq dtX7_layTable_0 14 rfl) (by repeat (first | assumption | exact up_s | rw [up_n (by first | assumption | (apply Ne.symm; assumption) | decide | omega)])) (by rfl) ?_
      refine P.iload_n (dq dtX7_layTable_0 15 rfl) rfl ?_
      refine P.aload_n (dq dtX7_layTable_0 16 rfl) rfl ?_
      refine P.iload_n (dq dtX7_layTable_0 17 rfl) rfl ?_
      refine P.iload_n (dq dtX7_layTable_0 18 rfl) rfl ?_
      refine P.callV2 (M' := mX7_wanted) (d' := d - 1) mlX7_175 mcX7_wanted mvX7_wanted (dq dtX7_layTable_0 19 rfl) (by omega) (Nat.le_of_ble_eq_true rfl) (by repeat (first | assumption | exact up_s | rw [up_n (by first | assumption | (apply Ne.symm; assumption) | decide | omega)])) rfl ?_
      refine ct_X7_wanted (by repeat (first | assumption | exact up_s | rw [up_n (by first | assumption | (apply Ne.symm; assumption) | decide | omega)])) (by repeat (first | assumption | exact up_s | rw [up_n (by first | assumption | (apply Ne.symm; assumption) | decide | omega)])) hG hR hr hs (by omega) ⟨by omega, by omega⟩ ?_
      refine P.iast (dq dtX7_layTable_0 20 rfl) (by repeat (first | assumption | exact up_s | rw [up_n (by first | assumption | (apply Ne.symm; assumption) | decide | omega)])) (by omega) (by omega) (by omega) ?_
      refine P.iinc (dq dtX7_layTable_0 21 rfl) rfl (by decide) rfl rfl ?_
      refine lm_merge (σ := σ) h84 (pool (wnt v) k) (wnt v k) 1 (upI si (pool (wnt v) k).length 1) (upI to (pool (wnt v) k).length (wnt v k)) _ (by repeat (first | assumption | exact up_s | rw [up_n (by first | assumption | (apply Ne.symm; assumption) | decide | omega)])) (by repeat (first | assumption | exact up_s | rw [up_n (by first | assumption | (apply Ne.symm; assumption) | decide | omega)])) ⟨upI_s, upI_s, Rl_up _ hRl (by omega) (by omega)⟩ ⟨⟨by omega, by omega, by omega⟩, hg⟩ (by simp only [szs]; omega) (by repeat (first | assumption | exact Fr.rf | refine Fr.up ?_ (by simp))) (fun σ2 l2 si2 to2 hl q1 q2 q3 q4 q5 => ?_)
      subst hl
      refine P.iinc (dq dtX7_layTable_1 20 rfl) rfl (by decide) rfl rfl ?_
      refine P.goto (t := 4) (dq dtX7_layTable_1 21 rfl) rfl ?_
      have hh := ih (k + 1) σ2 si2 to2 (by omega) (by omega) q1 q2 q3 q5
      rw [show ((k + 1 : Nat) : Int) = (k : Int) + 1 by omega] at hh
      exact hh
theorem FgR.co0 {v : MsV} {F : FgV} (hG : GMs v) (h : FgR v F) : F.2.2.2.2.2.2 0 = gF F.2.2.2.2.1 F.2.2.2.1 F.2.2.2.2.2.1 0 := by
  have := h.2.2.2.2.2 0 (by have := hG.1; omega)
  exact this
theorem FgR.pfl {v : MsV} {F : FgV} (hG : GMs v) (h : FgR v F) {i : Int} (h0 : 0 ≤ i) (h1 : i < v.1) : 0 ≤ F.2.2.2.2.2.1 i ∧ F.2.2.2.2.2.1 i < (pls v).length := by
  have hs1 : ∀ i : Int, 0 ≤ i → i < (pls v).length → 1 ≤ F.2.2.2.1 i := fun i g1 g2 => (Rl_GB _ h.2.2.2.1 (pls_GB hG) i g1 g2).1
  obtain ⟨j, q1, q2, q3⟩ := in_pool (pls v).length hs1 i h0 (by rw [← Rl_sum _ h.2.2.2.1, pls_sz hG]; exact h1)
  rw [PO_at h.2.2.2.2.1 q1 q2 q3]
  omega
theorem FgR.coS {v : MsV} {F : FgV} (h : FgR v F) {q : Int} (h0 : 0 < q) (h1 : q < v.1) : F.2.2.2.2.2.2 q = if gF F.2.2.2.2.1 F.2.2.2.1 F.2.2.2.2.2.1 q ≤ F.2.2.2.2.2.2 (q - 1) then F.2.2.2.2.2.2 (q - 1) + 1 else gF F.2.2.2.2.1 F.2.2.2.1 F.2.2.2.2.2.1 q := by
  obtain ⟨n, rfl⟩ : ∃ n : Nat, q = ((n + 1 : Nat) : Int) := ⟨(q - 1).toNat, by omega⟩
  have a1 := h.2.2.2.2.2 (n + 1) h1
  have a0 := h.2.2.2.2.2 n (by omega)
  rw [a1, show ((n + 1 : Nat) : Int) - 1 = (n : Int) by omega, a0]
  rfl
theorem lm_cnt {x : CX} {d N : Nat} {σ : PH} {Q : PQ} {p s u l fi be rp cl dg nu pk wm ro : Int} {si to : Int → Int} {v : MsV} {F : FgV} (hd : 2 ≤ d) (h84 : σ 84 = mdO p s u l fi be rp cl dg nu pk wm) (h91 : σ 91 = pcI 0 8 si) (h92 : σ 92 = pcI 0 8 to) (hG : GMs v) (hF : FgR v F) (heq : ∀ i : Int, 0 ≤ i → i < (pls v).length → to i = F.2.2.2.2.1 i ∧ si i = F.2.2.2.1 i) {k : Nat} (hk : k < (pls v).length) (kk : ∀ (σ2 : PH) (co2 pf2 : Int → Int), σ2 89 = pcI 0 8 co2 → σ2 90 = pcI 0 8 pf2 → (∀ i : Int, 0 ≤ i → i < sumF F.2.2.2.1 0 (k + 1) → co2 i = F.2.2.2.2.2.2 i ∧ pf2 i = F.2.2.2.2.2.1 i) → Fr σ σ2 [89, 90] → P x d mX7_layTable Q (0, 0) 229 [some (vR 84), some (vI ro), some (vI (pls v).length), some (vI (sumF F.2.2.2.1 0 (k + 1))), some (vI k), none, none] [] N σ2)  : ∀ (t : Nat) (j : Int) (co pf : Int → Int) (σ' : PH), 0 ≤ j ∧ j ≤ F.2.2.2.1 k → F.2.2.2.1 k - j < t → σ' 89 = pcI 0 8 co → σ' 90 = pcI 0 8 pf → (∀ i : Int, 0 ≤ i → i < sumF F.2.2.2.1 0 k + j → co i = F.2.2.2.2.2.2 i ∧ pf i = F.2.2.2.2.2.1 i) → Fr σ σ' [89, 90] → P x d mX7_layTable Q (0, 0) 140 [some (vR 84), some (vI ro), some (vI (pls v).length), some (vI (sumF F.2.2.2.1 0 k + j)), some (vI k), some (vI j), none] [] N σ' := by
  intro t
  induction t with
  | zero =>
    intro j co pf σ' hj ht h89 h90 hok hFr
    exfalso; omega
  | succ t ih =>
    intro j co pf σ' hj ht h89 h90 hok hFr
    have hp8 := hG.1
    have hGB := pls_GB hG
    have hl8 := GB_len _ hGB
    have hsz := pls_sz hG
    have gb := Rl_GB _ hF.2.2.2.1 hGB
    have hsum := Rl_sum _ hF.2.2.2.1
    have hs1 : ∀ i : Int, 0 ≤ i → i < (pls v).length → 1 ≤ F.2.2.2.1 i := fun i g1 g2 => (gb i g1 g2).1
    obtain ⟨eto, esi⟩ := heq k (by omega) (by omega)
    have gk := gb k (by omega) (by omega)
    have hmo := sumF_mono hs1 (k + 1) (pls v).length (by omega) (by omega)
    have hsx : sumF F.2.2.2.1 0 (k + 1) = sumF F.2.2.2.1 0 k + F.2.2.2.1 (0 + k) := rfl
    rw [Int.zero_add] at hsx
    have hm0 := sumF_mono hs1 0 k (by omega) (by omega)
    have hm00 : sumF F.2.2.2.1 0 0 = 0 := rfl
    have x84 := (hFr 84 (by decide)).trans h84
    have x91 := (hFr 91 (by decide)).trans h91
    have x92 := (hFr 92 (by decide)).trans h92
    refine P.iload (dq dtX7_layTable_1 31 rfl) rfl ?_
    refine P.aload_n (dq dtX7_layTable_1 32 rfl) rfl ?_
    refine P.get flX7_36 (dq dtX7_layTable_1 33 rfl) (by repeat (first | assumption | exact up_s | rw [up_n (by first | assumption | (apply Ne.symm; assumption) | decide | omega)])) (by rfl) ?_
    refine P.iload (dq dtX7_layTable_1 34 rfl) rfl ?_
    refine P.iald (dq dtX7_layTable_1 35 rfl) (by repeat (first | assumption | exact up_s | rw [up_n (by first | assumption | (apply Ne.symm; assumption) | decide | omega)])) (by omega) (by omega) (by omega) ?_
    rw [esi]
    refine P.icmp_ge (t := 229) (dq dtX7_layTable_1 36 rfl) rfl (by omega) (by omega) (fun c_149 => ?_) (fun c_149 => ?_)
    · refine P.keep [0, 1, 2, 3, 4] ?_
      obtain rfl : j = F.2.2.2.1 k := by omega
      have hh := kk σ' co pf h89 h90 (fun i g1 g2 => hok i g1 (by omega)) hFr
      rw [hsx] at hh
      exact hh
    · have epf := hF.2.2.2.2.1 k j hk (by omega) (by omega)
      have eg : gF F.2.2.2.2.1 F.2.2.2.1 F.2.2.2.2.2.1 (sumF F.2.2.2.1 0 k + j) = near (F.2.2.2.2.1 k) (120 * F.2.2.2.1 k) := by unfold gF; rw [epf]
      have gbd := gF_b (hF.pb hG) (i := sumF F.2.2.2.1 0 k + j) (by omega) (by omega)
      rw [eg] at gbd
      refine P.aload_n (dq dtX7_layTable_1 37 rfl) rfl ?_
      refine P.get flX7_39 (dq dtX7_layTable_1 38 rfl) (by repeat (first | assumption | exact up_s | rw [up_n (by first | assumption | (apply Ne.symm; assumption) | decide | omega)])) (by rfl) ?_
      refine P.iload (dq dtX7_layTable_1 39 rfl) rfl ?_
      refine P.iald (dq dtX7_layTable_1 40 rfl) (by repeat (first | assumption | exact up_s | rw [up_n (by first | assumption | (apply Ne.symm; assumption) | decide | omega)])) (by omega) (by omega) (by omega) ?_
      refine P.bipush (dq dtX7_layTable_1 41 rfl) rfl ?_
      refine P.aload_n (dq dtX7_layTable_1 42 rfl) rfl ?_
      refine P.get flX7_36 (dq dtX7_layTable_1 43 rfl) (by repeat (first | assumption | exact up_s | rw [up_n (by first | assumption | (apply Ne.symm; assumption) | decide | omega)])) (by rfl) ?_
      refine P.iload (dq dtX7_layTable_1 44 rfl) rfl ?_
      refine P.iald (dq dtX7_layTable_1 45 rfl) (by repeat (first | assumption | exact up_s | rw [up_n (by first | assumption | (apply Ne.symm; assumption) | decide | omega)])) (by omega) (by omega) (by omega) ?_
      refine P.imul (dq dtX7_layTable_1 46 rfl) ?_
      refine P.callS2 (M' := mX7_nearest) (d' := d - 1) mlX7_179 mcX7_nearest msX7_nearest (dq dtX7_layTable_1 47 rfl) (by omega) (Nat.le_of_ble_eq_true rfl) ?_
      rw [eto, esi]
      refine ct_X7_nearest (by omega) (by omega) ?_
      refine P.istore (dq dtX7_layTable_1 48 rfl) (by decide) rfl rfl ?_
      refine P.aload_n (dq dtX7_layTable_1 49 rfl) rfl ?_
      refine P.get flX7_30 (dq dtX7_layTable_1 50 rfl) (by repeat (first | assumption | exact up_s | rw [up_n (by first | assumption | (apply Ne.symm; assumption) | decide | omega)])) (by rfl) ?_
      refine P.iload_n (dq dtX7_layTable_1 51 rfl) rfl ?_
      refine P.iload_n (dq dtX7_layTable_1 52 rfl) rfl ?_
      refine P.if_le (t := 209) (dq dtX7_layTable_1 53 rfl) rfl (by omega) (fun c_180 => ?_) (fun c_180 => ?_)
      · refine P.iload (dq dtX7_layTable_2 7 rfl) rfl ?_
        refine P.iast (dq dtX7_layTable_2 8 rfl) (by repeat (first | assumption | exact up_s | rw [up_n (by first | assumption | (apply Ne.symm; assumption) | decide | omega)])) (by omega) (by omega) (by omega) ?_
        refine P.aload_n (dq dtX7_layTable_2 9 rfl) rfl ?_
        refine P.get flX7_33 (dq dtX7_layTable_2 10 rfl) (by repeat (first | assumption | exact up_s | rw [up_n (by first | assumption | (apply Ne.symm; assumption) | decide | omega)])) (by rfl) ?_
        refine P.iload_n (dq dtX7_layTable_2 11 rfl) rfl ?_
        refine P.iload (dq dtX7_layTable_2 12 rfl) rfl ?_
        refine P.iast (dq dtX7_layTable_2 13 rfl) (by repeat (first | assumption | exact up_s | rw [up_n (by first | assumption | (apply Ne.symm; assumption) | decide | omega)])) (by omega) (by omega) (by omega) ?_
        refine P.iinc (dq dtX7_layTable_2 14 rfl) rfl (by decide) rfl rfl ?_
        refine P.iinc (dq dtX7_layTable_2 15 rfl) rfl (by decide) rfl rfl ?_
        refine P.goto (t := 140) (dq dtX7_layTable_2 16 rfl) rfl ?_
        refine P.keep [0, 1, 2, 3, 4, 5] ?_
        have hh := ih (j + 1) (upI co (sumF F.2.2.2.1 0 k + j) (F.2.2.2.2.2.2 (sumF F.2.2.2.1 0 k + j))) (upI pf (sumF F.2.2.2.1 0 k + j) k) (up (up σ' 89 (pcI 0 8 (upI co (sumF F.2.2.2.1 0 k + j) (F.2.2.2.2.2.2 (sumF F.2.2.2.1 0 k + j))))) 90 (pcI 0 8 (upI pf (sumF F.2.2.2.1 0 k + j) k))) (by omega) (by omega) (by repeat (first | assumption | exact up_s | rw [up_n (by first | assumption | (apply Ne.symm; assumption) | decide | omega)])) (by repeat (first | assumption | exact up_s | rw [up_n (by first | assumption | (apply Ne.symm; assumption) | decide | omega)])) (fun i g1 g2 => by
          by_cases e : i = sumF F.2.2.2.1 0 k + j
          · rw [e, upI_s, upI_s, epf]; exact ⟨rfl, rfl⟩
          · rw [upI_n e, upI_n e]; exact hok i g1 (by omega)) (by repeat (first | assumption | exact Fr.rf | refine Fr.up ?_ (by simp)))
        rw [show sumF F.2.2.2.1 0 k + (j + 1) = sumF F.2.2.2.1 0 k + j + 1 by omega] at hh
        first
        | (rw [hF.coS (q := sumF F.2.2.2.1 0 k + j) (by omega) (by omega), ← (hok (sumF F.2.2.2.1 0 k + j - 1) (by omega) (by omega)).1, eg, if_pos (by omega)] at hh; exact hh)
        | (rw [hF.coS (q := sumF F.2.2.2.1 0 k + j) (by omega) (by omega), ← (hok (sumF F.2.2.2.1 0 k + j - 1) (by omega) (by omega)).1, eg, if_neg (by omega)] at hh; exact hh)
        | (rw [show F.2.2.2.2.2.2 (sumF F.2.2.2.1 0 k + j) = near (F.2.2.2.2.1 k) (120 * F.2.2.2.1 k) from (by rw [← eg, show sumF F.2.2.2.1 0 k + j = 0 by omega]; exact hF.co0 hG)] at hh; exact hh)
      · refine P.iload (dq dtX7_layTable_1 54 rfl) rfl ?_
        refine P.aload_n (dq dtX7_layTable_1 55 rfl) rfl ?_
        refine P.get flX7_30 (dq dtX7_layTable_1 56 rfl) (by repeat (first | assumption | exact up_s | rw [up_n (by first | assumption | (apply Ne.symm; assumption) | decide | omega)])) (by rfl) ?_
        refine P.iload_n (dq dtX7_layTable_1 57 rfl) rfl ?_
        refine P.iconst (dq dtX7_layTable_1 58 rfl) ?_
        refine P.isub (dq dtX7_layTable_1 59 rfl) ?_
        refine P.iald (dq dtX7_layTable_1 60 rfl) (by repeat (first | assumption | exact up_s | rw [up_n (by first | assumption | (apply Ne.symm; assumption) | decide | omega)])) (by omega) (by omega) (by omega) ?_
        refine P.icmp_gt (t := 209) (dq dtX7_layTable_1 61 rfl) rfl (by omega) (by rw [(hok _ (by omega) (by omega)).1]; have := (hF.tb hG).1 (sumF F.2.2.2.1 0 k + j - 1) (by omega) (by omega); omega) (fun c_193 => ?_) (fun c_193 => ?_)
        · refine P.iload (dq dtX7_layTable_2 7 rfl) rfl ?_
          refine P.iast (dq dtX7_layTable_2 8 rfl) (by repeat (first | assumption | exact up_s | rw [up_n (by first | assumption | (apply Ne.symm; assumption) | decide | omega)])) (by omega) (by omega) (by omega) ?_
          refine P.aload_n (dq dtX7_layTable_2 9 rfl) rfl ?_
          refine P.get flX7_33 (dq dtX7_layTable_2 10 rfl) (by repeat (first | assumption | exact up_s | rw [up_n (by first | assumption | (apply Ne.symm; assumption) | decide | omega)])) (by rfl) ?_
          refine P.iload_n (dq dtX7_layTable_2 11 rfl) rfl ?_
          refine P.iload (dq dtX7_layTable_2 12 rfl) rfl ?_
          refine P.iast (dq dtX7_layTable_2 13 rfl) (by repeat (first | assumption | exact up_s | rw [up_n (by first | assumption | (apply Ne.symm; assumption) | decide | omega)])) (by omega) (by omega) (by omega) ?_
          refine P.iinc (dq dtX7_layTable_2 14 rfl) rfl (by decide) rfl rfl ?_
          refine P.iinc (dq dtX7_layTable_2 15 rfl) rfl (by decide) rfl rfl ?_
          refine P.goto (t := 140) (dq dtX7_layTable_2 16 rfl) rfl ?_
          refine P.keep [0, 1, 2, 3, 4, 5] ?_
          have hh := ih (j + 1) (upI co (sumF F.2.2.2.1 0 k + j) (F.2.2.2.2.2.2 (sumF F.2.2.2.1 0 k + j))) (upI pf (sumF F.2.2.2.1 0 k + j) k) (up (up σ' 89 (pcI 0 8 (upI co (sumF F.2.2.2.1 0 k + j) (F.2.2.2.2.2.2 (sumF F.2.2.2.1 0 k + j))))) 90 (pcI 0 8 (upI pf (sumF F.2.2.2.1 0 k + j) k))) (by omega) (by omega) (by repeat (first | assumption | exact up_s | rw [up_n (by first | assumption | (apply Ne.symm; assumption) | decide | omega)])) (by repeat (first | assumption | exact up_s | rw [up_n (by first | assumption | (apply Ne.symm; assumption) | decide | omega)])) (fun i g1 g2 => by
            by_cases e : i = sumF F.2.2.2.1 0 k + j
            · rw [e, upI_s, upI_s, epf]; exact ⟨rfl, rfl⟩
            · rw [upI_n e, upI_n e]; exact hok i g1 (by omega)) (by repeat (first | assumption | exact Fr.rf | refine Fr.up ?_ (by simp)))
          rw [show sumF F.2.2.2.1 0 k + (j + 1) = sumF F.2.2.2.1 0 k + j + 1 by omega] at hh
          first
          | (rw [hF.coS (q := sumF F.2.2.2.1 0 k + j) (by omega) (by omega), ← (hok (sumF F.2.2.2.1 0 k + j - 1) (by omega) (by omega)).1, eg, if_pos (by omega)] at hh; exact hh)
          | (rw [hF.coS (q := sumF F.2.2.2.1 0 k + j) (by omega) (by omega), ← (hok (sumF F.2.2.2.1 0 k + j - 1) (by omega) (by omega)).1, eg, if_neg (by omega)] at hh; exact hh)
          | (rw [show F.2.2.2.2.2.2 (sumF F.2.2.2.1 0 k + j) = near (F.2.2.2.2.1 k) (120 * F.2.2.2.1 k) from (by rw [← eg, show sumF F.2.2.2.1 0 k + j = 0 by omega]; exact hF.co0 hG)] at hh; exact hh)
        · refine P.aload_n (dq dtX7_layTable_1 62 rfl) rfl ?_
          refine P.get flX7_30 (dq dtX7_layTable_1 63 rfl) (by repeat (first | assumption | exact up_s | rw [up_n (by first | assumption | (apply Ne.symm; assumption) | decide | omega)])) (by rfl) ?_
          refine P.iload_n (dq dtX7_layTable_2 0 rfl) rfl ?_
          refine P.iconst (dq dtX7_layTable_2 1 rfl) ?_
          refine P.isub (dq dtX7_layTable_2 2 rfl) ?_
          refine P.iald (dq dtX7_layTable_2 3 rfl) (by repeat (first | assumption | exact up_s | rw [up_n (by first | assumption | (apply Ne.symm; assumption) | decide | omega)])) (by omega) (by omega) (by omega) ?_
          refine P.iconst (dq dtX7_layTable_2 4 rfl) ?_
          refine P.iadd (dq dtX7_layTable_2 5 rfl) ?_
          refine P.goto (t := 211) (dq dtX7_layTable_2 6 rfl) rfl ?_
          refine P.iast (dq dtX7_layTable_2 8 rfl) (by repeat (first | assumption | exact up_s | rw [up_n (by first | assumption | (apply Ne.symm; assumption) | decide | omega)])) (by omega) (by omega) (by omega) ?_
          refine P.aload_n (dq dtX7_layTable_2 9 rfl) rfl ?_
          refine P.get flX7_33 (dq dtX7_layTable_2 10 rfl) (by repeat (first | assumption | exact up_s | rw [up_n (by first | assumption | (apply Ne.symm; assumption) | decide | omega)])) (by rfl) ?_
          refine P.iload_n (dq dtX7_layTable_2 11 rfl) rfl ?_
          refine P.iload (dq dtX7_layTable_2 12 rfl) rfl ?_
          refine P.iast (dq dtX7_layTable_2 13 rfl) (by repeat (first | assumption | exact up_s | rw [up_n (by first | assumption | (apply Ne.symm; assumption) | decide | omega)])) (by omega) (by omega) (by omega) ?_
          refine P.iinc (dq dtX7_layTable_2 14 rfl) rfl (by decide) rfl rfl ?_
          refine P.iinc (dq dtX7_layTable_2 15 rfl) rfl (by decide) rfl rfl ?_
          refine P.goto (t := 140) (dq dtX7_layTable_2 16 rfl) rfl ?_
          refine P.keep [0, 1, 2, 3, 4, 5] ?_
          have hh := ih (j + 1) (upI co (sumF F.2.2.2.1 0 k + j) (F.2.2.2.2.2.2 (sumF F.2.2.2.1 0 k + j))) (upI pf (sumF F.2.2.2.1 0 k + j) k) (up (up σ' 89 (pcI 0 8 (upI co (sumF F.2.2.2.1 0 k + j) (F.2.2.2.2.2.2 (sumF F.2.2.2.1 0 k + j))))) 90 (pcI 0 8 (upI pf (sumF F.2.2.2.1 0 k + j) k))) (by omega) (by omega) (by repeat (first | assumption | exact up_s | rw [up_n (by first | assumption | (apply Ne.symm; assumption) | decide | omega)])) (by repeat (first | assumption | exact up_s | rw [up_n (by first | assumption | (apply Ne.symm; assumption) | decide | omega)])) (fun i g1 g2 => by
            by_cases e : i = sumF F.2.2.2.1 0 k + j
            · rw [e, upI_s, upI_s, epf]; exact ⟨rfl, rfl⟩
            · rw [upI_n e, upI_n e]; exact hok i g1 (by omega)) (by repeat (first | assumption | exact Fr.rf | refine Fr.up ?_ (by simp)))
          rw [show sumF F.2.2.2.1 0 k + (j + 1) = sumF F.2.2.2.1 0 k + j + 1 by omega] at hh
          first
          | (rw [hF.coS (q := sumF F.2.2.2.1 0 k + j) (by omega) (by omega), ← (hok (sumF F.2.2.2.1 0 k + j - 1) (by omega) (by omega)).1, eg, if_pos (by omega)] at hh; exact hh)
          | (rw [hF.coS (q := sumF F.2.2.2.1 0 k + j) (by omega) (by omega), ← (hok (sumF F.2.2.2.1 0 k + j - 1) (by omega) (by omega)).1, eg, if_neg (by omega)] at hh; exact hh)
          | (rw [show F.2.2.2.2.2.2 (sumF F.2.2.2.1 0 k + j) = near (F.2.2.2.2.1 k) (120 * F.2.2.2.1 k) from (by rw [← eg, show sumF F.2.2.2.1 0 k + j = 0 by omega]; exact hF.co0 hG)] at hh; exact hh)
theorem lm_cnt2 {x : CX} {d N : Nat} {σ : PH} {Q : PQ} {p s u l fi be rp cl dg nu pk wm ro : Int} {si to : Int → Int} {v : MsV} {F : FgV} (hd : 2 ≤ d) (h84 : σ 84 = mdO p s u l fi be rp cl dg nu pk wm) (h91 : σ 91 = pcI 0 8 si) (h92 : σ 92 = pcI 0 8 to) (hG : GMs v) (hF : FgR v F) (heq : ∀ i : Int, 0 ≤ i → i < (pls v).length → to i = F.2.2.2.2.1 i ∧ si i = F.2.2.2.1 i) (kk : ∀ (σ2 : PH) (co2 pf2 : Int → Int), σ2 89 = pcI 0 8 co2 → σ2 90 = pcI 0 8 pf2 → (∀ i : Int, 0 ≤ i → i < v.1 → co2 i = F.2.2.2.2.2.2 i ∧ pf2 i = F.2.2.2.2.2.1 i) → Fr σ σ2 [89, 90] → P x d mX7_layTable Q (0, 0) 235 [some (vR 84), some (vI ro), some (vI (pls v).length), some (vI v.1), none, none, none] [] N σ2)  : ∀ (t k : Nat) (co pf : Int → Int) (σ' : PH), k ≤ (pls v).length → (pls v).length - k < t → σ' 89 = pcI 0 8 co → σ' 90 = pcI 0 8 pf → (∀ i : Int, 0 ≤ i → i < sumF F.2.2.2.1 0 k → co i = F.2.2.2.2.2.2 i ∧ pf i = F.2.2.2.2.2.1 i) → Fr σ σ' [89, 90] → P x d mX7_layTable Q (0, 0) 131 [some (vR 84), some (vI ro), some (vI (pls v).length), some (vI (sumF F.2.2.2.1 0 k)), some (vI k), none, none] [] N σ' := by
  intro t
  induction t with
  | zero =>
    intro k co pf σ' hk ht h89 h90 hok hFr
    exfalso; omega
  | succ t ih =>
    intro k co pf σ' hk ht h89 h90 hok hFr
    have hp8 := hG.1
    have hGB := pls_GB hG
    have hl8 := GB_len _ hGB
    have hsz := pls_sz hG
    have gb := Rl_GB _ hF.2.2.2.1 hGB
    have hsum := Rl_sum _ hF.2.2.2.1
    have hs1 : ∀ i : Int, 0 ≤ i → i < (pls v).length → 1 ≤ F.2.2.2.1 i := fun i g1 g2 => (gb i g1 g2).1
    have hmk := fun (q : k < (pls v).length) => sumF_mono hs1 (k + 1) (pls v).length (by omega) (by omega)
    have gkk := fun (q : k < (pls v).length) => gb k (by omega) (by omega)
    have hsx : sumF F.2.2.2.1 0 (k + 1) = sumF F.2.2.2.1 0 k + F.2.2.2.1 (0 + k) := rfl
    rw [Int.zero_add] at hsx
    have hm0 := sumF_mono hs1 0 k (by omega) (by omega)
    have hm00 : sumF F.2.2.2.1 0 0 = 0 := rfl
    have x84 := (hFr 84 (by decide)).trans h84
    refine P.iload (dq dtX7_layTable_1 26 rfl) rfl ?_
    refine P.iload_n (dq dtX7_layTable_1 27 rfl) rfl ?_
    refine P.icmp_ge (t := 235) (dq dtX7_layTable_1 28 rfl) rfl (by omega) (by omega) (fun c_134 => ?_) (fun c_134 => ?_)
    · refine P.keep [0, 1, 2, 3] ?_
      obtain rfl : k = (pls v).length := by omega
      have hh := kk σ' co pf h89 h90 (fun i g1 g2 => hok i g1 (by rw [← hsum, hsz]; exact g2)) hFr
      rw [← hsz, hsum] at hh
      exact hh
    · refine P.iconst (dq dtX7_layTable_1 29 rfl) ?_
      refine P.istore (dq dtX7_layTable_1 30 rfl) (by decide) rfl rfl ?_
      refine P.keep [0, 1, 2, 3, 4, 5] ?_
      have hh := lm_cnt (σ := σ) (ro := ro) (x := x) (N := N) (Q := Q) hd h84 h91 h92 hG hF heq (k := k) (by omega) (fun σ2 co2 pf2 q1 q2 q3 q4 => ?_) 9 0 co pf σ' ⟨by omega, by omega⟩ (by omega) h89 h90 (fun i g1 g2 => hok i g1 (by omega)) hFr
      · rw [Int.add_zero] at hh
        exact hh
      · refine P.iinc (dq dtX7_layTable_2 17 rfl) rfl (by decide) rfl rfl ?_
        refine P.goto (t := 131) (dq dtX7_layTable_2 18 rfl) rfl ?_
        have hh := ih (k + 1) co2 pf2 σ2 (by omega) (by omega) q1 q2 q3 q4
        rw [show ((k + 1 : Nat) : Int) = (k : Int) + 1 by omega] at hh
        exact hh
/-- layTable -/
theorem ct_X7_layTable {x : CM} {d N : Nat} {σ : PH} {Q : PQ} {p s u l fi be rp cl dg nu pk wm ro : Int} (h84 : σ 84 = mdO p s u l fi be rp cl dg nu pk wm) {wf : Int → Int} (h85 : σ 85 = pcI 0 1404 wf) {v : MsV} (hG : GMs v) (hR : Rw wf ro v) (hr : 0 ≤ ro ∧ ro ≤ 1287) (hp : p = v.1) (hs : s = v.2.1) (hd : 2 ≤ d) {a1 a2 a3 a4 : Int → Int} (h89 : σ 89 = pcI 0 8 a1) (h90 : σ 90 = pcI 0 8 a2) (h91 : σ 91 = pcI 0 8 a3) (h92 : σ 92 = pcI 0 8 a4) {F : FgV} (hF : FgR v F) (h : ∀ (σ2 : PH) (co pf si to : Int → Int), σ2 84 = mdO p s u l fi be rp cl dg nu (plc v.1 (plp v)) wm → σ2 89 = pcI 0 8 co → σ2 90 = pcI 0 8 pf → σ2 91 = pcI 0 8 si → σ2 92 = pcI 0 8 to → (∀ i : Int, 0 ≤ i → i < v.1 → co i = F.2.2.2.2.2.2 i ∧ pf i = F.2.2.2.2.2.1 i ∧ si (pf i) = F.2.2.2.1 (pf i) ∧ to (pf i) = F.2.2.2.2.1 (pf i)) → Fr σ σ2 [84, 89, 90, 91, 92] → Q none σ2) : Call x d 0 0 mX7_layTable [vR 84, vI ro] N σ Q := by
  refine Call.of mcX7_layTable (Nat.le_of_ble_eq_true rfl) (fun y hy => ?_)
  subst hy
  have hp8 := hG.1
  have plB := plT_b (m := mm v) v.1.toNat (fun t g1 g2 => mm_b hG g1 (by omega))
  have plB2 : -100000000 ≤ plp v ∧ plp v ≤ 100000000 := by unfold plp; omega
  have nb := near_b (a := plp v) (c := 60 * v.1) (b := 80) (by omega) (by omega) (by unfold plp; omega) (by unfold plp; omega)
  refine P.iconst (dq dtX7_layTable_0 0 rfl) ?_
  refine P.istore_n (dq dtX7_layTable_0 1 rfl) (by decide) rfl rfl ?_
  refine P.iconst (dq dtX7_layTable_0 2 rfl) ?_
  refine P.istore_n (dq dtX7_layTable_0 3 rfl) (by decide) rfl rfl ?_
  refine lm_pools (σ := σ) h84 h85 hG hR hr hp hs hd (fun σ2 si to q1 q2 q3 q4 q5 => ?_) 9 0 σ a3 a4 (by omega) (by omega) h91 h92 trivial Fr.rf
  have heq := Rl_eq _ q3 hF.2.2.2.1
  have x84 := (q5 84 (by decide)).trans h84
  have x85 := (q5 85 (by decide)).trans h85
  refine P.iconst (dq dtX7_layTable_1 22 rfl) ?_
  refine P.istore_n (dq dtX7_layTable_1 23 rfl) (by decide) rfl rfl ?_
  refine P.iconst (dq dtX7_layTable_1 24 rfl) ?_
  refine P.istore (dq dtX7_layTable_1 25 rfl) (by decide) rfl rfl ?_
  have hh := lm_cnt2 (σ := σ2) (ro := ro) (x := y) (N := N) (Q := Q) hd x84 q1 q2 hG hF heq (fun σ3 co pf z1 z2 z3 z4 => ?_) 9 0 a1 a2 σ2 (by omega) (by have := GB_len _ q4; have := pls_sz hG; omega) ((q5 89 (by decide)).trans h89) ((q5 90 (by decide)).trans h90) (fun i g1 g2 => absurd g2 (by show ¬ i < (0 : Int); omega)) Fr.rf
  · exact hh
  · have y84 := (z4 84 (by decide)).trans x84
    have y85 := (z4 85 (by decide)).trans x85
    refine P.aload_n (dq dtX7_layTable_2 19 rfl) rfl ?_
    refine P.iload_n (dq dtX7_layTable_2 20 rfl) rfl ?_
    refine P.callV1 (M' := mX7_sixtyPlays) (d' := d - 1) mlX7_182 mcX7_sixtyPlays mvX7_sixtyPlays (dq dtX7_layTable_2 21 rfl) (by omega) (Nat.le_of_ble_eq_true rfl) (by repeat (first | assumption | exact up_s | rw [up_n (by first | assumption | (apply Ne.symm; assumption) | decide | omega)])) rfl ?_
    refine ct_X7_sixtyPlays y84 y85 hG hR hr hp (by omega) ?_
    refine P.bipush (dq dtX7_layTable_2 22 rfl) rfl ?_
    refine P.aload_n (dq dtX7_layTable_2 23 rfl) rfl ?_
    refine P.get flX7_7 (dq dtX7_layTable_2 24 rfl) (by repeat (first | assumption | exact up_s | rw [up_n (by first | assumption | (apply Ne.symm; assumption) | decide | omega)])) (by rfl) ?_
    refine P.imul (dq dtX7_layTable_2 25 rfl) ?_
    refine P.callS2 (M' := mX7_nearest) (d' := d - 1) mlX7_179 mcX7_nearest msX7_nearest (dq dtX7_layTable_2 26 rfl) (by omega) (Nat.le_of_ble_eq_true rfl) ?_
    rw [hp]
    refine ct_X7_nearest plB2 (by omega) ?_
    refine P.istore (dq dtX7_layTable_2 27 rfl) (by decide) rfl rfl ?_
    refine P.aload_n (dq dtX7_layTable_2 28 rfl) rfl ?_
    refine P.iload (dq dtX7_layTable_2 29 rfl) rfl ?_
    refine P.if_ge (t := 262) (dq dtX7_layTable_2 30 rfl) rfl (by omega) (fun c_255 => ?_) (fun c_255 => ?_)
    · refine P.iload (dq dtX7_layTable_2 33 rfl) rfl ?_
      refine P.put flX7_185 rfl (dq dtX7_layTable_2 34 rfl) (by repeat (first | assumption | exact up_s | rw [up_n (by first | assumption | (apply Ne.symm; assumption) | decide | omega)])) (by exact Nat.le_of_ble_eq_true rfl) rfl rfl rfl rfl rfl ?_
      refine P.vret (dq dtX7_layTable_2 35 rfl) rfl rfl rfl ?_
      have pfb := fun (i : Int) (g1 : 0 ≤ i) (g2 : i < v.1) => (z3 i g1 g2).2 ▸ hF.pfl hG g1 g2
      exact h _ co pf si to (by
        rw [up_s]
        first
        | rw [show plc v.1 (plp v) = 0 from (by unfold plc; exact if_pos (by omega))]
        | rw [show plc v.1 (plp v) = near (plp v) (60 * v.1) from (by unfold plc; split <;> omega)]
        rfl) ((by repeat (first | assumption | exact up_s | rw [up_n (by first | assumption | (apply Ne.symm; assumption) | decide | omega)]))) ((by repeat (first | assumption | exact up_s | rw [up_n (by first | assumption | (apply Ne.symm; assumption) | decide | omega)]))) ((up_n (by decide)).trans ((z4 91 (by decide)).trans q1)) ((up_n (by decide)).trans ((z4 92 (by decide)).trans q2)) (fun i g1 g2 => ⟨(z3 i g1 g2).1, (z3 i g1 g2).2, (heq _ (pfb i g1 g2).1 (pfb i g1 g2).2).2, (heq _ (pfb i g1 g2).1 (pfb i g1 g2).2).1⟩) (Fr.up (Fr.trans (q5.wide (by simp)) (z4.wide (by simp))) (by simp))
    · refine P.iconst (dq dtX7_layTable_2 31 rfl) ?_
      refine P.goto (t := 264) (dq dtX7_layTable_2 32 rfl) rfl ?_
      refine P.put flX7_185 rfl (dq dtX7_layTable_2 34 rfl) (by repeat (first | assumption | exact up_s | rw [up_n (by first | assumption | (apply Ne.symm; assumption) | decide | omega)])) (by exact Nat.le_of_ble_eq_true rfl) rfl rfl rfl rfl rfl ?_
      refine P.vret (dq dtX7_layTable_2 35 rfl) rfl rfl rfl ?_
      have pfb := fun (i : Int) (g1 : 0 ≤ i) (g2 : i < v.1) => (z3 i g1 g2).2 ▸ hF.pfl hG g1 g2
      exact h _ co pf si to (by
        rw [up_s]
        first
        | rw [show plc v.1 (plp v) = 0 from (by unfold plc; exact if_pos (by omega))]
        | rw [show plc v.1 (plp v) = near (plp v) (60 * v.1) from (by unfold plc; split <;> omega)]
        rfl) ((by repeat (first | assumption | exact up_s | rw [up_n (by first | assumption | (apply Ne.symm; assumption) | decide | omega)]))) ((by repeat (first | assumption | exact up_s | rw [up_n (by first | assumption | (apply Ne.symm; assumption) | decide | omega)]))) ((up_n (by decide)).trans ((z4 91 (by decide)).trans q1)) ((up_n (by decide)).trans ((z4 92 (by decide)).trans q2)) (fun i g1 g2 => ⟨(z3 i g1 g2).1, (z3 i g1 g2).2, (heq _ (pfb i g1 g2).1 (pfb i g1 g2).2).2, (heq _ (pfb i g1 g2).1 (pfb i g1 g2).2).1⟩) (Fr.up (Fr.trans (q5.wide (by simp)) (z4.wide (by simp))) (by simp))
