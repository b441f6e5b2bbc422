theorem lc_0 {x : CX} {Q : PQ} {b : Nat × Nat} {σ : PH} {S : CSt} {n : Nat} {xs : Nat → Int32} {i : Int} (hX : SX x n xs) (hi : 0 ≤ i) (hn : i + 4 ≤ n) (hS : CS σ S) (hM : MD σ S) (k : ∀ (σ' : PH) (S' : CSt), CS σ' S' → MD σ' S' → P x 12 mL_law Q b 1005 [some (vR 2000), some (vR 0), some (vR 84), some (vI i)] [] 96 σ') : P x 12 mL_law Q b 172 [some (vR 2000), some (vR 0), some (vR 84), some (vI i)] [] 96 σ := by
  have hG := hS.1
  refine P.aload_n (dq dtL_law_0 22 rfl) rfl ?_
  refine P.aload_n (dq dtL_law_0 23 rfl) rfl ?_
  refine P.iload_n (dq dtL_law_0 24 rfl) rfl ?_
  refine P.iconst (dq dtL_law_0 25 rfl) ?_
  refine P.iadd (dq dtL_law_0 26 rfl) ?_
  refine P.scld hX (dq dtL_law_0 27 rfl) (by omega) (by omega) ?_
  refine P.callV1 (M' := mX6_write) (d' := 11) mlL_13 mcX6_write mvX6_write (dq dtL_law_0 28 rfl) (by omega) (Nat.le_of_ble_eq_true rfl) hS.2.1.1 rfl ?_
  refine cf_write hS (by omega) (xz_R xs _) (fun σ1 hS1 f1 => ?_)
  have hM1 := hM.frC f1
  obtain ⟨wf, sz, lt, a1, a2, a3, a4, a5, fi, be, rp, cl, dg, nu, pk, wm, h84, -⟩ := id hM1
  refine P.aload_n (dq dtL_law_0 29 rfl) rfl ?_
  refine P.aload_n (dq dtL_law_0 30 rfl) rfl ?_
  refine P.iload_n (dq dtL_law_0 31 rfl) rfl ?_
  refine P.iconst (dq dtL_law_0 32 rfl) ?_
  refine P.iadd (dq dtL_law_0 33 rfl) ?_
  refine P.scld hX (dq dtL_law_0 34 rfl) (by omega) (by omega) ?_
  refine P.callV1 (M' := mX7_write) (d' := 11) mlL_17 mcX7_write mvX7_write (dq dtL_law_0 35 rfl) (by omega) (Nat.le_of_ble_eq_true rfl) h84 rfl ?_
  refine md_write hG hM1 (by omega) (xz_R xs _) (fun σ2 hM2 f2 => ?_)
  have hS2 := hS1.frM f2
  refine P.icmp_same (t := 1005) (dq dtL_law_0 36 rfl) rfl ?_
  exact k _ _ hS2 hM2
theorem lc_1 {x : CX} {Q : PQ} {b : Nat × Nat} {σ : PH} {S : CSt} {n : Nat} {xs : Nat → Int32} {i : Int} (hX : SX x n xs) (hi : 0 ≤ i) (hn : i + 4 ≤ n) (hS : CS σ S) (hM : MD σ S) (k : ∀ (σ' : PH) (S' : CSt), CS σ' S' → MD σ' S' → P x 12 mL_law Q b 1005 [some (vR 2000), some (vR 0), some (vR 84), some (vI i)] [] 96 σ') : P x 12 mL_law Q b 195 [some (vR 2000), some (vR 0), some (vR 84), some (vI i)] [] 96 σ := by
  have hG := hS.1
  refine P.aload_n (dq dtL_law_0 39 rfl) rfl ?_
  refine P.callV0 (M' := mX6_erase) (d' := 11) mlL_18 mcX6_erase mvX6_erase (dq dtL_law_0 40 rfl) (by omega) (Nat.le_of_ble_eq_true rfl) hS.2.1.1 rfl ?_
  refine cf_erase hS  (fun σ1 hS1 f1 => ?_)
  have hM1 := hM.frC f1
  obtain ⟨wf, sz, lt, a1, a2, a3, a4, a5, fi, be, rp, cl, dg, nu, pk, wm, h84, -⟩ := id hM1
  refine P.aload_n (dq dtL_law_0 41 rfl) rfl ?_
  refine P.callV0 (M' := mX7_erase) (d' := 11) mlL_22 mcX7_erase mvX7_erase (dq dtL_law_0 42 rfl) (by omega) (Nat.le_of_ble_eq_true rfl) h84 rfl ?_
  refine md_erase hG hM1  (fun σ2 hM2 f2 => ?_)
  have hS2 := hS1.frM f2
  refine P.icmp_same (t := 1005) (dq dtL_law_0 43 rfl) rfl ?_
  exact k _ _ hS2 hM2
theorem lc_2 {x : CX} {Q : PQ} {b : Nat × Nat} {σ : PH} {S : CSt} {n : Nat} {xs : Nat → Int32} {i : Int} (hX : SX x n xs) (hi : 0 ≤ i) (hn : i + 4 ≤ n) (hS : CS σ S) (hM : MD σ S) (k : ∀ (σ' : PH) (S' : CSt), CS σ' S' → MD σ' S' → P x 12 mL_law Q b 1005 [some (vR 2000), some (vR 0), some (vR 84), some (vI i)] [] 96 σ') : P x 12 mL_law Q b 208 [some (vR 2000), some (vR 0), some (vR 84), some (vI i)] [] 96 σ := by
  have hG := hS.1
  refine P.aload_n (dq dtL_law_0 46 rfl) rfl ?_
  refine P.callV0 (M' := mX6_fault) (d' := 11) mlL_23 mcX6_fault mvX6_fault (dq dtL_law_0 47 rfl) (by omega) (Nat.le_of_ble_eq_true rfl) hS.2.1.1 rfl ?_
  refine cl_fault hS (by omega) (fun σ1 st kd vl m hT hS1 f1 => ?_)
  have hM1 := hM.frC f1
  obtain ⟨wf, sz, lt, a1, a2, a3, a4, a5, fi, be, rp, cl, dg, nu, pk, wm, h84, -⟩ := id hM1
  refine P.aload_n (dq dtL_law_0 48 rfl) rfl ?_
  refine P.callV0 (M' := mX7_fault) (d' := 11) mlL_26 mcX7_fault mvX7_fault (dq dtL_law_0 49 rfl) (by omega) (Nat.le_of_ble_eq_true rfl) h84 rfl ?_
  refine md_fault hG hM1 hT (by omega)  (fun σ2 hM2 f2 => ?_)
  have hS2 := hS1.frM f2
  refine P.icmp_same (t := 1005) (dq dtL_law_0 50 rfl) rfl ?_
  exact k _ _ hS2 hM2
theorem lc_3 {x : CX} {Q : PQ} {b : Nat × Nat} {σ : PH} {S : CSt} {n : Nat} {xs : Nat → Int32} {i : Int} (hX : SX x n xs) (hi : 0 ≤ i) (hn : i + 4 ≤ n) (hS : CS σ S) (hM : MD σ S) (k : ∀ (σ' : PH) (S' : CSt), CS σ' S' → MD σ' S' → P x 12 mL_law Q b 1005 [some (vR 2000), some (vR 0), some (vR 84), some (vI i)] [] 96 σ') : P x 12 mL_law Q b 221 [some (vR 2000), some (vR 0), some (vR 84), some (vI i)] [] 96 σ := by
  have hG := hS.1
  refine P.aload_n (dq dtL_law_0 53 rfl) rfl ?_
  refine P.callV0 (M' := mX6_axis) (d' := 11) mlL_27 mcX6_axis mvX6_axis (dq dtL_law_0 54 rfl) (by omega) (Nat.le_of_ble_eq_true rfl) hS.2.1.1 rfl ?_
  refine cl_axis hS (by omega) (fun σ1 st kd vl m F' hT hF' hS1 f1 => ?_)
  have hM1 := hM.frC f1
  obtain ⟨wf, sz, lt, a1, a2, a3, a4, a5, fi, be, rp, cl, dg, nu, pk, wm, h84, -⟩ := id hM1
  refine P.aload_n (dq dtL_law_0 55 rfl) rfl ?_
  refine P.callV0 (M' := mX7_axis) (d' := 11) mlL_30 mcX7_axis mvX7_axis (dq dtL_law_0 56 rfl) (by omega) (Nat.le_of_ble_eq_true rfl) h84 rfl ?_
  refine md_axis hG hM1 hT (by omega)  hF' (fun σ2 hM2 f2 => ?_)
  have hS2 := hS1.frM f2
  refine P.icmp_same (t := 1005) (dq dtL_law_0 57 rfl) rfl ?_
  exact k _ _ hS2 hM2
theorem lc_4 {x : CX} {Q : PQ} {b : Nat × Nat} {σ : PH} {S : CSt} {n : Nat} {xs : Nat → Int32} {i : Int} (hX : SX x n xs) (hi : 0 ≤ i) (hn : i + 4 ≤ n) (hS : CS σ S) (hM : MD σ S) (k : ∀ (σ' : PH) (S' : CSt), CS σ' S' → MD σ' S' → P x 12 mL_law Q b 1005 [some (vR 2000), some (vR 0), some (vR 84), some (vI i)] [] 96 σ') : P x 12 mL_law Q b 234 [some (vR 2000), some (vR 0), some (vR 84), some (vI i)] [] 96 σ := by
  have hG := hS.1
  refine P.aload_n (dq dtL_law_0 60 rfl) rfl ?_
  refine P.aload_n (dq dtL_law_0 61 rfl) rfl ?_
  refine P.iload_n (dq dtL_law_0 62 rfl) rfl ?_
  refine P.iconst (dq dtL_law_0 63 rfl) ?_
  refine P.iadd (dq dtL_law_1 0 rfl) ?_
  refine P.scld hX (dq dtL_law_1 1 rfl) (by omega) (by omega) ?_
  refine P.aload_n (dq dtL_law_1 2 rfl) rfl ?_
  refine P.iload_n (dq dtL_law_1 3 rfl) rfl ?_
  refine P.iconst (dq dtL_law_1 4 rfl) ?_
  refine P.iadd (dq dtL_law_1 5 rfl) ?_
  refine P.scld hX (dq dtL_law_1 6 rfl) (by omega) (by omega) ?_
  refine P.aload_n (dq dtL_law_1 7 rfl) rfl ?_
  refine P.iload_n (dq dtL_law_1 8 rfl) rfl ?_
  refine P.iconst (dq dtL_law_1 9 rfl) ?_
  refine P.iadd (dq dtL_law_1 10 rfl) ?_
  refine P.scld hX (dq dtL_law_1 11 rfl) (by omega) (by omega) ?_
  refine P.callV3 (M' := mX6_run) (d' := 11) mlL_31 mcX6_run mvX6_run (dq dtL_law_1 12 rfl) (by omega) (Nat.le_of_ble_eq_true rfl) hS.2.1.1 rfl ?_
  refine cl_run hS (by omega) (xz_R xs _) (xz_R xs _) (xz_R xs _) (fun σ1 hS1 f1 => ?_)
  have hM1 := hM.frC f1
  obtain ⟨wf, sz, lt, a1, a2, a3, a4, a5, fi, be, rp, cl, dg, nu, pk, wm, h84, -⟩ := id hM1
  refine P.aload_n (dq dtL_law_1 13 rfl) rfl ?_
  refine P.aload_n (dq dtL_law_1 14 rfl) rfl ?_
  refine P.iload_n (dq dtL_law_1 15 rfl) rfl ?_
  refine P.iconst (dq dtL_law_1 16 rfl) ?_
  refine P.iadd (dq dtL_law_1 17 rfl) ?_
  refine P.scld hX (dq dtL_law_1 18 rfl) (by omega) (by omega) ?_
  refine P.aload_n (dq dtL_law_1 19 rfl) rfl ?_
  refine P.iload_n (dq dtL_law_1 20 rfl) rfl ?_
  refine P.iconst (dq dtL_law_1 21 rfl) ?_
  refine P.iadd (dq dtL_law_1 22 rfl) ?_
  refine P.scld hX (dq dtL_law_1 23 rfl) (by omega) (by omega) ?_
  refine P.aload_n (dq dtL_law_1 24 rfl) rfl ?_
  refine P.iload_n (dq dtL_law_1 25 rfl) rfl ?_
  refine P.iconst (dq dtL_law_1 26 rfl) ?_
  refine P.iadd (dq dtL_law_1 27 rfl) ?_
  refine P.scld hX (dq dtL_law_1 28 rfl) (by omega) (by omega) ?_
  refine P.callV3 (M' := mX7_run) (d' := 11) mlL_35 mcX7_run mvX7_run (dq dtL_law_1 29 rfl) (by omega) (Nat.le_of_ble_eq_true rfl) h84 rfl ?_
  refine md_run hG hM1 (by omega) (xz_R xs _) (xz_R xs _) (xz_R xs _) (fun σ2 hM2 f2 => ?_)
  have hS2 := hS1.frM f2
  refine P.icmp_same (t := 1005) (dq dtL_law_1 30 rfl) rfl ?_
  exact k _ _ hS2 hM2
theorem lc_5 {x : CX} {Q : PQ} {b : Nat × Nat} {σ : PH} {S : CSt} {n : Nat} {xs : Nat → Int32} {i : Int} (hX : SX x n xs) (hi : 0 ≤ i) (hn : i + 4 ≤ n) (hS : CS σ S) (hM : MD σ S) (k : ∀ (σ' : PH) (S' : CSt), CS σ' S' → MD σ' S' → P x 12 mL_law Q b 1005 [some (vR 2000), some (vR 0), some (vR 84), some (vI i)] [] 96 σ') : P x 12 mL_law Q b 277 [some (vR 2000), some (vR 0), some (vR 84), some (vI i)] [] 96 σ := by
  have hG := hS.1
  refine P.aload_n (dq dtL_law_1 33 rfl) rfl ?_
  refine P.aload_n (dq dtL_law_1 34 rfl) rfl ?_
  refine P.iload_n (dq dtL_law_1 35 rfl) rfl ?_
  refine P.iconst (dq dtL_law_1 36 rfl) ?_
  refine P.iadd (dq dtL_law_1 37 rfl) ?_
  refine P.scld hX (dq dtL_law_1 38 rfl) (by omega) (by omega) ?_
  refine P.aload_n (dq dtL_law_1 39 rfl) rfl ?_
  refine P.iload_n (dq dtL_law_1 40 rfl) rfl ?_
  refine P.iconst (dq dtL_law_1 41 rfl) ?_
  refine P.iadd (dq dtL_law_1 42 rfl) ?_
  refine P.scld hX (dq dtL_law_1 43 rfl) (by omega) (by omega) ?_
  refine P.callV2 (M' := mX6_clear) (d' := 11) mlL_36 mcX6_clear mvX6_clear (dq dtL_law_1 44 rfl) (by omega) (Nat.le_of_ble_eq_true rfl) hS.2.1.1 rfl ?_
  refine cl_clear hS (by omega) (xz_R xs _) (xz_R xs _) (fun σ1 hS1 f1 => ?_)
  have hM1 := hM.frC f1
  obtain ⟨wf, sz, lt, a1, a2, a3, a4, a5, fi, be, rp, cl, dg, nu, pk, wm, h84, -⟩ := id hM1
  refine P.aload_n (dq dtL_law_1 45 rfl) rfl ?_
  refine P.aload_n (dq dtL_law_1 46 rfl) rfl ?_
  refine P.iload_n (dq dtL_law_1 47 rfl) rfl ?_
  refine P.iconst (dq dtL_law_1 48 rfl) ?_
  refine P.iadd (dq dtL_law_1 49 rfl) ?_
  refine P.scld hX (dq dtL_law_1 50 rfl) (by omega) (by omega) ?_
  refine P.aload_n (dq dtL_law_1 51 rfl) rfl ?_
  refine P.iload_n (dq dtL_law_1 52 rfl) rfl ?_
  refine P.iconst (dq dtL_law_1 53 rfl) ?_
  refine P.iadd (dq dtL_law_1 54 rfl) ?_
  refine P.scld hX (dq dtL_law_1 55 rfl) (by omega) (by omega) ?_
  refine P.callV2 (M' := mX7_clear) (d' := 11) mlL_40 mcX7_clear mvX7_clear (dq dtL_law_1 56 rfl) (by omega) (Nat.le_of_ble_eq_true rfl) h84 rfl ?_
  refine md_clear hG hM1 (by omega) (xz_R xs _) (xz_R xs _) (fun σ2 hM2 f2 => ?_)
  have hS2 := hS1.frM f2
  refine P.icmp_same (t := 1005) (dq dtL_law_1 57 rfl) rfl ?_
  exact k _ _ hS2 hM2
theorem lc_6 {x : CX} {Q : PQ} {b : Nat × Nat} {σ : PH} {S : CSt} {n : Nat} {xs : Nat → Int32} {i : Int} (hX : SX x n xs) (hi : 0 ≤ i) (hn : i + 4 ≤ n) (hS : CS σ S) (hM : MD σ S) (k : ∀ (σ' : PH) (S' : CSt), CS σ' S' → MD σ' S' → P x 12 mL_law Q b 1005 [some (vR 2000), some (vR 0), some (vR 84), some (vI i)] [] 96 σ') : P x 12 mL_law Q b 310 [some (vR 2000), some (vR 0), some (vR 84), some (vI i)] [] 96 σ := by
  have hG := hS.1
  refine P.aload_n (dq dtL_law_1 60 rfl) rfl ?_
  refine P.callV0 (M' := mX6_undo) (d' := 11) mlL_41 mcX6_undo mvX6_undo (dq dtL_law_1 61 rfl) (by omega) (Nat.le_of_ble_eq_true rfl) hS.2.1.1 rfl ?_
  refine cl_undo hS (by omega)  (fun σ1 hS1 f1 => ?_)
  have hM1 := hM.frC f1
  obtain ⟨wf, sz, lt, a1, a2, a3, a4, a5, fi, be, rp, cl, dg, nu, pk, wm, h84, -⟩ := id hM1
  refine P.aload_n (dq dtL_law_1 62 rfl) rfl ?_
  refine P.callV0 (M' := mX7_undo) (d' := 11) mlL_44 mcX7_undo mvX7_undo (dq dtL_law_1 63 rfl) (by omega) (Nat.le_of_ble_eq_true rfl) h84 rfl ?_
  refine md_undo hG hM1 (by omega)  (fun σ2 hM2 f2 => ?_)
  have hS2 := hS1.frM f2
  refine P.icmp_same (t := 1005) (dq dtL_law_2 0 rfl) rfl ?_
  exact k _ _ hS2 hM2
theorem lc_7 {x : CX} {Q : PQ} {b : Nat × Nat} {σ : PH} {S : CSt} {n : Nat} {xs : Nat → Int32} {i : Int} (hX : SX x n xs) (hi : 0 ≤ i) (hn : i + 4 ≤ n) (hS : CS σ S) (hM : MD σ S) (k : ∀ (σ' : PH) (S' : CSt), CS σ' S' → MD σ' S' → P x 12 mL_law Q b 1005 [some (vR 2000), some (vR 0), some (vR 84), some (vI i)] [] 96 σ') : P x 12 mL_law Q b 323 [some (vR 2000), some (vR 0), some (vR 84), some (vI i)] [] 96 σ := by
  have hG := hS.1
  refine P.aload_n (dq dtL_law_2 3 rfl) rfl ?_
  refine P.aload_n (dq dtL_law_2 4 rfl) rfl ?_
  refine P.iload_n (dq dtL_law_2 5 rfl) rfl ?_
  refine P.iconst (dq dtL_law_2 6 rfl) ?_
  refine P.iadd (dq dtL_law_2 7 rfl) ?_
  refine P.scld hX (dq dtL_law_2 8 rfl) (by omega) (by omega) ?_
  refine P.callV1 (M' := mX6_keep) (d' := 11) mlL_45 mcX6_keep mvX6_keep (dq dtL_law_2 9 rfl) (by omega) (Nat.le_of_ble_eq_true rfl) hS.2.1.1 rfl ?_
  refine cl_keep hS (by omega) (xz_R xs _) (fun σ1 hS1 f1 => ?_)
  have hM1 := hM.frC f1
  obtain ⟨wf, sz, lt, a1, a2, a3, a4, a5, fi, be, rp, cl, dg, nu, pk, wm, h84, -⟩ := id hM1
  refine P.aload_n (dq dtL_law_2 10 rfl) rfl ?_
  refine P.aload_n (dq dtL_law_2 11 rfl) rfl ?_
  refine P.iload_n (dq dtL_law_2 12 rfl) rfl ?_
  refine P.iconst (dq dtL_law_2 13 rfl) ?_
  refine P.iadd (dq dtL_law_2 14 rfl) ?_
  refine P.scld hX (dq dtL_law_2 15 rfl) (by omega) (by omega) ?_
  refine P.callV1 (M' := mX7_keep) (d' := 11) mlL_48 mcX7_keep mvX7_keep (dq dtL_law_2 16 rfl) (by omega) (Nat.le_of_ble_eq_true rfl) h84 rfl ?_
  refine md_keep hG hM1 (by omega) (xz_R xs _) (fun σ2 hM2 f2 => ?_)
  have hS2 := hS1.frM f2
  refine P.icmp_same (t := 1005) (dq dtL_law_2 17 rfl) rfl ?_
  exact k _ _ hS2 hM2
theorem lc_8 {x : CX} {Q : PQ} {b : Nat × Nat} {σ : PH} {S : CSt} {n : Nat} {xs : Nat → Int32} {i : Int} (hX : SX x n xs) (hi : 0 ≤ i) (hn : i + 4 ≤ n) (hS : CS σ S) (hM : MD σ S) (k : ∀ (σ' : PH) (S' : CSt), CS σ' S' → MD σ' S' → P x 12 mL_law Q b 1005 [some (vR 2000), some (vR 0), some (vR 84), some (vI i)] [] 96 σ') : P x 12 mL_law Q b 346 [some (vR 2000), some (vR 0), some (vR 84), some (vI i)] [] 96 σ := by
  have hG := hS.1
  refine P.aload_n (dq dtL_law_2 20 rfl) rfl ?_
  refine P.aload_n (dq dtL_law_2 21 rfl) rfl ?_
  refine P.iload_n (dq dtL_law_2 22 rfl) rfl ?_
  refine P.iconst (dq dtL_law_2 23 rfl) ?_
  refine P.iadd (dq dtL_law_2 24 rfl) ?_
  refine P.scld hX (dq dtL_law_2 25 rfl) (by omega) (by omega) ?_
  refine P.callV1 (M' := mX6_back) (d' := 11) mlL_49 mcX6_back mvX6_back (dq dtL_law_2 26 rfl) (by omega) (Nat.le_of_ble_eq_true rfl) hS.2.1.1 rfl ?_
  refine cl_back hS (by omega) (xz_R xs _) (fun σ1 hS1 f1 => ?_)
  have hM1 := hM.frC f1
  obtain ⟨wf, sz, lt, a1, a2, a3, a4, a5, fi, be, rp, cl, dg, nu, pk, wm, h84, -⟩ := id hM1
  refine P.aload_n (dq dtL_law_2 27 rfl) rfl ?_
  refine P.aload_n (dq dtL_law_2 28 rfl) rfl ?_
  refine P.iload_n (dq dtL_law_2 29 rfl) rfl ?_
  refine P.iconst (dq dtL_law_2 30 rfl) ?_
  refine P.iadd (dq dtL_law_2 31 rfl) ?_
  refine P.scld hX (dq dtL_law_2 32 rfl) (by omega) (by omega) ?_
  refine P.callV1 (M' := mX7_back) (d' := 11) mlL_52 mcX7_back mvX7_back (dq dtL_law_2 33 rfl) (by omega) (Nat.le_of_ble_eq_true rfl) h84 rfl ?_
  refine md_back hG hM1 (by omega) (xz_R xs _) (fun σ2 hM2 f2 => ?_)
  have hS2 := hS1.frM f2
  refine P.icmp_same (t := 1005) (dq dtL_law_2 34 rfl) rfl ?_
  exact k _ _ hS2 hM2
theorem lc_9 {x : CX} {Q : PQ} {b : Nat × Nat} {σ : PH} {S : CSt} {n : Nat} {xs : Nat → Int32} {i : Int} (hX : SX x n xs) (hi : 0 ≤ i) (hn : i + 4 ≤ n) (hS : CS σ S) (hM : MD σ S) (k : ∀ (σ' : PH) (S' : CSt), CS σ' S' → MD σ' S' → P x 12 mL_law Q b 1005 [some (vR 2000), some (vR 0), some (vR 84), some (vI i)] [] 96 σ') : P x 12 mL_law Q b 369 [some (vR 2000), some (vR 0), some (vR 84), some (vI i)] [] 96 σ := by
  have hG := hS.1
  refine P.aload_n (dq dtL_law_2 37 rfl) rfl ?_
  refine P.aload_n (dq dtL_law_2 38 rfl) rfl ?_
  refine P.iload_n (dq dtL_law_2 39 rfl) rfl ?_
  refine P.iconst (dq dtL_law_2 40 rfl) ?_
  refine P.iadd (dq dtL_law_2 41 rfl) ?_
  refine P.scld hX (dq dtL_law_2 42 rfl) (by omega) (by omega) ?_
  refine P.aload_n (dq dtL_law_2 43 rfl) rfl ?_
  refine P.iload_n (dq dtL_law_2 44 rfl) rfl ?_
  refine P.iconst (dq dtL_law_2 45 rfl) ?_
  refine P.iadd (dq dtL_law_2 46 rfl) ?_
  refine P.scld hX (dq dtL_law_2 47 rfl) (by omega) (by omega) ?_
  refine P.aload_n (dq dtL_law_2 48 rfl) rfl ?_
  refine P.iload_n (dq dtL_law_2 49 rfl) rfl ?_
  refine P.iconst (dq dtL_law_2 50 rfl) ?_
  refine P.iadd (dq dtL_law_2 51 rfl) ?_
  refine P.scld hX (dq dtL_law_2 52 rfl) (by omega) (by omega) ?_
  refine P.callV3 (M' := mX6_runAt) (d' := 11) mlL_53 mcX6_runAt mvX6_runAt (dq dtL_law_2 53 rfl) (by omega) (Nat.le_of_ble_eq_true rfl) hS.2.1.1 rfl ?_
  refine cf_runAt hS (by omega) (xz_R xs _) (xz_R xs _) (xz_R xs _) ?_
  have hM1 := hM
  obtain ⟨wf, sz, lt, a1, a2, a3, a4, a5, fi, be, rp, cl, dg, nu, pk, wm, h84, -⟩ := id hM1
  refine P.aload_n (dq dtL_law_2 54 rfl) rfl ?_
  refine P.aload_n (dq dtL_law_2 55 rfl) rfl ?_
  refine P.iload_n (dq dtL_law_2 56 rfl) rfl ?_
  refine P.iconst (dq dtL_law_2 57 rfl) ?_
  refine P.iadd (dq dtL_law_2 58 rfl) ?_
  refine P.scld hX (dq dtL_law_2 59 rfl) (by omega) (by omega) ?_
  refine P.aload_n (dq dtL_law_2 60 rfl) rfl ?_
  refine P.iload_n (dq dtL_law_2 61 rfl) rfl ?_
  refine P.iconst (dq dtL_law_2 62 rfl) ?_
  refine P.iadd (dq dtL_law_2 63 rfl) ?_
  refine P.scld hX (dq dtL_law_3 0 rfl) (by omega) (by omega) ?_
  refine P.aload_n (dq dtL_law_3 1 rfl) rfl ?_
  refine P.iload_n (dq dtL_law_3 2 rfl) rfl ?_
  refine P.iconst (dq dtL_law_3 3 rfl) ?_
  refine P.iadd (dq dtL_law_3 4 rfl) ?_
  refine P.scld hX (dq dtL_law_3 5 rfl) (by omega) (by omega) ?_
  refine P.callV3 (M' := mX7_runAt) (d' := 11) mlL_56 mcX7_runAt mvX7_runAt (dq dtL_law_3 6 rfl) (by omega) (Nat.le_of_ble_eq_true rfl) h84 rfl ?_
  refine md_runAt hG hM1 (by omega) (xz_R xs _) (xz_R xs _) (xz_R xs _) ?_
  have hM2 := hM1
  have hS2 := hS
  refine P.icmp_same (t := 1005) (dq dtL_law_3 7 rfl) rfl ?_
  exact k _ _ hS2 hM2
theorem lc_10 {x : CX} {Q : PQ} {b : Nat × Nat} {σ : PH} {S : CSt} {n : Nat} {xs : Nat → Int32} {i : Int} (hX : SX x n xs) (hi : 0 ≤ i) (hn : i + 4 ≤ n) (hS : CS σ S) (hM : MD σ S) (k : ∀ (σ' : PH) (S' : CSt), CS σ' S' → MD σ' S' → P x 12 mL_law Q b 1005 [some (vR 2000), some (vR 0), some (vR 84), some (vI i)] [] 96 σ') : P x 12 mL_law Q b 412 [some (vR 2000), some (vR 0), some (vR 84), some (vI i)] [] 96 σ := by
  have hG := hS.1
  obtain ⟨F, sf, hFg⟩ := hS.2.2.2.2.2.2.2.1
  have hF : FgR S.now.1 F := hFg.1.2.2.2.2.2.2.2.2
  refine P.aload_n (dq dtL_law_3 10 rfl) rfl ?_
  refine P.aload_n (dq dtL_law_3 11 rfl) rfl ?_
  refine P.iload_n (dq dtL_law_3 12 rfl) rfl ?_
  refine P.iconst (dq dtL_law_3 13 rfl) ?_
  refine P.iadd (dq dtL_law_3 14 rfl) ?_
  refine P.scld hX (dq dtL_law_3 15 rfl) (by omega) (by omega) ?_
  refine P.aload_n (dq dtL_law_3 16 rfl) rfl ?_
  refine P.iload_n (dq dtL_law_3 17 rfl) rfl ?_
  refine P.iconst (dq dtL_law_3 18 rfl) ?_
  refine P.iadd (dq dtL_law_3 19 rfl) ?_
  refine P.scld hX (dq dtL_law_3 20 rfl) (by omega) (by omega) ?_
  refine P.aload_n (dq dtL_law_3 21 rfl) rfl ?_
  refine P.iload_n (dq dtL_law_3 22 rfl) rfl ?_
  refine P.iconst (dq dtL_law_3 23 rfl) ?_
  refine P.iadd (dq dtL_law_3 24 rfl) ?_
  refine P.scld hX (dq dtL_law_3 25 rfl) (by omega) (by omega) ?_
  refine P.callV3 (M' := mX6_point) (d' := 11) mlL_57 mcX6_point mvX6_point (dq dtL_law_3 26 rfl) (by omega) (Nat.le_of_ble_eq_true rfl) hS.2.1.1 rfl ?_
  refine cl_point hS hFg (by omega) (xz_R xs _) (xz_R xs _) (xz_R xs _) ?_
  have hM1 := hM
  obtain ⟨wf, sz, lt, a1, a2, a3, a4, a5, fi, be, rp, cl, dg, nu, pk, wm, h84, -⟩ := id hM1
  refine P.aload_n (dq dtL_law_3 27 rfl) rfl ?_
  refine P.aload_n (dq dtL_law_3 28 rfl) rfl ?_
  refine P.iload_n (dq dtL_law_3 29 rfl) rfl ?_
  refine P.iconst (dq dtL_law_3 30 rfl) ?_
  refine P.iadd (dq dtL_law_3 31 rfl) ?_
  refine P.scld hX (dq dtL_law_3 32 rfl) (by omega) (by omega) ?_
  refine P.aload_n (dq dtL_law_3 33 rfl) rfl ?_
  refine P.iload_n (dq dtL_law_3 34 rfl) rfl ?_
  refine P.iconst (dq dtL_law_3 35 rfl) ?_
  refine P.iadd (dq dtL_law_3 36 rfl) ?_
  refine P.scld hX (dq dtL_law_3 37 rfl) (by omega) (by omega) ?_
  refine P.aload_n (dq dtL_law_3 38 rfl) rfl ?_
  refine P.iload_n (dq dtL_law_3 39 rfl) rfl ?_
  refine P.iconst (dq dtL_law_3 40 rfl) ?_
  refine P.iadd (dq dtL_law_3 41 rfl) ?_
  refine P.scld hX (dq dtL_law_3 42 rfl) (by omega) (by omega) ?_
  refine P.callV3 (M' := mX7_point) (d' := 11) mlL_60 mcX7_point mvX7_point (dq dtL_law_3 43 rfl) (by omega) (Nat.le_of_ble_eq_true rfl) h84 rfl ?_
  refine md_point hG hM1 hF (by omega) (xz_R xs _) (xz_R xs _) (xz_R xs _) (fun σ2 hM2 f2 => ?_)
  have hS2 := hS.frM f2
  refine P.icmp_same (t := 1005) (dq dtL_law_3 44 rfl) rfl ?_
  exact k _ _ hS2 hM2
theorem lc_11 {x : CX} {Q : PQ} {b : Nat × Nat} {σ : PH} {S : CSt} {n : Nat} {xs : Nat → Int32} {i : Int} (hX : SX x n xs) (hi : 0 ≤ i) (hn : i + 4 ≤ n) (hS : CS σ S) (hM : MD σ S) (k : ∀ (σ' : PH) (S' : CSt), CS σ' S' → MD σ' S' → P x 12 mL_law Q b 1005 [some (vR 2000), some (vR 0), some (vR 84), some (vI i)] [] 96 σ') : P x 12 mL_law Q b 455 [some (vR 2000), some (vR 0), some (vR 84), some (vI i)] [] 96 σ := by
  have hG := hS.1
  obtain ⟨F, sf, hFg⟩ := hS.2.2.2.2.2.2.2.1
  have hF : FgR S.now.1 F := hFg.1.2.2.2.2.2.2.2.2
  refine P.aload_n (dq dtL_law_3 47 rfl) rfl ?_
  refine P.aload_n (dq dtL_law_3 48 rfl) rfl ?_
  refine P.iload_n (dq dtL_law_3 49 rfl) rfl ?_
  refine P.iconst (dq dtL_law_3 50 rfl) ?_
  refine P.iadd (dq dtL_law_3 51 rfl) ?_
  refine P.scld hX (dq dtL_law_3 52 rfl) (by omega) (by omega) ?_
  refine P.aload_n (dq dtL_law_3 53 rfl) rfl ?_
  refine P.iload_n (dq dtL_law_3 54 rfl) rfl ?_
  refine P.iconst (dq dtL_law_3 55 rfl) ?_
  refine P.iadd (dq dtL_law_3 56 rfl) ?_
  refine P.scld hX (dq dtL_law_3 57 rfl) (by omega) (by omega) ?_
  refine P.callV2 (M' := mX6_table) (d' := 11) mlL_61 mcX6_table mvX6_table (dq dtL_law_3 58 rfl) (by omega) (Nat.le_of_ble_eq_true rfl) hS.2.1.1 rfl ?_
  refine cl_table hS hFg (by omega) (xz_R xs _) (xz_R xs _) ?_
  have hM1 := hM
  obtain ⟨wf, sz, lt, a1, a2, a3, a4, a5, fi, be, rp, cl, dg, nu, pk, wm, h84, -⟩ := id hM1
  refine P.aload_n (dq dtL_law_3 59 rfl) rfl ?_
  refine P.aload_n (dq dtL_law_3 60 rfl) rfl ?_
  refine P.iload_n (dq dtL_law_3 61 rfl) rfl ?_
  refine P.iconst (dq dtL_law_3 62 rfl) ?_
  refine P.iadd (dq dtL_law_3 63 rfl) ?_
  refine P.scld hX (dq dtL_law_4 0 rfl) (by omega) (by omega) ?_
  refine P.aload_n (dq dtL_law_4 1 rfl) rfl ?_
  refine P.iload_n (dq dtL_law_4 2 rfl) rfl ?_
  refine P.iconst (dq dtL_law_4 3 rfl) ?_
  refine P.iadd (dq dtL_law_4 4 rfl) ?_
  refine P.scld hX (dq dtL_law_4 5 rfl) (by omega) (by omega) ?_
  refine P.callV2 (M' := mX7_table) (d' := 11) mlL_64 mcX7_table mvX7_table (dq dtL_law_4 6 rfl) (by omega) (Nat.le_of_ble_eq_true rfl) h84 rfl ?_
  refine md_table hG hM1 hF (by omega) (xz_R xs _) (xz_R xs _) (fun σ2 hM2 f2 => ?_)
  have hS2 := hS.frM f2
  refine P.icmp_same (t := 1005) (dq dtL_law_4 7 rfl) rfl ?_
  exact k _ _ hS2 hM2
theorem lc_12 {x : CX} {Q : PQ} {b : Nat × Nat} {σ : PH} {S : CSt} {n : Nat} {xs : Nat → Int32} {i : Int} (hX : SX x n xs) (hi : 0 ≤ i) (hn : i + 4 ≤ n) (hS : CS σ S) (hM : MD σ S) (k : ∀ (σ' : PH) (S' : CSt), CS σ' S' → MD σ' S' → P x 12 mL_law Q b 1005 [some (vR 2000), some (vR 0), some (vR 84), some (vI i)] [] 96 σ') : P x 12 mL_law Q b 488 [some (vR 2000), some (vR 0), some (vR 84), some (vI i)] [] 96 σ := by
  have hG := hS.1
  obtain ⟨F, sf, hFg⟩ := hS.2.2.2.2.2.2.2.1
  have hF : FgR S.now.1 F := hFg.1.2.2.2.2.2.2.2.2
  refine P.aload_n (dq dtL_law_4 10 rfl) rfl ?_
  refine P.aload_n (dq dtL_law_4 11 rfl) rfl ?_
  refine P.iload_n (dq dtL_law_4 12 rfl) rfl ?_
  refine P.iconst (dq dtL_law_4 13 rfl) ?_
  refine P.iadd (dq dtL_law_4 14 rfl) ?_
  refine P.scld hX (dq dtL_law_4 15 rfl) (by omega) (by omega) ?_
  refine P.callV1 (M' := mX6_play) (d' := 11) mlL_65 mcX6_play mvX6_play (dq dtL_law_4 16 rfl) (by omega) (Nat.le_of_ble_eq_true rfl) hS.2.1.1 rfl ?_
  refine cl_play hS hFg (by omega) (xz_R xs _) ?_
  have hM1 := hM
  obtain ⟨wf, sz, lt, a1, a2, a3, a4, a5, fi, be, rp, cl, dg, nu, pk, wm, h84, -⟩ := id hM1
  refine P.aload_n (dq dtL_law_4 17 rfl) rfl ?_
  refine P.aload_n (dq dtL_law_4 18 rfl) rfl ?_
  refine P.iload_n (dq dtL_law_4 19 rfl) rfl ?_
  refine P.iconst (dq dtL_law_4 20 rfl) ?_
  refine P.iadd (dq dtL_law_4 21 rfl) ?_
  refine P.scld hX (dq dtL_law_4 22 rfl) (by omega) (by omega) ?_
  refine P.callV1 (M' := mX7_play) (d' := 11) mlL_68 mcX7_play mvX7_play (dq dtL_law_4 23 rfl) (by omega) (Nat.le_of_ble_eq_true rfl) h84 rfl ?_
  refine md_play hG hM1 (by omega) (xz_R xs _) ?_
  have hM2 := hM1
  have hS2 := hS
  refine P.icmp_same (t := 1005) (dq dtL_law_4 24 rfl) rfl ?_
  exact k _ _ hS2 hM2
theorem lc_13 {x : CX} {Q : PQ} {b : Nat × Nat} {σ : PH} {S : CSt} {n : Nat} {xs : Nat → Int32} {i : Int} (hX : SX x n xs) (hi : 0 ≤ i) (hn : i + 4 ≤ n) (hS : CS σ S) (hM : MD σ S) (k : ∀ (σ' : PH) (S' : CSt), CS σ' S' → MD σ' S' → P x 12 mL_law Q b 1005 [some (vR 2000), some (vR 0), some (vR 84), some (vI i)] [] 96 σ') : P x 12 mL_law Q b 511 [some (vR 2000), some (vR 0), some (vR 84), some (vI i)] [] 96 σ := by
  have hG := hS.1
  obtain ⟨F, sf, hFg⟩ := hS.2.2.2.2.2.2.2.1
  have hF : FgR S.now.1 F := hFg.1.2.2.2.2.2.2.2.2
  refine P.aload_n (dq dtL_law_4 27 rfl) rfl ?_
  refine P.callV0 (M' := mX6_worst) (d' := 11) mlL_69 mcX6_worst mvX6_worst (dq dtL_law_4 28 rfl) (by omega) (Nat.le_of_ble_eq_true rfl) hS.2.1.1 rfl ?_
  refine cl_worst hS hFg (by omega)  ?_
  have hM1 := hM
  obtain ⟨wf, sz, lt, a1, a2, a3, a4, a5, fi, be, rp, cl, dg, nu, pk, wm, h84, -⟩ := id hM1
  refine P.aload_n (dq dtL_law_4 29 rfl) rfl ?_
  refine P.callV0 (M' := mX7_worst) (d' := 11) mlL_72 mcX7_worst mvX7_worst (dq dtL_law_4 30 rfl) (by omega) (Nat.le_of_ble_eq_true rfl) h84 rfl ?_
  refine md_worst hG hM1 hF (by omega)  (fun σ2 hM2 f2 => ?_)
  have hS2 := hS.frM f2
  refine P.icmp_same (t := 1005) (dq dtL_law_4 31 rfl) rfl ?_
  exact k _ _ hS2 hM2
theorem lc_14 {x : CX} {Q : PQ} {b : Nat × Nat} {σ : PH} {S : CSt} {n : Nat} {xs : Nat → Int32} {i : Int} (hX : SX x n xs) (hi : 0 ≤ i) (hn : i + 4 ≤ n) (hS : CS σ S) (hM : MD σ S) (k : ∀ (σ' : PH) (S' : CSt), CS σ' S' → MD σ' S' → P x 12 mL_law Q b 1005 [some (vR 2000), some (vR 0), some (vR 84), some (vI i)] [] 96 σ') : P x 12 mL_law Q b 524 [some (vR 2000), some (vR 0), some (vR 84), some (vI i)] [] 96 σ := by
  have hG := hS.1
  refine P.aload_n (dq dtL_law_4 34 rfl) rfl ?_
  refine P.aload_n (dq dtL_law_4 35 rfl) rfl ?_
  refine P.iload_n (dq dtL_law_4 36 rfl) rfl ?_
  refine P.iconst (dq dtL_law_4 37 rfl) ?_
  refine P.iadd (dq dtL_law_4 38 rfl) ?_
  refine P.scld hX (dq dtL_law_4 39 rfl) (by omega) (by omega) ?_
  refine P.aload_n (dq dtL_law_4 40 rfl) rfl ?_
  refine P.iload_n (dq dtL_law_4 41 rfl) rfl ?_
  refine P.iconst (dq dtL_law_4 42 rfl) ?_
  refine P.iadd (dq dtL_law_4 43 rfl) ?_
  refine P.scld hX (dq dtL_law_4 44 rfl) (by omega) (by omega) ?_
  refine P.aload_n (dq dtL_law_4 45 rfl) rfl ?_
  refine P.iload_n (dq dtL_law_4 46 rfl) rfl ?_
  refine P.iconst (dq dtL_law_4 47 rfl) ?_
  refine P.iadd (dq dtL_law_4 48 rfl) ?_
  refine P.scld hX (dq dtL_law_4 49 rfl) (by omega) (by omega) ?_
  refine P.callV3 (M' := mX6_merged) (d' := 11) mlL_73 mcX6_merged mvX6_merged (dq dtL_law_4 50 rfl) (by omega) (Nat.le_of_ble_eq_true rfl) hS.2.1.1 rfl ?_
  refine cl_merged hS (by omega) (xz_R xs _) (xz_R xs _) (xz_R xs _) (fun σ1 F' hS1 f1 hF' => ?_)
  have hM1 := hM.frC f1
  obtain ⟨wf, sz, lt, a1, a2, a3, a4, a5, fi, be, rp, cl, dg, nu, pk, wm, h84, -⟩ := id hM1
  refine P.aload_n (dq dtL_law_4 51 rfl) rfl ?_
  refine P.aload_n (dq dtL_law_4 52 rfl) rfl ?_
  refine P.iload_n (dq dtL_law_4 53 rfl) rfl ?_
  refine P.iconst (dq dtL_law_4 54 rfl) ?_
  refine P.iadd (dq dtL_law_4 55 rfl) ?_
  refine P.scld hX (dq dtL_law_4 56 rfl) (by omega) (by omega) ?_
  refine P.aload_n (dq dtL_law_4 57 rfl) rfl ?_
  refine P.iload_n (dq dtL_law_4 58 rfl) rfl ?_
  refine P.iconst (dq dtL_law_4 59 rfl) ?_
  refine P.iadd (dq dtL_law_4 60 rfl) ?_
  refine P.scld hX (dq dtL_law_4 61 rfl) (by omega) (by omega) ?_
  refine P.aload_n (dq dtL_law_4 62 rfl) rfl ?_
  refine P.iload_n (dq dtL_law_4 63 rfl) rfl ?_
  refine P.iconst (dq dtL_law_5 0 rfl) ?_
  refine P.iadd (dq dtL_law_5 1 rfl) ?_
  refine P.scld hX (dq dtL_law_5 2 rfl) (by omega) (by omega) ?_
  refine P.callV3 (M' := mX7_merged) (d' := 11) mlL_76 mcX7_merged mvX7_merged (dq dtL_law_5 3 rfl) (by omega) (Nat.le_of_ble_eq_true rfl) h84 rfl ?_
  refine md_merged hG hM1 (by omega) (xz_R xs _) (xz_R xs _) (xz_R xs _) hF' (fun σ2 hM2 f2 => ?_)
  have hS2 := hS1.frM f2
  refine P.icmp_same (t := 1005) (dq dtL_law_5 4 rfl) rfl ?_
  exact k _ _ hS2 hM2
theorem lc_15 {x : CX} {Q : PQ} {b : Nat × Nat} {σ : PH} {S : CSt} {n : Nat} {xs : Nat → Int32} {i : Int} (hX : SX x n xs) (hi : 0 ≤ i) (hn : i + 4 ≤ n) (hS : CS σ S) (hM : MD σ S) (k : ∀ (σ' : PH) (S' : CSt), CS σ' S' → MD σ' S' → P x 12 mL_law Q b 1005 [some (vR 2000), some (vR 0), some (vR 84), some (vI i)] [] 96 σ') : P x 12 mL_law Q b 567 [some (vR 2000), some (vR 0), some (vR 84), some (vI i)] [] 96 σ := by
  have hG := hS.1
  obtain ⟨F, sf, hFg⟩ := hS.2.2.2.2.2.2.2.1
  have hF : FgR S.now.1 F := hFg.1.2.2.2.2.2.2.2.2
  refine P.aload_n (dq dtL_law_5 7 rfl) rfl ?_
  refine P.aload_n (dq dtL_law_5 8 rfl) rfl ?_
  refine P.iload_n (dq dtL_law_5 9 rfl) rfl ?_
  refine P.iconst (dq dtL_law_5 10 rfl) ?_
  refine P.iadd (dq dtL_law_5 11 rfl) ?_
  refine P.scld hX (dq dtL_law_5 12 rfl) (by omega) (by omega) ?_
  refine P.callV1 (M' := mX6_move) (d' := 11) mlL_77 mcX6_move mvX6_move (dq dtL_law_5 13 rfl) (by omega) (Nat.le_of_ble_eq_true rfl) hS.2.1.1 rfl ?_
  refine cl_move hS hFg (by omega) (xz_R xs _) (fun σ1 hS1 f1 => ?_)
  have hM1 := hM.frC f1
  obtain ⟨wf, sz, lt, a1, a2, a3, a4, a5, fi, be, rp, cl, dg, nu, pk, wm, h84, -⟩ := id hM1
  refine P.aload_n (dq dtL_law_5 14 rfl) rfl ?_
  refine P.aload_n (dq dtL_law_5 15 rfl) rfl ?_
  refine P.iload_n (dq dtL_law_5 16 rfl) rfl ?_
  refine P.iconst (dq dtL_law_5 17 rfl) ?_
  refine P.iadd (dq dtL_law_5 18 rfl) ?_
  refine P.scld hX (dq dtL_law_5 19 rfl) (by omega) (by omega) ?_
  refine P.callV1 (M' := mX7_move) (d' := 11) mlL_80 mcX7_move mvX7_move (dq dtL_law_5 20 rfl) (by omega) (Nat.le_of_ble_eq_true rfl) h84 rfl ?_
  refine md_move hG hM1 hF (by omega) (xz_R xs _) (fun σ2 hM2 f2 => ?_)
  have hS2 := hS1.frM f2
  refine P.icmp_same (t := 1005) (dq dtL_law_5 21 rfl) rfl ?_
  exact k _ _ hS2 hM2
theorem lc_16 {x : CX} {Q : PQ} {b : Nat × Nat} {σ : PH} {S : CSt} {n : Nat} {xs : Nat → Int32} {i : Int} (hX : SX x n xs) (hi : 0 ≤ i) (hn : i + 4 ≤ n) (hS : CS σ S) (hM : MD σ S) (k : ∀ (σ' : PH) (S' : CSt), CS σ' S' → MD σ' S' → P x 12 mL_law Q b 1005 [some (vR 2000), some (vR 0), some (vR 84), some (vI i)] [] 96 σ') : P x 12 mL_law Q b 590 [some (vR 2000), some (vR 0), some (vR 84), some (vI i)] [] 96 σ := by
  have hG := hS.1
  obtain ⟨F, sf, hFg⟩ := hS.2.2.2.2.2.2.2.1
  have hF : FgR S.now.1 F := hFg.1.2.2.2.2.2.2.2.2
  refine P.aload_n (dq dtL_law_5 24 rfl) rfl ?_
  refine P.aload_n (dq dtL_law_5 25 rfl) rfl ?_
  refine P.iload_n (dq dtL_law_5 26 rfl) rfl ?_
  refine P.iconst (dq dtL_law_5 27 rfl) ?_
  refine P.iadd (dq dtL_law_5 28 rfl) ?_
  refine P.scld hX (dq dtL_law_5 29 rfl) (by omega) (by omega) ?_
  refine P.callV1 (M' := mX6_countOf) (d' := 11) mlL_81 mcX6_countOf mvX6_countOf (dq dtL_law_5 30 rfl) (by omega) (Nat.le_of_ble_eq_true rfl) hS.2.1.1 rfl ?_
  refine cf_countOf hS hFg (by omega) (xz_R xs _) ?_
  have hM1 := hM
  obtain ⟨wf, sz, lt, a1, a2, a3, a4, a5, fi, be, rp, cl, dg, nu, pk, wm, h84, -⟩ := id hM1
  refine P.aload_n (dq dtL_law_5 31 rfl) rfl ?_
  refine P.aload_n (dq dtL_law_5 32 rfl) rfl ?_
  refine P.iload_n (dq dtL_law_5 33 rfl) rfl ?_
  refine P.iconst (dq dtL_law_5 34 rfl) ?_
  refine P.iadd (dq dtL_law_5 35 rfl) ?_
  refine P.scld hX (dq dtL_law_5 36 rfl) (by omega) (by omega) ?_
  refine P.callV1 (M' := mX7_countOf) (d' := 11) mlL_84 mcX7_countOf mvX7_countOf (dq dtL_law_5 37 rfl) (by omega) (Nat.le_of_ble_eq_true rfl) h84 rfl ?_
  refine md_countOf hG hM1 hF (by omega) (xz_R xs _) (fun σ2 hM2 f2 => ?_)
  have hS2 := hS.frM f2
  refine P.icmp_same (t := 1005) (dq dtL_law_5 38 rfl) rfl ?_
  exact k _ _ hS2 hM2
theorem lc_17 {x : CX} {Q : PQ} {b : Nat × Nat} {σ : PH} {S : CSt} {n : Nat} {xs : Nat → Int32} {i : Int} (hX : SX x n xs) (hi : 0 ≤ i) (hn : i + 4 ≤ n) (hS : CS σ S) (hM : MD σ S) (k : ∀ (σ' : PH) (S' : CSt), CS σ' S' → MD σ' S' → P x 12 mL_law Q b 1005 [some (vR 2000), some (vR 0), some (vR 84), some (vI i)] [] 96 σ') : P x 12 mL_law Q b 613 [some (vR 2000), some (vR 0), some (vR 84), some (vI i)] [] 96 σ := by
  have hG := hS.1
  obtain ⟨F, sf, hFg⟩ := hS.2.2.2.2.2.2.2.1
  have hF : FgR S.now.1 F := hFg.1.2.2.2.2.2.2.2.2
  refine P.aload_n (dq dtL_law_5 41 rfl) rfl ?_
  refine P.aload_n (dq dtL_law_5 42 rfl) rfl ?_
  refine P.iload_n (dq dtL_law_5 43 rfl) rfl ?_
  refine P.iconst (dq dtL_law_5 44 rfl) ?_
  refine P.iadd (dq dtL_law_5 45 rfl) ?_
  refine P.scld hX (dq dtL_law_5 46 rfl) (by omega) (by omega) ?_
  refine P.callV1 (M' := mX6_placeOf) (d' := 11) mlL_85 mcX6_placeOf mvX6_placeOf (dq dtL_law_5 47 rfl) (by omega) (Nat.le_of_ble_eq_true rfl) hS.2.1.1 rfl ?_
  refine cf_placeOf hS hFg (by omega) (xz_R xs _) ?_
  have hM1 := hM
  obtain ⟨wf, sz, lt, a1, a2, a3, a4, a5, fi, be, rp, cl, dg, nu, pk, wm, h84, -⟩ := id hM1
  refine P.aload_n (dq dtL_law_5 48 rfl) rfl ?_
  refine P.aload_n (dq dtL_law_5 49 rfl) rfl ?_
  refine P.iload_n (dq dtL_law_5 50 rfl) rfl ?_
  refine P.iconst (dq dtL_law_5 51 rfl) ?_
  refine P.iadd (dq dtL_law_5 52 rfl) ?_
  refine P.scld hX (dq dtL_law_5 53 rfl) (by omega) (by omega) ?_
  refine P.callV1 (M' := mX7_placeOf) (d' := 11) mlL_88 mcX7_placeOf mvX7_placeOf (dq dtL_law_5 54 rfl) (by omega) (Nat.le_of_ble_eq_true rfl) h84 rfl ?_
  refine md_placeOf hG hM1 hF (by omega) (xz_R xs _) (fun σ2 hM2 f2 => ?_)
  have hS2 := hS.frM f2
  refine P.icmp_same (t := 1005) (dq dtL_law_5 55 rfl) rfl ?_
  exact k _ _ hS2 hM2
theorem lc_18 {x : CX} {Q : PQ} {b : Nat × Nat} {σ : PH} {S : CSt} {n : Nat} {xs : Nat → Int32} {i : Int} (hX : SX x n xs) (hi : 0 ≤ i) (hn : i + 4 ≤ n) (hS : CS σ S) (hM : MD σ S) (k : ∀ (σ' : PH) (S' : CSt), CS σ' S' → MD σ' S' → P x 12 mL_law Q b 1005 [some (vR 2000), some (vR 0), some (vR 84), some (vI i)] [] 96 σ') : P x 12 mL_law Q b 636 [some (vR 2000), some (vR 0), some (vR 84), some (vI i)] [] 96 σ := by
  have hG := hS.1
  obtain ⟨F, sf, hFg⟩ := hS.2.2.2.2.2.2.2.1
  have hF : FgR S.now.1 F := hFg.1.2.2.2.2.2.2.2.2
  refine P.aload_n (dq dtL_law_5 58 rfl) rfl ?_
  refine P.aload_n (dq dtL_law_5 59 rfl) rfl ?_
  refine P.iload_n (dq dtL_law_5 60 rfl) rfl ?_
  refine P.iconst (dq dtL_law_5 61 rfl) ?_
  refine P.iadd (dq dtL_law_5 62 rfl) ?_
  refine P.scld hX (dq dtL_law_5 63 rfl) (by omega) (by omega) ?_
  refine P.callV1 (M' := mX6_told) (d' := 11) mlL_89 mcX6_told mvX6_told (dq dtL_law_6 0 rfl) (by omega) (Nat.le_of_ble_eq_true rfl) hS.2.1.1 rfl ?_
  refine cl_told hS hFg (by omega) (xz_R xs _) ?_
  have hM1 := hM
  obtain ⟨wf, sz, lt, a1, a2, a3, a4, a5, fi, be, rp, cl, dg, nu, pk, wm, h84, -⟩ := id hM1
  refine P.aload_n (dq dtL_law_6 1 rfl) rfl ?_
  refine P.aload_n (dq dtL_law_6 2 rfl) rfl ?_
  refine P.iload_n (dq dtL_law_6 3 rfl) rfl ?_
  refine P.iconst (dq dtL_law_6 4 rfl) ?_
  refine P.iadd (dq dtL_law_6 5 rfl) ?_
  refine P.scld hX (dq dtL_law_6 6 rfl) (by omega) (by omega) ?_
  refine P.callV1 (M' := mX7_told) (d' := 11) mlL_92 mcX7_told mvX7_told (dq dtL_law_6 7 rfl) (by omega) (Nat.le_of_ble_eq_true rfl) h84 rfl ?_
  refine md_told hG hM1 hF (by omega) (xz_R xs _) (fun σ2 hM2 f2 => ?_)
  have hS2 := hS.frM f2
  refine P.icmp_same (t := 1005) (dq dtL_law_6 8 rfl) rfl ?_
  exact k _ _ hS2 hM2
theorem lc_19 {x : CX} {Q : PQ} {b : Nat × Nat} {σ : PH} {S : CSt} {n : Nat} {xs : Nat → Int32} {i : Int} (hX : SX x n xs) (hi : 0 ≤ i) (hn : i + 4 ≤ n) (hS : CS σ S) (hM : MD σ S) (k : ∀ (σ' : PH) (S' : CSt), CS σ' S' → MD σ' S' → P x 12 mL_law Q b 1005 [some (vR 2000), some (vR 0), some (vR 84), some (vI i)] [] 96 σ') : P x 12 mL_law Q b 659 [some (vR 2000), some (vR 0), some (vR 84), some (vI i)] [] 96 σ := by
  have hG := hS.1
  obtain ⟨F, sf, hFg⟩ := hS.2.2.2.2.2.2.2.1
  have hF : FgR S.now.1 F := hFg.1.2.2.2.2.2.2.2.2
  refine P.aload_n (dq dtL_law_6 11 rfl) rfl ?_
  refine P.aload_n (dq dtL_law_6 12 rfl) rfl ?_
  refine P.iload_n (dq dtL_law_6 13 rfl) rfl ?_
  refine P.iconst (dq dtL_law_6 14 rfl) ?_
  refine P.iadd (dq dtL_law_6 15 rfl) ?_
  refine P.scld hX (dq dtL_law_6 16 rfl) (by omega) (by omega) ?_
  refine P.callV1 (M' := mX6_sheet) (d' := 11) mlL_93 mcX6_sheet mvX6_sheet (dq dtL_law_6 17 rfl) (by omega) (Nat.le_of_ble_eq_true rfl) hS.2.1.1 rfl ?_
  refine cf_sheet hS hFg (by omega) (xz_R xs _) ?_
  have hM1 := hM
  obtain ⟨wf, sz, lt, a1, a2, a3, a4, a5, fi, be, rp, cl, dg, nu, pk, wm, h84, -⟩ := id hM1
  refine P.aload_n (dq dtL_law_6 18 rfl) rfl ?_
  refine P.aload_n (dq dtL_law_6 19 rfl) rfl ?_
  refine P.iload_n (dq dtL_law_6 20 rfl) rfl ?_
  refine P.iconst (dq dtL_law_6 21 rfl) ?_
  refine P.iadd (dq dtL_law_6 22 rfl) ?_
  refine P.scld hX (dq dtL_law_6 23 rfl) (by omega) (by omega) ?_
  refine P.callV1 (M' := mX7_sheet) (d' := 11) mlL_96 mcX7_sheet mvX7_sheet (dq dtL_law_6 24 rfl) (by omega) (Nat.le_of_ble_eq_true rfl) h84 rfl ?_
  refine md_sheet hG hM1 hF (by omega) (xz_R xs _) (fun σ2 hM2 f2 => ?_)
  have hS2 := hS.frM f2
  refine P.icmp_same (t := 1005) (dq dtL_law_6 25 rfl) rfl ?_
  exact k _ _ hS2 hM2
theorem lc_20 {x : CX} {Q : PQ} {b : Nat × Nat} {σ : PH} {S : CSt} {n : Nat} {xs : Nat → Int32} {i : Int} (hX : SX x n xs) (hi : 0 ≤ i) (hn : i + 4 ≤ n) (hS : CS σ S) (hM : MD σ S) (k : ∀ (σ' : PH) (S' : CSt), CS σ' S' → MD σ' S' → P x 12 mL_law Q b 1005 [some (vR 2000), some (vR 0), some (vR 84), some (vI i)] [] 96 σ') : P x 12 mL_law Q b 682 [some (vR 2000), some (vR 0), some (vR 84), some (vI i)] [] 96 σ := by
  have hG := hS.1
  refine P.aload_n (dq dtL_law_6 28 rfl) rfl ?_
  refine P.aload_n (dq dtL_law_6 29 rfl) rfl ?_
  refine P.iload_n (dq dtL_law_6 30 rfl) rfl ?_
  refine P.iconst (dq dtL_law_6 31 rfl) ?_
  refine P.iadd (dq dtL_law_6 32 rfl) ?_
  refine P.scld hX (dq dtL_law_6 33 rfl) (by omega) (by omega) ?_
  refine P.callV1 (M' := mX6_label) (d' := 11) mlL_97 mcX6_label mvX6_label (dq dtL_law_6 34 rfl) (by omega) (Nat.le_of_ble_eq_true rfl) hS.2.1.1 rfl ?_
  refine cl_label hS (by omega) (xz_R xs _) (fun σ1 hS1 f1 => ?_)
  have hM1 := hM.frC f1
  obtain ⟨wf, sz, lt, a1, a2, a3, a4, a5, fi, be, rp, cl, dg, nu, pk, wm, h84, -⟩ := id hM1
  refine P.aload_n (dq dtL_law_6 35 rfl) rfl ?_
  refine P.aload_n (dq dtL_law_6 36 rfl) rfl ?_
  refine P.iload_n (dq dtL_law_6 37 rfl) rfl ?_
  refine P.iconst (dq dtL_law_6 38 rfl) ?_
  refine P.iadd (dq dtL_law_6 39 rfl) ?_
  refine P.scld hX (dq dtL_law_6 40 rfl) (by omega) (by omega) ?_
  refine P.callV1 (M' := mX7_label) (d' := 11) mlL_100 mcX7_label mvX7_label (dq dtL_law_6 41 rfl) (by omega) (Nat.le_of_ble_eq_true rfl) h84 rfl ?_
  refine md_label hG hM1 (by omega) (xz_R xs _) (fun σ2 hM2 f2 => ?_)
  have hS2 := hS1.frM f2
  refine P.icmp_same (t := 1005) (dq dtL_law_6 42 rfl) rfl ?_
  exact k _ _ hS2 hM2
theorem lc_21 {x : CX} {Q : PQ} {b : Nat × Nat} {σ : PH} {S : CSt} {n : Nat} {xs : Nat → Int32} {i : Int} (hX : SX x n xs) (hi : 0 ≤ i) (hn : i + 4 ≤ n) (hS : CS σ S) (hM : MD σ S) (k : ∀ (σ' : PH) (S' : CSt), CS σ' S' → MD σ' S' → P x 12 mL_law Q b 1005 [some (vR 2000), some (vR 0), some (vR 84), some (vI i)] [] 96 σ') : P x 12 mL_law Q b 705 [some (vR 2000), some (vR 0), some (vR 84), some (vI i)] [] 96 σ := by
  have hG := hS.1
  refine P.aload_n (dq dtL_law_6 45 rfl) rfl ?_
  refine P.aload_n (dq dtL_law_6 46 rfl) rfl ?_
  refine P.iload_n (dq dtL_law_6 47 rfl) rfl ?_
  refine P.iconst (dq dtL_law_6 48 rfl) ?_
  refine P.iadd (dq dtL_law_6 49 rfl) ?_
  refine P.scld hX (dq dtL_law_6 50 rfl) (by omega) (by omega) ?_
  refine P.aload_n (dq dtL_law_6 51 rfl) rfl ?_
  refine P.iload_n (dq dtL_law_6 52 rfl) rfl ?_
  refine P.iconst (dq dtL_law_6 53 rfl) ?_
  refine P.iadd (dq dtL_law_6 54 rfl) ?_
  refine P.scld hX (dq dtL_law_6 55 rfl) (by omega) (by omega) ?_
  refine P.aload_n (dq dtL_law_6 56 rfl) rfl ?_
  refine P.iload_n (dq dtL_law_6 57 rfl) rfl ?_
  refine P.iconst (dq dtL_law_6 58 rfl) ?_
  refine P.iadd (dq dtL_law_6 59 rfl) ?_
  refine P.scld hX (dq dtL_law_6 60 rfl) (by omega) (by omega) ?_
  refine P.callV3 (M' := mX6_insert) (d' := 11) mlL_101 mcX6_insert mvX6_insert (dq dtL_law_6 61 rfl) (by omega) (Nat.le_of_ble_eq_true rfl) hS.2.1.1 rfl ?_
  refine cl_insert hS (by omega) (xz_R xs _) (xz_R xs _) (xz_R xs _) (fun σ1 hS1 f1 => ?_)
  have hM1 := hM.frC f1
  obtain ⟨wf, sz, lt, a1, a2, a3, a4, a5, fi, be, rp, cl, dg, nu, pk, wm, h84, -⟩ := id hM1
  refine P.aload_n (dq dtL_law_6 62 rfl) rfl ?_
  refine P.aload_n (dq dtL_law_6 63 rfl) rfl ?_
  refine P.iload_n (dq dtL_law_7 0 rfl) rfl ?_
  refine P.iconst (dq dtL_law_7 1 rfl) ?_
  refine P.iadd (dq dtL_law_7 2 rfl) ?_
  refine P.scld hX (dq dtL_law_7 3 rfl) (by omega) (by omega) ?_
  refine P.aload_n (dq dtL_law_7 4 rfl) rfl ?_
  refine P.iload_n (dq dtL_law_7 5 rfl) rfl ?_
  refine P.iconst (dq dtL_law_7 6 rfl) ?_
  refine P.iadd (dq dtL_law_7 7 rfl) ?_
  refine P.scld hX (dq dtL_law_7 8 rfl) (by omega) (by omega) ?_
  refine P.aload_n (dq dtL_law_7 9 rfl) rfl ?_
  refine P.iload_n (dq dtL_law_7 10 rfl) rfl ?_
  refine P.iconst (dq dtL_law_7 11 rfl) ?_
  refine P.iadd (dq dtL_law_7 12 rfl) ?_
  refine P.scld hX (dq dtL_law_7 13 rfl) (by omega) (by omega) ?_
  refine P.callV3 (M' := mX7_insert) (d' := 11) mlL_104 mcX7_insert mvX7_insert (dq dtL_law_7 14 rfl) (by omega) (Nat.le_of_ble_eq_true rfl) h84 rfl ?_
  refine md_insert hG hM1 (by omega) (xz_R xs _) (xz_R xs _) (xz_R xs _) (fun σ2 hM2 f2 => ?_)
  have hS2 := hS1.frM f2
  refine P.icmp_same (t := 1005) (dq dtL_law_7 15 rfl) rfl ?_
  exact k _ _ hS2 hM2
theorem lc_22 {x : CX} {Q : PQ} {b : Nat × Nat} {σ : PH} {S : CSt} {n : Nat} {xs : Nat → Int32} {i : Int} (hX : SX x n xs) (hi : 0 ≤ i) (hn : i + 4 ≤ n) (hS : CS σ S) (hM : MD σ S) (k : ∀ (σ' : PH) (S' : CSt), CS σ' S' → MD σ' S' → P x 12 mL_law Q b 1005 [some (vR 2000), some (vR 0), some (vR 84), some (vI i)] [] 96 σ') : P x 12 mL_law Q b 748 [some (vR 2000), some (vR 0), some (vR 84), some (vI i)] [] 96 σ := by
  have hG := hS.1
  refine P.aload_n (dq dtL_law_7 18 rfl) rfl ?_
  refine P.aload_n (dq dtL_law_7 19 rfl) rfl ?_
  refine P.iload_n (dq dtL_law_7 20 rfl) rfl ?_
  refine P.iconst (dq dtL_law_7 21 rfl) ?_
  refine P.iadd (dq dtL_law_7 22 rfl) ?_
  refine P.scld hX (dq dtL_law_7 23 rfl) (by omega) (by omega) ?_
  refine P.aload_n (dq dtL_law_7 24 rfl) rfl ?_
  refine P.iload_n (dq dtL_law_7 25 rfl) rfl ?_
  refine P.iconst (dq dtL_law_7 26 rfl) ?_
  refine P.iadd (dq dtL_law_7 27 rfl) ?_
  refine P.scld hX (dq dtL_law_7 28 rfl) (by omega) (by omega) ?_
  refine P.aload_n (dq dtL_law_7 29 rfl) rfl ?_
  refine P.iload_n (dq dtL_law_7 30 rfl) rfl ?_
  refine P.iconst (dq dtL_law_7 31 rfl) ?_
  refine P.iadd (dq dtL_law_7 32 rfl) ?_
  refine P.scld hX (dq dtL_law_7 33 rfl) (by omega) (by omega) ?_
  refine P.callV3 (M' := mX6_cut) (d' := 11) mlL_105 mcX6_cut mvX6_cut (dq dtL_law_7 34 rfl) (by omega) (Nat.le_of_ble_eq_true rfl) hS.2.1.1 rfl ?_
  refine cl_cut hS (by omega) (xz_R xs _) (xz_R xs _) (xz_R xs _) (fun σ1 hS1 f1 => ?_)
  have hM1 := hM.frC f1
  obtain ⟨wf, sz, lt, a1, a2, a3, a4, a5, fi, be, rp, cl, dg, nu, pk, wm, h84, -⟩ := id hM1
  refine P.aload_n (dq dtL_law_7 35 rfl) rfl ?_
  refine P.aload_n (dq dtL_law_7 36 rfl) rfl ?_
  refine P.iload_n (dq dtL_law_7 37 rfl) rfl ?_
  refine P.iconst (dq dtL_law_7 38 rfl) ?_
  refine P.iadd (dq dtL_law_7 39 rfl) ?_
  refine P.scld hX (dq dtL_law_7 40 rfl) (by omega) (by omega) ?_
  refine P.aload_n (dq dtL_law_7 41 rfl) rfl ?_
  refine P.iload_n (dq dtL_law_7 42 rfl) rfl ?_
  refine P.iconst (dq dtL_law_7 43 rfl) ?_
  refine P.iadd (dq dtL_law_7 44 rfl) ?_
  refine P.scld hX (dq dtL_law_7 45 rfl) (by omega) (by omega) ?_
  refine P.aload_n (dq dtL_law_7 46 rfl) rfl ?_
  refine P.iload_n (dq dtL_law_7 47 rfl) rfl ?_
  refine P.iconst (dq dtL_law_7 48 rfl) ?_
  refine P.iadd (dq dtL_law_7 49 rfl) ?_
  refine P.scld hX (dq dtL_law_7 50 rfl) (by omega) (by omega) ?_
  refine P.callV3 (M' := mX7_cut) (d' := 11) mlL_108 mcX7_cut mvX7_cut (dq dtL_law_7 51 rfl) (by omega) (Nat.le_of_ble_eq_true rfl) h84 rfl ?_
  refine md_cut hG hM1 (by omega) (xz_R xs _) (xz_R xs _) (xz_R xs _) (fun σ2 hM2 f2 => ?_)
  have hS2 := hS1.frM f2
  refine P.icmp_same (t := 1005) (dq dtL_law_7 52 rfl) rfl ?_
  exact k _ _ hS2 hM2
theorem lc_23 {x : CX} {Q : PQ} {b : Nat × Nat} {σ : PH} {S : CSt} {n : Nat} {xs : Nat → Int32} {i : Int} (hX : SX x n xs) (hi : 0 ≤ i) (hn : i + 4 ≤ n) (hS : CS σ S) (hM : MD σ S) (k : ∀ (σ' : PH) (S' : CSt), CS σ' S' → MD σ' S' → P x 12 mL_law Q b 1005 [some (vR 2000), some (vR 0), some (vR 84), some (vI i)] [] 96 σ') : P x 12 mL_law Q b 791 [some (vR 2000), some (vR 0), some (vR 84), some (vI i)] [] 96 σ := by
  have hG := hS.1
  refine P.aload_n (dq dtL_law_7 55 rfl) rfl ?_
  refine P.aload_n (dq dtL_law_7 56 rfl) rfl ?_
  refine P.iload_n (dq dtL_law_7 57 rfl) rfl ?_
  refine P.iconst (dq dtL_law_7 58 rfl) ?_
  refine P.iadd (dq dtL_law_7 59 rfl) ?_
  refine P.scld hX (dq dtL_law_7 60 rfl) (by omega) (by omega) ?_
  refine P.aload_n (dq dtL_law_7 61 rfl) rfl ?_
  refine P.iload_n (dq dtL_law_7 62 rfl) rfl ?_
  refine P.iconst (dq dtL_law_7 63 rfl) ?_
  refine P.iadd (dq dtL_law_8 0 rfl) ?_
  refine P.scld hX (dq dtL_law_8 1 rfl) (by omega) (by omega) ?_
  refine P.callV2 (M' := mX6_join) (d' := 11) mlL_109 mcX6_join mvX6_join (dq dtL_law_8 2 rfl) (by omega) (Nat.le_of_ble_eq_true rfl) hS.2.1.1 rfl ?_
  refine cl_join hS (by omega) (xz_R xs _) (xz_R xs _) (fun σ1 hS1 f1 => ?_)
  have hM1 := hM.frC f1
  obtain ⟨wf, sz, lt, a1, a2, a3, a4, a5, fi, be, rp, cl, dg, nu, pk, wm, h84, -⟩ := id hM1
  refine P.aload_n (dq dtL_law_8 3 rfl) rfl ?_
  refine P.aload_n (dq dtL_law_8 4 rfl) rfl ?_
  refine P.iload_n (dq dtL_law_8 5 rfl) rfl ?_
  refine P.iconst (dq dtL_law_8 6 rfl) ?_
  refine P.iadd (dq dtL_law_8 7 rfl) ?_
  refine P.scld hX (dq dtL_law_8 8 rfl) (by omega) (by omega) ?_
  refine P.aload_n (dq dtL_law_8 9 rfl) rfl ?_
  refine P.iload_n (dq dtL_law_8 10 rfl) rfl ?_
  refine P.iconst (dq dtL_law_8 11 rfl) ?_
  refine P.iadd (dq dtL_law_8 12 rfl) ?_
  refine P.scld hX (dq dtL_law_8 13 rfl) (by omega) (by omega) ?_
  refine P.callV2 (M' := mX7_join) (d' := 11) mlL_112 mcX7_join mvX7_join (dq dtL_law_8 14 rfl) (by omega) (Nat.le_of_ble_eq_true rfl) h84 rfl ?_
  refine md_join hG hM1 (by omega) (xz_R xs _) (xz_R xs _) (fun σ2 hM2 f2 => ?_)
  have hS2 := hS1.frM f2
  refine P.icmp_same (t := 1005) (dq dtL_law_8 15 rfl) rfl ?_
  exact k _ _ hS2 hM2
theorem lc_24 {x : CX} {Q : PQ} {b : Nat × Nat} {σ : PH} {S : CSt} {n : Nat} {xs : Nat → Int32} {i : Int} (hX : SX x n xs) (hi : 0 ≤ i) (hn : i + 4 ≤ n) (hS : CS σ S) (hM : MD σ S) (k : ∀ (σ' : PH) (S' : CSt), CS σ' S' → MD σ' S' → P x 12 mL_law Q b 1005 [some (vR 2000), some (vR 0), some (vR 84), some (vI i)] [] 96 σ') : P x 12 mL_law Q b 824 [some (vR 2000), some (vR 0), some (vR 84), some (vI i)] [] 96 σ := by
  have hG := hS.1
  refine P.aload_n (dq dtL_law_8 18 rfl) rfl ?_
  refine P.aload_n (dq dtL_law_8 19 rfl) rfl ?_
  refine P.iload_n (dq dtL_law_8 20 rfl) rfl ?_
  refine P.iconst (dq dtL_law_8 21 rfl) ?_
  refine P.iadd (dq dtL_law_8 22 rfl) ?_
  refine P.scld hX (dq dtL_law_8 23 rfl) (by omega) (by omega) ?_
  refine P.callV1 (M' := mX6_turn) (d' := 11) mlL_113 mcX6_turn mvX6_turn (dq dtL_law_8 24 rfl) (by omega) (Nat.le_of_ble_eq_true rfl) hS.2.1.1 rfl ?_
  refine cl_turn hS (by omega) (xz_R xs _) (fun σ1 hS1 f1 => ?_)
  have hM1 := hM.frC f1
  obtain ⟨wf, sz, lt, a1, a2, a3, a4, a5, fi, be, rp, cl, dg, nu, pk, wm, h84, -⟩ := id hM1
  refine P.aload_n (dq dtL_law_8 25 rfl) rfl ?_
  refine P.aload_n (dq dtL_law_8 26 rfl) rfl ?_
  refine P.iload_n (dq dtL_law_8 27 rfl) rfl ?_
  refine P.iconst (dq dtL_law_8 28 rfl) ?_
  refine P.iadd (dq dtL_law_8 29 rfl) ?_
  refine P.scld hX (dq dtL_law_8 30 rfl) (by omega) (by omega) ?_
  refine P.callV1 (M' := mX7_turn) (d' := 11) mlL_116 mcX7_turn mvX7_turn (dq dtL_law_8 31 rfl) (by omega) (Nat.le_of_ble_eq_true rfl) h84 rfl ?_
  refine md_turn hG hM1 (by omega) (xz_R xs _) (fun σ2 hM2 f2 => ?_)
  have hS2 := hS1.frM f2
  refine P.icmp_same (t := 1005) (dq dtL_law_8 32 rfl) rfl ?_
  exact k _ _ hS2 hM2
theorem lc_25 {x : CX} {Q : PQ} {b : Nat × Nat} {σ : PH} {S : CSt} {n : Nat} {xs : Nat → Int32} {i : Int} (hX : SX x n xs) (hi : 0 ≤ i) (hn : i + 4 ≤ n) (hS : CS σ S) (hM : MD σ S) (k : ∀ (σ' : PH) (S' : CSt), CS σ' S' → MD σ' S' → P x 12 mL_law Q b 1005 [some (vR 2000), some (vR 0), some (vR 84), some (vI i)] [] 96 σ') : P x 12 mL_law Q b 847 [some (vR 2000), some (vR 0), some (vR 84), some (vI i)] [] 96 σ := by
  have hG := hS.1
  refine P.aload_n (dq dtL_law_8 35 rfl) rfl ?_
  refine P.aload_n (dq dtL_law_8 36 rfl) rfl ?_
  refine P.iload_n (dq dtL_law_8 37 rfl) rfl ?_
  refine P.iconst (dq dtL_law_8 38 rfl) ?_
  refine P.iadd (dq dtL_law_8 39 rfl) ?_
  refine P.scld hX (dq dtL_law_8 40 rfl) (by omega) (by omega) ?_
  refine P.aload_n (dq dtL_law_8 41 rfl) rfl ?_
  refine P.iload_n (dq dtL_law_8 42 rfl) rfl ?_
  refine P.iconst (dq dtL_law_8 43 rfl) ?_
  refine P.iadd (dq dtL_law_8 44 rfl) ?_
  refine P.scld hX (dq dtL_law_8 45 rfl) (by omega) (by omega) ?_
  refine P.callV2 (M' := mX6_letter) (d' := 11) mlL_117 mcX6_letter mvX6_letter (dq dtL_law_8 46 rfl) (by omega) (Nat.le_of_ble_eq_true rfl) hS.2.1.1 rfl ?_
  refine cl_letter hS (by omega) (xz_R xs _) (xz_R xs _) ?_
  have hM1 := hM
  obtain ⟨wf, sz, lt, a1, a2, a3, a4, a5, fi, be, rp, cl, dg, nu, pk, wm, h84, -⟩ := id hM1
  refine P.aload_n (dq dtL_law_8 47 rfl) rfl ?_
  refine P.aload_n (dq dtL_law_8 48 rfl) rfl ?_
  refine P.iload_n (dq dtL_law_8 49 rfl) rfl ?_
  refine P.iconst (dq dtL_law_8 50 rfl) ?_
  refine P.iadd (dq dtL_law_8 51 rfl) ?_
  refine P.scld hX (dq dtL_law_8 52 rfl) (by omega) (by omega) ?_
  refine P.aload_n (dq dtL_law_8 53 rfl) rfl ?_
  refine P.iload_n (dq dtL_law_8 54 rfl) rfl ?_
  refine P.iconst (dq dtL_law_8 55 rfl) ?_
  refine P.iadd (dq dtL_law_8 56 rfl) ?_
  refine P.scld hX (dq dtL_law_8 57 rfl) (by omega) (by omega) ?_
  refine P.callV2 (M' := mX7_letter) (d' := 11) mlL_120 mcX7_letter mvX7_letter (dq dtL_law_8 58 rfl) (by omega) (Nat.le_of_ble_eq_true rfl) h84 rfl ?_
  refine md_letter hG hM1 (by omega) (xz_R xs _) (xz_R xs _) ?_
  have hM2 := hM1
  have hS2 := hS
  refine P.icmp_same (t := 1005) (dq dtL_law_8 59 rfl) rfl ?_
  exact k _ _ hS2 hM2
theorem lc_26 {x : CX} {Q : PQ} {b : Nat × Nat} {σ : PH} {S : CSt} {n : Nat} {xs : Nat → Int32} {i : Int} (hX : SX x n xs) (hi : 0 ≤ i) (hn : i + 4 ≤ n) (hS : CS σ S) (hM : MD σ S) (k : ∀ (σ' : PH) (S' : CSt), CS σ' S' → MD σ' S' → P x 12 mL_law Q b 1005 [some (vR 2000), some (vR 0), some (vR 84), some (vI i)] [] 96 σ') : P x 12 mL_law Q b 880 [some (vR 2000), some (vR 0), some (vR 84), some (vI i)] [] 96 σ := by
  have hG := hS.1
  refine P.aload_n (dq dtL_law_8 62 rfl) rfl ?_
  refine P.aload_n (dq dtL_law_8 63 rfl) rfl ?_
  refine P.iload_n (dq dtL_law_9 0 rfl) rfl ?_
  refine P.iconst (dq dtL_law_9 1 rfl) ?_
  refine P.iadd (dq dtL_law_9 2 rfl) ?_
  refine P.scld hX (dq dtL_law_9 3 rfl) (by omega) (by omega) ?_
  refine P.aload_n (dq dtL_law_9 4 rfl) rfl ?_
  refine P.iload_n (dq dtL_law_9 5 rfl) rfl ?_
  refine P.iconst (dq dtL_law_9 6 rfl) ?_
  refine P.iadd (dq dtL_law_9 7 rfl) ?_
  refine P.scld hX (dq dtL_law_9 8 rfl) (by omega) (by omega) ?_
  refine P.callV2 (M' := mX6_compare) (d' := 11) mlL_121 mcX6_compare mvX6_compare (dq dtL_law_9 9 rfl) (by omega) (Nat.le_of_ble_eq_true rfl) hS.2.1.1 rfl ?_
  refine cl_compare hS (by omega) (xz_R xs _) (xz_R xs _) ?_
  have hM1 := hM
  obtain ⟨wf, sz, lt, a1, a2, a3, a4, a5, fi, be, rp, cl, dg, nu, pk, wm, h84, -⟩ := id hM1
  refine P.aload_n (dq dtL_law_9 10 rfl) rfl ?_
  refine P.aload_n (dq dtL_law_9 11 rfl) rfl ?_
  refine P.iload_n (dq dtL_law_9 12 rfl) rfl ?_
  refine P.iconst (dq dtL_law_9 13 rfl) ?_
  refine P.iadd (dq dtL_law_9 14 rfl) ?_
  refine P.scld hX (dq dtL_law_9 15 rfl) (by omega) (by omega) ?_
  refine P.aload_n (dq dtL_law_9 16 rfl) rfl ?_
  refine P.iload_n (dq dtL_law_9 17 rfl) rfl ?_
  refine P.iconst (dq dtL_law_9 18 rfl) ?_
  refine P.iadd (dq dtL_law_9 19 rfl) ?_
  refine P.scld hX (dq dtL_law_9 20 rfl) (by omega) (by omega) ?_
  refine P.callV2 (M' := mX7_compare) (d' := 11) mlL_124 mcX7_compare mvX7_compare (dq dtL_law_9 21 rfl) (by omega) (Nat.le_of_ble_eq_true rfl) h84 rfl ?_
  refine md_compare hG hM1 (by omega) (xz_R xs _) (xz_R xs _) ?_
  have hM2 := hM1
  have hS2 := hS
  refine P.icmp_same (t := 1005) (dq dtL_law_9 22 rfl) rfl ?_
  exact k _ _ hS2 hM2
theorem lc_27 {x : CX} {Q : PQ} {b : Nat × Nat} {σ : PH} {S : CSt} {n : Nat} {xs : Nat → Int32} {i : Int} (hX : SX x n xs) (hi : 0 ≤ i) (hn : i + 4 ≤ n) (hS : CS σ S) (hM : MD σ S) (k : ∀ (σ' : PH) (S' : CSt), CS σ' S' → MD σ' S' → P x 12 mL_law Q b 1005 [some (vR 2000), some (vR 0), some (vR 84), some (vI i)] [] 96 σ') : P x 12 mL_law Q b 913 [some (vR 2000), some (vR 0), some (vR 84), some (vI i)] [] 96 σ := by
  have hG := hS.1
  obtain ⟨F, sf, hFg⟩ := hS.2.2.2.2.2.2.2.1
  have hF : FgR S.now.1 F := hFg.1.2.2.2.2.2.2.2.2
  refine P.aload_n (dq dtL_law_9 25 rfl) rfl ?_
  refine P.aload_n (dq dtL_law_9 26 rfl) rfl ?_
  refine P.iload_n (dq dtL_law_9 27 rfl) rfl ?_
  refine P.iconst (dq dtL_law_9 28 rfl) ?_
  refine P.iadd (dq dtL_law_9 29 rfl) ?_
  refine P.scld hX (dq dtL_law_9 30 rfl) (by omega) (by omega) ?_
  refine P.callV1 (M' := mX6_times) (d' := 11) mlL_125 mcX6_times mvX6_times (dq dtL_law_9 31 rfl) (by omega) (Nat.le_of_ble_eq_true rfl) hS.2.1.1 rfl ?_
  refine cl_times hS hFg (by omega) (xz_R xs _) ?_
  have hM1 := hM
  obtain ⟨wf, sz, lt, a1, a2, a3, a4, a5, fi, be, rp, cl, dg, nu, pk, wm, h84, -⟩ := id hM1
  refine P.aload_n (dq dtL_law_9 32 rfl) rfl ?_
  refine P.aload_n (dq dtL_law_9 33 rfl) rfl ?_
  refine P.iload_n (dq dtL_law_9 34 rfl) rfl ?_
  refine P.iconst (dq dtL_law_9 35 rfl) ?_
  refine P.iadd (dq dtL_law_9 36 rfl) ?_
  refine P.scld hX (dq dtL_law_9 37 rfl) (by omega) (by omega) ?_
  refine P.callV1 (M' := mX7_times) (d' := 11) mlL_128 mcX7_times mvX7_times (dq dtL_law_9 38 rfl) (by omega) (Nat.le_of_ble_eq_true rfl) h84 rfl ?_
  refine md_times hG hM1 hF (by omega) (xz_R xs _) (fun σ2 hM2 f2 => ?_)
  have hS2 := hS.frM f2
  refine P.icmp_same (t := 1005) (dq dtL_law_9 39 rfl) rfl ?_
  exact k _ _ hS2 hM2
theorem lc_28 {x : CX} {Q : PQ} {b : Nat × Nat} {σ : PH} {S : CSt} {n : Nat} {xs : Nat → Int32} {i : Int} (hX : SX x n xs) (hi : 0 ≤ i) (hn : i + 4 ≤ n) (hS : CS σ S) (hM : MD σ S) (k : ∀ (σ' : PH) (S' : CSt), CS σ' S' → MD σ' S' → P x 12 mL_law Q b 1005 [some (vR 2000), some (vR 0), some (vR 84), some (vI i)] [] 96 σ') : P x 12 mL_law Q b 936 [some (vR 2000), some (vR 0), some (vR 84), some (vI i)] [] 96 σ := by
  have hG := hS.1
  refine P.aload_n (dq dtL_law_9 42 rfl) rfl ?_
  refine P.aload_n (dq dtL_law_9 43 rfl) rfl ?_
  refine P.iload_n (dq dtL_law_9 44 rfl) rfl ?_
  refine P.iconst (dq dtL_law_9 45 rfl) ?_
  refine P.iadd (dq dtL_law_9 46 rfl) ?_
  refine P.scld hX (dq dtL_law_9 47 rfl) (by omega) (by omega) ?_
  refine P.callV1 (M' := mX6_word) (d' := 11) mlL_129 mcX6_word mvX6_word (dq dtL_law_9 48 rfl) (by omega) (Nat.le_of_ble_eq_true rfl) hS.2.1.1 rfl ?_
  refine cl_word hS (by omega) (xz_R xs _) ?_
  have hM1 := hM
  obtain ⟨wf, sz, lt, a1, a2, a3, a4, a5, fi, be, rp, cl, dg, nu, pk, wm, h84, -⟩ := id hM1
  refine P.aload_n (dq dtL_law_9 49 rfl) rfl ?_
  refine P.aload_n (dq dtL_law_9 50 rfl) rfl ?_
  refine P.iload_n (dq dtL_law_9 51 rfl) rfl ?_
  refine P.iconst (dq dtL_law_9 52 rfl) ?_
  refine P.iadd (dq dtL_law_9 53 rfl) ?_
  refine P.scld hX (dq dtL_law_9 54 rfl) (by omega) (by omega) ?_
  refine P.callV1 (M' := mX7_word) (d' := 11) mlL_132 mcX7_word mvX7_word (dq dtL_law_9 55 rfl) (by omega) (Nat.le_of_ble_eq_true rfl) h84 rfl ?_
  refine md_word hG hM1 (by omega) (xz_R xs _) ?_
  have hM2 := hM1
  have hS2 := hS
  refine P.icmp_same (t := 1005) (dq dtL_law_9 56 rfl) rfl ?_
  exact k _ _ hS2 hM2
theorem lc_29 {x : CX} {Q : PQ} {b : Nat × Nat} {σ : PH} {S : CSt} {n : Nat} {xs : Nat → Int32} {i : Int} (hX : SX x n xs) (hi : 0 ≤ i) (hn : i + 4 ≤ n) (hS : CS σ S) (hM : MD σ S) (k : ∀ (σ' : PH) (S' : CSt), CS σ' S' → MD σ' S' → P x 12 mL_law Q b 1005 [some (vR 2000), some (vR 0), some (vR 84), some (vI i)] [] 96 σ') : P x 12 mL_law Q b 959 [some (vR 2000), some (vR 0), some (vR 84), some (vI i)] [] 96 σ := by
  have hG := hS.1
  refine P.aload_n (dq dtL_law_9 59 rfl) rfl ?_
  refine P.aload_n (dq dtL_law_9 60 rfl) rfl ?_
  refine P.iload_n (dq dtL_law_9 61 rfl) rfl ?_
  refine P.iconst (dq dtL_law_9 62 rfl) ?_
  refine P.iadd (dq dtL_law_9 63 rfl) ?_
  refine P.scld hX (dq dtL_law_10 0 rfl) (by omega) (by omega) ?_
  refine P.callV1 (M' := mX6_value) (d' := 11) mlL_133 mcX6_value mvX6_value (dq dtL_law_10 1 rfl) (by omega) (Nat.le_of_ble_eq_true rfl) hS.2.1.1 rfl ?_
  refine cl_value hS (by omega) (xz_R xs _) ?_
  have hM1 := hM
  obtain ⟨wf, sz, lt, a1, a2, a3, a4, a5, fi, be, rp, cl, dg, nu, pk, wm, h84, -⟩ := id hM1
  refine P.aload_n (dq dtL_law_10 2 rfl) rfl ?_
  refine P.aload_n (dq dtL_law_10 3 rfl) rfl ?_
  refine P.iload_n (dq dtL_law_10 4 rfl) rfl ?_
  refine P.iconst (dq dtL_law_10 5 rfl) ?_
  refine P.iadd (dq dtL_law_10 6 rfl) ?_
  refine P.scld hX (dq dtL_law_10 7 rfl) (by omega) (by omega) ?_
  refine P.callV1 (M' := mX7_value) (d' := 11) mlL_136 mcX7_value mvX7_value (dq dtL_law_10 8 rfl) (by omega) (Nat.le_of_ble_eq_true rfl) h84 rfl ?_
  refine md_value hG hM1 (by omega) (xz_R xs _) ?_
  have hM2 := hM1
  have hS2 := hS
  refine P.icmp_same (t := 1005) (dq dtL_law_10 9 rfl) rfl ?_
  exact k _ _ hS2 hM2
theorem lc_30 {x : CX} {Q : PQ} {b : Nat × Nat} {σ : PH} {S : CSt} {n : Nat} {xs : Nat → Int32} {i : Int} (hX : SX x n xs) (hi : 0 ≤ i) (hn : i + 4 ≤ n) (hS : CS σ S) (hM : MD σ S) (k : ∀ (σ' : PH) (S' : CSt), CS σ' S' → MD σ' S' → P x 12 mL_law Q b 1005 [some (vR 2000), some (vR 0), some (vR 84), some (vI i)] [] 96 σ') : P x 12 mL_law Q b 982 [some (vR 2000), some (vR 0), some (vR 84), some (vI i)] [] 96 σ := by
  have hG := hS.1
  refine P.aload_n (dq dtL_law_10 12 rfl) rfl ?_
  refine P.aload_n (dq dtL_law_10 13 rfl) rfl ?_
  refine P.iload_n (dq dtL_law_10 14 rfl) rfl ?_
  refine P.iconst (dq dtL_law_10 15 rfl) ?_
  refine P.iadd (dq dtL_law_10 16 rfl) ?_
  refine P.scld hX (dq dtL_law_10 17 rfl) (by omega) (by omega) ?_
  refine P.callV1 (M' := mX6_drop) (d' := 11) mlL_137 mcX6_drop mvX6_drop (dq dtL_law_10 18 rfl) (by omega) (Nat.le_of_ble_eq_true rfl) hS.2.1.1 rfl ?_
  refine cl_drop hS (by omega) (xz_R xs _) (fun σ1 hS1 f1 => ?_)
  have hM1 := hM.frC f1
  obtain ⟨wf, sz, lt, a1, a2, a3, a4, a5, fi, be, rp, cl, dg, nu, pk, wm, h84, -⟩ := id hM1
  refine P.aload_n (dq dtL_law_10 19 rfl) rfl ?_
  refine P.aload_n (dq dtL_law_10 20 rfl) rfl ?_
  refine P.iload_n (dq dtL_law_10 21 rfl) rfl ?_
  refine P.iconst (dq dtL_law_10 22 rfl) ?_
  refine P.iadd (dq dtL_law_10 23 rfl) ?_
  refine P.scld hX (dq dtL_law_10 24 rfl) (by omega) (by omega) ?_
  refine P.callV1 (M' := mX7_drop) (d' := 11) mlL_140 mcX7_drop mvX7_drop (dq dtL_law_10 25 rfl) (by omega) (Nat.le_of_ble_eq_true rfl) h84 rfl ?_
  refine md_drop hG hM1 (by omega) (xz_R xs _) (fun σ2 hM2 f2 => ?_)
  have hS2 := hS1.frM f2
  refine P.icmp_same (t := 1005) (dq dtL_law_10 26 rfl) rfl ?_
  exact k _ _ hS2 hM2
