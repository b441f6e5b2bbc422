theorem ct_coder {x : CM} {d N k : Nat} {σ : PH} {Q : PQ} (hk : k < 4) (h : Q (some (vI 0)) σ) : Call x d 0 0 mJ0_coder_7d493 [vR (1000 + k)] N σ Q := by
  refine Call.of mcJ0_coder_7d493 (Nat.le_of_ble_eq_true rfl) (fun y hy => ?_)
  subst hy
  refine P.gsC (dq dtJ0_coder_7d493 0 rfl) rfl ?_
  refine P.if_eq (t := 13) (dq dtJ0_coder_7d493 1 rfl) rfl (by omega) (fun h9 => absurd h9 (by decide)) (fun _ => ?_)
  refine P.aload_n (dq dtJ0_coder_7d493 2 rfl) rfl ?_
  refine P.sgetC hk (dq dtJ0_coder_7d493 3 rfl) rfl ?_
  refine P.goto (t := 14) (dq dtJ0_coder_7d493 4 rfl) rfl ?_
  exact P.nret (dq dtJ0_coder_7d493 6 rfl) rfl rfl (by decide +kernel) rfl h
theorem ct_isLatin1 {x : CM} {d N k : Nat} {σ : PH} {Q : PQ} (hk : k < 4) (h : Q (some (vI 1)) σ) : Call x d 0 0 mJ0_isLatin1_aae02 [vR (1000 + k)] N σ Q := by
  refine Call.of mcJ0_isLatin1_aae02 (Nat.le_of_ble_eq_true rfl) (fun y hy => ?_)
  subst hy
  refine P.gsC (dq dtJ0_isLatin1_aae02 0 rfl) rfl ?_
  refine P.if_eq (t := 17) (dq dtJ0_isLatin1_aae02 1 rfl) rfl (by omega) (fun h9 => absurd h9 (by decide)) (fun _ => ?_)
  refine P.aload_n (dq dtJ0_isLatin1_aae02 2 rfl) rfl ?_
  refine P.sgetC hk (dq dtJ0_isLatin1_aae02 3 rfl) rfl ?_
  refine P.if_ne (t := 17) (dq dtJ0_isLatin1_aae02 4 rfl) rfl (by omega) (fun h9 => absurd rfl h9) (fun _ => ?_)
  refine P.iconst (dq dtJ0_isLatin1_aae02 5 rfl) ?_
  refine P.goto (t := 18) (dq dtJ0_isLatin1_aae02 6 rfl) rfl ?_
  exact P.zret (dq dtJ0_isLatin1_aae02 8 rfl) rfl rfl (by decide) rfl h
theorem lnS_shr : ∀ k, k < 4 → iI (lnS k) >>> (iI 0 &&& 31) = iI (lnS k) := by decide +kernel
theorem ct_length {x : CM} {d N k : Nat} {σ : PH} {Q : PQ} (hd : 1 ≤ d) (hk : k < 4) (h : Q (some (vI (lnS k))) σ) : Call x d 0 0 mJ0_length_8abf5 [vR (1000 + k)] N σ Q := by
  refine Call.of mcJ0_length_8abf5 (Nat.le_of_ble_eq_true rfl) (fun y hy => ?_)
  subst hy
  refine P.aload_n (dq dtJ0_length_8abf5 0 rfl) rfl ?_
  refine P.sgetV hk (dq dtJ0_length_8abf5 1 rfl) rfl ?_
  refine P.slen hk (dq dtJ0_length_8abf5 2 rfl) ?_
  refine P.aload_n (dq dtJ0_length_8abf5 3 rfl) rfl ?_
  refine P.callVs (As := []) (M' := mJ0_coder_7d493) (d' := d - 1) hk mlJ0_335 mcJ0_coder_7d493 mvJ0_coder_7d493 rfl (dq dtJ0_length_8abf5 4 rfl) rfl (by omega) (Nat.le_of_ble_eq_true rfl) ?_
  refine ct_coder hk ?_
  refine P.ishr (dq dtJ0_length_8abf5 5 rfl) (lnS_shr k hk) ?_
  exact P.iret (dq dtJ0_length_8abf5 6 rfl) rfl rfl rfl h
theorem ct_precheck {x : CM} {d N : Nat} {σ : PH} {Q : PQ} {a c : Int} {v : Value} (hv : v = .null ∨ v = vR 1509) (ha : inR a) (hc : inR c) (hin : 0 ≤ a ∧ a < c) (h : Q (some (vI a)) σ) : Call x d 0 0 mJ3_checkIndex_8e157 [vI a, vI c, v] N σ Q := by
  refine Call.of mcJ3_checkIndex_8e157 (by rcases hv with rfl | rfl <;> exact Nat.le_of_ble_eq_true rfl) (fun y hy => ?_)
  subst hy
  have e : entL 3 [vI a, vI c, v] = [some (vI a), some (vI c), some v] := by rcases hv with rfl | rfl <;> rfl
  show P y d mJ3_checkIndex_8e157 Q (0, 0) 0 (entL 3 [vI a, vI c, v]) [] N σ
  rw [e]
  refine P.iload_n (dq dtJ3_checkIndex_8e157 0 rfl) rfl ?_
  refine P.if_lt (t := 9) (dq dtJ3_checkIndex_8e157 1 rfl) rfl ha (fun h9 => by omega) (fun _ => ?_)
  refine P.iload_n (dq dtJ3_checkIndex_8e157 2 rfl) rfl ?_
  refine P.iload_n (dq dtJ3_checkIndex_8e157 3 rfl) rfl ?_
  refine P.icmp_lt (t := 16) (dq dtJ3_checkIndex_8e157 4 rfl) rfl ha hc (fun _ => ?_) (fun h9 => by omega)
  refine P.iload_n (dq dtJ3_checkIndex_8e157 10 rfl) rfl ?_
  exact P.iret (dq dtJ3_checkIndex_8e157 11 rfl) rfl rfl rfl h
theorem ct_scheck {x : CM} {d N : Nat} {σ : PH} {Q : PQ} {a c : Int} (hd : 1 ≤ d) (ha : inR a) (hc : inR c) (hin : 0 ≤ a ∧ a < c) (h : Q none σ) : Call x d 0 0 mJ0_checkIndex_df160 [vI a, vI c] N σ Q := by
  refine Call.of mcJ0_checkIndex_df160 (Nat.le_of_ble_eq_true rfl) (fun y hy => ?_)
  subst hy
  refine P.iload_n (dq dtJ0_checkIndex_df160 0 rfl) rfl ?_
  refine P.iload_n (dq dtJ0_checkIndex_df160 1 rfl) rfl ?_
  refine P.gsF (dq dtJ0_checkIndex_df160 2 rfl) rfl (fun v hv => ?_)
  refine P.callS3 (M' := mJ3_checkIndex_8e157) (d' := d - 1) mlJ0_1059 mcJ3_checkIndex_8e157 msJ3_checkIndex_8e157 (dq dtJ0_checkIndex_df160 3 rfl) (by omega) (Nat.le_of_ble_eq_true rfl) ?_
  refine ct_precheck hv ha hc hin ?_
  refine P.pop (dq dtJ0_checkIndex_df160 4 rfl) rfl ?_
  exact P.vret (dq dtJ0_checkIndex_df160 5 rfl) rfl rfl rfl h
theorem ct_lcharAt {x : CM} {d N k : Nat} {σ : PH} {Q : PQ} {j : Int} (hd : 2 ≤ d) (hk : k < 4) (hj : 0 ≤ j ∧ j < lnS k) (h : Q (some (vI (chS k j))) σ) : Call x d 0 0 mJ1_charAt_3b067 [vR (1500 + k), vI j] N σ Q := by
  refine Call.of mcJ1_charAt_3b067 (Nat.le_of_ble_eq_true rfl) (fun y hy => ?_)
  subst hy
  have hb := lnS_b hk
  have hc := chS_ok k hk j.toNat (by have := hj.2; unfold lnS at this; omega)
  have e1 : iI (chS k j) = (bytS.getD k []).getD j.toNat 0 := iI_of _
  refine P.iload_n (dq dtJ1_charAt_3b067 0 rfl) rfl ?_
  refine P.aload_n (dq dtJ1_charAt_3b067 1 rfl) rfl ?_
  refine P.slen hk (dq dtJ1_charAt_3b067 2 rfl) ?_
  refine P.callS2 (M' := mJ0_checkIndex_df160) (d' := d - 1) mlJ1_9 mcJ0_checkIndex_df160 msJ0_checkIndex_df160 (dq dtJ1_charAt_3b067 3 rfl) (by omega) (Nat.le_of_ble_eq_true rfl) ?_
  refine ct_scheck (by omega) (by omega) (by omega) hj ?_
  refine P.aload_n (dq dtJ1_charAt_3b067 4 rfl) rfl ?_
  refine P.iload_n (dq dtJ1_charAt_3b067 5 rfl) rfl ?_
  refine P.sbald hk (dq dtJ1_charAt_3b067 6 rfl) hj ?_
  refine P.sipush (dq dtJ1_charAt_3b067 7 rfl) rfl ?_
  refine P.iand (z := chS k j) (dq dtJ1_charAt_3b067 8 rfl) (by rw [e1]; exact hc.1) ?_
  refine P.i2c (z := chS k j) (dq dtJ1_charAt_3b067 9 rfl) (by rw [e1]; exact hc.2.1) ?_
  exact P.nret (dq dtJ1_charAt_3b067 10 rfl) rfl rfl (by unfold vI; rw [e1]; exact hc.2.2) rfl h
theorem ct_charAt {x : CM} {d N k : Nat} {σ : PH} {Q : PQ} {j : Int} (hd : 3 ≤ d) (hk : k < 4) (hj : 0 ≤ j ∧ j < lnS k) (h : Q (some (vI (chS k j))) σ) : Call x d 0 0 mJ0_charAt_5068e [vR (1000 + k), vI j] N σ Q := by
  refine Call.of mcJ0_charAt_5068e (Nat.le_of_ble_eq_true rfl) (fun y hy => ?_)
  subst hy
  have hc := chS_ok k hk j.toNat (by have := hj.2; unfold lnS at this; omega)
  have e1 : iI (chS k j) = (bytS.getD k []).getD j.toNat 0 := iI_of _
  refine P.aload_n (dq dtJ0_charAt_5068e 0 rfl) rfl ?_
  refine P.callVs (As := []) (M' := mJ0_isLatin1_aae02) (d' := d - 1) hk mlJ0_492 mcJ0_isLatin1_aae02 mvJ0_isLatin1_aae02 rfl (dq dtJ0_charAt_5068e 1 rfl) rfl (by omega) (Nat.le_of_ble_eq_true rfl) ?_
  refine ct_isLatin1 hk ?_
  refine P.if_eq (t := 16) (dq dtJ0_charAt_5068e 2 rfl) rfl (by omega) (fun h9 => absurd h9 (by decide)) (fun _ => ?_)
  refine P.aload_n (dq dtJ0_charAt_5068e 3 rfl) rfl ?_
  refine P.sgetV hk (dq dtJ0_charAt_5068e 4 rfl) rfl ?_
  refine P.iload_n (dq dtJ0_charAt_5068e 5 rfl) rfl ?_
  refine P.callS2 (M' := mJ1_charAt_3b067) (d' := d - 1) mlJ0_495 mcJ1_charAt_3b067 msJ1_charAt_3b067 (dq dtJ0_charAt_5068e 6 rfl) (by omega) (Nat.le_of_ble_eq_true rfl) ?_
  refine ct_lcharAt (by omega) hk hj ?_
  exact P.nret (dq dtJ0_charAt_5068e 7 rfl) rfl rfl (by unfold vI; rw [e1]; exact hc.2.2) rfl h
