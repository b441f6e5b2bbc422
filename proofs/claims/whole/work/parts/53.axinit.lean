theorem P.abs {x : CX} {d : Nat} {M : MI} {Q : PQ} {b : Nat × Nat} {pc : Nat} {L : List (Option Value)} {st : List Value} {N : Nat} {σ : PH} (h : ∀ σ' : PH, σ' = σ → P x d M Q b pc L st N σ') : P x d M Q b pc L st N σ := h σ rfl
/-- the object as it is made -/
abbrev m00 : MoV := ((3, 20, (fun _ => 0), (fun _ => 0)), 0, 0, 0, 0, 1)
def S00 : CSt := ((0, fun _ => 0), m00, (0, 0, fun _ => m00), ((fun _ => 0), fun _ => m00), ((fun _ => 0), (fun _ => 0), fun _ _ => 0))
theorem cl_init {x : CM} {d : Nat} {σ : PH} {Q : PQ} (hd : 6 ≤ d) (hq : σ 0 = pcO 6 [.null, .null, .null, .null, .null, .null, .null, .null, .null, .null, .null, .null]) (h : ∀ σ' : PH, CS σ' S00 → FrC σ σ' → Q none σ') : Call x d 83 2650 mX6_init [vR 0] 1 σ Q := by
  refine Call.of mcX6_init (Nat.le_of_ble_eq_true rfl) (fun y hy => ?_)
  subst hy
  refine P.aload_n (dq dtX6_init_0 0 rfl) rfl ?_
  refine P.objInit (dq dtX6_init_0 1 rfl) mlX6_1 (by omega) (Nat.le_of_ble_eq_true rfl) ?_
  refine P.aload_n (dq dtX6_init_0 2 rfl) rfl ?_
  refine P.new (ci := 1) (n := 2) (fs := [.null, vI 0]) (b1 := 82) (b2 := 2648) (dq dtX6_init_0 3 rfl) clX6_7 rfl rfl rfl (by omega) ?_
  refine P.nN (N' := 2) rfl ?_
  refine P.dup (dq dtX6_init_0 4 rfl) rfl ?_
  refine P.sipush (dq dtX6_init_0 5 rfl) rfl ?_
  refine P.callIg (M' := mX1_init) (d' := d - 1) (mc := 1) (ms := 200) (As := [vI 200]) mlX6_11 mcX1_init mnX1_init rfl rfl (dq dtX6_init_0 6 rfl) rfl (by omega) (Nat.le_of_ble_eq_true rfl) ⟨by omega, by omega⟩ ?_
  refine ct_X1_init (q := 1) (r := 200) (by omega) rfl (by omega) (by omega) up_s (fun σ_1 k_1 f_1 => ?_)
  have z_1 := (f_1 0 (by decide)).trans (show _ = pcO 6 _ from (by repeat (first | assumption | exact up_s | rw [up_n (by first | assumption | (apply Ne.symm; assumption) | decide | omega)])))
  refine P.bud (b' := (81, 2448)) rfl ?_
  refine P.nN (N' := 3) rfl ?_
  refine P.putF flX6_14 rfl (dq dtX6_init_0 7 rfl) (by repeat (first | assumption | exact up_s | rw [up_n (by first | assumption | (apply Ne.symm; assumption) | decide | omega)])) (by exact Nat.le_of_ble_eq_true rfl) rfl rfl rfl rfl rfl rfl rfl ?_
  refine P.aload_n (dq dtX6_init_0 8 rfl) rfl ?_
  refine P.new (ci := 5) (n := 6) (fs := [.null, .null, .null, vI 0, vI 0, vI 0]) (b1 := 80) (b2 := 2442) (dq dtX6_init_0 9 rfl) clX6_18 rfl rfl rfl (by omega) ?_
  refine P.nN (N' := 4) rfl ?_
  refine P.dup (dq dtX6_init_0 10 rfl) rfl ?_
  refine P.callINg (M' := mX5_init) (d' := d - 1) (mc := 3) (ms := 603) (As := []) nlX6_20 mcX5_init mnX5_init rfl rfl (dq dtX6_init_0 11 rfl) rfl (by omega) (Nat.le_of_ble_eq_true rfl) ⟨by omega, by omega⟩ ?_
  refine ct_X5_init (q := 3) (by omega) (by omega) up_s (fun σ_2 k_2 f_2 => ?_)
  have z_2 := (f_2 0 (by decide)).trans (show _ = pcO 6 _ from (by repeat (first | assumption | exact up_s | rw [up_n (by first | assumption | (apply Ne.symm; assumption) | decide | omega)])))
  refine P.bud (b' := (77, 1839)) rfl ?_
  refine P.nN (N' := 7) rfl ?_
  refine P.putF flX6_21 rfl (dq dtX6_init_0 12 rfl) (by repeat (first | assumption | exact up_s | rw [up_n (by first | assumption | (apply Ne.symm; assumption) | decide | omega)])) (by exact Nat.le_of_ble_eq_true rfl) rfl rfl rfl rfl rfl rfl rfl ?_
  refine P.aload_n (dq dtX6_init_0 13 rfl) rfl ?_
  refine P.new (ci := 3) (n := 6) (fs := [.null, vI 0, vI 0, vI 0, vI 0, vI 0]) (b1 := 76) (b2 := 1833) (dq dtX6_init_0 14 rfl) clX6_25 rfl rfl rfl (by omega) ?_
  refine P.nN (N' := 8) rfl ?_
  refine P.dup (dq dtX6_init_0 15 rfl) rfl ?_
  refine P.callINg (M' := mX3_init) (d' := d - 1) (mc := 3) (ms := 116) (As := []) nlX6_27 mcX3_init mnX3_init rfl rfl (dq dtX6_init_0 16 rfl) rfl (by omega) (Nat.le_of_ble_eq_true rfl) ⟨by omega, by omega⟩ ?_
  refine ct_X3_init (q := 7) (by omega) (by omega) up_s (fun σ_3 k_3 f_3 => ?_)
  have z_3 := (f_3 0 (by decide)).trans (show _ = pcO 6 _ from (by repeat (first | assumption | exact up_s | rw [up_n (by first | assumption | (apply Ne.symm; assumption) | decide | omega)])))
  refine P.bud (b' := (73, 1717)) rfl ?_
  refine P.nN (N' := 11) rfl ?_
  refine P.putF flX6_28 rfl (dq dtX6_init_0 17 rfl) (by repeat (first | assumption | exact up_s | rw [up_n (by first | assumption | (apply Ne.symm; assumption) | decide | omega)])) (by exact Nat.le_of_ble_eq_true rfl) rfl rfl rfl rfl rfl rfl rfl ?_
  refine P.aload_n (dq dtX6_init_0 18 rfl) rfl ?_
  refine P.new (ci := 4) (n := 3) (fs := [.null, vI 0, vI 0]) (b1 := 72) (b2 := 1714) (dq dtX6_init_0 19 rfl) clX6_32 rfl rfl rfl (by omega) ?_
  refine P.nN (N' := 12) rfl ?_
  refine P.dup (dq dtX6_init_0 20 rfl) rfl ?_
  refine P.callIg (M' := mX4_init) (d' := d - 1) (mc := 33) (ms := 984) (As := []) mlX6_34 mcX4_init mnX4_init rfl rfl (dq dtX6_init_0 21 rfl) rfl (by omega) (Nat.le_of_ble_eq_true rfl) ⟨by omega, by omega⟩ ?_
  refine ct_X4_init (q := 11) (by omega) (by omega) up_s (fun σ_4 k_4 f_4 => ?_)
  have z_4 := (f_4 0 (by omega)).trans (show _ = pcO 6 _ from (by repeat (first | assumption | exact up_s | rw [up_n (by first | assumption | (apply Ne.symm; assumption) | decide | omega)])))
  refine P.bud (b' := (39, 730)) rfl ?_
  refine P.nN (N' := 45) rfl ?_
  refine P.putF flX6_35 rfl (dq dtX6_init_0 22 rfl) (by repeat (first | assumption | exact up_s | rw [up_n (by first | assumption | (apply Ne.symm; assumption) | decide | omega)])) (by exact Nat.le_of_ble_eq_true rfl) rfl rfl rfl rfl rfl rfl rfl ?_
  refine P.aload_n (dq dtX6_init_0 23 rfl) rfl ?_
  refine P.iconst (dq dtX6_init_0 24 rfl) ?_
  refine P.newR (n := 2) (t := 3) (b1 := 38) (b2 := 728) (dq dtX6_init_0 25 rfl) clX6_25 (Or.inr ⟨rfl, rfl⟩) rfl (by omega) (by omega) ?_
  refine P.nN (N' := 46) rfl ?_
  refine P.putF flX6_39 rfl (dq dtX6_init_0 26 rfl) (by repeat (first | assumption | exact up_s | rw [up_n (by first | assumption | (apply Ne.symm; assumption) | decide | omega)])) (by exact Nat.le_of_ble_eq_true rfl) rfl rfl rfl rfl rfl rfl rfl ?_
  refine P.aload_n (dq dtX6_init_0 27 rfl) rfl ?_
  refine P.iconst (dq dtX6_init_0 28 rfl) ?_
  refine P.newZ (n := 2) (b1 := 37) (b2 := 726) (dq dtX6_init_0 29 rfl) rfl (by omega) (by omega) ?_
  refine P.nN (N' := 47) rfl ?_
  refine P.putF flX6_43 rfl (dq dtX6_init_0 30 rfl) (by repeat (first | assumption | exact up_s | rw [up_n (by first | assumption | (apply Ne.symm; assumption) | decide | omega)])) (by exact Nat.le_of_ble_eq_true rfl) rfl rfl rfl rfl rfl rfl rfl ?_
  refine P.aload_n (dq dtX6_init_0 31 rfl) rfl ?_
  refine P.new (ci := 0) (n := 12) (fs := [vI 0, vI 0, .null, .null, vI 0, .null, .null, .null, .null, .null, vI 0, vI 0]) (b1 := 36) (b2 := 714) (dq dtX6_init_0 32 rfl) clX6_47 rfl rfl rfl (by omega) ?_
  refine P.nN (N' := 48) rfl ?_
  refine P.dup (dq dtX6_init_0 33 rfl) rfl ?_
  refine P.callINg (M' := mX0_init) (d' := d - 1) (mc := 7) (ms := 64) (As := []) nlX6_49 mcX0_init mnX0_init rfl rfl (dq dtX6_init_0 34 rfl) rfl (by omega) (Nat.le_of_ble_eq_true rfl) ⟨by omega, by omega⟩ ?_
  refine ct_X0_init (q := 47) (by omega) (by omega) up_s (fun σ_5 k_5 f_5 => ?_)
  have z_5 := (f_5 0 (by decide)).trans (show _ = pcO 6 _ from (by repeat (first | assumption | exact up_s | rw [up_n (by first | assumption | (apply Ne.symm; assumption) | decide | omega)])))
  have w45_5 := (f_5 45 (by decide)).trans (show _ = pcR 3 2 _ from (by repeat (first | assumption | exact up_s | rw [up_n (by first | assumption | (apply Ne.symm; assumption) | decide | omega)])))
  refine P.bud (b' := (29, 650)) rfl ?_
  refine P.nN (N' := 55) rfl ?_
  refine P.putF flX6_50 rfl (dq dtX6_init_0 35 rfl) (by repeat (first | assumption | exact up_s | rw [up_n (by first | assumption | (apply Ne.symm; assumption) | decide | omega)])) (by exact Nat.le_of_ble_eq_true rfl) rfl rfl rfl rfl rfl rfl rfl ?_
  refine P.aload_n (dq dtX6_init_0 36 rfl) rfl ?_
  refine P.new (ci := 2) (n := 4) (fs := [vI 0, vI 0, .null, .null]) (b1 := 28) (b2 := 646) (dq dtX6_init_0 37 rfl) clX6_54 rfl rfl rfl (by omega) ?_
  refine P.nN (N' := 56) rfl ?_
  refine P.dup (dq dtX6_init_0 38 rfl) rfl ?_
  refine P.callINg (M' := mX2_init) (d' := d - 1) (mc := 2) (ms := 112) (As := []) nlX6_56 mcX2_init mnX2_init rfl rfl (dq dtX6_init_0 39 rfl) rfl (by omega) (Nat.le_of_ble_eq_true rfl) ⟨by omega, by omega⟩ ?_
  refine ct_X2_init (q := 55) (by omega) (by omega) up_s (fun σ_6 k_6 f_6 => ?_)
  have z_6 := (f_6 0 (by decide)).trans (show _ = pcO 6 _ from (by repeat (first | assumption | exact up_s | rw [up_n (by first | assumption | (apply Ne.symm; assumption) | decide | omega)])))
  have w45_6 := (f_6 45 (by decide)).trans (show _ = pcR 3 2 _ from (by repeat (first | assumption | exact up_s | rw [up_n (by first | assumption | (apply Ne.symm; assumption) | decide | omega)])))
  refine P.bud (b' := (26, 534)) rfl ?_
  refine P.nN (N' := 58) rfl ?_
  refine P.putF flX6_57 rfl (dq dtX6_init_0 40 rfl) (by repeat (first | assumption | exact up_s | rw [up_n (by first | assumption | (apply Ne.symm; assumption) | decide | omega)])) (by exact Nat.le_of_ble_eq_true rfl) rfl rfl rfl rfl rfl rfl rfl ?_
  refine P.aload_n (dq dtX6_init_0 41 rfl) rfl ?_
  refine P.new (ci := 0) (n := 12) (fs := [vI 0, vI 0, .null, .null, vI 0, .null, .null, .null, .null, .null, vI 0, vI 0]) (b1 := 25) (b2 := 522) (dq dtX6_init_0 42 rfl) clX6_47 rfl rfl rfl (by omega) ?_
  refine P.nN (N' := 59) rfl ?_
  refine P.dup (dq dtX6_init_0 43 rfl) rfl ?_
  refine P.callINg (M' := mX0_init) (d' := d - 1) (mc := 7) (ms := 64) (As := []) nlX6_49 mcX0_init mnX0_init rfl rfl (dq dtX6_init_0 44 rfl) rfl (by omega) (Nat.le_of_ble_eq_true rfl) ⟨by omega, by omega⟩ ?_
  refine ct_X0_init (q := 58) (by omega) (by omega) up_s (fun σ_7 k_7 f_7 => ?_)
  have z_7 := (f_7 0 (by decide)).trans (show _ = pcO 6 _ from (by repeat (first | assumption | exact up_s | rw [up_n (by first | assumption | (apply Ne.symm; assumption) | decide | omega)])))
  have w45_7 := (f_7 45 (by decide)).trans (show _ = pcR 3 2 _ from (by repeat (first | assumption | exact up_s | rw [up_n (by first | assumption | (apply Ne.symm; assumption) | decide | omega)])))
  refine P.bud (b' := (18, 458)) rfl ?_
  refine P.nN (N' := 66) rfl ?_
  refine P.putF flX6_61 rfl (dq dtX6_init_0 45 rfl) (by repeat (first | assumption | exact up_s | rw [up_n (by first | assumption | (apply Ne.symm; assumption) | decide | omega)])) (by exact Nat.le_of_ble_eq_true rfl) rfl rfl rfl rfl rfl rfl rfl ?_
  refine P.aload_n (dq dtX6_init_0 46 rfl) rfl ?_
  refine P.new (ci := 1) (n := 2) (fs := [.null, vI 0]) (b1 := 17) (b2 := 456) (dq dtX6_init_0 47 rfl) clX6_7 rfl rfl rfl (by omega) ?_
  refine P.nN (N' := 67) rfl ?_
  refine P.dup (dq dtX6_init_0 48 rfl) rfl ?_
  refine P.sipush (dq dtX6_init_0 49 rfl) rfl ?_
  refine P.callIg (M' := mX1_init) (d' := d - 1) (mc := 1) (ms := 128) (As := [vI 128]) mlX6_11 mcX1_init mnX1_init rfl rfl (dq dtX6_init_0 50 rfl) rfl (by omega) (Nat.le_of_ble_eq_true rfl) ⟨by omega, by omega⟩ ?_
  refine ct_X1_init (q := 66) (r := 128) (by omega) rfl (by omega) (by omega) up_s (fun σ_8 k_8 f_8 => ?_)
  have z_8 := (f_8 0 (by decide)).trans (show _ = pcO 6 _ from (by repeat (first | assumption | exact up_s | rw [up_n (by first | assumption | (apply Ne.symm; assumption) | decide | omega)])))
  have w45_8 := (f_8 45 (by decide)).trans (show _ = pcR 3 2 _ from (by repeat (first | assumption | exact up_s | rw [up_n (by first | assumption | (apply Ne.symm; assumption) | decide | omega)])))
  refine P.bud (b' := (16, 328)) rfl ?_
  refine P.nN (N' := 68) rfl ?_
  refine P.putF flX6_64 rfl (dq dtX6_init_0 51 rfl) (by repeat (first | assumption | exact up_s | rw [up_n (by first | assumption | (apply Ne.symm; assumption) | decide | omega)])) (by exact Nat.le_of_ble_eq_true rfl) rfl rfl rfl rfl rfl rfl rfl ?_
  refine P.aload_n (dq dtX6_init_0 52 rfl) rfl ?_
  refine P.iconst (dq dtX6_init_0 53 rfl) ?_
  refine P.newR (n := 3) (t := 2) (b1 := 15) (b2 := 325) (dq dtX6_init_0 54 rfl) clX6_7 (Or.inl ⟨rfl, rfl⟩) rfl (by omega) (by omega) ?_
  refine P.nN (N' := 69) rfl ?_
  refine P.putF flX6_67 rfl (dq dtX6_init_0 55 rfl) (by repeat (first | assumption | exact up_s | rw [up_n (by first | assumption | (apply Ne.symm; assumption) | decide | omega)])) (by exact Nat.le_of_ble_eq_true rfl) rfl rfl rfl rfl rfl rfl rfl ?_
  refine P.aload_n (dq dtX6_init_0 56 rfl) rfl ?_
  refine P.iconst (dq dtX6_init_0 57 rfl) ?_
  refine P.newZ (n := 3) (b1 := 14) (b2 := 322) (dq dtX6_init_0 58 rfl) rfl (by omega) (by omega) ?_
  refine P.nN (N' := 70) rfl ?_
  refine P.putF flX6_71 rfl (dq dtX6_init_0 59 rfl) (by repeat (first | assumption | exact up_s | rw [up_n (by first | assumption | (apply Ne.symm; assumption) | decide | omega)])) (by exact Nat.le_of_ble_eq_true rfl) rfl rfl rfl rfl rfl rfl rfl ?_
  refine P.iconst (dq dtX6_init_0 60 rfl) ?_
  refine P.istore_n (dq dtX6_init_0 61 rfl) (by decide) rfl rfl ?_
  refine P.iload_n (dq dtX6_init_0 62 rfl) rfl ?_
  refine P.iconst (dq dtX6_init_0 63 rfl) ?_
  refine P.icmp_ge (t := 154) (dq dtX6_init_1 0 rfl) rfl (by omega) (by omega) (fun h9 => absurd h9 (by decide)) (fun _ => ?_)
  refine P.aload_n (dq dtX6_init_1 1 rfl) rfl ?_
  refine P.get flX6_39 (dq dtX6_init_1 2 rfl) (by repeat (first | assumption | exact up_s | rw [up_n (by first | assumption | (apply Ne.symm; assumption) | decide | omega)])) (by rfl) ?_
  refine P.iload_n (dq dtX6_init_1 3 rfl) rfl ?_
  refine P.new (ci := 3) (n := 6) (fs := [.null, vI 0, vI 0, vI 0, vI 0, vI 0]) (b1 := 13) (b2 := 316) (dq dtX6_init_1 4 rfl) clX6_25 rfl rfl rfl (by omega) ?_
  refine P.nN (N' := 71) rfl ?_
  refine P.dup (dq dtX6_init_1 5 rfl) rfl ?_
  refine P.callINg (M' := mX3_init) (d' := d - 1) (mc := 3) (ms := 116) (As := []) nlX6_27 mcX3_init mnX3_init rfl rfl (dq dtX6_init_1 6 rfl) rfl (by omega) (Nat.le_of_ble_eq_true rfl) ⟨by omega, by omega⟩ ?_
  refine ct_X3_init (q := 70) (by omega) (by omega) up_s (fun σ_9 k_9 f_9 => ?_)
  have z_9 := (f_9 0 (by decide)).trans (show _ = pcO 6 _ from (by repeat (first | assumption | exact up_s | rw [up_n (by first | assumption | (apply Ne.symm; assumption) | decide | omega)])))
  have w45_9 := (f_9 45 (by decide)).trans (show _ = pcR 3 2 _ from (by repeat (first | assumption | exact up_s | rw [up_n (by first | assumption | (apply Ne.symm; assumption) | decide | omega)])))
  have w68_9 := (f_9 68 (by decide)).trans (show _ = pcR 2 3 _ from (by repeat (first | assumption | exact up_s | rw [up_n (by first | assumption | (apply Ne.symm; assumption) | decide | omega)])))
  have kk_9 := k_9.1
  refine P.bud (b' := (10, 200)) rfl ?_
  refine P.nN (N' := 74) rfl ?_
  refine P.aast (dq dtX6_init_1 7 rfl) (by repeat (first | assumption | exact up_s | rw [up_n (by first | assumption | (apply Ne.symm; assumption) | decide | omega)])) (by repeat (first | assumption | exact up_s | rw [up_n (by first | assumption | (apply Ne.symm; assumption) | decide | omega)])) rfl (Or.inr ⟨rfl, rfl⟩) (by omega) (by omega) (by omega) ?_
  refine P.iinc (dq dtX6_init_1 8 rfl) rfl (by decide) rfl rfl ?_
  refine P.goto (t := 130) (dq dtX6_init_1 9 rfl) rfl ?_
  refine P.iload_n (dq dtX6_init_0 62 rfl) rfl ?_
  refine P.iconst (dq dtX6_init_0 63 rfl) ?_
  refine P.icmp_ge (t := 154) (dq dtX6_init_1 0 rfl) rfl (by omega) (by omega) (fun h9 => absurd h9 (by decide)) (fun _ => ?_)
  refine P.aload_n (dq dtX6_init_1 1 rfl) rfl ?_
  refine P.get flX6_39 (dq dtX6_init_1 2 rfl) (by repeat (first | assumption | exact up_s | rw [up_n (by first | assumption | (apply Ne.symm; assumption) | decide | omega)])) (by rfl) ?_
  refine P.iload_n (dq dtX6_init_1 3 rfl) rfl ?_
  refine P.new (ci := 3) (n := 6) (fs := [.null, vI 0, vI 0, vI 0, vI 0, vI 0]) (b1 := 9) (b2 := 194) (dq dtX6_init_1 4 rfl) clX6_25 rfl rfl rfl (by omega) ?_
  refine P.nN (N' := 75) rfl ?_
  refine P.dup (dq dtX6_init_1 5 rfl) rfl ?_
  refine P.callINg (M' := mX3_init) (d' := d - 1) (mc := 3) (ms := 116) (As := []) nlX6_27 mcX3_init mnX3_init rfl rfl (dq dtX6_init_1 6 rfl) rfl (by omega) (Nat.le_of_ble_eq_true rfl) ⟨by omega, by omega⟩ ?_
  refine ct_X3_init (q := 74) (by omega) (by omega) up_s (fun σ_10 k_10 f_10 => ?_)
  have z_10 := (f_10 0 (by decide)).trans (show _ = pcO 6 _ from (by repeat (first | assumption | exact up_s | rw [up_n (by first | assumption | (apply Ne.symm; assumption) | decide | omega)])))
  have w45_10 := (f_10 45 (by decide)).trans (show _ = pcR 3 2 _ from (by repeat (first | assumption | exact up_s | rw [up_n (by first | assumption | (apply Ne.symm; assumption) | decide | omega)])))
  have w68_10 := (f_10 68 (by decide)).trans (show _ = pcR 2 3 _ from (by repeat (first | assumption | exact up_s | rw [up_n (by first | assumption | (apply Ne.symm; assumption) | decide | omega)])))
  have kk_10 := k_10.1
  refine P.bud (b' := (6, 78)) rfl ?_
  refine P.nN (N' := 78) rfl ?_
  refine P.aast (dq dtX6_init_1 7 rfl) (by repeat (first | assumption | exact up_s | rw [up_n (by first | assumption | (apply Ne.symm; assumption) | decide | omega)])) (by repeat (first | assumption | exact up_s | rw [up_n (by first | assumption | (apply Ne.symm; assumption) | decide | omega)])) rfl (Or.inr ⟨rfl, rfl⟩) (by omega) (by omega) (by omega) ?_
  refine P.iinc (dq dtX6_init_1 8 rfl) rfl (by decide) rfl rfl ?_
  refine P.goto (t := 130) (dq dtX6_init_1 9 rfl) rfl ?_
  refine P.iload_n (dq dtX6_init_0 62 rfl) rfl ?_
  refine P.iconst (dq dtX6_init_0 63 rfl) ?_
  refine P.icmp_ge (t := 154) (dq dtX6_init_1 0 rfl) rfl (by omega) (by omega) (fun _ => ?_) (fun h9 => absurd h9 (by decide))
  refine P.iconst (dq dtX6_init_1 10 rfl) ?_
  refine P.istore_n (dq dtX6_init_1 11 rfl) (by decide) rfl rfl ?_
  refine P.iload_n (dq dtX6_init_1 12 rfl) rfl ?_
  refine P.iconst (dq dtX6_init_1 13 rfl) ?_
  refine P.icmp_ge (t := 182) (dq dtX6_init_1 14 rfl) rfl (by omega) (by omega) (fun h9 => absurd h9 (by decide)) (fun _ => ?_)
  refine P.aload_n (dq dtX6_init_1 15 rfl) rfl ?_
  refine P.get flX6_67 (dq dtX6_init_1 16 rfl) (by repeat (first | assumption | exact up_s | rw [up_n (by first | assumption | (apply Ne.symm; assumption) | decide | omega)])) (by rfl) ?_
  refine P.iload_n (dq dtX6_init_1 17 rfl) rfl ?_
  refine P.new (ci := 1) (n := 2) (fs := [.null, vI 0]) (b1 := 5) (b2 := 76) (dq dtX6_init_1 18 rfl) clX6_7 rfl rfl rfl (by omega) ?_
  refine P.nN (N' := 79) rfl ?_
  refine P.dup (dq dtX6_init_1 19 rfl) rfl ?_
  refine P.bipush (dq dtX6_init_1 20 rfl) rfl ?_
  refine P.callIg (M' := mX1_init) (d' := d - 1) (mc := 1) (ms := 24) (As := [vI 24]) mlX6_11 mcX1_init mnX1_init rfl rfl (dq dtX6_init_1 21 rfl) rfl (by omega) (Nat.le_of_ble_eq_true rfl) ⟨by omega, by omega⟩ ?_
  refine ct_X1_init (q := 78) (r := 24) (by omega) rfl (by omega) (by omega) up_s (fun σ_11 k_11 f_11 => ?_)
  have z_11 := (f_11 0 (by decide)).trans (show _ = pcO 6 _ from (by repeat (first | assumption | exact up_s | rw [up_n (by first | assumption | (apply Ne.symm; assumption) | decide | omega)])))
  have w45_11 := (f_11 45 (by decide)).trans (show _ = pcR 3 2 _ from (by repeat (first | assumption | exact up_s | rw [up_n (by first | assumption | (apply Ne.symm; assumption) | decide | omega)])))
  have w68_11 := (f_11 68 (by decide)).trans (show _ = pcR 2 3 _ from (by repeat (first | assumption | exact up_s | rw [up_n (by first | assumption | (apply Ne.symm; assumption) | decide | omega)])))
  have kk_11 := k_11.1
  refine P.bud (b' := (4, 52)) rfl ?_
  refine P.nN (N' := 80) rfl ?_
  refine P.aast (dq dtX6_init_1 22 rfl) (by repeat (first | assumption | exact up_s | rw [up_n (by first | assumption | (apply Ne.symm; assumption) | decide | omega)])) (by repeat (first | assumption | exact up_s | rw [up_n (by first | assumption | (apply Ne.symm; assumption) | decide | omega)])) rfl (Or.inl ⟨rfl, rfl⟩) (by omega) (by omega) (by omega) ?_
  refine P.iinc (dq dtX6_init_1 23 rfl) rfl (by decide) rfl rfl ?_
  refine P.goto (t := 156) (dq dtX6_init_1 24 rfl) rfl ?_
  refine P.iload_n (dq dtX6_init_1 12 rfl) rfl ?_
  refine P.iconst (dq dtX6_init_1 13 rfl) ?_
  refine P.icmp_ge (t := 182) (dq dtX6_init_1 14 rfl) rfl (by omega) (by omega) (fun h9 => absurd h9 (by decide)) (fun _ => ?_)
  refine P.aload_n (dq dtX6_init_1 15 rfl) rfl ?_
  refine P.get flX6_67 (dq dtX6_init_1 16 rfl) (by repeat (first | assumption | exact up_s | rw [up_n (by first | assumption | (apply Ne.symm; assumption) | decide | omega)])) (by rfl) ?_
  refine P.iload_n (dq dtX6_init_1 17 rfl) rfl ?_
  refine P.new (ci := 1) (n := 2) (fs := [.null, vI 0]) (b1 := 3) (b2 := 50) (dq dtX6_init_1 18 rfl) clX6_7 rfl rfl rfl (by omega) ?_
  refine P.nN (N' := 81) rfl ?_
  refine P.dup (dq dtX6_init_1 19 rfl) rfl ?_
  refine P.bipush (dq dtX6_init_1 20 rfl) rfl ?_
  refine P.callIg (M' := mX1_init) (d' := d - 1) (mc := 1) (ms := 24) (As := [vI 24]) mlX6_11 mcX1_init mnX1_init rfl rfl (dq dtX6_init_1 21 rfl) rfl (by omega) (Nat.le_of_ble_eq_true rfl) ⟨by omega, by omega⟩ ?_
  refine ct_X1_init (q := 80) (r := 24) (by omega) rfl (by omega) (by omega) up_s (fun σ_12 k_12 f_12 => ?_)
  have z_12 := (f_12 0 (by decide)).trans (show _ = pcO 6 _ from (by repeat (first | assumption | exact up_s | rw [up_n (by first | assumption | (apply Ne.symm; assumption) | decide | omega)])))
  have w45_12 := (f_12 45 (by decide)).trans (show _ = pcR 3 2 _ from (by repeat (first | assumption | exact up_s | rw [up_n (by first | assumption | (apply Ne.symm; assumption) | decide | omega)])))
  have w68_12 := (f_12 68 (by decide)).trans (show _ = pcR 2 3 _ from (by repeat (first | assumption | exact up_s | rw [up_n (by first | assumption | (apply Ne.symm; assumption) | decide | omega)])))
  have kk_12 := k_12.1
  refine P.bud (b' := (2, 26)) rfl ?_
  refine P.nN (N' := 82) rfl ?_
  refine P.aast (dq dtX6_init_1 22 rfl) (by repeat (first | assumption | exact up_s | rw [up_n (by first | assumption | (apply Ne.symm; assumption) | decide | omega)])) (by repeat (first | assumption | exact up_s | rw [up_n (by first | assumption | (apply Ne.symm; assumption) | decide | omega)])) rfl (Or.inl ⟨rfl, rfl⟩) (by omega) (by omega) (by omega) ?_
  refine P.iinc (dq dtX6_init_1 23 rfl) rfl (by decide) rfl rfl ?_
  refine P.goto (t := 156) (dq dtX6_init_1 24 rfl) rfl ?_
  refine P.iload_n (dq dtX6_init_1 12 rfl) rfl ?_
  refine P.iconst (dq dtX6_init_1 13 rfl) ?_
  refine P.icmp_ge (t := 182) (dq dtX6_init_1 14 rfl) rfl (by omega) (by omega) (fun h9 => absurd h9 (by decide)) (fun _ => ?_)
  refine P.aload_n (dq dtX6_init_1 15 rfl) rfl ?_
  refine P.get flX6_67 (dq dtX6_init_1 16 rfl) (by repeat (first | assumption | exact up_s | rw [up_n (by first | assumption | (apply Ne.symm; assumption) | decide | omega)])) (by rfl) ?_
  refine P.iload_n (dq dtX6_init_1 17 rfl) rfl ?_
  refine P.new (ci := 1) (n := 2) (fs := [.null, vI 0]) (b1 := 1) (b2 := 24) (dq dtX6_init_1 18 rfl) clX6_7 rfl rfl rfl (by omega) ?_
  refine P.nN (N' := 83) rfl ?_
  refine P.dup (dq dtX6_init_1 19 rfl) rfl ?_
  refine P.bipush (dq dtX6_init_1 20 rfl) rfl ?_
  refine P.callIg (M' := mX1_init) (d' := d - 1) (mc := 1) (ms := 24) (As := [vI 24]) mlX6_11 mcX1_init mnX1_init rfl rfl (dq dtX6_init_1 21 rfl) rfl (by omega) (Nat.le_of_ble_eq_true rfl) ⟨by omega, by omega⟩ ?_
  refine ct_X1_init (q := 82) (r := 24) (by omega) rfl (by omega) (by omega) up_s (fun σ_13 k_13 f_13 => ?_)
  have z_13 := (f_13 0 (by decide)).trans (show _ = pcO 6 _ from (by repeat (first | assumption | exact up_s | rw [up_n (by first | assumption | (apply Ne.symm; assumption) | decide | omega)])))
  have w45_13 := (f_13 45 (by decide)).trans (show _ = pcR 3 2 _ from (by repeat (first | assumption | exact up_s | rw [up_n (by first | assumption | (apply Ne.symm; assumption) | decide | omega)])))
  have w68_13 := (f_13 68 (by decide)).trans (show _ = pcR 2 3 _ from (by repeat (first | assumption | exact up_s | rw [up_n (by first | assumption | (apply Ne.symm; assumption) | decide | omega)])))
  have kk_13 := k_13.1
  refine P.bud (b' := (0, 0)) rfl ?_
  refine P.nN (N' := 84) rfl ?_
  refine P.aast (dq dtX6_init_1 22 rfl) (by repeat (first | assumption | exact up_s | rw [up_n (by first | assumption | (apply Ne.symm; assumption) | decide | omega)])) (by repeat (first | assumption | exact up_s | rw [up_n (by first | assumption | (apply Ne.symm; assumption) | decide | omega)])) rfl (Or.inl ⟨rfl, rfl⟩) (by omega) (by omega) (by omega) ?_
  refine P.iinc (dq dtX6_init_1 23 rfl) rfl (by decide) rfl rfl ?_
  refine P.goto (t := 156) (dq dtX6_init_1 24 rfl) rfl ?_
  refine P.iload_n (dq dtX6_init_1 12 rfl) rfl ?_
  refine P.iconst (dq dtX6_init_1 13 rfl) ?_
  refine P.icmp_ge (t := 182) (dq dtX6_init_1 14 rfl) rfl (by omega) (by omega) (fun _ => ?_) (fun h9 => absurd h9 (by decide))
  refine P.abs (fun σf hf => ?_)
  have x0f : σf 0 = pcO 6 [vR 1, vR 3, vR 7, vR 11, vR 45, vR 46, vR 47, vR 55, vR 58, vR 66, vR 68, vR 69] := by
    rw [hf]
    exact (show _ = pcO 6 _ from (by repeat (first | assumption | exact up_s | rw [up_n (by first | assumption | (apply Ne.symm; assumption) | decide | omega)])))
  have x45f : ∃ g : Int → Option Nat, σf 45 = pcR 3 2 g ∧ ∀ i : Int, 0 ≤ i → i < 2 → g i = some (70 + 4 * i.toNat) := by
    rw [hf]
    refine ⟨_, (show _ = pcR 3 2 _ from (by repeat (first | assumption | exact up_s | rw [up_n (by first | assumption | (apply Ne.symm; assumption) | decide | omega)]))), fun i g1 g2 => ?_⟩
    rcases (show i = 0 ∨ i = 1 by omega) with e | e <;> (rw [e]; rfl)
  have x68f : ∃ g : Int → Option Nat, σf 68 = pcR 2 3 g ∧ ∀ i : Int, 0 ≤ i → i < 3 → g i = some (78 + 2 * i.toNat) := by
    rw [hf]
    refine ⟨_, (show _ = pcR 2 3 _ from (by repeat (first | assumption | exact up_s | rw [up_n (by first | assumption | (apply Ne.symm; assumption) | decide | omega)]))), fun i g1 g2 => ?_⟩
    rcases (show i = 0 ∨ i = 1 ∨ i = 2 by omega) with e | e | e <;> (rw [e]; rfl)
  have g_13 : ∀ j : Nat, j < 84 → j ≠ 0 → j ≠ 45 → j ≠ 68 → σf j = σ_13 j := fun j _ q1 q2 q3 => by
    rw [hf]
    repeat (first | rfl | rw [up_n (by omega)])
  have g_12 : ∀ j : Nat, j < 82 → j ≠ 0 → j ≠ 45 → j ≠ 68 → σf j = σ_12 j := fun j q0 q1 q2 q3 => (g_13 j (by omega) q1 q2 q3).trans ((f_13 j (by simp; omega)).trans (by repeat (first | rfl | rw [up_n (by omega)])))
  have g_11 : ∀ j : Nat, j < 80 → j ≠ 0 → j ≠ 45 → j ≠ 68 → σf j = σ_11 j := fun j q0 q1 q2 q3 => (g_12 j (by omega) q1 q2 q3).trans ((f_12 j (by simp; omega)).trans (by repeat (first | rfl | rw [up_n (by omega)])))
  have g_10 : ∀ j : Nat, j < 78 → j ≠ 0 → j ≠ 45 → j ≠ 68 → σf j = σ_10 j := fun j q0 q1 q2 q3 => (g_11 j (by omega) q1 q2 q3).trans ((f_11 j (by simp; omega)).trans (by repeat (first | rfl | rw [up_n (by omega)])))
  have g_9 : ∀ j : Nat, j < 74 → j ≠ 0 → j ≠ 45 → j ≠ 68 → σf j = σ_9 j := fun j q0 q1 q2 q3 => (g_10 j (by omega) q1 q2 q3).trans ((f_10 j (by simp; omega)).trans (by repeat (first | rfl | rw [up_n (by omega)])))
  have g_8 : ∀ j : Nat, j < 68 → j ≠ 0 → j ≠ 45 → j ≠ 68 → σf j = σ_8 j := fun j q0 q1 q2 q3 => (g_9 j (by omega) q1 q2 q3).trans ((f_9 j (by simp; omega)).trans (by repeat (first | rfl | rw [up_n (by omega)])))
  have g_7 : ∀ j : Nat, j < 66 → j ≠ 0 → j ≠ 45 → j ≠ 68 → σf j = σ_7 j := fun j q0 q1 q2 q3 => (g_8 j (by omega) q1 q2 q3).trans ((f_8 j (by simp; omega)).trans (by repeat (first | rfl | rw [up_n (by omega)])))
  have g_6 : ∀ j : Nat, j < 58 → j ≠ 0 → j ≠ 45 → j ≠ 68 → σf j = σ_6 j := fun j q0 q1 q2 q3 => (g_7 j (by omega) q1 q2 q3).trans ((f_7 j (by simp; omega)).trans (by repeat (first | rfl | rw [up_n (by omega)])))
  have g_5 : ∀ j : Nat, j < 55 → j ≠ 0 → j ≠ 45 → j ≠ 68 → σf j = σ_5 j := fun j q0 q1 q2 q3 => (g_6 j (by omega) q1 q2 q3).trans ((f_6 j (by simp; omega)).trans (by repeat (first | rfl | rw [up_n (by omega)])))
  have g_4 : ∀ j : Nat, j < 45 → j ≠ 0 → j ≠ 45 → j ≠ 68 → σf j = σ_4 j := fun j q0 q1 q2 q3 => (g_5 j (by omega) q1 q2 q3).trans ((f_5 j (by simp; omega)).trans (by repeat (first | rfl | rw [up_n (by omega)])))
  have g_3 : ∀ j : Nat, j < 11 → j ≠ 0 → j ≠ 45 → j ≠ 68 → σf j = σ_3 j := fun j q0 q1 q2 q3 => (g_4 j (by omega) q1 q2 q3).trans ((f_4 j (by omega)).trans (by repeat (first | rfl | rw [up_n (by omega)])))
  have g_2 : ∀ j : Nat, j < 7 → j ≠ 0 → j ≠ 45 → j ≠ 68 → σf j = σ_2 j := fun j q0 q1 q2 q3 => (g_3 j (by omega) q1 q2 q3).trans ((f_3 j (by simp; omega)).trans (by repeat (first | rfl | rw [up_n (by omega)])))
  have g_1 : ∀ j : Nat, j < 3 → j ≠ 0 → j ≠ 45 → j ≠ 68 → σf j = σ_1 j := fun j q0 q1 q2 q3 => (g_2 j (by omega) q1 q2 q3).trans ((f_2 j (by simp; omega)).trans (by repeat (first | rfl | rw [up_n (by omega)])))
  have gC : FrC σ σf := fun j hj => by
    rw [hf]
    repeat (first | rfl | rw [up_n (by omega)] | rw [f_13 j (by simp; omega)] | rw [f_12 j (by simp; omega)] | rw [f_11 j (by simp; omega)] | rw [f_10 j (by simp; omega)] | rw [f_9 j (by simp; omega)] | rw [f_8 j (by simp; omega)] | rw [f_7 j (by simp; omega)] | rw [f_6 j (by simp; omega)] | rw [f_5 j (by simp; omega)] | rw [f_4 j (by omega)] | rw [f_3 j (by simp; omega)] | rw [f_2 j (by simp; omega)] | rw [f_1 j (by simp; omega)])
  obtain ⟨p0, ⟨pg, p1, p1b⟩, p2⟩ := k_4
  obtain ⟨_, _, _, _, _, F5, a50, a51, a52, a53, a54, a55, a56, a57⟩ := k_5
  obtain ⟨_, _, _, _, _, F7, a70, a71, a72, a73, a74, a75, a76, a77⟩ := k_7
  have GM : GMs m00.1 := ⟨by show (2 : Int) ≤ 3 ∧ (3 : Int) ≤ 8; omega, by show (10 : Int) ≤ 20 ∧ (20 : Int) ≤ 99; omega, fun t _ _ => ⟨by show (0 : Int) ≤ 0 ∧ (0 : Int) ≤ 6; omega, fun j hj => absurd hj (by show ¬ (0 ≤ j ∧ j < (0 : Int)); omega)⟩⟩
  have GM0 : GMo m00 := ⟨GM, by show (-100000 : Int) ≤ 0 ∧ (0 : Int) ≤ 100000; omega, by show (-100000 : Int) ≤ 0 ∧ (0 : Int) ≤ 100000; omega, Or.inr rfl⟩
  have GG : CG S00 := ⟨⟨by show (0 : Int) ≤ 0 ∧ (0 : Int) ≤ 200; omega, fun i hi => absurd hi (by show ¬ (0 ≤ i ∧ i < (0 : Int)); omega)⟩, GM0, ⟨by show (0 : Int) ≤ 0 ∧ (0 : Int) < 8; omega, by show (0 : Int) ≤ 0 ∧ (0 : Int) ≤ 8; omega, fun _ _ => GM0⟩, ⟨fun _ _ _ => Or.inl rfl, fun _ _ => GM0⟩, fun _ _ _ => Or.inl rfl, fun i _ => ⟨by show (0 : Int) ≤ 0 ∧ (0 : Int) ≤ 24; omega, fun j hj => absurd hj (by show ¬ (0 ≤ j ∧ j < (0 : Int)); omega)⟩⟩
  have x46f : σf 46 = pcI 1 2 (fun _ => 0) := by rw [hf]; repeat (first | exact up_s | rw [up_n (by decide)] | rw [f_13 46 (by decide)] | rw [f_12 46 (by decide)] | rw [f_11 46 (by decide)] | rw [f_10 46 (by decide)] | rw [f_9 46 (by decide)] | rw [f_8 46 (by decide)] | rw [f_7 46 (by decide)] | rw [f_6 46 (by decide)] | rw [f_5 46 (by decide)])
  have x69f : σf 69 = pcI 1 3 (fun _ => 0) := by rw [hf]; repeat (first | exact up_s | rw [up_n (by decide)] | rw [f_13 69 (by decide)] | rw [f_12 69 (by decide)] | rw [f_11 69 (by decide)] | rw [f_10 69 (by decide)] | rw [f_9 69 (by decide)])
  have hSn : CSn σf S00 := by
    refine ⟨GG, ⟨x0f, ⟨pg, (g_4 12 (by omega) (by omega) (by omega) (by omega)).trans p1, p1b⟩, x45f, x68f⟩, ⟨(g_1 1 (by omega) (by omega) (by omega) (by omega)).trans k_1.1, (g_1 2 (by omega) (by omega) (by omega) (by omega)).trans k_1.2⟩, ⟨_, _, _, _, _, _, (g_2 3 (by omega) (by omega) (by omega) (by omega)).trans k_2.1, (g_2 4 (by omega) (by omega) (by omega) (by omega)).trans k_2.2.1, (g_2 5 (by omega) (by omega) (by omega) (by omega)).trans k_2.2.2.1, (g_2 6 (by omega) (by omega) (by omega) (by omega)).trans k_2.2.2.2⟩, ⟨(g_3 7 (by omega) (by omega) (by omega) (by omega)).trans k_3.1, (g_3 8 (by omega) (by omega) (by omega) (by omega)).trans k_3.2.1, (g_3 9 (by omega) (by omega) (by omega) (by omega)).trans k_3.2.2.1, (g_3 10 (by omega) (by omega) (by omega) (by omega)).trans k_3.2.2.2⟩, ⟨(g_4 11 (by omega) (by omega) (by omega) (by omega)).trans p0, fun i hi => ?_⟩, ⟨x46f, fun i hi => ?_⟩, ⟨⟨_, _, _, _, _, F5, (g_5 47 (by omega) (by omega) (by omega) (by omega)).trans a50, (g_5 48 (by omega) (by omega) (by omega) (by omega)).trans a51, (g_5 49 (by omega) (by omega) (by omega) (by omega)).trans a52, (g_5 50 (by omega) (by omega) (by omega) (by omega)).trans a53, (g_5 51 (by omega) (by omega) (by omega) (by omega)).trans a54, (g_5 52 (by omega) (by omega) (by omega) (by omega)).trans a55, (g_5 53 (by omega) (by omega) (by omega) (by omega)).trans a56, (g_5 54 (by omega) (by omega) (by omega) (by omega)).trans a57⟩, _, _, (g_8 66 (by omega) (by omega) (by omega) (by omega)).trans k_8.1, (g_8 67 (by omega) (by omega) (by omega) (by omega)).trans k_8.2⟩, ⟨_, (g_6 55 (by omega) (by omega) (by omega) (by omega)).trans k_6.1, (g_6 56 (by omega) (by omega) (by omega) (by omega)).trans k_6.2.1, (g_6 57 (by omega) (by omega) (by omega) (by omega)).trans k_6.2.2⟩, ⟨_, _, _, _, _, F7, (g_7 58 (by omega) (by omega) (by omega) (by omega)).trans a70, (g_7 59 (by omega) (by omega) (by omega) (by omega)).trans a71, (g_7 60 (by omega) (by omega) (by omega) (by omega)).trans a72, (g_7 61 (by omega) (by omega) (by omega) (by omega)).trans a73, (g_7 62 (by omega) (by omega) (by omega) (by omega)).trans a74, (g_7 63 (by omega) (by omega) (by omega) (by omega)).trans a75, (g_7 64 (by omega) (by omega) (by omega) (by omega)).trans a76, (g_7 65 (by omega) (by omega) (by omega) (by omega)).trans a77⟩, x69f, fun i hi => ?_⟩
    · have m := p2 i hi
      exact ⟨(g_4 _ (by omega) (by omega) (by omega) (by omega)).trans m.1, (g_4 _ (by omega) (by omega) (by omega) (by omega)).trans m.2.1, (g_4 _ (by omega) (by omega) (by omega) (by omega)).trans m.2.2.1, (g_4 _ (by omega) (by omega) (by omega) (by omega)).trans m.2.2.2⟩
    · rcases (show i = 0 ∨ i = 1 by omega) with e | e <;> subst e
      · exact ⟨(g_9 70 (by omega) (by omega) (by omega) (by omega)).trans k_9.1, (g_9 71 (by omega) (by omega) (by omega) (by omega)).trans k_9.2.1, (g_9 72 (by omega) (by omega) (by omega) (by omega)).trans k_9.2.2.1, (g_9 73 (by omega) (by omega) (by omega) (by omega)).trans k_9.2.2.2⟩
      · exact ⟨(g_10 74 (by omega) (by omega) (by omega) (by omega)).trans k_10.1, (g_10 75 (by omega) (by omega) (by omega) (by omega)).trans k_10.2.1, (g_10 76 (by omega) (by omega) (by omega) (by omega)).trans k_10.2.2.1, (g_10 77 (by omega) (by omega) (by omega) (by omega)).trans k_10.2.2.2⟩
    · rcases (show i = 0 ∨ i = 1 ∨ i = 2 by omega) with e | e | e <;> subst e
      · exact ⟨(g_11 78 (by omega) (by omega) (by omega) (by omega)).trans k_11.1, (g_11 79 (by omega) (by omega) (by omega) (by omega)).trans k_11.2⟩
      · exact ⟨(g_12 80 (by omega) (by omega) (by omega) (by omega)).trans k_12.1, (g_12 81 (by omega) (by omega) (by omega) (by omega)).trans k_12.2⟩
      · exact ⟨(g_13 82 (by omega) (by omega) (by omega) (by omega)).trans k_13.1, (g_13 83 (by omega) (by omega) (by omega) (by omega)).trans k_13.2⟩
  refine P.aload_n (dq dtX6_init_1 25 rfl) rfl ?_
  refine P.callV0 (M' := mX6_reckonAnew) (d' := d - 1) mlX6_74 mcX6_reckonAnew mvX6_reckonAnew (dq dtX6_init_1 26 rfl) (by omega) (Nat.le_of_ble_eq_true rfl) (by repeat (first | assumption | exact up_s | rw [up_n (by first | assumption | (apply Ne.symm; assumption) | decide | omega)])) rfl ?_
  refine cn_reckon hSn (by omega) (fun σz hSz frz => ?_)
  refine P.vret (dq dtX6_init_1 27 rfl) rfl rfl rfl ?_
  exact h σz hSz (gC.trans frz)
