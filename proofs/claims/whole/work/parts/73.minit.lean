theorem Rw_00 : Rw (fun _ => 0) 0 m00.1 := ⟨fun _ _ _ => rfl, fun t j g0 g1 g2 g3 => absurd g3 (by show ¬ j < (0 : Int); omega), fun _ _ _ => rfl⟩
theorem GMs_00 : GMs m00.1 := ⟨by show (2 : Int) ≤ 3 ∧ (3 : Int) ≤ 8; omega, by show (10 : Int) ≤ 20 ∧ (20 : Int) ≤ 99; omega, fun t _ _ => ⟨by show (0 : Int) ≤ 0 ∧ (0 : Int) ≤ 6; omega, fun j hj => absurd hj (by show ¬ (0 ≤ j ∧ j < (0 : Int)); omega)⟩⟩
theorem pls_00 : pls m00.1 = [(4800, 1), (2400, 1), (0, 1)] := by decide +kernel
theorem cnt_00 {F : FgV} (hF : FgR m00.1 F) : cntF F.2.2.2.2.2.2 m00.1.1 m00.1.2.1 0 = 0 := by
  have hG := GMs_00
  have e0 := cntF_seg (co := F.2.2.2.2.2.2) (p := m00.1.1) (s := m00.1.2.1) (k := 0) (x := 0) (by decide) (by omega) (by decide) (by decide) (by decide)
  rw [e0, show (0 : Int) - 0 * m00.1.2.1 = 0 by decide, Int.mul_zero, Int.zero_ediv, Int.add_zero, hF.co0 hG]
  have hl := hF.2.2.2.1
  rw [pls_00] at hl
  obtain ⟨-, -, -, -, h0, h1, -⟩ := hl
  have hp := hF.2.2.2.2.1
  rw [pls_00] at hp
  have h1' : F.2.2.2.1 0 = 1 := h1
  have h0' : F.2.2.2.2.1 0 = 0 := h0
  have q : F.2.2.2.2.2.1 0 = 0 := hp 0 0 (by decide) (by omega) (by show (0 : Int) < F.2.2.2.1 0; omega)
  unfold gF
  rw [q, h0', h1']
  decide +kernel
/-- the reference as it is made -/
theorem md_init {x : CM} {d : Nat} {σ : PH} {Q : PQ} (hd : 4 ≤ d) (hq : σ 84 = pcO 7 [vI 0, vI 0, .null, vI 0, .null, .null, vI 0, vI 0, vI 0, vI 0, vI 0, vI 0, vI 0, .null, .null, .null, .null, .null, vI 0, .null, vI 0, .null, .null]) {F : FgV} (hF : FgR m00.1 F) (h : ∀ σ' : PH, MD σ' S00 → Fr σ σ' LM → Q none σ') : Call x d 11 1809 mX7_init [vR 84] 85 σ Q := by
  refine Call.of mcX7_init (Nat.le_of_ble_eq_true rfl) (fun y hy => ?_)
  subst hy
  refine P.aload_n (dq dtX7_init_0 0 rfl) rfl ?_
  refine P.objInit (dq dtX7_init_0 1 rfl) mlX7_1 (by omega) (Nat.le_of_ble_eq_true rfl) ?_
  refine P.aload_n (dq dtX7_init_0 2 rfl) rfl ?_
  refine P.iconst (dq dtX7_init_0 3 rfl) ?_
  refine P.put flX7_7 rfl (dq dtX7_init_0 4 rfl) (by repeat (first | assumption | exact up_s | rw [up_n (by first | assumption | (apply Ne.symm; assumption) | decide | omega)])) (by exact Nat.le_of_ble_eq_true rfl) rfl rfl rfl rfl rfl ?_
  refine P.aload_n (dq dtX7_init_0 5 rfl) rfl ?_
  refine P.bipush (dq dtX7_init_0 6 rfl) rfl ?_
  refine P.put flX7_13 rfl (dq dtX7_init_0 7 rfl) (by repeat (first | assumption | exact up_s | rw [up_n (by first | assumption | (apply Ne.symm; assumption) | decide | omega)])) (by exact Nat.le_of_ble_eq_true rfl) rfl rfl rfl rfl rfl ?_
  refine P.aload_n (dq dtX7_init_0 8 rfl) rfl ?_
  refine P.sipush (dq dtX7_init_0 9 rfl) rfl ?_
  refine P.newI (n := 1404) (b1 := 10) (b2 := 405) (dq dtX7_init_0 10 rfl) rfl (by omega) (by omega) ?_
  refine P.nN (N' := 86) rfl ?_
  refine P.putF flX7_16 rfl (dq dtX7_init_0 11 rfl) (by repeat (first | assumption | exact up_s | rw [up_n (by first | assumption | (apply Ne.symm; assumption) | decide | omega)])) (by exact Nat.le_of_ble_eq_true rfl) rfl rfl rfl rfl rfl rfl rfl ?_
  refine P.aload_n (dq dtX7_init_0 12 rfl) rfl ?_
  refine P.iconst (dq dtX7_init_0 13 rfl) ?_
  refine P.newZ (n := 2) (b1 := 9) (b2 := 403) (dq dtX7_init_0 14 rfl) rfl (by omega) (by omega) ?_
  refine P.nN (N' := 87) rfl ?_
  refine P.putF flX7_20 rfl (dq dtX7_init_0 15 rfl) (by repeat (first | assumption | exact up_s | rw [up_n (by first | assumption | (apply Ne.symm; assumption) | decide | omega)])) (by exact Nat.le_of_ble_eq_true rfl) rfl rfl rfl rfl rfl rfl rfl ?_
  refine P.aload_n (dq dtX7_init_0 16 rfl) rfl ?_
  refine P.sipush (dq dtX7_init_0 17 rfl) rfl ?_
  refine P.newI (n := 200) (b1 := 8) (b2 := 203) (dq dtX7_init_0 18 rfl) rfl (by omega) (by omega) ?_
  refine P.nN (N' := 88) rfl ?_
  refine P.putF flX7_24 rfl (dq dtX7_init_0 19 rfl) (by repeat (first | assumption | exact up_s | rw [up_n (by first | assumption | (apply Ne.symm; assumption) | decide | omega)])) (by exact Nat.le_of_ble_eq_true rfl) rfl rfl rfl rfl rfl rfl rfl ?_
  refine P.aload_n (dq dtX7_init_0 20 rfl) rfl ?_
  refine P.bipush (dq dtX7_init_0 21 rfl) rfl ?_
  refine P.newI (n := 16) (b1 := 7) (b2 := 187) (dq dtX7_init_0 22 rfl) rfl (by omega) (by omega) ?_
  refine P.nN (N' := 89) rfl ?_
  refine P.dup (dq dtX7_init_0 23 rfl) rfl ?_
  refine P.iconst (dq dtX7_init_0 24 rfl) ?_
  refine P.bipush (dq dtX7_init_0 25 rfl) rfl ?_
  refine P.iast (dq dtX7_init_0 26 rfl) (by repeat (first | assumption | exact up_s | rw [up_n (by first | assumption | (apply Ne.symm; assumption) | decide | omega)])) (by omega) (by omega) (by omega) ?_
  refine P.dup (dq dtX7_init_0 27 rfl) rfl ?_
  refine P.iconst (dq dtX7_init_0 28 rfl) ?_
  refine P.bipush (dq dtX7_init_0 29 rfl) rfl ?_
  refine P.iast (dq dtX7_init_0 30 rfl) (by repeat (first | assumption | exact up_s | rw [up_n (by first | assumption | (apply Ne.symm; assumption) | decide | omega)])) (by omega) (by omega) (by omega) ?_
  refine P.dup (dq dtX7_init_0 31 rfl) rfl ?_
  refine P.iconst (dq dtX7_init_0 32 rfl) ?_
  refine P.bipush (dq dtX7_init_0 33 rfl) rfl ?_
  refine P.iast (dq dtX7_init_0 34 rfl) (by repeat (first | assumption | exact up_s | rw [up_n (by first | assumption | (apply Ne.symm; assumption) | decide | omega)])) (by omega) (by omega) (by omega) ?_
  refine P.dup (dq dtX7_init_0 35 rfl) rfl ?_
  refine P.iconst (dq dtX7_init_0 36 rfl) ?_
  refine P.bipush (dq dtX7_init_0 37 rfl) rfl ?_
  refine P.iast (dq dtX7_init_0 38 rfl) (by repeat (first | assumption | exact up_s | rw [up_n (by first | assumption | (apply Ne.symm; assumption) | decide | omega)])) (by omega) (by omega) (by omega) ?_
  refine P.dup (dq dtX7_init_0 39 rfl) rfl ?_
  refine P.iconst (dq dtX7_init_0 40 rfl) ?_
  refine P.bipush (dq dtX7_init_0 41 rfl) rfl ?_
  refine P.iast (dq dtX7_init_0 42 rfl) (by repeat (first | assumption | exact up_s | rw [up_n (by first | assumption | (apply Ne.symm; assumption) | decide | omega)])) (by omega) (by omega) (by omega) ?_
  refine P.dup (dq dtX7_init_0 43 rfl) rfl ?_
  refine P.iconst (dq dtX7_init_0 44 rfl) ?_
  refine P.bipush (dq dtX7_init_0 45 rfl) rfl ?_
  refine P.iast (dq dtX7_init_0 46 rfl) (by repeat (first | assumption | exact up_s | rw [up_n (by first | assumption | (apply Ne.symm; assumption) | decide | omega)])) (by omega) (by omega) (by omega) ?_
  refine P.dup (dq dtX7_init_0 47 rfl) rfl ?_
  refine P.bipush (dq dtX7_init_0 48 rfl) rfl ?_
  refine P.bipush (dq dtX7_init_0 49 rfl) rfl ?_
  refine P.iast (dq dtX7_init_0 50 rfl) (by repeat (first | assumption | exact up_s | rw [up_n (by first | assumption | (apply Ne.symm; assumption) | decide | omega)])) (by omega) (by omega) (by omega) ?_
  refine P.dup (dq dtX7_init_0 51 rfl) rfl ?_
  refine P.bipush (dq dtX7_init_0 52 rfl) rfl ?_
  refine P.bipush (dq dtX7_init_0 53 rfl) rfl ?_
  refine P.iast (dq dtX7_init_0 54 rfl) (by repeat (first | assumption | exact up_s | rw [up_n (by first | assumption | (apply Ne.symm; assumption) | decide | omega)])) (by omega) (by omega) (by omega) ?_
  refine P.dup (dq dtX7_init_0 55 rfl) rfl ?_
  refine P.bipush (dq dtX7_init_0 56 rfl) rfl ?_
  refine P.bipush (dq dtX7_init_0 57 rfl) rfl ?_
  refine P.iast (dq dtX7_init_0 58 rfl) (by repeat (first | assumption | exact up_s | rw [up_n (by first | assumption | (apply Ne.symm; assumption) | decide | omega)])) (by omega) (by omega) (by omega) ?_
  refine P.dup (dq dtX7_init_0 59 rfl) rfl ?_
  refine P.bipush (dq dtX7_init_0 60 rfl) rfl ?_
  refine P.bipush (dq dtX7_init_0 61 rfl) rfl ?_
  refine P.iast (dq dtX7_init_0 62 rfl) (by repeat (first | assumption | exact up_s | rw [up_n (by first | assumption | (apply Ne.symm; assumption) | decide | omega)])) (by omega) (by omega) (by omega) ?_
  refine P.dup (dq dtX7_init_0 63 rfl) rfl ?_
  refine P.bipush (dq dtX7_init_1 0 rfl) rfl ?_
  refine P.bipush (dq dtX7_init_1 1 rfl) rfl ?_
  refine P.iast (dq dtX7_init_1 2 rfl) (by repeat (first | assumption | exact up_s | rw [up_n (by first | assumption | (apply Ne.symm; assumption) | decide | omega)])) (by omega) (by omega) (by omega) ?_
  refine P.dup (dq dtX7_init_1 3 rfl) rfl ?_
  refine P.bipush (dq dtX7_init_1 4 rfl) rfl ?_
  refine P.bipush (dq dtX7_init_1 5 rfl) rfl ?_
  refine P.iast (dq dtX7_init_1 6 rfl) (by repeat (first | assumption | exact up_s | rw [up_n (by first | assumption | (apply Ne.symm; assumption) | decide | omega)])) (by omega) (by omega) (by omega) ?_
  refine P.dup (dq dtX7_init_1 7 rfl) rfl ?_
  refine P.bipush (dq dtX7_init_1 8 rfl) rfl ?_
  refine P.bipush (dq dtX7_init_1 9 rfl) rfl ?_
  refine P.iast (dq dtX7_init_1 10 rfl) (by repeat (first | assumption | exact up_s | rw [up_n (by first | assumption | (apply Ne.symm; assumption) | decide | omega)])) (by omega) (by omega) (by omega) ?_
  refine P.dup (dq dtX7_init_1 11 rfl) rfl ?_
  refine P.bipush (dq dtX7_init_1 12 rfl) rfl ?_
  refine P.bipush (dq dtX7_init_1 13 rfl) rfl ?_
  refine P.iast (dq dtX7_init_1 14 rfl) (by repeat (first | assumption | exact up_s | rw [up_n (by first | assumption | (apply Ne.symm; assumption) | decide | omega)])) (by omega) (by omega) (by omega) ?_
  refine P.dup (dq dtX7_init_1 15 rfl) rfl ?_
  refine P.bipush (dq dtX7_init_1 16 rfl) rfl ?_
  refine P.bipush (dq dtX7_init_1 17 rfl) rfl ?_
  refine P.iast (dq dtX7_init_1 18 rfl) (by repeat (first | assumption | exact up_s | rw [up_n (by first | assumption | (apply Ne.symm; assumption) | decide | omega)])) (by omega) (by omega) (by omega) ?_
  refine P.dup (dq dtX7_init_1 19 rfl) rfl ?_
  refine P.bipush (dq dtX7_init_1 20 rfl) rfl ?_
  refine P.bipush (dq dtX7_init_1 21 rfl) rfl ?_
  refine P.iast (dq dtX7_init_1 22 rfl) (by repeat (first | assumption | exact up_s | rw [up_n (by first | assumption | (apply Ne.symm; assumption) | decide | omega)])) (by omega) (by omega) (by omega) ?_
  refine P.putF flX7_27 rfl (dq dtX7_init_1 23 rfl) (by repeat (first | assumption | exact up_s | rw [up_n (by first | assumption | (apply Ne.symm; assumption) | decide | omega)])) (by exact Nat.le_of_ble_eq_true rfl) rfl rfl rfl rfl rfl rfl rfl ?_
  refine P.ext (q := 88) (t := 0) (n := 16) (f' := wdA) (by repeat (first | assumption | exact up_s | rw [up_n (by first | assumption | (apply Ne.symm; assumption) | decide | omega)])) (fun i g1 g2 => ?_) ?_
  · rcases (show i = 0 ∨ i = 1 ∨ i = 2 ∨ i = 3 ∨ i = 4 ∨ i = 5 ∨ i = 6 ∨ i = 7 ∨ i = 8 ∨ i = 9 ∨ i = 10 ∨ i = 11 ∨ i = 12 ∨ i = 13 ∨ i = 14 ∨ i = 15 by omega) with e | e | e | e | e | e | e | e | e | e | e | e | e | e | e | e <;> (rw [e]; rfl)
  refine P.aload_n (dq dtX7_init_1 24 rfl) rfl ?_
  refine P.bipush (dq dtX7_init_1 25 rfl) rfl ?_
  refine P.newI (n := 8) (b1 := 6) (b2 := 179) (dq dtX7_init_1 26 rfl) rfl (by omega) (by omega) ?_
  refine P.nN (N' := 90) rfl ?_
  refine P.putF flX7_30 rfl (dq dtX7_init_1 27 rfl) (by repeat (first | assumption | exact up_s | rw [up_n (by first | assumption | (apply Ne.symm; assumption) | decide | omega)])) (by exact Nat.le_of_ble_eq_true rfl) rfl rfl rfl rfl rfl rfl rfl ?_
  refine P.aload_n (dq dtX7_init_1 28 rfl) rfl ?_
  refine P.bipush (dq dtX7_init_1 29 rfl) rfl ?_
  refine P.newI (n := 8) (b1 := 5) (b2 := 171) (dq dtX7_init_1 30 rfl) rfl (by omega) (by omega) ?_
  refine P.nN (N' := 91) rfl ?_
  refine P.putF flX7_33 rfl (dq dtX7_init_1 31 rfl) (by repeat (first | assumption | exact up_s | rw [up_n (by first | assumption | (apply Ne.symm; assumption) | decide | omega)])) (by exact Nat.le_of_ble_eq_true rfl) rfl rfl rfl rfl rfl rfl rfl ?_
  refine P.aload_n (dq dtX7_init_1 32 rfl) rfl ?_
  refine P.bipush (dq dtX7_init_1 33 rfl) rfl ?_
  refine P.newI (n := 8) (b1 := 4) (b2 := 163) (dq dtX7_init_1 34 rfl) rfl (by omega) (by omega) ?_
  refine P.nN (N' := 92) rfl ?_
  refine P.putF flX7_36 rfl (dq dtX7_init_1 35 rfl) (by repeat (first | assumption | exact up_s | rw [up_n (by first | assumption | (apply Ne.symm; assumption) | decide | omega)])) (by exact Nat.le_of_ble_eq_true rfl) rfl rfl rfl rfl rfl rfl rfl ?_
  refine P.aload_n (dq dtX7_init_1 36 rfl) rfl ?_
  refine P.bipush (dq dtX7_init_1 37 rfl) rfl ?_
  refine P.newI (n := 8) (b1 := 3) (b2 := 155) (dq dtX7_init_1 38 rfl) rfl (by omega) (by omega) ?_
  refine P.nN (N' := 93) rfl ?_
  refine P.putF flX7_39 rfl (dq dtX7_init_1 39 rfl) (by repeat (first | assumption | exact up_s | rw [up_n (by first | assumption | (apply Ne.symm; assumption) | decide | omega)])) (by exact Nat.le_of_ble_eq_true rfl) rfl rfl rfl rfl rfl rfl rfl ?_
  refine P.aload_n (dq dtX7_init_1 40 rfl) rfl ?_
  refine P.bipush (dq dtX7_init_1 41 rfl) rfl ?_
  refine P.newI (n := 80) (b1 := 2) (b2 := 75) (dq dtX7_init_1 42 rfl) rfl (by omega) (by omega) ?_
  refine P.nN (N' := 94) rfl ?_
  refine P.putF flX7_42 rfl (dq dtX7_init_1 43 rfl) (by repeat (first | assumption | exact up_s | rw [up_n (by first | assumption | (apply Ne.symm; assumption) | decide | omega)])) (by exact Nat.le_of_ble_eq_true rfl) rfl rfl rfl rfl rfl rfl rfl ?_
  refine P.aload_n (dq dtX7_init_1 44 rfl) rfl ?_
  refine P.iconst (dq dtX7_init_1 45 rfl) ?_
  refine P.newI (n := 3) (b1 := 1) (b2 := 72) (dq dtX7_init_1 46 rfl) rfl (by omega) (by omega) ?_
  refine P.nN (N' := 95) rfl ?_
  refine P.dup (dq dtX7_init_1 47 rfl) rfl ?_
  refine P.iconst (dq dtX7_init_1 48 rfl) ?_
  refine P.iconst (dq dtX7_init_1 49 rfl) ?_
  refine P.iast (dq dtX7_init_1 50 rfl) (by repeat (first | assumption | exact up_s | rw [up_n (by first | assumption | (apply Ne.symm; assumption) | decide | omega)])) (by omega) (by omega) (by omega) ?_
  refine P.dup (dq dtX7_init_1 51 rfl) rfl ?_
  refine P.iconst (dq dtX7_init_1 52 rfl) ?_
  refine P.iconst (dq dtX7_init_1 53 rfl) ?_
  refine P.iast (dq dtX7_init_1 54 rfl) (by repeat (first | assumption | exact up_s | rw [up_n (by first | assumption | (apply Ne.symm; assumption) | decide | omega)])) (by omega) (by omega) (by omega) ?_
  refine P.dup (dq dtX7_init_1 55 rfl) rfl ?_
  refine P.iconst (dq dtX7_init_1 56 rfl) ?_
  refine P.iconst (dq dtX7_init_1 57 rfl) ?_
  refine P.iast (dq dtX7_init_1 58 rfl) (by repeat (first | assumption | exact up_s | rw [up_n (by first | assumption | (apply Ne.symm; assumption) | decide | omega)])) (by omega) (by omega) (by omega) ?_
  refine P.putF flX7_45 rfl (dq dtX7_init_1 59 rfl) (by repeat (first | assumption | exact up_s | rw [up_n (by first | assumption | (apply Ne.symm; assumption) | decide | omega)])) (by exact Nat.le_of_ble_eq_true rfl) rfl rfl rfl rfl rfl rfl rfl ?_
  refine P.aload_n (dq dtX7_init_1 60 rfl) rfl ?_
  refine P.bipush (dq dtX7_init_1 61 rfl) rfl ?_
  refine P.newI (n := 72) (b1 := 0) (b2 := 0) (dq dtX7_init_1 62 rfl) rfl (by omega) (by omega) ?_
  refine P.nN (N' := 96) rfl ?_
  refine P.putF flX7_48 rfl (dq dtX7_init_1 63 rfl) (by repeat (first | assumption | exact up_s | rw [up_n (by first | assumption | (apply Ne.symm; assumption) | decide | omega)])) (by exact Nat.le_of_ble_eq_true rfl) rfl rfl rfl rfl rfl rfl rfl ?_
  refine P.aload_n (dq dtX7_init_2 0 rfl) rfl ?_
  refine P.callV0 (M' := mX7_rests) (d' := d - 1) mlX7_51 mcX7_rests mvX7_rests (dq dtX7_init_2 1 rfl) (by omega) (Nat.le_of_ble_eq_true rfl) (by repeat (first | assumption | exact up_s | rw [up_n (by first | assumption | (apply Ne.symm; assumption) | decide | omega)])) rfl ?_
  refine ct_X7_rests (v := m00.1) (by repeat (first | assumption | exact up_s | rw [up_n (by first | assumption | (apply Ne.symm; assumption) | decide | omega)])) (by repeat (first | assumption | exact up_s | rw [up_n (by first | assumption | (apply Ne.symm; assumption) | decide | omega)])) GMs_00 Rw_00 rfl rfl (by omega) (by repeat (first | assumption | exact up_s | rw [up_n (by first | assumption | (apply Ne.symm; assumption) | decide | omega)])) (by repeat (first | assumption | exact up_s | rw [up_n (by first | assumption | (apply Ne.symm; assumption) | decide | omega)])) (by repeat (first | assumption | exact up_s | rw [up_n (by first | assumption | (apply Ne.symm; assumption) | decide | omega)])) (by repeat (first | assumption | exact up_s | rw [up_n (by first | assumption | (apply Ne.symm; assumption) | decide | omega)])) hF (by repeat (first | assumption | exact up_s | rw [up_n (by first | assumption | (apply Ne.symm; assumption) | decide | omega)])) (by repeat (first | assumption | exact up_s | rw [up_n (by first | assumption | (apply Ne.symm; assumption) | decide | omega)])) (fun σ4 wf4 b1 b2 b3 b4 w84 w85 wRw wRs w86 w94 w89 w90 w91 w92 fr4 => ?_)
  rw [cnt_00 hF] at wRs
  refine P.vret (dq dtX7_init_2 2 rfl) rfl rfl rfl ?_
  have hWW : WR S00 wf4 := ⟨⟨wRw, wRs, rfl, rfl⟩, fun j q0 q1 => absurd q1 (by show ¬ j < (0 : Int); omega), fun k q0 q1 q2 => absurd rfl q2⟩
  have hLL : LR S00 (fun _ => -1) (fun _ => 0) := ⟨fun l q0 q1 => rfl, fun l j q0 q1 q2 q3 => rfl⟩
  exact h σ4 ⟨_, _, _, _, _, _, _, _, _, _, _, _, _, _, _, _, w84, w85, w86, (fr4 87 (by decide)).trans (by repeat (first | assumption | exact up_s | rw [up_n (by first | assumption | (apply Ne.symm; assumption) | decide | omega)])), (fr4 88 (by decide)).trans (by repeat (first | assumption | exact up_s | rw [up_n (by first | assumption | (apply Ne.symm; assumption) | decide | omega)])), w89, w90, w91, w92, (fr4 93 (by decide)).trans (by repeat (first | assumption | exact up_s | rw [up_n (by first | assumption | (apply Ne.symm; assumption) | decide | omega)])), w94, (fr4 95 (by decide)).trans (by repeat (first | assumption | exact up_s | rw [up_n (by first | assumption | (apply Ne.symm; assumption) | decide | omega)])), hWW, hLL⟩ (Fr.trans (by repeat (first | assumption | exact Fr.rf | refine Fr.up ?_ (by simp))) (fr4.wide (by simp)))
