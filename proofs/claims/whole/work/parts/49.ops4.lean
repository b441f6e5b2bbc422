theorem CSn.axF {σ σ' : PH} {S : CSt} {F : FgV} {f : Int → Int} (hS : CSn σ S) (hFg : CFg σ S.now.1 F f) (hF : Fr σ σ' [1, 46, 69]) (h1 : σ' 1 = pcO 1 [vR 2, vI 0]) (h46 : σ' 46 = pcI 1 2 (fun _ => 0)) (h69 : σ' 69 = pcI 1 3 (fun _ => 0)) : CS σ' (sTx (sLab (sIk S (fun _ => 0)) (fun _ => 0) S.ln S.lf) 0 S.tf) := by
  obtain ⟨qG, qX, qTx, qRd, qNow, qPa, qKe, qFs, qSu, qSF, qLa⟩ := hS
  exact ⟨⟨⟨by show (0 : Int) ≤ 0 ∧ (0 : Int) ≤ 200; omega, fun i hi => absurd hi (by show ¬ (0 ≤ i ∧ i < (0 : Int)); omega)⟩, qG.2.1, qG.2.2.1, ⟨fun i _ _ => Or.inl rfl, qG.2.2.2.1.2⟩, fun i _ _ => Or.inl rfl, qG.2.2.2.2.2⟩, qX.fr hF rfl rfl rfl rfl, ⟨h1, (hF 2 (by decide)).trans qTx.2⟩, qRd.fr hF rfl, qNow.fr4 hF rfl, CPa.fr (S := S) qPa hF rfl rfl, ⟨h46, fun i hi => (qKe.2 i hi).fr4 hF (by simp [out]; omega)⟩, ⟨F, f, hFg.fr hF rfl rfl⟩, Fp.fr qSu hF rfl, qSF.fr hF rfl, h69, fun i hi => (qLa.2 i hi).fr hF (by simp; omega) (by simp; omega)⟩
theorem cb5 {z : Int} (h : -751 ≤ z ∧ z ≤ 2271) : -100000 ≤ z ∧ z ≤ 100000 := by omega
/-- AxisTable.merged -/
theorem cl_merged {x : CM} {d N : Nat} {σ : PH} {Q : PQ} {S : CSt} (hS : CS σ S) (hd : 6 ≤ d) {a b c : Int} (ha : inR a) (hb : inR b) (hc : inR c) (h : ∀ (σ' : PH) (F' : FgV), CS σ' S → FrC σ σ' → (rfR S.now.1.1 a b c = 0 → FgR (addM S.now.1 (a * 2 + b) c) F') → Q (some (vI (if rfR S.now.1.1 a b c = 0 then F'.2.2.2.2.2.2 a else rfR S.now.1.1 a b c))) σ') : Call x d 0 0 mX6_merged [vR 0, vI a, vI b, vI c] N σ Q := by
  refine Call.of mcX6_merged (Nat.le_of_ble_eq_true rfl) (fun y hy => ?_)
  subst hy
  obtain ⟨hG, hX, hTx, hRd, hNow, hPa, hKe, ⟨F, sf, hFg⟩, ⟨sv, hSu⟩, hSF, hLa⟩ := id hS
  have x0 := hX.1
  have x1 := hTx.1
  have x2 := hTx.2
  have x7 := hNow.1
  have x8 := hNow.2.1
  have hGm := hG.2.1.1
  have hp := hGm.1
  have hs := hGm.2.1
  obtain ⟨f0, f1, f2, f3, f4, f5, f6, f7, fR⟩ := id hFg.1
  have tB := fR.tb hGm
  have hL9 := mul_bd (k := S.now.1.1 - 1) (s := S.now.1.2.1) (by omega) (by omega) (by omega) (by omega)
  have x55 := hSu.1
  obtain ⟨_, _, _, _, _, _, x58, _⟩ := id hSF
  refine P.aload_n (dq dtX6_merged 0 rfl) rfl ?_
  refine P.iload_n (dq dtX6_merged 1 rfl) rfl ?_
  refine P.iload_n (dq dtX6_merged 2 rfl) rfl ?_
  refine P.iload_n (dq dtX6_merged 3 rfl) rfl ?_
  refine P.callV3 (M' := mX6_refusalOfRun) (d' := d - 1) mlX6_115 mcX6_refusalOfRun mvX6_refusalOfRun (dq dtX6_merged 4 rfl) (by omega) (Nat.le_of_ble_eq_true rfl) (by repeat (first | assumption | exact up_s | rw [up_n (by first | assumption | (apply Ne.symm; assumption) | decide | omega)])) rfl ?_
  refine ct_refRun hS (by omega) ha hb hc ?_
  refine P.istore (dq dtX6_merged 5 rfl) (by decide) rfl rfl ?_
  refine P.iload (dq dtX6_merged 6 rfl) rfl ?_
  refine P.if_eq (t := 17) (dq dtX6_merged 7 rfl) rfl (rfR_b _ _ _ _) (fun c_11 => ?_) (fun c_11 => ?_)
  · obtain ⟨e1, e2, e3⟩ := rfR_0 c_11
    refine P.aload_n (dq dtX6_merged 10 rfl) rfl ?_
    refine P.get flX6_57 (dq dtX6_merged 11 rfl) (by repeat (first | assumption | exact up_s | rw [up_n (by first | assumption | (apply Ne.symm; assumption) | decide | omega)])) (by rfl) ?_
    refine P.aload_n (dq dtX6_merged 12 rfl) rfl ?_
    refine P.get flX6_28 (dq dtX6_merged 13 rfl) (by repeat (first | assumption | exact up_s | rw [up_n (by first | assumption | (apply Ne.symm; assumption) | decide | omega)])) (by rfl) ?_
    refine P.get flX6_90 (dq dtX6_merged 14 rfl) (by repeat (first | assumption | exact up_s | rw [up_n (by first | assumption | (apply Ne.symm; assumption) | decide | omega)])) (by rfl) ?_
    refine P.callV1 (M' := mX2_copyFrom) (d' := d - 1) mlX6_93 mcX2_copyFrom mvX2_copyFrom (dq dtX6_merged 15 rfl) (by omega) (Nat.le_of_ble_eq_true rfl) (by repeat (first | assumption | exact up_s | rw [up_n (by first | assumption | (apply Ne.symm; assumption) | decide | omega)])) rfl ?_
    refine ct_X2_copyFrom hSu hNow.2 (by omega) (by omega) (fun σ1 k1 fr1 => ?_)
    have y0 := (fr1 0 (by decide)).trans x0
    have y55 := k1.1
    have y58 := (fr1 58 (by decide)).trans x58
    refine P.aload_n (dq dtX6_merged 16 rfl) rfl ?_
    refine P.get flX6_57 (dq dtX6_merged 17 rfl) (by repeat (first | assumption | exact up_s | rw [up_n (by first | assumption | (apply Ne.symm; assumption) | decide | omega)])) (by rfl) ?_
    refine P.iload_n (dq dtX6_merged 18 rfl) rfl ?_
    refine P.iload_n (dq dtX6_merged 19 rfl) rfl ?_
    refine P.iload_n (dq dtX6_merged 20 rfl) rfl ?_
    refine P.callV3 (M' := mX2_add) (d' := d - 1) mlX6_123 mcX2_add mvX2_add (dq dtX6_merged 21 rfl) (by omega) (Nat.le_of_ble_eq_true rfl) (by repeat (first | assumption | exact up_s | rw [up_n (by first | assumption | (apply Ne.symm; assumption) | decide | omega)])) rfl ?_
    refine ct_X2_add k1 (by omega) (by omega) e1 (by omega) (hGm.2.2 _ (by omega) (by omega)).1 (fun σ2 k2 fr2 => ?_)
    have z0 := (fr2 0 (by decide)).trans y0
    have z55 := k2.1
    have z58 := (fr2 58 (by decide)).trans y58
    have zSF := (hSF.fr fr1 rfl).fr fr2 rfl
    have gA := GMs_add hGm (t := a * 2 + b) (z := c) (by omega) e3
    refine P.pop (dq dtX6_merged 22 rfl) rfl ?_
    refine P.aload_n (dq dtX6_merged 23 rfl) rfl ?_
    refine P.get flX6_61 (dq dtX6_merged 24 rfl) (by repeat (first | assumption | exact up_s | rw [up_n (by first | assumption | (apply Ne.symm; assumption) | decide | omega)])) (by rfl) ?_
    refine P.aload_n (dq dtX6_merged 25 rfl) rfl ?_
    refine P.get flX6_57 (dq dtX6_merged 26 rfl) (by repeat (first | assumption | exact up_s | rw [up_n (by first | assumption | (apply Ne.symm; assumption) | decide | omega)])) (by rfl) ?_
    refine P.callV1 (M' := mX0_reckon) (d' := d - 1) mlX6_194 mcX0_reckon mvX0_reckon (dq dtX6_merged 27 rfl) (by omega) (Nat.le_of_ble_eq_true rfl) (by repeat (first | assumption | exact up_s | rw [up_n (by first | assumption | (apply Ne.symm; assumption) | decide | omega)])) rfl ?_
    refine ct_X0_reckon gA k2 zSF (by omega) (by omega) (fun σ3 F' k3 fr3 => ?_)
    have w0 := (fr3 0 (by decide)).trans z0
    have w58 := k3.1
    refine P.aload_n (dq dtX6_merged 28 rfl) rfl ?_
    refine P.get flX6_61 (dq dtX6_merged 29 rfl) (by repeat (first | assumption | exact up_s | rw [up_n (by first | assumption | (apply Ne.symm; assumption) | decide | omega)])) (by rfl) ?_
    refine P.iload_n (dq dtX6_merged 30 rfl) rfl ?_
    refine P.callV1 (M' := mX0_tableAt) (d' := d - 1) mlX6_178 mcX0_tableAt mvX0_tableAt (dq dtX6_merged 31 rfl) (by omega) (Nat.le_of_ble_eq_true rfl) (by repeat (first | assumption | exact up_s | rw [up_n (by first | assumption | (apply Ne.symm; assumption) | decide | omega)])) rfl ?_
    refine ct_X0_tableAt k3.1 (show 0 ≤ S.now.1.1 ∧ S.now.1.1 ≤ 8 by omega) (by omega) k3.2.2.2.2.2.2.2.1 e1 ?_
    refine P.iret (dq dtX6_merged 32 rfl) rfl rfl rfl ?_
    have hF : Fr σ σ3 [55, 56, 57, 58, 59, 60, 61, 62, 63, 64, 65] := ((fr1.wide (by simp)).trans (fr2.wide (by simp))).trans (fr3.wide (by simp))
    have hh := h σ3 F' (hS.sup (hRd.fr hF rfl) ⟨_, k2.fr3 fr3 rfl⟩ k3.any (hF.wide (by simp))) (hF.toC rfl) (fun _ => k3.2.2.2.2.2.2.2.2)
    simp only [if_pos c_11] at hh
    exact hh
  · refine P.iload (dq dtX6_merged 8 rfl) rfl ?_
    refine P.iret (dq dtX6_merged 9 rfl) rfl rfl rfl ?_
    have hh := h σ F hS FrC.rf (fun z => absurd z c_11)
    simp only [if_neg c_11] at hh
    exact hh
def zMov (S : CSt) (F : FgV) (z : Int) : Int := if S.now.2.1 < z then cntF F.2.2.2.2.2.2 S.now.1.1 S.now.1.2.1 z else cntF F.2.2.2.2.2.2 S.now.1.1 S.now.1.2.1 z - plc S.now.1.1 (plp S.now.1)
def uMov (S : CSt) (z : Int) : Int := if S.now.2.1 < z then 1 else 0
def aMov (S : CSt) (F : FgV) (z : Int) : Int := if ¬ (0 ≤ z ∧ z ≤ (S.now.1.1 - 1) * S.now.1.2.1) then -100002 else if z = S.now.2.1 then -100003 else zMov S F z
def sMov (S : CSt) (F : FgV) (z : Int) : CSt := if (0 ≤ z ∧ z ≤ (S.now.1.1 - 1) * S.now.1.2.1) ∧ z ≠ S.now.2.1 then sNow (sRem S) (S.now.1, z, zMov S F z, (if uMov S z = S.now.2.2.2.2.2 then S.now.2.2.2.1 else S.now.2.2.2.1 + 1), S.now.2.2.2.2.1 + (if 0 ≤ zMov S F z - S.now.2.2.1 then zMov S F z - S.now.2.2.1 else -(zMov S F z - S.now.2.2.1)), uMov S z) else S
/-- AxisTable.move -/
theorem cl_move {x : CM} {d N : Nat} {σ : PH} {Q : PQ} {S : CSt} {F : FgV} {sf : Int → Int} (hS : CS σ S) (hFg : CFg σ S.now.1 F sf) (hd : 5 ≤ d) {z : Int} (hz : inR z) (h : ∀ σ' : PH, CS σ' (sMov S F z) → FrC σ σ' → Q (some (vI (aMov S F z))) σ') : Call x d 0 0 mX6_move [vR 0, vI z] N σ Q := by
  refine Call.of mcX6_move (Nat.le_of_ble_eq_true rfl) (fun y hy => ?_)
  subst hy
  obtain ⟨hG, hX, hTx, hRd, hNow, hPa, hKe, -, ⟨sv, hSu⟩, hSF, hLa⟩ := id hS
  have x0 := hX.1
  have x1 := hTx.1
  have x2 := hTx.2
  have x7 := hNow.1
  have x8 := hNow.2.1
  have hGm := hG.2.1.1
  have hp := hGm.1
  have hs := hGm.2.1
  obtain ⟨f0, f1, f2, f3, f4, f5, f6, f7, fR⟩ := id hFg.1
  have tB := fR.tb hGm
  have hL9 := mul_bd (k := S.now.1.1 - 1) (s := S.now.1.2.1) (by omega) (by omega) (by omega) (by omega)
  have x11 := hPa.1
  have hpl0 := hG.2.1.2.1
  have plB := plc_b hGm
  refine P.aload_n (dq dtX6_move 0 rfl) rfl ?_
  refine P.get flX6_50 (dq dtX6_move 1 rfl) (by repeat (first | assumption | exact up_s | rw [up_n (by first | assumption | (apply Ne.symm; assumption) | decide | omega)])) (by rfl) ?_
  refine P.iload_n (dq dtX6_move 2 rfl) rfl ?_
  refine P.callV1 (M' := mX0_hasPlace) (d' := d - 1) mlX6_197 mcX0_hasPlace mvX0_hasPlace (dq dtX6_move 3 rfl) (by omega) (Nat.le_of_ble_eq_true rfl) (by repeat (first | assumption | exact up_s | rw [up_n (by first | assumption | (apply Ne.symm; assumption) | decide | omega)])) rfl ?_
  refine ct_X0_hasPlace f0 (by omega) (by omega) hz (fun n_5 => ?_) (fun n_5 => ?_)
  · refine P.if_ne (t := 14) (dq dtX6_move 4 rfl) rfl (by omega) (fun _ => ?_) (fun h9 => absurd h9 (by decide))
    have cb := cntF_b tB hp hs n_5
    refine P.iload_n (dq dtX6_move 7 rfl) rfl ?_
    refine P.aload_n (dq dtX6_move 8 rfl) rfl ?_
    refine P.get flX6_28 (dq dtX6_move 9 rfl) (by repeat (first | assumption | exact up_s | rw [up_n (by first | assumption | (apply Ne.symm; assumption) | decide | omega)])) (by rfl) ?_
    refine P.get flX6_147 (dq dtX6_move 10 rfl) (by repeat (first | assumption | exact up_s | rw [up_n (by first | assumption | (apply Ne.symm; assumption) | decide | omega)])) (by rfl) ?_
    refine P.icmp_ne (t := 28) (dq dtX6_move 11 rfl) rfl (by omega) (by omega) (fun c_22 => ?_) (fun c_22 => ?_)
    · refine P.aload_n (dq dtX6_move 14 rfl) rfl ?_
      refine P.get flX6_35 (dq dtX6_move 15 rfl) (by repeat (first | assumption | exact up_s | rw [up_n (by first | assumption | (apply Ne.symm; assumption) | decide | omega)])) (by rfl) ?_
      refine P.aload_n (dq dtX6_move 16 rfl) rfl ?_
      refine P.get flX6_28 (dq dtX6_move 17 rfl) (by repeat (first | assumption | exact up_s | rw [up_n (by first | assumption | (apply Ne.symm; assumption) | decide | omega)])) (by rfl) ?_
      refine P.callV1 (M' := mX4_remember) (d' := d - 1) mlX6_119 mcX4_remember mvX4_remember (dq dtX6_move 18 rfl) (by omega) (Nat.le_of_ble_eq_true rfl) (by repeat (first | assumption | exact up_s | rw [up_n (by first | assumption | (apply Ne.symm; assumption) | decide | omega)])) rfl ?_
      refine cn_remember2 hS.n (by omega) (fun σ1 hS1 fr1 fl1 => ?_)
      have m1 : Mo σ1 7 S.now := hS1.2.2.2.2.1
      have y0 := hS1.2.1.1
      have y7 := m1.1
      have hFg1 := hFg.fr fl1 rfl rfl
      have g0 := hFg1.1.1
      have g7 := hFg1.1.2.2.2.2.2.2.2.1
      refine P.iload_n (dq dtX6_move 19 rfl) rfl ?_
      refine P.aload_n (dq dtX6_move 20 rfl) rfl ?_
      refine P.get flX6_28 (dq dtX6_move 21 rfl) (by repeat (first | assumption | exact up_s | rw [up_n (by first | assumption | (apply Ne.symm; assumption) | decide | omega)])) (by rfl) ?_
      refine P.get flX6_147 (dq dtX6_move 22 rfl) (by repeat (first | assumption | exact up_s | rw [up_n (by first | assumption | (apply Ne.symm; assumption) | decide | omega)])) (by rfl) ?_
      refine P.icmp_le (t := 54) (dq dtX6_move 23 rfl) rfl (by omega) (by omega) (fun c_47 => ?_) (fun c_47 => ?_)
      · refine P.iconst (dq dtX6_move 26 rfl) ?_
        refine P.istore_n (dq dtX6_move 27 rfl) (by decide) rfl rfl ?_
        refine P.aload_n (dq dtX6_move 28 rfl) rfl ?_
        refine P.get flX6_50 (dq dtX6_move 29 rfl) (by repeat (first | assumption | exact up_s | rw [up_n (by first | assumption | (apply Ne.symm; assumption) | decide | omega)])) (by rfl) ?_
        refine P.iload_n (dq dtX6_move 30 rfl) rfl ?_
        refine P.callV1 (M' := mX0_countAt) (d' := d - 1) mlX6_102 mcX0_countAt mvX0_countAt (dq dtX6_move 31 rfl) (by omega) (Nat.le_of_ble_eq_true rfl) (by repeat (first | assumption | exact up_s | rw [up_n (by first | assumption | (apply Ne.symm; assumption) | decide | omega)])) rfl ?_
        refine ct_X0_countAt g0 g7 hp hs tB (by omega) n_5 ?_
        refine P.istore_n (dq dtX6_move 32 rfl) (by decide) rfl rfl ?_
        refine P.aload_n (dq dtX6_move 33 rfl) rfl ?_
        refine P.get flX6_28 (dq dtX6_move 34 rfl) (by repeat (first | assumption | exact up_s | rw [up_n (by first | assumption | (apply Ne.symm; assumption) | decide | omega)])) (by rfl) ?_
        refine P.iload_n (dq dtX6_move 35 rfl) rfl ?_
        refine P.iload_n (dq dtX6_move 36 rfl) rfl ?_
        refine P.if_eq (t := 78) (dq dtX6_move 37 rfl) rfl (by omega) (fun _ => ?_) (fun h9 => absurd h9 (by decide))
        refine P.iload_n (dq dtX6_move 40 rfl) rfl ?_
        refine P.aload_n (dq dtX6_move 41 rfl) rfl ?_
        refine P.get flX6_50 (dq dtX6_move 42 rfl) (by repeat (first | assumption | exact up_s | rw [up_n (by first | assumption | (apply Ne.symm; assumption) | decide | omega)])) (by rfl) ?_
        refine P.get flX6_200 (dq dtX6_move 43 rfl) (by repeat (first | assumption | exact up_s | rw [up_n (by first | assumption | (apply Ne.symm; assumption) | decide | omega)])) (by rfl) ?_
        refine P.isub (dq dtX6_move 44 rfl) ?_
        refine P.iload_n (dq dtX6_move 45 rfl) rfl ?_
        refine P.callV3 (M' := mX3_go) (d' := d - 1) mlX6_203 mcX3_go mvX3_go (dq dtX6_move 46 rfl) (by omega) (Nat.le_of_ble_eq_true rfl) (by repeat (first | assumption | exact up_s | rw [up_n (by first | assumption | (apply Ne.symm; assumption) | decide | omega)])) rfl ?_
        refine ct_X3_go m1 (by omega) (by omega) hG.2.1.2.2.2 (by show -100000 ≤ _ ∧ _ ≤ 100000; omega) hG.2.1.2.2.1 (fun σ2 k1 k2 => ?_)
        have w0 := (k2 0 (by decide)).trans y0
        have w7 := k1.1
        refine P.aload_n (dq dtX6_move 47 rfl) rfl ?_
        refine P.get flX6_28 (dq dtX6_move 48 rfl) (by repeat (first | assumption | exact up_s | rw [up_n (by first | assumption | (apply Ne.symm; assumption) | decide | omega)])) (by rfl) ?_
        refine P.get flX6_207 (dq dtX6_move 49 rfl) (by repeat (first | assumption | exact up_s | rw [up_n (by first | assumption | (apply Ne.symm; assumption) | decide | omega)])) (by rfl) ?_
        refine P.iret (dq dtX6_move 50 rfl) rfl rfl rfl ?_
        first | have cp : S.now.2.1 < z := by omega
              | have cp : ¬ S.now.2.1 < z := by omega
        simp only [aMov, sMov, zMov, uMov, if_neg (show ¬ ¬ (0 ≤ z ∧ z ≤ (S.now.1.1 - 1) * S.now.1.2.1) from fun q => q n_5), if_neg c_22, if_pos (show (0 ≤ z ∧ z ≤ (S.now.1.1 - 1) * S.now.1.2.1) ∧ z ≠ S.now.2.1 from ⟨n_5, c_22⟩)] at h
        first | simp only [if_pos cp] at h | simp only [if_neg cp] at h
        exact h σ2 ((hS1.mo k1 ⟨hGm, by show -100000 ≤ z ∧ z ≤ 100000; omega, by dsimp only; omega, by first | exact Or.inl rfl | exact Or.inr rfl⟩ (k2.wide (by simp))).to (hFg1.fr k2 rfl rfl)) (fr1.trans (k2.toC rfl))
      · refine P.iconst (dq dtX6_move 24 rfl) ?_
        refine P.goto (t := 55) (dq dtX6_move 25 rfl) rfl ?_
        refine P.istore_n (dq dtX6_move 27 rfl) (by decide) rfl rfl ?_
        refine P.aload_n (dq dtX6_move 28 rfl) rfl ?_
        refine P.get flX6_50 (dq dtX6_move 29 rfl) (by repeat (first | assumption | exact up_s | rw [up_n (by first | assumption | (apply Ne.symm; assumption) | decide | omega)])) (by rfl) ?_
        refine P.iload_n (dq dtX6_move 30 rfl) rfl ?_
        refine P.callV1 (M' := mX0_countAt) (d' := d - 1) mlX6_102 mcX0_countAt mvX0_countAt (dq dtX6_move 31 rfl) (by omega) (Nat.le_of_ble_eq_true rfl) (by repeat (first | assumption | exact up_s | rw [up_n (by first | assumption | (apply Ne.symm; assumption) | decide | omega)])) rfl ?_
        refine ct_X0_countAt g0 g7 hp hs tB (by omega) n_5 ?_
        refine P.istore_n (dq dtX6_move 32 rfl) (by decide) rfl rfl ?_
        refine P.aload_n (dq dtX6_move 33 rfl) rfl ?_
        refine P.get flX6_28 (dq dtX6_move 34 rfl) (by repeat (first | assumption | exact up_s | rw [up_n (by first | assumption | (apply Ne.symm; assumption) | decide | omega)])) (by rfl) ?_
        refine P.iload_n (dq dtX6_move 35 rfl) rfl ?_
        refine P.iload_n (dq dtX6_move 36 rfl) rfl ?_
        refine P.if_eq (t := 78) (dq dtX6_move 37 rfl) rfl (by omega) (fun h9 => absurd h9 (by decide)) (fun _ => ?_)
        refine P.iload_n (dq dtX6_move 38 rfl) rfl ?_
        refine P.goto (t := 87) (dq dtX6_move 39 rfl) rfl ?_
        refine P.iload_n (dq dtX6_move 45 rfl) rfl ?_
        refine P.callV3 (M' := mX3_go) (d' := d - 1) mlX6_203 mcX3_go mvX3_go (dq dtX6_move 46 rfl) (by omega) (Nat.le_of_ble_eq_true rfl) (by repeat (first | assumption | exact up_s | rw [up_n (by first | assumption | (apply Ne.symm; assumption) | decide | omega)])) rfl ?_
        refine ct_X3_go m1 (by omega) (by omega) hG.2.1.2.2.2 (by show -100000 ≤ _ ∧ _ ≤ 100000; omega) hG.2.1.2.2.1 (fun σ2 k1 k2 => ?_)
        have w0 := (k2 0 (by decide)).trans y0
        have w7 := k1.1
        refine P.aload_n (dq dtX6_move 47 rfl) rfl ?_
        refine P.get flX6_28 (dq dtX6_move 48 rfl) (by repeat (first | assumption | exact up_s | rw [up_n (by first | assumption | (apply Ne.symm; assumption) | decide | omega)])) (by rfl) ?_
        refine P.get flX6_207 (dq dtX6_move 49 rfl) (by repeat (first | assumption | exact up_s | rw [up_n (by first | assumption | (apply Ne.symm; assumption) | decide | omega)])) (by rfl) ?_
        refine P.iret (dq dtX6_move 50 rfl) rfl rfl rfl ?_
        first | have cp : S.now.2.1 < z := by omega
              | have cp : ¬ S.now.2.1 < z := by omega
        simp only [aMov, sMov, zMov, uMov, if_neg (show ¬ ¬ (0 ≤ z ∧ z ≤ (S.now.1.1 - 1) * S.now.1.2.1) from fun q => q n_5), if_neg c_22, if_pos (show (0 ≤ z ∧ z ≤ (S.now.1.1 - 1) * S.now.1.2.1) ∧ z ≠ S.now.2.1 from ⟨n_5, c_22⟩)] at h
        first | simp only [if_pos cp] at h | simp only [if_neg cp] at h
        exact h σ2 ((hS1.mo k1 ⟨hGm, by show -100000 ≤ z ∧ z ≤ 100000; omega, by dsimp only; omega, by first | exact Or.inl rfl | exact Or.inr rfl⟩ (k2.wide (by simp))).to (hFg1.fr k2 rfl rfl)) (fr1.trans (k2.toC rfl))
    · refine P.ldc (n := -100003) (dq dtX6_move 12 rfl) kcX6_101 rfl ?_
      refine P.iret (dq dtX6_move 13 rfl) rfl rfl rfl ?_
      simp only [aMov, sMov, if_neg (show ¬ ¬ (0 ≤ z ∧ z ≤ (S.now.1.1 - 1) * S.now.1.2.1) from fun q => q n_5), if_pos c_22, if_neg (show ¬ ((0 ≤ z ∧ z ≤ (S.now.1.1 - 1) * S.now.1.2.1) ∧ z ≠ S.now.2.1) from fun q => q.2 c_22)] at h
      exact h σ hS FrC.rf
  · refine P.if_ne (t := 14) (dq dtX6_move 4 rfl) rfl (by omega) (fun h9 => absurd h9 (by decide)) (fun _ => ?_)
    refine P.ldc (n := -100002) (dq dtX6_move 5 rfl) kcX6_77 rfl ?_
    refine P.iret (dq dtX6_move 6 rfl) rfl rfl rfl ?_
    simp only [aMov, sMov, if_pos n_5, if_neg (show ¬ ((0 ≤ z ∧ z ≤ (S.now.1.1 - 1) * S.now.1.2.1) ∧ z ≠ S.now.2.1) from fun q => n_5 q.1)] at h
    exact h σ hS FrC.rf
/-- AxisTable.fault -/
theorem cl_fault {x : CM} {d N : Nat} {σ : PH} {Q : PQ} {S : CSt} (hS : CS σ S) (hd : 8 ≤ d) (h : ∀ (σ' : PH) (st kd vl : Int → Int) (m : Int), TK S.tf S.tn st kd vl m → CS σ' S → FrC σ σ' → Q (some (vI (if (pTx (fun f => f) kd vl m 24 1 0 S.now.1).1 = 1 then -1 else st (pTx (fun f => f) kd vl m 24 1 0 S.now.1).2.1))) σ') : Call x d 0 0 mX6_fault [vR 0] N σ Q := by
  refine Call.of mcX6_fault (Nat.le_of_ble_eq_true rfl) (fun y hy => ?_)
  subst hy
  obtain ⟨hG, hX, hTx, hRd, hNow, hPa, hKe, ⟨F, sf, hFg⟩, ⟨sv, hSu⟩, hSF, hLa⟩ := id hS
  have x0 := hX.1
  have x1 := hTx.1
  have x2 := hTx.2
  have x7 := hNow.1
  have x8 := hNow.2.1
  have hGm := hG.2.1.1
  have hp := hGm.1
  have hs := hGm.2.1
  obtain ⟨f0, f1, f2, f3, f4, f5, f6, f7, fR⟩ := id hFg.1
  have tB := fR.tb hGm
  have hL9 := mul_bd (k := S.now.1.1 - 1) (s := S.now.1.2.1) (by omega) (by omega) (by omega) (by omega)
  have x55 := hSu.1
  have x3 := hRd.choose_spec.choose_spec.choose_spec.choose_spec.choose_spec.choose_spec.1
  refine P.aload_n (dq dtX6_fault 0 rfl) rfl ?_
  refine P.get flX6_57 (dq dtX6_fault 1 rfl) (by repeat (first | assumption | exact up_s | rw [up_n (by first | assumption | (apply Ne.symm; assumption) | decide | omega)])) (by rfl) ?_
  refine P.aload_n (dq dtX6_fault 2 rfl) rfl ?_
  refine P.get flX6_28 (dq dtX6_fault 3 rfl) (by repeat (first | assumption | exact up_s | rw [up_n (by first | assumption | (apply Ne.symm; assumption) | decide | omega)])) (by rfl) ?_
  refine P.get flX6_90 (dq dtX6_fault 4 rfl) (by repeat (first | assumption | exact up_s | rw [up_n (by first | assumption | (apply Ne.symm; assumption) | decide | omega)])) (by rfl) ?_
  refine P.callV1 (M' := mX2_copyFrom) (d' := d - 1) mlX6_93 mcX2_copyFrom mvX2_copyFrom (dq dtX6_fault 5 rfl) (by omega) (Nat.le_of_ble_eq_true rfl) (by repeat (first | assumption | exact up_s | rw [up_n (by first | assumption | (apply Ne.symm; assumption) | decide | omega)])) rfl ?_
  refine ct_X2_copyFrom hSu hNow.2 (by omega) (by omega) (fun σ1 k1 fr1 => ?_)
  have y0 := (fr1 0 (by decide)).trans x0
  have y1 := (fr1 1 (by decide)).trans x1
  have y3 := (fr1 3 (by decide)).trans x3
  have y55 := k1.1
  refine P.aload_n (dq dtX6_fault 6 rfl) rfl ?_
  refine P.get flX6_21 (dq dtX6_fault 7 rfl) (by repeat (first | assumption | exact up_s | rw [up_n (by first | assumption | (apply Ne.symm; assumption) | decide | omega)])) (by rfl) ?_
  refine P.aload_n (dq dtX6_fault 8 rfl) rfl ?_
  refine P.get flX6_57 (dq dtX6_fault 9 rfl) (by repeat (first | assumption | exact up_s | rw [up_n (by first | assumption | (apply Ne.symm; assumption) | decide | omega)])) (by rfl) ?_
  refine P.aload_n (dq dtX6_fault 10 rfl) rfl ?_
  refine P.get flX6_14 (dq dtX6_fault 11 rfl) (by repeat (first | assumption | exact up_s | rw [up_n (by first | assumption | (apply Ne.symm; assumption) | decide | omega)])) (by rfl) ?_
  refine P.callV2 (M' := mX5_readInto) (d' := d - 1) mlX6_97 mcX5_readInto mvX5_readInto (dq dtX6_fault 12 rfl) (by omega) (Nat.le_of_ble_eq_true rfl) (by repeat (first | assumption | exact up_s | rw [up_n (by first | assumption | (apply Ne.symm; assumption) | decide | omega)])) rfl ?_
  obtain ⟨st0, kd0, vl0, m0, ti, c0, hR0⟩ := id hRd
  have hR1 := hR0.fr fr1 (by decide) (by decide) (by decide) (by decide)
  have hL1 : Ls σ1 1 200 S.tn S.tf := hTx.fr fr1 rfl
  refine ct_X5_readInto (q := 3) (mq := 55) (tq := 1) hR1 k1 hGm hL1 hG.1.1 hG.1.2 (by omega) (by omega) (by omega) (fun σ2 st kd vl m j hT hR2 hM2 fr2 => ?_)
  have hF2 : Fr σ σ2 [3, 4, 5, 6, 55, 56, 57, 58, 59, 60, 61, 62, 63, 64, 65] := (fr1.wide (by simp)).trans (fr2.wide (by simp))
  have hS2 : CS σ2 S := hS.sup ⟨_, _, _, _, _, _, hR2⟩ ⟨_, hM2⟩ (hSF.fr ((fr1.wide (S' := [3, 4, 5, 6, 55, 56, 57]) (by simp)).trans (fr2.wide (by simp))) rfl) hF2
  refine P.iret (dq dtX6_fault 13 rfl) rfl rfl rfl ?_
  exact h σ2 st kd vl m hT hS2 (hF2.toC rfl)
def sAx (S : CSt) (v : MsV) (F : FgV) : CSt := sTx (sLab (sIk (sNoP (sNow S (v, 0, cntF F.2.2.2.2.2.2 v.1 v.2.1 0, 0, 0, 1))) (fun _ => 0)) (fun _ => 0) S.ln S.lf) 0 S.tf
/-- AxisTable.axis -/
theorem cl_axis {x : CM} {d N : Nat} {σ : PH} {Q : PQ} {S : CSt} (hS : CS σ S) (hd : 8 ≤ d) (h : ∀ (σ' : PH) (st kd vl : Int → Int) (m : Int) (F' : FgV), TK S.tf S.tn st kd vl m → ((pTx (fun f => f) kd vl m 24 1 0 S.now.1).1 = 1 → FgR (pTx (fun f => f) kd vl m 24 1 0 S.now.1).2.2.1 F') → CS σ' (if (pTx (fun f => f) kd vl m 24 1 0 S.now.1).1 = 1 then sAx S (pTx (fun f => f) kd vl m 24 1 0 S.now.1).2.2.1 F' else S) → FrC σ σ' → Q (some (vI (if (pTx (fun f => f) kd vl m 24 1 0 S.now.1).1 = 1 then (pTx (fun f => f) kd vl m 24 1 0 S.now.1).2.2.2 else -100003))) σ') : Call x d 0 0 mX6_axis [vR 0] N σ Q := by
  refine Call.of mcX6_axis (Nat.le_of_ble_eq_true rfl) (fun y hy => ?_)
  subst hy
  obtain ⟨hG, hX, hTx, hRd, hNow, hPa, hKe, ⟨F, sf, hFg⟩, ⟨sv, hSu⟩, hSF, hLa⟩ := id hS
  have x0 := hX.1
  have x1 := hTx.1
  have x2 := hTx.2
  have x7 := hNow.1
  have x8 := hNow.2.1
  have hGm := hG.2.1.1
  have hp := hGm.1
  have hs := hGm.2.1
  obtain ⟨f0, f1, f2, f3, f4, f5, f6, f7, fR⟩ := id hFg.1
  have tB := fR.tb hGm
  have hL9 := mul_bd (k := S.now.1.1 - 1) (s := S.now.1.2.1) (by omega) (by omega) (by omega) (by omega)
  have x55 := hSu.1
  have x3 := hRd.choose_spec.choose_spec.choose_spec.choose_spec.choose_spec.choose_spec.1
  refine P.aload_n (dq dtX6_axis_0 0 rfl) rfl ?_
  refine P.get flX6_57 (dq dtX6_axis_0 1 rfl) (by repeat (first | assumption | exact up_s | rw [up_n (by first | assumption | (apply Ne.symm; assumption) | decide | omega)])) (by rfl) ?_
  refine P.aload_n (dq dtX6_axis_0 2 rfl) rfl ?_
  refine P.get flX6_28 (dq dtX6_axis_0 3 rfl) (by repeat (first | assumption | exact up_s | rw [up_n (by first | assumption | (apply Ne.symm; assumption) | decide | omega)])) (by rfl) ?_
  refine P.get flX6_90 (dq dtX6_axis_0 4 rfl) (by repeat (first | assumption | exact up_s | rw [up_n (by first | assumption | (apply Ne.symm; assumption) | decide | omega)])) (by rfl) ?_
  refine P.callV1 (M' := mX2_copyFrom) (d' := d - 1) mlX6_93 mcX2_copyFrom mvX2_copyFrom (dq dtX6_axis_0 5 rfl) (by omega) (Nat.le_of_ble_eq_true rfl) (by repeat (first | assumption | exact up_s | rw [up_n (by first | assumption | (apply Ne.symm; assumption) | decide | omega)])) rfl ?_
  refine ct_X2_copyFrom hSu hNow.2 (by omega) (by omega) (fun σ1 k1 fr1 => ?_)
  have y0 := (fr1 0 (by decide)).trans x0
  have y1 := (fr1 1 (by decide)).trans x1
  have y3 := (fr1 3 (by decide)).trans x3
  have y55 := k1.1
  refine P.aload_n (dq dtX6_axis_0 6 rfl) rfl ?_
  refine P.get flX6_21 (dq dtX6_axis_0 7 rfl) (by repeat (first | assumption | exact up_s | rw [up_n (by first | assumption | (apply Ne.symm; assumption) | decide | omega)])) (by rfl) ?_
  refine P.aload_n (dq dtX6_axis_0 8 rfl) rfl ?_
  refine P.get flX6_57 (dq dtX6_axis_0 9 rfl) (by repeat (first | assumption | exact up_s | rw [up_n (by first | assumption | (apply Ne.symm; assumption) | decide | omega)])) (by rfl) ?_
  refine P.aload_n (dq dtX6_axis_0 10 rfl) rfl ?_
  refine P.get flX6_14 (dq dtX6_axis_0 11 rfl) (by repeat (first | assumption | exact up_s | rw [up_n (by first | assumption | (apply Ne.symm; assumption) | decide | omega)])) (by rfl) ?_
  refine P.callV2 (M' := mX5_readInto) (d' := d - 1) mlX6_97 mcX5_readInto mvX5_readInto (dq dtX6_axis_0 12 rfl) (by omega) (Nat.le_of_ble_eq_true rfl) (by repeat (first | assumption | exact up_s | rw [up_n (by first | assumption | (apply Ne.symm; assumption) | decide | omega)])) rfl ?_
  obtain ⟨st0, kd0, vl0, m0, ti, c0, hR0⟩ := id hRd
  have hR1 := hR0.fr fr1 (by decide) (by decide) (by decide) (by decide)
  have hL1 : Ls σ1 1 200 S.tn S.tf := hTx.fr fr1 rfl
  refine ct_X5_readInto (q := 3) (mq := 55) (tq := 1) hR1 k1 hGm hL1 hG.1.1 hG.1.2 (by omega) (by omega) (by omega) (fun σ2 st kd vl m j hT hR2 hM2 fr2 => ?_)
  have hF2 : Fr σ σ2 [3, 4, 5, 6, 55, 56, 57, 58, 59, 60, 61, 62, 63, 64, 65] := (fr1.wide (by simp)).trans (fr2.wide (by simp))
  have hS2 : CS σ2 S := hS.sup ⟨_, _, _, _, _, _, hR2⟩ ⟨_, hM2⟩ (hSF.fr ((fr1.wide (S' := [3, 4, 5, 6, 55, 56, 57]) (by simp)).trans (fr2.wide (by simp))) rfl) hF2
  have hpb := pTx_b (bg := fun f => f) (kd := kd) (vl := vl) 24 1 0 S.now.1 (show 0 ≤ 0 ∧ 0 < m by have := hT.1; omega)
  have hsb := ((hT.r hG.1.1 hG.1.2).2 _ hpb.1 hpb.2).1
  refine P.iconst (dq dtX6_axis_0 13 rfl) ?_
  refine P.icmp_eq (t := 36) (dq dtX6_axis_0 14 rfl) rfl (by split <;> omega) (by omega) (fun c_30 => ?_) (fun c_30 => ?_)
  · have e1 : (pTx (fun f => f) kd vl m 24 1 0 S.now.1).1 = 1 := by
      by_cases e : (pTx (fun f => f) kd vl m 24 1 0 S.now.1).1 = 1
      · exact e
      · rw [if_neg e] at c_30; omega
    have gV := pTx_G (bg := fun f => f) (kd := kd) (vl := vl) (m := m) 24 1 0 S.now.1 hGm
    generalize hv : (pTx (fun f => f) kd vl m 24 1 0 S.now.1) = pT at *
    have y0 := hS2.2.1.1
    have y7 := hS2.2.2.2.2.1.1
    have y8 := hS2.2.2.2.2.1.2.1
    have y55 := hM2.1
    have y3 := hR2.1
    refine P.aload_n (dq dtX6_axis_0 17 rfl) rfl ?_
    refine P.get flX6_28 (dq dtX6_axis_0 18 rfl) (by repeat (first | assumption | exact up_s | rw [up_n (by first | assumption | (apply Ne.symm; assumption) | decide | omega)])) (by rfl) ?_
    refine P.get flX6_90 (dq dtX6_axis_0 19 rfl) (by repeat (first | assumption | exact up_s | rw [up_n (by first | assumption | (apply Ne.symm; assumption) | decide | omega)])) (by rfl) ?_
    refine P.aload_n (dq dtX6_axis_0 20 rfl) rfl ?_
    refine P.get flX6_57 (dq dtX6_axis_0 21 rfl) (by repeat (first | assumption | exact up_s | rw [up_n (by first | assumption | (apply Ne.symm; assumption) | decide | omega)])) (by rfl) ?_
    refine P.callV1 (M' := mX2_copyFrom) (d' := d - 1) mlX6_93 mcX2_copyFrom mvX2_copyFrom (dq dtX6_axis_0 22 rfl) (by omega) (Nat.le_of_ble_eq_true rfl) (by repeat (first | assumption | exact up_s | rw [up_n (by first | assumption | (apply Ne.symm; assumption) | decide | omega)])) rfl ?_
    refine ct_X2_copyFrom hS2.2.2.2.2.1.2 hM2 (by omega) (by omega) (fun σ3 k3 fr3 => ?_)
    have hS3 := hS2.n.ms k3 gV fr3
    have z0 := hS3.2.1.1
    have z3 := (fr3 3 (by decide)).trans y3
    refine P.aload_n (dq dtX6_axis_0 23 rfl) rfl ?_
    refine P.callV0 (M' := mX6_reckonAnew) (d' := d - 1) mlX6_74 mcX6_reckonAnew mvX6_reckonAnew (dq dtX6_axis_0 24 rfl) (by omega) (Nat.le_of_ble_eq_true rfl) (by repeat (first | assumption | exact up_s | rw [up_n (by first | assumption | (apply Ne.symm; assumption) | decide | omega)])) rfl ?_
    refine cn_reckon2 hS3 (by omega) (fun σ4 hS4 fr4 fl4 => ?_)
    have w0 := hS4.2.1.1
    have w3 := (fl4 3 (by decide)).trans z3
    have w7 := hS4.2.2.2.2.1.1
    obtain ⟨F', sf', hFg4⟩ := hS4.2.2.2.2.2.2.2.1
    have w47 := hFg4.1.1
    have fR4 : FgR pT.2.2.1 F' := hFg4.1.2.2.2.2.2.2.2.2
    have tB4 := fR4.tb gV
    have bL := mul_bd (k := pT.2.2.1.1 - 1) (s := pT.2.2.1.2.1) (by have := gV.1; omega) (by have := gV.1; omega) gV.2.1.1 gV.2.1.2
    refine P.aload_n (dq dtX6_axis_0 25 rfl) rfl ?_
    refine P.get flX6_28 (dq dtX6_axis_0 26 rfl) (by repeat (first | assumption | exact up_s | rw [up_n (by first | assumption | (apply Ne.symm; assumption) | decide | omega)])) (by rfl) ?_
    refine P.aload_n (dq dtX6_axis_0 27 rfl) rfl ?_
    refine P.get flX6_50 (dq dtX6_axis_0 28 rfl) (by repeat (first | assumption | exact up_s | rw [up_n (by first | assumption | (apply Ne.symm; assumption) | decide | omega)])) (by rfl) ?_
    refine P.iconst (dq dtX6_axis_0 29 rfl) ?_
    refine P.callV1 (M' := mX0_countAt) (d' := d - 1) mlX6_102 mcX0_countAt mvX0_countAt (dq dtX6_axis_0 30 rfl) (by omega) (Nat.le_of_ble_eq_true rfl) (by repeat (first | assumption | exact up_s | rw [up_n (by first | assumption | (apply Ne.symm; assumption) | decide | omega)])) rfl ?_
    refine ct_X0_countAt hFg4.1.1 hFg4.1.2.2.2.2.2.2.2.1 gV.1 gV.2.1 tB4 (by omega) ⟨by omega, bL.1⟩ ?_
    refine P.callV1 (M' := mX3_rest) (d' := d - 1) mlX6_106 mcX3_rest mvX3_rest (dq dtX6_axis_0 31 rfl) (by omega) (Nat.le_of_ble_eq_true rfl) (by repeat (first | assumption | exact up_s | rw [up_n (by first | assumption | (apply Ne.symm; assumption) | decide | omega)])) rfl ?_
    refine ct_X3_rest hS4.2.2.2.2.1 (fun σ5 k5 fr5 => ?_)
    have cb := cntF_b tB4 gV.1 gV.2.1 (z := 0) ⟨by omega, bL.1⟩
    have hS5 := (hS4.n.mo k5 ⟨gV, by dsimp only; omega, cb5 cb, Or.inr rfl⟩ (fr5.wide (by simp))).to (hFg4.fr fr5 rfl rfl)
    have v0 := hS5.2.1.1
    have v3 := (fr5 3 (by decide)).trans w3
    have v11 := hS5.2.2.2.2.2.1.1
    refine P.aload_n (dq dtX6_axis_0 32 rfl) rfl ?_
    refine P.get flX6_35 (dq dtX6_axis_0 33 rfl) (by repeat (first | assumption | exact up_s | rw [up_n (by first | assumption | (apply Ne.symm; assumption) | decide | omega)])) (by rfl) ?_
    refine P.callV0 (M' := mX4_forgetAll) (d' := d - 1) mlX6_109 mcX4_forgetAll mvX4_forgetAll (dq dtX6_axis_0 34 rfl) (by omega) (Nat.le_of_ble_eq_true rfl) (by repeat (first | assumption | exact up_s | rw [up_n (by first | assumption | (apply Ne.symm; assumption) | decide | omega)])) rfl ?_
    refine cn_forgetAll hS5.n (fun σ6 hS6 fr6 fl6 => ?_)
    have u0 := hS6.2.1.1
    have u3 := (fl6 3 (by decide)).trans v3
    have u1 := hS6.2.2.1.1
    have u46 := hS6.2.2.2.2.2.2.1.1
    have u69 := hS6.2.2.2.2.2.2.2.2.2.2.1
    refine P.iconst (dq dtX6_axis_0 35 rfl) ?_
    refine P.istore_n (dq dtX6_axis_0 36 rfl) (by decide) rfl rfl ?_
    refine P.iload_n (dq dtX6_axis_0 37 rfl) rfl ?_
    refine P.iconst (dq dtX6_axis_0 38 rfl) ?_
    refine P.icmp_ge (t := 96) (dq dtX6_axis_0 39 rfl) rfl (by omega) (by omega) (fun h9 => absurd h9 (by decide)) (fun _ => ?_)
    refine P.aload_n (dq dtX6_axis_0 40 rfl) rfl ?_
    refine P.get flX6_43 (dq dtX6_axis_0 41 rfl) (by repeat (first | assumption | exact up_s | rw [up_n (by first | assumption | (apply Ne.symm; assumption) | decide | omega)])) (by rfl) ?_
    refine P.iload_n (dq dtX6_axis_0 42 rfl) rfl ?_
    refine P.iconst (dq dtX6_axis_0 43 rfl) ?_
    refine P.zast (dq dtX6_axis_0 44 rfl) (by repeat (first | assumption | exact up_s | rw [up_n (by first | assumption | (apply Ne.symm; assumption) | decide | omega)])) (by omega) (by omega) (by omega) (by decide) ?_
    refine P.iinc (dq dtX6_axis_0 45 rfl) rfl (by decide) rfl rfl ?_
    refine P.goto (t := 78) (dq dtX6_axis_0 46 rfl) rfl ?_
    refine P.iload_n (dq dtX6_axis_0 37 rfl) rfl ?_
    refine P.iconst (dq dtX6_axis_0 38 rfl) ?_
    refine P.icmp_ge (t := 96) (dq dtX6_axis_0 39 rfl) rfl (by omega) (by omega) (fun h9 => absurd h9 (by decide)) (fun _ => ?_)
    refine P.aload_n (dq dtX6_axis_0 40 rfl) rfl ?_
    refine P.get flX6_43 (dq dtX6_axis_0 41 rfl) (by repeat (first | assumption | exact up_s | rw [up_n (by first | assumption | (apply Ne.symm; assumption) | decide | omega)])) (by rfl) ?_
    refine P.iload_n (dq dtX6_axis_0 42 rfl) rfl ?_
    refine P.iconst (dq dtX6_axis_0 43 rfl) ?_
    refine P.zast (dq dtX6_axis_0 44 rfl) (by repeat (first | assumption | exact up_s | rw [up_n (by first | assumption | (apply Ne.symm; assumption) | decide | omega)])) (by omega) (by omega) (by omega) (by decide) ?_
    refine P.iinc (dq dtX6_axis_0 45 rfl) rfl (by decide) rfl rfl ?_
    refine P.goto (t := 78) (dq dtX6_axis_0 46 rfl) rfl ?_
    refine P.iload_n (dq dtX6_axis_0 37 rfl) rfl ?_
    refine P.iconst (dq dtX6_axis_0 38 rfl) ?_
    refine P.icmp_ge (t := 96) (dq dtX6_axis_0 39 rfl) rfl (by omega) (by omega) (fun _ => ?_) (fun h9 => absurd h9 (by decide))
    refine P.ext (q := 46) (t := 1) (n := 2) (f' := fun _ => 0) (by repeat (first | assumption | exact up_s | rw [up_n (by first | assumption | (apply Ne.symm; assumption) | decide | omega)])) (fun i g1 g2 => ?_) ?_
    · rcases (show i = 0 ∨ i = 1 by omega) with e | e <;> (rw [e]; rfl)
    refine P.iconst (dq dtX6_axis_0 47 rfl) ?_
    refine P.istore_n (dq dtX6_axis_0 48 rfl) (by decide) rfl rfl ?_
    refine P.iload_n (dq dtX6_axis_0 49 rfl) rfl ?_
    refine P.iconst (dq dtX6_axis_0 50 rfl) ?_
    refine P.icmp_ge (t := 116) (dq dtX6_axis_0 51 rfl) rfl (by omega) (by omega) (fun h9 => absurd h9 (by decide)) (fun _ => ?_)
    refine P.aload_n (dq dtX6_axis_0 52 rfl) rfl ?_
    refine P.get flX6_71 (dq dtX6_axis_0 53 rfl) (by repeat (first | assumption | exact up_s | rw [up_n (by first | assumption | (apply Ne.symm; assumption) | decide | omega)])) (by rfl) ?_
    refine P.iload_n (dq dtX6_axis_0 54 rfl) rfl ?_
    refine P.iconst (dq dtX6_axis_0 55 rfl) ?_
    refine P.zast (dq dtX6_axis_0 56 rfl) (by repeat (first | assumption | exact up_s | rw [up_n (by first | assumption | (apply Ne.symm; assumption) | decide | omega)])) (by omega) (by omega) (by omega) (by decide) ?_
    refine P.iinc (dq dtX6_axis_0 57 rfl) rfl (by decide) rfl rfl ?_
    refine P.goto (t := 98) (dq dtX6_axis_0 58 rfl) rfl ?_
    refine P.iload_n (dq dtX6_axis_0 49 rfl) rfl ?_
    refine P.iconst (dq dtX6_axis_0 50 rfl) ?_
    refine P.icmp_ge (t := 116) (dq dtX6_axis_0 51 rfl) rfl (by omega) (by omega) (fun h9 => absurd h9 (by decide)) (fun _ => ?_)
    refine P.aload_n (dq dtX6_axis_0 52 rfl) rfl ?_
    refine P.get flX6_71 (dq dtX6_axis_0 53 rfl) (by repeat (first | assumption | exact up_s | rw [up_n (by first | assumption | (apply Ne.symm; assumption) | decide | omega)])) (by rfl) ?_
    refine P.iload_n (dq dtX6_axis_0 54 rfl) rfl ?_
    refine P.iconst (dq dtX6_axis_0 55 rfl) ?_
    refine P.zast (dq dtX6_axis_0 56 rfl) (by repeat (first | assumption | exact up_s | rw [up_n (by first | assumption | (apply Ne.symm; assumption) | decide | omega)])) (by omega) (by omega) (by omega) (by decide) ?_
    refine P.iinc (dq dtX6_axis_0 57 rfl) rfl (by decide) rfl rfl ?_
    refine P.goto (t := 98) (dq dtX6_axis_0 58 rfl) rfl ?_
    refine P.iload_n (dq dtX6_axis_0 49 rfl) rfl ?_
    refine P.iconst (dq dtX6_axis_0 50 rfl) ?_
    refine P.icmp_ge (t := 116) (dq dtX6_axis_0 51 rfl) rfl (by omega) (by omega) (fun h9 => absurd h9 (by decide)) (fun _ => ?_)
    refine P.aload_n (dq dtX6_axis_0 52 rfl) rfl ?_
    refine P.get flX6_71 (dq dtX6_axis_0 53 rfl) (by repeat (first | assumption | exact up_s | rw [up_n (by first | assumption | (apply Ne.symm; assumption) | decide | omega)])) (by rfl) ?_
    refine P.iload_n (dq dtX6_axis_0 54 rfl) rfl ?_
    refine P.iconst (dq dtX6_axis_0 55 rfl) ?_
    refine P.zast (dq dtX6_axis_0 56 rfl) (by repeat (first | assumption | exact up_s | rw [up_n (by first | assumption | (apply Ne.symm; assumption) | decide | omega)])) (by omega) (by omega) (by omega) (by decide) ?_
    refine P.iinc (dq dtX6_axis_0 57 rfl) rfl (by decide) rfl rfl ?_
    refine P.goto (t := 98) (dq dtX6_axis_0 58 rfl) rfl ?_
    refine P.iload_n (dq dtX6_axis_0 49 rfl) rfl ?_
    refine P.iconst (dq dtX6_axis_0 50 rfl) ?_
    refine P.icmp_ge (t := 116) (dq dtX6_axis_0 51 rfl) rfl (by omega) (by omega) (fun _ => ?_) (fun h9 => absurd h9 (by decide))
    refine P.ext (q := 69) (t := 1) (n := 3) (f' := fun _ => 0) (by repeat (first | assumption | exact up_s | rw [up_n (by first | assumption | (apply Ne.symm; assumption) | decide | omega)])) (fun i g1 g2 => ?_) ?_
    · rcases (show i = 0 ∨ i = 1 ∨ i = 2 by omega) with e | e | e <;> (rw [e]; rfl)
    refine P.aload_n (dq dtX6_axis_0 59 rfl) rfl ?_
    refine P.get flX6_14 (dq dtX6_axis_0 60 rfl) (by repeat (first | assumption | exact up_s | rw [up_n (by first | assumption | (apply Ne.symm; assumption) | decide | omega)])) (by rfl) ?_
    refine P.iconst (dq dtX6_axis_0 61 rfl) ?_
    refine P.put flX6_86 rfl (dq dtX6_axis_0 62 rfl) (by repeat (first | assumption | exact up_s | rw [up_n (by first | assumption | (apply Ne.symm; assumption) | decide | omega)])) (by exact Nat.le_of_ble_eq_true rfl) rfl rfl rfl rfl rfl ?_
    refine P.aload_n (dq dtX6_axis_0 63 rfl) rfl ?_
    refine P.get flX6_21 (dq dtX6_axis_1 0 rfl) (by repeat (first | assumption | exact up_s | rw [up_n (by first | assumption | (apply Ne.symm; assumption) | decide | omega)])) (by rfl) ?_
    refine P.get flX6_112 (dq dtX6_axis_1 1 rfl) (by repeat (first | assumption | exact up_s | rw [up_n (by first | assumption | (apply Ne.symm; assumption) | decide | omega)])) (by rfl) ?_
    refine P.iret (dq dtX6_axis_1 2 rfl) rfl rfl rfl ?_
    have hh := fun σ' => h σ' st kd vl m F' hT (fun _ => by rw [hv]; exact fR4)
    rw [hv] at hh
    simp only [if_pos e1] at hh
    refine hh _ (hS6.axF ((hFg4.fr fr5 rfl rfl).fr fl6 rfl rfl) (by repeat (first | assumption | exact Fr.rf | refine Fr.up ?_ (by simp))) up_s (by repeat (first | assumption | exact up_s | rw [up_n (by first | assumption | (apply Ne.symm; assumption) | decide | omega)])) (by repeat (first | assumption | exact up_s | rw [up_n (by first | assumption | (apply Ne.symm; assumption) | decide | omega)]))) ((((((hF2.toC rfl).trans (fr3.toC rfl)).trans fr4).trans (fr5.toC rfl)).trans fr6).trans (Fr.toC (L := [1, 46, 69]) (by repeat (first | assumption | exact Fr.rf | refine Fr.up ?_ (by simp))) rfl))
  · refine P.ldc (n := -100003) (dq dtX6_axis_0 15 rfl) kcX6_101 rfl ?_
    refine P.iret (dq dtX6_axis_0 16 rfl) rfl rfl rfl ?_
    have hh := h σ2 st kd vl m F hT (fun z => absurd (by rw [if_pos z]) c_30) (by rw [if_neg (fun z => absurd (by rw [if_pos z]) c_30)]; exact hS2) (hF2.toC rfl)
    rw [if_neg (fun z => absurd (by rw [if_pos z]) c_30)] at hh
    exact hh
