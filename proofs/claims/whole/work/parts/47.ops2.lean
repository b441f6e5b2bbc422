theorem rfR_b (p a b c : Int) : inR (rfR p a b c) := by
  unfold rfR inR
  split
  · omega
  · split <;> omega
theorem rfR_0 {p a b c : Int} (h : rfR p a b c = 0) : (0 ≤ a ∧ a < p) ∧ (b = 0 ∨ b = 1) ∧ -40 ≤ c ∧ c ≤ 40 := by
  unfold rfR at h
  split at h
  · omega
  · split at h
    · next h1 h2 => exact ⟨by omega, h2⟩
    · omega
theorem rfL_b (it : Int → Int) (a : Int) : inR (rfL it a) := by
  unfold rfL inR
  split
  · omega
  · split <;> omega
theorem rfL_0 {it : Int → Int} {a : Int} (h : rfL it a = 0) : (0 ≤ a ∧ a < 3) ∧ it a ≠ 0 := by
  unfold rfL at h
  split at h
  · omega
  · split at h
    · omega
    · next h1 h2 => exact ⟨by omega, h2⟩
theorem rf2_b (it : Int → Int) (a b : Int) : inR (rf2 it a b) := by
  unfold rf2 inR
  split
  · omega
  · split <;> omega
theorem rf2_0 {it : Int → Int} {a b : Int} (h : rf2 it a b = 0) : ((0 ≤ a ∧ a < 3) ∧ it a ≠ 0) ∧ (0 ≤ b ∧ b < 3) ∧ it b ≠ 0 := by
  unfold rf2 at h
  split at h
  · omega
  · split at h
    · omega
    · next h1 h2 => omega
theorem GMs_clr {v : MsV} {t : Int} (h : GMs v) : GMs (v.1, v.2.1, upI v.2.2.1 t 0, v.2.2.2) := by
  refine ⟨h.1, h.2.1, fun u h0 h1 => ?_⟩
  obtain ⟨g1, g2⟩ := h.2.2 u h0 h1
  show (0 ≤ upI v.2.2.1 t 0 u ∧ upI v.2.2.1 t 0 u ≤ 6) ∧ ∀ j : Int, 0 ≤ j ∧ j < upI v.2.2.1 t 0 u → -40 ≤ v.2.2.2 (u * 6 + j) ∧ v.2.2.2 (u * 6 + j) ≤ 40
  by_cases e : u = t
  · rw [e, upI_s]
    exact ⟨by omega, fun j hj => absurd hj (by omega)⟩
  · rw [upI_n e]
    exact ⟨g1, g2⟩
/-- AxisTable.reckonAnew -/
theorem cn_reckon2 {x : CM} {d N : Nat} {σ : PH} {Q : PQ} {S : CSt} (hS : CSn σ S) (hd : 5 ≤ d) (h : ∀ σ' : PH, CS σ' S → FrC σ σ' → Fr σ σ' [47, 48, 49, 50, 51, 52, 53, 54, 66, 67] → Q none σ') : Call x d 0 0 mX6_reckonAnew [vR 0] N σ Q := by
  refine Call.of mcX6_reckonAnew (Nat.le_of_ble_eq_true rfl) (fun y hy => ?_)
  subst hy
  obtain ⟨hG, hX, hTx, hRd, hNow, hPa, hKe, hFs, hSu, hSF, hLa⟩ := id hS
  have x0 := hX.1
  have x7 := hNow.1
  have hGm := hG.2.1.1
  obtain ⟨_, _, _, _, _, _, x47, _⟩ := id hFs.1
  obtain ⟨_, _, x66, _⟩ := id hFs.2
  refine P.aload_n (dq dtX6_reckonAnew 0 rfl) rfl ?_
  refine P.get flX6_50 (dq dtX6_reckonAnew 1 rfl) (by repeat (first | assumption | exact up_s | rw [up_n (by first | assumption | (apply Ne.symm; assumption) | decide | omega)])) (by rfl) ?_
  refine P.aload_n (dq dtX6_reckonAnew 2 rfl) rfl ?_
  refine P.get flX6_28 (dq dtX6_reckonAnew 3 rfl) (by repeat (first | assumption | exact up_s | rw [up_n (by first | assumption | (apply Ne.symm; assumption) | decide | omega)])) (by rfl) ?_
  refine P.get flX6_90 (dq dtX6_reckonAnew 4 rfl) (by repeat (first | assumption | exact up_s | rw [up_n (by first | assumption | (apply Ne.symm; assumption) | decide | omega)])) (by rfl) ?_
  refine P.callV1 (M' := mX0_reckon) (d' := d - 1) mlX6_194 mcX0_reckon mvX0_reckon (dq dtX6_reckonAnew 5 rfl) (by omega) (Nat.le_of_ble_eq_true rfl) (by repeat (first | assumption | exact up_s | rw [up_n (by first | assumption | (apply Ne.symm; assumption) | decide | omega)])) rfl ?_
  refine ct_X0_reckon hGm hNow.2 hFs.1 (by omega) (by omega) (fun σ1 F hF1 fr1 => ?_)
  have y0 := (fr1 0 (by decide)).trans x0
  have y1 := hF1.1
  obtain ⟨n0, f0, hL0⟩ := hFs.2
  have hL1 := hL0.fr fr1 (by decide) (by decide)
  have hR := hF1.2.2.2.2.2.2.2.2
  refine P.aload_n (dq dtX6_reckonAnew 6 rfl) rfl ?_
  refine P.get flX6_50 (dq dtX6_reckonAnew 7 rfl) (by repeat (first | assumption | exact up_s | rw [up_n (by first | assumption | (apply Ne.symm; assumption) | decide | omega)])) (by rfl) ?_
  refine P.aload_n (dq dtX6_reckonAnew 8 rfl) rfl ?_
  refine P.get flX6_64 (dq dtX6_reckonAnew 9 rfl) (by repeat (first | assumption | exact up_s | rw [up_n (by first | assumption | (apply Ne.symm; assumption) | decide | omega)])) (by rfl) ?_
  refine P.callV1 (M' := mX0_writeOut) (d' := d - 1) mlX6_276 mcX0_writeOut mvX0_writeOut (dq dtX6_reckonAnew 10 rfl) (by omega) (Nat.le_of_ble_eq_true rfl) (by repeat (first | assumption | exact up_s | rw [up_n (by first | assumption | (apply Ne.symm; assumption) | decide | omega)])) rfl ?_
  refine ct_X0_writeOut (q := 47) (lq := 66) hF1.1 hF1.2.2.2.2.2.2.2.1 hGm.1 hGm.2.1 (hR.tb hGm) (by have := plc_b hGm; omega) rfl (by omega) (by omega) hL1 (fun σ2 f2 k1 k2 k3 => ?_)
  refine P.vret (dq dtX6_reckonAnew 11 rfl) rfl rfl rfl ?_
  have hF : Fr σ σ2 [47, 48, 49, 50, 51, 52, 53, 54, 66, 67] := (fr1.wide (by simp)).trans (k3.wide (by simp))
  exact h σ2 (hS.fig ⟨hF1.fr k3 rfl, k1, k2⟩ hF) (hF.toC rfl) hF
theorem cn_reckon {x : CM} {d N : Nat} {σ : PH} {Q : PQ} {S : CSt} (hS : CSn σ S) (hd : 5 ≤ d) (h : ∀ σ' : PH, CS σ' S → FrC σ σ' → Q none σ') : Call x d 0 0 mX6_reckonAnew [vR 0] N σ Q := cn_reckon2 hS hd (fun σ' a b _ => h σ' a b)
def aRun (S : CSt) (a b c : Int) : Int := if rfR S.now.1.1 a b c = 0 then addC S.now.1.2.2.1 (a * 2 + b) (a * 2 + b) else rfR S.now.1.1 a b c
def sRun (S : CSt) (a b c : Int) : CSt := if rfR S.now.1.1 a b c = 0 then sNow (sRem S) (addM S.now.1 (a * 2 + b) c, S.now.2) else S
/-- AxisTable.run -/
theorem cl_run {x : CM} {d N : Nat} {σ : PH} {Q : PQ} {S : CSt} (hS : CS σ S) (hd : 6 ≤ d) {a b c : Int} (ha : inR a) (hb : inR b) (hc : inR c) (h : ∀ σ' : PH, CS σ' (sRun S a b c) → FrC σ σ' → Q (some (vI (aRun S a b c))) σ') : Call x d 0 0 mX6_run [vR 0, vI a, vI b, vI c] N σ Q := by
  refine Call.of mcX6_run (Nat.le_of_ble_eq_true rfl) (fun y hy => ?_)
  subst hy
  obtain ⟨hG, hX, hTx, hRd, hNow, hPa, hKe, ⟨F, sf, hFg⟩, ⟨sv, hSu⟩, hSF, hLa⟩ := id hS
  have x0 := hX.1
  have x1 := hTx.1
  have x2 := hTx.2
  have x7 := hNow.1
  have x8 := hNow.2.1
  have hGm := hG.2.1.1
  have hp := hGm.1
  have hs := hGm.2.1
  obtain ⟨f0, f1, f2, f3, f4, f5, f6, f7, fR⟩ := id hFg.1
  have tB := fR.tb hGm
  have hL9 := mul_bd (k := S.now.1.1 - 1) (s := S.now.1.2.1) (by omega) (by omega) (by omega) (by omega)
  have x11 := hPa.1
  refine P.aload_n (dq dtX6_run 0 rfl) rfl ?_
  refine P.iload_n (dq dtX6_run 1 rfl) rfl ?_
  refine P.iload_n (dq dtX6_run 2 rfl) rfl ?_
  refine P.iload_n (dq dtX6_run 3 rfl) rfl ?_
  refine P.callV3 (M' := mX6_refusalOfRun) (d' := d - 1) mlX6_115 mcX6_refusalOfRun mvX6_refusalOfRun (dq dtX6_run 4 rfl) (by omega) (Nat.le_of_ble_eq_true rfl) (by repeat (first | assumption | exact up_s | rw [up_n (by first | assumption | (apply Ne.symm; assumption) | decide | omega)])) rfl ?_
  refine ct_refRun hS (by omega) ha hb hc ?_
  refine P.istore (dq dtX6_run 5 rfl) (by decide) rfl rfl ?_
  refine P.iload (dq dtX6_run 6 rfl) rfl ?_
  refine P.if_eq (t := 17) (dq dtX6_run 7 rfl) rfl (rfR_b _ _ _ _) (fun c_11 => ?_) (fun c_11 => ?_)
  · obtain ⟨e1, e2, e3⟩ := rfR_0 c_11
    refine P.aload_n (dq dtX6_run 10 rfl) rfl ?_
    refine P.get flX6_35 (dq dtX6_run 11 rfl) (by repeat (first | assumption | exact up_s | rw [up_n (by first | assumption | (apply Ne.symm; assumption) | decide | omega)])) (by rfl) ?_
    refine P.aload_n (dq dtX6_run 12 rfl) rfl ?_
    refine P.get flX6_28 (dq dtX6_run 13 rfl) (by repeat (first | assumption | exact up_s | rw [up_n (by first | assumption | (apply Ne.symm; assumption) | decide | omega)])) (by rfl) ?_
    refine P.callV1 (M' := mX4_remember) (d' := d - 1) mlX6_119 mcX4_remember mvX4_remember (dq dtX6_run 14 rfl) (by omega) (Nat.le_of_ble_eq_true rfl) (by repeat (first | assumption | exact up_s | rw [up_n (by first | assumption | (apply Ne.symm; assumption) | decide | omega)])) rfl ?_
    refine cn_remember hS.n (by omega) (fun σ1 hS1 fr1 => ?_)
    have y0 := hS1.2.1.1
    have y7 := hS1.2.2.2.2.1.1
    have y11 := hS1.2.2.2.2.2.1.1
    have y8 := hS1.2.2.2.2.1.2.1
    refine P.aload_n (dq dtX6_run 15 rfl) rfl ?_
    refine P.get flX6_28 (dq dtX6_run 16 rfl) (by repeat (first | assumption | exact up_s | rw [up_n (by first | assumption | (apply Ne.symm; assumption) | decide | omega)])) (by rfl) ?_
    refine P.get flX6_90 (dq dtX6_run 17 rfl) (by repeat (first | assumption | exact up_s | rw [up_n (by first | assumption | (apply Ne.symm; assumption) | decide | omega)])) (by rfl) ?_
    refine P.iload_n (dq dtX6_run 18 rfl) rfl ?_
    refine P.iload_n (dq dtX6_run 19 rfl) rfl ?_
    refine P.iload_n (dq dtX6_run 20 rfl) rfl ?_
    refine P.callV3 (M' := mX2_add) (d' := d - 1) mlX6_123 mcX2_add mvX2_add (dq dtX6_run 21 rfl) (by omega) (Nat.le_of_ble_eq_true rfl) (by repeat (first | assumption | exact up_s | rw [up_n (by first | assumption | (apply Ne.symm; assumption) | decide | omega)])) rfl ?_
    refine ct_X2_add (q := 8) (v := S.now.1) hS1.2.2.2.2.1.2 (by omega) (by omega) e1 (by omega) (hGm.2.2 _ (by omega) (by omega)).1 (fun σ2 k1 k2 => ?_)
    have hS2 := hS1.ms k1 (GMs_add hGm (t := a * 2 + b) (z := c) (by omega) e3) k2
    have z0 := hS2.2.1.1
    refine P.istore (dq dtX6_run 22 rfl) (by decide) rfl rfl ?_
    refine P.aload_n (dq dtX6_run 23 rfl) rfl ?_
    refine P.callV0 (M' := mX6_reckonAnew) (d' := d - 1) mlX6_74 mcX6_reckonAnew mvX6_reckonAnew (dq dtX6_run 24 rfl) (by omega) (Nat.le_of_ble_eq_true rfl) (by repeat (first | assumption | exact up_s | rw [up_n (by first | assumption | (apply Ne.symm; assumption) | decide | omega)])) rfl ?_
    refine cn_reckon hS2 (by omega) (fun σ3 hS3 fr3 => ?_)
    refine P.iload (dq dtX6_run 25 rfl) rfl ?_
    refine P.iret (dq dtX6_run 26 rfl) rfl rfl rfl ?_
    simp only [aRun, sRun, if_pos c_11] at h
    exact h σ3 hS3 ((fr1.trans (k2.toC rfl)).trans fr3)
  · refine P.iload (dq dtX6_run 8 rfl) rfl ?_
    refine P.iret (dq dtX6_run 9 rfl) rfl rfl rfl ?_
    simp only [aRun, sRun, if_neg c_11] at h
    exact h σ hS FrC.rf
def aClr (S : CSt) (a b : Int) : Int := if ¬ (0 ≤ a ∧ a < S.now.1.1) then -100001 else if ¬ (b = 0 ∨ b = 1) then -100002 else if S.now.1.2.2.1 (a * 2 + b) = 0 then -100003 else S.now.1.2.2.1 (a * 2 + b)
def sClr (S : CSt) (a b : Int) : CSt := if (0 ≤ a ∧ a < S.now.1.1) ∧ (b = 0 ∨ b = 1) ∧ S.now.1.2.2.1 (a * 2 + b) ≠ 0 then sNow (sRem S) ((S.now.1.1, S.now.1.2.1, upI S.now.1.2.2.1 (a * 2 + b) 0, S.now.1.2.2.2), S.now.2) else S
/-- AxisTable.clear -/
theorem cl_clear {x : CM} {d N : Nat} {σ : PH} {Q : PQ} {S : CSt} (hS : CS σ S) (hd : 6 ≤ d) {a b : Int} (ha : inR a) (hb : inR b) (h : ∀ σ' : PH, CS σ' (sClr S a b) → FrC σ σ' → Q (some (vI (aClr S a b))) σ') : Call x d 0 0 mX6_clear [vR 0, vI a, vI b] N σ Q := by
  refine Call.of mcX6_clear (Nat.le_of_ble_eq_true rfl) (fun y hy => ?_)
  subst hy
  obtain ⟨hG, hX, hTx, hRd, hNow, hPa, hKe, ⟨F, sf, hFg⟩, ⟨sv, hSu⟩, hSF, hLa⟩ := id hS
  have x0 := hX.1
  have x1 := hTx.1
  have x2 := hTx.2
  have x7 := hNow.1
  have x8 := hNow.2.1
  have hGm := hG.2.1.1
  have hp := hGm.1
  have hs := hGm.2.1
  obtain ⟨f0, f1, f2, f3, f4, f5, f6, f7, fR⟩ := id hFg.1
  have tB := fR.tb hGm
  have hL9 := mul_bd (k := S.now.1.1 - 1) (s := S.now.1.2.1) (by omega) (by omega) (by omega) (by omega)
  have x11 := hPa.1
  refine P.aload_n (dq dtX6_clear 0 rfl) rfl ?_
  refine P.get flX6_28 (dq dtX6_clear 1 rfl) (by repeat (first | assumption | exact up_s | rw [up_n (by first | assumption | (apply Ne.symm; assumption) | decide | omega)])) (by rfl) ?_
  refine P.get flX6_90 (dq dtX6_clear 2 rfl) (by repeat (first | assumption | exact up_s | rw [up_n (by first | assumption | (apply Ne.symm; assumption) | decide | omega)])) (by rfl) ?_
  refine P.iload_n (dq dtX6_clear 3 rfl) rfl ?_
  refine P.callV1 (M' := mX2_hasPoint) (d' := d - 1) mlX6_126 mcX2_hasPoint mvX2_hasPoint (dq dtX6_clear 4 rfl) (by omega) (Nat.le_of_ble_eq_true rfl) (by repeat (first | assumption | exact up_s | rw [up_n (by first | assumption | (apply Ne.symm; assumption) | decide | omega)])) rfl ?_
  refine ct_X2_hasPoint x8 (by omega) ha (fun n_8 => ?_) (fun n_8 => ?_)
  · refine P.if_ne (t := 17) (dq dtX6_clear 5 rfl) rfl (by omega) (fun _ => ?_) (fun h9 => absurd h9 (by decide))
    refine P.iload_n (dq dtX6_clear 8 rfl) rfl ?_
    refine P.callS1 (M' := mX6_isWay) (d' := d - 1) mlX6_130 mcX6_isWay msX6_isWay (dq dtX6_clear 9 rfl) (by omega) (Nat.le_of_ble_eq_true rfl) ?_
    refine ct_X6_isWay hb (fun n_18 => ?_) (fun n_18 => ?_)
    · refine P.if_ne (t := 27) (dq dtX6_clear 10 rfl) rfl (by omega) (fun _ => ?_) (fun h9 => absurd h9 (by decide))
      refine P.aload_n (dq dtX6_clear 13 rfl) rfl ?_
      refine P.get flX6_28 (dq dtX6_clear 14 rfl) (by repeat (first | assumption | exact up_s | rw [up_n (by first | assumption | (apply Ne.symm; assumption) | decide | omega)])) (by rfl) ?_
      refine P.get flX6_90 (dq dtX6_clear 15 rfl) (by repeat (first | assumption | exact up_s | rw [up_n (by first | assumption | (apply Ne.symm; assumption) | decide | omega)])) (by rfl) ?_
      refine P.iload_n (dq dtX6_clear 16 rfl) rfl ?_
      refine P.iload_n (dq dtX6_clear 17 rfl) rfl ?_
      refine P.callV2 (M' := mX2_countAt) (d' := d - 1) mlX6_133 mcX2_countAt mvX2_countAt (dq dtX6_clear 18 rfl) (by omega) (Nat.le_of_ble_eq_true rfl) (by repeat (first | assumption | exact up_s | rw [up_n (by first | assumption | (apply Ne.symm; assumption) | decide | omega)])) rfl ?_
      have bc := (hGm.2.2 (a * 2 + b) (by omega) (by omega)).1
      refine ct_X2_countAt x8 (by omega) (by omega) hNow.2.2.1 (by omega) (by omega) (fun _ => ?_) (fun n9 => absurd (by omega) n9)
      refine P.if_ne (t := 45) (dq dtX6_clear 19 rfl) rfl (by omega) (fun c_39 => ?_) (fun c_39 => ?_)
      · refine P.aload_n (dq dtX6_clear 22 rfl) rfl ?_
        refine P.get flX6_35 (dq dtX6_clear 23 rfl) (by repeat (first | assumption | exact up_s | rw [up_n (by first | assumption | (apply Ne.symm; assumption) | decide | omega)])) (by rfl) ?_
        refine P.aload_n (dq dtX6_clear 24 rfl) rfl ?_
        refine P.get flX6_28 (dq dtX6_clear 25 rfl) (by repeat (first | assumption | exact up_s | rw [up_n (by first | assumption | (apply Ne.symm; assumption) | decide | omega)])) (by rfl) ?_
        refine P.callV1 (M' := mX4_remember) (d' := d - 1) mlX6_119 mcX4_remember mvX4_remember (dq dtX6_clear 26 rfl) (by omega) (Nat.le_of_ble_eq_true rfl) (by repeat (first | assumption | exact up_s | rw [up_n (by first | assumption | (apply Ne.symm; assumption) | decide | omega)])) rfl ?_
        refine cn_remember hS.n (by omega) (fun σ1 hS1 fr1 => ?_)
        have y0 := hS1.2.1.1
        have y7 := hS1.2.2.2.2.1.1
        have y11 := hS1.2.2.2.2.2.1.1
        have y8 := hS1.2.2.2.2.1.2.1
        refine P.aload_n (dq dtX6_clear 27 rfl) rfl ?_
        refine P.get flX6_28 (dq dtX6_clear 28 rfl) (by repeat (first | assumption | exact up_s | rw [up_n (by first | assumption | (apply Ne.symm; assumption) | decide | omega)])) (by rfl) ?_
        refine P.get flX6_90 (dq dtX6_clear 29 rfl) (by repeat (first | assumption | exact up_s | rw [up_n (by first | assumption | (apply Ne.symm; assumption) | decide | omega)])) (by rfl) ?_
        refine P.iload_n (dq dtX6_clear 30 rfl) rfl ?_
        refine P.iload_n (dq dtX6_clear 31 rfl) rfl ?_
        refine P.callV2 (M' := mX2_forget) (d' := d - 1) mlX6_136 mcX2_forget mvX2_forget (dq dtX6_clear 32 rfl) (by omega) (Nat.le_of_ble_eq_true rfl) (by repeat (first | assumption | exact up_s | rw [up_n (by first | assumption | (apply Ne.symm; assumption) | decide | omega)])) rfl ?_
        refine ct_X2_forget (q := 8) (v := S.now.1) hS1.2.2.2.2.1.2 (by omega) (by omega) n_8 (by omega) (fun σ2 k1 k2 => ?_)
        have hS2 := hS1.ms k1 (GMs_clr hGm) k2
        have z0 := hS2.2.1.1
        refine P.istore_n (dq dtX6_clear 33 rfl) (by decide) rfl rfl ?_
        refine P.aload_n (dq dtX6_clear 34 rfl) rfl ?_
        refine P.callV0 (M' := mX6_reckonAnew) (d' := d - 1) mlX6_74 mcX6_reckonAnew mvX6_reckonAnew (dq dtX6_clear 35 rfl) (by omega) (Nat.le_of_ble_eq_true rfl) (by repeat (first | assumption | exact up_s | rw [up_n (by first | assumption | (apply Ne.symm; assumption) | decide | omega)])) rfl ?_
        refine cn_reckon hS2 (by omega) (fun σ3 hS3 fr3 => ?_)
        refine P.iload_n (dq dtX6_clear 36 rfl) rfl ?_
        refine P.iret (dq dtX6_clear 37 rfl) rfl rfl rfl ?_
        simp only [aClr, sClr, if_neg (show ¬ ¬ (0 ≤ a ∧ a < S.now.1.1) from fun z => z n_8), if_neg (show ¬ ¬ (b = 0 ∨ b = 1) from fun z => z n_18), if_neg c_39, if_pos (show ((0 ≤ a ∧ a < S.now.1.1) ∧ (b = 0 ∨ b = 1) ∧ S.now.1.2.2.1 (a * 2 + b) ≠ 0) from ⟨n_8, n_18, c_39⟩)] at h
        exact h σ3 hS3 ((fr1.trans (k2.toC rfl)).trans fr3)
      · refine P.ldc (n := -100003) (dq dtX6_clear 20 rfl) kcX6_101 rfl ?_
        refine P.iret (dq dtX6_clear 21 rfl) rfl rfl rfl ?_
        simp only [aClr, sClr, if_neg (show ¬ ¬ (0 ≤ a ∧ a < S.now.1.1) from fun z => z n_8), if_neg (show ¬ ¬ (b = 0 ∨ b = 1) from fun z => z n_18), if_pos c_39, if_neg (show ¬ ((0 ≤ a ∧ a < S.now.1.1) ∧ (b = 0 ∨ b = 1) ∧ S.now.1.2.2.1 (a * 2 + b) ≠ 0) from fun z => z.2.2 c_39)] at h
        exact h σ hS FrC.rf
    · refine P.if_ne (t := 27) (dq dtX6_clear 10 rfl) rfl (by omega) (fun h9 => absurd h9 (by decide)) (fun _ => ?_)
      refine P.ldc (n := -100002) (dq dtX6_clear 11 rfl) kcX6_77 rfl ?_
      refine P.iret (dq dtX6_clear 12 rfl) rfl rfl rfl ?_
      simp only [aClr, sClr, if_neg (show ¬ ¬ (0 ≤ a ∧ a < S.now.1.1) from fun z => z n_8), if_pos n_18, if_neg (show ¬ ((0 ≤ a ∧ a < S.now.1.1) ∧ (b = 0 ∨ b = 1) ∧ S.now.1.2.2.1 (a * 2 + b) ≠ 0) from fun z => n_18 z.2.1)] at h
      exact h σ hS FrC.rf
  · refine P.if_ne (t := 17) (dq dtX6_clear 5 rfl) rfl (by omega) (fun h9 => absurd h9 (by decide)) (fun _ => ?_)
    refine P.ldc (n := -100001) (dq dtX6_clear 6 rfl) kcX6_129 rfl ?_
    refine P.iret (dq dtX6_clear 7 rfl) rfl rfl rfl ?_
    simp only [aClr, sClr, if_pos n_8, if_neg (show ¬ ((0 ≤ a ∧ a < S.now.1.1) ∧ (b = 0 ∨ b = 1) ∧ S.now.1.2.2.1 (a * 2 + b) ≠ 0) from fun z => n_8 z.1)] at h
    exact h σ hS FrC.rf
def aUnd (S : CSt) : Int := if S.ct = 0 then -100003 else S.ct - 1
def sUnd1 (S : CSt) : CSt := if S.ct = 0 then S else sUnd S
/-- AxisTable.undo -/
theorem cl_undo {x : CM} {d N : Nat} {σ : PH} {Q : PQ} {S : CSt} (hS : CS σ S) (hd : 6 ≤ d) (h : ∀ σ' : PH, CS σ' (sUnd1 S) → FrC σ σ' → Q (some (vI (aUnd S))) σ') : Call x d 0 0 mX6_undo [vR 0] N σ Q := by
  refine Call.of mcX6_undo (Nat.le_of_ble_eq_true rfl) (fun y hy => ?_)
  subst hy
  obtain ⟨hG, hX, hTx, hRd, hNow, hPa, hKe, ⟨F, sf, hFg⟩, ⟨sv, hSu⟩, hSF, hLa⟩ := id hS
  have x0 := hX.1
  have x1 := hTx.1
  have x2 := hTx.2
  have x7 := hNow.1
  have x8 := hNow.2.1
  have hGm := hG.2.1.1
  have hp := hGm.1
  have hs := hGm.2.1
  obtain ⟨f0, f1, f2, f3, f4, f5, f6, f7, fR⟩ := id hFg.1
  have tB := fR.tb hGm
  have hL9 := mul_bd (k := S.now.1.1 - 1) (s := S.now.1.2.1) (by omega) (by omega) (by omega) (by omega)
  have x11 := hPa.1
  have hct := hG.2.2.1.2.1
  refine P.aload_n (dq dtX6_undo 0 rfl) rfl ?_
  refine P.get flX6_35 (dq dtX6_undo 1 rfl) (by repeat (first | assumption | exact up_s | rw [up_n (by first | assumption | (apply Ne.symm; assumption) | decide | omega)])) (by rfl) ?_
  refine P.get flX6_139 (dq dtX6_undo 2 rfl) (by repeat (first | assumption | exact up_s | rw [up_n (by first | assumption | (apply Ne.symm; assumption) | decide | omega)])) (by rfl) ?_
  refine P.if_ne (t := 13) (dq dtX6_undo 3 rfl) rfl (by omega) (fun c_7 => ?_) (fun c_7 => ?_)
  · refine P.aload_n (dq dtX6_undo 6 rfl) rfl ?_
    refine P.get flX6_35 (dq dtX6_undo 7 rfl) (by repeat (first | assumption | exact up_s | rw [up_n (by first | assumption | (apply Ne.symm; assumption) | decide | omega)])) (by rfl) ?_
    refine P.aload_n (dq dtX6_undo 8 rfl) rfl ?_
    refine P.get flX6_28 (dq dtX6_undo 9 rfl) (by repeat (first | assumption | exact up_s | rw [up_n (by first | assumption | (apply Ne.symm; assumption) | decide | omega)])) (by rfl) ?_
    refine P.callV1 (M' := mX4_recallInto) (d' := d - 1) mlX6_142 mcX4_recallInto mvX4_recallInto (dq dtX6_undo 10 rfl) (by omega) (Nat.le_of_ble_eq_true rfl) (by repeat (first | assumption | exact up_s | rw [up_n (by first | assumption | (apply Ne.symm; assumption) | decide | omega)])) rfl ?_
    refine cn_recall hS.n c_7 (by omega) (fun σ1 hS1 fr1 => ?_)
    have y0 := hS1.2.1.1
    have y7 := hS1.2.2.2.2.1.1
    have y11 := hS1.2.2.2.2.2.1.1
    refine P.aload_n (dq dtX6_undo 11 rfl) rfl ?_
    refine P.callV0 (M' := mX6_reckonAnew) (d' := d - 1) mlX6_74 mcX6_reckonAnew mvX6_reckonAnew (dq dtX6_undo 12 rfl) (by omega) (Nat.le_of_ble_eq_true rfl) (by repeat (first | assumption | exact up_s | rw [up_n (by first | assumption | (apply Ne.symm; assumption) | decide | omega)])) rfl ?_
    refine cn_reckon hS1 (by omega) (fun σ3 hS3 fr3 => ?_)
    have z0 := hS3.2.1.1
    have z11 := hS3.2.2.2.2.2.1.1
    refine P.aload_n (dq dtX6_undo 13 rfl) rfl ?_
    refine P.get flX6_35 (dq dtX6_undo 14 rfl) (by repeat (first | assumption | exact up_s | rw [up_n (by first | assumption | (apply Ne.symm; assumption) | decide | omega)])) (by rfl) ?_
    refine P.get flX6_139 (dq dtX6_undo 15 rfl) (by repeat (first | assumption | exact up_s | rw [up_n (by first | assumption | (apply Ne.symm; assumption) | decide | omega)])) (by rfl) ?_
    refine P.iret (dq dtX6_undo 16 rfl) rfl rfl rfl ?_
    simp only [aUnd, sUnd1, if_neg c_7] at h
    exact h σ3 hS3 (fr1.trans fr3)
  · refine P.ldc (n := -100003) (dq dtX6_undo 4 rfl) kcX6_101 rfl ?_
    refine P.iret (dq dtX6_undo 5 rfl) rfl rfl rfl ?_
    simp only [aUnd, sUnd1, if_pos c_7] at h
    exact h σ hS FrC.rf
def aKep (S : CSt) (k : Int) : Int := if 0 ≤ k ∧ k < 2 then S.now.2.1 else -100001
def sKep1 (S : CSt) (k : Int) : CSt := if 0 ≤ k ∧ k < 2 then sKep S k else S
/-- AxisTable.keep -/
theorem cl_keep {x : CM} {d N : Nat} {σ : PH} {Q : PQ} {S : CSt} (hS : CS σ S) (hd : 4 ≤ d) {k : Int} (hk : inR k) (h : ∀ σ' : PH, CS σ' (sKep1 S k) → FrC σ σ' → Q (some (vI (aKep S k))) σ') : Call x d 0 0 mX6_keep [vR 0, vI k] N σ Q := by
  refine Call.of mcX6_keep (Nat.le_of_ble_eq_true rfl) (fun y hy => ?_)
  subst hy
  obtain ⟨hG, hX, hTx, hRd, hNow, hPa, hKe, ⟨F, sf, hFg⟩, ⟨sv, hSu⟩, hSF, hLa⟩ := id hS
  have x0 := hX.1
  have x1 := hTx.1
  have x2 := hTx.2
  have x7 := hNow.1
  have x8 := hNow.2.1
  have hGm := hG.2.1.1
  have hp := hGm.1
  have hs := hGm.2.1
  obtain ⟨f0, f1, f2, f3, f4, f5, f6, f7, fR⟩ := id hFg.1
  have tB := fR.tb hGm
  have hL9 := mul_bd (k := S.now.1.1 - 1) (s := S.now.1.2.1) (by omega) (by omega) (by omega) (by omega)
  have x11 := hPa.1
  refine P.iload_n (dq dtX6_keep 0 rfl) rfl ?_
  refine P.if_lt (t := 9) (dq dtX6_keep 1 rfl) rfl (by omega) (fun c_1 => ?_) (fun c_1 => ?_)
  · refine P.ldc (n := -100001) (dq dtX6_keep 5 rfl) kcX6_129 rfl ?_
    refine P.iret (dq dtX6_keep 6 rfl) rfl rfl rfl ?_
    simp only [aKep, sKep1, if_neg (show ¬ (0 ≤ k ∧ k < 2) by omega)] at h
    exact h σ hS FrC.rf
  · refine P.iload_n (dq dtX6_keep 2 rfl) rfl ?_
    refine P.iconst (dq dtX6_keep 3 rfl) ?_
    refine P.icmp_lt (t := 12) (dq dtX6_keep 4 rfl) rfl (by omega) (by omega) (fun c_6 => ?_) (fun c_6 => ?_)
    · obtain ⟨g, hg0, hg⟩ := hX.2.2.1
      have hgk := hg k (by omega) (by omega)
      have hKk := hKe.2 k.toNat (by omega)
      have xk := hKk.1
      have x46 := hKe.1
      refine P.aload_n (dq dtX6_keep 7 rfl) rfl ?_
      refine P.get flX6_39 (dq dtX6_keep 8 rfl) (by repeat (first | assumption | exact up_s | rw [up_n (by first | assumption | (apply Ne.symm; assumption) | decide | omega)])) (by rfl) ?_
      refine P.iload_n (dq dtX6_keep 9 rfl) rfl ?_
      refine P.aald (dq dtX6_keep 10 rfl) (by repeat (first | assumption | exact up_s | rw [up_n (by first | assumption | (apply Ne.symm; assumption) | decide | omega)])) (by decide) (by omega) (by omega) (by omega) hgk ?_
      refine P.aload_n (dq dtX6_keep 11 rfl) rfl ?_
      refine P.get flX6_28 (dq dtX6_keep 12 rfl) (by repeat (first | assumption | exact up_s | rw [up_n (by first | assumption | (apply Ne.symm; assumption) | decide | omega)])) (by rfl) ?_
      refine P.callV1 (M' := mX3_copyFrom) (d' := d - 1) mlX6_145 mcX3_copyFrom mvX3_copyFrom (dq dtX6_keep 13 rfl) (by omega) (Nat.le_of_ble_eq_true rfl) (by repeat (first | assumption | exact up_s | rw [up_n (by first | assumption | (apply Ne.symm; assumption) | decide | omega)])) rfl ?_
      refine ct_X3_copyFrom hKk hNow (by omega) hG.2.1.2.2.2 (by omega) (fun σ1 k1 k2 => ?_)
      have y0 := (k2 0 (by simp; omega)).trans x0
      have y46 := (k2 46 (by simp; omega)).trans x46
      have y7 := (k2 7 (by simp; omega)).trans x7
      refine P.aload_n (dq dtX6_keep 14 rfl) rfl ?_
      refine P.get flX6_43 (dq dtX6_keep 15 rfl) (by repeat (first | assumption | exact up_s | rw [up_n (by first | assumption | (apply Ne.symm; assumption) | decide | omega)])) (by rfl) ?_
      refine P.iload_n (dq dtX6_keep 16 rfl) rfl ?_
      refine P.iconst (dq dtX6_keep 17 rfl) ?_
      refine P.zast (dq dtX6_keep 18 rfl) (by repeat (first | assumption | exact up_s | rw [up_n (by first | assumption | (apply Ne.symm; assumption) | decide | omega)])) (by omega) (by omega) (by omega) (by omega) ?_
      refine P.aload_n (dq dtX6_keep 19 rfl) rfl ?_
      refine P.get flX6_28 (dq dtX6_keep 20 rfl) (by repeat (first | assumption | exact up_s | rw [up_n (by first | assumption | (apply Ne.symm; assumption) | decide | omega)])) (by rfl) ?_
      refine P.get flX6_147 (dq dtX6_keep 21 rfl) (by repeat (first | assumption | exact up_s | rw [up_n (by first | assumption | (apply Ne.symm; assumption) | decide | omega)])) (by rfl) ?_
      refine P.iret (dq dtX6_keep 22 rfl) rfl rfl rfl ?_
      simp only [aKep, sKep1, if_pos (show (0 ≤ k ∧ k < 2) by omega)] at h
      have hF : Fr σ (up σ1 46 (pcI 1 2 (upI S.ik k 1))) [46, 70, 71, 72, 73, 74, 75, 76, 77] := Fr.up (k2.wide (by
        intro j hj
        simp only [List.mem_cons, List.not_mem_nil, or_false] at hj
        have key : ∀ i : Nat, i < 78 → 70 ≤ i → i ∈ [46, 70, 71, 72, 73, 74, 75, 76, 77] := by decide
        exact key j (by omega) (by omega))) (by simp)
      refine h _ ⟨⟨hG.1, hG.2.1, hG.2.2.1, ⟨fun i g1 g2 => ?_, fun i hi => ?_⟩, hG.2.2.2.2⟩, hX.fr hF rfl rfl rfl rfl, CTx.fr (S := S) hTx hF rfl, hRd.fr hF rfl, hNow.fr4 hF rfl, CPa.fr (S := S) hPa hF rfl rfl, ⟨up_s, fun i hi => ?_⟩, ⟨F, sf, hFg.fr hF rfl rfl⟩, ⟨sv, hSu.fr3 hF rfl⟩, hSF.fr hF rfl, CLa.fr (S := S) hLa hF rfl rfl⟩ (hF.toC rfl)
      · show upI S.ik k 1 i = 0 ∨ upI S.ik k 1 i = 1
        by_cases e : i = k
        · rw [e, upI_s]; exact Or.inr rfl
        · rw [upI_n e]; exact hG.2.2.2.1.1 i g1 g2
      · show GMo (upN S.km k.toNat S.now i)
        by_cases e : i = k.toNat
        · rw [e, upN_s]; exact hG.2.1
        · rw [upN_n e]; exact hG.2.2.2.1.2 i hi
      · show Mo _ (70 + 4 * i) (upN S.km k.toNat S.now i)
        by_cases e : i = k.toNat
        · rw [e, upN_s]
          exact k1.fr (S := [46]) (Fr.up Fr.rf (by simp)) (by simp; omega) (by simp; omega) (by simp; omega) (by simp; omega)
        · rw [upN_n e]
          exact ((hKe.2 i hi).fr k2 (by simp; omega) (by simp; omega) (by simp; omega) (by simp; omega)).fr (S := [46]) (Fr.up Fr.rf (by simp)) (by simp; omega) (by simp; omega) (by simp; omega) (by simp; omega)
    · refine P.ldc (n := -100001) (dq dtX6_keep 5 rfl) kcX6_129 rfl ?_
      refine P.iret (dq dtX6_keep 6 rfl) rfl rfl rfl ?_
      simp only [aKep, sKep1, if_neg (show ¬ (0 ≤ k ∧ k < 2) by omega)] at h
      exact h σ hS FrC.rf
def aBck (S : CSt) (k : Int) : Int := if ¬ (0 ≤ k ∧ k < 2) then -100001 else if S.ik k = 0 then -100003 else (S.km k.toNat).2.1
def sBck (S : CSt) (k : Int) : CSt := if (0 ≤ k ∧ k < 2) ∧ S.ik k ≠ 0 then sNoP (sNow S (S.km k.toNat)) else S
/-- AxisTable.back -/
theorem cl_back {x : CM} {d N : Nat} {σ : PH} {Q : PQ} {S : CSt} (hS : CS σ S) (hd : 6 ≤ d) {k : Int} (hk : inR k) (h : ∀ σ' : PH, CS σ' (sBck S k) → FrC σ σ' → Q (some (vI (aBck S k))) σ') : Call x d 0 0 mX6_back [vR 0, vI k] N σ Q := by
  refine Call.of mcX6_back (Nat.le_of_ble_eq_true rfl) (fun y hy => ?_)
  subst hy
  obtain ⟨hG, hX, hTx, hRd, hNow, hPa, hKe, ⟨F, sf, hFg⟩, ⟨sv, hSu⟩, hSF, hLa⟩ := id hS
  have x0 := hX.1
  have x1 := hTx.1
  have x2 := hTx.2
  have x7 := hNow.1
  have x8 := hNow.2.1
  have hGm := hG.2.1.1
  have hp := hGm.1
  have hs := hGm.2.1
  obtain ⟨f0, f1, f2, f3, f4, f5, f6, f7, fR⟩ := id hFg.1
  have tB := fR.tb hGm
  have hL9 := mul_bd (k := S.now.1.1 - 1) (s := S.now.1.2.1) (by omega) (by omega) (by omega) (by omega)
  have x11 := hPa.1
  refine P.iload_n (dq dtX6_back 0 rfl) rfl ?_
  refine P.if_lt (t := 9) (dq dtX6_back 1 rfl) rfl (by omega) (fun c_1 => ?_) (fun c_1 => ?_)
  · refine P.ldc (n := -100001) (dq dtX6_back 5 rfl) kcX6_129 rfl ?_
    refine P.iret (dq dtX6_back 6 rfl) rfl rfl rfl ?_
    simp only [aBck, sBck, if_pos (show ¬ (0 ≤ k ∧ k < 2) by omega), if_neg (show ¬ ((0 ≤ k ∧ k < 2) ∧ S.ik k ≠ 0) from fun z => by omega)] at h
    exact h σ hS FrC.rf
  · refine P.iload_n (dq dtX6_back 2 rfl) rfl ?_
    refine P.iconst (dq dtX6_back 3 rfl) ?_
    refine P.icmp_lt (t := 12) (dq dtX6_back 4 rfl) rfl (by omega) (by omega) (fun c_6 => ?_) (fun c_6 => ?_)
    · obtain ⟨g, hg0, hg⟩ := hX.2.2.1
      have hgk := hg k (by omega) (by omega)
      have hKk := hKe.2 k.toNat (by omega)
      have xk := hKk.1
      have x46 := hKe.1
      have bk := hG.2.2.2.1.1 k (by omega) (by omega)
      refine P.aload_n (dq dtX6_back 7 rfl) rfl ?_
      refine P.get flX6_43 (dq dtX6_back 8 rfl) (by repeat (first | assumption | exact up_s | rw [up_n (by first | assumption | (apply Ne.symm; assumption) | decide | omega)])) (by rfl) ?_
      refine P.iload_n (dq dtX6_back 9 rfl) rfl ?_
      refine P.zald (dq dtX6_back 10 rfl) (by repeat (first | assumption | exact up_s | rw [up_n (by first | assumption | (apply Ne.symm; assumption) | decide | omega)])) (by omega) (by omega) (by omega) ?_
      refine P.if_ne (t := 24) (dq dtX6_back 11 rfl) rfl (by omega) (fun c_18 => ?_) (fun c_18 => ?_)
      · refine P.aload_n (dq dtX6_back 14 rfl) rfl ?_
        refine P.get flX6_28 (dq dtX6_back 15 rfl) (by repeat (first | assumption | exact up_s | rw [up_n (by first | assumption | (apply Ne.symm; assumption) | decide | omega)])) (by rfl) ?_
        refine P.aload_n (dq dtX6_back 16 rfl) rfl ?_
        refine P.get flX6_39 (dq dtX6_back 17 rfl) (by repeat (first | assumption | exact up_s | rw [up_n (by first | assumption | (apply Ne.symm; assumption) | decide | omega)])) (by rfl) ?_
        refine P.iload_n (dq dtX6_back 18 rfl) rfl ?_
        refine P.aald (dq dtX6_back 19 rfl) (by repeat (first | assumption | exact up_s | rw [up_n (by first | assumption | (apply Ne.symm; assumption) | decide | omega)])) (by decide) (by omega) (by omega) (by omega) hgk ?_
        refine P.callV1 (M' := mX3_copyFrom) (d' := d - 1) mlX6_145 mcX3_copyFrom mvX3_copyFrom (dq dtX6_back 20 rfl) (by omega) (Nat.le_of_ble_eq_true rfl) (by repeat (first | assumption | exact up_s | rw [up_n (by first | assumption | (apply Ne.symm; assumption) | decide | omega)])) rfl ?_
        refine ct_X3_copyFrom hNow hKk (by omega) (hG.2.2.2.1.2 k.toNat (by omega)).2.2.2 (by omega) (fun σ1 k1 k2 => ?_)
        have hS1 := hS.n.mo k1 (hG.2.2.2.1.2 k.toNat (by omega)) k2
        have y0 := hS1.2.1.1
        have y7 := hS1.2.2.2.2.1.1
        have y11 := hS1.2.2.2.2.2.1.1
        refine P.aload_n (dq dtX6_back 21 rfl) rfl ?_
        refine P.get flX6_35 (dq dtX6_back 22 rfl) (by repeat (first | assumption | exact up_s | rw [up_n (by first | assumption | (apply Ne.symm; assumption) | decide | omega)])) (by rfl) ?_
        refine P.callV0 (M' := mX4_forgetAll) (d' := d - 1) mlX6_109 mcX4_forgetAll mvX4_forgetAll (dq dtX6_back 23 rfl) (by omega) (Nat.le_of_ble_eq_true rfl) (by repeat (first | assumption | exact up_s | rw [up_n (by first | assumption | (apply Ne.symm; assumption) | decide | omega)])) rfl ?_
        refine cn_forgetAll hS1 (fun σ2 hS2 fr2 _ => ?_)
        have z0 := hS2.2.1.1
        refine P.aload_n (dq dtX6_back 24 rfl) rfl ?_
        refine P.callV0 (M' := mX6_reckonAnew) (d' := d - 1) mlX6_74 mcX6_reckonAnew mvX6_reckonAnew (dq dtX6_back 25 rfl) (by omega) (Nat.le_of_ble_eq_true rfl) (by repeat (first | assumption | exact up_s | rw [up_n (by first | assumption | (apply Ne.symm; assumption) | decide | omega)])) rfl ?_
        refine cn_reckon hS2 (by omega) (fun σ3 hS3 fr3 => ?_)
        have w0 := hS3.2.1.1
        have w7 := hS3.2.2.2.2.1.1
        refine P.aload_n (dq dtX6_back 26 rfl) rfl ?_
        refine P.get flX6_28 (dq dtX6_back 27 rfl) (by repeat (first | assumption | exact up_s | rw [up_n (by first | assumption | (apply Ne.symm; assumption) | decide | omega)])) (by rfl) ?_
        refine P.get flX6_147 (dq dtX6_back 28 rfl) (by repeat (first | assumption | exact up_s | rw [up_n (by first | assumption | (apply Ne.symm; assumption) | decide | omega)])) (by rfl) ?_
        refine P.iret (dq dtX6_back 29 rfl) rfl rfl rfl ?_
        simp only [aBck, sBck, if_neg (show ¬ ¬ (0 ≤ k ∧ k < 2) by omega), if_neg c_18, if_pos (show ((0 ≤ k ∧ k < 2) ∧ S.ik k ≠ 0) from ⟨by omega, c_18⟩)] at h
        exact h σ3 hS3 (((k2.toC rfl).trans fr2).trans fr3)
      · refine P.ldc (n := -100003) (dq dtX6_back 12 rfl) kcX6_101 rfl ?_
        refine P.iret (dq dtX6_back 13 rfl) rfl rfl rfl ?_
        simp only [aBck, sBck, if_neg (show ¬ ¬ (0 ≤ k ∧ k < 2) by omega), if_pos c_18, if_neg (show ¬ ((0 ≤ k ∧ k < 2) ∧ S.ik k ≠ 0) from fun z => z.2 c_18)] at h
        exact h σ hS FrC.rf
    · refine P.ldc (n := -100001) (dq dtX6_back 5 rfl) kcX6_129 rfl ?_
      refine P.iret (dq dtX6_back 6 rfl) rfl rfl rfl ?_
      simp only [aBck, sBck, if_pos (show ¬ (0 ≤ k ∧ k < 2) by omega), if_neg (show ¬ ((0 ≤ k ∧ k < 2) ∧ S.ik k ≠ 0) from fun z => by omega)] at h
      exact h σ hS FrC.rf
