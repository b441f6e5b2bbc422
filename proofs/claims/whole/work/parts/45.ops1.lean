theorem tbl_len (v : MsV) (F : FgV) (h : GMs v) : (tbl v F).length ≤ 80 := by
  unfold tbl shA
  have h1 := h.1
  have h2 := shL_len F.2.2.2.2.2.2 v.2.1 v.1.toNat (by omega)
  have h3 := digs_len (plc v.1 (plp v))
  simp only [List.length_append, List.length_singleton]
  omega
def rfR (p a b c : Int) : Int := if ¬ (0 ≤ a ∧ a < p) then -100001 else if (b = 0 ∨ b = 1) ∧ -40 ≤ c ∧ c ≤ 40 then 0 else -100002
/-- AxisTable.refusalOfRun -/
theorem ct_refRun {x : CM} {d N : Nat} {σ : PH} {Q : PQ} {S : CSt} (hS : CS σ S) (hd : 1 ≤ d) {a b c : Int} (ha : inR a) (hb : inR b) (hc : inR c) (h : Q (some (vI (rfR S.now.1.1 a b c))) σ) : Call x d 0 0 mX6_refusalOfRun [vR 0, vI a, vI b, vI c] N σ Q := by
  refine Call.of mcX6_refusalOfRun (Nat.le_of_ble_eq_true rfl) (fun y hy => ?_)
  subst hy
  obtain ⟨hG, hX, hTx, hRd, hNow, hPa, hKe, ⟨F, sf, hFg⟩, ⟨sv, hSu⟩, hSF, hLa⟩ := id hS
  have x0 := hX.1
  have x1 := hTx.1
  have x2 := hTx.2
  have x7 := hNow.1
  have x8 := hNow.2.1
  have hGm := hG.2.1.1
  have hp := hGm.1
  have hs := hGm.2.1
  obtain ⟨f0, f1, f2, f3, f4, f5, f6, f7, fR⟩ := id hFg.1
  have tB := fR.tb hGm
  have hL9 := mul_bd (k := S.now.1.1 - 1) (s := S.now.1.2.1) (by omega) (by omega) (by omega) (by omega)
  unfold rfR at h
  refine P.aload_n (dq dtX6_refusalOfRun 0 rfl) rfl ?_
  refine P.get flX6_28 (dq dtX6_refusalOfRun 1 rfl) (by repeat (first | assumption | exact up_s | rw [up_n (by first | assumption | (apply Ne.symm; assumption) | decide | omega)])) (by rfl) ?_
  refine P.get flX6_90 (dq dtX6_refusalOfRun 2 rfl) (by repeat (first | assumption | exact up_s | rw [up_n (by first | assumption | (apply Ne.symm; assumption) | decide | omega)])) (by rfl) ?_
  refine P.iload_n (dq dtX6_refusalOfRun 3 rfl) rfl ?_
  refine P.callV1 (M' := mX2_hasPoint) (d' := d - 1) mlX6_126 mcX2_hasPoint mvX2_hasPoint (dq dtX6_refusalOfRun 4 rfl) (by omega) (Nat.le_of_ble_eq_true rfl) (by repeat (first | assumption | exact up_s | rw [up_n (by first | assumption | (apply Ne.symm; assumption) | decide | omega)])) rfl ?_
  refine ct_X2_hasPoint x8 (by omega) ha (fun n_8 => ?_) (fun n_8 => ?_)
  · refine P.if_ne (t := 17) (dq dtX6_refusalOfRun 5 rfl) rfl (by omega) (fun _ => ?_) (fun h9 => absurd h9 (by decide))
    refine P.iload_n (dq dtX6_refusalOfRun 8 rfl) rfl ?_
    refine P.callS1 (M' := mX6_isWay) (d' := d - 1) mlX6_130 mcX6_isWay msX6_isWay (dq dtX6_refusalOfRun 9 rfl) (by omega) (Nat.le_of_ble_eq_true rfl) ?_
    refine ct_X6_isWay hb (fun n_18 => ?_) (fun n_18 => ?_)
    · refine P.if_eq (t := 40) (dq dtX6_refusalOfRun 10 rfl) rfl (by omega) (fun h9 => absurd h9 (by decide)) (fun _ => ?_)
      refine P.iload_n (dq dtX6_refusalOfRun 11 rfl) rfl ?_
      refine P.bipush (dq dtX6_refusalOfRun 12 rfl) rfl ?_
      refine P.icmp_lt (t := 40) (dq dtX6_refusalOfRun 13 rfl) rfl (by omega) (by omega) (fun c_27 => ?_) (fun c_27 => ?_)
      · refine P.ldc (n := -100002) (dq dtX6_refusalOfRun 19 rfl) kcX6_77 rfl ?_
        refine P.iret (dq dtX6_refusalOfRun 20 rfl) rfl rfl rfl ?_
        first | (rw [if_neg (by omega), if_pos (by omega)] at h; exact h) | (rw [if_neg (by omega), if_neg (by omega)] at h; exact h)
      · refine P.iload_n (dq dtX6_refusalOfRun 14 rfl) rfl ?_
        refine P.bipush (dq dtX6_refusalOfRun 15 rfl) rfl ?_
        refine P.icmp_gt (t := 40) (dq dtX6_refusalOfRun 16 rfl) rfl (by omega) (by omega) (fun c_33 => ?_) (fun c_33 => ?_)
        · refine P.ldc (n := -100002) (dq dtX6_refusalOfRun 19 rfl) kcX6_77 rfl ?_
          refine P.iret (dq dtX6_refusalOfRun 20 rfl) rfl rfl rfl ?_
          first | (rw [if_neg (by omega), if_pos (by omega)] at h; exact h) | (rw [if_neg (by omega), if_neg (by omega)] at h; exact h)
        · refine P.iconst (dq dtX6_refusalOfRun 17 rfl) ?_
          refine P.goto (t := 42) (dq dtX6_refusalOfRun 18 rfl) rfl ?_
          refine P.iret (dq dtX6_refusalOfRun 20 rfl) rfl rfl rfl ?_
          first | (rw [if_neg (by omega), if_pos (by omega)] at h; exact h) | (rw [if_neg (by omega), if_neg (by omega)] at h; exact h)
    · refine P.if_eq (t := 40) (dq dtX6_refusalOfRun 10 rfl) rfl (by omega) (fun _ => ?_) (fun h9 => absurd h9 (by decide))
      refine P.ldc (n := -100002) (dq dtX6_refusalOfRun 19 rfl) kcX6_77 rfl ?_
      refine P.iret (dq dtX6_refusalOfRun 20 rfl) rfl rfl rfl ?_
      first | (rw [if_neg (by omega), if_pos (by omega)] at h; exact h) | (rw [if_neg (by omega), if_neg (by omega)] at h; exact h)
  · refine P.if_ne (t := 17) (dq dtX6_refusalOfRun 5 rfl) rfl (by omega) (fun h9 => absurd h9 (by decide)) (fun _ => ?_)
    refine P.ldc (n := -100001) (dq dtX6_refusalOfRun 6 rfl) kcX6_129 rfl ?_
    refine P.iret (dq dtX6_refusalOfRun 7 rfl) rfl rfl rfl ?_
    rw [if_pos n_8] at h
    exact h
def rfL (it : Int → Int) (a : Int) : Int := if ¬ (0 ≤ a ∧ a < 3) then -100001 else if it a = 0 then -100011 else 0
/-- AxisTable.refusalOfLabel -/
theorem ct_refLab {x : CM} {d N : Nat} {σ : PH} {Q : PQ} {S : CSt} (hS : CS σ S) (hd : 1 ≤ d) {a : Int} (ha : inR a) (h : Q (some (vI (rfL S.it a))) σ) : Call x d 0 0 mX6_refusalOfLabel [vR 0, vI a] N σ Q := by
  refine Call.of mcX6_refusalOfLabel (Nat.le_of_ble_eq_true rfl) (fun y hy => ?_)
  subst hy
  obtain ⟨hG, hX, hTx, hRd, hNow, hPa, hKe, ⟨F, sf, hFg⟩, ⟨sv, hSu⟩, hSF, hLa⟩ := id hS
  have x0 := hX.1
  have x1 := hTx.1
  have x2 := hTx.2
  have x7 := hNow.1
  have x8 := hNow.2.1
  have hGm := hG.2.1.1
  have hp := hGm.1
  have hs := hGm.2.1
  obtain ⟨f0, f1, f2, f3, f4, f5, f6, f7, fR⟩ := id hFg.1
  have tB := fR.tb hGm
  have hL9 := mul_bd (k := S.now.1.1 - 1) (s := S.now.1.2.1) (by omega) (by omega) (by omega) (by omega)
  have x69 := hLa.1
  unfold rfL at h
  refine P.iload_n (dq dtX6_refusalOfLabel 0 rfl) rfl ?_
  refine P.callS1 (M' := mX6_isLabel) (d' := d - 1) mlX6_236 mcX6_isLabel msX6_isLabel (dq dtX6_refusalOfLabel 1 rfl) (by omega) (Nat.le_of_ble_eq_true rfl) ?_
  refine ct_X6_isLabel ha (fun n_1 => ?_) (fun n_1 => ?_)
  · refine P.if_ne (t := 10) (dq dtX6_refusalOfLabel 2 rfl) rfl (by omega) (fun _ => ?_) (fun h9 => absurd h9 (by decide))
    refine P.aload_n (dq dtX6_refusalOfLabel 5 rfl) rfl ?_
    refine P.get flX6_71 (dq dtX6_refusalOfLabel 6 rfl) (by repeat (first | assumption | exact up_s | rw [up_n (by first | assumption | (apply Ne.symm; assumption) | decide | omega)])) (by rfl) ?_
    refine P.iload_n (dq dtX6_refusalOfLabel 7 rfl) rfl ?_
    refine P.zald (dq dtX6_refusalOfLabel 8 rfl) (by repeat (first | assumption | exact up_s | rw [up_n (by first | assumption | (apply Ne.symm; assumption) | decide | omega)])) (by omega) (by omega) (by omega) ?_
    have i_15 := hG.2.2.2.2.1 a n_1.1 n_1.2
    refine P.if_eq (t := 23) (dq dtX6_refusalOfLabel 9 rfl) rfl (by omega) (fun c_16 => ?_) (fun c_16 => ?_)
    · refine P.ldc (n := -100011) (dq dtX6_refusalOfLabel 12 rfl) kcX6_239 rfl ?_
      refine P.iret (dq dtX6_refusalOfLabel 13 rfl) rfl rfl rfl ?_
      first | (rw [if_neg (by omega), if_pos (by omega)] at h; exact h) | (rw [if_neg (by omega), if_neg (by omega)] at h; exact h)
    · refine P.iconst (dq dtX6_refusalOfLabel 10 rfl) ?_
      refine P.goto (t := 25) (dq dtX6_refusalOfLabel 11 rfl) rfl ?_
      refine P.iret (dq dtX6_refusalOfLabel 13 rfl) rfl rfl rfl ?_
      first | (rw [if_neg (by omega), if_pos (by omega)] at h; exact h) | (rw [if_neg (by omega), if_neg (by omega)] at h; exact h)
  · refine P.if_ne (t := 10) (dq dtX6_refusalOfLabel 2 rfl) rfl (by omega) (fun h9 => absurd h9 (by decide)) (fun _ => ?_)
    refine P.ldc (n := -100001) (dq dtX6_refusalOfLabel 3 rfl) kcX6_129 rfl ?_
    refine P.iret (dq dtX6_refusalOfLabel 4 rfl) rfl rfl rfl ?_
    rw [if_pos n_1] at h
    exact h
def rf2 (it : Int → Int) (a b : Int) : Int := if ¬ ((0 ≤ a ∧ a < 3) ∧ 0 ≤ b ∧ b < 3) then -100001 else if it a = 0 ∨ it b = 0 then -100011 else 0
/-- AxisTable.refusalOfTwo -/
theorem ct_ref2 {x : CM} {d N : Nat} {σ : PH} {Q : PQ} {S : CSt} (hS : CS σ S) (hd : 1 ≤ d) {a b : Int} (ha : inR a) (hb : inR b) (h : Q (some (vI (rf2 S.it a b))) σ) : Call x d 0 0 mX6_refusalOfTwo [vR 0, vI a, vI b] N σ Q := by
  refine Call.of mcX6_refusalOfTwo (Nat.le_of_ble_eq_true rfl) (fun y hy => ?_)
  subst hy
  obtain ⟨hG, hX, hTx, hRd, hNow, hPa, hKe, ⟨F, sf, hFg⟩, ⟨sv, hSu⟩, hSF, hLa⟩ := id hS
  have x0 := hX.1
  have x1 := hTx.1
  have x2 := hTx.2
  have x7 := hNow.1
  have x8 := hNow.2.1
  have hGm := hG.2.1.1
  have hp := hGm.1
  have hs := hGm.2.1
  obtain ⟨f0, f1, f2, f3, f4, f5, f6, f7, fR⟩ := id hFg.1
  have tB := fR.tb hGm
  have hL9 := mul_bd (k := S.now.1.1 - 1) (s := S.now.1.2.1) (by omega) (by omega) (by omega) (by omega)
  have x69 := hLa.1
  unfold rf2 at h
  refine P.iload_n (dq dtX6_refusalOfTwo 0 rfl) rfl ?_
  refine P.callS1 (M' := mX6_isLabel) (d' := d - 1) mlX6_236 mcX6_isLabel msX6_isLabel (dq dtX6_refusalOfTwo 1 rfl) (by omega) (Nat.le_of_ble_eq_true rfl) ?_
  refine ct_X6_isLabel ha (fun n_1 => ?_) (fun n_1 => ?_)
  · refine P.if_eq (t := 14) (dq dtX6_refusalOfTwo 2 rfl) rfl (by omega) (fun h9 => absurd h9 (by decide)) (fun _ => ?_)
    refine P.iload_n (dq dtX6_refusalOfTwo 3 rfl) rfl ?_
    refine P.callS1 (M' := mX6_isLabel) (d' := d - 1) mlX6_236 mcX6_isLabel msX6_isLabel (dq dtX6_refusalOfTwo 4 rfl) (by omega) (Nat.le_of_ble_eq_true rfl) ?_
    refine ct_X6_isLabel hb (fun n_8 => ?_) (fun n_8 => ?_)
    · refine P.if_ne (t := 17) (dq dtX6_refusalOfTwo 5 rfl) rfl (by omega) (fun _ => ?_) (fun h9 => absurd h9 (by decide))
      have i_a := hG.2.2.2.2.1 a n_1.1 n_1.2
      have i_b := hG.2.2.2.2.1 b n_8.1 n_8.2
      refine P.aload_n (dq dtX6_refusalOfTwo 8 rfl) rfl ?_
      refine P.get flX6_71 (dq dtX6_refusalOfTwo 9 rfl) (by repeat (first | assumption | exact up_s | rw [up_n (by first | assumption | (apply Ne.symm; assumption) | decide | omega)])) (by rfl) ?_
      refine P.iload_n (dq dtX6_refusalOfTwo 10 rfl) rfl ?_
      refine P.zald (dq dtX6_refusalOfTwo 11 rfl) (by repeat (first | assumption | exact up_s | rw [up_n (by first | assumption | (apply Ne.symm; assumption) | decide | omega)])) (by omega) (by omega) (by omega) ?_
      refine P.if_eq (t := 39) (dq dtX6_refusalOfTwo 12 rfl) rfl (by omega) (fun c_23 => ?_) (fun c_23 => ?_)
      · refine P.ldc (n := -100011) (dq dtX6_refusalOfTwo 20 rfl) kcX6_239 rfl ?_
        refine P.iret (dq dtX6_refusalOfTwo 21 rfl) rfl rfl rfl ?_
        first | (rw [if_neg (by omega), if_pos (by omega)] at h; exact h) | (rw [if_neg (by omega), if_neg (by omega)] at h; exact h)
      · refine P.aload_n (dq dtX6_refusalOfTwo 13 rfl) rfl ?_
        refine P.get flX6_71 (dq dtX6_refusalOfTwo 14 rfl) (by repeat (first | assumption | exact up_s | rw [up_n (by first | assumption | (apply Ne.symm; assumption) | decide | omega)])) (by rfl) ?_
        refine P.iload_n (dq dtX6_refusalOfTwo 15 rfl) rfl ?_
        refine P.zald (dq dtX6_refusalOfTwo 16 rfl) (by repeat (first | assumption | exact up_s | rw [up_n (by first | assumption | (apply Ne.symm; assumption) | decide | omega)])) (by omega) (by omega) (by omega) ?_
        refine P.if_eq (t := 39) (dq dtX6_refusalOfTwo 17 rfl) rfl (by omega) (fun c_32 => ?_) (fun c_32 => ?_)
        · refine P.ldc (n := -100011) (dq dtX6_refusalOfTwo 20 rfl) kcX6_239 rfl ?_
          refine P.iret (dq dtX6_refusalOfTwo 21 rfl) rfl rfl rfl ?_
          first | (rw [if_neg (by omega), if_pos (by omega)] at h; exact h) | (rw [if_neg (by omega), if_neg (by omega)] at h; exact h)
        · refine P.iconst (dq dtX6_refusalOfTwo 18 rfl) ?_
          refine P.goto (t := 41) (dq dtX6_refusalOfTwo 19 rfl) rfl ?_
          refine P.iret (dq dtX6_refusalOfTwo 21 rfl) rfl rfl rfl ?_
          first | (rw [if_neg (by omega), if_pos (by omega)] at h; exact h) | (rw [if_neg (by omega), if_neg (by omega)] at h; exact h)
    · refine P.if_ne (t := 17) (dq dtX6_refusalOfTwo 5 rfl) rfl (by omega) (fun h9 => absurd h9 (by decide)) (fun _ => ?_)
      refine P.ldc (n := -100001) (dq dtX6_refusalOfTwo 6 rfl) kcX6_129 rfl ?_
      refine P.iret (dq dtX6_refusalOfTwo 7 rfl) rfl rfl rfl ?_
      rw [if_pos (by omega)] at h
      exact h
  · refine P.if_eq (t := 14) (dq dtX6_refusalOfTwo 2 rfl) rfl (by omega) (fun _ => ?_) (fun h9 => absurd h9 (by decide))
    refine P.ldc (n := -100001) (dq dtX6_refusalOfTwo 6 rfl) kcX6_129 rfl ?_
    refine P.iret (dq dtX6_refusalOfTwo 7 rfl) rfl rfl rfl ?_
    rw [if_pos (by omega)] at h
    exact h
/-- AxisTable.write -/
theorem cl_write {x : CM} {d N : Nat} {σ : PH} {Q : PQ} {S : CSt} (hS : CS σ S) (hd : 4 ≤ d) {a : Int} (ha : inR a) (h1 : ¬ (0 ≤ a ∧ a ≤ 255) → Q (some (vI (-100002))) σ) (h2 : 0 ≤ a ∧ a ≤ 255 → S.tn = 200 → Q (some (vI (-100004))) σ) (h3 : 0 ≤ a ∧ a ≤ 255 → S.tn < 200 → ∀ σ' : PH, CS σ' ((S.tn + 1, upI S.tf S.tn a), S.2) → FrC σ σ' → Q (some (vI (S.tn + 1))) σ') : Call x d 0 0 mX6_write [vR 0, vI a] N σ Q := by
  refine Call.of mcX6_write (Nat.le_of_ble_eq_true rfl) (fun y hy => ?_)
  subst hy
  obtain ⟨hG, hX, hTx, hRd, hNow, hPa, hKe, ⟨F, sf, hFg⟩, ⟨sv, hSu⟩, hSF, hLa⟩ := id hS
  have x0 := hX.1
  have x1 := hTx.1
  have x2 := hTx.2
  have x7 := hNow.1
  have x8 := hNow.2.1
  have hGm := hG.2.1.1
  have hp := hGm.1
  have hs := hGm.2.1
  obtain ⟨f0, f1, f2, f3, f4, f5, f6, f7, fR⟩ := id hFg.1
  have tB := fR.tb hGm
  have hL9 := mul_bd (k := S.now.1.1 - 1) (s := S.now.1.2.1) (by omega) (by omega) (by omega) (by omega)
  have hT1 := hG.1.1
  refine P.iload_n (dq dtX6_write 0 rfl) rfl ?_
  refine P.if_lt (t := 11) (dq dtX6_write 1 rfl) rfl (by omega) (fun c_1 => ?_) (fun c_1 => ?_)
  · refine P.ldc (n := -100002) (dq dtX6_write 5 rfl) kcX6_77 rfl ?_
    refine P.iret (dq dtX6_write 6 rfl) rfl rfl rfl ?_
    exact h1 (by omega)
  · refine P.iload_n (dq dtX6_write 2 rfl) rfl ?_
    refine P.sipush (dq dtX6_write 3 rfl) rfl ?_
    refine P.icmp_le (t := 14) (dq dtX6_write 4 rfl) rfl (by omega) (by omega) (fun c_8 => ?_) (fun c_8 => ?_)
    · refine P.aload_n (dq dtX6_write 7 rfl) rfl ?_
      refine P.get flX6_14 (dq dtX6_write 8 rfl) (by repeat (first | assumption | exact up_s | rw [up_n (by first | assumption | (apply Ne.symm; assumption) | decide | omega)])) (by rfl) ?_
      refine P.iconst (dq dtX6_write 9 rfl) ?_
      refine P.callV1 (M' := mX1_hasRoomFor) (d' := d - 1) mlX6_78 mcX1_hasRoomFor mvX1_hasRoomFor (dq dtX6_write 10 rfl) (by omega) (Nat.le_of_ble_eq_true rfl) (by repeat (first | assumption | exact up_s | rw [up_n (by first | assumption | (apply Ne.symm; assumption) | decide | omega)])) rfl ?_
      refine ct_X1_hasRoomFor x1 x2 (by omega) (by omega) (fun n_19 => ?_) (fun n_19 => ?_)
      · refine P.if_ne (t := 28) (dq dtX6_write 11 rfl) rfl (by omega) (fun _ => ?_) (fun h9 => absurd h9 (by decide))
        refine P.aload_n (dq dtX6_write 14 rfl) rfl ?_
        refine P.get flX6_14 (dq dtX6_write 15 rfl) (by repeat (first | assumption | exact up_s | rw [up_n (by first | assumption | (apply Ne.symm; assumption) | decide | omega)])) (by rfl) ?_
        refine P.iload_n (dq dtX6_write 16 rfl) rfl ?_
        refine P.callV1 (M' := mX1_put) (d' := d - 1) mlX6_83 mcX1_put mvX1_put (dq dtX6_write 17 rfl) (by omega) (Nat.le_of_ble_eq_true rfl) (by repeat (first | assumption | exact up_s | rw [up_n (by first | assumption | (apply Ne.symm; assumption) | decide | omega)])) rfl ?_
        refine ct_X1_put x1 x2 (by omega) (by omega) (by omega) ?_
        refine P.aload_n (dq dtX6_write 18 rfl) rfl ?_
        refine P.get flX6_14 (dq dtX6_write 19 rfl) (by repeat (first | assumption | exact up_s | rw [up_n (by first | assumption | (apply Ne.symm; assumption) | decide | omega)])) (by rfl) ?_
        refine P.get flX6_86 (dq dtX6_write 20 rfl) (by repeat (first | assumption | exact up_s | rw [up_n (by first | assumption | (apply Ne.symm; assumption) | decide | omega)])) (by rfl) ?_
        refine P.iret (dq dtX6_write 21 rfl) rfl rfl rfl ?_
        have hF : Fr σ (up (up σ (1 + 1) (pcI 0 200 (upI S.tf S.tn a))) 1 (pcO 1 [vR (1 + 1), vI (S.tn + 1)])) [1, 2] := Fr.up (Fr.up Fr.rf (by simp)) (by simp)
        refine h3 (by omega) (by omega) _ ⟨⟨⟨by show 0 ≤ S.tn + 1 ∧ S.tn + 1 ≤ 200; omega, fun i hi => ?_⟩, hG.2⟩, hX.fr hF rfl rfl rfl rfl, ⟨up_s, (up_n (by decide)).trans up_s⟩, hRd.fr hF rfl, hNow.fr4 hF rfl, hPa.fr hF rfl rfl, hKe.fr hF rfl rfl, ⟨F, sf, hFg.fr hF rfl rfl⟩, ⟨sv, hSu.fr3 hF rfl⟩, hSF.fr hF rfl, hLa.fr hF rfl rfl⟩ (hF.toC rfl)
        have hi2 : 0 ≤ i ∧ i < S.tn + 1 := hi
        show 0 ≤ upI S.tf S.tn a i ∧ upI S.tf S.tn a i ≤ 255
        by_cases e : i = S.tn
        · rw [e, upI_s]; omega
        · rw [upI_n e]
          exact hG.1.2 i (by omega)
      · refine P.if_ne (t := 28) (dq dtX6_write 11 rfl) rfl (by omega) (fun h9 => absurd h9 (by decide)) (fun _ => ?_)
        refine P.ldc (n := -100004) (dq dtX6_write 12 rfl) kcX6_82 rfl ?_
        refine P.iret (dq dtX6_write 13 rfl) rfl rfl rfl ?_
        exact h2 (by omega) (by omega)
    · refine P.ldc (n := -100002) (dq dtX6_write 5 rfl) kcX6_77 rfl ?_
      refine P.iret (dq dtX6_write 6 rfl) rfl rfl rfl ?_
      exact h1 (by omega)
/-- AxisTable.erase -/
theorem cl_erase {x : CM} {d N : Nat} {σ : PH} {Q : PQ} {S : CSt} (hS : CS σ S) (h : ∀ σ' : PH, CS σ' ((0, S.tf), S.2) → FrC σ σ' → Q (some (vI S.tn)) σ') : Call x d 0 0 mX6_erase [vR 0] N σ Q := by
  refine Call.of mcX6_erase (Nat.le_of_ble_eq_true rfl) (fun y hy => ?_)
  subst hy
  obtain ⟨hG, hX, hTx, hRd, hNow, hPa, hKe, ⟨F, sf, hFg⟩, ⟨sv, hSu⟩, hSF, hLa⟩ := id hS
  have x0 := hX.1
  have x1 := hTx.1
  have x2 := hTx.2
  have x7 := hNow.1
  have x8 := hNow.2.1
  have hGm := hG.2.1.1
  have hp := hGm.1
  have hs := hGm.2.1
  obtain ⟨f0, f1, f2, f3, f4, f5, f6, f7, fR⟩ := id hFg.1
  have tB := fR.tb hGm
  have hL9 := mul_bd (k := S.now.1.1 - 1) (s := S.now.1.2.1) (by omega) (by omega) (by omega) (by omega)
  refine P.aload_n (dq dtX6_erase 0 rfl) rfl ?_
  refine P.get flX6_14 (dq dtX6_erase 1 rfl) (by repeat (first | assumption | exact up_s | rw [up_n (by first | assumption | (apply Ne.symm; assumption) | decide | omega)])) (by rfl) ?_
  refine P.get flX6_86 (dq dtX6_erase 2 rfl) (by repeat (first | assumption | exact up_s | rw [up_n (by first | assumption | (apply Ne.symm; assumption) | decide | omega)])) (by rfl) ?_
  refine P.istore_n (dq dtX6_erase 3 rfl) (by decide) rfl rfl ?_
  refine P.aload_n (dq dtX6_erase 4 rfl) rfl ?_
  refine P.get flX6_14 (dq dtX6_erase 5 rfl) (by repeat (first | assumption | exact up_s | rw [up_n (by first | assumption | (apply Ne.symm; assumption) | decide | omega)])) (by rfl) ?_
  refine P.iconst (dq dtX6_erase 6 rfl) ?_
  refine P.put flX6_86 rfl (dq dtX6_erase 7 rfl) (by repeat (first | assumption | exact up_s | rw [up_n (by first | assumption | (apply Ne.symm; assumption) | decide | omega)])) (by exact Nat.le_of_ble_eq_true rfl) rfl rfl rfl rfl rfl ?_
  refine P.iload_n (dq dtX6_erase 8 rfl) rfl ?_
  refine P.iret (dq dtX6_erase 9 rfl) rfl rfl rfl ?_
  have hF : Fr σ (up σ 1 (pcO 1 [vR (1 + 1), vI 0])) [1] := Fr.up Fr.rf (by simp)
  exact h _ ⟨⟨⟨by show (0 : Int) ≤ 0 ∧ (0 : Int) ≤ 200; omega, fun i hi => absurd hi (by show ¬ (0 ≤ i ∧ i < 0); omega)⟩, hG.2⟩, hX.fr hF rfl rfl rfl rfl, ⟨up_s, (up_n (by decide)).trans x2⟩, hRd.fr hF rfl, hNow.fr4 hF rfl, hPa.fr hF rfl rfl, hKe.fr hF rfl rfl, ⟨F, sf, hFg.fr hF rfl rfl⟩, ⟨sv, hSu.fr3 hF rfl⟩, hSF.fr hF rfl, hLa.fr hF rfl rfl⟩ (hF.toC rfl)
/-- AxisTable.runAt -/
theorem cl_runAt {x : CM} {d N : Nat} {σ : PH} {Q : PQ} {S : CSt} (hS : CS σ S) (hd : 2 ≤ d) {a b c : Int} (ha : inR a) (hb : inR b) (hc : inR c) (h1 : ¬ (0 ≤ a ∧ a < S.now.1.1) → Q (some (vI (-100001))) σ) (h2 : (0 ≤ a ∧ a < S.now.1.1) → ¬ ((b = 0 ∨ b = 1) ∧ 0 ≤ c) → Q (some (vI (-100002))) σ) (h3 : (0 ≤ a ∧ a < S.now.1.1) → (b = 0 ∨ b = 1) ∧ 0 ≤ c → c < S.now.1.2.2.1 (a * 2 + b) → Q (some (vI (S.now.1.2.2.2 ((a * 2 + b) * 6 + c)))) σ) (h4 : (0 ≤ a ∧ a < S.now.1.1) → (b = 0 ∨ b = 1) ∧ 0 ≤ c → ¬ c < S.now.1.2.2.1 (a * 2 + b) → Q (some (vI (-100000))) σ) : Call x d 0 0 mX6_runAt [vR 0, vI a, vI b, vI c] N σ Q := by
  refine Call.of mcX6_runAt (Nat.le_of_ble_eq_true rfl) (fun y hy => ?_)
  subst hy
  obtain ⟨hG, hX, hTx, hRd, hNow, hPa, hKe, ⟨F, sf, hFg⟩, ⟨sv, hSu⟩, hSF, hLa⟩ := id hS
  have x0 := hX.1
  have x1 := hTx.1
  have x2 := hTx.2
  have x7 := hNow.1
  have x8 := hNow.2.1
  have hGm := hG.2.1.1
  have hp := hGm.1
  have hs := hGm.2.1
  obtain ⟨f0, f1, f2, f3, f4, f5, f6, f7, fR⟩ := id hFg.1
  have tB := fR.tb hGm
  have hL9 := mul_bd (k := S.now.1.1 - 1) (s := S.now.1.2.1) (by omega) (by omega) (by omega) (by omega)
  refine P.aload_n (dq dtX6_runAt 0 rfl) rfl ?_
  refine P.get flX6_28 (dq dtX6_runAt 1 rfl) (by repeat (first | assumption | exact up_s | rw [up_n (by first | assumption | (apply Ne.symm; assumption) | decide | omega)])) (by rfl) ?_
  refine P.get flX6_90 (dq dtX6_runAt 2 rfl) (by repeat (first | assumption | exact up_s | rw [up_n (by first | assumption | (apply Ne.symm; assumption) | decide | omega)])) (by rfl) ?_
  refine P.iload_n (dq dtX6_runAt 3 rfl) rfl ?_
  refine P.callV1 (M' := mX2_hasPoint) (d' := d - 1) mlX6_126 mcX2_hasPoint mvX2_hasPoint (dq dtX6_runAt 4 rfl) (by omega) (Nat.le_of_ble_eq_true rfl) (by repeat (first | assumption | exact up_s | rw [up_n (by first | assumption | (apply Ne.symm; assumption) | decide | omega)])) rfl ?_
  refine ct_X2_hasPoint x8 (by omega) ha (fun n_8 => ?_) (fun n_8 => ?_)
  · refine P.if_ne (t := 17) (dq dtX6_runAt 5 rfl) rfl (by omega) (fun _ => ?_) (fun h9 => absurd h9 (by decide))
    refine P.iload_n (dq dtX6_runAt 8 rfl) rfl ?_
    refine P.callS1 (M' := mX6_isWay) (d' := d - 1) mlX6_130 mcX6_isWay msX6_isWay (dq dtX6_runAt 9 rfl) (by omega) (Nat.le_of_ble_eq_true rfl) ?_
    refine ct_X6_isWay hb (fun n_18 => ?_) (fun n_18 => ?_)
    · refine P.if_eq (t := 28) (dq dtX6_runAt 10 rfl) rfl (by omega) (fun h9 => absurd h9 (by decide)) (fun _ => ?_)
      refine P.iload_n (dq dtX6_runAt 11 rfl) rfl ?_
      refine P.if_ge (t := 31) (dq dtX6_runAt 12 rfl) rfl (by omega) (fun c_25 => ?_) (fun c_25 => ?_)
      · refine P.aload_n (dq dtX6_runAt 15 rfl) rfl ?_
        refine P.get flX6_28 (dq dtX6_runAt 16 rfl) (by repeat (first | assumption | exact up_s | rw [up_n (by first | assumption | (apply Ne.symm; assumption) | decide | omega)])) (by rfl) ?_
        refine P.get flX6_90 (dq dtX6_runAt 17 rfl) (by repeat (first | assumption | exact up_s | rw [up_n (by first | assumption | (apply Ne.symm; assumption) | decide | omega)])) (by rfl) ?_
        refine P.iload_n (dq dtX6_runAt 18 rfl) rfl ?_
        refine P.iload_n (dq dtX6_runAt 19 rfl) rfl ?_
        refine P.iload_n (dq dtX6_runAt 20 rfl) rfl ?_
        refine P.callV3 (M' := mX2_errAt) (d' := d - 1) mlX6_150 mcX2_errAt mvX2_errAt (dq dtX6_runAt 21 rfl) (by omega) (Nat.le_of_ble_eq_true rfl) (by repeat (first | assumption | exact up_s | rw [up_n (by first | assumption | (apply Ne.symm; assumption) | decide | omega)])) rfl ?_
        refine ct_X2_errAt x8 (by omega) (by omega) hNow.2.2.1 hNow.2.2.2 (by omega) (by omega) (by omega) (fun _ => (hGm.2.2 (a * 2 + b) (by omega) (by omega)).1) (fun n_41 => ?_) (fun n_41 => ?_)
        · refine P.iret (dq dtX6_runAt 22 rfl) rfl rfl rfl ?_
          first | exact h3 n_8 (by omega) (by omega) | exact h4 n_8 (by omega) (by omega)
        · refine P.iret (dq dtX6_runAt 22 rfl) rfl rfl rfl ?_
          first | exact h3 n_8 (by omega) (by omega) | exact h4 n_8 (by omega) (by omega)
      · refine P.ldc (n := -100002) (dq dtX6_runAt 13 rfl) kcX6_77 rfl ?_
        refine P.iret (dq dtX6_runAt 14 rfl) rfl rfl rfl ?_
        exact h2 n_8 (by omega)
    · refine P.if_eq (t := 28) (dq dtX6_runAt 10 rfl) rfl (by omega) (fun _ => ?_) (fun h9 => absurd h9 (by decide))
      refine P.ldc (n := -100002) (dq dtX6_runAt 13 rfl) kcX6_77 rfl ?_
      refine P.iret (dq dtX6_runAt 14 rfl) rfl rfl rfl ?_
      exact h2 n_8 (by omega)
  · refine P.if_ne (t := 17) (dq dtX6_runAt 5 rfl) rfl (by omega) (fun h9 => absurd h9 (by decide)) (fun _ => ?_)
    refine P.ldc (n := -100001) (dq dtX6_runAt 6 rfl) kcX6_129 rfl ?_
    refine P.iret (dq dtX6_runAt 7 rfl) rfl rfl rfl ?_
    exact h1 n_8
/-- AxisTable.countOf -/
theorem cl_countOf {x : CM} {d N : Nat} {σ : PH} {Q : PQ} {S : CSt} {F : FgV} {sf : Int → Int} (hS : CS σ S) (hFg : CFg σ S.now.1 F sf) (hd : 3 ≤ d) {a : Int} (ha : inR a) (h1 : ¬ (0 ≤ a ∧ a ≤ (S.now.1.1 - 1) * S.now.1.2.1) → Q (some (vI (-100002))) σ) (h2 : 0 ≤ a ∧ a ≤ (S.now.1.1 - 1) * S.now.1.2.1 → Q (some (vI (cntF F.2.2.2.2.2.2 S.now.1.1 S.now.1.2.1 a))) σ) : Call x d 0 0 mX6_countOf [vR 0, vI a] N σ Q := by
  refine Call.of mcX6_countOf (Nat.le_of_ble_eq_true rfl) (fun y hy => ?_)
  subst hy
  obtain ⟨hG, hX, hTx, hRd, hNow, hPa, hKe, -, ⟨sv, hSu⟩, hSF, hLa⟩ := id hS
  have x0 := hX.1
  have x1 := hTx.1
  have x2 := hTx.2
  have x7 := hNow.1
  have x8 := hNow.2.1
  have hGm := hG.2.1.1
  have hp := hGm.1
  have hs := hGm.2.1
  obtain ⟨f0, f1, f2, f3, f4, f5, f6, f7, fR⟩ := id hFg.1
  have tB := fR.tb hGm
  have hL9 := mul_bd (k := S.now.1.1 - 1) (s := S.now.1.2.1) (by omega) (by omega) (by omega) (by omega)
  refine P.aload_n (dq dtX6_countOf 0 rfl) rfl ?_
  refine P.get flX6_50 (dq dtX6_countOf 1 rfl) (by repeat (first | assumption | exact up_s | rw [up_n (by first | assumption | (apply Ne.symm; assumption) | decide | omega)])) (by rfl) ?_
  refine P.iload_n (dq dtX6_countOf 2 rfl) rfl ?_
  refine P.callV1 (M' := mX0_hasPlace) (d' := d - 1) mlX6_197 mcX0_hasPlace mvX0_hasPlace (dq dtX6_countOf 3 rfl) (by omega) (Nat.le_of_ble_eq_true rfl) (by repeat (first | assumption | exact up_s | rw [up_n (by first | assumption | (apply Ne.symm; assumption) | decide | omega)])) rfl ?_
  refine ct_X0_hasPlace f0 (by omega) (by omega) ha (fun n_5 => ?_) (fun n_5 => ?_)
  · refine P.if_eq (t := 22) (dq dtX6_countOf 4 rfl) rfl (by omega) (fun h9 => absurd h9 (by decide)) (fun _ => ?_)
    refine P.aload_n (dq dtX6_countOf 5 rfl) rfl ?_
    refine P.get flX6_50 (dq dtX6_countOf 6 rfl) (by repeat (first | assumption | exact up_s | rw [up_n (by first | assumption | (apply Ne.symm; assumption) | decide | omega)])) (by rfl) ?_
    refine P.iload_n (dq dtX6_countOf 7 rfl) rfl ?_
    refine P.callV1 (M' := mX0_countAt) (d' := d - 1) mlX6_102 mcX0_countAt mvX0_countAt (dq dtX6_countOf 8 rfl) (by omega) (Nat.le_of_ble_eq_true rfl) (by repeat (first | assumption | exact up_s | rw [up_n (by first | assumption | (apply Ne.symm; assumption) | decide | omega)])) rfl ?_
    refine ct_X0_countAt f0 f7 (by omega) (by omega) tB (by omega) n_5 ?_
    refine P.goto (t := 24) (dq dtX6_countOf 9 rfl) rfl ?_
    refine P.iret (dq dtX6_countOf 11 rfl) rfl rfl rfl ?_
    first | exact h2 n_5 | exact h1 n_5
  · refine P.if_eq (t := 22) (dq dtX6_countOf 4 rfl) rfl (by omega) (fun _ => ?_) (fun h9 => absurd h9 (by decide))
    refine P.ldc (n := -100002) (dq dtX6_countOf 10 rfl) kcX6_77 rfl ?_
    refine P.iret (dq dtX6_countOf 11 rfl) rfl rfl rfl ?_
    first | exact h2 n_5 | exact h1 n_5
/-- AxisTable.placeOf -/
theorem cl_placeOf {x : CM} {d N : Nat} {σ : PH} {Q : PQ} {S : CSt} {F : FgV} {sf : Int → Int} (hS : CS σ S) (hFg : CFg σ S.now.1 F sf) (hd : 3 ≤ d) {a : Int} (ha : inR a) (h1 : ¬ (-200 ≤ a ∧ a ≤ 2000) → Q (some (vI (-100002))) σ) (h2 : -200 ≤ a ∧ a ≤ 2000 → Q (some (vI (if a ≤ F.2.2.2.2.2.2 0 then 0 else plF F.2.2.2.2.2.2 S.now.1.2.1 a (S.now.1.1 - 1).toNat 0))) σ) : Call x d 0 0 mX6_placeOf [vR 0, vI a] N σ Q := by
  refine Call.of mcX6_placeOf (Nat.le_of_ble_eq_true rfl) (fun y hy => ?_)
  subst hy
  obtain ⟨hG, hX, hTx, hRd, hNow, hPa, hKe, -, ⟨sv, hSu⟩, hSF, hLa⟩ := id hS
  have x0 := hX.1
  have x1 := hTx.1
  have x2 := hTx.2
  have x7 := hNow.1
  have x8 := hNow.2.1
  have hGm := hG.2.1.1
  have hp := hGm.1
  have hs := hGm.2.1
  obtain ⟨f0, f1, f2, f3, f4, f5, f6, f7, fR⟩ := id hFg.1
  have tB := fR.tb hGm
  have hL9 := mul_bd (k := S.now.1.1 - 1) (s := S.now.1.2.1) (by omega) (by omega) (by omega) (by omega)
  refine P.iload_n (dq dtX6_placeOf 0 rfl) rfl ?_
  refine P.sipush (dq dtX6_placeOf 1 rfl) rfl ?_
  refine P.icmp_lt (t := 14) (dq dtX6_placeOf 2 rfl) rfl (by omega) (by omega) (fun c_4 => ?_) (fun c_4 => ?_)
  · refine P.ldc (n := -100002) (dq dtX6_placeOf 6 rfl) kcX6_77 rfl ?_
    refine P.iret (dq dtX6_placeOf 7 rfl) rfl rfl rfl ?_
    exact h1 (by omega)
  · refine P.iload_n (dq dtX6_placeOf 3 rfl) rfl ?_
    refine P.sipush (dq dtX6_placeOf 4 rfl) rfl ?_
    refine P.icmp_le (t := 17) (dq dtX6_placeOf 5 rfl) rfl (by omega) (by omega) (fun c_11 => ?_) (fun c_11 => ?_)
    · refine P.aload_n (dq dtX6_placeOf 8 rfl) rfl ?_
      refine P.get flX6_50 (dq dtX6_placeOf 9 rfl) (by repeat (first | assumption | exact up_s | rw [up_n (by first | assumption | (apply Ne.symm; assumption) | decide | omega)])) (by rfl) ?_
      refine P.iload_n (dq dtX6_placeOf 10 rfl) rfl ?_
      refine P.callV1 (M' := mX0_placeAt) (d' := d - 1) mlX6_210 mcX0_placeAt mvX0_placeAt (dq dtX6_placeOf 11 rfl) (by omega) (Nat.le_of_ble_eq_true rfl) (by repeat (first | assumption | exact up_s | rw [up_n (by first | assumption | (apply Ne.symm; assumption) | decide | omega)])) rfl ?_
      refine ct_X0_placeAt f0 f7 (by omega) (by omega) tB (by omega) (by omega) ?_
      refine P.iret (dq dtX6_placeOf 12 rfl) rfl rfl rfl ?_
      exact h2 (by omega)
    · refine P.ldc (n := -100002) (dq dtX6_placeOf 6 rfl) kcX6_77 rfl ?_
      refine P.iret (dq dtX6_placeOf 7 rfl) rfl rfl rfl ?_
      exact h1 (by omega)
/-- AxisTable.sheet -/
theorem cl_sheet {x : CM} {d N : Nat} {σ : PH} {Q : PQ} {S : CSt} {F : FgV} {sf : Int → Int} (hS : CS σ S) (hFg : CFg σ S.now.1 F sf) (hd : 1 ≤ d) {a : Int} (ha : inR a) (h1 : a < 0 → Q (some (vI (-100002))) σ) (h2 : 0 ≤ a → a < (tbl S.now.1 F).length → Q (some (vI ((tbl S.now.1 F).getD a.toNat 0))) σ) (h3 : ((tbl S.now.1 F).length : Int) ≤ a → Q (some (vI (-100000))) σ) : Call x d 0 0 mX6_sheet [vR 0, vI a] N σ Q := by
  refine Call.of mcX6_sheet (Nat.le_of_ble_eq_true rfl) (fun y hy => ?_)
  subst hy
  obtain ⟨hG, hX, hTx, hRd, hNow, hPa, hKe, -, ⟨sv, hSu⟩, hSF, hLa⟩ := id hS
  have x0 := hX.1
  have x1 := hTx.1
  have x2 := hTx.2
  have x7 := hNow.1
  have x8 := hNow.2.1
  have hGm := hG.2.1.1
  have hp := hGm.1
  have hs := hGm.2.1
  obtain ⟨f0, f1, f2, f3, f4, f5, f6, f7, fR⟩ := id hFg.1
  have tB := fR.tb hGm
  have hL9 := mul_bd (k := S.now.1.1 - 1) (s := S.now.1.2.1) (by omega) (by omega) (by omega) (by omega)
  have x66 := hFg.2.1.1
  have x67 := hFg.2.1.2
  have hln : (tbl S.now.1 F).length ≤ 80 := tbl_len _ _ hGm
  refine P.iload_n (dq dtX6_sheet 0 rfl) rfl ?_
  refine P.if_ge (t := 7) (dq dtX6_sheet 1 rfl) rfl (by omega) (fun c_1 => ?_) (fun c_1 => ?_)
  · refine P.iload_n (dq dtX6_sheet 4 rfl) rfl ?_
    refine P.aload_n (dq dtX6_sheet 5 rfl) rfl ?_
    refine P.get flX6_64 (dq dtX6_sheet 6 rfl) (by repeat (first | assumption | exact up_s | rw [up_n (by first | assumption | (apply Ne.symm; assumption) | decide | omega)])) (by rfl) ?_
    refine P.get flX6_86 (dq dtX6_sheet 7 rfl) (by repeat (first | assumption | exact up_s | rw [up_n (by first | assumption | (apply Ne.symm; assumption) | decide | omega)])) (by rfl) ?_
    refine P.icmp_ge (t := 29) (dq dtX6_sheet 8 rfl) rfl (by omega) (by omega) (fun c_15 => ?_) (fun c_15 => ?_)
    · refine P.ldc (n := -100000) (dq dtX6_sheet 14 rfl) kcX6_235 rfl ?_
      refine P.iret (dq dtX6_sheet 15 rfl) rfl rfl rfl ?_
      first | (rw [show a = ((a.toNat : Nat) : Int) by omega, hFg.2.2 a.toNat (by omega)]; exact h2 (by omega) (by omega)) | exact h3 (by omega)
    · refine P.aload_n (dq dtX6_sheet 9 rfl) rfl ?_
      refine P.get flX6_64 (dq dtX6_sheet 10 rfl) (by repeat (first | assumption | exact up_s | rw [up_n (by first | assumption | (apply Ne.symm; assumption) | decide | omega)])) (by rfl) ?_
      refine P.iload_n (dq dtX6_sheet 11 rfl) rfl ?_
      refine P.callV1 (M' := mX1_at) (d' := d - 1) mlX6_232 mcX1_at mvX1_at (dq dtX6_sheet 12 rfl) (by omega) (Nat.le_of_ble_eq_true rfl) (by repeat (first | assumption | exact up_s | rw [up_n (by first | assumption | (apply Ne.symm; assumption) | decide | omega)])) rfl ?_
      refine ct_X1_at x66 x67 (by omega) (by omega) (fun n_23 => ?_) (fun n_23 => absurd (by omega) n_23)
      refine P.goto (t := 31) (dq dtX6_sheet 13 rfl) rfl ?_
      refine P.iret (dq dtX6_sheet 15 rfl) rfl rfl rfl ?_
      first | (rw [show a = ((a.toNat : Nat) : Int) by omega, hFg.2.2 a.toNat (by omega)]; exact h2 (by omega) (by omega)) | exact h3 (by omega)
  · refine P.ldc (n := -100002) (dq dtX6_sheet 2 rfl) kcX6_77 rfl ?_
    refine P.iret (dq dtX6_sheet 3 rfl) rfl rfl rfl ?_
    exact h1 (by omega)
