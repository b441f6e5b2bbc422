/-- write -/
theorem md_write {x : CM} {d N : Nat} {σ : PH} {Q : PQ} {S : CSt} (hG : CG S) (hM : MD σ S) (hd : 1 ≤ d) {a : Int} (ha : inR a) (h : ∀ σ' : PH, MD σ' (sWri S a) → Fr σ σ' LM → Q (some (vI (aWri S a))) σ') : Call x d 0 0 mX7_write [vR 84, vI a] N σ Q := by
  refine Call.of mcX7_write (Nat.le_of_ble_eq_true rfl) (fun y hy => ?_)
  subst hy
  obtain ⟨wf, sz, lt, a1, a2, a3, a4, a5, fi, be, rp, cl, dg, nu, pk, wm, h84, h85, h86, h87, h88, h89, h90, h91, h92, h93, h94, h95, hW, hL⟩ := id hM
  have hGm := hG.2.1.1
  have hp := hGm.1
  have hs := hGm.2.1
  have hL9 := mul_bd (k := S.now.1.1 - 1) (s := S.now.1.2.1) (by omega) (by omega) (by omega) (by omega)
  have bt := hG.1.1
  refine P.iload_n (dq dtX7_write 0 rfl) rfl ?_
  refine P.i2l (dq dtX7_write 1 rfl) (by omega) ?_
  refine P.lconst (z := 0) (dq dtX7_write 2 rfl) rfl ?_
  refine P.ldc2 (n := 255) (dq dtX7_write 3 rfl) kcX7_73 rfl ?_
  refine P.callS3 (M' := mX7_in) (d' := d - 1) mlX7_65 mcX7_in msX7_in (dq dtX7_write 4 rfl) (by omega) (Nat.le_of_ble_eq_true rfl) ?_
  refine ct_X7_in (by omega) (by omega) (by omega) (fun n_6 => ?_) (fun n_6 => ?_)
  · refine P.if_ne (t := 15) (dq dtX7_write 5 rfl) rfl (by omega) (fun _ => ?_) (fun h9 => absurd h9 (by decide))
    refine P.aload_n (dq dtX7_write 8 rfl) rfl ?_
    refine P.get flX7_76 (dq dtX7_write 9 rfl) (by repeat (first | assumption | exact up_s | rw [up_n (by first | assumption | (apply Ne.symm; assumption) | decide | omega)])) (by rfl) ?_
    refine P.sipush (dq dtX7_write 10 rfl) rfl ?_
    refine P.icmp_ne (t := 28) (dq dtX7_write 11 rfl) rfl (by omega) (by omega) (fun c_22 => ?_) (fun c_22 => ?_)
    · refine P.aload_n (dq dtX7_write 14 rfl) rfl ?_
      refine P.get flX7_24 (dq dtX7_write 15 rfl) (by repeat (first | assumption | exact up_s | rw [up_n (by first | assumption | (apply Ne.symm; assumption) | decide | omega)])) (by rfl) ?_
      refine P.aload_n (dq dtX7_write 16 rfl) rfl ?_
      refine P.get flX7_76 (dq dtX7_write 17 rfl) (by repeat (first | assumption | exact up_s | rw [up_n (by first | assumption | (apply Ne.symm; assumption) | decide | omega)])) (by rfl) ?_
      refine P.iload_n (dq dtX7_write 18 rfl) rfl ?_
      refine P.iast (dq dtX7_write 19 rfl) (by repeat (first | assumption | exact up_s | rw [up_n (by first | assumption | (apply Ne.symm; assumption) | decide | omega)])) (by omega) (by omega) (by omega) ?_
      refine P.aload_n (dq dtX7_write 20 rfl) rfl ?_
      refine P.dup (dq dtX7_write 21 rfl) rfl ?_
      refine P.get flX7_76 (dq dtX7_write 22 rfl) (by repeat (first | assumption | exact up_s | rw [up_n (by first | assumption | (apply Ne.symm; assumption) | decide | omega)])) (by rfl) ?_
      refine P.iconst (dq dtX7_write 23 rfl) ?_
      refine P.iadd (dq dtX7_write 24 rfl) ?_
      refine P.put flX7_76 rfl (dq dtX7_write 25 rfl) (by repeat (first | assumption | exact up_s | rw [up_n (by first | assumption | (apply Ne.symm; assumption) | decide | omega)])) (by exact Nat.le_of_ble_eq_true rfl) rfl rfl rfl rfl rfl ?_
      refine P.aload_n (dq dtX7_write 26 rfl) rfl ?_
      refine P.get flX7_76 (dq dtX7_write 27 rfl) (by repeat (first | assumption | exact up_s | rw [up_n (by first | assumption | (apply Ne.symm; assumption) | decide | omega)])) (by rfl) ?_
      refine P.iret (dq dtX7_write 28 rfl) rfl rfl rfl ?_
      simp only [aWri, sWri, if_neg (show ¬ ¬ (0 ≤ a ∧ a ≤ 255) from fun z => z n_6), if_neg c_22, if_pos (show (0 ≤ a ∧ a ≤ 255) ∧ S.tn ≠ 200 from ⟨n_6, c_22⟩)] at h
      exact h _ ⟨_, _, _, _, _, _, _, _, _, _, _, _, _, _, _, _, (by repeat (first | assumption | exact up_s | rw [up_n (by first | assumption | (apply Ne.symm; assumption) | decide | omega)])), (by repeat (first | assumption | exact up_s | rw [up_n (by first | assumption | (apply Ne.symm; assumption) | decide | omega)])), (by repeat (first | assumption | exact up_s | rw [up_n (by first | assumption | (apply Ne.symm; assumption) | decide | omega)])), (by repeat (first | assumption | exact up_s | rw [up_n (by first | assumption | (apply Ne.symm; assumption) | decide | omega)])), (by repeat (first | assumption | exact up_s | rw [up_n (by first | assumption | (apply Ne.symm; assumption) | decide | omega)])), (by repeat (first | assumption | exact up_s | rw [up_n (by first | assumption | (apply Ne.symm; assumption) | decide | omega)])), (by repeat (first | assumption | exact up_s | rw [up_n (by first | assumption | (apply Ne.symm; assumption) | decide | omega)])), (by repeat (first | assumption | exact up_s | rw [up_n (by first | assumption | (apply Ne.symm; assumption) | decide | omega)])), (by repeat (first | assumption | exact up_s | rw [up_n (by first | assumption | (apply Ne.symm; assumption) | decide | omega)])), (by repeat (first | assumption | exact up_s | rw [up_n (by first | assumption | (apply Ne.symm; assumption) | decide | omega)])), (by repeat (first | assumption | exact up_s | rw [up_n (by first | assumption | (apply Ne.symm; assumption) | decide | omega)])), (by repeat (first | assumption | exact up_s | rw [up_n (by first | assumption | (apply Ne.symm; assumption) | decide | omega)])), hW, hL⟩ (by repeat (first | assumption | exact Fr.rf | refine Fr.up ?_ (by simp)))
    · refine P.ldc (n := -100004) (dq dtX7_write 12 rfl) kcX7_79 rfl ?_
      refine P.iret (dq dtX7_write 13 rfl) rfl rfl rfl ?_
      simp only [aWri, sWri, if_neg (show ¬ ¬ (0 ≤ a ∧ a ≤ 255) from fun z => z n_6), if_pos c_22, if_neg (show ¬ ((0 ≤ a ∧ a ≤ 255) ∧ S.tn ≠ 200) from fun z => z.2 c_22)] at h
      exact h σ hM Fr.rf
  · refine P.if_ne (t := 15) (dq dtX7_write 5 rfl) rfl (by omega) (fun h9 => absurd h9 (by decide)) (fun _ => ?_)
    refine P.ldc (n := -100002) (dq dtX7_write 6 rfl) kcX7_75 rfl ?_
    refine P.iret (dq dtX7_write 7 rfl) rfl rfl rfl ?_
    simp only [aWri, sWri, if_pos n_6, if_neg (show ¬ ((0 ≤ a ∧ a ≤ 255) ∧ S.tn ≠ 200) from fun z => n_6 z.1)] at h
    exact h σ hM Fr.rf
/-- erase -/
theorem md_erase {x : CM} {d N : Nat} {σ : PH} {Q : PQ} {S : CSt} (hG : CG S) (hM : MD σ S) (h : ∀ σ' : PH, MD σ' (sTx S 0 S.tf) → Fr σ σ' LM → Q (some (vI S.tn)) σ') : Call x d 0 0 mX7_erase [vR 84] N σ Q := by
  refine Call.of mcX7_erase (Nat.le_of_ble_eq_true rfl) (fun y hy => ?_)
  subst hy
  obtain ⟨wf, sz, lt, a1, a2, a3, a4, a5, fi, be, rp, cl, dg, nu, pk, wm, h84, h85, h86, h87, h88, h89, h90, h91, h92, h93, h94, h95, hW, hL⟩ := id hM
  have hGm := hG.2.1.1
  have hp := hGm.1
  have hs := hGm.2.1
  have hL9 := mul_bd (k := S.now.1.1 - 1) (s := S.now.1.2.1) (by omega) (by omega) (by omega) (by omega)
  refine P.aload_n (dq dtX7_erase 0 rfl) rfl ?_
  refine P.get flX7_76 (dq dtX7_erase 1 rfl) (by repeat (first | assumption | exact up_s | rw [up_n (by first | assumption | (apply Ne.symm; assumption) | decide | omega)])) (by rfl) ?_
  refine P.istore_n (dq dtX7_erase 2 rfl) (by decide) rfl rfl ?_
  refine P.aload_n (dq dtX7_erase 3 rfl) rfl ?_
  refine P.iconst (dq dtX7_erase 4 rfl) ?_
  refine P.put flX7_76 rfl (dq dtX7_erase 5 rfl) (by repeat (first | assumption | exact up_s | rw [up_n (by first | assumption | (apply Ne.symm; assumption) | decide | omega)])) (by exact Nat.le_of_ble_eq_true rfl) rfl rfl rfl rfl rfl ?_
  refine P.iload_n (dq dtX7_erase 6 rfl) rfl ?_
  refine P.iret (dq dtX7_erase 7 rfl) rfl rfl rfl ?_
  exact h _ ⟨_, _, _, _, _, _, _, _, _, _, _, _, _, _, _, _, (by repeat (first | assumption | exact up_s | rw [up_n (by first | assumption | (apply Ne.symm; assumption) | decide | omega)])), (by repeat (first | assumption | exact up_s | rw [up_n (by first | assumption | (apply Ne.symm; assumption) | decide | omega)])), (by repeat (first | assumption | exact up_s | rw [up_n (by first | assumption | (apply Ne.symm; assumption) | decide | omega)])), (by repeat (first | assumption | exact up_s | rw [up_n (by first | assumption | (apply Ne.symm; assumption) | decide | omega)])), (by repeat (first | assumption | exact up_s | rw [up_n (by first | assumption | (apply Ne.symm; assumption) | decide | omega)])), (by repeat (first | assumption | exact up_s | rw [up_n (by first | assumption | (apply Ne.symm; assumption) | decide | omega)])), (by repeat (first | assumption | exact up_s | rw [up_n (by first | assumption | (apply Ne.symm; assumption) | decide | omega)])), (by repeat (first | assumption | exact up_s | rw [up_n (by first | assumption | (apply Ne.symm; assumption) | decide | omega)])), (by repeat (first | assumption | exact up_s | rw [up_n (by first | assumption | (apply Ne.symm; assumption) | decide | omega)])), (by repeat (first | assumption | exact up_s | rw [up_n (by first | assumption | (apply Ne.symm; assumption) | decide | omega)])), (by repeat (first | assumption | exact up_s | rw [up_n (by first | assumption | (apply Ne.symm; assumption) | decide | omega)])), (by repeat (first | assumption | exact up_s | rw [up_n (by first | assumption | (apply Ne.symm; assumption) | decide | omega)])), hW, hL⟩ (by repeat (first | assumption | exact Fr.rf | refine Fr.up ?_ (by simp)))
/-- runAt -/
theorem md_runAt {x : CM} {d N : Nat} {σ : PH} {Q : PQ} {S : CSt} (hG : CG S) (hM : MD σ S) (hd : 2 ≤ d) {a b c : Int} (ha : inR a) (hb : inR b) (hc : inR c) (h : Q (some (vI (aRat S a b c))) σ) : Call x d 0 0 mX7_runAt [vR 84, vI a, vI b, vI c] N σ Q := by
  refine Call.of mcX7_runAt (Nat.le_of_ble_eq_true rfl) (fun y hy => ?_)
  subst hy
  obtain ⟨wf, sz, lt, a1, a2, a3, a4, a5, fi, be, rp, cl, dg, nu, pk, wm, h84, h85, h86, h87, h88, h89, h90, h91, h92, h93, h94, h95, hW, hL⟩ := id hM
  have hGm := hG.2.1.1
  have hp := hGm.1
  have hs := hGm.2.1
  have hL9 := mul_bd (k := S.now.1.1 - 1) (s := S.now.1.2.1) (by omega) (by omega) (by omega) (by omega)
  unfold aRat at h
  refine P.aload_n (dq dtX7_runAt 0 rfl) rfl ?_
  refine P.iload_n (dq dtX7_runAt 1 rfl) rfl ?_
  refine P.callV1 (M' := mX7_isPoint) (d' := d - 1) mlX7_160 mcX7_isPoint mvX7_isPoint (dq dtX7_runAt 2 rfl) (by omega) (Nat.le_of_ble_eq_true rfl) (by repeat (first | assumption | exact up_s | rw [up_n (by first | assumption | (apply Ne.symm; assumption) | decide | omega)])) rfl ?_
  refine ct_X7_isPoint h84 (by omega) (by omega) (by assumption) (fun n_2 => ?_) (fun n_2 => ?_)
  · refine P.if_ne (t := 11) (dq dtX7_runAt 3 rfl) rfl (by omega) (fun _ => ?_) (fun h9 => absurd h9 (by decide))
    refine P.iload_n (dq dtX7_runAt 6 rfl) rfl ?_
    refine P.callS1 (M' := mX7_isWay) (d' := d - 1) mlX7_133 mcX7_isWay msX7_isWay (dq dtX7_runAt 7 rfl) (by omega) (Nat.le_of_ble_eq_true rfl) ?_
    refine ct_X7_isWay (by omega) hb (fun n_12 => ?_) (fun n_12 => ?_)
    · refine P.if_eq (t := 22) (dq dtX7_runAt 8 rfl) rfl (by omega) (fun h9 => absurd h9 (by decide)) (fun _ => ?_)
      refine P.iload_n (dq dtX7_runAt 9 rfl) rfl ?_
      refine P.if_ge (t := 25) (dq dtX7_runAt 10 rfl) rfl (by omega) (fun c_19 => ?_) (fun c_19 => ?_)
      · have bcc := (hGm.2.2 (a * 2 + b) (by omega) (by omega)).1
        have er0 : wf (0 + (2 * a + b)) = S.now.1.2.2.1 (a * 2 + b) := by
          rw [show 0 + (2 * a + b) = 0 + (a * 2 + b) by omega]
          exact hW.1.1.1 _ (by omega) (by omega)
        refine P.iconst (dq dtX7_runAt 13 rfl) ?_
        refine P.iload_n (dq dtX7_runAt 14 rfl) rfl ?_
        refine P.imul (dq dtX7_runAt 15 rfl) ?_
        refine P.iload_n (dq dtX7_runAt 16 rfl) rfl ?_
        refine P.iadd (dq dtX7_runAt 17 rfl) ?_
        refine P.istore (dq dtX7_runAt 18 rfl) (by decide) rfl rfl ?_
        refine P.iload_n (dq dtX7_runAt 19 rfl) rfl ?_
        refine P.aload_n (dq dtX7_runAt 20 rfl) rfl ?_
        refine P.get flX7_16 (dq dtX7_runAt 21 rfl) (by repeat (first | assumption | exact up_s | rw [up_n (by first | assumption | (apply Ne.symm; assumption) | decide | omega)])) (by rfl) ?_
        refine P.iconst (dq dtX7_runAt 22 rfl) ?_
        refine P.iload (dq dtX7_runAt 23 rfl) rfl ?_
        refine P.iadd (dq dtX7_runAt 24 rfl) ?_
        refine P.iald (dq dtX7_runAt 25 rfl) (by repeat (first | assumption | exact up_s | rw [up_n (by first | assumption | (apply Ne.symm; assumption) | decide | omega)])) (by omega) (by omega) (by omega) ?_
        rw [er0]
        refine P.icmp_ge (t := 63) (dq dtX7_runAt 26 rfl) rfl (by omega) (by omega) (fun c_42 => ?_) (fun c_42 => ?_)
        · refine P.ldc (n := -100000) (dq dtX7_runAt 38 rfl) kcX7_170 rfl ?_
          refine P.iret (dq dtX7_runAt 39 rfl) rfl rfl rfl ?_
          repeat (first | rw [if_pos (by omega)] at h | rw [if_neg (by omega)] at h)
          exact h
        · refine P.aload_n (dq dtX7_runAt 27 rfl) rfl ?_
          refine P.get flX7_16 (dq dtX7_runAt 28 rfl) (by repeat (first | assumption | exact up_s | rw [up_n (by first | assumption | (apply Ne.symm; assumption) | decide | omega)])) (by rfl) ?_
          refine P.bipush (dq dtX7_runAt 29 rfl) rfl ?_
          refine P.bipush (dq dtX7_runAt 30 rfl) rfl ?_
          refine P.iload (dq dtX7_runAt 31 rfl) rfl ?_
          refine P.imul (dq dtX7_runAt 32 rfl) ?_
          refine P.iadd (dq dtX7_runAt 33 rfl) ?_
          refine P.iload_n (dq dtX7_runAt 34 rfl) rfl ?_
          refine P.iadd (dq dtX7_runAt 35 rfl) ?_
          refine P.iald (dq dtX7_runAt 36 rfl) (by repeat (first | assumption | exact up_s | rw [up_n (by first | assumption | (apply Ne.symm; assumption) | decide | omega)])) (by omega) (by omega) (by omega) ?_
          rw [show wf (16 + 6 * (2 * a + b) + c) = S.now.1.2.2.2 ((a * 2 + b) * 6 + c) by rw [show 16 + 6 * (2 * a + b) + c = 0 + 16 + 6 * (a * 2 + b) + c by omega]; exact hW.1.1.2.1 _ _ (by omega) (by omega) (by omega) (by omega)]
          refine P.goto (t := 65) (dq dtX7_runAt 37 rfl) rfl ?_
          refine P.iret (dq dtX7_runAt 39 rfl) rfl rfl rfl ?_
          repeat (first | rw [if_pos (by omega)] at h | rw [if_neg (by omega)] at h)
          exact h
      · refine P.ldc (n := -100002) (dq dtX7_runAt 11 rfl) kcX7_75 rfl ?_
        refine P.iret (dq dtX7_runAt 12 rfl) rfl rfl rfl ?_
        repeat (first | rw [if_pos (by omega)] at h | rw [if_neg (by omega)] at h)
        exact h
    · refine P.if_eq (t := 22) (dq dtX7_runAt 8 rfl) rfl (by omega) (fun _ => ?_) (fun h9 => absurd h9 (by decide))
      refine P.ldc (n := -100002) (dq dtX7_runAt 11 rfl) kcX7_75 rfl ?_
      refine P.iret (dq dtX7_runAt 12 rfl) rfl rfl rfl ?_
      repeat (first | rw [if_pos (by omega)] at h | rw [if_neg (by omega)] at h)
      exact h
  · refine P.if_ne (t := 11) (dq dtX7_runAt 3 rfl) rfl (by omega) (fun h9 => absurd h9 (by decide)) (fun _ => ?_)
    refine P.ldc (n := -100001) (dq dtX7_runAt 4 rfl) kcX7_163 rfl ?_
    refine P.iret (dq dtX7_runAt 5 rfl) rfl rfl rfl ?_
    repeat (first | rw [if_pos (by omega)] at h | rw [if_neg (by omega)] at h)
    exact h
/-- countOf -/
theorem md_countOf {x : CM} {d N : Nat} {σ : PH} {Q : PQ} {S : CSt} (hG : CG S) (hM : MD σ S) {F : FgV} (hF : FgR S.now.1 F) (hd : 3 ≤ d) {a : Int} (ha : inR a) (h : ∀ σ' : PH, MD σ' S → Fr σ σ' LM → Q (some (vI (aCof S.now.1 F a))) σ') : Call x d 0 0 mX7_countOf [vR 84, vI a] N σ Q := by
  refine Call.of mcX7_countOf (Nat.le_of_ble_eq_true rfl) (fun y hy => ?_)
  subst hy
  obtain ⟨wf, sz, lt, a1, a2, a3, a4, a5, fi, be, rp, cl, dg, nu, pk, wm, h84, h85, h86, h87, h88, h89, h90, h91, h92, h93, h94, h95, hW, hL⟩ := id hM
  have hGm := hG.2.1.1
  have hp := hGm.1
  have hs := hGm.2.1
  have hL9 := mul_bd (k := S.now.1.1 - 1) (s := S.now.1.2.1) (by omega) (by omega) (by omega) (by omega)
  unfold aCof at h
  refine P.iload_n (dq dtX7_countOf 0 rfl) rfl ?_
  refine P.i2l (dq dtX7_countOf 1 rfl) (by omega) ?_
  refine P.lconst (z := 0) (dq dtX7_countOf 2 rfl) rfl ?_
  refine P.aload_n (dq dtX7_countOf 3 rfl) rfl ?_
  refine P.callV0 (M' := mX7_last) (d' := d - 1) mlX7_201 mcX7_last mvX7_last (dq dtX7_countOf 4 rfl) (by omega) (Nat.le_of_ble_eq_true rfl) (by repeat (first | assumption | exact up_s | rw [up_n (by first | assumption | (apply Ne.symm; assumption) | decide | omega)])) rfl ?_
  refine ct_X7_last h84 ?_
  refine P.i2l (dq dtX7_countOf 5 rfl) (by omega) ?_
  refine P.callS3 (M' := mX7_in) (d' := d - 1) mlX7_65 mcX7_in msX7_in (dq dtX7_countOf 6 rfl) (by omega) (Nat.le_of_ble_eq_true rfl) ?_
  refine ct_X7_in (by omega) (by omega) (by omega) (fun n_8 => ?_) (fun n_8 => ?_)
  · refine P.if_ne (t := 17) (dq dtX7_countOf 7 rfl) rfl (by omega) (fun _ => ?_) (fun h9 => absurd h9 (by decide))
    refine P.aload_n (dq dtX7_countOf 10 rfl) rfl ?_
    refine P.iconst (dq dtX7_countOf 11 rfl) ?_
    refine P.callV1 (M' := mX7_layTable) (d' := d - 1) mlX7_54 mcX7_layTable mvX7_layTable (dq dtX7_countOf 12 rfl) (by omega) (Nat.le_of_ble_eq_true rfl) (by repeat (first | assumption | exact up_s | rw [up_n (by first | assumption | (apply Ne.symm; assumption) | decide | omega)])) rfl ?_
    refine ct_X7_layTable (ro := 0) h84 h85 hGm hW.1.1 (by omega) rfl rfl (by omega) h89 h90 h91 h92 hF (fun σ2 co pf si to q84 q89 q90 q91 q92 hag fr2 => ?_)
    have q85 := (fr2 85 (by decide)).trans h85
    have q86 := (fr2 86 (by decide)).trans h86
    have q87 := (fr2 87 (by decide)).trans h87
    have q88 := (fr2 88 (by decide)).trans h88
    have q93 := (fr2 93 (by decide)).trans h93
    have q94 := (fr2 94 (by decide)).trans h94
    have q95 := (fr2 95 (by decide)).trans h95
    have hM2 : MD σ2 S := ⟨wf, sz, lt, co, pf, si, to, a5, fi, be, rp, cl, dg, nu, _, wm, q84, q85, q86, q87, q88, q89, q90, q91, q92, q93, q94, q95, hW, hL⟩
    have fm2 : Fr σ σ2 LM := fr2.wide (by simp)
    have tB := (hF.tb hGm).c (fun i g1 g2 => (hag i g1 g2).1)
    refine P.aload_n (dq dtX7_countOf 13 rfl) rfl ?_
    refine P.iload_n (dq dtX7_countOf 14 rfl) rfl ?_
    refine P.callV1 (M' := mX7_countAt) (d' := d - 1) mlX7_58 mcX7_countAt mvX7_countAt (dq dtX7_countOf 15 rfl) (by omega) (Nat.le_of_ble_eq_true rfl) (by repeat (first | assumption | exact up_s | rw [up_n (by first | assumption | (apply Ne.symm; assumption) | decide | omega)])) rfl ?_
    have ec := cntF_c hp.1 (show 0 < S.now.1.2.1 by omega) n_8 (fun i g1 g2 => (hag i g1 g2).1)
    refine ct_X7_countAt q84 q89 hp hs tB n_8 ?_
    refine P.iret (dq dtX7_countOf 16 rfl) rfl rfl rfl ?_
    rw [if_neg (fun z => z n_8)] at h
    rw [ec]
    exact h σ2 hM2 fm2
  · refine P.if_ne (t := 17) (dq dtX7_countOf 7 rfl) rfl (by omega) (fun h9 => absurd h9 (by decide)) (fun _ => ?_)
    refine P.ldc (n := -100002) (dq dtX7_countOf 8 rfl) kcX7_75 rfl ?_
    refine P.iret (dq dtX7_countOf 9 rfl) rfl rfl rfl ?_
    rw [if_pos n_8] at h
    exact h σ hM Fr.rf
/-- play -/
theorem md_play {x : CM} {d N : Nat} {σ : PH} {Q : PQ} {S : CSt} (hG : CG S) (hM : MD σ S) (hd : 2 ≤ d) {c : Int} (hc : inR c) (h : Q (some (vI (aPly S.now.1 c))) σ) : Call x d 0 0 mX7_play [vR 84, vI c] N σ Q := by
  refine Call.of mcX7_play (Nat.le_of_ble_eq_true rfl) (fun y hy => ?_)
  subst hy
  obtain ⟨wf, sz, lt, a1, a2, a3, a4, a5, fi, be, rp, cl, dg, nu, pk, wm, h84, h85, h86, h87, h88, h89, h90, h91, h92, h93, h94, h95, hW, hL⟩ := id hM
  have hGm := hG.2.1.1
  have hp := hGm.1
  have hs := hGm.2.1
  have hL9 := mul_bd (k := S.now.1.1 - 1) (s := S.now.1.2.1) (by omega) (by omega) (by omega) (by omega)
  unfold aPly at h
  have plB := plT_b (m := mm S.now.1) S.now.1.1.toNat (fun t g1 g2 => mm_b hGm g1 (by omega))
  have plB2 : -100000 ≤ plp S.now.1 ∧ plp S.now.1 ≤ 100000 := by unfold plp; omega
  refine P.iload_n (dq dtX7_play 0 rfl) rfl ?_
  refine P.i2l (dq dtX7_play 1 rfl) (by omega) ?_
  refine P.lconst (z := 0) (dq dtX7_play 2 rfl) rfl ?_
  refine P.lconst (z := 1) (dq dtX7_play 3 rfl) rfl ?_
  refine P.callS3 (M' := mX7_in) (d' := d - 1) mlX7_65 mcX7_in msX7_in (dq dtX7_play 4 rfl) (by omega) (Nat.le_of_ble_eq_true rfl) ?_
  refine ct_X7_in (by omega) (by omega) (by omega) (fun n_4 => ?_) (fun n_4 => ?_)
  · refine P.if_eq (t := 30) (dq dtX7_play 5 rfl) rfl (by omega) (fun h9 => absurd h9 (by decide)) (fun _ => ?_)
    refine P.aload_n (dq dtX7_play 6 rfl) rfl ?_
    refine P.aload_n (dq dtX7_play 7 rfl) rfl ?_
    refine P.iconst (dq dtX7_play 8 rfl) ?_
    refine P.callV1 (M' := mX7_sixtyPlays) (d' := d - 1) mlX7_182 mcX7_sixtyPlays mvX7_sixtyPlays (dq dtX7_play 9 rfl) (by omega) (Nat.le_of_ble_eq_true rfl) (by repeat (first | assumption | exact up_s | rw [up_n (by first | assumption | (apply Ne.symm; assumption) | decide | omega)])) rfl ?_
    refine ct_X7_sixtyPlays h84 h85 hGm hW.1.1 (by omega) rfl (by omega) ?_
    refine P.bipush (dq dtX7_play 10 rfl) rfl ?_
    refine P.aload_n (dq dtX7_play 11 rfl) rfl ?_
    refine P.get flX7_7 (dq dtX7_play 12 rfl) (by repeat (first | assumption | exact up_s | rw [up_n (by first | assumption | (apply Ne.symm; assumption) | decide | omega)])) (by rfl) ?_
    refine P.imul (dq dtX7_play 13 rfl) ?_
    refine P.iload_n (dq dtX7_play 14 rfl) rfl ?_
    refine P.callV3 (M' := mX7_part) (d' := d - 1) mlX7_190 mcX7_part mvX7_part (dq dtX7_play 15 rfl) (by omega) (Nat.le_of_ble_eq_true rfl) (by repeat (first | assumption | exact up_s | rw [up_n (by first | assumption | (apply Ne.symm; assumption) | decide | omega)])) rfl ?_
    refine ct_X7_part (by omega) (by omega) hc ?_
    refine P.goto (t := 32) (dq dtX7_play 16 rfl) rfl ?_
    refine P.iret (dq dtX7_play 18 rfl) rfl rfl rfl ?_
    first | (rw [if_pos (by omega)] at h; exact h) | (rw [if_neg (by omega)] at h; exact h)
  · refine P.if_eq (t := 30) (dq dtX7_play 5 rfl) rfl (by omega) (fun _ => ?_) (fun h9 => absurd h9 (by decide))
    refine P.ldc (n := -100002) (dq dtX7_play 17 rfl) kcX7_75 rfl ?_
    refine P.iret (dq dtX7_play 18 rfl) rfl rfl rfl ?_
    first | (rw [if_pos (by omega)] at h; exact h) | (rw [if_neg (by omega)] at h; exact h)
/-- point -/
theorem md_point {x : CM} {d N : Nat} {σ : PH} {Q : PQ} {S : CSt} (hG : CG S) (hM : MD σ S) {F : FgV} (hF : FgR S.now.1 F) (hd : 3 ≤ d) {a b c : Int} (ha : inR a) (hb : inR b) (hc : inR c) (h : ∀ σ' : PH, MD σ' S → Fr σ σ' LM → Q (some (vI (aPnt S.now.1 F a b c))) σ') : Call x d 0 0 mX7_point [vR 84, vI a, vI b, vI c] N σ Q := by
  refine Call.of mcX7_point (Nat.le_of_ble_eq_true rfl) (fun y hy => ?_)
  subst hy
  obtain ⟨wf, sz, lt, a1, a2, a3, a4, a5, fi, be, rp, cl, dg, nu, pk, wm, h84, h85, h86, h87, h88, h89, h90, h91, h92, h93, h94, h95, hW, hL⟩ := id hM
  have hGm := hG.2.1.1
  have hp := hGm.1
  have hs := hGm.2.1
  have hL9 := mul_bd (k := S.now.1.1 - 1) (s := S.now.1.2.1) (by omega) (by omega) (by omega) (by omega)
  unfold aPnt at h
  refine P.aload_n (dq dtX7_point_0 0 rfl) rfl ?_
  refine P.iload_n (dq dtX7_point_0 1 rfl) rfl ?_
  refine P.callV1 (M' := mX7_isPoint) (d' := d - 1) mlX7_160 mcX7_isPoint mvX7_isPoint (dq dtX7_point_0 2 rfl) (by omega) (Nat.le_of_ble_eq_true rfl) (by repeat (first | assumption | exact up_s | rw [up_n (by first | assumption | (apply Ne.symm; assumption) | decide | omega)])) rfl ?_
  refine ct_X7_isPoint h84 (by omega) (by omega) (by assumption) (fun n_2 => ?_) (fun n_2 => ?_)
  · refine P.if_ne (t := 11) (dq dtX7_point_0 3 rfl) rfl (by omega) (fun _ => ?_) (fun h9 => absurd h9 (by decide))
    refine P.iload_n (dq dtX7_point_0 6 rfl) rfl ?_
    refine P.i2l (dq dtX7_point_0 7 rfl) (by omega) ?_
    refine P.lconst (z := 0) (dq dtX7_point_0 8 rfl) rfl ?_
    refine P.ldc2 (n := 6) (dq dtX7_point_0 9 rfl) kcX7_188 rfl ?_
    refine P.callS3 (M' := mX7_in) (d' := d - 1) mlX7_65 mcX7_in msX7_in (dq dtX7_point_0 10 rfl) (by omega) (Nat.le_of_ble_eq_true rfl) ?_
    refine ct_X7_in (by omega) (by omega) (by omega) (fun n_17 => ?_) (fun n_17 => ?_)
    · refine P.if_eq (t := 33) (dq dtX7_point_0 11 rfl) rfl (by omega) (fun h9 => absurd h9 (by decide)) (fun _ => ?_)
      refine P.iload_n (dq dtX7_point_0 12 rfl) rfl ?_
      refine P.i2l (dq dtX7_point_0 13 rfl) (by omega) ?_
      refine P.lconst (z := 0) (dq dtX7_point_0 14 rfl) rfl ?_
      refine P.lconst (z := 1) (dq dtX7_point_0 15 rfl) rfl ?_
      refine P.callS3 (M' := mX7_in) (d' := d - 1) mlX7_65 mcX7_in msX7_in (dq dtX7_point_0 16 rfl) (by omega) (Nat.le_of_ble_eq_true rfl) ?_
      refine ct_X7_in (by omega) (by omega) (by omega) (fun n_27 => ?_) (fun n_27 => ?_)
      · refine P.if_ne (t := 36) (dq dtX7_point_0 17 rfl) rfl (by omega) (fun _ => ?_) (fun h9 => absurd h9 (by decide))
        refine P.aload_n (dq dtX7_point_0 20 rfl) rfl ?_
        refine P.iconst (dq dtX7_point_0 21 rfl) ?_
        refine P.callV1 (M' := mX7_layTable) (d' := d - 1) mlX7_54 mcX7_layTable mvX7_layTable (dq dtX7_point_0 22 rfl) (by omega) (Nat.le_of_ble_eq_true rfl) (by repeat (first | assumption | exact up_s | rw [up_n (by first | assumption | (apply Ne.symm; assumption) | decide | omega)])) rfl ?_
        refine ct_X7_layTable (ro := 0) h84 h85 hGm hW.1.1 (by omega) rfl rfl (by omega) h89 h90 h91 h92 hF (fun σ2 co pf si to q84 q89 q90 q91 q92 hag fr2 => ?_)
        have q85 := (fr2 85 (by decide)).trans h85
        have q86 := (fr2 86 (by decide)).trans h86
        have q87 := (fr2 87 (by decide)).trans h87
        have q88 := (fr2 88 (by decide)).trans h88
        have q93 := (fr2 93 (by decide)).trans h93
        have q94 := (fr2 94 (by decide)).trans h94
        have q95 := (fr2 95 (by decide)).trans h95
        have hM2 : MD σ2 S := ⟨wf, sz, lt, co, pf, si, to, a5, fi, be, rp, cl, dg, nu, _, wm, q84, q85, q86, q87, q88, q89, q90, q91, q92, q93, q94, q95, hW, hL⟩
        have fm2 : Fr σ σ2 LM := fr2.wide (by simp)
        have tB := (hF.tb hGm).c (fun i g1 g2 => (hag i g1 g2).1)
        have m0 := mm_b hGm (t := a * 2 + 0) (by omega) (by omega)
        have m1 := mm_b hGm (t := a * 2 + 1) (by omega) (by omega)
        have f0 := hF.1 (a * 2 + 0) (by omega) (by omega)
        have f1 := hF.1 (a * 2 + 1) (by omega) (by omega)
        have w0 := wnt_b hGm (k := a) (by omega) (by omega)
        have fw := hF.2.1 a (by omega) (by omega)
        obtain ⟨p1, p2, p3⟩ := hF.pb hGm a (by omega) (by omega)
        obtain ⟨g1, g2, g3, g4⟩ := hag a (by omega) (by omega)
        rw [g2] at g3 g4
        refine P.iload_n (dq dtX7_point_0 23 rfl) rfl ?_
        rcases (show b = 0 ∨ b = 1 ∨ b = 2 ∨ b = 3 ∨ b = 4 ∨ (b < 0 ∨ 4 < b) by omega) with e_42 | e_42 | e_42 | e_42 | e_42 | e_42
        · refine P.tswIn (off := 34) (t := 76) (dq dtX7_point_0 24 rfl) (by omega) (by omega) (by omega) (by rw [e_42]; rfl) rfl ?_
          have mb := mm_b hGm (t := a * 2 + b) (by omega) (by omega)
          have fb := hF.1 (a * 2 + b) (by omega) (by omega)
          refine P.aload_n (dq dtX7_point_0 25 rfl) rfl ?_
          refine P.aload_n (dq dtX7_point_0 26 rfl) rfl ?_
          refine P.iconst (dq dtX7_point_0 27 rfl) ?_
          refine P.iload_n (dq dtX7_point_0 28 rfl) rfl ?_
          refine P.iload_n (dq dtX7_point_0 29 rfl) rfl ?_
          refine P.callV3 (M' := mX7_mean) (d' := d - 1) mlX7_171 mcX7_mean mvX7_mean (dq dtX7_point_0 30 rfl) (by omega) (Nat.le_of_ble_eq_true rfl) (by repeat (first | assumption | exact up_s | rw [up_n (by first | assumption | (apply Ne.symm; assumption) | decide | omega)])) rfl ?_
          refine ct_X7_mean q84 q85 hGm hW.1.1 (by omega) n_2 (by omega) ?_
          refine P.bipush (dq dtX7_point_0 31 rfl) rfl ?_
          refine P.iload_n (dq dtX7_point_0 32 rfl) rfl ?_
          refine P.callV3 (M' := mX7_part) (d' := d - 1) mlX7_190 mcX7_part mvX7_part (dq dtX7_point_0 33 rfl) (by omega) (Nat.le_of_ble_eq_true rfl) (by repeat (first | assumption | exact up_s | rw [up_n (by first | assumption | (apply Ne.symm; assumption) | decide | omega)])) rfl ?_
          refine ct_X7_part (by omega) (by omega) hc ?_
          refine P.iret (dq dtX7_point_0 34 rfl) rfl rfl rfl ?_
          repeat (first | rw [if_pos (by omega)] at h | rw [if_neg (by omega)] at h)
          rw [fb] at h
          exact h σ2 hM2 fm2
        · refine P.tswIn (off := 34) (t := 76) (dq dtX7_point_0 24 rfl) (by omega) (by omega) (by omega) (by rw [e_42]; rfl) rfl ?_
          have mb := mm_b hGm (t := a * 2 + b) (by omega) (by omega)
          have fb := hF.1 (a * 2 + b) (by omega) (by omega)
          refine P.aload_n (dq dtX7_point_0 25 rfl) rfl ?_
          refine P.aload_n (dq dtX7_point_0 26 rfl) rfl ?_
          refine P.iconst (dq dtX7_point_0 27 rfl) ?_
          refine P.iload_n (dq dtX7_point_0 28 rfl) rfl ?_
          refine P.iload_n (dq dtX7_point_0 29 rfl) rfl ?_
          refine P.callV3 (M' := mX7_mean) (d' := d - 1) mlX7_171 mcX7_mean mvX7_mean (dq dtX7_point_0 30 rfl) (by omega) (Nat.le_of_ble_eq_true rfl) (by repeat (first | assumption | exact up_s | rw [up_n (by first | assumption | (apply Ne.symm; assumption) | decide | omega)])) rfl ?_
          refine ct_X7_mean q84 q85 hGm hW.1.1 (by omega) n_2 (by omega) ?_
          refine P.bipush (dq dtX7_point_0 31 rfl) rfl ?_
          refine P.iload_n (dq dtX7_point_0 32 rfl) rfl ?_
          refine P.callV3 (M' := mX7_part) (d' := d - 1) mlX7_190 mcX7_part mvX7_part (dq dtX7_point_0 33 rfl) (by omega) (Nat.le_of_ble_eq_true rfl) (by repeat (first | assumption | exact up_s | rw [up_n (by first | assumption | (apply Ne.symm; assumption) | decide | omega)])) rfl ?_
          refine ct_X7_part (by omega) (by omega) hc ?_
          refine P.iret (dq dtX7_point_0 34 rfl) rfl rfl rfl ?_
          repeat (first | rw [if_pos (by omega)] at h | rw [if_neg (by omega)] at h)
          rw [fb] at h
          exact h σ2 hM2 fm2
        · refine P.tswIn (off := 49) (t := 91) (dq dtX7_point_0 24 rfl) (by omega) (by omega) (by omega) (by rw [e_42]; rfl) rfl ?_
          refine P.aload_n (dq dtX7_point_0 35 rfl) rfl ?_
          refine P.aload_n (dq dtX7_point_0 36 rfl) rfl ?_
          refine P.iconst (dq dtX7_point_0 37 rfl) ?_
          refine P.iload_n (dq dtX7_point_0 38 rfl) rfl ?_
          refine P.iconst (dq dtX7_point_0 39 rfl) ?_
          refine P.callV3 (M' := mX7_mean) (d' := d - 1) mlX7_171 mcX7_mean mvX7_mean (dq dtX7_point_0 40 rfl) (by omega) (Nat.le_of_ble_eq_true rfl) (by repeat (first | assumption | exact up_s | rw [up_n (by first | assumption | (apply Ne.symm; assumption) | decide | omega)])) rfl ?_
          refine ct_X7_mean q84 q85 hGm hW.1.1 (by omega) n_2 (by omega) ?_
          refine P.aload_n (dq dtX7_point_0 41 rfl) rfl ?_
          refine P.iconst (dq dtX7_point_0 42 rfl) ?_
          refine P.iload_n (dq dtX7_point_0 43 rfl) rfl ?_
          refine P.iconst (dq dtX7_point_0 44 rfl) ?_
          refine P.callV3 (M' := mX7_mean) (d' := d - 1) mlX7_171 mcX7_mean mvX7_mean (dq dtX7_point_0 45 rfl) (by omega) (Nat.le_of_ble_eq_true rfl) (by repeat (first | assumption | exact up_s | rw [up_n (by first | assumption | (apply Ne.symm; assumption) | decide | omega)])) rfl ?_
          refine ct_X7_mean q84 q85 hGm hW.1.1 (by omega) n_2 (by omega) ?_
          refine P.iadd (dq dtX7_point_0 46 rfl) ?_
          refine P.bipush (dq dtX7_point_0 47 rfl) rfl ?_
          refine P.iload_n (dq dtX7_point_0 48 rfl) rfl ?_
          refine P.callV3 (M' := mX7_part) (d' := d - 1) mlX7_190 mcX7_part mvX7_part (dq dtX7_point_0 49 rfl) (by omega) (Nat.le_of_ble_eq_true rfl) (by repeat (first | assumption | exact up_s | rw [up_n (by first | assumption | (apply Ne.symm; assumption) | decide | omega)])) rfl ?_
          refine ct_X7_part (by omega) (by omega) hc ?_
          refine P.iret (dq dtX7_point_0 50 rfl) rfl rfl rfl ?_
          repeat (first | rw [if_pos (by omega)] at h | rw [if_neg (by omega)] at h)
          rw [f0, f1] at h
          exact h σ2 hM2 fm2
        · refine P.tswIn (off := 72) (t := 114) (dq dtX7_point_0 24 rfl) (by omega) (by omega) (by omega) (by rw [e_42]; rfl) rfl ?_
          refine P.aload_n (dq dtX7_point_0 51 rfl) rfl ?_
          refine P.aload_n (dq dtX7_point_0 52 rfl) rfl ?_
          refine P.iconst (dq dtX7_point_0 53 rfl) ?_
          refine P.iload_n (dq dtX7_point_0 54 rfl) rfl ?_
          refine P.callV2 (M' := mX7_wanted) (d' := d - 1) mlX7_175 mcX7_wanted mvX7_wanted (dq dtX7_point_0 55 rfl) (by omega) (Nat.le_of_ble_eq_true rfl) (by repeat (first | assumption | exact up_s | rw [up_n (by first | assumption | (apply Ne.symm; assumption) | decide | omega)])) rfl ?_
          refine ct_X7_wanted q84 q85 hGm hW.1.1 (by omega) rfl (by omega) n_2 ?_
          refine P.bipush (dq dtX7_point_0 56 rfl) rfl ?_
          refine P.iload_n (dq dtX7_point_0 57 rfl) rfl ?_
          refine P.callV3 (M' := mX7_part) (d' := d - 1) mlX7_190 mcX7_part mvX7_part (dq dtX7_point_0 58 rfl) (by omega) (Nat.le_of_ble_eq_true rfl) (by repeat (first | assumption | exact up_s | rw [up_n (by first | assumption | (apply Ne.symm; assumption) | decide | omega)])) rfl ?_
          refine ct_X7_part (by omega) (by omega) hc ?_
          refine P.iret (dq dtX7_point_0 59 rfl) rfl rfl rfl ?_
          repeat (first | rw [if_pos (by omega)] at h | rw [if_neg (by omega)] at h)
          rw [fw] at h
          exact h σ2 hM2 fm2
        · refine P.tswIn (off := 86) (t := 128) (dq dtX7_point_0 24 rfl) (by omega) (by omega) (by omega) (by rw [e_42]; rfl) rfl ?_
          refine P.aload_n (dq dtX7_point_0 60 rfl) rfl ?_
          refine P.aload_n (dq dtX7_point_0 61 rfl) rfl ?_
          refine P.get flX7_39 (dq dtX7_point_0 62 rfl) (by repeat (first | assumption | exact up_s | rw [up_n (by first | assumption | (apply Ne.symm; assumption) | decide | omega)])) (by rfl) ?_
          refine P.aload_n (dq dtX7_point_0 63 rfl) rfl ?_
          refine P.get flX7_33 (dq dtX7_point_1 0 rfl) (by repeat (first | assumption | exact up_s | rw [up_n (by first | assumption | (apply Ne.symm; assumption) | decide | omega)])) (by rfl) ?_
          refine P.iload_n (dq dtX7_point_1 1 rfl) rfl ?_
          refine P.iald (dq dtX7_point_1 2 rfl) (by repeat (first | assumption | exact up_s | rw [up_n (by first | assumption | (apply Ne.symm; assumption) | decide | omega)])) (by omega) (by omega) (by omega) ?_
          rw [g2]
          refine P.iald (dq dtX7_point_1 3 rfl) (by repeat (first | assumption | exact up_s | rw [up_n (by first | assumption | (apply Ne.symm; assumption) | decide | omega)])) (by omega) (by omega) (by omega) ?_
          rw [g4]
          refine P.bipush (dq dtX7_point_1 4 rfl) rfl ?_
          refine P.aload_n (dq dtX7_point_1 5 rfl) rfl ?_
          refine P.get flX7_36 (dq dtX7_point_1 6 rfl) (by repeat (first | assumption | exact up_s | rw [up_n (by first | assumption | (apply Ne.symm; assumption) | decide | omega)])) (by rfl) ?_
          refine P.aload_n (dq dtX7_point_1 7 rfl) rfl ?_
          refine P.get flX7_33 (dq dtX7_point_1 8 rfl) (by repeat (first | assumption | exact up_s | rw [up_n (by first | assumption | (apply Ne.symm; assumption) | decide | omega)])) (by rfl) ?_
          refine P.iload_n (dq dtX7_point_1 9 rfl) rfl ?_
          refine P.iald (dq dtX7_point_1 10 rfl) (by repeat (first | assumption | exact up_s | rw [up_n (by first | assumption | (apply Ne.symm; assumption) | decide | omega)])) (by omega) (by omega) (by omega) ?_
          rw [g2]
          refine P.iald (dq dtX7_point_1 11 rfl) (by repeat (first | assumption | exact up_s | rw [up_n (by first | assumption | (apply Ne.symm; assumption) | decide | omega)])) (by omega) (by omega) (by omega) ?_
          rw [g3]
          refine P.imul (dq dtX7_point_1 12 rfl) ?_
          refine P.iload_n (dq dtX7_point_1 13 rfl) rfl ?_
          refine P.callV3 (M' := mX7_part) (d' := d - 1) mlX7_190 mcX7_part mvX7_part (dq dtX7_point_1 14 rfl) (by omega) (Nat.le_of_ble_eq_true rfl) (by repeat (first | assumption | exact up_s | rw [up_n (by first | assumption | (apply Ne.symm; assumption) | decide | omega)])) rfl ?_
          refine ct_X7_part (by omega) (by omega) hc ?_
          refine P.iret (dq dtX7_point_1 15 rfl) rfl rfl rfl ?_
          repeat (first | rw [if_pos (by omega)] at h | rw [if_neg (by omega)] at h)
          exact h σ2 hM2 fm2
        · refine P.tswOut (t := 159) (dq dtX7_point_0 24 rfl) (by omega) e_42 rfl ?_
          refine P.aload_n (dq dtX7_point_1 16 rfl) rfl ?_
          refine P.aload_n (dq dtX7_point_1 17 rfl) rfl ?_
          refine P.iload_n (dq dtX7_point_1 18 rfl) rfl ?_
          refine P.iload_n (dq dtX7_point_1 19 rfl) rfl ?_
          refine P.iconst (dq dtX7_point_1 20 rfl) ?_
          refine P.isub (dq dtX7_point_1 21 rfl) ?_
          refine P.callV2 (M' := mX7_missed) (d' := d - 1) mlX7_193 mcX7_missed mvX7_missed (dq dtX7_point_1 22 rfl) (by omega) (Nat.le_of_ble_eq_true rfl) (by repeat (first | assumption | exact up_s | rw [up_n (by first | assumption | (apply Ne.symm; assumption) | decide | omega)])) rfl ?_
          have mb := mis_b hGm hF n_2 (show b - 5 = 0 ∨ b - 5 = 1 by omega)
          refine ct_X7_missed q84 q85 q89 hGm hF hW.1.1 rfl (fun i z1 z2 => (hag i z1 z2).1) (by omega) n_2 (by omega) ?_
          refine P.bipush (dq dtX7_point_1 23 rfl) rfl ?_
          refine P.iload_n (dq dtX7_point_1 24 rfl) rfl ?_
          refine P.callV3 (M' := mX7_part) (d' := d - 1) mlX7_190 mcX7_part mvX7_part (dq dtX7_point_1 25 rfl) (by omega) (Nat.le_of_ble_eq_true rfl) (by repeat (first | assumption | exact up_s | rw [up_n (by first | assumption | (apply Ne.symm; assumption) | decide | omega)])) rfl ?_
          refine ct_X7_part (by omega) (by omega) hc ?_
          refine P.iret (dq dtX7_point_1 26 rfl) rfl rfl rfl ?_
          repeat (first | rw [if_pos (by omega)] at h | rw [if_neg (by omega)] at h)
          exact h σ2 hM2 fm2
      · refine P.if_ne (t := 36) (dq dtX7_point_0 17 rfl) rfl (by omega) (fun h9 => absurd h9 (by decide)) (fun _ => ?_)
        refine P.ldc (n := -100002) (dq dtX7_point_0 18 rfl) kcX7_75 rfl ?_
        refine P.iret (dq dtX7_point_0 19 rfl) rfl rfl rfl ?_
        repeat (first | rw [if_pos (by omega)] at h | rw [if_neg (by omega)] at h)
        exact h σ hM Fr.rf
    · refine P.if_eq (t := 33) (dq dtX7_point_0 11 rfl) rfl (by omega) (fun _ => ?_) (fun h9 => absurd h9 (by decide))
      refine P.ldc (n := -100002) (dq dtX7_point_0 18 rfl) kcX7_75 rfl ?_
      refine P.iret (dq dtX7_point_0 19 rfl) rfl rfl rfl ?_
      repeat (first | rw [if_pos (by omega)] at h | rw [if_neg (by omega)] at h)
      exact h σ hM Fr.rf
  · refine P.if_ne (t := 11) (dq dtX7_point_0 3 rfl) rfl (by omega) (fun h9 => absurd h9 (by decide)) (fun _ => ?_)
    refine P.ldc (n := -100001) (dq dtX7_point_0 4 rfl) kcX7_163 rfl ?_
    refine P.iret (dq dtX7_point_0 5 rfl) rfl rfl rfl ?_
    repeat (first | rw [if_pos (by omega)] at h | rw [if_neg (by omega)] at h)
    exact h σ hM Fr.rf
/-- table -/
theorem md_table {x : CM} {d N : Nat} {σ : PH} {Q : PQ} {S : CSt} (hG : CG S) (hM : MD σ S) {F : FgV} (hF : FgR S.now.1 F) (hd : 3 ≤ d) {a b : Int} (ha : inR a) (hb : inR b) (h : ∀ σ' : PH, MD σ' S → Fr σ σ' LM → Q (some (vI (aTab S.now.1 F a b))) σ') : Call x d 0 0 mX7_table [vR 84, vI a, vI b] N σ Q := by
  refine Call.of mcX7_table (Nat.le_of_ble_eq_true rfl) (fun y hy => ?_)
  subst hy
  obtain ⟨wf, sz, lt, a1, a2, a3, a4, a5, fi, be, rp, cl, dg, nu, pk, wm, h84, h85, h86, h87, h88, h89, h90, h91, h92, h93, h94, h95, hW, hL⟩ := id hM
  have hGm := hG.2.1.1
  have hp := hGm.1
  have hs := hGm.2.1
  have hL9 := mul_bd (k := S.now.1.1 - 1) (s := S.now.1.2.1) (by omega) (by omega) (by omega) (by omega)
  unfold aTab at h
  refine P.aload_n (dq dtX7_table 0 rfl) rfl ?_
  refine P.iload_n (dq dtX7_table 1 rfl) rfl ?_
  refine P.callV1 (M' := mX7_isPoint) (d' := d - 1) mlX7_160 mcX7_isPoint mvX7_isPoint (dq dtX7_table 2 rfl) (by omega) (Nat.le_of_ble_eq_true rfl) (by repeat (first | assumption | exact up_s | rw [up_n (by first | assumption | (apply Ne.symm; assumption) | decide | omega)])) rfl ?_
  refine ct_X7_isPoint h84 (by omega) (by omega) (by assumption) (fun n_2 => ?_) (fun n_2 => ?_)
  · refine P.if_ne (t := 11) (dq dtX7_table 3 rfl) rfl (by omega) (fun _ => ?_) (fun h9 => absurd h9 (by decide))
    refine P.iload_n (dq dtX7_table 6 rfl) rfl ?_
    refine P.i2l (dq dtX7_table 7 rfl) (by omega) ?_
    refine P.lconst (z := 0) (dq dtX7_table 8 rfl) rfl ?_
    refine P.ldc2 (n := 2) (dq dtX7_table 9 rfl) kcX7_196 rfl ?_
    refine P.callS3 (M' := mX7_in) (d' := d - 1) mlX7_65 mcX7_in msX7_in (dq dtX7_table 10 rfl) (by omega) (Nat.le_of_ble_eq_true rfl) ?_
    refine ct_X7_in (by omega) (by omega) (by omega) (fun n_17 => ?_) (fun n_17 => ?_)
    · refine P.if_ne (t := 26) (dq dtX7_table 11 rfl) rfl (by omega) (fun _ => ?_) (fun h9 => absurd h9 (by decide))
      refine P.aload_n (dq dtX7_table 14 rfl) rfl ?_
      refine P.iconst (dq dtX7_table 15 rfl) ?_
      refine P.callV1 (M' := mX7_layTable) (d' := d - 1) mlX7_54 mcX7_layTable mvX7_layTable (dq dtX7_table 16 rfl) (by omega) (Nat.le_of_ble_eq_true rfl) (by repeat (first | assumption | exact up_s | rw [up_n (by first | assumption | (apply Ne.symm; assumption) | decide | omega)])) rfl ?_
      refine ct_X7_layTable (ro := 0) h84 h85 hGm hW.1.1 (by omega) rfl rfl (by omega) h89 h90 h91 h92 hF (fun σ2 co pf si to q84 q89 q90 q91 q92 hag fr2 => ?_)
      have q85 := (fr2 85 (by decide)).trans h85
      have q86 := (fr2 86 (by decide)).trans h86
      have q87 := (fr2 87 (by decide)).trans h87
      have q88 := (fr2 88 (by decide)).trans h88
      have q93 := (fr2 93 (by decide)).trans h93
      have q94 := (fr2 94 (by decide)).trans h94
      have q95 := (fr2 95 (by decide)).trans h95
      have hM2 : MD σ2 S := ⟨wf, sz, lt, co, pf, si, to, a5, fi, be, rp, cl, dg, nu, _, wm, q84, q85, q86, q87, q88, q89, q90, q91, q92, q93, q94, q95, hW, hL⟩
      have fm2 : Fr σ σ2 LM := fr2.wide (by simp)
      have tB := (hF.tb hGm).c (fun i g1 g2 => (hag i g1 g2).1)
      have m0 := mm_b hGm (t := a * 2 + 0) (by omega) (by omega)
      have m1 := mm_b hGm (t := a * 2 + 1) (by omega) (by omega)
      have f0 := hF.1 (a * 2 + 0) (by omega) (by omega)
      have f1 := hF.1 (a * 2 + 1) (by omega) (by omega)
      have w0 := wnt_b hGm (k := a) (by omega) (by omega)
      have fw := hF.2.1 a (by omega) (by omega)
      obtain ⟨p1, p2, p3⟩ := hF.pb hGm a (by omega) (by omega)
      obtain ⟨g1, g2, g3, g4⟩ := hag a (by omega) (by omega)
      rw [g2] at g3 g4
      refine P.iload_n (dq dtX7_table 17 rfl) rfl ?_
      refine P.if_ne (t := 44) (dq dtX7_table 18 rfl) rfl (by omega) (fun c_32 => ?_) (fun c_32 => ?_)
      · refine P.iload_n (dq dtX7_table 24 rfl) rfl ?_
        refine P.iconst (dq dtX7_table 25 rfl) ?_
        refine P.icmp_ne (t := 57) (dq dtX7_table 26 rfl) rfl (by omega) (by omega) (fun c_46 => ?_) (fun c_46 => ?_)
        · refine P.aload_n (dq dtX7_table 31 rfl) rfl ?_
          refine P.get flX7_36 (dq dtX7_table 32 rfl) (by repeat (first | assumption | exact up_s | rw [up_n (by first | assumption | (apply Ne.symm; assumption) | decide | omega)])) (by rfl) ?_
          refine P.aload_n (dq dtX7_table 33 rfl) rfl ?_
          refine P.get flX7_33 (dq dtX7_table 34 rfl) (by repeat (first | assumption | exact up_s | rw [up_n (by first | assumption | (apply Ne.symm; assumption) | decide | omega)])) (by rfl) ?_
          refine P.iload_n (dq dtX7_table 35 rfl) rfl ?_
          refine P.iald (dq dtX7_table 36 rfl) (by repeat (first | assumption | exact up_s | rw [up_n (by first | assumption | (apply Ne.symm; assumption) | decide | omega)])) (by omega) (by omega) (by omega) ?_
          rw [g2]
          refine P.iald (dq dtX7_table 37 rfl) (by repeat (first | assumption | exact up_s | rw [up_n (by first | assumption | (apply Ne.symm; assumption) | decide | omega)])) (by omega) (by omega) (by omega) ?_
          refine P.iret (dq dtX7_table 38 rfl) rfl rfl rfl ?_
          repeat (first | rw [if_pos (by omega)] at h | rw [if_neg (by omega)] at h)
          first | exact h σ2 hM2 fm2 | (rw [g3]; exact h σ2 hM2 fm2)
        · refine P.aload_n (dq dtX7_table 27 rfl) rfl ?_
          refine P.iload_n (dq dtX7_table 28 rfl) rfl ?_
          refine P.callV1 (M' := mX7_firstOf) (d' := d - 1) mlX7_198 mcX7_firstOf mvX7_firstOf (dq dtX7_table 29 rfl) (by omega) (Nat.le_of_ble_eq_true rfl) (by repeat (first | assumption | exact up_s | rw [up_n (by first | assumption | (apply Ne.symm; assumption) | decide | omega)])) rfl ?_
          refine ct_X7_firstOf q84 q90 hGm hF (fun i z1 z2 => (hag i z1 z2).2.1) n_2 ?_
          refine P.goto (t := 68) (dq dtX7_table 30 rfl) rfl ?_
          refine P.iret (dq dtX7_table 38 rfl) rfl rfl rfl ?_
          repeat (first | rw [if_pos (by omega)] at h | rw [if_neg (by omega)] at h)
          first | exact h σ2 hM2 fm2 | (rw [g3]; exact h σ2 hM2 fm2)
      · refine P.aload_n (dq dtX7_table 19 rfl) rfl ?_
        refine P.get flX7_30 (dq dtX7_table 20 rfl) (by repeat (first | assumption | exact up_s | rw [up_n (by first | assumption | (apply Ne.symm; assumption) | decide | omega)])) (by rfl) ?_
        refine P.iload_n (dq dtX7_table 21 rfl) rfl ?_
        refine P.iald (dq dtX7_table 22 rfl) (by repeat (first | assumption | exact up_s | rw [up_n (by first | assumption | (apply Ne.symm; assumption) | decide | omega)])) (by omega) (by omega) (by omega) ?_
        rw [g1]
        refine P.goto (t := 68) (dq dtX7_table 23 rfl) rfl ?_
        refine P.iret (dq dtX7_table 38 rfl) rfl rfl rfl ?_
        repeat (first | rw [if_pos (by omega)] at h | rw [if_neg (by omega)] at h)
        first | exact h σ2 hM2 fm2 | (rw [g3]; exact h σ2 hM2 fm2)
    · refine P.if_ne (t := 26) (dq dtX7_table 11 rfl) rfl (by omega) (fun h9 => absurd h9 (by decide)) (fun _ => ?_)
      refine P.ldc (n := -100002) (dq dtX7_table 12 rfl) kcX7_75 rfl ?_
      refine P.iret (dq dtX7_table 13 rfl) rfl rfl rfl ?_
      repeat (first | rw [if_pos (by omega)] at h | rw [if_neg (by omega)] at h)
      exact h σ hM Fr.rf
  · refine P.if_ne (t := 11) (dq dtX7_table 3 rfl) rfl (by omega) (fun h9 => absurd h9 (by decide)) (fun _ => ?_)
    refine P.ldc (n := -100001) (dq dtX7_table 4 rfl) kcX7_163 rfl ?_
    refine P.iret (dq dtX7_table 5 rfl) rfl rfl rfl ?_
    repeat (first | rw [if_pos (by omega)] at h | rw [if_neg (by omega)] at h)
    exact h σ hM Fr.rf
theorem lp_worstM {x : CX} {d N : Nat} {σ : PH} {Q : PQ} {S : CSt} {F : FgV} {u l fi be rp cl dg nu wm : Int} (h84 : σ 84 = mdO S.now.1.1 S.now.1.2.1 u l fi be rp cl dg nu (plc S.now.1.1 (plp S.now.1)) wm) {wf co : Int → Int} (h85 : σ 85 = pcI 0 1404 wf) (h89 : σ 89 = pcI 0 8 co) (hGm : GMs S.now.1) (hF : FgR S.now.1 F) (hR : Rw wf 0 S.now.1) (hag : ∀ i : Int, 0 ≤ i → i < S.now.1.1 → co i = F.2.2.2.2.2.2 i) (hd : 2 ≤ d) (h : Q (some (vI (aWst S.now.1 F))) σ) : ∀ (t n : Nat), (n : Int) ≤ 2 * S.now.1.1 → 2 * S.now.1.1 - n < t → (-1 ≤ (wst (fun k => absI (misF F.1 F.2.2.2.2.2.2 S.now.1.2.1 (plc S.now.1.1 (plp S.now.1)) (k / 2) (k % 2))) n).2 ∧ (wst (fun k => absI (misF F.1 F.2.2.2.2.2.2 S.now.1.2.1 (plc S.now.1.1 (plp S.now.1)) (k / 2) (k % 2))) n).2 ≤ 1000000) → P x d mX7_worst Q (0, 0) 11 [some (vR 84), some (vI (wst (fun k => absI (misF F.1 F.2.2.2.2.2.2 S.now.1.2.1 (plc S.now.1.1 (plp S.now.1)) (k / 2) (k % 2))) n).1), some (vI (wst (fun k => absI (misF F.1 F.2.2.2.2.2.2 S.now.1.2.1 (plc S.now.1.1 (plp S.now.1)) (k / 2) (k % 2))) n).2), some (vI n), none] [] N σ := by
  intro t
  induction t with
  | zero =>
    intro n hn ht hb
    exfalso; omega
  | succ t ih =>
    intro n hn ht hb
    have hp8 := hGm.1
    refine P.iload_n (dq dtX7_worst 9 rfl) rfl ?_
    refine P.iconst (dq dtX7_worst 10 rfl) ?_
    refine P.aload_n (dq dtX7_worst 11 rfl) rfl ?_
    refine P.get flX7_7 (dq dtX7_worst 12 rfl) (by repeat (first | assumption | exact up_s | rw [up_n (by first | assumption | (apply Ne.symm; assumption) | decide | omega)])) (by rfl) ?_
    refine P.imul (dq dtX7_worst 13 rfl) ?_
    refine P.icmp_ge (t := 79) (dq dtX7_worst 14 rfl) rfl (by omega) (by omega) (fun c_18 => ?_) (fun c_18 => ?_)
    · refine P.iload_n (dq dtX7_worst 47 rfl) rfl ?_
      refine P.iret (dq dtX7_worst 48 rfl) rfl rfl rfl ?_
      unfold aWst at h
      rw [show (2 * S.now.1.1).toNat = n by omega] at h
      exact h
    · have e2 : (n : Int).tdiv 2 = (n : Int) / 2 := Int.tdiv_eq_ediv_of_nonneg (by omega)
      have e3 : (n : Int).tmod 2 = (n : Int) % 2 := Int.tmod_eq_emod_of_nonneg (by omega)
      have mb := mis_b hGm hF (k := (n : Int) / 2) (w := (n : Int) % 2) (by omega) (by omega)
      have ew : wst (fun k => absI (misF F.1 F.2.2.2.2.2.2 S.now.1.2.1 (plc S.now.1.1 (plp S.now.1)) (k / 2) (k % 2))) (n + 1) = if (wst (fun k => absI (misF F.1 F.2.2.2.2.2.2 S.now.1.2.1 (plc S.now.1.1 (plp S.now.1)) (k / 2) (k % 2))) n).2 < absI (misF F.1 F.2.2.2.2.2.2 S.now.1.2.1 (plc S.now.1.1 (plp S.now.1)) ((n : Int) / 2) ((n : Int) % 2)) then ((n : Int), absI (misF F.1 F.2.2.2.2.2.2 S.now.1.2.1 (plc S.now.1.1 (plp S.now.1)) ((n : Int) / 2) ((n : Int) % 2))) else wst (fun k => absI (misF F.1 F.2.2.2.2.2.2 S.now.1.2.1 (plc S.now.1.1 (plp S.now.1)) (k / 2) (k % 2))) n := rfl
      generalize hz : misF F.1 F.2.2.2.2.2.2 S.now.1.2.1 (plc S.now.1.1 (plp S.now.1)) ((n : Int) / 2) ((n : Int) % 2) = z at *
      have ea : absI z = if 0 ≤ z then z else -z := rfl
      refine P.aload_n (dq dtX7_worst 15 rfl) rfl ?_
      refine P.iload_n (dq dtX7_worst 16 rfl) rfl ?_
      refine P.iconst (dq dtX7_worst 17 rfl) ?_
      refine P.idiv (dq dtX7_worst 18 rfl) (by omega) (by omega) (by omega) ?_
      refine P.iload_n (dq dtX7_worst 19 rfl) rfl ?_
      refine P.iconst (dq dtX7_worst 20 rfl) ?_
      refine P.irem (dq dtX7_worst 21 rfl) (by omega) (by omega) (by omega) ?_
      rw [e2, e3]
      refine P.callV2 (M' := mX7_missed) (d' := d - 1) mlX7_193 mcX7_missed mvX7_missed (dq dtX7_worst 22 rfl) (by omega) (Nat.le_of_ble_eq_true rfl) (by repeat (first | assumption | exact up_s | rw [up_n (by first | assumption | (apply Ne.symm; assumption) | decide | omega)])) rfl ?_
      refine ct_X7_missed h84 h85 h89 hGm hF hR rfl hag (by omega) (by omega) (by omega) ?_
      rw [hz]
      refine P.istore (dq dtX7_worst 23 rfl) (by decide) rfl rfl ?_
      refine P.iload (dq dtX7_worst 24 rfl) rfl ?_
      refine P.if_ge (t := 44) (dq dtX7_worst 25 rfl) rfl (by omega) (fun c_35 => ?_) (fun c_35 => ?_)
      · refine P.iload (dq dtX7_worst 29 rfl) rfl ?_
        refine P.istore (dq dtX7_worst 30 rfl) (by decide) rfl rfl ?_
        refine P.iload (dq dtX7_worst 31 rfl) rfl ?_
        refine P.iload_n (dq dtX7_worst 32 rfl) rfl ?_
        refine P.icmp_le (t := 58) (dq dtX7_worst 33 rfl) rfl (by omega) (by omega) (fun c_51 => ?_) (fun c_51 => ?_)
        · refine P.iload_n (dq dtX7_worst 36 rfl) rfl ?_
          refine P.istore_n (dq dtX7_worst 37 rfl) (by decide) rfl rfl ?_
          refine P.iload (dq dtX7_worst 38 rfl) rfl ?_
          refine P.iload_n (dq dtX7_worst 39 rfl) rfl ?_
          refine P.icmp_le (t := 71) (dq dtX7_worst 40 rfl) rfl (by omega) (by omega) (fun c_63 => ?_) (fun c_63 => ?_)
          · refine P.iload_n (dq dtX7_worst 43 rfl) rfl ?_
            refine P.istore_n (dq dtX7_worst 44 rfl) (by decide) rfl rfl ?_
            refine P.iinc (dq dtX7_worst 45 rfl) rfl (by decide) rfl rfl ?_
            refine P.goto (t := 11) (dq dtX7_worst 46 rfl) rfl ?_
            refine P.keep [0, 1, 2, 3] ?_
            have hh := ih (n + 1) (by omega) (by omega)
            rw [show ((n + 1 : Nat) : Int) = (n : Int) + 1 by omega, ew, ea] at hh
            first | rw [if_pos (show 0 ≤ z by omega)] at hh | rw [if_neg (show ¬ 0 ≤ z by omega)] at hh
            first
            | (rw [if_pos (by omega)] at hh; exact hh ⟨by dsimp only; omega, by dsimp only; omega⟩)
            | (rw [if_neg (by omega)] at hh; exact hh hb)
            | (exfalso; omega)
          · refine P.iload (dq dtX7_worst 41 rfl) rfl ?_
            refine P.goto (t := 72) (dq dtX7_worst 42 rfl) rfl ?_
            refine P.istore_n (dq dtX7_worst 44 rfl) (by decide) rfl rfl ?_
            refine P.iinc (dq dtX7_worst 45 rfl) rfl (by decide) rfl rfl ?_
            refine P.goto (t := 11) (dq dtX7_worst 46 rfl) rfl ?_
            refine P.keep [0, 1, 2, 3] ?_
            have hh := ih (n + 1) (by omega) (by omega)
            rw [show ((n + 1 : Nat) : Int) = (n : Int) + 1 by omega, ew, ea] at hh
            first | rw [if_pos (show 0 ≤ z by omega)] at hh | rw [if_neg (show ¬ 0 ≤ z by omega)] at hh
            first
            | (rw [if_pos (by omega)] at hh; exact hh ⟨by dsimp only; omega, by dsimp only; omega⟩)
            | (rw [if_neg (by omega)] at hh; exact hh hb)
            | (exfalso; omega)
        · refine P.iload_n (dq dtX7_worst 34 rfl) rfl ?_
          refine P.goto (t := 59) (dq dtX7_worst 35 rfl) rfl ?_
          refine P.istore_n (dq dtX7_worst 37 rfl) (by decide) rfl rfl ?_
          refine P.iload (dq dtX7_worst 38 rfl) rfl ?_
          refine P.iload_n (dq dtX7_worst 39 rfl) rfl ?_
          refine P.icmp_le (t := 71) (dq dtX7_worst 40 rfl) rfl (by omega) (by omega) (fun c_63 => ?_) (fun c_63 => ?_)
          · refine P.iload_n (dq dtX7_worst 43 rfl) rfl ?_
            refine P.istore_n (dq dtX7_worst 44 rfl) (by decide) rfl rfl ?_
            refine P.iinc (dq dtX7_worst 45 rfl) rfl (by decide) rfl rfl ?_
            refine P.goto (t := 11) (dq dtX7_worst 46 rfl) rfl ?_
            refine P.keep [0, 1, 2, 3] ?_
            have hh := ih (n + 1) (by omega) (by omega)
            rw [show ((n + 1 : Nat) : Int) = (n : Int) + 1 by omega, ew, ea] at hh
            first | rw [if_pos (show 0 ≤ z by omega)] at hh | rw [if_neg (show ¬ 0 ≤ z by omega)] at hh
            first
            | (rw [if_pos (by omega)] at hh; exact hh ⟨by dsimp only; omega, by dsimp only; omega⟩)
            | (rw [if_neg (by omega)] at hh; exact hh hb)
            | (exfalso; omega)
          · refine P.iload (dq dtX7_worst 41 rfl) rfl ?_
            refine P.goto (t := 72) (dq dtX7_worst 42 rfl) rfl ?_
            refine P.istore_n (dq dtX7_worst 44 rfl) (by decide) rfl rfl ?_
            refine P.iinc (dq dtX7_worst 45 rfl) rfl (by decide) rfl rfl ?_
            refine P.goto (t := 11) (dq dtX7_worst 46 rfl) rfl ?_
            refine P.keep [0, 1, 2, 3] ?_
            have hh := ih (n + 1) (by omega) (by omega)
            rw [show ((n + 1 : Nat) : Int) = (n : Int) + 1 by omega, ew, ea] at hh
            first | rw [if_pos (show 0 ≤ z by omega)] at hh | rw [if_neg (show ¬ 0 ≤ z by omega)] at hh
            first
            | (rw [if_pos (by omega)] at hh; exact hh ⟨by dsimp only; omega, by dsimp only; omega⟩)
            | (rw [if_neg (by omega)] at hh; exact hh hb)
            | (exfalso; omega)
      · refine P.iload (dq dtX7_worst 26 rfl) rfl ?_
        refine P.ineg (dq dtX7_worst 27 rfl) ?_
        refine P.goto (t := 46) (dq dtX7_worst 28 rfl) rfl ?_
        refine P.istore (dq dtX7_worst 30 rfl) (by decide) rfl rfl ?_
        refine P.iload (dq dtX7_worst 31 rfl) rfl ?_
        refine P.iload_n (dq dtX7_worst 32 rfl) rfl ?_
        refine P.icmp_le (t := 58) (dq dtX7_worst 33 rfl) rfl (by omega) (by omega) (fun c_51 => ?_) (fun c_51 => ?_)
        · refine P.iload_n (dq dtX7_worst 36 rfl) rfl ?_
          refine P.istore_n (dq dtX7_worst 37 rfl) (by decide) rfl rfl ?_
          refine P.iload (dq dtX7_worst 38 rfl) rfl ?_
          refine P.iload_n (dq dtX7_worst 39 rfl) rfl ?_
          refine P.icmp_le (t := 71) (dq dtX7_worst 40 rfl) rfl (by omega) (by omega) (fun c_63 => ?_) (fun c_63 => ?_)
          · refine P.iload_n (dq dtX7_worst 43 rfl) rfl ?_
            refine P.istore_n (dq dtX7_worst 44 rfl) (by decide) rfl rfl ?_
            refine P.iinc (dq dtX7_worst 45 rfl) rfl (by decide) rfl rfl ?_
            refine P.goto (t := 11) (dq dtX7_worst 46 rfl) rfl ?_
            refine P.keep [0, 1, 2, 3] ?_
            have hh := ih (n + 1) (by omega) (by omega)
            rw [show ((n + 1 : Nat) : Int) = (n : Int) + 1 by omega, ew, ea] at hh
            first | rw [if_pos (show 0 ≤ z by omega)] at hh | rw [if_neg (show ¬ 0 ≤ z by omega)] at hh
            first
            | (rw [if_pos (by omega)] at hh; exact hh ⟨by dsimp only; omega, by dsimp only; omega⟩)
            | (rw [if_neg (by omega)] at hh; exact hh hb)
            | (exfalso; omega)
          · refine P.iload (dq dtX7_worst 41 rfl) rfl ?_
            refine P.goto (t := 72) (dq dtX7_worst 42 rfl) rfl ?_
            refine P.istore_n (dq dtX7_worst 44 rfl) (by decide) rfl rfl ?_
            refine P.iinc (dq dtX7_worst 45 rfl) rfl (by decide) rfl rfl ?_
            refine P.goto (t := 11) (dq dtX7_worst 46 rfl) rfl ?_
            refine P.keep [0, 1, 2, 3] ?_
            have hh := ih (n + 1) (by omega) (by omega)
            rw [show ((n + 1 : Nat) : Int) = (n : Int) + 1 by omega, ew, ea] at hh
            first | rw [if_pos (show 0 ≤ z by omega)] at hh | rw [if_neg (show ¬ 0 ≤ z by omega)] at hh
            first
            | (rw [if_pos (by omega)] at hh; exact hh ⟨by dsimp only; omega, by dsimp only; omega⟩)
            | (rw [if_neg (by omega)] at hh; exact hh hb)
            | (exfalso; omega)
        · refine P.iload_n (dq dtX7_worst 34 rfl) rfl ?_
          refine P.goto (t := 59) (dq dtX7_worst 35 rfl) rfl ?_
          refine P.istore_n (dq dtX7_worst 37 rfl) (by decide) rfl rfl ?_
          refine P.iload (dq dtX7_worst 38 rfl) rfl ?_
          refine P.iload_n (dq dtX7_worst 39 rfl) rfl ?_
          refine P.icmp_le (t := 71) (dq dtX7_worst 40 rfl) rfl (by omega) (by omega) (fun c_63 => ?_) (fun c_63 => ?_)
          · refine P.iload_n (dq dtX7_worst 43 rfl) rfl ?_
            refine P.istore_n (dq dtX7_worst 44 rfl) (by decide) rfl rfl ?_
            refine P.iinc (dq dtX7_worst 45 rfl) rfl (by decide) rfl rfl ?_
            refine P.goto (t := 11) (dq dtX7_worst 46 rfl) rfl ?_
            refine P.keep [0, 1, 2, 3] ?_
            have hh := ih (n + 1) (by omega) (by omega)
            rw [show ((n + 1 : Nat) : Int) = (n : Int) + 1 by omega, ew, ea] at hh
            first | rw [if_pos (show 0 ≤ z by omega)] at hh | rw [if_neg (show ¬ 0 ≤ z by omega)] at hh
            first
            | (rw [if_pos (by omega)] at hh; exact hh ⟨by dsimp only; omega, by dsimp only; omega⟩)
            | (rw [if_neg (by omega)] at hh; exact hh hb)
            | (exfalso; omega)
          · refine P.iload (dq dtX7_worst 41 rfl) rfl ?_
            refine P.goto (t := 72) (dq dtX7_worst 42 rfl) rfl ?_
            refine P.istore_n (dq dtX7_worst 44 rfl) (by decide) rfl rfl ?_
            refine P.iinc (dq dtX7_worst 45 rfl) rfl (by decide) rfl rfl ?_
            refine P.goto (t := 11) (dq dtX7_worst 46 rfl) rfl ?_
            refine P.keep [0, 1, 2, 3] ?_
            have hh := ih (n + 1) (by omega) (by omega)
            rw [show ((n + 1 : Nat) : Int) = (n : Int) + 1 by omega, ew, ea] at hh
            first | rw [if_pos (show 0 ≤ z by omega)] at hh | rw [if_neg (show ¬ 0 ≤ z by omega)] at hh
            first
            | (rw [if_pos (by omega)] at hh; exact hh ⟨by dsimp only; omega, by dsimp only; omega⟩)
            | (rw [if_neg (by omega)] at hh; exact hh hb)
            | (exfalso; omega)
/-- worst -/
theorem md_worst {x : CM} {d N : Nat} {σ : PH} {Q : PQ} {S : CSt} (hG : CG S) (hM : MD σ S) {F : FgV} (hF : FgR S.now.1 F) (hd : 3 ≤ d) (h : ∀ σ' : PH, MD σ' S → Fr σ σ' LM → Q (some (vI (aWst S.now.1 F))) σ') : Call x d 0 0 mX7_worst [vR 84] N σ Q := by
  refine Call.of mcX7_worst (Nat.le_of_ble_eq_true rfl) (fun y hy => ?_)
  subst hy
  obtain ⟨wf, sz, lt, a1, a2, a3, a4, a5, fi, be, rp, cl, dg, nu, pk, wm, h84, h85, h86, h87, h88, h89, h90, h91, h92, h93, h94, h95, hW, hL⟩ := id hM
  have hGm := hG.2.1.1
  have hp := hGm.1
  have hs := hGm.2.1
  have hL9 := mul_bd (k := S.now.1.1 - 1) (s := S.now.1.2.1) (by omega) (by omega) (by omega) (by omega)
  refine P.aload_n (dq dtX7_worst 0 rfl) rfl ?_
  refine P.iconst (dq dtX7_worst 1 rfl) ?_
  refine P.callV1 (M' := mX7_layTable) (d' := d - 1) mlX7_54 mcX7_layTable mvX7_layTable (dq dtX7_worst 2 rfl) (by omega) (Nat.le_of_ble_eq_true rfl) (by repeat (first | assumption | exact up_s | rw [up_n (by first | assumption | (apply Ne.symm; assumption) | decide | omega)])) rfl ?_
  refine ct_X7_layTable (ro := 0) h84 h85 hGm hW.1.1 (by omega) rfl rfl (by omega) h89 h90 h91 h92 hF (fun σ2 co pf si to q84 q89 q90 q91 q92 hag fr2 => ?_)
  have q85 := (fr2 85 (by decide)).trans h85
  have q86 := (fr2 86 (by decide)).trans h86
  have q87 := (fr2 87 (by decide)).trans h87
  have q88 := (fr2 88 (by decide)).trans h88
  have q93 := (fr2 93 (by decide)).trans h93
  have q94 := (fr2 94 (by decide)).trans h94
  have q95 := (fr2 95 (by decide)).trans h95
  have hM2 : MD σ2 S := ⟨wf, sz, lt, co, pf, si, to, a5, fi, be, rp, cl, dg, nu, _, wm, q84, q85, q86, q87, q88, q89, q90, q91, q92, q93, q94, q95, hW, hL⟩
  have fm2 : Fr σ σ2 LM := fr2.wide (by simp)
  have tB := (hF.tb hGm).c (fun i g1 g2 => (hag i g1 g2).1)
  refine P.iconst (dq dtX7_worst 3 rfl) ?_
  refine P.istore_n (dq dtX7_worst 4 rfl) (by decide) rfl rfl ?_
  refine P.iconst (dq dtX7_worst 5 rfl) ?_
  refine P.istore_n (dq dtX7_worst 6 rfl) (by decide) rfl rfl ?_
  refine P.iconst (dq dtX7_worst 7 rfl) ?_
  refine P.istore_n (dq dtX7_worst 8 rfl) (by decide) rfl rfl ?_
  refine P.keep [0, 1, 2, 3] ?_
  exact lp_worstM q84 q85 q89 hGm hF hW.1.1 (fun i g1 g2 => (hag i g1 g2).1) (by omega) (h σ2 hM2 fm2) 17 0 (by omega) (by omega) (by show (-1 : Int) ≤ -1 ∧ (-1 : Int) ≤ 1000000; omega)
/-- told -/
theorem md_told {x : CM} {d N : Nat} {σ : PH} {Q : PQ} {S : CSt} (hG : CG S) (hM : MD σ S) {F : FgV} (hF : FgR S.now.1 F) (hd : 7 ≤ d) {b : Int} (hb : inR b) (h : ∀ σ' : PH, MD σ' S → Fr σ σ' LM → Q (some (vI (aTld S F b))) σ') : Call x d 0 0 mX7_told [vR 84, vI b] N σ Q := by
  refine Call.of mcX7_told (Nat.le_of_ble_eq_true rfl) (fun y hy => ?_)
  subst hy
  obtain ⟨wf, sz, lt, a1, a2, a3, a4, a5, fi, be, rp, cl, dg, nu, pk, wm, h84, h85, h86, h87, h88, h89, h90, h91, h92, h93, h94, h95, hW, hL⟩ := id hM
  have hGm := hG.2.1.1
  have hp := hGm.1
  have hs := hGm.2.1
  have hL9 := mul_bd (k := S.now.1.1 - 1) (s := S.now.1.2.1) (by omega) (by omega) (by omega) (by omega)
  unfold aTld at h
  obtain ⟨r1, r2, r3, r4, r5⟩ := hW.1.2.1
  rw [Int.zero_add] at r1 r2 r3 r4 r5
  refine P.iload_n (dq dtX7_told 0 rfl) rfl ?_
  rcases (show b = 0 ∨ b = 1 ∨ b = 2 ∨ b = 3 ∨ b = 4 ∨ b = 5 ∨ b = 6 ∨ b = 7 ∨ b = 8 ∨ b = 9 ∨ b = 10 ∨ b = 11 ∨ b = 12 ∨ (b < 0 ∨ 12 < b) by omega) with e_1 | e_1 | e_1 | e_1 | e_1 | e_1 | e_1 | e_1 | e_1 | e_1 | e_1 | e_1 | e_1 | e_1
  · refine P.tswIn (off := 67) (t := 68) (dq dtX7_told 1 rfl) (by omega) (by omega) (by omega) (by rw [e_1]; rfl) rfl ?_
    refine P.aload_n (dq dtX7_told 2 rfl) rfl ?_
    refine P.get flX7_7 (dq dtX7_told 3 rfl) (by repeat (first | assumption | exact up_s | rw [up_n (by first | assumption | (apply Ne.symm; assumption) | decide | omega)])) (by rfl) ?_
    refine P.iret (dq dtX7_told 4 rfl) rfl rfl rfl ?_
    repeat (first | rw [if_pos (by assumption)] at h | rw [if_neg (by omega)] at h)
    exact h σ hM Fr.rf
  · refine P.tswIn (off := 72) (t := 73) (dq dtX7_told 1 rfl) (by omega) (by omega) (by omega) (by rw [e_1]; rfl) rfl ?_
    refine P.aload_n (dq dtX7_told 5 rfl) rfl ?_
    refine P.get flX7_13 (dq dtX7_told 6 rfl) (by repeat (first | assumption | exact up_s | rw [up_n (by first | assumption | (apply Ne.symm; assumption) | decide | omega)])) (by rfl) ?_
    refine P.iret (dq dtX7_told 7 rfl) rfl rfl rfl ?_
    repeat (first | rw [if_pos (by assumption)] at h | rw [if_neg (by omega)] at h)
    exact h σ hM Fr.rf
  · refine P.tswIn (off := 77) (t := 78) (dq dtX7_told 1 rfl) (by omega) (by omega) (by omega) (by rw [e_1]; rfl) rfl ?_
    refine P.aload_n (dq dtX7_told 8 rfl) rfl ?_
    refine P.callV0 (M' := mX7_playNow) (d' := d - 1) mlX7_220 mcX7_playNow mvX7_playNow (dq dtX7_told 9 rfl) (by omega) (Nat.le_of_ble_eq_true rfl) (by repeat (first | assumption | exact up_s | rw [up_n (by first | assumption | (apply Ne.symm; assumption) | decide | omega)])) rfl ?_
    refine ct_X7_playNow h84 h85 hGm hW.1.1 rfl rfl (by omega) h89 h90 h91 h92 hF (fun σ2 b1 b2 b3 b4 q84 q89 q90 q91 q92 fr2 => ?_)
    have hM2 : MD σ2 S := ⟨wf, sz, lt, b1, b2, b3, b4, a5, fi, be, rp, cl, dg, nu, _, wm, q84, (fr2 85 (by decide)).trans h85, (fr2 86 (by decide)).trans h86, (fr2 87 (by decide)).trans h87, (fr2 88 (by decide)).trans h88, q89, q90, q91, q92, (fr2 93 (by decide)).trans h93, (fr2 94 (by decide)).trans h94, (fr2 95 (by decide)).trans h95, hW, hL⟩
    have fm2 : Fr σ σ2 LM := fr2.wide (by simp)
    refine P.iret (dq dtX7_told 10 rfl) rfl rfl rfl ?_
    repeat (first | rw [if_pos (by assumption)] at h | rw [if_neg (by omega)] at h)
    exact h σ2 hM2 fm2
  · refine P.tswIn (off := 82) (t := 83) (dq dtX7_told 1 rfl) (by omega) (by omega) (by omega) (by rw [e_1]; rfl) rfl ?_
    refine P.aload_n (dq dtX7_told 11 rfl) rfl ?_
    refine P.get flX7_16 (dq dtX7_told 12 rfl) (by repeat (first | assumption | exact up_s | rw [up_n (by first | assumption | (apply Ne.symm; assumption) | decide | omega)])) (by rfl) ?_
    refine P.bipush (dq dtX7_told 13 rfl) rfl ?_
    refine P.iald (dq dtX7_told 14 rfl) (by repeat (first | assumption | exact up_s | rw [up_n (by first | assumption | (apply Ne.symm; assumption) | decide | omega)])) (by omega) (by omega) (by omega) ?_
    rw [r1]
    refine P.iret (dq dtX7_told 15 rfl) rfl rfl rfl ?_
    repeat (first | rw [if_pos (by assumption)] at h | rw [if_neg (by omega)] at h)
    exact h σ hM Fr.rf
  · refine P.tswIn (off := 90) (t := 91) (dq dtX7_told 1 rfl) (by omega) (by omega) (by omega) (by rw [e_1]; rfl) rfl ?_
    refine P.aload_n (dq dtX7_told 16 rfl) rfl ?_
    refine P.get flX7_16 (dq dtX7_told 17 rfl) (by repeat (first | assumption | exact up_s | rw [up_n (by first | assumption | (apply Ne.symm; assumption) | decide | omega)])) (by rfl) ?_
    refine P.bipush (dq dtX7_told 18 rfl) rfl ?_
    refine P.iald (dq dtX7_told 19 rfl) (by repeat (first | assumption | exact up_s | rw [up_n (by first | assumption | (apply Ne.symm; assumption) | decide | omega)])) (by omega) (by omega) (by omega) ?_
    rw [r2]
    refine P.iret (dq dtX7_told 20 rfl) rfl rfl rfl ?_
    repeat (first | rw [if_pos (by assumption)] at h | rw [if_neg (by omega)] at h)
    exact h σ hM Fr.rf
  · refine P.tswIn (off := 98) (t := 99) (dq dtX7_told 1 rfl) (by omega) (by omega) (by omega) (by rw [e_1]; rfl) rfl ?_
    refine P.aload_n (dq dtX7_told 21 rfl) rfl ?_
    refine P.get flX7_16 (dq dtX7_told 22 rfl) (by repeat (first | assumption | exact up_s | rw [up_n (by first | assumption | (apply Ne.symm; assumption) | decide | omega)])) (by rfl) ?_
    refine P.bipush (dq dtX7_told 23 rfl) rfl ?_
    refine P.iald (dq dtX7_told 24 rfl) (by repeat (first | assumption | exact up_s | rw [up_n (by first | assumption | (apply Ne.symm; assumption) | decide | omega)])) (by omega) (by omega) (by omega) ?_
    rw [r3]
    refine P.iret (dq dtX7_told 25 rfl) rfl rfl rfl ?_
    repeat (first | rw [if_pos (by assumption)] at h | rw [if_neg (by omega)] at h)
    exact h σ hM Fr.rf
  · refine P.tswIn (off := 106) (t := 107) (dq dtX7_told 1 rfl) (by omega) (by omega) (by omega) (by rw [e_1]; rfl) rfl ?_
    refine P.aload_n (dq dtX7_told 26 rfl) rfl ?_
    refine P.get flX7_16 (dq dtX7_told 27 rfl) (by repeat (first | assumption | exact up_s | rw [up_n (by first | assumption | (apply Ne.symm; assumption) | decide | omega)])) (by rfl) ?_
    refine P.bipush (dq dtX7_told 28 rfl) rfl ?_
    refine P.iald (dq dtX7_told 29 rfl) (by repeat (first | assumption | exact up_s | rw [up_n (by first | assumption | (apply Ne.symm; assumption) | decide | omega)])) (by omega) (by omega) (by omega) ?_
    rw [r4]
    refine P.iret (dq dtX7_told 30 rfl) rfl rfl rfl ?_
    repeat (first | rw [if_pos (by assumption)] at h | rw [if_neg (by omega)] at h)
    exact h σ hM Fr.rf
  · refine P.tswIn (off := 114) (t := 115) (dq dtX7_told 1 rfl) (by omega) (by omega) (by omega) (by rw [e_1]; rfl) rfl ?_
    refine P.aload_n (dq dtX7_told 31 rfl) rfl ?_
    refine P.get flX7_16 (dq dtX7_told 32 rfl) (by repeat (first | assumption | exact up_s | rw [up_n (by first | assumption | (apply Ne.symm; assumption) | decide | omega)])) (by rfl) ?_
    refine P.bipush (dq dtX7_told 33 rfl) rfl ?_
    refine P.iald (dq dtX7_told 34 rfl) (by repeat (first | assumption | exact up_s | rw [up_n (by first | assumption | (apply Ne.symm; assumption) | decide | omega)])) (by omega) (by omega) (by omega) ?_
    rw [r5]
    refine P.iret (dq dtX7_told 35 rfl) rfl rfl rfl ?_
    repeat (first | rw [if_pos (by assumption)] at h | rw [if_neg (by omega)] at h)
    exact h σ hM Fr.rf
  · refine P.tswIn (off := 122) (t := 123) (dq dtX7_told 1 rfl) (by omega) (by omega) (by omega) (by rw [e_1]; rfl) rfl ?_
    refine P.aload_n (dq dtX7_told 36 rfl) rfl ?_
    refine P.callV0 (M' := mX7_runs) (d' := d - 1) mlX7_223 mcX7_runs mvX7_runs (dq dtX7_told 37 rfl) (by omega) (Nat.le_of_ble_eq_true rfl) (by repeat (first | assumption | exact up_s | rw [up_n (by first | assumption | (apply Ne.symm; assumption) | decide | omega)])) rfl ?_
    refine ct_X7_runs h84 h85 hGm hW.1.1 rfl ?_
    refine P.iret (dq dtX7_told 38 rfl) rfl rfl rfl ?_
    repeat (first | rw [if_pos (by assumption)] at h | rw [if_neg (by omega)] at h)
    exact h σ hM Fr.rf
  · refine P.tswIn (off := 127) (t := 128) (dq dtX7_told 1 rfl) (by omega) (by omega) (by omega) (by rw [e_1]; rfl) rfl ?_
    refine P.aload_n (dq dtX7_told 39 rfl) rfl ?_
    refine P.callV0 (M' := mX7_sheetLong) (d' := d - 1) mlX7_226 mcX7_sheetLong mvX7_sheetLong (dq dtX7_told 40 rfl) (by omega) (Nat.le_of_ble_eq_true rfl) (by repeat (first | assumption | exact up_s | rw [up_n (by first | assumption | (apply Ne.symm; assumption) | decide | omega)])) rfl ?_
    refine ct_X7_sheetLong h84 h85 hGm hW.1.1 rfl rfl (by omega) h89 h90 h91 h92 hF h93 (fun σ2 b1 b2 b3 b4 f' q84 q89 q90 q91 q92 q93 hRp fr2 => ?_)
    have q85 := (fr2 85 (by decide)).trans h85
    have q86 := (fr2 86 (by decide)).trans h86
    have q87 := (fr2 87 (by decide)).trans h87
    have q88 := (fr2 88 (by decide)).trans h88
    have q94 := (fr2 94 (by decide)).trans h94
    have q95 := (fr2 95 (by decide)).trans h95
    have hM2 : MD σ2 S := ⟨wf, sz, lt, b1, b2, b3, b4, f', fi, be, rp, cl, dg, nu, _, _, q84, q85, q86, q87, q88, q89, q90, q91, q92, q93, q94, q95, hW, hL⟩
    have fm2 : Fr σ σ2 LM := fr2.wide (by simp)
    refine P.iret (dq dtX7_told 41 rfl) rfl rfl rfl ?_
    repeat (first | rw [if_pos (by assumption)] at h | rw [if_neg (by omega)] at h)
    exact h σ2 hM2 fm2
  · refine P.tswIn (off := 132) (t := 133) (dq dtX7_told 1 rfl) (by omega) (by omega) (by omega) (by rw [e_1]; rfl) rfl ?_
    refine P.aload_n (dq dtX7_told 42 rfl) rfl ?_
    refine P.callV0 (M' := mX7_lettersOfAll) (d' := d - 1) mlX7_229 mcX7_lettersOfAll mvX7_lettersOfAll (dq dtX7_told 43 rfl) (by omega) (Nat.le_of_ble_eq_true rfl) (by repeat (first | assumption | exact up_s | rw [up_n (by first | assumption | (apply Ne.symm; assumption) | decide | omega)])) rfl ?_
    refine ct_X7_letters h84 hG h94 hL ?_
    refine P.iret (dq dtX7_told 44 rfl) rfl rfl rfl ?_
    repeat (first | rw [if_pos (by assumption)] at h | rw [if_neg (by omega)] at h)
    exact h σ hM Fr.rf
  · refine P.tswIn (off := 137) (t := 138) (dq dtX7_told 1 rfl) (by omega) (by omega) (by omega) (by rw [e_1]; rfl) rfl ?_
    refine P.aload_n (dq dtX7_told 45 rfl) rfl ?_
    refine P.get flX7_62 (dq dtX7_told 46 rfl) (by repeat (first | assumption | exact up_s | rw [up_n (by first | assumption | (apply Ne.symm; assumption) | decide | omega)])) (by rfl) ?_
    refine P.iret (dq dtX7_told 47 rfl) rfl rfl rfl ?_
    repeat (first | rw [if_pos (by assumption)] at h | rw [if_neg (by omega)] at h)
    exact h σ hM Fr.rf
  · refine P.tswIn (off := 142) (t := 143) (dq dtX7_told 1 rfl) (by omega) (by omega) (by omega) (by rw [e_1]; rfl) rfl ?_
    refine P.aload_n (dq dtX7_told 48 rfl) rfl ?_
    refine P.get flX7_76 (dq dtX7_told 49 rfl) (by repeat (first | assumption | exact up_s | rw [up_n (by first | assumption | (apply Ne.symm; assumption) | decide | omega)])) (by rfl) ?_
    refine P.iret (dq dtX7_told 50 rfl) rfl rfl rfl ?_
    repeat (first | rw [if_pos (by assumption)] at h | rw [if_neg (by omega)] at h)
    exact h σ hM Fr.rf
  · refine P.tswOut (t := 148) (dq dtX7_told 1 rfl) (by omega) e_1 rfl ?_
    refine P.ldc (n := -100002) (dq dtX7_told 51 rfl) kcX7_75 rfl ?_
    refine P.iret (dq dtX7_told 52 rfl) rfl rfl rfl ?_
    repeat (first | rw [if_pos (by assumption)] at h | rw [if_neg (by omega)] at h)
    exact h σ hM Fr.rf
/-- sheet -/
theorem md_sheet {x : CM} {d N : Nat} {σ : PH} {Q : PQ} {S : CSt} (hG : CG S) (hM : MD σ S) {F : FgV} (hF : FgR S.now.1 F) (hd : 6 ≤ d) {a : Int} (ha : inR a) (h : ∀ σ' : PH, MD σ' S → Fr σ σ' LM → Q (some (vI (aSht S.now.1 F a))) σ') : Call x d 0 0 mX7_sheet [vR 84, vI a] N σ Q := by
  refine Call.of mcX7_sheet (Nat.le_of_ble_eq_true rfl) (fun y hy => ?_)
  subst hy
  obtain ⟨wf, sz, lt, a1, a2, a3, a4, a5, fi, be, rp, cl, dg, nu, pk, wm, h84, h85, h86, h87, h88, h89, h90, h91, h92, h93, h94, h95, hW, hL⟩ := id hM
  have hGm := hG.2.1.1
  have hp := hGm.1
  have hs := hGm.2.1
  have hL9 := mul_bd (k := S.now.1.1 - 1) (s := S.now.1.2.1) (by omega) (by omega) (by omega) (by omega)
  unfold aSht at h
  have hln : (tbl S.now.1 F).length ≤ 80 := tbl_len _ _ hGm
  refine P.iload_n (dq dtX7_sheet 0 rfl) rfl ?_
  refine P.if_ge (t := 7) (dq dtX7_sheet 1 rfl) rfl (by omega) (fun c_1 => ?_) (fun c_1 => ?_)
  · refine P.aload_n (dq dtX7_sheet 4 rfl) rfl ?_
    refine P.callV0 (M' := mX7_laySheet) (d' := d - 1) mlX7_217 mcX7_laySheet mvX7_laySheet (dq dtX7_sheet 5 rfl) (by omega) (Nat.le_of_ble_eq_true rfl) (by repeat (first | assumption | exact up_s | rw [up_n (by first | assumption | (apply Ne.symm; assumption) | decide | omega)])) rfl ?_
    refine ct_X7_laySheet h84 h85 hGm hW.1.1 rfl rfl (by omega) h89 h90 h91 h92 hF h93 (fun σ2 b1 b2 b3 b4 f' q84 q89 q90 q91 q92 q93 hRp fr2 => ?_)
    have q85 := (fr2 85 (by decide)).trans h85
    have q86 := (fr2 86 (by decide)).trans h86
    have q87 := (fr2 87 (by decide)).trans h87
    have q88 := (fr2 88 (by decide)).trans h88
    have q94 := (fr2 94 (by decide)).trans h94
    have q95 := (fr2 95 (by decide)).trans h95
    have hM2 : MD σ2 S := ⟨wf, sz, lt, b1, b2, b3, b4, f', fi, be, rp, cl, dg, nu, _, _, q84, q85, q86, q87, q88, q89, q90, q91, q92, q93, q94, q95, hW, hL⟩
    have fm2 : Fr σ σ2 LM := fr2.wide (by simp)
    refine P.iload_n (dq dtX7_sheet 6 rfl) rfl ?_
    refine P.aload_n (dq dtX7_sheet 7 rfl) rfl ?_
    refine P.get flX7_208 (dq dtX7_sheet 8 rfl) (by repeat (first | assumption | exact up_s | rw [up_n (by first | assumption | (apply Ne.symm; assumption) | decide | omega)])) (by rfl) ?_
    refine P.icmp_ge (t := 28) (dq dtX7_sheet 9 rfl) rfl (by omega) (by omega) (fun c_16 => ?_) (fun c_16 => ?_)
    · refine P.ldc (n := -100000) (dq dtX7_sheet 15 rfl) kcX7_170 rfl ?_
      refine P.iret (dq dtX7_sheet 16 rfl) rfl rfl rfl ?_
      rw [if_neg (by omega)] at h
      first | (rw [if_pos (by omega)] at h; have e := hRp a.toNat (by omega); rw [show ((a.toNat : Nat) : Int) = a by omega] at e; rw [e]; exact h σ2 hM2 fm2) | (rw [if_neg (by omega)] at h; exact h σ2 hM2 fm2)
    · refine P.aload_n (dq dtX7_sheet 10 rfl) rfl ?_
      refine P.get flX7_42 (dq dtX7_sheet 11 rfl) (by repeat (first | assumption | exact up_s | rw [up_n (by first | assumption | (apply Ne.symm; assumption) | decide | omega)])) (by rfl) ?_
      refine P.iload_n (dq dtX7_sheet 12 rfl) rfl ?_
      refine P.iald (dq dtX7_sheet 13 rfl) (by repeat (first | assumption | exact up_s | rw [up_n (by first | assumption | (apply Ne.symm; assumption) | decide | omega)])) (by omega) (by omega) (by omega) ?_
      refine P.goto (t := 30) (dq dtX7_sheet 14 rfl) rfl ?_
      refine P.iret (dq dtX7_sheet 16 rfl) rfl rfl rfl ?_
      rw [if_neg (by omega)] at h
      first | (rw [if_pos (by omega)] at h; have e := hRp a.toNat (by omega); rw [show ((a.toNat : Nat) : Int) = a by omega] at e; rw [e]; exact h σ2 hM2 fm2) | (rw [if_neg (by omega)] at h; exact h σ2 hM2 fm2)
  · refine P.ldc (n := -100002) (dq dtX7_sheet 2 rfl) kcX7_75 rfl ?_
    refine P.iret (dq dtX7_sheet 3 rfl) rfl rfl rfl ?_
    rw [if_pos (by omega)] at h
    exact h σ hM Fr.rf
