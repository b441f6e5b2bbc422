/-- run -/
theorem md_run {x : CM} {d N : Nat} {σ : PH} {Q : PQ} {S : CSt} (hG : CG S) (hM : MD σ S) (hd : 3 ≤ d) {a b c : Int} (ha : inR a) (hb : inR b) (hc : inR c) (h : ∀ σ' : PH, MD σ' (sRun S a b c) → Fr σ σ' LM → Q (some (vI (aRun S a b c))) σ') : Call x d 0 0 mX7_run [vR 84, vI a, vI b, vI c] N σ Q := by
  refine Call.of mcX7_run (Nat.le_of_ble_eq_true rfl) (fun y hy => ?_)
  subst hy
  obtain ⟨wf, sz, lt, a1, a2, a3, a4, a5, fi, be, rp, cl, dg, nu, pk, wm, h84, h85, h86, h87, h88, h89, h90, h91, h92, h93, h94, h95, hW, hL⟩ := id hM
  have hGm := hG.2.1.1
  have hp := hGm.1
  have hs := hGm.2.1
  have hL9 := mul_bd (k := S.now.1.1 - 1) (s := S.now.1.2.1) (by omega) (by omega) (by omega) (by omega)
  refine P.aload_n (dq dtX7_run 0 rfl) rfl ?_
  refine P.iload_n (dq dtX7_run 1 rfl) rfl ?_
  refine P.callV1 (M' := mX7_isPoint) (d' := d - 1) mlX7_160 mcX7_isPoint mvX7_isPoint (dq dtX7_run 2 rfl) (by omega) (Nat.le_of_ble_eq_true rfl) (by repeat (first | assumption | exact up_s | rw [up_n (by first | assumption | (apply Ne.symm; assumption) | decide | omega)])) rfl ?_
  refine ct_X7_isPoint h84 (by omega) (by omega) (by assumption) (fun n_2 => ?_) (fun n_2 => ?_)
  · refine P.if_ne (t := 11) (dq dtX7_run 3 rfl) rfl (by omega) (fun _ => ?_) (fun h9 => absurd h9 (by decide))
    refine P.iload_n (dq dtX7_run 6 rfl) rfl ?_
    refine P.callS1 (M' := mX7_isWay) (d' := d - 1) mlX7_133 mcX7_isWay msX7_isWay (dq dtX7_run 7 rfl) (by omega) (Nat.le_of_ble_eq_true rfl) ?_
    refine ct_X7_isWay (by omega) hb (fun n_12 => ?_) (fun n_12 => ?_)
    · refine P.if_eq (t := 25) (dq dtX7_run 8 rfl) rfl (by omega) (fun h9 => absurd h9 (by decide)) (fun _ => ?_)
      refine P.iload_n (dq dtX7_run 9 rfl) rfl ?_
      refine P.callS1 (M' := mX7_isErr) (d' := d - 1) mlX7_164 mcX7_isErr msX7_isErr (dq dtX7_run 10 rfl) (by omega) (Nat.le_of_ble_eq_true rfl) ?_
      refine ct_X7_isErr (by omega) hc (fun n_19 => ?_) (fun n_19 => ?_)
      · refine P.if_ne (t := 28) (dq dtX7_run 11 rfl) rfl (by omega) (fun _ => ?_) (fun h9 => absurd h9 (by decide))
        have bw : b = 0 ∨ b = 1 := by omega
        refine P.aload_n (dq dtX7_run 14 rfl) rfl ?_
        refine P.callV0 (M' := mX7_minds) (d' := d - 1) mlX7_167 mcX7_minds mvX7_minds (dq dtX7_run 15 rfl) (by omega) (Nat.le_of_ble_eq_true rfl) (by repeat (first | assumption | exact up_s | rw [up_n (by first | assumption | (apply Ne.symm; assumption) | decide | omega)])) rfl ?_
        refine ct_X7_minds h84 h85 hG hW rfl (by omega) (fun σ1 wf1 k84 k85 hW1 fr1 => ?_)
        have k86 := (fr1 86 (by decide)).trans h86
        have k87 := (fr1 87 (by decide)).trans h87
        have k88 := (fr1 88 (by decide)).trans h88
        have k89 := (fr1 89 (by decide)).trans h89
        have k90 := (fr1 90 (by decide)).trans h90
        have k91 := (fr1 91 (by decide)).trans h91
        have k92 := (fr1 92 (by decide)).trans h92
        have k93 := (fr1 93 (by decide)).trans h93
        have k94 := (fr1 94 (by decide)).trans h94
        have k95 := (fr1 95 (by decide)).trans h95
        have hW1r : Rw wf1 0 S.now.1 := hW1.1.1
        refine P.aload_n (dq dtX7_run 16 rfl) rfl ?_
        refine P.iconst (dq dtX7_run 17 rfl) ?_
        refine P.iload_n (dq dtX7_run 18 rfl) rfl ?_
        refine P.iload_n (dq dtX7_run 19 rfl) rfl ?_
        refine P.iload_n (dq dtX7_run 20 rfl) rfl ?_
        refine P.callV4 (M' := mX7_adds) (d' := d - 1) mlX7_125 mcX7_adds mvX7_adds (dq dtX7_run 21 rfl) (by omega) (Nat.le_of_ble_eq_true rfl) (by repeat (first | assumption | exact up_s | rw [up_n (by first | assumption | (apply Ne.symm; assumption) | decide | omega)])) rfl ?_
        refine ct_X7_adds (v := S.now.1) k84 k85 hGm hW1r (by omega) n_2 bw (fun wf2 hR2 hout => ?_)
        refine P.aload_n (dq dtX7_run 22 rfl) rfl ?_
        refine P.get flX7_16 (dq dtX7_run 23 rfl) (by repeat (first | assumption | exact up_s | rw [up_n (by first | assumption | (apply Ne.symm; assumption) | decide | omega)])) (by rfl) ?_
        refine P.iconst (dq dtX7_run 24 rfl) ?_
        refine P.iconst (dq dtX7_run 25 rfl) ?_
        refine P.iload_n (dq dtX7_run 26 rfl) rfl ?_
        refine P.imul (dq dtX7_run 27 rfl) ?_
        refine P.iadd (dq dtX7_run 28 rfl) ?_
        refine P.iload_n (dq dtX7_run 29 rfl) rfl ?_
        refine P.iadd (dq dtX7_run 30 rfl) ?_
        refine P.iald (dq dtX7_run 31 rfl) (by repeat (first | assumption | exact up_s | rw [up_n (by first | assumption | (apply Ne.symm; assumption) | decide | omega)])) (by omega) (by omega) (by omega) ?_
        rw [show wf2 (0 + 2 * a + b) = addC S.now.1.2.2.1 (a * 2 + b) (a * 2 + b) by rw [show 0 + 2 * a + b = 0 + (a * 2 + b) by omega]; exact hR2.1 _ (by omega) (by omega)]
        refine P.iret (dq dtX7_run 32 rfl) rfl rfl rfl ?_
        have e9 := rfR_z n_2 (show (b = 0 ∨ b = 1) ∧ -40 ≤ c ∧ c ≤ 40 by omega)
        unfold aRun sRun at h
        rw [if_pos e9, if_pos e9] at h
        exact h _ ⟨_, _, _, _, _, _, _, _, _, _, _, _, _, _, _, _, (by repeat (first | assumption | exact up_s | rw [up_n (by first | assumption | (apply Ne.symm; assumption) | decide | omega)])), (by repeat (first | assumption | exact up_s | rw [up_n (by first | assumption | (apply Ne.symm; assumption) | decide | omega)])), (by repeat (first | assumption | exact up_s | rw [up_n (by first | assumption | (apply Ne.symm; assumption) | decide | omega)])), (by repeat (first | assumption | exact up_s | rw [up_n (by first | assumption | (apply Ne.symm; assumption) | decide | omega)])), (by repeat (first | assumption | exact up_s | rw [up_n (by first | assumption | (apply Ne.symm; assumption) | decide | omega)])), (by repeat (first | assumption | exact up_s | rw [up_n (by first | assumption | (apply Ne.symm; assumption) | decide | omega)])), (by repeat (first | assumption | exact up_s | rw [up_n (by first | assumption | (apply Ne.symm; assumption) | decide | omega)])), (by repeat (first | assumption | exact up_s | rw [up_n (by first | assumption | (apply Ne.symm; assumption) | decide | omega)])), (by repeat (first | assumption | exact up_s | rw [up_n (by first | assumption | (apply Ne.symm; assumption) | decide | omega)])), (by repeat (first | assumption | exact up_s | rw [up_n (by first | assumption | (apply Ne.symm; assumption) | decide | omega)])), (by repeat (first | assumption | exact up_s | rw [up_n (by first | assumption | (apply Ne.symm; assumption) | decide | omega)])), (by repeat (first | assumption | exact up_s | rw [up_n (by first | assumption | (apply Ne.symm; assumption) | decide | omega)])), (hW1.ms hG.rem hR2 rfl rfl (fun i hi => hout i (by omega))), hL⟩ (Fr.trans (fr1.wide (by simp)) (by repeat (first | assumption | exact Fr.rf | refine Fr.up ?_ (by simp))))
      · refine P.if_ne (t := 28) (dq dtX7_run 11 rfl) rfl (by omega) (fun h9 => absurd h9 (by decide)) (fun _ => ?_)
        refine P.ldc (n := -100002) (dq dtX7_run 12 rfl) kcX7_75 rfl ?_
        refine P.iret (dq dtX7_run 13 rfl) rfl rfl rfl ?_
        have e9 := rfR_o (b := b) (c := c) n_2 (by omega)
        unfold aRun sRun at h
        rw [e9] at h
        simp only [if_neg (show ¬ (-100002 : Int) = 0 by decide)] at h
        exact h σ hM Fr.rf
    · refine P.if_eq (t := 25) (dq dtX7_run 8 rfl) rfl (by omega) (fun _ => ?_) (fun h9 => absurd h9 (by decide))
      refine P.ldc (n := -100002) (dq dtX7_run 12 rfl) kcX7_75 rfl ?_
      refine P.iret (dq dtX7_run 13 rfl) rfl rfl rfl ?_
      have e9 := rfR_o (b := b) (c := c) n_2 (by omega)
      unfold aRun sRun at h
      rw [e9] at h
      simp only [if_neg (show ¬ (-100002 : Int) = 0 by decide)] at h
      exact h σ hM Fr.rf
  · refine P.if_ne (t := 11) (dq dtX7_run 3 rfl) rfl (by omega) (fun h9 => absurd h9 (by decide)) (fun _ => ?_)
    refine P.ldc (n := -100001) (dq dtX7_run 4 rfl) kcX7_163 rfl ?_
    refine P.iret (dq dtX7_run 5 rfl) rfl rfl rfl ?_
    have e9 := rfR_u (b := b) (c := c) n_2
    unfold aRun sRun at h
    rw [e9] at h
    simp only [if_neg (show ¬ (-100001 : Int) = 0 by decide)] at h
    exact h σ hM Fr.rf
/-- clear -/
theorem md_clear {x : CM} {d N : Nat} {σ : PH} {Q : PQ} {S : CSt} (hG : CG S) (hM : MD σ S) (hd : 3 ≤ d) {a b : Int} (ha : inR a) (hb : inR b) (h : ∀ σ' : PH, MD σ' (sClr S a b) → Fr σ σ' LM → Q (some (vI (aClr S a b))) σ') : Call x d 0 0 mX7_clear [vR 84, vI a, vI b] N σ Q := by
  refine Call.of mcX7_clear (Nat.le_of_ble_eq_true rfl) (fun y hy => ?_)
  subst hy
  obtain ⟨wf, sz, lt, a1, a2, a3, a4, a5, fi, be, rp, cl, dg, nu, pk, wm, h84, h85, h86, h87, h88, h89, h90, h91, h92, h93, h94, h95, hW, hL⟩ := id hM
  have hGm := hG.2.1.1
  have hp := hGm.1
  have hs := hGm.2.1
  have hL9 := mul_bd (k := S.now.1.1 - 1) (s := S.now.1.2.1) (by omega) (by omega) (by omega) (by omega)
  refine P.aload_n (dq dtX7_clear 0 rfl) rfl ?_
  refine P.iload_n (dq dtX7_clear 1 rfl) rfl ?_
  refine P.callV1 (M' := mX7_isPoint) (d' := d - 1) mlX7_160 mcX7_isPoint mvX7_isPoint (dq dtX7_clear 2 rfl) (by omega) (Nat.le_of_ble_eq_true rfl) (by repeat (first | assumption | exact up_s | rw [up_n (by first | assumption | (apply Ne.symm; assumption) | decide | omega)])) rfl ?_
  refine ct_X7_isPoint h84 (by omega) (by omega) (by assumption) (fun n_2 => ?_) (fun n_2 => ?_)
  · refine P.if_ne (t := 11) (dq dtX7_clear 3 rfl) rfl (by omega) (fun _ => ?_) (fun h9 => absurd h9 (by decide))
    refine P.iload_n (dq dtX7_clear 6 rfl) rfl ?_
    refine P.callS1 (M' := mX7_isWay) (d' := d - 1) mlX7_133 mcX7_isWay msX7_isWay (dq dtX7_clear 7 rfl) (by omega) (Nat.le_of_ble_eq_true rfl) ?_
    refine ct_X7_isWay (by omega) hb (fun n_12 => ?_) (fun n_12 => ?_)
    · refine P.if_ne (t := 21) (dq dtX7_clear 8 rfl) rfl (by omega) (fun _ => ?_) (fun h9 => absurd h9 (by decide))
      have bw : b = 0 ∨ b = 1 := by omega
      have bcc := (hGm.2.2 (a * 2 + b) (by omega) (by omega)).1
      have er0 : wf (0 + 2 * a + b) = S.now.1.2.2.1 (a * 2 + b) := by
        rw [show 0 + 2 * a + b = 0 + (a * 2 + b) by omega]
        exact hW.1.1.1 _ (by omega) (by omega)
      refine P.aload_n (dq dtX7_clear 11 rfl) rfl ?_
      refine P.get flX7_16 (dq dtX7_clear 12 rfl) (by repeat (first | assumption | exact up_s | rw [up_n (by first | assumption | (apply Ne.symm; assumption) | decide | omega)])) (by rfl) ?_
      refine P.iconst (dq dtX7_clear 13 rfl) ?_
      refine P.iconst (dq dtX7_clear 14 rfl) ?_
      refine P.iload_n (dq dtX7_clear 15 rfl) rfl ?_
      refine P.imul (dq dtX7_clear 16 rfl) ?_
      refine P.iadd (dq dtX7_clear 17 rfl) ?_
      refine P.iload_n (dq dtX7_clear 18 rfl) rfl ?_
      refine P.iadd (dq dtX7_clear 19 rfl) ?_
      refine P.iald (dq dtX7_clear 20 rfl) (by repeat (first | assumption | exact up_s | rw [up_n (by first | assumption | (apply Ne.symm; assumption) | decide | omega)])) (by omega) (by omega) (by omega) ?_
      rw [er0]
      refine P.istore_n (dq dtX7_clear 21 rfl) (by decide) rfl rfl ?_
      refine P.iload_n (dq dtX7_clear 22 rfl) rfl ?_
      refine P.if_ne (t := 41) (dq dtX7_clear 23 rfl) rfl (by omega) (fun c_35 => ?_) (fun c_35 => ?_)
      · refine P.aload_n (dq dtX7_clear 26 rfl) rfl ?_
        refine P.callV0 (M' := mX7_minds) (d' := d - 1) mlX7_167 mcX7_minds mvX7_minds (dq dtX7_clear 27 rfl) (by omega) (Nat.le_of_ble_eq_true rfl) (by repeat (first | assumption | exact up_s | rw [up_n (by first | assumption | (apply Ne.symm; assumption) | decide | omega)])) rfl ?_
        refine ct_X7_minds h84 h85 hG hW rfl (by omega) (fun σ1 wf1 k84 k85 hW1 fr1 => ?_)
        have k86 := (fr1 86 (by decide)).trans h86
        have k87 := (fr1 87 (by decide)).trans h87
        have k88 := (fr1 88 (by decide)).trans h88
        have k89 := (fr1 89 (by decide)).trans h89
        have k90 := (fr1 90 (by decide)).trans h90
        have k91 := (fr1 91 (by decide)).trans h91
        have k92 := (fr1 92 (by decide)).trans h92
        have k93 := (fr1 93 (by decide)).trans h93
        have k94 := (fr1 94 (by decide)).trans h94
        have k95 := (fr1 95 (by decide)).trans h95
        have hW1r : Rw wf1 0 S.now.1 := hW1.1.1
        refine P.aload_n (dq dtX7_clear 28 rfl) rfl ?_
        refine P.get flX7_16 (dq dtX7_clear 29 rfl) (by repeat (first | assumption | exact up_s | rw [up_n (by first | assumption | (apply Ne.symm; assumption) | decide | omega)])) (by rfl) ?_
        refine P.iconst (dq dtX7_clear 30 rfl) ?_
        refine P.iconst (dq dtX7_clear 31 rfl) ?_
        refine P.iload_n (dq dtX7_clear 32 rfl) rfl ?_
        refine P.imul (dq dtX7_clear 33 rfl) ?_
        refine P.iadd (dq dtX7_clear 34 rfl) ?_
        refine P.iload_n (dq dtX7_clear 35 rfl) rfl ?_
        refine P.iadd (dq dtX7_clear 36 rfl) ?_
        refine P.iconst (dq dtX7_clear 37 rfl) ?_
        refine P.iast (dq dtX7_clear 38 rfl) (by repeat (first | assumption | exact up_s | rw [up_n (by first | assumption | (apply Ne.symm; assumption) | decide | omega)])) (by omega) (by omega) (by omega) ?_
        rw [show 0 + 2 * a + b = a * 2 + b by omega]
        refine P.iload_n (dq dtX7_clear 39 rfl) rfl ?_
        refine P.iret (dq dtX7_clear 40 rfl) rfl rfl rfl ?_
        simp only [aClr, sClr, if_neg (show ¬ ¬ (0 ≤ a ∧ a < S.now.1.1) from fun z => z n_2), if_neg (show ¬ ¬ (b = 0 ∨ b = 1) from fun z => z bw), if_neg c_35, if_pos (show ((0 ≤ a ∧ a < S.now.1.1) ∧ (b = 0 ∨ b = 1) ∧ S.now.1.2.2.1 (a * 2 + b) ≠ 0) from ⟨n_2, bw, c_35⟩)] at h
        have hR2 := hW1r.clr hGm (T := a * 2 + b) (by omega)
        exact h _ ⟨_, _, _, _, _, _, _, _, _, _, _, _, _, _, _, _, (by repeat (first | assumption | exact up_s | rw [up_n (by first | assumption | (apply Ne.symm; assumption) | decide | omega)])), (by repeat (first | assumption | exact up_s | rw [up_n (by first | assumption | (apply Ne.symm; assumption) | decide | omega)])), (by repeat (first | assumption | exact up_s | rw [up_n (by first | assumption | (apply Ne.symm; assumption) | decide | omega)])), (by repeat (first | assumption | exact up_s | rw [up_n (by first | assumption | (apply Ne.symm; assumption) | decide | omega)])), (by repeat (first | assumption | exact up_s | rw [up_n (by first | assumption | (apply Ne.symm; assumption) | decide | omega)])), (by repeat (first | assumption | exact up_s | rw [up_n (by first | assumption | (apply Ne.symm; assumption) | decide | omega)])), (by repeat (first | assumption | exact up_s | rw [up_n (by first | assumption | (apply Ne.symm; assumption) | decide | omega)])), (by repeat (first | assumption | exact up_s | rw [up_n (by first | assumption | (apply Ne.symm; assumption) | decide | omega)])), (by repeat (first | assumption | exact up_s | rw [up_n (by first | assumption | (apply Ne.symm; assumption) | decide | omega)])), (by repeat (first | assumption | exact up_s | rw [up_n (by first | assumption | (apply Ne.symm; assumption) | decide | omega)])), (by repeat (first | assumption | exact up_s | rw [up_n (by first | assumption | (apply Ne.symm; assumption) | decide | omega)])), (by repeat (first | assumption | exact up_s | rw [up_n (by first | assumption | (apply Ne.symm; assumption) | decide | omega)])), (hW1.ms hG.rem hR2 rfl rfl (fun i hi => upI_n (by omega))), hL⟩ (Fr.trans (fr1.wide (by simp)) (by repeat (first | assumption | exact Fr.rf | refine Fr.up ?_ (by simp))))
      · refine P.ldc (n := -100003) (dq dtX7_clear 24 rfl) kcX7_155 rfl ?_
        refine P.iret (dq dtX7_clear 25 rfl) rfl rfl rfl ?_
        simp only [aClr, sClr, if_neg (show ¬ ¬ (0 ≤ a ∧ a < S.now.1.1) from fun z => z n_2), if_neg (show ¬ ¬ (b = 0 ∨ b = 1) from fun z => z bw), if_pos c_35, if_neg (show ¬ ((0 ≤ a ∧ a < S.now.1.1) ∧ (b = 0 ∨ b = 1) ∧ S.now.1.2.2.1 (a * 2 + b) ≠ 0) from fun z => z.2.2 c_35)] at h
        exact h σ hM Fr.rf
    · refine P.if_ne (t := 21) (dq dtX7_clear 8 rfl) rfl (by omega) (fun h9 => absurd h9 (by decide)) (fun _ => ?_)
      refine P.ldc (n := -100002) (dq dtX7_clear 9 rfl) kcX7_75 rfl ?_
      refine P.iret (dq dtX7_clear 10 rfl) rfl rfl rfl ?_
      simp only [aClr, sClr, if_neg (show ¬ ¬ (0 ≤ a ∧ a < S.now.1.1) from fun z => z n_2), if_pos (show ¬ (b = 0 ∨ b = 1) by omega), if_neg (show ¬ ((0 ≤ a ∧ a < S.now.1.1) ∧ (b = 0 ∨ b = 1) ∧ S.now.1.2.2.1 (a * 2 + b) ≠ 0) from fun z => by omega)] at h
      exact h σ hM Fr.rf
  · refine P.if_ne (t := 11) (dq dtX7_clear 3 rfl) rfl (by omega) (fun h9 => absurd h9 (by decide)) (fun _ => ?_)
    refine P.ldc (n := -100001) (dq dtX7_clear 4 rfl) kcX7_163 rfl ?_
    refine P.iret (dq dtX7_clear 5 rfl) rfl rfl rfl ?_
    simp only [aClr, sClr, if_pos n_2, if_neg (show ¬ ((0 ≤ a ∧ a < S.now.1.1) ∧ (b = 0 ∨ b = 1) ∧ S.now.1.2.2.1 (a * 2 + b) ≠ 0) from fun z => n_2 z.1)] at h
    exact h σ hM Fr.rf
/-- undo -/
theorem md_undo {x : CM} {d N : Nat} {σ : PH} {Q : PQ} {S : CSt} (hG : CG S) (hM : MD σ S) (hd : 2 ≤ d) (h : ∀ σ' : PH, MD σ' (sUnd1 S) → Fr σ σ' LM → Q (some (vI (aUnd S))) σ') : Call x d 0 0 mX7_undo [vR 84] N σ Q := by
  refine Call.of mcX7_undo (Nat.le_of_ble_eq_true rfl) (fun y hy => ?_)
  subst hy
  obtain ⟨wf, sz, lt, a1, a2, a3, a4, a5, fi, be, rp, cl, dg, nu, pk, wm, h84, h85, h86, h87, h88, h89, h90, h91, h92, h93, h94, h95, hW, hL⟩ := id hM
  have hGm := hG.2.1.1
  have hp := hGm.1
  have hs := hGm.2.1
  have hL9 := mul_bd (k := S.now.1.1 - 1) (s := S.now.1.2.1) (by omega) (by omega) (by omega) (by omega)
  have bct := hG.2.2.1.2.1
  refine P.aload_n (dq dtX7_undo 0 rfl) rfl ?_
  refine P.get flX7_62 (dq dtX7_undo 1 rfl) (by repeat (first | assumption | exact up_s | rw [up_n (by first | assumption | (apply Ne.symm; assumption) | decide | omega)])) (by rfl) ?_
  refine P.if_ne (t := 10) (dq dtX7_undo 2 rfl) rfl (by omega) (fun c_4 => ?_) (fun c_4 => ?_)
  · refine P.aload_n (dq dtX7_undo 5 rfl) rfl ?_
    refine P.dup (dq dtX7_undo 6 rfl) rfl ?_
    refine P.get flX7_62 (dq dtX7_undo 7 rfl) (by repeat (first | assumption | exact up_s | rw [up_n (by first | assumption | (apply Ne.symm; assumption) | decide | omega)])) (by rfl) ?_
    refine P.iconst (dq dtX7_undo 8 rfl) ?_
    refine P.isub (dq dtX7_undo 9 rfl) ?_
    refine P.put flX7_62 rfl (dq dtX7_undo 10 rfl) (by repeat (first | assumption | exact up_s | rw [up_n (by first | assumption | (apply Ne.symm; assumption) | decide | omega)])) (by exact Nat.le_of_ble_eq_true rfl) rfl rfl rfl rfl rfl ?_
    refine P.aload_n (dq dtX7_undo 11 rfl) rfl ?_
    refine P.sipush (dq dtX7_undo 12 rfl) rfl ?_
    refine P.bipush (dq dtX7_undo 13 rfl) rfl ?_
    refine P.aload_n (dq dtX7_undo 14 rfl) rfl ?_
    refine P.get flX7_62 (dq dtX7_undo 15 rfl) (by repeat (first | assumption | exact up_s | rw [up_n (by first | assumption | (apply Ne.symm; assumption) | decide | omega)])) (by rfl) ?_
    refine P.imul (dq dtX7_undo 16 rfl) ?_
    refine P.iadd (dq dtX7_undo 17 rfl) ?_
    refine P.iconst (dq dtX7_undo 18 rfl) ?_
    refine P.callV2 (M' := mX7_copy) (d' := d - 1) mlX7_156 mcX7_copy mvX7_copy (dq dtX7_undo 19 rfl) (by omega) (Nat.le_of_ble_eq_true rfl) (by repeat (first | assumption | exact up_s | rw [up_n (by first | assumption | (apply Ne.symm; assumption) | decide | omega)])) rfl ?_
    refine ct_X7_copy up_s (by repeat (first | assumption | exact up_s | rw [up_n (by first | assumption | (apply Ne.symm; assumption) | decide | omega)])) (by omega) (by omega) ?_
    refine P.aload_n (dq dtX7_undo 20 rfl) rfl ?_
    refine P.get flX7_62 (dq dtX7_undo 21 rfl) (by repeat (first | assumption | exact up_s | rw [up_n (by first | assumption | (apply Ne.symm; assumption) | decide | omega)])) (by rfl) ?_
    refine P.iret (dq dtX7_undo 22 rfl) rfl rfl rfl ?_
    simp only [aUnd, sUnd1, if_neg c_4] at h
    have hW2 := hW.und hG c_4
    have e1 : (sUnd S).now.1.1 = S.now.1.1 := (hW.2.1 (S.ct - 1) (by omega) (by omega)).2.2.1 ▸ (by rw [show ri S.nxt S.ct (S.ct - 1) = (bkI S.nxt).toNat by (unfold ri bkI; have := hG.2.2.1.1; split <;> omega)]; rfl)
    have e2 : (sUnd S).now.1.2.1 = S.now.1.2.1 := (hW.2.1 (S.ct - 1) (by omega) (by omega)).2.2.2 ▸ (by rw [show ri S.nxt S.ct (S.ct - 1) = (bkI S.nxt).toNat by (unfold ri bkI; have := hG.2.2.1.1; split <;> omega)]; rfl)
    refine h _ ?_ (by repeat (first | assumption | exact Fr.rf | refine Fr.up ?_ (by simp)))
    unfold MD
    rw [e1, e2]
    exact ⟨_, _, _, _, _, _, _, _, _, _, _, _, _, _, _, _, (by repeat (first | assumption | exact up_s | rw [up_n (by first | assumption | (apply Ne.symm; assumption) | decide | omega)])), (by repeat (first | assumption | exact up_s | rw [up_n (by first | assumption | (apply Ne.symm; assumption) | decide | omega)])), (by repeat (first | assumption | exact up_s | rw [up_n (by first | assumption | (apply Ne.symm; assumption) | decide | omega)])), (by repeat (first | assumption | exact up_s | rw [up_n (by first | assumption | (apply Ne.symm; assumption) | decide | omega)])), (by repeat (first | assumption | exact up_s | rw [up_n (by first | assumption | (apply Ne.symm; assumption) | decide | omega)])), (by repeat (first | assumption | exact up_s | rw [up_n (by first | assumption | (apply Ne.symm; assumption) | decide | omega)])), (by repeat (first | assumption | exact up_s | rw [up_n (by first | assumption | (apply Ne.symm; assumption) | decide | omega)])), (by repeat (first | assumption | exact up_s | rw [up_n (by first | assumption | (apply Ne.symm; assumption) | decide | omega)])), (by repeat (first | assumption | exact up_s | rw [up_n (by first | assumption | (apply Ne.symm; assumption) | decide | omega)])), (by repeat (first | assumption | exact up_s | rw [up_n (by first | assumption | (apply Ne.symm; assumption) | decide | omega)])), (by repeat (first | assumption | exact up_s | rw [up_n (by first | assumption | (apply Ne.symm; assumption) | decide | omega)])), (by repeat (first | assumption | exact up_s | rw [up_n (by first | assumption | (apply Ne.symm; assumption) | decide | omega)])), hW2, hL⟩
  · refine P.ldc (n := -100003) (dq dtX7_undo 3 rfl) kcX7_155 rfl ?_
    refine P.iret (dq dtX7_undo 4 rfl) rfl rfl rfl ?_
    simp only [aUnd, sUnd1, if_pos c_4] at h
    exact h σ hM Fr.rf
/-- keep -/
theorem md_keep {x : CM} {d N : Nat} {σ : PH} {Q : PQ} {S : CSt} (hG : CG S) (hM : MD σ S) (hd : 2 ≤ d) {k : Int} (hk : inR k) (h : ∀ σ' : PH, MD σ' (sKep1 S k) → Fr σ σ' LM → Q (some (vI (aKep S k))) σ') : Call x d 0 0 mX7_keep [vR 84, vI k] N σ Q := by
  refine Call.of mcX7_keep (Nat.le_of_ble_eq_true rfl) (fun y hy => ?_)
  subst hy
  obtain ⟨wf, sz, lt, a1, a2, a3, a4, a5, fi, be, rp, cl, dg, nu, pk, wm, h84, h85, h86, h87, h88, h89, h90, h91, h92, h93, h94, h95, hW, hL⟩ := id hM
  have hGm := hG.2.1.1
  have hp := hGm.1
  have hs := hGm.2.1
  have hL9 := mul_bd (k := S.now.1.1 - 1) (s := S.now.1.2.1) (by omega) (by omega) (by omega) (by omega)
  refine P.iload_n (dq dtX7_keep 0 rfl) rfl ?_
  refine P.i2l (dq dtX7_keep 1 rfl) (by omega) ?_
  refine P.lconst (z := 0) (dq dtX7_keep 2 rfl) rfl ?_
  refine P.lconst (z := 1) (dq dtX7_keep 3 rfl) rfl ?_
  refine P.callS3 (M' := mX7_in) (d' := d - 1) mlX7_65 mcX7_in msX7_in (dq dtX7_keep 4 rfl) (by omega) (Nat.le_of_ble_eq_true rfl) ?_
  refine ct_X7_in (by omega) (by omega) (by omega) (fun n_4 => ?_) (fun n_4 => ?_)
  · refine P.if_ne (t := 13) (dq dtX7_keep 5 rfl) rfl (by omega) (fun _ => ?_) (fun h9 => absurd h9 (by decide))
    refine P.aload_n (dq dtX7_keep 8 rfl) rfl ?_
    refine P.iconst (dq dtX7_keep 9 rfl) ?_
    refine P.sipush (dq dtX7_keep 10 rfl) rfl ?_
    refine P.bipush (dq dtX7_keep 11 rfl) rfl ?_
    refine P.iload_n (dq dtX7_keep 12 rfl) rfl ?_
    refine P.imul (dq dtX7_keep 13 rfl) ?_
    refine P.iadd (dq dtX7_keep 14 rfl) ?_
    refine P.callV2 (M' := mX7_copy) (d' := d - 1) mlX7_156 mcX7_copy mvX7_copy (dq dtX7_keep 15 rfl) (by omega) (Nat.le_of_ble_eq_true rfl) (by repeat (first | assumption | exact up_s | rw [up_n (by first | assumption | (apply Ne.symm; assumption) | decide | omega)])) rfl ?_
    refine ct_X7_copy h84 h85 (by omega) (by omega) ?_
    refine P.aload_n (dq dtX7_keep 16 rfl) rfl ?_
    refine P.get flX7_20 (dq dtX7_keep 17 rfl) (by repeat (first | assumption | exact up_s | rw [up_n (by first | assumption | (apply Ne.symm; assumption) | decide | omega)])) (by rfl) ?_
    refine P.iload_n (dq dtX7_keep 18 rfl) rfl ?_
    refine P.iconst (dq dtX7_keep 19 rfl) ?_
    refine P.zast (dq dtX7_keep 20 rfl) (by repeat (first | assumption | exact up_s | rw [up_n (by first | assumption | (apply Ne.symm; assumption) | decide | omega)])) (by omega) (by omega) (by omega) (by decide) ?_
    refine P.aload_n (dq dtX7_keep 21 rfl) rfl ?_
    refine P.get flX7_16 (dq dtX7_keep 22 rfl) (by repeat (first | assumption | exact up_s | rw [up_n (by first | assumption | (apply Ne.symm; assumption) | decide | omega)])) (by rfl) ?_
    refine P.bipush (dq dtX7_keep 23 rfl) rfl ?_
    refine P.iald (dq dtX7_keep 24 rfl) (by repeat (first | assumption | exact up_s | rw [up_n (by first | assumption | (apply Ne.symm; assumption) | decide | omega)])) (by omega) (by omega) (by omega) ?_
    rw [cpI_out (show ¬ (234 + 117 * k ≤ 112 ∧ 112 < 234 + 117 * k + 117) by omega), show wf 112 = S.now.2.1 from (by have := hW.1.2.1.1; rw [Int.zero_add] at this; exact this)]
    refine P.iret (dq dtX7_keep 25 rfl) rfl rfl rfl ?_
    simp only [aKep, sKep1, if_pos (show (0 ≤ k ∧ k < 2) by omega)] at h
    exact h _ ⟨_, _, _, _, _, _, _, _, _, _, _, _, _, _, _, _, (by repeat (first | assumption | exact up_s | rw [up_n (by first | assumption | (apply Ne.symm; assumption) | decide | omega)])), (by repeat (first | assumption | exact up_s | rw [up_n (by first | assumption | (apply Ne.symm; assumption) | decide | omega)])), (by repeat (first | assumption | exact up_s | rw [up_n (by first | assumption | (apply Ne.symm; assumption) | decide | omega)])), (by repeat (first | assumption | exact up_s | rw [up_n (by first | assumption | (apply Ne.symm; assumption) | decide | omega)])), (by repeat (first | assumption | exact up_s | rw [up_n (by first | assumption | (apply Ne.symm; assumption) | decide | omega)])), (by repeat (first | assumption | exact up_s | rw [up_n (by first | assumption | (apply Ne.symm; assumption) | decide | omega)])), (by repeat (first | assumption | exact up_s | rw [up_n (by first | assumption | (apply Ne.symm; assumption) | decide | omega)])), (by repeat (first | assumption | exact up_s | rw [up_n (by first | assumption | (apply Ne.symm; assumption) | decide | omega)])), (by repeat (first | assumption | exact up_s | rw [up_n (by first | assumption | (apply Ne.symm; assumption) | decide | omega)])), (by repeat (first | assumption | exact up_s | rw [up_n (by first | assumption | (apply Ne.symm; assumption) | decide | omega)])), (by repeat (first | assumption | exact up_s | rw [up_n (by first | assumption | (apply Ne.symm; assumption) | decide | omega)])), (by repeat (first | assumption | exact up_s | rw [up_n (by first | assumption | (apply Ne.symm; assumption) | decide | omega)])), (hW.kep hG (by omega)), hL⟩ (by repeat (first | assumption | exact Fr.rf | refine Fr.up ?_ (by simp)))
  · refine P.if_ne (t := 13) (dq dtX7_keep 5 rfl) rfl (by omega) (fun h9 => absurd h9 (by decide)) (fun _ => ?_)
    refine P.ldc (n := -100001) (dq dtX7_keep 6 rfl) kcX7_163 rfl ?_
    refine P.iret (dq dtX7_keep 7 rfl) rfl rfl rfl ?_
    simp only [aKep, sKep1, if_neg (show ¬ (0 ≤ k ∧ k < 2) by omega)] at h
    exact h σ hM Fr.rf
/-- back -/
theorem md_back {x : CM} {d N : Nat} {σ : PH} {Q : PQ} {S : CSt} (hG : CG S) (hM : MD σ S) (hd : 2 ≤ d) {k : Int} (hk : inR k) (h : ∀ σ' : PH, MD σ' (sBck S k) → Fr σ σ' LM → Q (some (vI (aBck S k))) σ') : Call x d 0 0 mX7_back [vR 84, vI k] N σ Q := by
  refine Call.of mcX7_back (Nat.le_of_ble_eq_true rfl) (fun y hy => ?_)
  subst hy
  obtain ⟨wf, sz, lt, a1, a2, a3, a4, a5, fi, be, rp, cl, dg, nu, pk, wm, h84, h85, h86, h87, h88, h89, h90, h91, h92, h93, h94, h95, hW, hL⟩ := id hM
  have hGm := hG.2.1.1
  have hp := hGm.1
  have hs := hGm.2.1
  have hL9 := mul_bd (k := S.now.1.1 - 1) (s := S.now.1.2.1) (by omega) (by omega) (by omega) (by omega)
  refine P.iload_n (dq dtX7_back 0 rfl) rfl ?_
  refine P.i2l (dq dtX7_back 1 rfl) (by omega) ?_
  refine P.lconst (z := 0) (dq dtX7_back 2 rfl) rfl ?_
  refine P.lconst (z := 1) (dq dtX7_back 3 rfl) rfl ?_
  refine P.callS3 (M' := mX7_in) (d' := d - 1) mlX7_65 mcX7_in msX7_in (dq dtX7_back 4 rfl) (by omega) (Nat.le_of_ble_eq_true rfl) ?_
  refine ct_X7_in (by omega) (by omega) (by omega) (fun n_4 => ?_) (fun n_4 => ?_)
  · refine P.if_ne (t := 13) (dq dtX7_back 5 rfl) rfl (by omega) (fun _ => ?_) (fun h9 => absurd h9 (by decide))
    have bk := hG.2.2.2.1.1 k (by omega) (by omega)
    refine P.aload_n (dq dtX7_back 8 rfl) rfl ?_
    refine P.get flX7_20 (dq dtX7_back 9 rfl) (by repeat (first | assumption | exact up_s | rw [up_n (by first | assumption | (apply Ne.symm; assumption) | decide | omega)])) (by rfl) ?_
    refine P.iload_n (dq dtX7_back 10 rfl) rfl ?_
    refine P.zald (dq dtX7_back 11 rfl) (by repeat (first | assumption | exact up_s | rw [up_n (by first | assumption | (apply Ne.symm; assumption) | decide | omega)])) (by omega) (by omega) (by omega) ?_
    refine P.if_ne (t := 25) (dq dtX7_back 12 rfl) rfl (by omega) (fun c_19 => ?_) (fun c_19 => ?_)
    · refine P.aload_n (dq dtX7_back 15 rfl) rfl ?_
      refine P.sipush (dq dtX7_back 16 rfl) rfl ?_
      refine P.bipush (dq dtX7_back 17 rfl) rfl ?_
      refine P.iload_n (dq dtX7_back 18 rfl) rfl ?_
      refine P.imul (dq dtX7_back 19 rfl) ?_
      refine P.iadd (dq dtX7_back 20 rfl) ?_
      refine P.iconst (dq dtX7_back 21 rfl) ?_
      refine P.callV2 (M' := mX7_copy) (d' := d - 1) mlX7_156 mcX7_copy mvX7_copy (dq dtX7_back 22 rfl) (by omega) (Nat.le_of_ble_eq_true rfl) (by repeat (first | assumption | exact up_s | rw [up_n (by first | assumption | (apply Ne.symm; assumption) | decide | omega)])) rfl ?_
      refine ct_X7_copy h84 h85 (by omega) (by omega) ?_
      refine P.aload_n (dq dtX7_back 23 rfl) rfl ?_
      refine P.iconst (dq dtX7_back 24 rfl) ?_
      refine P.put flX7_62 rfl (dq dtX7_back 25 rfl) (by repeat (first | assumption | exact up_s | rw [up_n (by first | assumption | (apply Ne.symm; assumption) | decide | omega)])) (by exact Nat.le_of_ble_eq_true rfl) rfl rfl rfl rfl rfl ?_
      refine P.aload_n (dq dtX7_back 26 rfl) rfl ?_
      refine P.get flX7_16 (dq dtX7_back 27 rfl) (by repeat (first | assumption | exact up_s | rw [up_n (by first | assumption | (apply Ne.symm; assumption) | decide | omega)])) (by rfl) ?_
      refine P.bipush (dq dtX7_back 28 rfl) rfl ?_
      refine P.iald (dq dtX7_back 29 rfl) (by repeat (first | assumption | exact up_s | rw [up_n (by first | assumption | (apply Ne.symm; assumption) | decide | omega)])) (by omega) (by omega) (by omega) ?_
      have hl := hW.2.2 k (by omega) (by omega) c_19
      rw [cpI_in (show 0 ≤ 112 ∧ 112 < 0 + 117 by omega), show wf (234 + 117 * k + (112 - 0)) = (S.km k.toNat).2.1 from (by have := hl.2.1.1; rw [show 234 + 117 * k + 112 = 234 + 117 * k + (112 - 0) by omega] at this; exact this)]
      refine P.iret (dq dtX7_back 30 rfl) rfl rfl rfl ?_
      simp only [aBck, sBck, if_neg (show ¬ ¬ (0 ≤ k ∧ k < 2) by omega), if_neg c_19, if_pos (show ((0 ≤ k ∧ k < 2) ∧ S.ik k ≠ 0) from ⟨by omega, c_19⟩)] at h
      have hW2 := hW.bck hG (k := k) (by omega) c_19
      have e1 : (sNoP (sNow S (S.km k.toNat))).now.1.1 = S.now.1.1 := hl.2.2.1
      have e2 : (sNoP (sNow S (S.km k.toNat))).now.1.2.1 = S.now.1.2.1 := hl.2.2.2
      refine h _ ?_ (by repeat (first | assumption | exact Fr.rf | refine Fr.up ?_ (by simp)))
      unfold MD
      rw [e1, e2]
      exact ⟨_, _, _, _, _, _, _, _, _, _, _, _, _, _, _, _, (by repeat (first | assumption | exact up_s | rw [up_n (by first | assumption | (apply Ne.symm; assumption) | decide | omega)])), (by repeat (first | assumption | exact up_s | rw [up_n (by first | assumption | (apply Ne.symm; assumption) | decide | omega)])), (by repeat (first | assumption | exact up_s | rw [up_n (by first | assumption | (apply Ne.symm; assumption) | decide | omega)])), (by repeat (first | assumption | exact up_s | rw [up_n (by first | assumption | (apply Ne.symm; assumption) | decide | omega)])), (by repeat (first | assumption | exact up_s | rw [up_n (by first | assumption | (apply Ne.symm; assumption) | decide | omega)])), (by repeat (first | assumption | exact up_s | rw [up_n (by first | assumption | (apply Ne.symm; assumption) | decide | omega)])), (by repeat (first | assumption | exact up_s | rw [up_n (by first | assumption | (apply Ne.symm; assumption) | decide | omega)])), (by repeat (first | assumption | exact up_s | rw [up_n (by first | assumption | (apply Ne.symm; assumption) | decide | omega)])), (by repeat (first | assumption | exact up_s | rw [up_n (by first | assumption | (apply Ne.symm; assumption) | decide | omega)])), (by repeat (first | assumption | exact up_s | rw [up_n (by first | assumption | (apply Ne.symm; assumption) | decide | omega)])), (by repeat (first | assumption | exact up_s | rw [up_n (by first | assumption | (apply Ne.symm; assumption) | decide | omega)])), (by repeat (first | assumption | exact up_s | rw [up_n (by first | assumption | (apply Ne.symm; assumption) | decide | omega)])), hW2, hL⟩
    · refine P.ldc (n := -100003) (dq dtX7_back 13 rfl) kcX7_155 rfl ?_
      refine P.iret (dq dtX7_back 14 rfl) rfl rfl rfl ?_
      simp only [aBck, sBck, if_neg (show ¬ ¬ (0 ≤ k ∧ k < 2) by omega), if_pos c_19, if_neg (show ¬ ((0 ≤ k ∧ k < 2) ∧ S.ik k ≠ 0) from fun z => z.2 c_19)] at h
      exact h σ hM Fr.rf
  · refine P.if_ne (t := 13) (dq dtX7_back 5 rfl) rfl (by omega) (fun h9 => absurd h9 (by decide)) (fun _ => ?_)
    refine P.ldc (n := -100001) (dq dtX7_back 6 rfl) kcX7_163 rfl ?_
    refine P.iret (dq dtX7_back 7 rfl) rfl rfl rfl ?_
    simp only [aBck, sBck, if_pos (show ¬ (0 ≤ k ∧ k < 2) by omega), if_neg (show ¬ ((0 ≤ k ∧ k < 2) ∧ S.ik k ≠ 0) from fun z => by omega)] at h
    exact h σ hM Fr.rf
/-- merged -/
theorem md_merged {x : CM} {d N : Nat} {σ : PH} {Q : PQ} {S : CSt} (hG : CG S) (hM : MD σ S) (hd : 4 ≤ d) {a b c : Int} (ha : inR a) (hb : inR b) (hc : inR c) {F' : FgV} (hF' : rfR S.now.1.1 a b c = 0 → FgR (addM S.now.1 (a * 2 + b) c) F') (h : ∀ σ' : PH, MD σ' S → Fr σ σ' LM → Q (some (vI (if rfR S.now.1.1 a b c = 0 then F'.2.2.2.2.2.2 a else rfR S.now.1.1 a b c))) σ') : Call x d 0 0 mX7_merged [vR 84, vI a, vI b, vI c] N σ Q := by
  refine Call.of mcX7_merged (Nat.le_of_ble_eq_true rfl) (fun y hy => ?_)
  subst hy
  obtain ⟨wf, sz, lt, a1, a2, a3, a4, a5, fi, be, rp, cl, dg, nu, pk, wm, h84, h85, h86, h87, h88, h89, h90, h91, h92, h93, h94, h95, hW, hL⟩ := id hM
  have hGm := hG.2.1.1
  have hp := hGm.1
  have hs := hGm.2.1
  have hL9 := mul_bd (k := S.now.1.1 - 1) (s := S.now.1.2.1) (by omega) (by omega) (by omega) (by omega)
  refine P.aload_n (dq dtX7_merged 0 rfl) rfl ?_
  refine P.iload_n (dq dtX7_merged 1 rfl) rfl ?_
  refine P.callV1 (M' := mX7_isPoint) (d' := d - 1) mlX7_160 mcX7_isPoint mvX7_isPoint (dq dtX7_merged 2 rfl) (by omega) (Nat.le_of_ble_eq_true rfl) (by repeat (first | assumption | exact up_s | rw [up_n (by first | assumption | (apply Ne.symm; assumption) | decide | omega)])) rfl ?_
  refine ct_X7_isPoint h84 (by omega) (by omega) (by assumption) (fun n_2 => ?_) (fun n_2 => ?_)
  · refine P.if_ne (t := 11) (dq dtX7_merged 3 rfl) rfl (by omega) (fun _ => ?_) (fun h9 => absurd h9 (by decide))
    refine P.iload_n (dq dtX7_merged 6 rfl) rfl ?_
    refine P.callS1 (M' := mX7_isWay) (d' := d - 1) mlX7_133 mcX7_isWay msX7_isWay (dq dtX7_merged 7 rfl) (by omega) (Nat.le_of_ble_eq_true rfl) ?_
    refine ct_X7_isWay (by omega) hb (fun n_12 => ?_) (fun n_12 => ?_)
    · refine P.if_eq (t := 25) (dq dtX7_merged 8 rfl) rfl (by omega) (fun h9 => absurd h9 (by decide)) (fun _ => ?_)
      refine P.iload_n (dq dtX7_merged 9 rfl) rfl ?_
      refine P.callS1 (M' := mX7_isErr) (d' := d - 1) mlX7_164 mcX7_isErr msX7_isErr (dq dtX7_merged 10 rfl) (by omega) (Nat.le_of_ble_eq_true rfl) ?_
      refine ct_X7_isErr (by omega) hc (fun n_19 => ?_) (fun n_19 => ?_)
      · refine P.if_ne (t := 28) (dq dtX7_merged 11 rfl) rfl (by omega) (fun _ => ?_) (fun h9 => absurd h9 (by decide))
        have bw : b = 0 ∨ b = 1 := by omega
        have e9 := rfR_z n_2 (show (b = 0 ∨ b = 1) ∧ -40 ≤ c ∧ c ≤ 40 by omega)
        have gA := GMs_add hGm (t := a * 2 + b) (z := c) (by omega) (by omega)
        refine P.aload_n (dq dtX7_merged 14 rfl) rfl ?_
        refine P.iconst (dq dtX7_merged 15 rfl) ?_
        refine P.bipush (dq dtX7_merged 16 rfl) rfl ?_
        refine P.callV2 (M' := mX7_copy) (d' := d - 1) mlX7_156 mcX7_copy mvX7_copy (dq dtX7_merged 17 rfl) (by omega) (Nat.le_of_ble_eq_true rfl) (by repeat (first | assumption | exact up_s | rw [up_n (by first | assumption | (apply Ne.symm; assumption) | decide | omega)])) rfl ?_
        refine ct_X7_copy h84 h85 (by omega) (by omega) ?_
        have hRt : Rw (cpI wf wf 0 117 117) 117 S.now.1 := hW.1.1.c hGm (fun j g0 g1 => by rw [cpI_in (by omega)]; congr 1; omega)
        refine P.aload_n (dq dtX7_merged 18 rfl) rfl ?_
        refine P.bipush (dq dtX7_merged 19 rfl) rfl ?_
        refine P.iload_n (dq dtX7_merged 20 rfl) rfl ?_
        refine P.iload_n (dq dtX7_merged 21 rfl) rfl ?_
        refine P.iload_n (dq dtX7_merged 22 rfl) rfl ?_
        refine P.callV4 (M' := mX7_adds) (d' := d - 1) mlX7_125 mcX7_adds mvX7_adds (dq dtX7_merged 23 rfl) (by omega) (Nat.le_of_ble_eq_true rfl) (by repeat (first | assumption | exact up_s | rw [up_n (by first | assumption | (apply Ne.symm; assumption) | decide | omega)])) rfl ?_
        refine ct_X7_adds (r := 117) (v := S.now.1) (by repeat (first | assumption | exact up_s | rw [up_n (by first | assumption | (apply Ne.symm; assumption) | decide | omega)])) up_s hGm hRt (by omega) n_2 bw (fun wf2 hR2 hout => ?_)
        refine P.aload_n (dq dtX7_merged 24 rfl) rfl ?_
        refine P.bipush (dq dtX7_merged 25 rfl) rfl ?_
        refine P.callV1 (M' := mX7_layTable) (d' := d - 1) mlX7_54 mcX7_layTable mvX7_layTable (dq dtX7_merged 26 rfl) (by omega) (Nat.le_of_ble_eq_true rfl) (by repeat (first | assumption | exact up_s | rw [up_n (by first | assumption | (apply Ne.symm; assumption) | decide | omega)])) rfl ?_
        refine ct_X7_layTable (ro := 117) (v := addM S.now.1 (a * 2 + b) c) (by repeat (first | assumption | exact up_s | rw [up_n (by first | assumption | (apply Ne.symm; assumption) | decide | omega)])) up_s gA hR2 (by omega) rfl rfl (by omega) (by repeat (first | assumption | exact up_s | rw [up_n (by first | assumption | (apply Ne.symm; assumption) | decide | omega)])) (by repeat (first | assumption | exact up_s | rw [up_n (by first | assumption | (apply Ne.symm; assumption) | decide | omega)])) (by repeat (first | assumption | exact up_s | rw [up_n (by first | assumption | (apply Ne.symm; assumption) | decide | omega)])) (by repeat (first | assumption | exact up_s | rw [up_n (by first | assumption | (apply Ne.symm; assumption) | decide | omega)])) (hF' e9) (fun σ2 co pf si to q84 q89 q90 q91 q92 hag fr2 => ?_)
        have hWW : WR S wf2 := hW.c hG (fun i hi => by rw [hout i (by omega)]; exact cpI_out (by omega))
        refine P.aload_n (dq dtX7_merged 27 rfl) rfl ?_
        refine P.get flX7_30 (dq dtX7_merged 28 rfl) (by repeat (first | assumption | exact up_s | rw [up_n (by first | assumption | (apply Ne.symm; assumption) | decide | omega)])) (by rfl) ?_
        refine P.iload_n (dq dtX7_merged 29 rfl) rfl ?_
        refine P.iald (dq dtX7_merged 30 rfl) (by repeat (first | assumption | exact up_s | rw [up_n (by first | assumption | (apply Ne.symm; assumption) | decide | omega)])) (by omega) (by omega) (by omega) ?_
        rw [(hag a n_2.1 n_2.2).1]
        refine P.iret (dq dtX7_merged 31 rfl) rfl rfl rfl ?_
        rw [if_pos e9] at h
        have frX : Fr σ σ2 [84, 85, 89, 90, 91, 92] := Fr.trans (Fr.up (Fr.up Fr.rf (by simp)) (by simp)) (fr2.wide (by simp))
        exact h σ2 ⟨_, _, _, _, _, _, _, _, _, _, _, _, _, _, _, _, q84, (fr2 85 (by decide)).trans up_s, (frX 86 (by decide)).trans h86, (frX 87 (by decide)).trans h87, (frX 88 (by decide)).trans h88, q89, q90, q91, q92, (frX 93 (by decide)).trans h93, (frX 94 (by decide)).trans h94, (frX 95 (by decide)).trans h95, hWW, hL⟩ (frX.wide (by simp))
      · refine P.if_ne (t := 28) (dq dtX7_merged 11 rfl) rfl (by omega) (fun h9 => absurd h9 (by decide)) (fun _ => ?_)
        refine P.ldc (n := -100002) (dq dtX7_merged 12 rfl) kcX7_75 rfl ?_
        refine P.iret (dq dtX7_merged 13 rfl) rfl rfl rfl ?_
        have e9 := rfR_o (b := b) (c := c) n_2 (by omega)
        rw [e9, if_neg (by decide)] at h
        exact h σ hM Fr.rf
    · refine P.if_eq (t := 25) (dq dtX7_merged 8 rfl) rfl (by omega) (fun _ => ?_) (fun h9 => absurd h9 (by decide))
      refine P.ldc (n := -100002) (dq dtX7_merged 12 rfl) kcX7_75 rfl ?_
      refine P.iret (dq dtX7_merged 13 rfl) rfl rfl rfl ?_
      have e9 := rfR_o (b := b) (c := c) n_2 (by omega)
      rw [e9, if_neg (by decide)] at h
      exact h σ hM Fr.rf
  · refine P.if_ne (t := 11) (dq dtX7_merged 3 rfl) rfl (by omega) (fun h9 => absurd h9 (by decide)) (fun _ => ?_)
    refine P.ldc (n := -100001) (dq dtX7_merged 4 rfl) kcX7_163 rfl ?_
    refine P.iret (dq dtX7_merged 5 rfl) rfl rfl rfl ?_
    have e9 := rfR_u (b := b) (c := c) n_2
    rw [e9, if_neg (by decide)] at h
    exact h σ hM Fr.rf
theorem lp_placeM {x : CX} {d N : Nat} {σ : PH} {Q : PQ} {v : MsV} {F : FgV} {u l fi be rp cl dg nu pk wm : Int} (h84 : σ 84 = mdO v.1 v.2.1 u l fi be rp cl dg nu pk wm) {co : Int → Int} (h89 : σ 89 = pcI 0 8 co) (hGm : GMs v) (hag : ∀ i : Int, 0 ≤ i → i < v.1 → co i = F.2.2.2.2.2.2 i) (tB : TB co v.1) (hd : 1 ≤ d) {z : Int} (hz : -200 ≤ z ∧ z ≤ 2000) : ∀ (t : Nat) (n : Int), 0 < t → 0 ≤ n → n + t = (v.1 - 1) * v.2.1 + 2 → Q (some (vI (srF (cntF F.2.2.2.2.2.2 v.1 v.2.1) z (t - 1) n))) σ → P x d mX7_placeOf Q (0, 0) 24 [some (vR 84), some (vI z), some (vI n)] [] N σ := by
  intro t
  induction t with
  | zero =>
    intro n h00 hn ht h
    exfalso; omega
  | succ t ih =>
    intro n h00 hn ht h
    have hp8 := hGm.1
    have hs8 := hGm.2.1
    have hL9 := mul_bd (k := v.1 - 1) (s := v.2.1) (by omega) (by omega) (by omega) (by omega)
    refine P.iload_n (dq dtX7_placeOf 13 rfl) rfl ?_
    refine P.aload_n (dq dtX7_placeOf 14 rfl) rfl ?_
    refine P.callV0 (M' := mX7_last) (d' := d - 1) mlX7_201 mcX7_last mvX7_last (dq dtX7_placeOf 15 rfl) (by omega) (Nat.le_of_ble_eq_true rfl) (by repeat (first | assumption | exact up_s | rw [up_n (by first | assumption | (apply Ne.symm; assumption) | decide | omega)])) rfl ?_
    refine ct_X7_last h84 ?_
    refine P.icmp_gt (t := 49) (dq dtX7_placeOf 16 rfl) rfl (by omega) (by omega) (fun c_29 => ?_) (fun c_29 => ?_)
    · refine P.ldc (n := -100000) (dq dtX7_placeOf 26 rfl) kcX7_170 rfl ?_
      refine P.iret (dq dtX7_placeOf 27 rfl) rfl rfl rfl ?_
      rw [show t + 1 - 1 = 0 by omega] at h
      exact h
    · refine P.aload_n (dq dtX7_placeOf 17 rfl) rfl ?_
      refine P.iload_n (dq dtX7_placeOf 18 rfl) rfl ?_
      refine P.callV1 (M' := mX7_countAt) (d' := d - 1) mlX7_58 mcX7_countAt mvX7_countAt (dq dtX7_placeOf 19 rfl) (by omega) (Nat.le_of_ble_eq_true rfl) (by repeat (first | assumption | exact up_s | rw [up_n (by first | assumption | (apply Ne.symm; assumption) | decide | omega)])) rfl ?_
      have ec := cntF_c hGm.1.1 (show 0 < v.2.1 by omega) (show 0 ≤ n ∧ n ≤ (v.1 - 1) * v.2.1 by omega) hag
      have cb := cntF_b tB hp8 hs8 (show 0 ≤ n ∧ n ≤ (v.1 - 1) * v.2.1 by omega)
      refine ct_X7_countAt h84 h89 hp8 hs8 tB ⟨by omega, by omega⟩ ?_
      refine P.iload_n (dq dtX7_placeOf 20 rfl) rfl ?_
      refine P.icmp_lt (t := 43) (dq dtX7_placeOf 21 rfl) rfl (by omega) (by omega) (fun c_38 => ?_) (fun c_38 => ?_)
      · refine P.iinc (dq dtX7_placeOf 24 rfl) rfl (by decide) rfl rfl ?_
        refine P.goto (t := 24) (dq dtX7_placeOf 25 rfl) rfl ?_
        have h2 : Q (some (vI (srF (cntF F.2.2.2.2.2.2 v.1 v.2.1) z (t - 1) (n + 1)))) σ := by
          rw [show t + 1 - 1 = (t - 1) + 1 by omega] at h
          exact cgQ h (if_neg (by omega))
        exact ih (n + 1) (by omega) (by omega) (by omega) h2
      · refine P.iload_n (dq dtX7_placeOf 22 rfl) rfl ?_
        refine P.iret (dq dtX7_placeOf 23 rfl) rfl rfl rfl ?_
        rw [show t + 1 - 1 = (t - 1) + 1 by omega, srF_hit (by omega)] at h
        exact h
/-- placeOf -/
theorem md_placeOf {x : CM} {d N : Nat} {σ : PH} {Q : PQ} {S : CSt} (hG : CG S) (hM : MD σ S) {F : FgV} (hF : FgR S.now.1 F) (hd : 3 ≤ d) {a : Int} (ha : inR a) (h : ∀ σ' : PH, MD σ' S → Fr σ σ' LM → Q (some (vI (aPof S.now.1 F a))) σ') : Call x d 0 0 mX7_placeOf [vR 84, vI a] N σ Q := by
  refine Call.of mcX7_placeOf (Nat.le_of_ble_eq_true rfl) (fun y hy => ?_)
  subst hy
  obtain ⟨wf, sz, lt, a1, a2, a3, a4, a5, fi, be, rp, cl, dg, nu, pk, wm, h84, h85, h86, h87, h88, h89, h90, h91, h92, h93, h94, h95, hW, hL⟩ := id hM
  have hGm := hG.2.1.1
  have hp := hGm.1
  have hs := hGm.2.1
  have hL9 := mul_bd (k := S.now.1.1 - 1) (s := S.now.1.2.1) (by omega) (by omega) (by omega) (by omega)
  refine P.iload_n (dq dtX7_placeOf 0 rfl) rfl ?_
  refine P.i2l (dq dtX7_placeOf 1 rfl) (by omega) ?_
  refine P.ldc2 (n := -200) (dq dtX7_placeOf 2 rfl) kcX7_204 rfl ?_
  refine P.ldc2 (n := 2000) (dq dtX7_placeOf 3 rfl) kcX7_206 rfl ?_
  refine P.callS3 (M' := mX7_in) (d' := d - 1) mlX7_65 mcX7_in msX7_in (dq dtX7_placeOf 4 rfl) (by omega) (Nat.le_of_ble_eq_true rfl) ?_
  refine ct_X7_in (by omega) (by omega) (by omega) (fun n_8 => ?_) (fun n_8 => ?_)
  · refine P.if_ne (t := 17) (dq dtX7_placeOf 5 rfl) rfl (by omega) (fun _ => ?_) (fun h9 => absurd h9 (by decide))
    refine P.aload_n (dq dtX7_placeOf 8 rfl) rfl ?_
    refine P.iconst (dq dtX7_placeOf 9 rfl) ?_
    refine P.callV1 (M' := mX7_layTable) (d' := d - 1) mlX7_54 mcX7_layTable mvX7_layTable (dq dtX7_placeOf 10 rfl) (by omega) (Nat.le_of_ble_eq_true rfl) (by repeat (first | assumption | exact up_s | rw [up_n (by first | assumption | (apply Ne.symm; assumption) | decide | omega)])) rfl ?_
    refine ct_X7_layTable (ro := 0) h84 h85 hGm hW.1.1 (by omega) rfl rfl (by omega) h89 h90 h91 h92 hF (fun σ2 co pf si to q84 q89 q90 q91 q92 hag fr2 => ?_)
    have q85 := (fr2 85 (by decide)).trans h85
    have q86 := (fr2 86 (by decide)).trans h86
    have q87 := (fr2 87 (by decide)).trans h87
    have q88 := (fr2 88 (by decide)).trans h88
    have q93 := (fr2 93 (by decide)).trans h93
    have q94 := (fr2 94 (by decide)).trans h94
    have q95 := (fr2 95 (by decide)).trans h95
    have hM2 : MD σ2 S := ⟨wf, sz, lt, co, pf, si, to, a5, fi, be, rp, cl, dg, nu, _, wm, q84, q85, q86, q87, q88, q89, q90, q91, q92, q93, q94, q95, hW, hL⟩
    have fm2 : Fr σ σ2 LM := fr2.wide (by simp)
    have tB := (hF.tb hGm).c (fun i g1 g2 => (hag i g1 g2).1)
    refine P.iconst (dq dtX7_placeOf 11 rfl) ?_
    refine P.istore_n (dq dtX7_placeOf 12 rfl) (by decide) rfl rfl ?_
    rw [aPof_sr hGm hF n_8] at h
    exact lp_placeM q84 q89 hGm (fun i g1 g2 => (hag i g1 g2).1) tB (by omega) n_8 ((S.now.1.1 - 1) * S.now.1.2.1 + 2).toNat 0 (by omega) (by omega) (by omega) (cgQ (h σ2 hM2 fm2) (by congr 1; omega))
  · refine P.if_ne (t := 17) (dq dtX7_placeOf 5 rfl) rfl (by omega) (fun h9 => absurd h9 (by decide)) (fun _ => ?_)
    refine P.ldc (n := -100002) (dq dtX7_placeOf 6 rfl) kcX7_75 rfl ?_
    refine P.iret (dq dtX7_placeOf 7 rfl) rfl rfl rfl ?_
    unfold aPof at h
    rw [if_pos n_8] at h
    exact h σ hM Fr.rf
theorem mv_W {S : CSt} {f : Int → Int} {z T A B U : Int} (h : WR (sRem S) f) (hG : CG S) : WR (sNow (sRem S) (S.now.1, z, T, A, B, U)) (upI (upI (upI (upI (upI f 114 A) 115 B) 113 T) 112 z) 116 U) := by
  refine h.new hG.rem ⟨?_, ⟨?_, ?_, ?_, ?_, ?_⟩, rfl, rfl⟩ (fun i hi => ?_)
  · refine Rw.c (f := f) (r := 0) h.1.1 hG.2.1.1 (fun j g0 g1 => ?_)
    rw [upI_n (by omega), upI_n (by omega), upI_n (by omega), upI_n (by omega), upI_n (by omega)]
  · rfl
  · rfl
  · rfl
  · rfl
  · rfl
  · rw [upI_n (by omega), upI_n (by omega), upI_n (by omega), upI_n (by omega), upI_n (by omega)]
theorem mv_fin {σ σ' : PH} {Q : PQ} {S : CSt} {F : FgV} {z T A B U : Int} (h : ∀ σ' : PH, MD σ' (sNow (sRem S) (S.now.1, z, zMov S F z, (if uMov S z = S.now.2.2.2.2.2 then S.now.2.2.2.1 else S.now.2.2.2.1 + 1), S.now.2.2.2.2.1 + (if 0 ≤ zMov S F z - S.now.2.2.1 then zMov S F z - S.now.2.2.1 else -(zMov S F z - S.now.2.2.1)), uMov S z)) → Fr σ σ' LM → Q (some (vI (zMov S F z))) σ')
    (hM : MD σ' (sNow (sRem S) (S.now.1, z, T, A, B, U))) (hF : Fr σ σ' LM) (eT : zMov S F z = T) (eU : uMov S z = U) (eA : (if U = S.now.2.2.2.2.2 then S.now.2.2.2.1 else S.now.2.2.2.1 + 1) = A) (eB : S.now.2.2.2.2.1 + (if 0 ≤ T - S.now.2.2.1 then T - S.now.2.2.1 else -(T - S.now.2.2.1)) = B) : Q (some (vI T)) σ' := by
  subst eT eU eA eB
  exact h σ' hM hF
/-- move -/
theorem md_move {x : CM} {d N : Nat} {σ : PH} {Q : PQ} {S : CSt} (hG : CG S) (hM : MD σ S) {F : FgV} (hF : FgR S.now.1 F) (hd : 4 ≤ d) {z : Int} (hz : inR z) (h : ∀ σ' : PH, MD σ' (sMov S F z) → Fr σ σ' LM → Q (some (vI (aMov S F z))) σ') : Call x d 0 0 mX7_move [vR 84, vI z] N σ Q := by
  refine Call.of mcX7_move (Nat.le_of_ble_eq_true rfl) (fun y hy => ?_)
  subst hy
  obtain ⟨wf, sz, lt, a1, a2, a3, a4, a5, fi, be, rp, cl, dg, nu, pk, wm, h84, h85, h86, h87, h88, h89, h90, h91, h92, h93, h94, h95, hW, hL⟩ := id hM
  have hGm := hG.2.1.1
  have hp := hGm.1
  have hs := hGm.2.1
  have hL9 := mul_bd (k := S.now.1.1 - 1) (s := S.now.1.2.1) (by omega) (by omega) (by omega) (by omega)
  have hpl0 := hG.2.1.2.1
  have hsc0 := hG.2.1.2.2.1
  have hup0 := hG.2.1.2.2.2
  have plB := plc_b hGm
  have ew0 : wf 112 = S.now.2.1 := by have := hW.1.2.1.1; rw [Int.zero_add] at this; exact this
  refine P.iload_n (dq dtX7_move_0 0 rfl) rfl ?_
  refine P.i2l (dq dtX7_move_0 1 rfl) (by omega) ?_
  refine P.lconst (z := 0) (dq dtX7_move_0 2 rfl) rfl ?_
  refine P.aload_n (dq dtX7_move_0 3 rfl) rfl ?_
  refine P.callV0 (M' := mX7_last) (d' := d - 1) mlX7_201 mcX7_last mvX7_last (dq dtX7_move_0 4 rfl) (by omega) (Nat.le_of_ble_eq_true rfl) (by repeat (first | assumption | exact up_s | rw [up_n (by first | assumption | (apply Ne.symm; assumption) | decide | omega)])) rfl ?_
  refine ct_X7_last h84 ?_
  refine P.i2l (dq dtX7_move_0 5 rfl) (by omega) ?_
  refine P.callS3 (M' := mX7_in) (d' := d - 1) mlX7_65 mcX7_in msX7_in (dq dtX7_move_0 6 rfl) (by omega) (Nat.le_of_ble_eq_true rfl) ?_
  refine ct_X7_in (by omega) (by omega) (by omega) (fun n_8 => ?_) (fun n_8 => ?_)
  · refine P.if_ne (t := 17) (dq dtX7_move_0 7 rfl) rfl (by omega) (fun _ => ?_) (fun h9 => absurd h9 (by decide))
    refine P.iload_n (dq dtX7_move_0 10 rfl) rfl ?_
    refine P.aload_n (dq dtX7_move_0 11 rfl) rfl ?_
    refine P.get flX7_16 (dq dtX7_move_0 12 rfl) (by repeat (first | assumption | exact up_s | rw [up_n (by first | assumption | (apply Ne.symm; assumption) | decide | omega)])) (by rfl) ?_
    refine P.bipush (dq dtX7_move_0 13 rfl) rfl ?_
    refine P.iald (dq dtX7_move_0 14 rfl) (by repeat (first | assumption | exact up_s | rw [up_n (by first | assumption | (apply Ne.symm; assumption) | decide | omega)])) (by omega) (by omega) (by omega) ?_
    rw [ew0]
    refine P.icmp_ne (t := 31) (dq dtX7_move_0 15 rfl) rfl (by omega) (by omega) (fun c_25 => ?_) (fun c_25 => ?_)
    · refine P.aload_n (dq dtX7_move_0 18 rfl) rfl ?_
      refine P.callV0 (M' := mX7_minds) (d' := d - 1) mlX7_167 mcX7_minds mvX7_minds (dq dtX7_move_0 19 rfl) (by omega) (Nat.le_of_ble_eq_true rfl) (by repeat (first | assumption | exact up_s | rw [up_n (by first | assumption | (apply Ne.symm; assumption) | decide | omega)])) rfl ?_
      refine ct_X7_minds h84 h85 hG hW rfl (by omega) (fun σ1 wf1 k84 k85 hW1 fr1 => ?_)
      have k86 := (fr1 86 (by decide)).trans h86
      have k87 := (fr1 87 (by decide)).trans h87
      have k88 := (fr1 88 (by decide)).trans h88
      have k89 := (fr1 89 (by decide)).trans h89
      have k90 := (fr1 90 (by decide)).trans h90
      have k91 := (fr1 91 (by decide)).trans h91
      have k92 := (fr1 92 (by decide)).trans h92
      have k93 := (fr1 93 (by decide)).trans h93
      have k94 := (fr1 94 (by decide)).trans h94
      have k95 := (fr1 95 (by decide)).trans h95
      have hW1r : Rw wf1 0 S.now.1 := hW1.1.1
      refine P.aload_n (dq dtX7_move_0 20 rfl) rfl ?_
      refine P.iconst (dq dtX7_move_0 21 rfl) ?_
      refine P.callV1 (M' := mX7_layTable) (d' := d - 1) mlX7_54 mcX7_layTable mvX7_layTable (dq dtX7_move_0 22 rfl) (by omega) (Nat.le_of_ble_eq_true rfl) (by repeat (first | assumption | exact up_s | rw [up_n (by first | assumption | (apply Ne.symm; assumption) | decide | omega)])) rfl ?_
      refine ct_X7_layTable (ro := 0) k84 k85 hGm hW1r (by omega) rfl rfl (by omega) k89 k90 k91 k92 hF (fun σ2 co pf si to q84 q89 q90 q91 q92 hag fr2 => ?_)
      have q85 := (fr2 85 (by decide)).trans k85
      have q86 := (fr2 86 (by decide)).trans k86
      have q87 := (fr2 87 (by decide)).trans k87
      have q88 := (fr2 88 (by decide)).trans k88
      have q93 := (fr2 93 (by decide)).trans k93
      have q94 := (fr2 94 (by decide)).trans k94
      have q95 := (fr2 95 (by decide)).trans k95
      have tB := (hF.tb hGm).c (fun i g1 g2 => (hag i g1 g2).1)
      have ec := cntF_c hp.1 (show 0 < S.now.1.2.1 by omega) n_8 (fun i g1 g2 => (hag i g1 g2).1)
      have cb := cntF_b (hF.tb hGm) hp hs n_8
      obtain ⟨r1, r2, r3, r4, r5⟩ := hW1.1.2.1
      rw [Int.zero_add] at r1 r2 r3 r4 r5
      change wf1 112 = S.now.2.1 at r1
      change wf1 113 = S.now.2.2.1 at r2
      change wf1 114 = S.now.2.2.2.1 at r3
      change wf1 115 = S.now.2.2.2.2.1 at r4
      change wf1 116 = S.now.2.2.2.2.2 at r5
      refine P.iload_n (dq dtX7_move_0 23 rfl) rfl ?_
      refine P.aload_n (dq dtX7_move_0 24 rfl) rfl ?_
      refine P.get flX7_16 (dq dtX7_move_0 25 rfl) (by repeat (first | assumption | exact up_s | rw [up_n (by first | assumption | (apply Ne.symm; assumption) | decide | omega)])) (by rfl) ?_
      refine P.bipush (dq dtX7_move_0 26 rfl) rfl ?_
      refine P.iald (dq dtX7_move_0 27 rfl) (by repeat (first | assumption | exact up_s | rw [up_n (by first | assumption | (apply Ne.symm; assumption) | decide | omega)])) (by omega) (by omega) (by omega) ?_
      rw [r1]
      refine P.icmp_le (t := 55) (dq dtX7_move_0 28 rfl) rfl (by omega) (by omega) (fun c_48 => ?_) (fun c_48 => ?_)
      · refine P.iconst (dq dtX7_move_0 31 rfl) ?_
        refine P.istore_n (dq dtX7_move_0 32 rfl) (by decide) rfl rfl ?_
        refine P.aload_n (dq dtX7_move_0 33 rfl) rfl ?_
        refine P.iload_n (dq dtX7_move_0 34 rfl) rfl ?_
        refine P.callV1 (M' := mX7_countAt) (d' := d - 1) mlX7_58 mcX7_countAt mvX7_countAt (dq dtX7_move_0 35 rfl) (by omega) (Nat.le_of_ble_eq_true rfl) (by repeat (first | assumption | exact up_s | rw [up_n (by first | assumption | (apply Ne.symm; assumption) | decide | omega)])) rfl ?_
        refine ct_X7_countAt q84 q89 hp hs tB n_8 ?_
        rw [ec]
        refine P.iload_n (dq dtX7_move_0 36 rfl) rfl ?_
        refine P.iconst (dq dtX7_move_0 37 rfl) ?_
        refine P.icmp_ne (t := 71) (dq dtX7_move_0 38 rfl) rfl (by omega) (by omega) (fun _ => ?_) (fun h9 => absurd h9 (by decide))
        refine P.aload_n (dq dtX7_move_0 41 rfl) rfl ?_
        refine P.get flX7_185 (dq dtX7_move_0 42 rfl) (by repeat (first | assumption | exact up_s | rw [up_n (by first | assumption | (apply Ne.symm; assumption) | decide | omega)])) (by rfl) ?_
        refine P.isub (dq dtX7_move_0 43 rfl) ?_
        refine P.istore_n (dq dtX7_move_0 44 rfl) (by decide) rfl rfl ?_
        refine P.aload_n (dq dtX7_move_0 45 rfl) rfl ?_
        refine P.get flX7_16 (dq dtX7_move_0 46 rfl) (by repeat (first | assumption | exact up_s | rw [up_n (by first | assumption | (apply Ne.symm; assumption) | decide | omega)])) (by rfl) ?_
        refine P.bipush (dq dtX7_move_0 47 rfl) rfl ?_
        refine P.dup2 (dq dtX7_move_0 48 rfl) rfl rfl ?_
        refine P.iald (dq dtX7_move_0 49 rfl) (by repeat (first | assumption | exact up_s | rw [up_n (by first | assumption | (apply Ne.symm; assumption) | decide | omega)])) (by omega) (by omega) (by omega) ?_
        rw [r3]
        refine P.iload_n (dq dtX7_move_0 50 rfl) rfl ?_
        refine P.aload_n (dq dtX7_move_0 51 rfl) rfl ?_
        refine P.get flX7_16 (dq dtX7_move_0 52 rfl) (by repeat (first | assumption | exact up_s | rw [up_n (by first | assumption | (apply Ne.symm; assumption) | decide | omega)])) (by rfl) ?_
        refine P.bipush (dq dtX7_move_0 53 rfl) rfl ?_
        refine P.iald (dq dtX7_move_0 54 rfl) (by repeat (first | assumption | exact up_s | rw [up_n (by first | assumption | (apply Ne.symm; assumption) | decide | omega)])) (by omega) (by omega) (by omega) ?_
        rw [r5]
        refine P.icmp_ne (t := 100) (dq dtX7_move_0 55 rfl) rfl (by omega) (by omega) (fun c_93 => ?_) (fun c_93 => ?_)
        · refine P.iconst (dq dtX7_move_0 58 rfl) ?_
          refine P.iadd (dq dtX7_move_0 59 rfl) ?_
          refine P.iast (dq dtX7_move_0 60 rfl) (by repeat (first | assumption | exact up_s | rw [up_n (by first | assumption | (apply Ne.symm; assumption) | decide | omega)])) (by omega) (by omega) (by omega) ?_
          refine P.aload_n (dq dtX7_move_0 61 rfl) rfl ?_
          refine P.get flX7_16 (dq dtX7_move_0 62 rfl) (by repeat (first | assumption | exact up_s | rw [up_n (by first | assumption | (apply Ne.symm; assumption) | decide | omega)])) (by rfl) ?_
          refine P.bipush (dq dtX7_move_0 63 rfl) rfl ?_
          refine P.dup2 (dq dtX7_move_1 0 rfl) rfl rfl ?_
          refine P.iald (dq dtX7_move_1 1 rfl) (by repeat (first | assumption | exact up_s | rw [up_n (by first | assumption | (apply Ne.symm; assumption) | decide | omega)])) (by omega) (by omega) (by omega) ?_
          rw [upI_n (show (115 : Int) ≠ 114 by decide), r4]
          refine P.iload_n (dq dtX7_move_1 2 rfl) rfl ?_
          refine P.aload_n (dq dtX7_move_1 3 rfl) rfl ?_
          refine P.get flX7_16 (dq dtX7_move_1 4 rfl) (by repeat (first | assumption | exact up_s | rw [up_n (by first | assumption | (apply Ne.symm; assumption) | decide | omega)])) (by rfl) ?_
          refine P.bipush (dq dtX7_move_1 5 rfl) rfl ?_
          refine P.iald (dq dtX7_move_1 6 rfl) (by repeat (first | assumption | exact up_s | rw [up_n (by first | assumption | (apply Ne.symm; assumption) | decide | omega)])) (by omega) (by omega) (by omega) ?_
          rw [upI_n (show (113 : Int) ≠ 114 by decide), r2]
          refine P.icmp_ge (t := 134) (dq dtX7_move_1 7 rfl) rfl (by omega) (by omega) (fun c_119 => ?_) (fun c_119 => ?_)
          · refine P.iload_n (dq dtX7_move_1 15 rfl) rfl ?_
            refine P.aload_n (dq dtX7_move_1 16 rfl) rfl ?_
            refine P.get flX7_16 (dq dtX7_move_1 17 rfl) (by repeat (first | assumption | exact up_s | rw [up_n (by first | assumption | (apply Ne.symm; assumption) | decide | omega)])) (by rfl) ?_
            refine P.bipush (dq dtX7_move_1 18 rfl) rfl ?_
            refine P.iald (dq dtX7_move_1 19 rfl) (by repeat (first | assumption | exact up_s | rw [up_n (by first | assumption | (apply Ne.symm; assumption) | decide | omega)])) (by omega) (by omega) (by omega) ?_
            rw [upI_n (show (113 : Int) ≠ 114 by decide), r2]
            refine P.isub (dq dtX7_move_1 20 rfl) ?_
            refine P.iadd (dq dtX7_move_1 21 rfl) ?_
            refine P.iast (dq dtX7_move_1 22 rfl) (by repeat (first | assumption | exact up_s | rw [up_n (by first | assumption | (apply Ne.symm; assumption) | decide | omega)])) (by omega) (by omega) (by omega) ?_
            refine P.aload_n (dq dtX7_move_1 23 rfl) rfl ?_
            refine P.get flX7_16 (dq dtX7_move_1 24 rfl) (by repeat (first | assumption | exact up_s | rw [up_n (by first | assumption | (apply Ne.symm; assumption) | decide | omega)])) (by rfl) ?_
            refine P.bipush (dq dtX7_move_1 25 rfl) rfl ?_
            refine P.iload_n (dq dtX7_move_1 26 rfl) rfl ?_
            refine P.iast (dq dtX7_move_1 27 rfl) (by repeat (first | assumption | exact up_s | rw [up_n (by first | assumption | (apply Ne.symm; assumption) | decide | omega)])) (by omega) (by omega) (by omega) ?_
            refine P.aload_n (dq dtX7_move_1 28 rfl) rfl ?_
            refine P.get flX7_16 (dq dtX7_move_1 29 rfl) (by repeat (first | assumption | exact up_s | rw [up_n (by first | assumption | (apply Ne.symm; assumption) | decide | omega)])) (by rfl) ?_
            refine P.bipush (dq dtX7_move_1 30 rfl) rfl ?_
            refine P.iload_n (dq dtX7_move_1 31 rfl) rfl ?_
            refine P.iast (dq dtX7_move_1 32 rfl) (by repeat (first | assumption | exact up_s | rw [up_n (by first | assumption | (apply Ne.symm; assumption) | decide | omega)])) (by omega) (by omega) (by omega) ?_
            refine P.aload_n (dq dtX7_move_1 33 rfl) rfl ?_
            refine P.get flX7_16 (dq dtX7_move_1 34 rfl) (by repeat (first | assumption | exact up_s | rw [up_n (by first | assumption | (apply Ne.symm; assumption) | decide | omega)])) (by rfl) ?_
            refine P.bipush (dq dtX7_move_1 35 rfl) rfl ?_
            refine P.iload_n (dq dtX7_move_1 36 rfl) rfl ?_
            refine P.iast (dq dtX7_move_1 37 rfl) (by repeat (first | assumption | exact up_s | rw [up_n (by first | assumption | (apply Ne.symm; assumption) | decide | omega)])) (by omega) (by omega) (by omega) ?_
            refine P.iload_n (dq dtX7_move_1 38 rfl) rfl ?_
            refine P.iret (dq dtX7_move_1 39 rfl) rfl rfl rfl ?_
            simp only [aMov, sMov, if_neg (show ¬ ¬ (0 ≤ z ∧ z ≤ (S.now.1.1 - 1) * S.now.1.2.1) from fun q => q n_8), if_neg c_25, if_pos (show (0 ≤ z ∧ z ≤ (S.now.1.1 - 1) * S.now.1.2.1) ∧ z ≠ S.now.2.1 from ⟨n_8, c_25⟩)] at h
            rw [up_up, up_up, up_up, up_up]
            refine mv_fin h ⟨_, _, _, _, _, _, _, _, _, _, _, _, _, _, _, _, (by repeat (first | assumption | exact up_s | rw [up_n (by first | assumption | (apply Ne.symm; assumption) | decide | omega)])), (by repeat (first | assumption | exact up_s | rw [up_n (by first | assumption | (apply Ne.symm; assumption) | decide | omega)])), (by repeat (first | assumption | exact up_s | rw [up_n (by first | assumption | (apply Ne.symm; assumption) | decide | omega)])), (by repeat (first | assumption | exact up_s | rw [up_n (by first | assumption | (apply Ne.symm; assumption) | decide | omega)])), (by repeat (first | assumption | exact up_s | rw [up_n (by first | assumption | (apply Ne.symm; assumption) | decide | omega)])), (by repeat (first | assumption | exact up_s | rw [up_n (by first | assumption | (apply Ne.symm; assumption) | decide | omega)])), (by repeat (first | assumption | exact up_s | rw [up_n (by first | assumption | (apply Ne.symm; assumption) | decide | omega)])), (by repeat (first | assumption | exact up_s | rw [up_n (by first | assumption | (apply Ne.symm; assumption) | decide | omega)])), (by repeat (first | assumption | exact up_s | rw [up_n (by first | assumption | (apply Ne.symm; assumption) | decide | omega)])), (by repeat (first | assumption | exact up_s | rw [up_n (by first | assumption | (apply Ne.symm; assumption) | decide | omega)])), (by repeat (first | assumption | exact up_s | rw [up_n (by first | assumption | (apply Ne.symm; assumption) | decide | omega)])), (by repeat (first | assumption | exact up_s | rw [up_n (by first | assumption | (apply Ne.symm; assumption) | decide | omega)])), (mv_W hW1 hG), hL⟩ (Fr.trans (Fr.trans (fr1.wide (by simp)) (fr2.wide (by simp))) (by repeat (first | assumption | exact Fr.rf | refine Fr.up ?_ (by simp)))) ?_ ?_ ?_ ?_
            · unfold zMov
              first | (rw [if_pos (by omega)]; omega) | rw [if_neg (by omega)]
            · unfold uMov
              first | exact if_pos (by omega) | exact if_neg (by omega)
            · first | (rw [if_pos (by omega)]; omega) | rw [if_neg (by omega)]
            · first | (rw [if_pos (by omega)]; done) | (rw [if_neg (by omega)]; omega)
          · refine P.aload_n (dq dtX7_move_1 8 rfl) rfl ?_
            refine P.get flX7_16 (dq dtX7_move_1 9 rfl) (by repeat (first | assumption | exact up_s | rw [up_n (by first | assumption | (apply Ne.symm; assumption) | decide | omega)])) (by rfl) ?_
            refine P.bipush (dq dtX7_move_1 10 rfl) rfl ?_
            refine P.iald (dq dtX7_move_1 11 rfl) (by repeat (first | assumption | exact up_s | rw [up_n (by first | assumption | (apply Ne.symm; assumption) | decide | omega)])) (by omega) (by omega) (by omega) ?_
            rw [upI_n (show (113 : Int) ≠ 114 by decide), r2]
            refine P.iload_n (dq dtX7_move_1 12 rfl) rfl ?_
            refine P.isub (dq dtX7_move_1 13 rfl) ?_
            refine P.goto (t := 143) (dq dtX7_move_1 14 rfl) rfl ?_
            refine P.iadd (dq dtX7_move_1 21 rfl) ?_
            refine P.iast (dq dtX7_move_1 22 rfl) (by repeat (first | assumption | exact up_s | rw [up_n (by first | assumption | (apply Ne.symm; assumption) | decide | omega)])) (by omega) (by omega) (by omega) ?_
            refine P.aload_n (dq dtX7_move_1 23 rfl) rfl ?_
            refine P.get flX7_16 (dq dtX7_move_1 24 rfl) (by repeat (first | assumption | exact up_s | rw [up_n (by first | assumption | (apply Ne.symm; assumption) | decide | omega)])) (by rfl) ?_
            refine P.bipush (dq dtX7_move_1 25 rfl) rfl ?_
            refine P.iload_n (dq dtX7_move_1 26 rfl) rfl ?_
            refine P.iast (dq dtX7_move_1 27 rfl) (by repeat (first | assumption | exact up_s | rw [up_n (by first | assumption | (apply Ne.symm; assumption) | decide | omega)])) (by omega) (by omega) (by omega) ?_
            refine P.aload_n (dq dtX7_move_1 28 rfl) rfl ?_
            refine P.get flX7_16 (dq dtX7_move_1 29 rfl) (by repeat (first | assumption | exact up_s | rw [up_n (by first | assumption | (apply Ne.symm; assumption) | decide | omega)])) (by rfl) ?_
            refine P.bipush (dq dtX7_move_1 30 rfl) rfl ?_
            refine P.iload_n (dq dtX7_move_1 31 rfl) rfl ?_
            refine P.iast (dq dtX7_move_1 32 rfl) (by repeat (first | assumption | exact up_s | rw [up_n (by first | assumption | (apply Ne.symm; assumption) | decide | omega)])) (by omega) (by omega) (by omega) ?_
            refine P.aload_n (dq dtX7_move_1 33 rfl) rfl ?_
            refine P.get flX7_16 (dq dtX7_move_1 34 rfl) (by repeat (first | assumption | exact up_s | rw [up_n (by first | assumption | (apply Ne.symm; assumption) | decide | omega)])) (by rfl) ?_
            refine P.bipush (dq dtX7_move_1 35 rfl) rfl ?_
            refine P.iload_n (dq dtX7_move_1 36 rfl) rfl ?_
            refine P.iast (dq dtX7_move_1 37 rfl) (by repeat (first | assumption | exact up_s | rw [up_n (by first | assumption | (apply Ne.symm; assumption) | decide | omega)])) (by omega) (by omega) (by omega) ?_
            refine P.iload_n (dq dtX7_move_1 38 rfl) rfl ?_
            refine P.iret (dq dtX7_move_1 39 rfl) rfl rfl rfl ?_
            simp only [aMov, sMov, if_neg (show ¬ ¬ (0 ≤ z ∧ z ≤ (S.now.1.1 - 1) * S.now.1.2.1) from fun q => q n_8), if_neg c_25, if_pos (show (0 ≤ z ∧ z ≤ (S.now.1.1 - 1) * S.now.1.2.1) ∧ z ≠ S.now.2.1 from ⟨n_8, c_25⟩)] at h
            rw [up_up, up_up, up_up, up_up]
            refine mv_fin h ⟨_, _, _, _, _, _, _, _, _, _, _, _, _, _, _, _, (by repeat (first | assumption | exact up_s | rw [up_n (by first | assumption | (apply Ne.symm; assumption) | decide | omega)])), (by repeat (first | assumption | exact up_s | rw [up_n (by first | assumption | (apply Ne.symm; assumption) | decide | omega)])), (by repeat (first | assumption | exact up_s | rw [up_n (by first | assumption | (apply Ne.symm; assumption) | decide | omega)])), (by repeat (first | assumption | exact up_s | rw [up_n (by first | assumption | (apply Ne.symm; assumption) | decide | omega)])), (by repeat (first | assumption | exact up_s | rw [up_n (by first | assumption | (apply Ne.symm; assumption) | decide | omega)])), (by repeat (first | assumption | exact up_s | rw [up_n (by first | assumption | (apply Ne.symm; assumption) | decide | omega)])), (by repeat (first | assumption | exact up_s | rw [up_n (by first | assumption | (apply Ne.symm; assumption) | decide | omega)])), (by repeat (first | assumption | exact up_s | rw [up_n (by first | assumption | (apply Ne.symm; assumption) | decide | omega)])), (by repeat (first | assumption | exact up_s | rw [up_n (by first | assumption | (apply Ne.symm; assumption) | decide | omega)])), (by repeat (first | assumption | exact up_s | rw [up_n (by first | assumption | (apply Ne.symm; assumption) | decide | omega)])), (by repeat (first | assumption | exact up_s | rw [up_n (by first | assumption | (apply Ne.symm; assumption) | decide | omega)])), (by repeat (first | assumption | exact up_s | rw [up_n (by first | assumption | (apply Ne.symm; assumption) | decide | omega)])), (mv_W hW1 hG), hL⟩ (Fr.trans (Fr.trans (fr1.wide (by simp)) (fr2.wide (by simp))) (by repeat (first | assumption | exact Fr.rf | refine Fr.up ?_ (by simp)))) ?_ ?_ ?_ ?_
            · unfold zMov
              first | (rw [if_pos (by omega)]; omega) | rw [if_neg (by omega)]
            · unfold uMov
              first | exact if_pos (by omega) | exact if_neg (by omega)
            · first | (rw [if_pos (by omega)]; omega) | rw [if_neg (by omega)]
            · first | (rw [if_pos (by omega)]; done) | (rw [if_neg (by omega)]; omega)
        · refine P.iconst (dq dtX7_move_0 56 rfl) ?_
          refine P.goto (t := 101) (dq dtX7_move_0 57 rfl) rfl ?_
          refine P.iadd (dq dtX7_move_0 59 rfl) ?_
          refine P.iast (dq dtX7_move_0 60 rfl) (by repeat (first | assumption | exact up_s | rw [up_n (by first | assumption | (apply Ne.symm; assumption) | decide | omega)])) (by omega) (by omega) (by omega) ?_
          refine P.aload_n (dq dtX7_move_0 61 rfl) rfl ?_
          refine P.get flX7_16 (dq dtX7_move_0 62 rfl) (by repeat (first | assumption | exact up_s | rw [up_n (by first | assumption | (apply Ne.symm; assumption) | decide | omega)])) (by rfl) ?_
          refine P.bipush (dq dtX7_move_0 63 rfl) rfl ?_
          refine P.dup2 (dq dtX7_move_1 0 rfl) rfl rfl ?_
          refine P.iald (dq dtX7_move_1 1 rfl) (by repeat (first | assumption | exact up_s | rw [up_n (by first | assumption | (apply Ne.symm; assumption) | decide | omega)])) (by omega) (by omega) (by omega) ?_
          rw [upI_n (show (115 : Int) ≠ 114 by decide), r4]
          refine P.iload_n (dq dtX7_move_1 2 rfl) rfl ?_
          refine P.aload_n (dq dtX7_move_1 3 rfl) rfl ?_
          refine P.get flX7_16 (dq dtX7_move_1 4 rfl) (by repeat (first | assumption | exact up_s | rw [up_n (by first | assumption | (apply Ne.symm; assumption) | decide | omega)])) (by rfl) ?_
          refine P.bipush (dq dtX7_move_1 5 rfl) rfl ?_
          refine P.iald (dq dtX7_move_1 6 rfl) (by repeat (first | assumption | exact up_s | rw [up_n (by first | assumption | (apply Ne.symm; assumption) | decide | omega)])) (by omega) (by omega) (by omega) ?_
          rw [upI_n (show (113 : Int) ≠ 114 by decide), r2]
          refine P.icmp_ge (t := 134) (dq dtX7_move_1 7 rfl) rfl (by omega) (by omega) (fun c_119 => ?_) (fun c_119 => ?_)
          · refine P.iload_n (dq dtX7_move_1 15 rfl) rfl ?_
            refine P.aload_n (dq dtX7_move_1 16 rfl) rfl ?_
            refine P.get flX7_16 (dq dtX7_move_1 17 rfl) (by repeat (first | assumption | exact up_s | rw [up_n (by first | assumption | (apply Ne.symm; assumption) | decide | omega)])) (by rfl) ?_
            refine P.bipush (dq dtX7_move_1 18 rfl) rfl ?_
            refine P.iald (dq dtX7_move_1 19 rfl) (by repeat (first | assumption | exact up_s | rw [up_n (by first | assumption | (apply Ne.symm; assumption) | decide | omega)])) (by omega) (by omega) (by omega) ?_
            rw [upI_n (show (113 : Int) ≠ 114 by decide), r2]
            refine P.isub (dq dtX7_move_1 20 rfl) ?_
            refine P.iadd (dq dtX7_move_1 21 rfl) ?_
            refine P.iast (dq dtX7_move_1 22 rfl) (by repeat (first | assumption | exact up_s | rw [up_n (by first | assumption | (apply Ne.symm; assumption) | decide | omega)])) (by omega) (by omega) (by omega) ?_
            refine P.aload_n (dq dtX7_move_1 23 rfl) rfl ?_
            refine P.get flX7_16 (dq dtX7_move_1 24 rfl) (by repeat (first | assumption | exact up_s | rw [up_n (by first | assumption | (apply Ne.symm; assumption) | decide | omega)])) (by rfl) ?_
            refine P.bipush (dq dtX7_move_1 25 rfl) rfl ?_
            refine P.iload_n (dq dtX7_move_1 26 rfl) rfl ?_
            refine P.iast (dq dtX7_move_1 27 rfl) (by repeat (first | assumption | exact up_s | rw [up_n (by first | assumption | (apply Ne.symm; assumption) | decide | omega)])) (by omega) (by omega) (by omega) ?_
            refine P.aload_n (dq dtX7_move_1 28 rfl) rfl ?_
            refine P.get flX7_16 (dq dtX7_move_1 29 rfl) (by repeat (first | assumption | exact up_s | rw [up_n (by first | assumption | (apply Ne.symm; assumption) | decide | omega)])) (by rfl) ?_
            refine P.bipush (dq dtX7_move_1 30 rfl) rfl ?_
            refine P.iload_n (dq dtX7_move_1 31 rfl) rfl ?_
            refine P.iast (dq dtX7_move_1 32 rfl) (by repeat (first | assumption | exact up_s | rw [up_n (by first | assumption | (apply Ne.symm; assumption) | decide | omega)])) (by omega) (by omega) (by omega) ?_
            refine P.aload_n (dq dtX7_move_1 33 rfl) rfl ?_
            refine P.get flX7_16 (dq dtX7_move_1 34 rfl) (by repeat (first | assumption | exact up_s | rw [up_n (by first | assumption | (apply Ne.symm; assumption) | decide | omega)])) (by rfl) ?_
            refine P.bipush (dq dtX7_move_1 35 rfl) rfl ?_
            refine P.iload_n (dq dtX7_move_1 36 rfl) rfl ?_
            refine P.iast (dq dtX7_move_1 37 rfl) (by repeat (first | assumption | exact up_s | rw [up_n (by first | assumption | (apply Ne.symm; assumption) | decide | omega)])) (by omega) (by omega) (by omega) ?_
            refine P.iload_n (dq dtX7_move_1 38 rfl) rfl ?_
            refine P.iret (dq dtX7_move_1 39 rfl) rfl rfl rfl ?_
            simp only [aMov, sMov, if_neg (show ¬ ¬ (0 ≤ z ∧ z ≤ (S.now.1.1 - 1) * S.now.1.2.1) from fun q => q n_8), if_neg c_25, if_pos (show (0 ≤ z ∧ z ≤ (S.now.1.1 - 1) * S.now.1.2.1) ∧ z ≠ S.now.2.1 from ⟨n_8, c_25⟩)] at h
            rw [up_up, up_up, up_up, up_up]
            refine mv_fin h ⟨_, _, _, _, _, _, _, _, _, _, _, _, _, _, _, _, (by repeat (first | assumption | exact up_s | rw [up_n (by first | assumption | (apply Ne.symm; assumption) | decide | omega)])), (by repeat (first | assumption | exact up_s | rw [up_n (by first | assumption | (apply Ne.symm; assumption) | decide | omega)])), (by repeat (first | assumption | exact up_s | rw [up_n (by first | assumption | (apply Ne.symm; assumption) | decide | omega)])), (by repeat (first | assumption | exact up_s | rw [up_n (by first | assumption | (apply Ne.symm; assumption) | decide | omega)])), (by repeat (first | assumption | exact up_s | rw [up_n (by first | assumption | (apply Ne.symm; assumption) | decide | omega)])), (by repeat (first | assumption | exact up_s | rw [up_n (by first | assumption | (apply Ne.symm; assumption) | decide | omega)])), (by repeat (first | assumption | exact up_s | rw [up_n (by first | assumption | (apply Ne.symm; assumption) | decide | omega)])), (by repeat (first | assumption | exact up_s | rw [up_n (by first | assumption | (apply Ne.symm; assumption) | decide | omega)])), (by repeat (first | assumption | exact up_s | rw [up_n (by first | assumption | (apply Ne.symm; assumption) | decide | omega)])), (by repeat (first | assumption | exact up_s | rw [up_n (by first | assumption | (apply Ne.symm; assumption) | decide | omega)])), (by repeat (first | assumption | exact up_s | rw [up_n (by first | assumption | (apply Ne.symm; assumption) | decide | omega)])), (by repeat (first | assumption | exact up_s | rw [up_n (by first | assumption | (apply Ne.symm; assumption) | decide | omega)])), (mv_W hW1 hG), hL⟩ (Fr.trans (Fr.trans (fr1.wide (by simp)) (fr2.wide (by simp))) (by repeat (first | assumption | exact Fr.rf | refine Fr.up ?_ (by simp)))) ?_ ?_ ?_ ?_
            · unfold zMov
              first | (rw [if_pos (by omega)]; omega) | rw [if_neg (by omega)]
            · unfold uMov
              first | exact if_pos (by omega) | exact if_neg (by omega)
            · first | (rw [if_pos (by omega)]; omega) | rw [if_neg (by omega)]
            · first | (rw [if_pos (by omega)]; done) | (rw [if_neg (by omega)]; omega)
          · refine P.aload_n (dq dtX7_move_1 8 rfl) rfl ?_
            refine P.get flX7_16 (dq dtX7_move_1 9 rfl) (by repeat (first | assumption | exact up_s | rw [up_n (by first | assumption | (apply Ne.symm; assumption) | decide | omega)])) (by rfl) ?_
            refine P.bipush (dq dtX7_move_1 10 rfl) rfl ?_
            refine P.iald (dq dtX7_move_1 11 rfl) (by repeat (first | assumption | exact up_s | rw [up_n (by first | assumption | (apply Ne.symm; assumption) | decide | omega)])) (by omega) (by omega) (by omega) ?_
            rw [upI_n (show (113 : Int) ≠ 114 by decide), r2]
            refine P.iload_n (dq dtX7_move_1 12 rfl) rfl ?_
            refine P.isub (dq dtX7_move_1 13 rfl) ?_
            refine P.goto (t := 143) (dq dtX7_move_1 14 rfl) rfl ?_
            refine P.iadd (dq dtX7_move_1 21 rfl) ?_
            refine P.iast (dq dtX7_move_1 22 rfl) (by repeat (first | assumption | exact up_s | rw [up_n (by first | assumption | (apply Ne.symm; assumption) | decide | omega)])) (by omega) (by omega) (by omega) ?_
            refine P.aload_n (dq dtX7_move_1 23 rfl) rfl ?_
            refine P.get flX7_16 (dq dtX7_move_1 24 rfl) (by repeat (first | assumption | exact up_s | rw [up_n (by first | assumption | (apply Ne.symm; assumption) | decide | omega)])) (by rfl) ?_
            refine P.bipush (dq dtX7_move_1 25 rfl) rfl ?_
            refine P.iload_n (dq dtX7_move_1 26 rfl) rfl ?_
            refine P.iast (dq dtX7_move_1 27 rfl) (by repeat (first | assumption | exact up_s | rw [up_n (by first | assumption | (apply Ne.symm; assumption) | decide | omega)])) (by omega) (by omega) (by omega) ?_
            refine P.aload_n (dq dtX7_move_1 28 rfl) rfl ?_
            refine P.get flX7_16 (dq dtX7_move_1 29 rfl) (by repeat (first | assumption | exact up_s | rw [up_n (by first | assumption | (apply Ne.symm; assumption) | decide | omega)])) (by rfl) ?_
            refine P.bipush (dq dtX7_move_1 30 rfl) rfl ?_
            refine P.iload_n (dq dtX7_move_1 31 rfl) rfl ?_
            refine P.iast (dq dtX7_move_1 32 rfl) (by repeat (first | assumption | exact up_s | rw [up_n (by first | assumption | (apply Ne.symm; assumption) | decide | omega)])) (by omega) (by omega) (by omega) ?_
            refine P.aload_n (dq dtX7_move_1 33 rfl) rfl ?_
            refine P.get flX7_16 (dq dtX7_move_1 34 rfl) (by repeat (first | assumption | exact up_s | rw [up_n (by first | assumption | (apply Ne.symm; assumption) | decide | omega)])) (by rfl) ?_
            refine P.bipush (dq dtX7_move_1 35 rfl) rfl ?_
            refine P.iload_n (dq dtX7_move_1 36 rfl) rfl ?_
            refine P.iast (dq dtX7_move_1 37 rfl) (by repeat (first | assumption | exact up_s | rw [up_n (by first | assumption | (apply Ne.symm; assumption) | decide | omega)])) (by omega) (by omega) (by omega) ?_
            refine P.iload_n (dq dtX7_move_1 38 rfl) rfl ?_
            refine P.iret (dq dtX7_move_1 39 rfl) rfl rfl rfl ?_
            simp only [aMov, sMov, if_neg (show ¬ ¬ (0 ≤ z ∧ z ≤ (S.now.1.1 - 1) * S.now.1.2.1) from fun q => q n_8), if_neg c_25, if_pos (show (0 ≤ z ∧ z ≤ (S.now.1.1 - 1) * S.now.1.2.1) ∧ z ≠ S.now.2.1 from ⟨n_8, c_25⟩)] at h
            rw [up_up, up_up, up_up, up_up]
            refine mv_fin h ⟨_, _, _, _, _, _, _, _, _, _, _, _, _, _, _, _, (by repeat (first | assumption | exact up_s | rw [up_n (by first | assumption | (apply Ne.symm; assumption) | decide | omega)])), (by repeat (first | assumption | exact up_s | rw [up_n (by first | assumption | (apply Ne.symm; assumption) | decide | omega)])), (by repeat (first | assumption | exact up_s | rw [up_n (by first | assumption | (apply Ne.symm; assumption) | decide | omega)])), (by repeat (first | assumption | exact up_s | rw [up_n (by first | assumption | (apply Ne.symm; assumption) | decide | omega)])), (by repeat (first | assumption | exact up_s | rw [up_n (by first | assumption | (apply Ne.symm; assumption) | decide | omega)])), (by repeat (first | assumption | exact up_s | rw [up_n (by first | assumption | (apply Ne.symm; assumption) | decide | omega)])), (by repeat (first | assumption | exact up_s | rw [up_n (by first | assumption | (apply Ne.symm; assumption) | decide | omega)])), (by repeat (first | assumption | exact up_s | rw [up_n (by first | assumption | (apply Ne.symm; assumption) | decide | omega)])), (by repeat (first | assumption | exact up_s | rw [up_n (by first | assumption | (apply Ne.symm; assumption) | decide | omega)])), (by repeat (first | assumption | exact up_s | rw [up_n (by first | assumption | (apply Ne.symm; assumption) | decide | omega)])), (by repeat (first | assumption | exact up_s | rw [up_n (by first | assumption | (apply Ne.symm; assumption) | decide | omega)])), (by repeat (first | assumption | exact up_s | rw [up_n (by first | assumption | (apply Ne.symm; assumption) | decide | omega)])), (mv_W hW1 hG), hL⟩ (Fr.trans (Fr.trans (fr1.wide (by simp)) (fr2.wide (by simp))) (by repeat (first | assumption | exact Fr.rf | refine Fr.up ?_ (by simp)))) ?_ ?_ ?_ ?_
            · unfold zMov
              first | (rw [if_pos (by omega)]; omega) | rw [if_neg (by omega)]
            · unfold uMov
              first | exact if_pos (by omega) | exact if_neg (by omega)
            · first | (rw [if_pos (by omega)]; omega) | rw [if_neg (by omega)]
            · first | (rw [if_pos (by omega)]; done) | (rw [if_neg (by omega)]; omega)
      · refine P.iconst (dq dtX7_move_0 29 rfl) ?_
        refine P.goto (t := 56) (dq dtX7_move_0 30 rfl) rfl ?_
        refine P.istore_n (dq dtX7_move_0 32 rfl) (by decide) rfl rfl ?_
        refine P.aload_n (dq dtX7_move_0 33 rfl) rfl ?_
        refine P.iload_n (dq dtX7_move_0 34 rfl) rfl ?_
        refine P.callV1 (M' := mX7_countAt) (d' := d - 1) mlX7_58 mcX7_countAt mvX7_countAt (dq dtX7_move_0 35 rfl) (by omega) (Nat.le_of_ble_eq_true rfl) (by repeat (first | assumption | exact up_s | rw [up_n (by first | assumption | (apply Ne.symm; assumption) | decide | omega)])) rfl ?_
        refine ct_X7_countAt q84 q89 hp hs tB n_8 ?_
        rw [ec]
        refine P.iload_n (dq dtX7_move_0 36 rfl) rfl ?_
        refine P.iconst (dq dtX7_move_0 37 rfl) ?_
        refine P.icmp_ne (t := 71) (dq dtX7_move_0 38 rfl) rfl (by omega) (by omega) (fun h9 => absurd h9 (by decide)) (fun _ => ?_)
        refine P.iconst (dq dtX7_move_0 39 rfl) ?_
        refine P.goto (t := 75) (dq dtX7_move_0 40 rfl) rfl ?_
        refine P.isub (dq dtX7_move_0 43 rfl) ?_
        refine P.istore_n (dq dtX7_move_0 44 rfl) (by decide) rfl rfl ?_
        refine P.aload_n (dq dtX7_move_0 45 rfl) rfl ?_
        refine P.get flX7_16 (dq dtX7_move_0 46 rfl) (by repeat (first | assumption | exact up_s | rw [up_n (by first | assumption | (apply Ne.symm; assumption) | decide | omega)])) (by rfl) ?_
        refine P.bipush (dq dtX7_move_0 47 rfl) rfl ?_
        refine P.dup2 (dq dtX7_move_0 48 rfl) rfl rfl ?_
        refine P.iald (dq dtX7_move_0 49 rfl) (by repeat (first | assumption | exact up_s | rw [up_n (by first | assumption | (apply Ne.symm; assumption) | decide | omega)])) (by omega) (by omega) (by omega) ?_
        rw [r3]
        refine P.iload_n (dq dtX7_move_0 50 rfl) rfl ?_
        refine P.aload_n (dq dtX7_move_0 51 rfl) rfl ?_
        refine P.get flX7_16 (dq dtX7_move_0 52 rfl) (by repeat (first | assumption | exact up_s | rw [up_n (by first | assumption | (apply Ne.symm; assumption) | decide | omega)])) (by rfl) ?_
        refine P.bipush (dq dtX7_move_0 53 rfl) rfl ?_
        refine P.iald (dq dtX7_move_0 54 rfl) (by repeat (first | assumption | exact up_s | rw [up_n (by first | assumption | (apply Ne.symm; assumption) | decide | omega)])) (by omega) (by omega) (by omega) ?_
        rw [r5]
        refine P.icmp_ne (t := 100) (dq dtX7_move_0 55 rfl) rfl (by omega) (by omega) (fun c_93 => ?_) (fun c_93 => ?_)
        · refine P.iconst (dq dtX7_move_0 58 rfl) ?_
          refine P.iadd (dq dtX7_move_0 59 rfl) ?_
          refine P.iast (dq dtX7_move_0 60 rfl) (by repeat (first | assumption | exact up_s | rw [up_n (by first | assumption | (apply Ne.symm; assumption) | decide | omega)])) (by omega) (by omega) (by omega) ?_
          refine P.aload_n (dq dtX7_move_0 61 rfl) rfl ?_
          refine P.get flX7_16 (dq dtX7_move_0 62 rfl) (by repeat (first | assumption | exact up_s | rw [up_n (by first | assumption | (apply Ne.symm; assumption) | decide | omega)])) (by rfl) ?_
          refine P.bipush (dq dtX7_move_0 63 rfl) rfl ?_
          refine P.dup2 (dq dtX7_move_1 0 rfl) rfl rfl ?_
          refine P.iald (dq dtX7_move_1 1 rfl) (by repeat (first | assumption | exact up_s | rw [up_n (by first | assumption | (apply Ne.symm; assumption) | decide | omega)])) (by omega) (by omega) (by omega) ?_
          rw [upI_n (show (115 : Int) ≠ 114 by decide), r4]
          refine P.iload_n (dq dtX7_move_1 2 rfl) rfl ?_
          refine P.aload_n (dq dtX7_move_1 3 rfl) rfl ?_
          refine P.get flX7_16 (dq dtX7_move_1 4 rfl) (by repeat (first | assumption | exact up_s | rw [up_n (by first | assumption | (apply Ne.symm; assumption) | decide | omega)])) (by rfl) ?_
          refine P.bipush (dq dtX7_move_1 5 rfl) rfl ?_
          refine P.iald (dq dtX7_move_1 6 rfl) (by repeat (first | assumption | exact up_s | rw [up_n (by first | assumption | (apply Ne.symm; assumption) | decide | omega)])) (by omega) (by omega) (by omega) ?_
          rw [upI_n (show (113 : Int) ≠ 114 by decide), r2]
          refine P.icmp_ge (t := 134) (dq dtX7_move_1 7 rfl) rfl (by omega) (by omega) (fun c_119 => ?_) (fun c_119 => ?_)
          · refine P.iload_n (dq dtX7_move_1 15 rfl) rfl ?_
            refine P.aload_n (dq dtX7_move_1 16 rfl) rfl ?_
            refine P.get flX7_16 (dq dtX7_move_1 17 rfl) (by repeat (first | assumption | exact up_s | rw [up_n (by first | assumption | (apply Ne.symm; assumption) | decide | omega)])) (by rfl) ?_
            refine P.bipush (dq dtX7_move_1 18 rfl) rfl ?_
            refine P.iald (dq dtX7_move_1 19 rfl) (by repeat (first | assumption | exact up_s | rw [up_n (by first | assumption | (apply Ne.symm; assumption) | decide | omega)])) (by omega) (by omega) (by omega) ?_
            rw [upI_n (show (113 : Int) ≠ 114 by decide), r2]
            refine P.isub (dq dtX7_move_1 20 rfl) ?_
            refine P.iadd (dq dtX7_move_1 21 rfl) ?_
            refine P.iast (dq dtX7_move_1 22 rfl) (by repeat (first | assumption | exact up_s | rw [up_n (by first | assumption | (apply Ne.symm; assumption) | decide | omega)])) (by omega) (by omega) (by omega) ?_
            refine P.aload_n (dq dtX7_move_1 23 rfl) rfl ?_
            refine P.get flX7_16 (dq dtX7_move_1 24 rfl) (by repeat (first | assumption | exact up_s | rw [up_n (by first | assumption | (apply Ne.symm; assumption) | decide | omega)])) (by rfl) ?_
            refine P.bipush (dq dtX7_move_1 25 rfl) rfl ?_
            refine P.iload_n (dq dtX7_move_1 26 rfl) rfl ?_
            refine P.iast (dq dtX7_move_1 27 rfl) (by repeat (first | assumption | exact up_s | rw [up_n (by first | assumption | (apply Ne.symm; assumption) | decide | omega)])) (by omega) (by omega) (by omega) ?_
            refine P.aload_n (dq dtX7_move_1 28 rfl) rfl ?_
            refine P.get flX7_16 (dq dtX7_move_1 29 rfl) (by repeat (first | assumption | exact up_s | rw [up_n (by first | assumption | (apply Ne.symm; assumption) | decide | omega)])) (by rfl) ?_
            refine P.bipush (dq dtX7_move_1 30 rfl) rfl ?_
            refine P.iload_n (dq dtX7_move_1 31 rfl) rfl ?_
            refine P.iast (dq dtX7_move_1 32 rfl) (by repeat (first | assumption | exact up_s | rw [up_n (by first | assumption | (apply Ne.symm; assumption) | decide | omega)])) (by omega) (by omega) (by omega) ?_
            refine P.aload_n (dq dtX7_move_1 33 rfl) rfl ?_
            refine P.get flX7_16 (dq dtX7_move_1 34 rfl) (by repeat (first | assumption | exact up_s | rw [up_n (by first | assumption | (apply Ne.symm; assumption) | decide | omega)])) (by rfl) ?_
            refine P.bipush (dq dtX7_move_1 35 rfl) rfl ?_
            refine P.iload_n (dq dtX7_move_1 36 rfl) rfl ?_
            refine P.iast (dq dtX7_move_1 37 rfl) (by repeat (first | assumption | exact up_s | rw [up_n (by first | assumption | (apply Ne.symm; assumption) | decide | omega)])) (by omega) (by omega) (by omega) ?_
            refine P.iload_n (dq dtX7_move_1 38 rfl) rfl ?_
            refine P.iret (dq dtX7_move_1 39 rfl) rfl rfl rfl ?_
            simp only [aMov, sMov, if_neg (show ¬ ¬ (0 ≤ z ∧ z ≤ (S.now.1.1 - 1) * S.now.1.2.1) from fun q => q n_8), if_neg c_25, if_pos (show (0 ≤ z ∧ z ≤ (S.now.1.1 - 1) * S.now.1.2.1) ∧ z ≠ S.now.2.1 from ⟨n_8, c_25⟩)] at h
            rw [up_up, up_up, up_up, up_up]
            refine mv_fin h ⟨_, _, _, _, _, _, _, _, _, _, _, _, _, _, _, _, (by repeat (first | assumption | exact up_s | rw [up_n (by first | assumption | (apply Ne.symm; assumption) | decide | omega)])), (by repeat (first | assumption | exact up_s | rw [up_n (by first | assumption | (apply Ne.symm; assumption) | decide | omega)])), (by repeat (first | assumption | exact up_s | rw [up_n (by first | assumption | (apply Ne.symm; assumption) | decide | omega)])), (by repeat (first | assumption | exact up_s | rw [up_n (by first | assumption | (apply Ne.symm; assumption) | decide | omega)])), (by repeat (first | assumption | exact up_s | rw [up_n (by first | assumption | (apply Ne.symm; assumption) | decide | omega)])), (by repeat (first | assumption | exact up_s | rw [up_n (by first | assumption | (apply Ne.symm; assumption) | decide | omega)])), (by repeat (first | assumption | exact up_s | rw [up_n (by first | assumption | (apply Ne.symm; assumption) | decide | omega)])), (by repeat (first | assumption | exact up_s | rw [up_n (by first | assumption | (apply Ne.symm; assumption) | decide | omega)])), (by repeat (first | assumption | exact up_s | rw [up_n (by first | assumption | (apply Ne.symm; assumption) | decide | omega)])), (by repeat (first | assumption | exact up_s | rw [up_n (by first | assumption | (apply Ne.symm; assumption) | decide | omega)])), (by repeat (first | assumption | exact up_s | rw [up_n (by first | assumption | (apply Ne.symm; assumption) | decide | omega)])), (by repeat (first | assumption | exact up_s | rw [up_n (by first | assumption | (apply Ne.symm; assumption) | decide | omega)])), (mv_W hW1 hG), hL⟩ (Fr.trans (Fr.trans (fr1.wide (by simp)) (fr2.wide (by simp))) (by repeat (first | assumption | exact Fr.rf | refine Fr.up ?_ (by simp)))) ?_ ?_ ?_ ?_
            · unfold zMov
              first | (rw [if_pos (by omega)]; omega) | rw [if_neg (by omega)]
            · unfold uMov
              first | exact if_pos (by omega) | exact if_neg (by omega)
            · first | (rw [if_pos (by omega)]; omega) | rw [if_neg (by omega)]
            · first | (rw [if_pos (by omega)]; done) | (rw [if_neg (by omega)]; omega)
          · refine P.aload_n (dq dtX7_move_1 8 rfl) rfl ?_
            refine P.get flX7_16 (dq dtX7_move_1 9 rfl) (by repeat (first | assumption | exact up_s | rw [up_n (by first | assumption | (apply Ne.symm; assumption) | decide | omega)])) (by rfl) ?_
            refine P.bipush (dq dtX7_move_1 10 rfl) rfl ?_
            refine P.iald (dq dtX7_move_1 11 rfl) (by repeat (first | assumption | exact up_s | rw [up_n (by first | assumption | (apply Ne.symm; assumption) | decide | omega)])) (by omega) (by omega) (by omega) ?_
            rw [upI_n (show (113 : Int) ≠ 114 by decide), r2]
            refine P.iload_n (dq dtX7_move_1 12 rfl) rfl ?_
            refine P.isub (dq dtX7_move_1 13 rfl) ?_
            refine P.goto (t := 143) (dq dtX7_move_1 14 rfl) rfl ?_
            refine P.iadd (dq dtX7_move_1 21 rfl) ?_
            refine P.iast (dq dtX7_move_1 22 rfl) (by repeat (first | assumption | exact up_s | rw [up_n (by first | assumption | (apply Ne.symm; assumption) | decide | omega)])) (by omega) (by omega) (by omega) ?_
            refine P.aload_n (dq dtX7_move_1 23 rfl) rfl ?_
            refine P.get flX7_16 (dq dtX7_move_1 24 rfl) (by repeat (first | assumption | exact up_s | rw [up_n (by first | assumption | (apply Ne.symm; assumption) | decide | omega)])) (by rfl) ?_
            refine P.bipush (dq dtX7_move_1 25 rfl) rfl ?_
            refine P.iload_n (dq dtX7_move_1 26 rfl) rfl ?_
            refine P.iast (dq dtX7_move_1 27 rfl) (by repeat (first | assumption | exact up_s | rw [up_n (by first | assumption | (apply Ne.symm; assumption) | decide | omega)])) (by omega) (by omega) (by omega) ?_
            refine P.aload_n (dq dtX7_move_1 28 rfl) rfl ?_
            refine P.get flX7_16 (dq dtX7_move_1 29 rfl) (by repeat (first | assumption | exact up_s | rw [up_n (by first | assumption | (apply Ne.symm; assumption) | decide | omega)])) (by rfl) ?_
            refine P.bipush (dq dtX7_move_1 30 rfl) rfl ?_
            refine P.iload_n (dq dtX7_move_1 31 rfl) rfl ?_
            refine P.iast (dq dtX7_move_1 32 rfl) (by repeat (first | assumption | exact up_s | rw [up_n (by first | assumption | (apply Ne.symm; assumption) | decide | omega)])) (by omega) (by omega) (by omega) ?_
            refine P.aload_n (dq dtX7_move_1 33 rfl) rfl ?_
            refine P.get flX7_16 (dq dtX7_move_1 34 rfl) (by repeat (first | assumption | exact up_s | rw [up_n (by first | assumption | (apply Ne.symm; assumption) | decide | omega)])) (by rfl) ?_
            refine P.bipush (dq dtX7_move_1 35 rfl) rfl ?_
            refine P.iload_n (dq dtX7_move_1 36 rfl) rfl ?_
            refine P.iast (dq dtX7_move_1 37 rfl) (by repeat (first | assumption | exact up_s | rw [up_n (by first | assumption | (apply Ne.symm; assumption) | decide | omega)])) (by omega) (by omega) (by omega) ?_
            refine P.iload_n (dq dtX7_move_1 38 rfl) rfl ?_
            refine P.iret (dq dtX7_move_1 39 rfl) rfl rfl rfl ?_
            simp only [aMov, sMov, if_neg (show ¬ ¬ (0 ≤ z ∧ z ≤ (S.now.1.1 - 1) * S.now.1.2.1) from fun q => q n_8), if_neg c_25, if_pos (show (0 ≤ z ∧ z ≤ (S.now.1.1 - 1) * S.now.1.2.1) ∧ z ≠ S.now.2.1 from ⟨n_8, c_25⟩)] at h
            rw [up_up, up_up, up_up, up_up]
            refine mv_fin h ⟨_, _, _, _, _, _, _, _, _, _, _, _, _, _, _, _, (by repeat (first | assumption | exact up_s | rw [up_n (by first | assumption | (apply Ne.symm; assumption) | decide | omega)])), (by repeat (first | assumption | exact up_s | rw [up_n (by first | assumption | (apply Ne.symm; assumption) | decide | omega)])), (by repeat (first | assumption | exact up_s | rw [up_n (by first | assumption | (apply Ne.symm; assumption) | decide | omega)])), (by repeat (first | assumption | exact up_s | rw [up_n (by first | assumption | (apply Ne.symm; assumption) | decide | omega)])), (by repeat (first | assumption | exact up_s | rw [up_n (by first | assumption | (apply Ne.symm; assumption) | decide | omega)])), (by repeat (first | assumption | exact up_s | rw [up_n (by first | assumption | (apply Ne.symm; assumption) | decide | omega)])), (by repeat (first | assumption | exact up_s | rw [up_n (by first | assumption | (apply Ne.symm; assumption) | decide | omega)])), (by repeat (first | assumption | exact up_s | rw [up_n (by first | assumption | (apply Ne.symm; assumption) | decide | omega)])), (by repeat (first | assumption | exact up_s | rw [up_n (by first | assumption | (apply Ne.symm; assumption) | decide | omega)])), (by repeat (first | assumption | exact up_s | rw [up_n (by first | assumption | (apply Ne.symm; assumption) | decide | omega)])), (by repeat (first | assumption | exact up_s | rw [up_n (by first | assumption | (apply Ne.symm; assumption) | decide | omega)])), (by repeat (first | assumption | exact up_s | rw [up_n (by first | assumption | (apply Ne.symm; assumption) | decide | omega)])), (mv_W hW1 hG), hL⟩ (Fr.trans (Fr.trans (fr1.wide (by simp)) (fr2.wide (by simp))) (by repeat (first | assumption | exact Fr.rf | refine Fr.up ?_ (by simp)))) ?_ ?_ ?_ ?_
            · unfold zMov
              first | (rw [if_pos (by omega)]; omega) | rw [if_neg (by omega)]
            · unfold uMov
              first | exact if_pos (by omega) | exact if_neg (by omega)
            · first | (rw [if_pos (by omega)]; omega) | rw [if_neg (by omega)]
            · first | (rw [if_pos (by omega)]; done) | (rw [if_neg (by omega)]; omega)
        · refine P.iconst (dq dtX7_move_0 56 rfl) ?_
          refine P.goto (t := 101) (dq dtX7_move_0 57 rfl) rfl ?_
          refine P.iadd (dq dtX7_move_0 59 rfl) ?_
          refine P.iast (dq dtX7_move_0 60 rfl) (by repeat (first | assumption | exact up_s | rw [up_n (by first | assumption | (apply Ne.symm; assumption) | decide | omega)])) (by omega) (by omega) (by omega) ?_
          refine P.aload_n (dq dtX7_move_0 61 rfl) rfl ?_
          refine P.get flX7_16 (dq dtX7_move_0 62 rfl) (by repeat (first | assumption | exact up_s | rw [up_n (by first | assumption | (apply Ne.symm; assumption) | decide | omega)])) (by rfl) ?_
          refine P.bipush (dq dtX7_move_0 63 rfl) rfl ?_
          refine P.dup2 (dq dtX7_move_1 0 rfl) rfl rfl ?_
          refine P.iald (dq dtX7_move_1 1 rfl) (by repeat (first | assumption | exact up_s | rw [up_n (by first | assumption | (apply Ne.symm; assumption) | decide | omega)])) (by omega) (by omega) (by omega) ?_
          rw [upI_n (show (115 : Int) ≠ 114 by decide), r4]
          refine P.iload_n (dq dtX7_move_1 2 rfl) rfl ?_
          refine P.aload_n (dq dtX7_move_1 3 rfl) rfl ?_
          refine P.get flX7_16 (dq dtX7_move_1 4 rfl) (by repeat (first | assumption | exact up_s | rw [up_n (by first | assumption | (apply Ne.symm; assumption) | decide | omega)])) (by rfl) ?_
          refine P.bipush (dq dtX7_move_1 5 rfl) rfl ?_
          refine P.iald (dq dtX7_move_1 6 rfl) (by repeat (first | assumption | exact up_s | rw [up_n (by first | assumption | (apply Ne.symm; assumption) | decide | omega)])) (by omega) (by omega) (by omega) ?_
          rw [upI_n (show (113 : Int) ≠ 114 by decide), r2]
          refine P.icmp_ge (t := 134) (dq dtX7_move_1 7 rfl) rfl (by omega) (by omega) (fun c_119 => ?_) (fun c_119 => ?_)
          · refine P.iload_n (dq dtX7_move_1 15 rfl) rfl ?_
            refine P.aload_n (dq dtX7_move_1 16 rfl) rfl ?_
            refine P.get flX7_16 (dq dtX7_move_1 17 rfl) (by repeat (first | assumption | exact up_s | rw [up_n (by first | assumption | (apply Ne.symm; assumption) | decide | omega)])) (by rfl) ?_
            refine P.bipush (dq dtX7_move_1 18 rfl) rfl ?_
            refine P.iald (dq dtX7_move_1 19 rfl) (by repeat (first | assumption | exact up_s | rw [up_n (by first | assumption | (apply Ne.symm; assumption) | decide | omega)])) (by omega) (by omega) (by omega) ?_
            rw [upI_n (show (113 : Int) ≠ 114 by decide), r2]
            refine P.isub (dq dtX7_move_1 20 rfl) ?_
            refine P.iadd (dq dtX7_move_1 21 rfl) ?_
            refine P.iast (dq dtX7_move_1 22 rfl) (by repeat (first | assumption | exact up_s | rw [up_n (by first | assumption | (apply Ne.symm; assumption) | decide | omega)])) (by omega) (by omega) (by omega) ?_
            refine P.aload_n (dq dtX7_move_1 23 rfl) rfl ?_
            refine P.get flX7_16 (dq dtX7_move_1 24 rfl) (by repeat (first | assumption | exact up_s | rw [up_n (by first | assumption | (apply Ne.symm; assumption) | decide | omega)])) (by rfl) ?_
            refine P.bipush (dq dtX7_move_1 25 rfl) rfl ?_
            refine P.iload_n (dq dtX7_move_1 26 rfl) rfl ?_
            refine P.iast (dq dtX7_move_1 27 rfl) (by repeat (first | assumption | exact up_s | rw [up_n (by first | assumption | (apply Ne.symm; assumption) | decide | omega)])) (by omega) (by omega) (by omega) ?_
            refine P.aload_n (dq dtX7_move_1 28 rfl) rfl ?_
            refine P.get flX7_16 (dq dtX7_move_1 29 rfl) (by repeat (first | assumption | exact up_s | rw [up_n (by first | assumption | (apply Ne.symm; assumption) | decide | omega)])) (by rfl) ?_
            refine P.bipush (dq dtX7_move_1 30 rfl) rfl ?_
            refine P.iload_n (dq dtX7_move_1 31 rfl) rfl ?_
            refine P.iast (dq dtX7_move_1 32 rfl) (by repeat (first | assumption | exact up_s | rw [up_n (by first | assumption | (apply Ne.symm; assumption) | decide | omega)])) (by omega) (by omega) (by omega) ?_
            refine P.aload_n (dq dtX7_move_1 33 rfl) rfl ?_
            refine P.get flX7_16 (dq dtX7_move_1 34 rfl) (by repeat (first | assumption | exact up_s | rw [up_n (by first | assumption | (apply Ne.symm; assumption) | decide | omega)])) (by rfl) ?_
            refine P.bipush (dq dtX7_move_1 35 rfl) rfl ?_
            refine P.iload_n (dq dtX7_move_1 36 rfl) rfl ?_
            refine P.iast (dq dtX7_move_1 37 rfl) (by repeat (first | assumption | exact up_s | rw [up_n (by first | assumption | (apply Ne.symm; assumption) | decide | omega)])) (by omega) (by omega) (by omega) ?_
            refine P.iload_n (dq dtX7_move_1 38 rfl) rfl ?_
            refine P.iret (dq dtX7_move_1 39 rfl) rfl rfl rfl ?_
            simp only [aMov, sMov, if_neg (show ¬ ¬ (0 ≤ z ∧ z ≤ (S.now.1.1 - 1) * S.now.1.2.1) from fun q => q n_8), if_neg c_25, if_pos (show (0 ≤ z ∧ z ≤ (S.now.1.1 - 1) * S.now.1.2.1) ∧ z ≠ S.now.2.1 from ⟨n_8, c_25⟩)] at h
            rw [up_up, up_up, up_up, up_up]
            refine mv_fin h ⟨_, _, _, _, _, _, _, _, _, _, _, _, _, _, _, _, (by repeat (first | assumption | exact up_s | rw [up_n (by first | assumption | (apply Ne.symm; assumption) | decide | omega)])), (by repeat (first | assumption | exact up_s | rw [up_n (by first | assumption | (apply Ne.symm; assumption) | decide | omega)])), (by repeat (first | assumption | exact up_s | rw [up_n (by first | assumption | (apply Ne.symm; assumption) | decide | omega)])), (by repeat (first | assumption | exact up_s | rw [up_n (by first | assumption | (apply Ne.symm; assumption) | decide | omega)])), (by repeat (first | assumption | exact up_s | rw [up_n (by first | assumption | (apply Ne.symm; assumption) | decide | omega)])), (by repeat (first | assumption | exact up_s | rw [up_n (by first | assumption | (apply Ne.symm; assumption) | decide | omega)])), (by repeat (first | assumption | exact up_s | rw [up_n (by first | assumption | (apply Ne.symm; assumption) | decide | omega)])), (by repeat (first | assumption | exact up_s | rw [up_n (by first | assumption | (apply Ne.symm; assumption) | decide | omega)])), (by repeat (first | assumption | exact up_s | rw [up_n (by first | assumption | (apply Ne.symm; assumption) | decide | omega)])), (by repeat (first | assumption | exact up_s | rw [up_n (by first | assumption | (apply Ne.symm; assumption) | decide | omega)])), (by repeat (first | assumption | exact up_s | rw [up_n (by first | assumption | (apply Ne.symm; assumption) | decide | omega)])), (by repeat (first | assumption | exact up_s | rw [up_n (by first | assumption | (apply Ne.symm; assumption) | decide | omega)])), (mv_W hW1 hG), hL⟩ (Fr.trans (Fr.trans (fr1.wide (by simp)) (fr2.wide (by simp))) (by repeat (first | assumption | exact Fr.rf | refine Fr.up ?_ (by simp)))) ?_ ?_ ?_ ?_
            · unfold zMov
              first | (rw [if_pos (by omega)]; omega) | rw [if_neg (by omega)]
            · unfold uMov
              first | exact if_pos (by omega) | exact if_neg (by omega)
            · first | (rw [if_pos (by omega)]; omega) | rw [if_neg (by omega)]
            · first | (rw [if_pos (by omega)]; done) | (rw [if_neg (by omega)]; omega)
          · refine P.aload_n (dq dtX7_move_1 8 rfl) rfl ?_
            refine P.get flX7_16 (dq dtX7_move_1 9 rfl) (by repeat (first | assumption | exact up_s | rw [up_n (by first | assumption | (apply Ne.symm; assumption) | decide | omega)])) (by rfl) ?_
            refine P.bipush (dq dtX7_move_1 10 rfl) rfl ?_
            refine P.iald (dq dtX7_move_1 11 rfl) (by repeat (first | assumption | exact up_s | rw [up_n (by first | assumption | (apply Ne.symm; assumption) | decide | omega)])) (by omega) (by omega) (by omega) ?_
            rw [upI_n (show (113 : Int) ≠ 114 by decide), r2]
            refine P.iload_n (dq dtX7_move_1 12 rfl) rfl ?_
            refine P.isub (dq dtX7_move_1 13 rfl) ?_
            refine P.goto (t := 143) (dq dtX7_move_1 14 rfl) rfl ?_
            refine P.iadd (dq dtX7_move_1 21 rfl) ?_
            refine P.iast (dq dtX7_move_1 22 rfl) (by repeat (first | assumption | exact up_s | rw [up_n (by first | assumption | (apply Ne.symm; assumption) | decide | omega)])) (by omega) (by omega) (by omega) ?_
            refine P.aload_n (dq dtX7_move_1 23 rfl) rfl ?_
            refine P.get flX7_16 (dq dtX7_move_1 24 rfl) (by repeat (first | assumption | exact up_s | rw [up_n (by first | assumption | (apply Ne.symm; assumption) | decide | omega)])) (by rfl) ?_
            refine P.bipush (dq dtX7_move_1 25 rfl) rfl ?_
            refine P.iload_n (dq dtX7_move_1 26 rfl) rfl ?_
            refine P.iast (dq dtX7_move_1 27 rfl) (by repeat (first | assumption | exact up_s | rw [up_n (by first | assumption | (apply Ne.symm; assumption) | decide | omega)])) (by omega) (by omega) (by omega) ?_
            refine P.aload_n (dq dtX7_move_1 28 rfl) rfl ?_
            refine P.get flX7_16 (dq dtX7_move_1 29 rfl) (by repeat (first | assumption | exact up_s | rw [up_n (by first | assumption | (apply Ne.symm; assumption) | decide | omega)])) (by rfl) ?_
            refine P.bipush (dq dtX7_move_1 30 rfl) rfl ?_
            refine P.iload_n (dq dtX7_move_1 31 rfl) rfl ?_
            refine P.iast (dq dtX7_move_1 32 rfl) (by repeat (first | assumption | exact up_s | rw [up_n (by first | assumption | (apply Ne.symm; assumption) | decide | omega)])) (by omega) (by omega) (by omega) ?_
            refine P.aload_n (dq dtX7_move_1 33 rfl) rfl ?_
            refine P.get flX7_16 (dq dtX7_move_1 34 rfl) (by repeat (first | assumption | exact up_s | rw [up_n (by first | assumption | (apply Ne.symm; assumption) | decide | omega)])) (by rfl) ?_
            refine P.bipush (dq dtX7_move_1 35 rfl) rfl ?_
            refine P.iload_n (dq dtX7_move_1 36 rfl) rfl ?_
            refine P.iast (dq dtX7_move_1 37 rfl) (by repeat (first | assumption | exact up_s | rw [up_n (by first | assumption | (apply Ne.symm; assumption) | decide | omega)])) (by omega) (by omega) (by omega) ?_
            refine P.iload_n (dq dtX7_move_1 38 rfl) rfl ?_
            refine P.iret (dq dtX7_move_1 39 rfl) rfl rfl rfl ?_
            simp only [aMov, sMov, if_neg (show ¬ ¬ (0 ≤ z ∧ z ≤ (S.now.1.1 - 1) * S.now.1.2.1) from fun q => q n_8), if_neg c_25, if_pos (show (0 ≤ z ∧ z ≤ (S.now.1.1 - 1) * S.now.1.2.1) ∧ z ≠ S.now.2.1 from ⟨n_8, c_25⟩)] at h
            rw [up_up, up_up, up_up, up_up]
            refine mv_fin h ⟨_, _, _, _, _, _, _, _, _, _, _, _, _, _, _, _, (by repeat (first | assumption | exact up_s | rw [up_n (by first | assumption | (apply Ne.symm; assumption) | decide | omega)])), (by repeat (first | assumption | exact up_s | rw [up_n (by first | assumption | (apply Ne.symm; assumption) | decide | omega)])), (by repeat (first | assumption | exact up_s | rw [up_n (by first | assumption | (apply Ne.symm; assumption) | decide | omega)])), (by repeat (first | assumption | exact up_s | rw [up_n (by first | assumption | (apply Ne.symm; assumption) | decide | omega)])), (by repeat (first | assumption | exact up_s | rw [up_n (by first | assumption | (apply Ne.symm; assumption) | decide | omega)])), (by repeat (first | assumption | exact up_s | rw [up_n (by first | assumption | (apply Ne.symm; assumption) | decide | omega)])), (by repeat (first | assumption | exact up_s | rw [up_n (by first | assumption | (apply Ne.symm; assumption) | decide | omega)])), (by repeat (first | assumption | exact up_s | rw [up_n (by first | assumption | (apply Ne.symm; assumption) | decide | omega)])), (by repeat (first | assumption | exact up_s | rw [up_n (by first | assumption | (apply Ne.symm; assumption) | decide | omega)])), (by repeat (first | assumption | exact up_s | rw [up_n (by first | assumption | (apply Ne.symm; assumption) | decide | omega)])), (by repeat (first | assumption | exact up_s | rw [up_n (by first | assumption | (apply Ne.symm; assumption) | decide | omega)])), (by repeat (first | assumption | exact up_s | rw [up_n (by first | assumption | (apply Ne.symm; assumption) | decide | omega)])), (mv_W hW1 hG), hL⟩ (Fr.trans (Fr.trans (fr1.wide (by simp)) (fr2.wide (by simp))) (by repeat (first | assumption | exact Fr.rf | refine Fr.up ?_ (by simp)))) ?_ ?_ ?_ ?_
            · unfold zMov
              first | (rw [if_pos (by omega)]; omega) | rw [if_neg (by omega)]
            · unfold uMov
              first | exact if_pos (by omega) | exact if_neg (by omega)
            · first | (rw [if_pos (by omega)]; omega) | rw [if_neg (by omega)]
            · first | (rw [if_pos (by omega)]; done) | (rw [if_neg (by omega)]; omega)
    · refine P.ldc (n := -100003) (dq dtX7_move_0 16 rfl) kcX7_155 rfl ?_
      refine P.iret (dq dtX7_move_0 17 rfl) rfl rfl rfl ?_
      simp only [aMov, sMov, if_neg (show ¬ ¬ (0 ≤ z ∧ z ≤ (S.now.1.1 - 1) * S.now.1.2.1) from fun q => q n_8), if_pos c_25, if_neg (show ¬ ((0 ≤ z ∧ z ≤ (S.now.1.1 - 1) * S.now.1.2.1) ∧ z ≠ S.now.2.1) from fun q => q.2 c_25)] at h
      exact h σ hM Fr.rf
  · refine P.if_ne (t := 17) (dq dtX7_move_0 7 rfl) rfl (by omega) (fun h9 => absurd h9 (by decide)) (fun _ => ?_)
    refine P.ldc (n := -100002) (dq dtX7_move_0 8 rfl) kcX7_75 rfl ?_
    refine P.iret (dq dtX7_move_0 9 rfl) rfl rfl rfl ?_
    simp only [aMov, sMov, if_pos n_8, if_neg (show ¬ ((0 ≤ z ∧ z ≤ (S.now.1.1 - 1) * S.now.1.2.1) ∧ z ≠ S.now.2.1) from fun q => n_8 q.1)] at h
    exact h σ hM Fr.rf
