theorem upI_id {f : Int → Int} {k v : Int} (h : f k = v) : upI f k v = f := by
  funext z
  by_cases e : z = k
  · rw [e, upI_s, h]
  · rw [upI_n e]
/-- label -/
theorem md_label {x : CM} {d N : Nat} {σ : PH} {Q : PQ} {S : CSt} (hG : CG S) (hM : MD σ S) (hd : 2 ≤ d) {a : Int} (ha : inR a) (h : ∀ σ' : PH, MD σ' (sLb S a) → Fr σ σ' LM → Q (some (vI (aLab a))) σ') : Call x d 0 0 mX7_label [vR 84, vI a] N σ Q := by
  refine Call.of mcX7_label (Nat.le_of_ble_eq_true rfl) (fun y hy => ?_)
  subst hy
  obtain ⟨wf, sz, lt, a1, a2, a3, a4, a5, fi, be, rp, cl, dg, nu, pk, wm, h84, h85, h86, h87, h88, h89, h90, h91, h92, h93, h94, h95, hW, hL⟩ := id hM
  have hGm := hG.2.1.1
  have hp := hGm.1
  have hs := hGm.2.1
  have hL9 := mul_bd (k := S.now.1.1 - 1) (s := S.now.1.2.1) (by omega) (by omega) (by omega) (by omega)
  refine P.iload_n (dq dtX7_label 0 rfl) rfl ?_
  refine P.callS1 (M' := mX7_isLabel) (d' := d - 1) mlX7_232 mcX7_isLabel msX7_isLabel (dq dtX7_label 1 rfl) (by omega) (Nat.le_of_ble_eq_true rfl) ?_
  refine ct_X7_isLabel (by omega) ha (fun n_1 => ?_) (fun n_1 => ?_)
  · refine P.if_ne (t := 10) (dq dtX7_label 2 rfl) rfl (by omega) (fun _ => ?_) (fun h9 => absurd h9 (by decide))
    refine P.aload_n (dq dtX7_label 5 rfl) rfl ?_
    refine P.get flX7_45 (dq dtX7_label 6 rfl) (by repeat (first | assumption | exact up_s | rw [up_n (by first | assumption | (apply Ne.symm; assumption) | decide | omega)])) (by rfl) ?_
    refine P.iload_n (dq dtX7_label 7 rfl) rfl ?_
    refine P.iconst (dq dtX7_label 8 rfl) ?_
    refine P.iast (dq dtX7_label 9 rfl) (by repeat (first | assumption | exact up_s | rw [up_n (by first | assumption | (apply Ne.symm; assumption) | decide | omega)])) (by omega) (by omega) (by omega) ?_
    refine P.iconst (dq dtX7_label 10 rfl) ?_
    refine P.iret (dq dtX7_label 11 rfl) rfl rfl rfl ?_
    simp only [aLab, sLb, if_pos (show (0 ≤ a ∧ a < 3) by omega)] at h
    exact h _ ⟨_, _, _, _, _, _, _, _, _, _, _, _, _, _, _, _, (by repeat (first | assumption | exact up_s | rw [up_n (by first | assumption | (apply Ne.symm; assumption) | decide | omega)])), (by repeat (first | assumption | exact up_s | rw [up_n (by first | assumption | (apply Ne.symm; assumption) | decide | omega)])), (by repeat (first | assumption | exact up_s | rw [up_n (by first | assumption | (apply Ne.symm; assumption) | decide | omega)])), (by repeat (first | assumption | exact up_s | rw [up_n (by first | assumption | (apply Ne.symm; assumption) | decide | omega)])), (by repeat (first | assumption | exact up_s | rw [up_n (by first | assumption | (apply Ne.symm; assumption) | decide | omega)])), (by repeat (first | assumption | exact up_s | rw [up_n (by first | assumption | (apply Ne.symm; assumption) | decide | omega)])), (by repeat (first | assumption | exact up_s | rw [up_n (by first | assumption | (apply Ne.symm; assumption) | decide | omega)])), (by repeat (first | assumption | exact up_s | rw [up_n (by first | assumption | (apply Ne.symm; assumption) | decide | omega)])), (by repeat (first | assumption | exact up_s | rw [up_n (by first | assumption | (apply Ne.symm; assumption) | decide | omega)])), (by repeat (first | assumption | exact up_s | rw [up_n (by first | assumption | (apply Ne.symm; assumption) | decide | omega)])), (by repeat (first | assumption | exact up_s | rw [up_n (by first | assumption | (apply Ne.symm; assumption) | decide | omega)])), (by repeat (first | assumption | exact up_s | rw [up_n (by first | assumption | (apply Ne.symm; assumption) | decide | omega)])), hW, (hL.it (by omega) rfl)⟩ (by repeat (first | assumption | exact Fr.rf | refine Fr.up ?_ (by simp)))
  · refine P.if_ne (t := 10) (dq dtX7_label 2 rfl) rfl (by omega) (fun h9 => absurd h9 (by decide)) (fun _ => ?_)
    refine P.ldc (n := -100001) (dq dtX7_label 3 rfl) kcX7_163 rfl ?_
    refine P.iret (dq dtX7_label 4 rfl) rfl rfl rfl ?_
    simp only [aLab, sLb, if_neg (show ¬ (0 ≤ a ∧ a < 3) by omega)] at h
    exact h σ hM Fr.rf
/-- drop -/
theorem md_drop {x : CM} {d N : Nat} {σ : PH} {Q : PQ} {S : CSt} (hG : CG S) (hM : MD σ S) (hd : 2 ≤ d) {a : Int} (ha : inR a) (h : ∀ σ' : PH, MD σ' (sDrp S a) → Fr σ σ' LM → Q (some (vI (aDrp S a))) σ') : Call x d 0 0 mX7_drop [vR 84, vI a] N σ Q := by
  refine Call.of mcX7_drop (Nat.le_of_ble_eq_true rfl) (fun y hy => ?_)
  subst hy
  obtain ⟨wf, sz, lt, a1, a2, a3, a4, a5, fi, be, rp, cl, dg, nu, pk, wm, h84, h85, h86, h87, h88, h89, h90, h91, h92, h93, h94, h95, hW, hL⟩ := id hM
  have hGm := hG.2.1.1
  have hp := hGm.1
  have hs := hGm.2.1
  have hL9 := mul_bd (k := S.now.1.1 - 1) (s := S.now.1.2.1) (by omega) (by omega) (by omega) (by omega)
  refine P.iload_n (dq dtX7_drop 0 rfl) rfl ?_
  refine P.callS1 (M' := mX7_isLabel) (d' := d - 1) mlX7_232 mcX7_isLabel msX7_isLabel (dq dtX7_drop 1 rfl) (by omega) (Nat.le_of_ble_eq_true rfl) ?_
  refine ct_X7_isLabel (by omega) ha (fun n_1 => ?_) (fun n_1 => ?_)
  · refine P.if_ne (t := 10) (dq dtX7_drop 2 rfl) rfl (by omega) (fun _ => ?_) (fun h9 => absurd h9 (by decide))
    have es := hL.1 a (by omega) (by omega)
    have bn := (hG.2.2.2.2.2 a.toNat (by omega)).1
    have bf := (hG.2.2.2.2.2 a.toNat (by omega)).2
    have bz : (sz a < 0 ∧ S.it a = 0 ∧ sz a = -1) ∨ (0 ≤ sz a ∧ S.it a ≠ 0 ∧ sz a = S.ln a.toNat) := by
      rw [es]
      split
      · next q => exact Or.inl ⟨by omega, q, rfl⟩
      · next q => exact Or.inr ⟨by omega, q, rfl⟩
    refine P.aload_n (dq dtX7_drop 5 rfl) rfl ?_
    refine P.get flX7_45 (dq dtX7_drop 6 rfl) (by repeat (first | assumption | exact up_s | rw [up_n (by first | assumption | (apply Ne.symm; assumption) | decide | omega)])) (by rfl) ?_
    refine P.iload_n (dq dtX7_drop 7 rfl) rfl ?_
    refine P.iald (dq dtX7_drop 8 rfl) (by repeat (first | assumption | exact up_s | rw [up_n (by first | assumption | (apply Ne.symm; assumption) | decide | omega)])) (by omega) (by omega) (by omega) ?_
    refine P.istore_n (dq dtX7_drop 9 rfl) (by decide) rfl rfl ?_
    refine P.aload_n (dq dtX7_drop 10 rfl) rfl ?_
    refine P.get flX7_45 (dq dtX7_drop 11 rfl) (by repeat (first | assumption | exact up_s | rw [up_n (by first | assumption | (apply Ne.symm; assumption) | decide | omega)])) (by rfl) ?_
    refine P.iload_n (dq dtX7_drop 12 rfl) rfl ?_
    refine P.iconst (dq dtX7_drop 13 rfl) ?_
    refine P.iast (dq dtX7_drop 14 rfl) (by repeat (first | assumption | exact up_s | rw [up_n (by first | assumption | (apply Ne.symm; assumption) | decide | omega)])) (by omega) (by omega) (by omega) ?_
    refine P.iload_n (dq dtX7_drop 15 rfl) rfl ?_
    refine P.if_ge (t := 33) (dq dtX7_drop 16 rfl) rfl (by omega) (fun c_25 => ?_) (fun c_25 => ?_)
    · refine P.iload_n (dq dtX7_drop 19 rfl) rfl ?_
      refine P.iret (dq dtX7_drop 20 rfl) rfl rfl rfl ?_
      by_cases q2 : S.it a = 0
      · first
        | (exfalso; omega)
        | (have e9 := rfL_n (it := S.it) (a := a) (by omega) q2
           unfold aDrp sDrp at h
           rw [e9] at h
           simp only [if_pos (show (-100011 : Int) ≠ 0 by decide), if_neg (show ¬ (-100011 : Int) = 0 by decide)] at h
           exact h _ ⟨_, _, _, _, _, _, _, _, _, _, _, _, _, _, _, _, (by repeat (first | assumption | exact up_s | rw [up_n (by first | assumption | (apply Ne.symm; assumption) | decide | omega)])), (by repeat (first | assumption | exact up_s | rw [up_n (by first | assumption | (apply Ne.symm; assumption) | decide | omega)])), (by repeat (first | assumption | exact up_s | rw [up_n (by first | assumption | (apply Ne.symm; assumption) | decide | omega)])), (by repeat (first | assumption | exact up_s | rw [up_n (by first | assumption | (apply Ne.symm; assumption) | decide | omega)])), (by repeat (first | assumption | exact up_s | rw [up_n (by first | assumption | (apply Ne.symm; assumption) | decide | omega)])), (by repeat (first | assumption | exact up_s | rw [up_n (by first | assumption | (apply Ne.symm; assumption) | decide | omega)])), (by repeat (first | assumption | exact up_s | rw [up_n (by first | assumption | (apply Ne.symm; assumption) | decide | omega)])), (by repeat (first | assumption | exact up_s | rw [up_n (by first | assumption | (apply Ne.symm; assumption) | decide | omega)])), (by repeat (first | assumption | exact up_s | rw [up_n (by first | assumption | (apply Ne.symm; assumption) | decide | omega)])), (by repeat (first | assumption | exact up_s | rw [up_n (by first | assumption | (apply Ne.symm; assumption) | decide | omega)])), (by repeat (first | assumption | exact up_s | rw [up_n (by first | assumption | (apply Ne.symm; assumption) | decide | omega)])), (by repeat (first | assumption | exact up_s | rw [up_n (by first | assumption | (apply Ne.symm; assumption) | decide | omega)])), hW, (hL.no (by omega) q2)⟩ (by repeat (first | assumption | exact Fr.rf | refine Fr.up ?_ (by simp))))
      · first
        | (exfalso; omega)
        | (have e9 := rfL_z (it := S.it) (a := a) (by omega) q2
           unfold aDrp sDrp at h
           rw [e9] at h
           simp only [if_neg (show ¬ (0 : Int) ≠ 0 by decide), if_pos (show (0 : Int) = 0 by decide)] at h
           rw [show sz a = S.ln a.toNat by omega]
           exact h _ ⟨_, _, _, _, _, _, _, _, _, _, _, _, _, _, _, _, (by repeat (first | assumption | exact up_s | rw [up_n (by first | assumption | (apply Ne.symm; assumption) | decide | omega)])), (by repeat (first | assumption | exact up_s | rw [up_n (by first | assumption | (apply Ne.symm; assumption) | decide | omega)])), (by repeat (first | assumption | exact up_s | rw [up_n (by first | assumption | (apply Ne.symm; assumption) | decide | omega)])), (by repeat (first | assumption | exact up_s | rw [up_n (by first | assumption | (apply Ne.symm; assumption) | decide | omega)])), (by repeat (first | assumption | exact up_s | rw [up_n (by first | assumption | (apply Ne.symm; assumption) | decide | omega)])), (by repeat (first | assumption | exact up_s | rw [up_n (by first | assumption | (apply Ne.symm; assumption) | decide | omega)])), (by repeat (first | assumption | exact up_s | rw [up_n (by first | assumption | (apply Ne.symm; assumption) | decide | omega)])), (by repeat (first | assumption | exact up_s | rw [up_n (by first | assumption | (apply Ne.symm; assumption) | decide | omega)])), (by repeat (first | assumption | exact up_s | rw [up_n (by first | assumption | (apply Ne.symm; assumption) | decide | omega)])), (by repeat (first | assumption | exact up_s | rw [up_n (by first | assumption | (apply Ne.symm; assumption) | decide | omega)])), (by repeat (first | assumption | exact up_s | rw [up_n (by first | assumption | (apply Ne.symm; assumption) | decide | omega)])), (by repeat (first | assumption | exact up_s | rw [up_n (by first | assumption | (apply Ne.symm; assumption) | decide | omega)])), hW, (hL.it (by omega) rfl)⟩ (by repeat (first | assumption | exact Fr.rf | refine Fr.up ?_ (by simp))))
    · refine P.ldc (n := -100011) (dq dtX7_drop 17 rfl) kcX7_239 rfl ?_
      refine P.goto (t := 34) (dq dtX7_drop 18 rfl) rfl ?_
      refine P.iret (dq dtX7_drop 20 rfl) rfl rfl rfl ?_
      by_cases q2 : S.it a = 0
      · first
        | (exfalso; omega)
        | (have e9 := rfL_n (it := S.it) (a := a) (by omega) q2
           unfold aDrp sDrp at h
           rw [e9] at h
           simp only [if_pos (show (-100011 : Int) ≠ 0 by decide), if_neg (show ¬ (-100011 : Int) = 0 by decide)] at h
           exact h _ ⟨_, _, _, _, _, _, _, _, _, _, _, _, _, _, _, _, (by repeat (first | assumption | exact up_s | rw [up_n (by first | assumption | (apply Ne.symm; assumption) | decide | omega)])), (by repeat (first | assumption | exact up_s | rw [up_n (by first | assumption | (apply Ne.symm; assumption) | decide | omega)])), (by repeat (first | assumption | exact up_s | rw [up_n (by first | assumption | (apply Ne.symm; assumption) | decide | omega)])), (by repeat (first | assumption | exact up_s | rw [up_n (by first | assumption | (apply Ne.symm; assumption) | decide | omega)])), (by repeat (first | assumption | exact up_s | rw [up_n (by first | assumption | (apply Ne.symm; assumption) | decide | omega)])), (by repeat (first | assumption | exact up_s | rw [up_n (by first | assumption | (apply Ne.symm; assumption) | decide | omega)])), (by repeat (first | assumption | exact up_s | rw [up_n (by first | assumption | (apply Ne.symm; assumption) | decide | omega)])), (by repeat (first | assumption | exact up_s | rw [up_n (by first | assumption | (apply Ne.symm; assumption) | decide | omega)])), (by repeat (first | assumption | exact up_s | rw [up_n (by first | assumption | (apply Ne.symm; assumption) | decide | omega)])), (by repeat (first | assumption | exact up_s | rw [up_n (by first | assumption | (apply Ne.symm; assumption) | decide | omega)])), (by repeat (first | assumption | exact up_s | rw [up_n (by first | assumption | (apply Ne.symm; assumption) | decide | omega)])), (by repeat (first | assumption | exact up_s | rw [up_n (by first | assumption | (apply Ne.symm; assumption) | decide | omega)])), hW, (hL.no (by omega) q2)⟩ (by repeat (first | assumption | exact Fr.rf | refine Fr.up ?_ (by simp))))
      · first
        | (exfalso; omega)
        | (have e9 := rfL_z (it := S.it) (a := a) (by omega) q2
           unfold aDrp sDrp at h
           rw [e9] at h
           simp only [if_neg (show ¬ (0 : Int) ≠ 0 by decide), if_pos (show (0 : Int) = 0 by decide)] at h
           rw [show sz a = S.ln a.toNat by omega]
           exact h _ ⟨_, _, _, _, _, _, _, _, _, _, _, _, _, _, _, _, (by repeat (first | assumption | exact up_s | rw [up_n (by first | assumption | (apply Ne.symm; assumption) | decide | omega)])), (by repeat (first | assumption | exact up_s | rw [up_n (by first | assumption | (apply Ne.symm; assumption) | decide | omega)])), (by repeat (first | assumption | exact up_s | rw [up_n (by first | assumption | (apply Ne.symm; assumption) | decide | omega)])), (by repeat (first | assumption | exact up_s | rw [up_n (by first | assumption | (apply Ne.symm; assumption) | decide | omega)])), (by repeat (first | assumption | exact up_s | rw [up_n (by first | assumption | (apply Ne.symm; assumption) | decide | omega)])), (by repeat (first | assumption | exact up_s | rw [up_n (by first | assumption | (apply Ne.symm; assumption) | decide | omega)])), (by repeat (first | assumption | exact up_s | rw [up_n (by first | assumption | (apply Ne.symm; assumption) | decide | omega)])), (by repeat (first | assumption | exact up_s | rw [up_n (by first | assumption | (apply Ne.symm; assumption) | decide | omega)])), (by repeat (first | assumption | exact up_s | rw [up_n (by first | assumption | (apply Ne.symm; assumption) | decide | omega)])), (by repeat (first | assumption | exact up_s | rw [up_n (by first | assumption | (apply Ne.symm; assumption) | decide | omega)])), (by repeat (first | assumption | exact up_s | rw [up_n (by first | assumption | (apply Ne.symm; assumption) | decide | omega)])), (by repeat (first | assumption | exact up_s | rw [up_n (by first | assumption | (apply Ne.symm; assumption) | decide | omega)])), hW, (hL.it (by omega) rfl)⟩ (by repeat (first | assumption | exact Fr.rf | refine Fr.up ?_ (by simp))))
  · refine P.if_ne (t := 10) (dq dtX7_drop 2 rfl) rfl (by omega) (fun h9 => absurd h9 (by decide)) (fun _ => ?_)
    refine P.ldc (n := -100001) (dq dtX7_drop 3 rfl) kcX7_163 rfl ?_
    refine P.iret (dq dtX7_drop 4 rfl) rfl rfl rfl ?_
    have e9 := rfL_u (it := S.it) (a := a) (by omega)
    unfold aDrp sDrp at h
    rw [e9] at h
    simp only [if_pos (show (-100001 : Int) ≠ 0 by decide), if_neg (show ¬ (-100001 : Int) = 0 by decide)] at h
    exact h σ hM Fr.rf
theorem lp_insM {x : CX} {d N : Nat} {σ : PH} {Q : PQ} {S : CSt} (hG : CG S) {wf sz lt a1 a2 a3 a4 a5 : Int → Int} {fi be rp cl dg nu pk wm : Int} (h84 : σ 84 = mdO S.now.1.1 S.now.1.2.1 S.ct S.tn fi be rp cl dg nu pk wm) (h85 : σ 85 = pcI 0 1404 wf) (h86 : σ 86 = pcI 1 2 S.ik) (h87 : σ 87 = pcI 0 200 S.tf) (h88 : σ 88 = pcI 0 16 wdA) (h89 : σ 89 = pcI 0 8 a1) (h90 : σ 90 = pcI 0 8 a2) (h91 : σ 91 = pcI 0 8 a3) (h92 : σ 92 = pcI 0 8 a4) (h93 : σ 93 = pcI 0 80 a5) (h94 : σ 94 = pcI 0 3 sz) (hW : WR S wf) (hL : LR S sz lt) {a : Int} (ha3 : 0 ≤ a ∧ a < 3) (hia : S.it a ≠ 0) (esa : sz a = S.ln a.toNat) {i c : Int} (hi : 0 ≤ i ∧ i ≤ S.ln a.toNat) (hn : S.ln a.toNat < 24) (h : ∀ σ' : PH, MD σ' (sLab S S.it (upN S.ln a.toNat (S.ln a.toNat + 1)) (upN S.lf a.toNat (insF (S.lf a.toNat) (S.ln a.toNat) i c))) → Fr σ σ' LM → Q (some (vI (S.ln a.toNat + 1))) σ') : ∀ (t : Nat) (k : Int), i ≤ k ∧ k ≤ S.ln a.toNat → k - i < t → P x d mX7_insert Q (0, 0) 80 [some (vR 84), some (vI a), some (vI i), some (vI c), some (vI k)] [] N (up σ 95 (pcI 0 72 (rowU lt a (shF (S.lf a.toNat) k (S.ln a.toNat))))) := by
  intro t
  induction t with
  | zero =>
    intro k hk hm
    exfalso; omega
  | succ t ih =>
    intro k hk hm
    have bn := (hG.2.2.2.2.2 a.toNat (by omega)).1
    refine P.iload (dq dtX7_insert_0 45 rfl) rfl ?_
    refine P.iload_n (dq dtX7_insert_0 46 rfl) rfl ?_
    refine P.icmp_le (t := 118) (dq dtX7_insert_0 47 rfl) rfl (by omega) (by omega) (fun c_83 => ?_) (fun c_83 => ?_)
    · obtain rfl : k = i := by omega
      refine P.aload_n (dq dtX7_insert_1 4 rfl) rfl ?_
      refine P.get flX7_48 (dq dtX7_insert_1 5 rfl) (by repeat (first | assumption | exact up_s | rw [up_n (by first | assumption | (apply Ne.symm; assumption) | decide | omega)])) (by rfl) ?_
      refine P.bipush (dq dtX7_insert_1 6 rfl) rfl ?_
      refine P.iload_n (dq dtX7_insert_1 7 rfl) rfl ?_
      refine P.imul (dq dtX7_insert_1 8 rfl) ?_
      refine P.iload_n (dq dtX7_insert_1 9 rfl) rfl ?_
      refine P.iadd (dq dtX7_insert_1 10 rfl) ?_
      refine P.iload_n (dq dtX7_insert_1 11 rfl) rfl ?_
      refine P.iast (dq dtX7_insert_1 12 rfl) (by repeat (first | assumption | exact up_s | rw [up_n (by first | assumption | (apply Ne.symm; assumption) | decide | omega)])) (by omega) (by omega) (by omega) ?_
      rw [up_up, rowU_up (by omega)]
      refine P.aload_n (dq dtX7_insert_1 13 rfl) rfl ?_
      refine P.get flX7_45 (dq dtX7_insert_1 14 rfl) (by repeat (first | assumption | exact up_s | rw [up_n (by first | assumption | (apply Ne.symm; assumption) | decide | omega)])) (by rfl) ?_
      refine P.iload_n (dq dtX7_insert_1 15 rfl) rfl ?_
      refine P.dup2 (dq dtX7_insert_1 16 rfl) rfl rfl ?_
      refine P.iald (dq dtX7_insert_1 17 rfl) (by repeat (first | assumption | exact up_s | rw [up_n (by first | assumption | (apply Ne.symm; assumption) | decide | omega)])) (by omega) (by omega) (by omega) ?_
      refine P.iconst (dq dtX7_insert_1 18 rfl) ?_
      refine P.iadd (dq dtX7_insert_1 19 rfl) ?_
      rw [esa]
      refine P.iast (dq dtX7_insert_1 20 rfl) (by repeat (first | assumption | exact up_s | rw [up_n (by first | assumption | (apply Ne.symm; assumption) | decide | omega)])) (by omega) (by omega) (by omega) ?_
      refine P.aload_n (dq dtX7_insert_1 21 rfl) rfl ?_
      refine P.get flX7_45 (dq dtX7_insert_1 22 rfl) (by repeat (first | assumption | exact up_s | rw [up_n (by first | assumption | (apply Ne.symm; assumption) | decide | omega)])) (by rfl) ?_
      refine P.iload_n (dq dtX7_insert_1 23 rfl) rfl ?_
      refine P.iald (dq dtX7_insert_1 24 rfl) (by repeat (first | assumption | exact up_s | rw [up_n (by first | assumption | (apply Ne.symm; assumption) | decide | omega)])) (by omega) (by omega) (by omega) ?_
      rw [upI_s]
      refine P.iret (dq dtX7_insert_1 25 rfl) rfl rfl rfl ?_
      exact h _ ⟨_, _, _, _, _, _, _, _, _, _, _, _, _, _, _, _, (by repeat (first | assumption | exact up_s | rw [up_n (by first | assumption | (apply Ne.symm; assumption) | decide | omega)])), (by repeat (first | assumption | exact up_s | rw [up_n (by first | assumption | (apply Ne.symm; assumption) | decide | omega)])), (by repeat (first | assumption | exact up_s | rw [up_n (by first | assumption | (apply Ne.symm; assumption) | decide | omega)])), (by repeat (first | assumption | exact up_s | rw [up_n (by first | assumption | (apply Ne.symm; assumption) | decide | omega)])), (by repeat (first | assumption | exact up_s | rw [up_n (by first | assumption | (apply Ne.symm; assumption) | decide | omega)])), (by repeat (first | assumption | exact up_s | rw [up_n (by first | assumption | (apply Ne.symm; assumption) | decide | omega)])), (by repeat (first | assumption | exact up_s | rw [up_n (by first | assumption | (apply Ne.symm; assumption) | decide | omega)])), (by repeat (first | assumption | exact up_s | rw [up_n (by first | assumption | (apply Ne.symm; assumption) | decide | omega)])), (by repeat (first | assumption | exact up_s | rw [up_n (by first | assumption | (apply Ne.symm; assumption) | decide | omega)])), (by repeat (first | assumption | exact up_s | rw [up_n (by first | assumption | (apply Ne.symm; assumption) | decide | omega)])), (by repeat (first | assumption | exact up_s | rw [up_n (by first | assumption | (apply Ne.symm; assumption) | decide | omega)])), (by repeat (first | assumption | exact up_s | rw [up_n (by first | assumption | (apply Ne.symm; assumption) | decide | omega)])), hW, (hL.row ha3 hia)⟩ (by repeat (first | assumption | exact Fr.rf | refine Fr.up ?_ (by simp)))
    · refine P.aload_n (dq dtX7_insert_0 48 rfl) rfl ?_
      refine P.get flX7_48 (dq dtX7_insert_0 49 rfl) (by repeat (first | assumption | exact up_s | rw [up_n (by first | assumption | (apply Ne.symm; assumption) | decide | omega)])) (by rfl) ?_
      refine P.bipush (dq dtX7_insert_0 50 rfl) rfl ?_
      refine P.iload_n (dq dtX7_insert_0 51 rfl) rfl ?_
      refine P.imul (dq dtX7_insert_0 52 rfl) ?_
      refine P.iload (dq dtX7_insert_0 53 rfl) rfl ?_
      refine P.iadd (dq dtX7_insert_0 54 rfl) ?_
      refine P.aload_n (dq dtX7_insert_0 55 rfl) rfl ?_
      refine P.get flX7_48 (dq dtX7_insert_0 56 rfl) (by repeat (first | assumption | exact up_s | rw [up_n (by first | assumption | (apply Ne.symm; assumption) | decide | omega)])) (by rfl) ?_
      refine P.bipush (dq dtX7_insert_0 57 rfl) rfl ?_
      refine P.iload_n (dq dtX7_insert_0 58 rfl) rfl ?_
      refine P.imul (dq dtX7_insert_0 59 rfl) ?_
      refine P.iload (dq dtX7_insert_0 60 rfl) rfl ?_
      refine P.iadd (dq dtX7_insert_0 61 rfl) ?_
      refine P.iconst (dq dtX7_insert_0 62 rfl) ?_
      refine P.isub (dq dtX7_insert_0 63 rfl) ?_
      refine P.iald (dq dtX7_insert_1 0 rfl) (by repeat (first | assumption | exact up_s | rw [up_n (by first | assumption | (apply Ne.symm; assumption) | decide | omega)])) (by omega) (by omega) (by omega) ?_
      refine P.iast (dq dtX7_insert_1 1 rfl) (by repeat (first | assumption | exact up_s | rw [up_n (by first | assumption | (apply Ne.symm; assumption) | decide | omega)])) (by omega) (by omega) (by omega) ?_
      refine P.iinc (dq dtX7_insert_1 2 rfl) rfl (by decide) rfl rfl ?_
      refine P.goto (t := 80) (dq dtX7_insert_1 3 rfl) rfl ?_
      rw [up_up, show 24 * a + k - 1 = 24 * a + (k - 1) by omega, rowU_r (by omega), rowU_up (by omega), shF_step (by omega), show k + -1 = k - 1 by omega]
      exact ih (k - 1) (by omega) (by omega)
/-- insert -/
theorem md_insert {x : CM} {d N : Nat} {σ : PH} {Q : PQ} {S : CSt} (hG : CG S) (hM : MD σ S) (hd : 2 ≤ d) {a i c : Int} (ha : inR a) (hi : inR i) (hc : inR c) (h : ∀ σ' : PH, MD σ' (sIns S a i c) → Fr σ σ' LM → Q (some (vI (aIns S a i c))) σ') : Call x d 0 0 mX7_insert [vR 84, vI a, vI i, vI c] N σ Q := by
  refine Call.of mcX7_insert (Nat.le_of_ble_eq_true rfl) (fun y hy => ?_)
  subst hy
  obtain ⟨wf, sz, lt, a1, a2, a3, a4, a5, fi, be, rp, cl, dg, nu, pk, wm, h84, h85, h86, h87, h88, h89, h90, h91, h92, h93, h94, h95, hW, hL⟩ := id hM
  have hGm := hG.2.1.1
  have hp := hGm.1
  have hs := hGm.2.1
  have hL9 := mul_bd (k := S.now.1.1 - 1) (s := S.now.1.2.1) (by omega) (by omega) (by omega) (by omega)
  refine P.iload_n (dq dtX7_insert_0 0 rfl) rfl ?_
  refine P.callS1 (M' := mX7_isLabel) (d' := d - 1) mlX7_232 mcX7_isLabel msX7_isLabel (dq dtX7_insert_0 1 rfl) (by omega) (Nat.le_of_ble_eq_true rfl) ?_
  refine ct_X7_isLabel (by omega) ha (fun n_1 => ?_) (fun n_1 => ?_)
  · refine P.if_ne (t := 10) (dq dtX7_insert_0 2 rfl) rfl (by omega) (fun _ => ?_) (fun h9 => absurd h9 (by decide))
    have es := hL.1 a (by omega) (by omega)
    have bn := (hG.2.2.2.2.2 a.toNat (by omega)).1
    have bf := (hG.2.2.2.2.2 a.toNat (by omega)).2
    have bz : (sz a < 0 ∧ S.it a = 0 ∧ sz a = -1) ∨ (0 ≤ sz a ∧ S.it a ≠ 0 ∧ sz a = S.ln a.toNat) := by
      rw [es]
      split
      · next q => exact Or.inl ⟨by omega, q, rfl⟩
      · next q => exact Or.inr ⟨by omega, q, rfl⟩
    refine P.iload_n (dq dtX7_insert_0 5 rfl) rfl ?_
    refine P.i2l (dq dtX7_insert_0 6 rfl) (by omega) ?_
    refine P.ldc2 (n := 32) (dq dtX7_insert_0 7 rfl) kcX7_235 rfl ?_
    refine P.ldc2 (n := 126) (dq dtX7_insert_0 8 rfl) kcX7_237 rfl ?_
    refine P.callS3 (M' := mX7_in) (d' := d - 1) mlX7_65 mcX7_in msX7_in (dq dtX7_insert_0 9 rfl) (by omega) (Nat.le_of_ble_eq_true rfl) ?_
    refine ct_X7_in (by omega) (by omega) (by omega) (fun n_18 => ?_) (fun n_18 => ?_)
    · refine P.if_ne (t := 27) (dq dtX7_insert_0 10 rfl) rfl (by omega) (fun _ => ?_) (fun h9 => absurd h9 (by decide))
      refine P.aload_n (dq dtX7_insert_0 13 rfl) rfl ?_
      refine P.get flX7_45 (dq dtX7_insert_0 14 rfl) (by repeat (first | assumption | exact up_s | rw [up_n (by first | assumption | (apply Ne.symm; assumption) | decide | omega)])) (by rfl) ?_
      refine P.iload_n (dq dtX7_insert_0 15 rfl) rfl ?_
      refine P.iald (dq dtX7_insert_0 16 rfl) (by repeat (first | assumption | exact up_s | rw [up_n (by first | assumption | (apply Ne.symm; assumption) | decide | omega)])) (by omega) (by omega) (by omega) ?_
      refine P.if_ge (t := 39) (dq dtX7_insert_0 17 rfl) rfl (by omega) (fun c_33 => ?_) (fun c_33 => ?_)
      · refine P.iload_n (dq dtX7_insert_0 20 rfl) rfl ?_
        refine P.i2l (dq dtX7_insert_0 21 rfl) (by omega) ?_
        refine P.lconst (z := 0) (dq dtX7_insert_0 22 rfl) rfl ?_
        refine P.aload_n (dq dtX7_insert_0 23 rfl) rfl ?_
        refine P.get flX7_45 (dq dtX7_insert_0 24 rfl) (by repeat (first | assumption | exact up_s | rw [up_n (by first | assumption | (apply Ne.symm; assumption) | decide | omega)])) (by rfl) ?_
        refine P.iload_n (dq dtX7_insert_0 25 rfl) rfl ?_
        refine P.iald (dq dtX7_insert_0 26 rfl) (by repeat (first | assumption | exact up_s | rw [up_n (by first | assumption | (apply Ne.symm; assumption) | decide | omega)])) (by omega) (by omega) (by omega) ?_
        refine P.i2l (dq dtX7_insert_0 27 rfl) (by omega) ?_
        refine P.callS3 (M' := mX7_in) (d' := d - 1) mlX7_65 mcX7_in msX7_in (dq dtX7_insert_0 28 rfl) (by omega) (Nat.le_of_ble_eq_true rfl) ?_
        refine ct_X7_in (by omega) (by omega) (by omega) (fun n_49 => ?_) (fun n_49 => ?_)
        · refine P.if_ne (t := 58) (dq dtX7_insert_0 29 rfl) rfl (by omega) (fun _ => ?_) (fun h9 => absurd h9 (by decide))
          refine P.aload_n (dq dtX7_insert_0 32 rfl) rfl ?_
          refine P.get flX7_45 (dq dtX7_insert_0 33 rfl) (by repeat (first | assumption | exact up_s | rw [up_n (by first | assumption | (apply Ne.symm; assumption) | decide | omega)])) (by rfl) ?_
          refine P.iload_n (dq dtX7_insert_0 34 rfl) rfl ?_
          refine P.iald (dq dtX7_insert_0 35 rfl) (by repeat (first | assumption | exact up_s | rw [up_n (by first | assumption | (apply Ne.symm; assumption) | decide | omega)])) (by omega) (by omega) (by omega) ?_
          refine P.bipush (dq dtX7_insert_0 36 rfl) rfl ?_
          refine P.icmp_ne (t := 72) (dq dtX7_insert_0 37 rfl) rfl (by omega) (by omega) (fun c_66 => ?_) (fun c_66 => ?_)
          · refine P.aload_n (dq dtX7_insert_0 40 rfl) rfl ?_
            refine P.get flX7_45 (dq dtX7_insert_0 41 rfl) (by repeat (first | assumption | exact up_s | rw [up_n (by first | assumption | (apply Ne.symm; assumption) | decide | omega)])) (by rfl) ?_
            refine P.iload_n (dq dtX7_insert_0 42 rfl) rfl ?_
            refine P.iald (dq dtX7_insert_0 43 rfl) (by repeat (first | assumption | exact up_s | rw [up_n (by first | assumption | (apply Ne.symm; assumption) | decide | omega)])) (by omega) (by omega) (by omega) ?_
            rw [show sz a = S.ln a.toNat by omega]
            refine P.istore (dq dtX7_insert_0 44 rfl) (by decide) rfl rfl ?_
            have e1 : sIns S a i c = sLab S S.it (upN S.ln a.toNat (S.ln a.toNat + 1)) (upN S.lf a.toNat (insF (S.lf a.toNat) (S.ln a.toNat) i c)) := if_pos (by omega)
            rw [e1] at h
            unfold aIns at h
            repeat (first | rw [if_pos (by omega)] at h | rw [if_neg (by omega)] at h)
            refine P.ext (q := 95) (t := 0) (n := 72) (f' := rowU lt a (S.lf a.toNat)) h95 (rowU_ext hL (by omega)) ?_
            have hh := lp_insM (x := y) (d := d) (N := N) (Q := Q) (c := c) hG h84 h85 h86 h87 h88 h89 h90 h91 h92 h93 h94 hW hL (by omega) (by omega) (by omega) (show 0 ≤ i ∧ i ≤ S.ln a.toNat by omega) (by omega) h 25 (S.ln a.toNat) (by omega) (by omega)
            rw [shF_0] at hh
            exact hh
          · refine P.ldc (n := -100013) (dq dtX7_insert_0 38 rfl) kcX7_241 rfl ?_
            refine P.iret (dq dtX7_insert_0 39 rfl) rfl rfl rfl ?_
            have e1 : sIns S a i c = S := if_neg (by omega)
            rw [e1] at h
            unfold aIns at h
            repeat (first | rw [if_pos (by omega)] at h | rw [if_neg (by omega)] at h)
            exact h σ hM Fr.rf
        · refine P.if_ne (t := 58) (dq dtX7_insert_0 29 rfl) rfl (by omega) (fun h9 => absurd h9 (by decide)) (fun _ => ?_)
          refine P.ldc (n := -100012) (dq dtX7_insert_0 30 rfl) kcX7_240 rfl ?_
          refine P.iret (dq dtX7_insert_0 31 rfl) rfl rfl rfl ?_
          have e1 : sIns S a i c = S := if_neg (by omega)
          rw [e1] at h
          unfold aIns at h
          repeat (first | rw [if_pos (by omega)] at h | rw [if_neg (by omega)] at h)
          exact h σ hM Fr.rf
      · refine P.ldc (n := -100011) (dq dtX7_insert_0 18 rfl) kcX7_239 rfl ?_
        refine P.iret (dq dtX7_insert_0 19 rfl) rfl rfl rfl ?_
        have e1 : sIns S a i c = S := if_neg (by omega)
        rw [e1] at h
        unfold aIns at h
        repeat (first | rw [if_pos (by omega)] at h | rw [if_neg (by omega)] at h)
        exact h σ hM Fr.rf
    · refine P.if_ne (t := 27) (dq dtX7_insert_0 10 rfl) rfl (by omega) (fun h9 => absurd h9 (by decide)) (fun _ => ?_)
      refine P.ldc (n := -100002) (dq dtX7_insert_0 11 rfl) kcX7_75 rfl ?_
      refine P.iret (dq dtX7_insert_0 12 rfl) rfl rfl rfl ?_
      have e1 : sIns S a i c = S := if_neg (by omega)
      rw [e1] at h
      unfold aIns at h
      repeat (first | rw [if_pos (by omega)] at h | rw [if_neg (by omega)] at h)
      exact h σ hM Fr.rf
  · refine P.if_ne (t := 10) (dq dtX7_insert_0 2 rfl) rfl (by omega) (fun h9 => absurd h9 (by decide)) (fun _ => ?_)
    refine P.ldc (n := -100001) (dq dtX7_insert_0 3 rfl) kcX7_163 rfl ?_
    refine P.iret (dq dtX7_insert_0 4 rfl) rfl rfl rfl ?_
    have e1 : sIns S a i c = S := if_neg (by omega)
    rw [e1] at h
    unfold aIns at h
    repeat (first | rw [if_pos (by omega)] at h | rw [if_neg (by omega)] at h)
    exact h σ hM Fr.rf
theorem lp_cutM {x : CX} {d N : Nat} {σ : PH} {Q : PQ} {S : CSt} (hG : CG S) {wf sz lt a1 a2 a3 a4 a5 : Int → Int} {fi be rp cl dg nu pk wm : Int} (h84 : σ 84 = mdO S.now.1.1 S.now.1.2.1 S.ct S.tn fi be rp cl dg nu pk wm) (h85 : σ 85 = pcI 0 1404 wf) (h86 : σ 86 = pcI 1 2 S.ik) (h87 : σ 87 = pcI 0 200 S.tf) (h88 : σ 88 = pcI 0 16 wdA) (h89 : σ 89 = pcI 0 8 a1) (h90 : σ 90 = pcI 0 8 a2) (h91 : σ 91 = pcI 0 8 a3) (h92 : σ 92 = pcI 0 8 a4) (h93 : σ 93 = pcI 0 80 a5) (h94 : σ 94 = pcI 0 3 sz) (hW : WR S wf) (hL : LR S sz lt) {a : Int} (ha3 : 0 ≤ a ∧ a < 3) (hia : S.it a ≠ 0) (esa : sz a = S.ln a.toNat) {i j : Int} (hij : 0 ≤ i ∧ i ≤ j ∧ j ≤ S.ln a.toNat) (h : ∀ σ' : PH, MD σ' (sLab S S.it (upN S.ln a.toNat (S.ln a.toNat - (j - i))) (upN S.lf a.toNat (rmF (S.lf a.toNat) i j (S.ln a.toNat)))) → Fr σ σ' LM → Q (some (vI (S.ln a.toNat - (j - i)))) σ') : ∀ (t : Nat) (k : Int), j ≤ k ∧ k ≤ S.ln a.toNat → S.ln a.toNat - k < t → P x d mX7_cut Q (0, 0) 47 [some (vR 84), some (vI a), some (vI i), some (vI j), some (vI k)] [] N (up σ 95 (pcI 0 72 (rowU lt a (rmF (S.lf a.toNat) i j k)))) := by
  intro t
  induction t with
  | zero =>
    intro k hk hm
    exfalso; omega
  | succ t ih =>
    intro k hk hm
    have bn := (hG.2.2.2.2.2 a.toNat (by omega)).1
    refine P.iload (dq dtX7_cut_0 27 rfl) rfl ?_
    refine P.aload_n (dq dtX7_cut_0 28 rfl) rfl ?_
    refine P.get flX7_45 (dq dtX7_cut_0 29 rfl) (by repeat (first | assumption | exact up_s | rw [up_n (by first | assumption | (apply Ne.symm; assumption) | decide | omega)])) (by rfl) ?_
    refine P.iload_n (dq dtX7_cut_0 30 rfl) rfl ?_
    refine P.iald (dq dtX7_cut_0 31 rfl) (by repeat (first | assumption | exact up_s | rw [up_n (by first | assumption | (apply Ne.symm; assumption) | decide | omega)])) (by omega) (by omega) (by omega) ?_
    rw [esa]
    refine P.icmp_ge (t := 92) (dq dtX7_cut_0 32 rfl) rfl (by omega) (by omega) (fun c_55 => ?_) (fun c_55 => ?_)
    · obtain rfl : k = S.ln a.toNat := by omega
      refine P.aload_n (dq dtX7_cut_0 55 rfl) rfl ?_
      refine P.get flX7_45 (dq dtX7_cut_0 56 rfl) (by repeat (first | assumption | exact up_s | rw [up_n (by first | assumption | (apply Ne.symm; assumption) | decide | omega)])) (by rfl) ?_
      refine P.iload_n (dq dtX7_cut_0 57 rfl) rfl ?_
      refine P.dup2 (dq dtX7_cut_0 58 rfl) rfl rfl ?_
      refine P.iald (dq dtX7_cut_0 59 rfl) (by repeat (first | assumption | exact up_s | rw [up_n (by first | assumption | (apply Ne.symm; assumption) | decide | omega)])) (by omega) (by omega) (by omega) ?_
      refine P.iload_n (dq dtX7_cut_0 60 rfl) rfl ?_
      refine P.iload_n (dq dtX7_cut_0 61 rfl) rfl ?_
      refine P.isub (dq dtX7_cut_0 62 rfl) ?_
      refine P.isub (dq dtX7_cut_0 63 rfl) ?_
      rw [esa]
      refine P.iast (dq dtX7_cut_1 0 rfl) (by repeat (first | assumption | exact up_s | rw [up_n (by first | assumption | (apply Ne.symm; assumption) | decide | omega)])) (by omega) (by omega) (by omega) ?_
      refine P.aload_n (dq dtX7_cut_1 1 rfl) rfl ?_
      refine P.get flX7_45 (dq dtX7_cut_1 2 rfl) (by repeat (first | assumption | exact up_s | rw [up_n (by first | assumption | (apply Ne.symm; assumption) | decide | omega)])) (by rfl) ?_
      refine P.iload_n (dq dtX7_cut_1 3 rfl) rfl ?_
      refine P.iald (dq dtX7_cut_1 4 rfl) (by repeat (first | assumption | exact up_s | rw [up_n (by first | assumption | (apply Ne.symm; assumption) | decide | omega)])) (by omega) (by omega) (by omega) ?_
      rw [upI_s]
      refine P.iret (dq dtX7_cut_1 5 rfl) rfl rfl rfl ?_
      exact h _ ⟨_, _, _, _, _, _, _, _, _, _, _, _, _, _, _, _, (by repeat (first | assumption | exact up_s | rw [up_n (by first | assumption | (apply Ne.symm; assumption) | decide | omega)])), (by repeat (first | assumption | exact up_s | rw [up_n (by first | assumption | (apply Ne.symm; assumption) | decide | omega)])), (by repeat (first | assumption | exact up_s | rw [up_n (by first | assumption | (apply Ne.symm; assumption) | decide | omega)])), (by repeat (first | assumption | exact up_s | rw [up_n (by first | assumption | (apply Ne.symm; assumption) | decide | omega)])), (by repeat (first | assumption | exact up_s | rw [up_n (by first | assumption | (apply Ne.symm; assumption) | decide | omega)])), (by repeat (first | assumption | exact up_s | rw [up_n (by first | assumption | (apply Ne.symm; assumption) | decide | omega)])), (by repeat (first | assumption | exact up_s | rw [up_n (by first | assumption | (apply Ne.symm; assumption) | decide | omega)])), (by repeat (first | assumption | exact up_s | rw [up_n (by first | assumption | (apply Ne.symm; assumption) | decide | omega)])), (by repeat (first | assumption | exact up_s | rw [up_n (by first | assumption | (apply Ne.symm; assumption) | decide | omega)])), (by repeat (first | assumption | exact up_s | rw [up_n (by first | assumption | (apply Ne.symm; assumption) | decide | omega)])), (by repeat (first | assumption | exact up_s | rw [up_n (by first | assumption | (apply Ne.symm; assumption) | decide | omega)])), (by repeat (first | assumption | exact up_s | rw [up_n (by first | assumption | (apply Ne.symm; assumption) | decide | omega)])), hW, (hL.row ha3 hia)⟩ (by repeat (first | assumption | exact Fr.rf | refine Fr.up ?_ (by simp)))
    · refine P.aload_n (dq dtX7_cut_0 33 rfl) rfl ?_
      refine P.get flX7_48 (dq dtX7_cut_0 34 rfl) (by repeat (first | assumption | exact up_s | rw [up_n (by first | assumption | (apply Ne.symm; assumption) | decide | omega)])) (by rfl) ?_
      refine P.bipush (dq dtX7_cut_0 35 rfl) rfl ?_
      refine P.iload_n (dq dtX7_cut_0 36 rfl) rfl ?_
      refine P.imul (dq dtX7_cut_0 37 rfl) ?_
      refine P.iload_n (dq dtX7_cut_0 38 rfl) rfl ?_
      refine P.iadd (dq dtX7_cut_0 39 rfl) ?_
      refine P.iload (dq dtX7_cut_0 40 rfl) rfl ?_
      refine P.iadd (dq dtX7_cut_0 41 rfl) ?_
      refine P.iload_n (dq dtX7_cut_0 42 rfl) rfl ?_
      refine P.isub (dq dtX7_cut_0 43 rfl) ?_
      refine P.aload_n (dq dtX7_cut_0 44 rfl) rfl ?_
      refine P.get flX7_48 (dq dtX7_cut_0 45 rfl) (by repeat (first | assumption | exact up_s | rw [up_n (by first | assumption | (apply Ne.symm; assumption) | decide | omega)])) (by rfl) ?_
      refine P.bipush (dq dtX7_cut_0 46 rfl) rfl ?_
      refine P.iload_n (dq dtX7_cut_0 47 rfl) rfl ?_
      refine P.imul (dq dtX7_cut_0 48 rfl) ?_
      refine P.iload (dq dtX7_cut_0 49 rfl) rfl ?_
      refine P.iadd (dq dtX7_cut_0 50 rfl) ?_
      refine P.iald (dq dtX7_cut_0 51 rfl) (by repeat (first | assumption | exact up_s | rw [up_n (by first | assumption | (apply Ne.symm; assumption) | decide | omega)])) (by omega) (by omega) (by omega) ?_
      refine P.iast (dq dtX7_cut_0 52 rfl) (by repeat (first | assumption | exact up_s | rw [up_n (by first | assumption | (apply Ne.symm; assumption) | decide | omega)])) (by omega) (by omega) (by omega) ?_
      refine P.iinc (dq dtX7_cut_0 53 rfl) rfl (by decide) rfl rfl ?_
      refine P.goto (t := 47) (dq dtX7_cut_0 54 rfl) rfl ?_
      rw [up_up, show 24 * a + i + k - j = 24 * a + (i + k - j) by omega, rowU_r (by omega), rowU_up (by omega), rmF_step (by omega) (by omega)]
      exact ih (k + 1) (by omega) (by omega)
/-- cut -/
theorem md_cut {x : CM} {d N : Nat} {σ : PH} {Q : PQ} {S : CSt} (hG : CG S) (hM : MD σ S) (hd : 2 ≤ d) {a i j : Int} (ha : inR a) (hi : inR i) (hj : inR j) (h : ∀ σ' : PH, MD σ' (sCut S a i j) → Fr σ σ' LM → Q (some (vI (aCut S a i j))) σ') : Call x d 0 0 mX7_cut [vR 84, vI a, vI i, vI j] N σ Q := by
  refine Call.of mcX7_cut (Nat.le_of_ble_eq_true rfl) (fun y hy => ?_)
  subst hy
  obtain ⟨wf, sz, lt, a1, a2, a3, a4, a5, fi, be, rp, cl, dg, nu, pk, wm, h84, h85, h86, h87, h88, h89, h90, h91, h92, h93, h94, h95, hW, hL⟩ := id hM
  have hGm := hG.2.1.1
  have hp := hGm.1
  have hs := hGm.2.1
  have hL9 := mul_bd (k := S.now.1.1 - 1) (s := S.now.1.2.1) (by omega) (by omega) (by omega) (by omega)
  refine P.iload_n (dq dtX7_cut_0 0 rfl) rfl ?_
  refine P.callS1 (M' := mX7_isLabel) (d' := d - 1) mlX7_232 mcX7_isLabel msX7_isLabel (dq dtX7_cut_0 1 rfl) (by omega) (Nat.le_of_ble_eq_true rfl) ?_
  refine ct_X7_isLabel (by omega) ha (fun n_1 => ?_) (fun n_1 => ?_)
  · refine P.if_ne (t := 10) (dq dtX7_cut_0 2 rfl) rfl (by omega) (fun _ => ?_) (fun h9 => absurd h9 (by decide))
    have es := hL.1 a (by omega) (by omega)
    have bn := (hG.2.2.2.2.2 a.toNat (by omega)).1
    have bf := (hG.2.2.2.2.2 a.toNat (by omega)).2
    have bz : (sz a < 0 ∧ S.it a = 0 ∧ sz a = -1) ∨ (0 ≤ sz a ∧ S.it a ≠ 0 ∧ sz a = S.ln a.toNat) := by
      rw [es]
      split
      · next q => exact Or.inl ⟨by omega, q, rfl⟩
      · next q => exact Or.inr ⟨by omega, q, rfl⟩
    refine P.aload_n (dq dtX7_cut_0 5 rfl) rfl ?_
    refine P.get flX7_45 (dq dtX7_cut_0 6 rfl) (by repeat (first | assumption | exact up_s | rw [up_n (by first | assumption | (apply Ne.symm; assumption) | decide | omega)])) (by rfl) ?_
    refine P.iload_n (dq dtX7_cut_0 7 rfl) rfl ?_
    refine P.iald (dq dtX7_cut_0 8 rfl) (by repeat (first | assumption | exact up_s | rw [up_n (by first | assumption | (apply Ne.symm; assumption) | decide | omega)])) (by omega) (by omega) (by omega) ?_
    refine P.if_ge (t := 22) (dq dtX7_cut_0 9 rfl) rfl (by omega) (fun c_16 => ?_) (fun c_16 => ?_)
    · have e9 := rfL_z (it := S.it) (a := a) (by omega) (by omega)
      refine P.iload_n (dq dtX7_cut_0 12 rfl) rfl ?_
      refine P.if_lt (t := 41) (dq dtX7_cut_0 13 rfl) rfl (by omega) (fun c_23 => ?_) (fun c_23 => ?_)
      · refine P.ldc (n := -100012) (dq dtX7_cut_0 23 rfl) kcX7_240 rfl ?_
        refine P.iret (dq dtX7_cut_0 24 rfl) rfl rfl rfl ?_
        have e1 : sCut S a i j = S := if_neg (by omega)
        rw [e1] at h
        unfold aCut at h
        repeat (first | rw [if_pos (by omega)] at h | rw [if_neg (by omega)] at h)
        exact h σ hM Fr.rf
      · refine P.iload_n (dq dtX7_cut_0 14 rfl) rfl ?_
        refine P.iload_n (dq dtX7_cut_0 15 rfl) rfl ?_
        refine P.icmp_lt (t := 41) (dq dtX7_cut_0 16 rfl) rfl (by omega) (by omega) (fun c_28 => ?_) (fun c_28 => ?_)
        · refine P.ldc (n := -100012) (dq dtX7_cut_0 23 rfl) kcX7_240 rfl ?_
          refine P.iret (dq dtX7_cut_0 24 rfl) rfl rfl rfl ?_
          have e1 : sCut S a i j = S := if_neg (by omega)
          rw [e1] at h
          unfold aCut at h
          repeat (first | rw [if_pos (by omega)] at h | rw [if_neg (by omega)] at h)
          exact h σ hM Fr.rf
        · refine P.iload_n (dq dtX7_cut_0 17 rfl) rfl ?_
          refine P.aload_n (dq dtX7_cut_0 18 rfl) rfl ?_
          refine P.get flX7_45 (dq dtX7_cut_0 19 rfl) (by repeat (first | assumption | exact up_s | rw [up_n (by first | assumption | (apply Ne.symm; assumption) | decide | omega)])) (by rfl) ?_
          refine P.iload_n (dq dtX7_cut_0 20 rfl) rfl ?_
          refine P.iald (dq dtX7_cut_0 21 rfl) (by repeat (first | assumption | exact up_s | rw [up_n (by first | assumption | (apply Ne.symm; assumption) | decide | omega)])) (by omega) (by omega) (by omega) ?_
          refine P.icmp_le (t := 44) (dq dtX7_cut_0 22 rfl) rfl (by omega) (by omega) (fun c_38 => ?_) (fun c_38 => ?_)
          · refine P.iload_n (dq dtX7_cut_0 25 rfl) rfl ?_
            refine P.istore (dq dtX7_cut_0 26 rfl) (by decide) rfl rfl ?_
            have e1 : sCut S a i j = sLab S S.it (upN S.ln a.toNat (S.ln a.toNat - (j - i))) (upN S.lf a.toNat (rmF (S.lf a.toNat) i j (S.ln a.toNat))) := if_pos (by omega)
            rw [e1] at h
            unfold aCut at h
            repeat (first | rw [if_pos (by omega)] at h | rw [if_neg (by omega)] at h)
            refine P.ext (q := 95) (t := 0) (n := 72) (f' := rowU lt a (S.lf a.toNat)) h95 (rowU_ext hL (by omega)) ?_
            have hh := lp_cutM (x := y) (d := d) (N := N) (Q := Q) hG h84 h85 h86 h87 h88 h89 h90 h91 h92 h93 h94 hW hL (by omega) (by omega) (by omega) (show 0 ≤ i ∧ i ≤ j ∧ j ≤ S.ln a.toNat by omega) h 25 j (by omega) (by omega)
            rw [rmF_0] at hh
            exact hh
          · refine P.ldc (n := -100012) (dq dtX7_cut_0 23 rfl) kcX7_240 rfl ?_
            refine P.iret (dq dtX7_cut_0 24 rfl) rfl rfl rfl ?_
            have e1 : sCut S a i j = S := if_neg (by omega)
            rw [e1] at h
            unfold aCut at h
            repeat (first | rw [if_pos (by omega)] at h | rw [if_neg (by omega)] at h)
            exact h σ hM Fr.rf
    · refine P.ldc (n := -100011) (dq dtX7_cut_0 10 rfl) kcX7_239 rfl ?_
      refine P.iret (dq dtX7_cut_0 11 rfl) rfl rfl rfl ?_
      have e9 := rfL_n (it := S.it) (a := a) (by omega) (by omega)
      have e1 : sCut S a i j = S := if_neg (by omega)
      rw [e1] at h
      unfold aCut at h
      repeat (first | rw [if_pos (by omega)] at h | rw [if_neg (by omega)] at h)
      rw [e9] at h
      exact h σ hM Fr.rf
  · refine P.if_ne (t := 10) (dq dtX7_cut_0 2 rfl) rfl (by omega) (fun h9 => absurd h9 (by decide)) (fun _ => ?_)
    refine P.ldc (n := -100001) (dq dtX7_cut_0 3 rfl) kcX7_163 rfl ?_
    refine P.iret (dq dtX7_cut_0 4 rfl) rfl rfl rfl ?_
    have e9 := rfL_u (it := S.it) (a := a) (by omega)
    have e1 : sCut S a i j = S := if_neg (by omega)
    rw [e1] at h
    unfold aCut at h
    repeat (first | rw [if_pos (by omega)] at h | rw [if_neg (by omega)] at h)
    rw [e9] at h
    exact h σ hM Fr.rf
theorem lp_joinM {x : CX} {d N : Nat} {σ : PH} {Q : PQ} {S : CSt} (hG : CG S) {wf sz lt a1 a2 a3 a4 a5 : Int → Int} {fi be rp cl dg nu pk wm : Int} (h84 : σ 84 = mdO S.now.1.1 S.now.1.2.1 S.ct S.tn fi be rp cl dg nu pk wm) (h85 : σ 85 = pcI 0 1404 wf) (h86 : σ 86 = pcI 1 2 S.ik) (h87 : σ 87 = pcI 0 200 S.tf) (h88 : σ 88 = pcI 0 16 wdA) (h89 : σ 89 = pcI 0 8 a1) (h90 : σ 90 = pcI 0 8 a2) (h91 : σ 91 = pcI 0 8 a3) (h92 : σ 92 = pcI 0 8 a4) (h93 : σ 93 = pcI 0 80 a5) (h94 : σ 94 = pcI 0 3 sz) (hW : WR S wf) (hL : LR S sz lt) {a : Int} (ha3 : 0 ≤ a ∧ a < 3) (hia : S.it a ≠ 0) (esa : sz a = S.ln a.toNat) {b : Int} (hb3 : 0 ≤ b ∧ b < 3) (hr : S.ln a.toNat + S.ln b.toNat ≤ 24) (h : ∀ σ' : PH, MD σ' (sLab S S.it (upN S.ln a.toNat (S.ln a.toNat + S.ln b.toNat)) (upN S.lf a.toNat (apF (S.lf a.toNat) (S.lf b.toNat) (S.ln a.toNat) (S.ln b.toNat)))) → Fr σ σ' LM → Q (some (vI (S.ln a.toNat + S.ln b.toNat))) σ') : ∀ (t : Nat) (k : Int), 0 ≤ k ∧ k ≤ S.ln b.toNat → S.ln b.toNat - k < t → P x d mX7_join Q (0, 0) 64 [some (vR 84), some (vI a), some (vI b), some (vI (S.ln b.toNat)), some (vI k)] [] N (up σ 95 (pcI 0 72 (rowU lt a (apF (S.lf a.toNat) (S.lf b.toNat) (S.ln a.toNat) k)))) := by
  intro t
  induction t with
  | zero =>
    intro k hk hm
    exfalso; omega
  | succ t ih =>
    intro k hk hm
    have bn := (hG.2.2.2.2.2 a.toNat (by omega)).1
    have bnb := (hG.2.2.2.2.2 b.toNat (by omega)).1
    refine P.iload (dq dtX7_join_0 37 rfl) rfl ?_
    refine P.iload_n (dq dtX7_join_0 38 rfl) rfl ?_
    refine P.icmp_ge (t := 107) (dq dtX7_join_0 39 rfl) rfl (by omega) (by omega) (fun c_67 => ?_) (fun c_67 => ?_)
    · obtain rfl : k = S.ln b.toNat := by omega
      refine P.aload_n (dq dtX7_join_0 63 rfl) rfl ?_
      refine P.get flX7_45 (dq dtX7_join_1 0 rfl) (by repeat (first | assumption | exact up_s | rw [up_n (by first | assumption | (apply Ne.symm; assumption) | decide | omega)])) (by rfl) ?_
      refine P.iload_n (dq dtX7_join_1 1 rfl) rfl ?_
      refine P.dup2 (dq dtX7_join_1 2 rfl) rfl rfl ?_
      refine P.iald (dq dtX7_join_1 3 rfl) (by repeat (first | assumption | exact up_s | rw [up_n (by first | assumption | (apply Ne.symm; assumption) | decide | omega)])) (by omega) (by omega) (by omega) ?_
      refine P.iload_n (dq dtX7_join_1 4 rfl) rfl ?_
      refine P.iadd (dq dtX7_join_1 5 rfl) ?_
      rw [esa]
      refine P.iast (dq dtX7_join_1 6 rfl) (by repeat (first | assumption | exact up_s | rw [up_n (by first | assumption | (apply Ne.symm; assumption) | decide | omega)])) (by omega) (by omega) (by omega) ?_
      refine P.aload_n (dq dtX7_join_1 7 rfl) rfl ?_
      refine P.get flX7_45 (dq dtX7_join_1 8 rfl) (by repeat (first | assumption | exact up_s | rw [up_n (by first | assumption | (apply Ne.symm; assumption) | decide | omega)])) (by rfl) ?_
      refine P.iload_n (dq dtX7_join_1 9 rfl) rfl ?_
      refine P.iald (dq dtX7_join_1 10 rfl) (by repeat (first | assumption | exact up_s | rw [up_n (by first | assumption | (apply Ne.symm; assumption) | decide | omega)])) (by omega) (by omega) (by omega) ?_
      rw [upI_s]
      refine P.iret (dq dtX7_join_1 11 rfl) rfl rfl rfl ?_
      exact h _ ⟨_, _, _, _, _, _, _, _, _, _, _, _, _, _, _, _, (by repeat (first | assumption | exact up_s | rw [up_n (by first | assumption | (apply Ne.symm; assumption) | decide | omega)])), (by repeat (first | assumption | exact up_s | rw [up_n (by first | assumption | (apply Ne.symm; assumption) | decide | omega)])), (by repeat (first | assumption | exact up_s | rw [up_n (by first | assumption | (apply Ne.symm; assumption) | decide | omega)])), (by repeat (first | assumption | exact up_s | rw [up_n (by first | assumption | (apply Ne.symm; assumption) | decide | omega)])), (by repeat (first | assumption | exact up_s | rw [up_n (by first | assumption | (apply Ne.symm; assumption) | decide | omega)])), (by repeat (first | assumption | exact up_s | rw [up_n (by first | assumption | (apply Ne.symm; assumption) | decide | omega)])), (by repeat (first | assumption | exact up_s | rw [up_n (by first | assumption | (apply Ne.symm; assumption) | decide | omega)])), (by repeat (first | assumption | exact up_s | rw [up_n (by first | assumption | (apply Ne.symm; assumption) | decide | omega)])), (by repeat (first | assumption | exact up_s | rw [up_n (by first | assumption | (apply Ne.symm; assumption) | decide | omega)])), (by repeat (first | assumption | exact up_s | rw [up_n (by first | assumption | (apply Ne.symm; assumption) | decide | omega)])), (by repeat (first | assumption | exact up_s | rw [up_n (by first | assumption | (apply Ne.symm; assumption) | decide | omega)])), (by repeat (first | assumption | exact up_s | rw [up_n (by first | assumption | (apply Ne.symm; assumption) | decide | omega)])), hW, (hL.row ha3 hia)⟩ (by repeat (first | assumption | exact Fr.rf | refine Fr.up ?_ (by simp)))
    · refine P.aload_n (dq dtX7_join_0 40 rfl) rfl ?_
      refine P.get flX7_48 (dq dtX7_join_0 41 rfl) (by repeat (first | assumption | exact up_s | rw [up_n (by first | assumption | (apply Ne.symm; assumption) | decide | omega)])) (by rfl) ?_
      refine P.bipush (dq dtX7_join_0 42 rfl) rfl ?_
      refine P.iload_n (dq dtX7_join_0 43 rfl) rfl ?_
      refine P.imul (dq dtX7_join_0 44 rfl) ?_
      refine P.aload_n (dq dtX7_join_0 45 rfl) rfl ?_
      refine P.get flX7_45 (dq dtX7_join_0 46 rfl) (by repeat (first | assumption | exact up_s | rw [up_n (by first | assumption | (apply Ne.symm; assumption) | decide | omega)])) (by rfl) ?_
      refine P.iload_n (dq dtX7_join_0 47 rfl) rfl ?_
      refine P.iald (dq dtX7_join_0 48 rfl) (by repeat (first | assumption | exact up_s | rw [up_n (by first | assumption | (apply Ne.symm; assumption) | decide | omega)])) (by omega) (by omega) (by omega) ?_
      rw [esa]
      refine P.iadd (dq dtX7_join_0 49 rfl) ?_
      refine P.iload (dq dtX7_join_0 50 rfl) rfl ?_
      refine P.iadd (dq dtX7_join_0 51 rfl) ?_
      refine P.aload_n (dq dtX7_join_0 52 rfl) rfl ?_
      refine P.get flX7_48 (dq dtX7_join_0 53 rfl) (by repeat (first | assumption | exact up_s | rw [up_n (by first | assumption | (apply Ne.symm; assumption) | decide | omega)])) (by rfl) ?_
      refine P.bipush (dq dtX7_join_0 54 rfl) rfl ?_
      refine P.iload_n (dq dtX7_join_0 55 rfl) rfl ?_
      refine P.imul (dq dtX7_join_0 56 rfl) ?_
      refine P.iload (dq dtX7_join_0 57 rfl) rfl ?_
      refine P.iadd (dq dtX7_join_0 58 rfl) ?_
      refine P.iald (dq dtX7_join_0 59 rfl) (by repeat (first | assumption | exact up_s | rw [up_n (by first | assumption | (apply Ne.symm; assumption) | decide | omega)])) (by omega) (by omega) (by omega) ?_
      have erd : rowU lt a (apF (S.lf a.toNat) (S.lf b.toNat) (S.ln a.toNat) k) (24 * b + k) = S.lf b.toNat k := by
        by_cases e : a = b
        · rw [← e] at bnb c_67 hk ⊢
          rw [rowU_r (by omega)]
          unfold apF
          rw [if_neg (by omega)]
        · rw [rowU_o e (by omega)]
          exact hL.2 b k (by omega) (by omega) (by omega) (by omega)
      rw [erd]
      refine P.iast (dq dtX7_join_0 60 rfl) (by repeat (first | assumption | exact up_s | rw [up_n (by first | assumption | (apply Ne.symm; assumption) | decide | omega)])) (by omega) (by omega) (by omega) ?_
      refine P.iinc (dq dtX7_join_0 61 rfl) rfl (by decide) rfl rfl ?_
      refine P.goto (t := 64) (dq dtX7_join_0 62 rfl) rfl ?_
      rw [up_up, show 24 * a + S.ln a.toNat + k = 24 * a + (S.ln a.toNat + k) by omega, rowU_up (by omega), apF_step (by omega)]
      exact ih (k + 1) (by omega) (by omega)
/-- join -/
theorem md_join {x : CM} {d N : Nat} {σ : PH} {Q : PQ} {S : CSt} (hG : CG S) (hM : MD σ S) (hd : 2 ≤ d) {a b : Int} (ha : inR a) (hb : inR b) (h : ∀ σ' : PH, MD σ' (sJoi S a b) → Fr σ σ' LM → Q (some (vI (aJoi S a b))) σ') : Call x d 0 0 mX7_join [vR 84, vI a, vI b] N σ Q := by
  refine Call.of mcX7_join (Nat.le_of_ble_eq_true rfl) (fun y hy => ?_)
  subst hy
  obtain ⟨wf, sz, lt, a1, a2, a3, a4, a5, fi, be, rp, cl, dg, nu, pk, wm, h84, h85, h86, h87, h88, h89, h90, h91, h92, h93, h94, h95, hW, hL⟩ := id hM
  have hGm := hG.2.1.1
  have hp := hGm.1
  have hs := hGm.2.1
  have hL9 := mul_bd (k := S.now.1.1 - 1) (s := S.now.1.2.1) (by omega) (by omega) (by omega) (by omega)
  refine P.iload_n (dq dtX7_join_0 0 rfl) rfl ?_
  refine P.callS1 (M' := mX7_isLabel) (d' := d - 1) mlX7_232 mcX7_isLabel msX7_isLabel (dq dtX7_join_0 1 rfl) (by omega) (Nat.le_of_ble_eq_true rfl) ?_
  refine ct_X7_isLabel (by omega) ha (fun n_1 => ?_) (fun n_1 => ?_)
  · refine P.if_eq (t := 14) (dq dtX7_join_0 2 rfl) rfl (by omega) (fun h9 => absurd h9 (by decide)) (fun _ => ?_)
    refine P.iload_n (dq dtX7_join_0 3 rfl) rfl ?_
    refine P.callS1 (M' := mX7_isLabel) (d' := d - 1) mlX7_232 mcX7_isLabel msX7_isLabel (dq dtX7_join_0 4 rfl) (by omega) (Nat.le_of_ble_eq_true rfl) ?_
    refine ct_X7_isLabel (by omega) hb (fun n_8 => ?_) (fun n_8 => ?_)
    · refine P.if_ne (t := 17) (dq dtX7_join_0 5 rfl) rfl (by omega) (fun _ => ?_) (fun h9 => absurd h9 (by decide))
      have es := hL.1 a (by omega) (by omega)
      have bn := (hG.2.2.2.2.2 a.toNat (by omega)).1
      have bf := (hG.2.2.2.2.2 a.toNat (by omega)).2
      have bz : (sz a < 0 ∧ S.it a = 0 ∧ sz a = -1) ∨ (0 ≤ sz a ∧ S.it a ≠ 0 ∧ sz a = S.ln a.toNat) := by
        rw [es]
        split
        · next q => exact Or.inl ⟨by omega, q, rfl⟩
        · next q => exact Or.inr ⟨by omega, q, rfl⟩
      have esb := hL.1 b (by omega) (by omega)
      have bnb := (hG.2.2.2.2.2 b.toNat (by omega)).1
      have bfb := (hG.2.2.2.2.2 b.toNat (by omega)).2
      have bzb : (sz b < 0 ∧ S.it b = 0 ∧ sz b = -1) ∨ (0 ≤ sz b ∧ S.it b ≠ 0 ∧ sz b = S.ln b.toNat) := by
        rw [esb]
        split
        · next q => exact Or.inl ⟨by omega, q, rfl⟩
        · next q => exact Or.inr ⟨by omega, q, rfl⟩
      refine P.aload_n (dq dtX7_join_0 8 rfl) rfl ?_
      refine P.get flX7_45 (dq dtX7_join_0 9 rfl) (by repeat (first | assumption | exact up_s | rw [up_n (by first | assumption | (apply Ne.symm; assumption) | decide | omega)])) (by rfl) ?_
      refine P.iload_n (dq dtX7_join_0 10 rfl) rfl ?_
      refine P.iald (dq dtX7_join_0 11 rfl) (by repeat (first | assumption | exact up_s | rw [up_n (by first | assumption | (apply Ne.symm; assumption) | decide | omega)])) (by omega) (by omega) (by omega) ?_
      refine P.if_lt (t := 35) (dq dtX7_join_0 12 rfl) rfl (by omega) (fun c_23 => ?_) (fun c_23 => ?_)
      · refine P.ldc (n := -100011) (dq dtX7_join_0 18 rfl) kcX7_239 rfl ?_
        refine P.iret (dq dtX7_join_0 19 rfl) rfl rfl rfl ?_
        have e9 := rf2_n (it := S.it) (a := a) (b := b) (by omega) (by omega)
        have e1 : sJoi S a b = S := if_neg (by omega)
        rw [e1] at h
        unfold aJoi at h
        repeat (first | rw [if_pos (by omega)] at h | rw [if_neg (by omega)] at h)
        rw [e9] at h
        exact h σ hM Fr.rf
      · refine P.aload_n (dq dtX7_join_0 13 rfl) rfl ?_
        refine P.get flX7_45 (dq dtX7_join_0 14 rfl) (by repeat (first | assumption | exact up_s | rw [up_n (by first | assumption | (apply Ne.symm; assumption) | decide | omega)])) (by rfl) ?_
        refine P.iload_n (dq dtX7_join_0 15 rfl) rfl ?_
        refine P.iald (dq dtX7_join_0 16 rfl) (by repeat (first | assumption | exact up_s | rw [up_n (by first | assumption | (apply Ne.symm; assumption) | decide | omega)])) (by omega) (by omega) (by omega) ?_
        refine P.if_ge (t := 38) (dq dtX7_join_0 17 rfl) rfl (by omega) (fun c_32 => ?_) (fun c_32 => ?_)
        · have e9 := rf2_z (it := S.it) (a := a) (b := b) (by omega) (by omega)
          refine P.aload_n (dq dtX7_join_0 20 rfl) rfl ?_
          refine P.get flX7_45 (dq dtX7_join_0 21 rfl) (by repeat (first | assumption | exact up_s | rw [up_n (by first | assumption | (apply Ne.symm; assumption) | decide | omega)])) (by rfl) ?_
          refine P.iload_n (dq dtX7_join_0 22 rfl) rfl ?_
          refine P.iald (dq dtX7_join_0 23 rfl) (by repeat (first | assumption | exact up_s | rw [up_n (by first | assumption | (apply Ne.symm; assumption) | decide | omega)])) (by omega) (by omega) (by omega) ?_
          rw [show sz b = S.ln b.toNat by omega]
          refine P.istore_n (dq dtX7_join_0 24 rfl) (by decide) rfl rfl ?_
          refine P.aload_n (dq dtX7_join_0 25 rfl) rfl ?_
          refine P.get flX7_45 (dq dtX7_join_0 26 rfl) (by repeat (first | assumption | exact up_s | rw [up_n (by first | assumption | (apply Ne.symm; assumption) | decide | omega)])) (by rfl) ?_
          refine P.iload_n (dq dtX7_join_0 27 rfl) rfl ?_
          refine P.iald (dq dtX7_join_0 28 rfl) (by repeat (first | assumption | exact up_s | rw [up_n (by first | assumption | (apply Ne.symm; assumption) | decide | omega)])) (by omega) (by omega) (by omega) ?_
          refine P.iload_n (dq dtX7_join_0 29 rfl) rfl ?_
          rw [show sz a = S.ln a.toNat by omega]
          refine P.iadd (dq dtX7_join_0 30 rfl) ?_
          refine P.bipush (dq dtX7_join_0 31 rfl) rfl ?_
          refine P.icmp_le (t := 61) (dq dtX7_join_0 32 rfl) rfl (by omega) (by omega) (fun c_55 => ?_) (fun c_55 => ?_)
          · refine P.iconst (dq dtX7_join_0 35 rfl) ?_
            refine P.istore (dq dtX7_join_0 36 rfl) (by decide) rfl rfl ?_
            have e1 : sJoi S a b = sLab S S.it (upN S.ln a.toNat (S.ln a.toNat + S.ln b.toNat)) (upN S.lf a.toNat (apF (S.lf a.toNat) (S.lf b.toNat) (S.ln a.toNat) (S.ln b.toNat))) := if_pos (by omega)
            rw [e1] at h
            unfold aJoi at h
            repeat (first | rw [if_pos (by omega)] at h | rw [if_neg (by omega)] at h)
            refine P.ext (q := 95) (t := 0) (n := 72) (f' := rowU lt a (S.lf a.toNat)) h95 (rowU_ext hL (by omega)) ?_
            have hh := lp_joinM (x := y) (d := d) (N := N) (Q := Q) (b := b) hG h84 h85 h86 h87 h88 h89 h90 h91 h92 h93 h94 hW hL (by omega) (by omega) (by omega) (by omega) (by omega) h 25 0 (by omega) (by omega)
            rw [apF_0] at hh
            exact hh
          · refine P.ldc (n := -100013) (dq dtX7_join_0 33 rfl) kcX7_241 rfl ?_
            refine P.iret (dq dtX7_join_0 34 rfl) rfl rfl rfl ?_
            have e1 : sJoi S a b = S := if_neg (by omega)
            rw [e1] at h
            unfold aJoi at h
            repeat (first | rw [if_pos (by omega)] at h | rw [if_neg (by omega)] at h)
            exact h σ hM Fr.rf
        · refine P.ldc (n := -100011) (dq dtX7_join_0 18 rfl) kcX7_239 rfl ?_
          refine P.iret (dq dtX7_join_0 19 rfl) rfl rfl rfl ?_
          have e9 := rf2_n (it := S.it) (a := a) (b := b) (by omega) (by omega)
          have e1 : sJoi S a b = S := if_neg (by omega)
          rw [e1] at h
          unfold aJoi at h
          repeat (first | rw [if_pos (by omega)] at h | rw [if_neg (by omega)] at h)
          rw [e9] at h
          exact h σ hM Fr.rf
    · refine P.if_ne (t := 17) (dq dtX7_join_0 5 rfl) rfl (by omega) (fun h9 => absurd h9 (by decide)) (fun _ => ?_)
      refine P.ldc (n := -100001) (dq dtX7_join_0 6 rfl) kcX7_163 rfl ?_
      refine P.iret (dq dtX7_join_0 7 rfl) rfl rfl rfl ?_
      have e9 := rf2_u (it := S.it) (a := a) (b := b) (by omega)
      have e1 : sJoi S a b = S := if_neg (by omega)
      rw [e1] at h
      unfold aJoi at h
      repeat (first | rw [if_pos (by omega)] at h | rw [if_neg (by omega)] at h)
      rw [e9] at h
      exact h σ hM Fr.rf
  · refine P.if_eq (t := 14) (dq dtX7_join_0 2 rfl) rfl (by omega) (fun _ => ?_) (fun h9 => absurd h9 (by decide))
    refine P.ldc (n := -100001) (dq dtX7_join_0 6 rfl) kcX7_163 rfl ?_
    refine P.iret (dq dtX7_join_0 7 rfl) rfl rfl rfl ?_
    have e9 := rf2_u (it := S.it) (a := a) (b := b) (by omega)
    have e1 : sJoi S a b = S := if_neg (by omega)
    rw [e1] at h
    unfold aJoi at h
    repeat (first | rw [if_pos (by omega)] at h | rw [if_neg (by omega)] at h)
    rw [e9] at h
    exact h σ hM Fr.rf
theorem lp_turnM {x : CX} {d N : Nat} {σ : PH} {Q : PQ} {S : CSt} (hG : CG S) {wf sz lt a1 a2 a3 a4 a5 : Int → Int} {fi be rp cl dg nu pk wm : Int} (h84 : σ 84 = mdO S.now.1.1 S.now.1.2.1 S.ct S.tn fi be rp cl dg nu pk wm) (h85 : σ 85 = pcI 0 1404 wf) (h86 : σ 86 = pcI 1 2 S.ik) (h87 : σ 87 = pcI 0 200 S.tf) (h88 : σ 88 = pcI 0 16 wdA) (h89 : σ 89 = pcI 0 8 a1) (h90 : σ 90 = pcI 0 8 a2) (h91 : σ 91 = pcI 0 8 a3) (h92 : σ 92 = pcI 0 8 a4) (h93 : σ 93 = pcI 0 80 a5) (h94 : σ 94 = pcI 0 3 sz) (hW : WR S wf) (hL : LR S sz lt) {a : Int} (ha3 : 0 ≤ a ∧ a < 3) (hia : S.it a ≠ 0) (esa : sz a = S.ln a.toNat) (h : ∀ σ' : PH, MD σ' (sLab S S.it (upN S.ln a.toNat (S.ln a.toNat)) (upN S.lf a.toNat (rvF (S.lf a.toNat) (S.ln a.toNat) (S.ln a.toNat / 2)))) → Fr σ σ' LM → Q (some (vI (S.ln a.toNat))) σ') : ∀ (t : Nat) (k : Int), 0 ≤ k ∧ k ≤ S.ln a.toNat / 2 → S.ln a.toNat / 2 - k < t → P x d mX7_turn Q (0, 0) 24 [some (vR 84), some (vI a), some (vI k), none, none] [] N (up σ 95 (pcI 0 72 (rowU lt a (rvF (S.lf a.toNat) (S.ln a.toNat) k)))) := by
  intro t
  induction t with
  | zero =>
    intro k hk hm
    exfalso; omega
  | succ t ih =>
    intro k hk hm
    have bn := (hG.2.2.2.2.2 a.toNat (by omega)).1
    have e2 : (S.ln a.toNat).tdiv 2 = S.ln a.toNat / 2 := Int.tdiv_eq_ediv_of_nonneg (by omega)
    refine P.iload_n (dq dtX7_turn_0 14 rfl) rfl ?_
    refine P.aload_n (dq dtX7_turn_0 15 rfl) rfl ?_
    refine P.get flX7_45 (dq dtX7_turn_0 16 rfl) (by repeat (first | assumption | exact up_s | rw [up_n (by first | assumption | (apply Ne.symm; assumption) | decide | omega)])) (by rfl) ?_
    refine P.iload_n (dq dtX7_turn_0 17 rfl) rfl ?_
    refine P.iald (dq dtX7_turn_0 18 rfl) (by repeat (first | assumption | exact up_s | rw [up_n (by first | assumption | (apply Ne.symm; assumption) | decide | omega)])) (by omega) (by omega) (by omega) ?_
    refine P.iconst (dq dtX7_turn_0 19 rfl) ?_
    rw [esa]
    refine P.idiv (dq dtX7_turn_0 20 rfl) (by omega) (by omega) (by omega) ?_
    rw [e2]
    refine P.icmp_ge (t := 96) (dq dtX7_turn_0 21 rfl) rfl (by omega) (by omega) (fun c_33 => ?_) (fun c_33 => ?_)
    · refine P.aload_n (dq dtX7_turn_0 63 rfl) rfl ?_
      refine P.get flX7_45 (dq dtX7_turn_1 0 rfl) (by repeat (first | assumption | exact up_s | rw [up_n (by first | assumption | (apply Ne.symm; assumption) | decide | omega)])) (by rfl) ?_
      refine P.iload_n (dq dtX7_turn_1 1 rfl) rfl ?_
      refine P.iald (dq dtX7_turn_1 2 rfl) (by repeat (first | assumption | exact up_s | rw [up_n (by first | assumption | (apply Ne.symm; assumption) | decide | omega)])) (by omega) (by omega) (by omega) ?_
      rw [esa]
      refine P.iret (dq dtX7_turn_1 3 rfl) rfl rfl rfl ?_
      obtain rfl : k = S.ln a.toNat / 2 := by omega
      have hL2 := hL.row (g := rvF (S.lf a.toNat) (S.ln a.toNat) (S.ln a.toNat / 2)) (n := S.ln a.toNat) ha3 hia
      rw [upI_id esa] at hL2
      exact h _ ⟨_, _, _, _, _, _, _, _, _, _, _, _, _, _, _, _, (by repeat (first | assumption | exact up_s | rw [up_n (by first | assumption | (apply Ne.symm; assumption) | decide | omega)])), (by repeat (first | assumption | exact up_s | rw [up_n (by first | assumption | (apply Ne.symm; assumption) | decide | omega)])), (by repeat (first | assumption | exact up_s | rw [up_n (by first | assumption | (apply Ne.symm; assumption) | decide | omega)])), (by repeat (first | assumption | exact up_s | rw [up_n (by first | assumption | (apply Ne.symm; assumption) | decide | omega)])), (by repeat (first | assumption | exact up_s | rw [up_n (by first | assumption | (apply Ne.symm; assumption) | decide | omega)])), (by repeat (first | assumption | exact up_s | rw [up_n (by first | assumption | (apply Ne.symm; assumption) | decide | omega)])), (by repeat (first | assumption | exact up_s | rw [up_n (by first | assumption | (apply Ne.symm; assumption) | decide | omega)])), (by repeat (first | assumption | exact up_s | rw [up_n (by first | assumption | (apply Ne.symm; assumption) | decide | omega)])), (by repeat (first | assumption | exact up_s | rw [up_n (by first | assumption | (apply Ne.symm; assumption) | decide | omega)])), (by repeat (first | assumption | exact up_s | rw [up_n (by first | assumption | (apply Ne.symm; assumption) | decide | omega)])), (by repeat (first | assumption | exact up_s | rw [up_n (by first | assumption | (apply Ne.symm; assumption) | decide | omega)])), (by repeat (first | assumption | exact up_s | rw [up_n (by first | assumption | (apply Ne.symm; assumption) | decide | omega)])), hW, hL2⟩ (by repeat (first | assumption | exact Fr.rf | refine Fr.up ?_ (by simp)))
    · refine P.bipush (dq dtX7_turn_0 22 rfl) rfl ?_
      refine P.iload_n (dq dtX7_turn_0 23 rfl) rfl ?_
      refine P.imul (dq dtX7_turn_0 24 rfl) ?_
      refine P.aload_n (dq dtX7_turn_0 25 rfl) rfl ?_
      refine P.get flX7_45 (dq dtX7_turn_0 26 rfl) (by repeat (first | assumption | exact up_s | rw [up_n (by first | assumption | (apply Ne.symm; assumption) | decide | omega)])) (by rfl) ?_
      refine P.iload_n (dq dtX7_turn_0 27 rfl) rfl ?_
      refine P.iald (dq dtX7_turn_0 28 rfl) (by repeat (first | assumption | exact up_s | rw [up_n (by first | assumption | (apply Ne.symm; assumption) | decide | omega)])) (by omega) (by omega) (by omega) ?_
      rw [esa]
      refine P.iadd (dq dtX7_turn_0 29 rfl) ?_
      refine P.iconst (dq dtX7_turn_0 30 rfl) ?_
      refine P.isub (dq dtX7_turn_0 31 rfl) ?_
      refine P.iload_n (dq dtX7_turn_0 32 rfl) rfl ?_
      refine P.isub (dq dtX7_turn_0 33 rfl) ?_
      rw [show 24 * a + S.ln a.toNat - 1 - k = 24 * a + (S.ln a.toNat - 1 - k) by omega]
      refine P.istore_n (dq dtX7_turn_0 34 rfl) (by decide) rfl rfl ?_
      refine P.aload_n (dq dtX7_turn_0 35 rfl) rfl ?_
      refine P.get flX7_48 (dq dtX7_turn_0 36 rfl) (by repeat (first | assumption | exact up_s | rw [up_n (by first | assumption | (apply Ne.symm; assumption) | decide | omega)])) (by rfl) ?_
      refine P.bipush (dq dtX7_turn_0 37 rfl) rfl ?_
      refine P.iload_n (dq dtX7_turn_0 38 rfl) rfl ?_
      refine P.imul (dq dtX7_turn_0 39 rfl) ?_
      refine P.iload_n (dq dtX7_turn_0 40 rfl) rfl ?_
      refine P.iadd (dq dtX7_turn_0 41 rfl) ?_
      refine P.iald (dq dtX7_turn_0 42 rfl) (by repeat (first | assumption | exact up_s | rw [up_n (by first | assumption | (apply Ne.symm; assumption) | decide | omega)])) (by omega) (by omega) (by omega) ?_
      rw [rowU_r (by omega)]
      refine P.istore (dq dtX7_turn_0 43 rfl) (by decide) rfl rfl ?_
      refine P.aload_n (dq dtX7_turn_0 44 rfl) rfl ?_
      refine P.get flX7_48 (dq dtX7_turn_0 45 rfl) (by repeat (first | assumption | exact up_s | rw [up_n (by first | assumption | (apply Ne.symm; assumption) | decide | omega)])) (by rfl) ?_
      refine P.bipush (dq dtX7_turn_0 46 rfl) rfl ?_
      refine P.iload_n (dq dtX7_turn_0 47 rfl) rfl ?_
      refine P.imul (dq dtX7_turn_0 48 rfl) ?_
      refine P.iload_n (dq dtX7_turn_0 49 rfl) rfl ?_
      refine P.iadd (dq dtX7_turn_0 50 rfl) ?_
      refine P.aload_n (dq dtX7_turn_0 51 rfl) rfl ?_
      refine P.get flX7_48 (dq dtX7_turn_0 52 rfl) (by repeat (first | assumption | exact up_s | rw [up_n (by first | assumption | (apply Ne.symm; assumption) | decide | omega)])) (by rfl) ?_
      refine P.iload_n (dq dtX7_turn_0 53 rfl) rfl ?_
      refine P.iald (dq dtX7_turn_0 54 rfl) (by repeat (first | assumption | exact up_s | rw [up_n (by first | assumption | (apply Ne.symm; assumption) | decide | omega)])) (by omega) (by omega) (by omega) ?_
      rw [rowU_r (by omega)]
      refine P.iast (dq dtX7_turn_0 55 rfl) (by repeat (first | assumption | exact up_s | rw [up_n (by first | assumption | (apply Ne.symm; assumption) | decide | omega)])) (by omega) (by omega) (by omega) ?_
      rw [up_up, rowU_up (by omega)]
      refine P.aload_n (dq dtX7_turn_0 56 rfl) rfl ?_
      refine P.get flX7_48 (dq dtX7_turn_0 57 rfl) (by repeat (first | assumption | exact up_s | rw [up_n (by first | assumption | (apply Ne.symm; assumption) | decide | omega)])) (by rfl) ?_
      refine P.iload_n (dq dtX7_turn_0 58 rfl) rfl ?_
      refine P.iload (dq dtX7_turn_0 59 rfl) rfl ?_
      refine P.iast (dq dtX7_turn_0 60 rfl) (by repeat (first | assumption | exact up_s | rw [up_n (by first | assumption | (apply Ne.symm; assumption) | decide | omega)])) (by omega) (by omega) (by omega) ?_
      rw [up_up, rowU_up (by omega), rvF_step (by omega) (by omega)]
      refine P.iinc (dq dtX7_turn_0 61 rfl) rfl (by decide) rfl rfl ?_
      refine P.goto (t := 24) (dq dtX7_turn_0 62 rfl) rfl ?_
      refine P.keep [0, 1, 2] ?_
      exact ih (k + 1) (by omega) (by omega)
/-- turn -/
theorem md_turn {x : CM} {d N : Nat} {σ : PH} {Q : PQ} {S : CSt} (hG : CG S) (hM : MD σ S) (hd : 2 ≤ d) {a : Int} (ha : inR a) (h : ∀ σ' : PH, MD σ' (sTrn S a) → Fr σ σ' LM → Q (some (vI (aTrn S a))) σ') : Call x d 0 0 mX7_turn [vR 84, vI a] N σ Q := by
  refine Call.of mcX7_turn (Nat.le_of_ble_eq_true rfl) (fun y hy => ?_)
  subst hy
  obtain ⟨wf, sz, lt, a1, a2, a3, a4, a5, fi, be, rp, cl, dg, nu, pk, wm, h84, h85, h86, h87, h88, h89, h90, h91, h92, h93, h94, h95, hW, hL⟩ := id hM
  have hGm := hG.2.1.1
  have hp := hGm.1
  have hs := hGm.2.1
  have hL9 := mul_bd (k := S.now.1.1 - 1) (s := S.now.1.2.1) (by omega) (by omega) (by omega) (by omega)
  refine P.iload_n (dq dtX7_turn_0 0 rfl) rfl ?_
  refine P.callS1 (M' := mX7_isLabel) (d' := d - 1) mlX7_232 mcX7_isLabel msX7_isLabel (dq dtX7_turn_0 1 rfl) (by omega) (Nat.le_of_ble_eq_true rfl) ?_
  refine ct_X7_isLabel (by omega) ha (fun n_1 => ?_) (fun n_1 => ?_)
  · refine P.if_ne (t := 10) (dq dtX7_turn_0 2 rfl) rfl (by omega) (fun _ => ?_) (fun h9 => absurd h9 (by decide))
    have es := hL.1 a (by omega) (by omega)
    have bn := (hG.2.2.2.2.2 a.toNat (by omega)).1
    have bf := (hG.2.2.2.2.2 a.toNat (by omega)).2
    have bz : (sz a < 0 ∧ S.it a = 0 ∧ sz a = -1) ∨ (0 ≤ sz a ∧ S.it a ≠ 0 ∧ sz a = S.ln a.toNat) := by
      rw [es]
      split
      · next q => exact Or.inl ⟨by omega, q, rfl⟩
      · next q => exact Or.inr ⟨by omega, q, rfl⟩
    refine P.aload_n (dq dtX7_turn_0 5 rfl) rfl ?_
    refine P.get flX7_45 (dq dtX7_turn_0 6 rfl) (by repeat (first | assumption | exact up_s | rw [up_n (by first | assumption | (apply Ne.symm; assumption) | decide | omega)])) (by rfl) ?_
    refine P.iload_n (dq dtX7_turn_0 7 rfl) rfl ?_
    refine P.iald (dq dtX7_turn_0 8 rfl) (by repeat (first | assumption | exact up_s | rw [up_n (by first | assumption | (apply Ne.symm; assumption) | decide | omega)])) (by omega) (by omega) (by omega) ?_
    refine P.if_ge (t := 22) (dq dtX7_turn_0 9 rfl) rfl (by omega) (fun c_16 => ?_) (fun c_16 => ?_)
    · have e9 := rfL_z (it := S.it) (a := a) (by omega) (by omega)
      refine P.iconst (dq dtX7_turn_0 12 rfl) ?_
      refine P.istore_n (dq dtX7_turn_0 13 rfl) (by decide) rfl rfl ?_
      refine P.keep [0, 1, 2] ?_
      have e1 : sTrn S a = sLab S S.it (upN S.ln a.toNat (S.ln a.toNat)) (upN S.lf a.toNat (rvF (S.lf a.toNat) (S.ln a.toNat) (S.ln a.toNat / 2))) := if_pos (by omega)
      rw [e1] at h
      unfold aTrn at h
      repeat (first | rw [if_pos (by omega)] at h | rw [if_neg (by omega)] at h)
      refine P.ext (q := 95) (t := 0) (n := 72) (f' := rowU lt a (S.lf a.toNat)) h95 (rowU_ext hL (by omega)) ?_
      have hh := lp_turnM (x := y) (d := d) (N := N) (Q := Q) hG h84 h85 h86 h87 h88 h89 h90 h91 h92 h93 h94 hW hL (by omega) (by omega) (by omega) h 25 0 (by omega) (by omega)
      rw [rvF_0] at hh
      exact hh
    · refine P.ldc (n := -100011) (dq dtX7_turn_0 10 rfl) kcX7_239 rfl ?_
      refine P.iret (dq dtX7_turn_0 11 rfl) rfl rfl rfl ?_
      have e9 := rfL_n (it := S.it) (a := a) (by omega) (by omega)
      have e1 : sTrn S a = S := if_neg (by omega)
      rw [e1] at h
      unfold aTrn at h
      repeat (first | rw [if_pos (by omega)] at h | rw [if_neg (by omega)] at h)
      rw [e9] at h
      exact h σ hM Fr.rf
  · refine P.if_ne (t := 10) (dq dtX7_turn_0 2 rfl) rfl (by omega) (fun h9 => absurd h9 (by decide)) (fun _ => ?_)
    refine P.ldc (n := -100001) (dq dtX7_turn_0 3 rfl) kcX7_163 rfl ?_
    refine P.iret (dq dtX7_turn_0 4 rfl) rfl rfl rfl ?_
    have e9 := rfL_u (it := S.it) (a := a) (by omega)
    have e1 : sTrn S a = S := if_neg (by omega)
    rw [e1] at h
    unfold aTrn at h
    repeat (first | rw [if_pos (by omega)] at h | rw [if_neg (by omega)] at h)
    rw [e9] at h
    exact h σ hM Fr.rf
