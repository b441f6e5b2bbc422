theorem tok_w {f st kd vl : Int → Int} {n m i : Int} (hT : TK f n st kd vl m) (hi : 0 ≤ i ∧ i < m) : kd i = 1 → 0 ≤ vl i → vl i ≤ 3 := by
  intro h1 h2
  obtain ⟨t1, t2⟩ := tok_k hT hi
  by_cases hlt : st i < n
  · obtain ⟨k1, k2, k3⟩ := t2 hlt
    rw [k1] at h1
    unfold kdF at h1
    split at h1
    · next q =>
      rw [k2]
      unfold vlF
      rw [if_pos q]
      exact (wdF_b f _ _).2
    · split at h1 <;> omega
  · have := hT.2.2.1
    by_cases e : i < m - 1
    · have := (hT.2.2.1 i hi.1 e).1.2.1
      omega
    · obtain rfl : i = m - 1 := by omega
      rw [hT.2.2.2.2.1] at h1
      omega
theorem DV.ax {dg p s p0 s0 a b : Int} {wf wf0 wf' : Int → Int} {v : MsV} (h : DV dg p s wf p0 s0 wf0 v) (hd : dg = 1) (h1 : ∀ i : Int, 0 ≤ i → i < 112 → wf' i = 0) (h2 : ∀ i : Int, 112 ≤ i → wf' i = wf i) : DV dg a b wf' p0 s0 wf0 (a, b, (fun _ => 0), v.2.2.2) := by
  rcases h with h | h
  · omega
  · refine Or.inr ⟨hd, rfl, rfl, ⟨fun t g0 g1 => h1 _ (by omega) (by omega), fun t j g0 g1 g2 g3 => absurd g3 (by show ¬ j < (0 : Int); omega), fun t _ _ => rfl⟩, fun i hi => (h2 i hi).trans (h.2.2.2.2 i hi)⟩
theorem DV.z {dg p s p0 s0 : Int} {wf wf0 : Int → Int} {v v' : MsV} (h : DV dg p s wf p0 s0 wf0 v) (hd : dg = 0) : DV dg p s wf p0 s0 wf0 v' := by
  rcases h with h | h
  · exact Or.inl h
  · omega
theorem DV.rw {dg p s p0 s0 : Int} {wf wf0 : Int → Int} {v : MsV} (h : DV dg p s wf p0 s0 wf0 v) (hd : dg ≠ 0) : p = v.1 ∧ s = v.2.1 ∧ Rw wf 0 v ∧ (∀ i : Int, 112 ≤ i → wf i = wf0 i) ∧ dg = 1 := by
  rcases h with h | h
  · omega
  · exact ⟨h.2.1, h.2.2.1, h.2.2.2.1, h.2.2.2.2, h.1⟩
/-- takesAxis -/
theorem rs_axis {x : CM} {d N : Nat} {σ : PH} {Q : PQ} {f st kd vl : Int → Int} {n m : Int} (hT : TK f n st kd vl m) (hn : 0 ≤ n ∧ n ≤ 200) (hf : ∀ i : Int, 0 ≤ i ∧ i < n → 0 ≤ f i ∧ f i ≤ 255) {u pk wm dg p0 s0 : Int} {wf0 : Int → Int} {i cl nu : Int} {v : MsV} (hi : 0 ≤ i ∧ i < m) (hR : RS f st n m u pk wm dg p0 s0 wf0 σ i v cl nu) (hdg : dg = 0 ∨ dg = 1) (hGv : GMs v) (hd : 4 ≤ d) (h : ∀ (σ' : PH) (nu' : Int), RS f st n m u pk wm dg p0 s0 wf0 σ' (pAxis (fun f => f) kd vl m i v).2.1 (pAxis (fun f => f) kd vl m i v).2.2 cl nu' → Fr σ σ' [84, 85] → Q (some (vI (pAxis (fun f => f) kd vl m i v).1)) σ') : Call x d 0 0 mX7_takesAxis [vR 84] N σ Q := by
  refine Call.of mcX7_takesAxis (Nat.le_of_ble_eq_true rfl) (fun y hy => ?_)
  subst hy
  obtain ⟨h87, h88, p, s, wf, h84, h85, hD⟩ := id hR
  obtain ⟨b1, b2, b3⟩ := tok_b hT hi hn.1
  have b4 := tok_end hT hi hn.1
  unfold pAxis at h
  refine P.aload_n (dq dtX7_takesAxis 0 rfl) rfl ?_
  refine P.iconst (dq dtX7_takesAxis 1 rfl) ?_
  refine P.bipush (dq dtX7_takesAxis 2 rfl) rfl ?_
  refine P.callV2 (M' := mX7_takesNumber) (d' := d - 1) mlX7_107 mcX7_takesNumber mvX7_takesNumber (dq dtX7_takesAxis 3 rfl) (by omega) (Nat.le_of_ble_eq_true rfl) (by repeat (first | assumption | exact up_s | rw [up_n (by first | assumption | (apply Ne.symm; assumption) | decide | omega)])) rfl ?_
  refine rs_num hT hn hf hi hR (by omega) (by omega) (by omega) (fun σ1 nu1 hR1 fr1 hn1 => ?_)
  have hi1 := pNum_b (kd := kd) (vl := vl) (lo := 2) (hi := 8) hi
  obtain ⟨k87, k88, p1, s1, wf1, k84, k85, kD⟩ := id hR1
  refine P.if_ne (t := 12) (dq dtX7_takesAxis 4 rfl) rfl (by split <;> omega) (fun c_7 => ?_) (fun c_7 => ?_)
  · refine P.aload_n (dq dtX7_takesAxis 7 rfl) rfl ?_
    refine P.get flX7_101 (dq dtX7_takesAxis 8 rfl) (by repeat (first | assumption | exact up_s | rw [up_n (by first | assumption | (apply Ne.symm; assumption) | decide | omega)])) (by rfl) ?_
    refine P.istore_n (dq dtX7_takesAxis 9 rfl) (by decide) rfl rfl ?_
    refine P.aload_n (dq dtX7_takesAxis 10 rfl) rfl ?_
    refine P.bipush (dq dtX7_takesAxis 11 rfl) rfl ?_
    refine P.bipush (dq dtX7_takesAxis 12 rfl) rfl ?_
    refine P.callV2 (M' := mX7_takesNumber) (d' := d - 1) mlX7_107 mcX7_takesNumber mvX7_takesNumber (dq dtX7_takesAxis 13 rfl) (by omega) (Nat.le_of_ble_eq_true rfl) (by repeat (first | assumption | exact up_s | rw [up_n (by first | assumption | (apply Ne.symm; assumption) | decide | omega)])) rfl ?_
    refine rs_num hT hn hf hi1 hR1 (by omega) (by omega) (by omega) (fun σ2 nu2 hR2 fr2 hn2 => ?_)
    obtain ⟨w87, w88, p2, s2, wf2, w84, w85, wD⟩ := id hR2
    refine P.if_ne (t := 30) (dq dtX7_takesAxis 14 rfl) rfl (by split <;> omega) (fun c_25 => ?_) (fun c_25 => ?_)
    · refine P.aload_n (dq dtX7_takesAxis 17 rfl) rfl ?_
      refine P.iload_n (dq dtX7_takesAxis 18 rfl) rfl ?_
      refine P.put flX7_111 rfl (dq dtX7_takesAxis 19 rfl) (by repeat (first | assumption | exact up_s | rw [up_n (by first | assumption | (apply Ne.symm; assumption) | decide | omega)])) (by exact Nat.le_of_ble_eq_true rfl) rfl rfl rfl rfl rfl ?_
      refine P.aload_n (dq dtX7_takesAxis 20 rfl) rfl ?_
      refine P.get flX7_114 (dq dtX7_takesAxis 21 rfl) (by repeat (first | assumption | exact up_s | rw [up_n (by first | assumption | (apply Ne.symm; assumption) | decide | omega)])) (by rfl) ?_
      refine P.if_eq (t := 59) (dq dtX7_takesAxis 22 rfl) rfl (by omega) (fun c_39 => ?_) (fun c_39 => ?_)
      · refine P.iconst (dq dtX7_takesAxis 32 rfl) ?_
        refine P.zret (dq dtX7_takesAxis 33 rfl) rfl rfl (by omega) rfl ?_
        have hx : ¬ (pNum kd vl m 2 8 i).1 = -1 := fun z => c_7 (if_pos z)
        have hy : ¬ (pNum kd vl m 10 99 (pNum kd vl m 2 8 i).2).1 = -1 := fun z => c_25 (if_pos z)
        rw [if_neg hx, if_neg hy] at h
        have e1 := hn1 hx
        have e2 := hn2 hy
        rw [← e1, ← e2] at h
        first
        | exact h _ nu2 ⟨(by repeat (first | assumption | exact up_s | rw [up_n (by first | assumption | (apply Ne.symm; assumption) | decide | omega)])), (by repeat (first | assumption | exact up_s | rw [up_n (by first | assumption | (apply Ne.symm; assumption) | decide | omega)])), _, _, wf3, (by repeat (first | assumption | exact up_s | rw [up_n (by first | assumption | (apply Ne.symm; assumption) | decide | omega)])), up_s, wD.ax (by omega) z1 z2⟩ (Fr.trans (fr1.trans fr2) (by repeat (first | assumption | exact Fr.rf | refine Fr.up ?_ (by simp))))
        | exact h _ nu2 ⟨(by repeat (first | assumption | exact up_s | rw [up_n (by first | assumption | (apply Ne.symm; assumption) | decide | omega)])), (by repeat (first | assumption | exact up_s | rw [up_n (by first | assumption | (apply Ne.symm; assumption) | decide | omega)])), _, _, wf2, (by repeat (first | assumption | exact up_s | rw [up_n (by first | assumption | (apply Ne.symm; assumption) | decide | omega)])), (by repeat (first | assumption | exact up_s | rw [up_n (by first | assumption | (apply Ne.symm; assumption) | decide | omega)])), wD.z (by omega)⟩ (Fr.trans (fr1.trans fr2) (by repeat (first | assumption | exact Fr.rf | refine Fr.up ?_ (by simp))))
      · refine P.aload_n (dq dtX7_takesAxis 23 rfl) rfl ?_
        refine P.iload_n (dq dtX7_takesAxis 24 rfl) rfl ?_
        refine P.put flX7_7 rfl (dq dtX7_takesAxis 25 rfl) (by repeat (first | assumption | exact up_s | rw [up_n (by first | assumption | (apply Ne.symm; assumption) | decide | omega)])) (by exact Nat.le_of_ble_eq_true rfl) rfl rfl rfl rfl rfl ?_
        refine P.aload_n (dq dtX7_takesAxis 26 rfl) rfl ?_
        refine P.aload_n (dq dtX7_takesAxis 27 rfl) rfl ?_
        refine P.get flX7_101 (dq dtX7_takesAxis 28 rfl) (by repeat (first | assumption | exact up_s | rw [up_n (by first | assumption | (apply Ne.symm; assumption) | decide | omega)])) (by rfl) ?_
        refine P.put flX7_13 rfl (dq dtX7_takesAxis 29 rfl) (by repeat (first | assumption | exact up_s | rw [up_n (by first | assumption | (apply Ne.symm; assumption) | decide | omega)])) (by exact Nat.le_of_ble_eq_true rfl) rfl rfl rfl rfl rfl ?_
        refine P.aload_n (dq dtX7_takesAxis 30 rfl) rfl ?_
        refine P.callV0 (M' := mX7_noRuns) (d' := d - 1) mlX7_118 mcX7_noRuns mvX7_noRuns (dq dtX7_takesAxis 31 rfl) (by omega) (Nat.le_of_ble_eq_true rfl) (by repeat (first | assumption | exact up_s | rw [up_n (by first | assumption | (apply Ne.symm; assumption) | decide | omega)])) rfl ?_
        refine ct_X7_noRuns (by repeat (first | assumption | exact up_s | rw [up_n (by first | assumption | (apply Ne.symm; assumption) | decide | omega)])) (by repeat (first | assumption | exact up_s | rw [up_n (by first | assumption | (apply Ne.symm; assumption) | decide | omega)])) (fun wf3 z1 z2 => ?_)
        refine P.iconst (dq dtX7_takesAxis 32 rfl) ?_
        refine P.zret (dq dtX7_takesAxis 33 rfl) rfl rfl (by omega) rfl ?_
        have hx : ¬ (pNum kd vl m 2 8 i).1 = -1 := fun z => c_7 (if_pos z)
        have hy : ¬ (pNum kd vl m 10 99 (pNum kd vl m 2 8 i).2).1 = -1 := fun z => c_25 (if_pos z)
        rw [if_neg hx, if_neg hy] at h
        have e1 := hn1 hx
        have e2 := hn2 hy
        rw [← e1, ← e2] at h
        first
        | exact h _ nu2 ⟨(by repeat (first | assumption | exact up_s | rw [up_n (by first | assumption | (apply Ne.symm; assumption) | decide | omega)])), (by repeat (first | assumption | exact up_s | rw [up_n (by first | assumption | (apply Ne.symm; assumption) | decide | omega)])), _, _, wf3, (by repeat (first | assumption | exact up_s | rw [up_n (by first | assumption | (apply Ne.symm; assumption) | decide | omega)])), up_s, wD.ax (by omega) z1 z2⟩ (Fr.trans (fr1.trans fr2) (by repeat (first | assumption | exact Fr.rf | refine Fr.up ?_ (by simp))))
        | exact h _ nu2 ⟨(by repeat (first | assumption | exact up_s | rw [up_n (by first | assumption | (apply Ne.symm; assumption) | decide | omega)])), (by repeat (first | assumption | exact up_s | rw [up_n (by first | assumption | (apply Ne.symm; assumption) | decide | omega)])), _, _, wf2, (by repeat (first | assumption | exact up_s | rw [up_n (by first | assumption | (apply Ne.symm; assumption) | decide | omega)])), (by repeat (first | assumption | exact up_s | rw [up_n (by first | assumption | (apply Ne.symm; assumption) | decide | omega)])), wD.z (by omega)⟩ (Fr.trans (fr1.trans fr2) (by repeat (first | assumption | exact Fr.rf | refine Fr.up ?_ (by simp))))
    · refine P.iconst (dq dtX7_takesAxis 15 rfl) ?_
      refine P.zret (dq dtX7_takesAxis 16 rfl) rfl rfl (by omega) rfl ?_
      have hx : ¬ (pNum kd vl m 2 8 i).1 = -1 := fun z => c_7 (if_pos z)
      have hy : (pNum kd vl m 10 99 (pNum kd vl m 2 8 i).2).1 = -1 := by split at c_25 <;> first | assumption | omega
      rw [if_neg hx, if_pos hy] at h
      exact h σ2 nu2 hR2 (fr1.trans fr2)
  · refine P.iconst (dq dtX7_takesAxis 5 rfl) ?_
    refine P.zret (dq dtX7_takesAxis 6 rfl) rfl rfl (by omega) rfl ?_
    have hx : (pNum kd vl m 2 8 i).1 = -1 := by split at c_7 <;> first | assumption | omega
    rw [if_pos hx] at h
    exact h σ1 nu1 hR1 fr1
theorem DV.add {dg p s p0 s0 k w z : Int} {wf wf0 wf' : Int → Int} {v : MsV} (h : DV dg p s wf p0 s0 wf0 v) (hd : dg ≠ 0) (h1 : Rw wf' 0 (addM v (k * 2 + w) z)) (h2 : ∀ i : Int, ¬ (0 ≤ i ∧ i < 0 + 112) → wf' i = wf i) : DV dg p s wf' p0 s0 wf0 (addM v (k * 2 + w) z) := by
  obtain ⟨q1, q2, q3, q4, q5⟩ := h.rw hd
  exact Or.inr ⟨q5, q1, q2, h1, fun i hi => (h2 i (by omega)).trans (q4 i hi)⟩
theorem rs_runsL {x : CX} {d N : Nat} {σ : PH} {Q : PQ} {f st kd vl : Int → Int} {n m : Int} (hT : TK f n st kd vl m) (hn : 0 ≤ n ∧ n ≤ 200) (hf : ∀ i : Int, 0 ≤ i ∧ i < n → 0 ≤ f i ∧ f i ≤ 255) {u pk wm dg p0 s0 : Int} {wf0 : Int → Int} {cl w : Int} (hdg : dg = 0 ∨ dg = 1) (hw : w = 0 ∨ w = 1) (hd : 5 ≤ d) : ∀ (t : Nat) (k i : Int) (v : MsV) (nu : Int) (σ' : PH), GMs v → 0 ≤ k → k + t = v.1 → (0 ≤ i ∧ i < m) → RS f st n m u pk wm dg p0 s0 wf0 σ' i v cl nu → Fr σ σ' [84, 85] → (∀ (σ2 : PH) (nu' : Int), RS f st n m u pk wm dg p0 s0 wf0 σ2 (pRow kd vl m w t k i v).2.1 (pRow kd vl m w t k i v).2.2 cl nu' → Fr σ σ2 [84, 85] → Q (some (vI (pRow kd vl m w t k i v).1)) σ2) → P x d mX7_takesRuns Q (0, 0) 2 [some (vR 84), some (vI w), some (vI k)] [] N σ' := by
  intro t
  induction t with
  | zero =>
    intro k i v nu σ' hG hk ht hi hR hF h
    obtain ⟨h87, h88, p, s, wf, h84, h85, hD⟩ := id hR
    have hp8 := hG.1
    refine P.iload_n (dq dtX7_takesRuns 2 rfl) rfl ?_
    refine P.aload_n (dq dtX7_takesRuns 3 rfl) rfl ?_
    refine P.get flX7_111 (dq dtX7_takesRuns 4 rfl) (by repeat (first | assumption | exact up_s | rw [up_n (by first | assumption | (apply Ne.symm; assumption) | decide | omega)])) (by rfl) ?_
    refine P.icmp_ge (t := 43) (dq dtX7_takesRuns 5 rfl) rfl (by omega) (by omega) (fun c_7 => ?_) (fun c_7 => ?_)
    · refine P.iconst (dq dtX7_takesRuns 23 rfl) ?_
      refine P.zret (dq dtX7_takesRuns 24 rfl) rfl rfl (by omega) rfl ?_
      exact h σ' nu hR hF
    · exfalso; omega
  | succ t ih =>
    intro k i v nu σ' hG hk ht hi hR hF h
    obtain ⟨h87, h88, p, s, wf, h84, h85, hD⟩ := id hR
    have hp8 := hG.1
    have hr : pRow kd vl m w (t + 1) k i v = if (pErr kd vl m k w i v).1 = 0 then pErr kd vl m k w i v else pRow kd vl m w t (k + 1) (pErr kd vl m k w i v).2.1 (pErr kd vl m k w i v).2.2 := rfl
    rw [hr] at h
    have hpb := pErr_b (kd := kd) (vl := vl) (k := k) (w := w) (v := v) hi
    obtain ⟨g1, g2⟩ := pErr_G (kd := kd) (vl := vl) (m := m) (i := i) hG ⟨hk, by omega⟩ hw
    refine P.iload_n (dq dtX7_takesRuns 2 rfl) rfl ?_
    refine P.aload_n (dq dtX7_takesRuns 3 rfl) rfl ?_
    refine P.get flX7_111 (dq dtX7_takesRuns 4 rfl) (by repeat (first | assumption | exact up_s | rw [up_n (by first | assumption | (apply Ne.symm; assumption) | decide | omega)])) (by rfl) ?_
    refine P.icmp_ge (t := 43) (dq dtX7_takesRuns 5 rfl) rfl (by omega) (by omega) (fun c_7 => ?_) (fun c_7 => ?_)
    · refine P.iconst (dq dtX7_takesRuns 23 rfl) ?_
      refine P.zret (dq dtX7_takesRuns 24 rfl) rfl rfl (by decide) rfl ?_
      exfalso; omega
    · refine P.aload_n (dq dtX7_takesRuns 6 rfl) rfl ?_
      refine P.callV0 (M' := mX7_takesErr) (d' := d - 1) mlX7_121 mcX7_takesErr mvX7_takesErr (dq dtX7_takesRuns 7 rfl) (by omega) (Nat.le_of_ble_eq_true rfl) (by repeat (first | assumption | exact up_s | rw [up_n (by first | assumption | (apply Ne.symm; assumption) | decide | omega)])) rfl ?_
      refine rs_err hT hn hf hi hR (by omega) (fun σ1 nu1 hR1 fr1 hn1 => ?_)
      obtain ⟨k87, k88, p1, s1, wf1, k84, k85, kD⟩ := id hR1
      refine P.if_ne (t := 19) (dq dtX7_takesRuns 8 rfl) rfl (by split <;> omega) (fun c_14 => ?_) (fun c_14 => ?_)
      · refine P.aload_n (dq dtX7_takesRuns 11 rfl) rfl ?_
        refine P.get flX7_114 (dq dtX7_takesRuns 12 rfl) (by repeat (first | assumption | exact up_s | rw [up_n (by first | assumption | (apply Ne.symm; assumption) | decide | omega)])) (by rfl) ?_
        refine P.if_eq (t := 37) (dq dtX7_takesRuns 13 rfl) rfl (by omega) (fun c_23 => ?_) (fun c_23 => ?_)
        · have hx : ¬ (pNum kd vl m 0 40 (pSg kd vl m i)).1 = -1 := fun z => c_14 (if_pos z)
          have e1 := hn1 hx
          have epe : pErr kd vl m k w i v = (1, (pNum kd vl m 0 40 (pSg kd vl m i)).2, addM v (k * 2 + w) nu1) := by
            unfold pErr
            rw [if_neg hx, e1]
          refine P.iinc (dq dtX7_takesRuns 21 rfl) rfl (by decide) rfl rfl ?_
          refine P.goto (t := 2) (dq dtX7_takesRuns 22 rfl) rfl ?_
          rw [epe] at h g1 hpb
          simp only [if_neg (show ¬ (1 : Int) = 0 by decide)] at h
          first
          | exact ih (k + 1) _ _ nu1 _ g1 (by omega) (by show k + 1 + (t : Int) = v.1; omega) hpb ⟨(by repeat (first | assumption | exact up_s | rw [up_n (by first | assumption | (apply Ne.symm; assumption) | decide | omega)])), (by repeat (first | assumption | exact up_s | rw [up_n (by first | assumption | (apply Ne.symm; assumption) | decide | omega)])), p1, s1, wf3, (by repeat (first | assumption | exact up_s | rw [up_n (by first | assumption | (apply Ne.symm; assumption) | decide | omega)])), up_s, kD.add c_23 z1 z2⟩ (Fr.trans (hF.trans fr1) (by repeat (first | assumption | exact Fr.rf | refine Fr.up ?_ (by simp)))) h
          | exact ih (k + 1) _ _ nu1 _ g1 (by omega) (by show k + 1 + (t : Int) = v.1; omega) hpb ⟨k87, k88, p1, s1, wf1, k84, k85, kD.z c_23⟩ (hF.trans fr1) h
        · have kRw := (kD.rw c_23).2.2.1
          refine P.aload_n (dq dtX7_takesRuns 14 rfl) rfl ?_
          refine P.iconst (dq dtX7_takesRuns 15 rfl) ?_
          refine P.iload_n (dq dtX7_takesRuns 16 rfl) rfl ?_
          refine P.iload_n (dq dtX7_takesRuns 17 rfl) rfl ?_
          refine P.aload_n (dq dtX7_takesRuns 18 rfl) rfl ?_
          refine P.get flX7_101 (dq dtX7_takesRuns 19 rfl) (by repeat (first | assumption | exact up_s | rw [up_n (by first | assumption | (apply Ne.symm; assumption) | decide | omega)])) (by rfl) ?_
          refine P.callV4 (M' := mX7_adds) (d' := d - 1) mlX7_125 mcX7_adds mvX7_adds (dq dtX7_takesRuns 20 rfl) (by omega) (Nat.le_of_ble_eq_true rfl) (by repeat (first | assumption | exact up_s | rw [up_n (by first | assumption | (apply Ne.symm; assumption) | decide | omega)])) rfl ?_
          refine ct_X7_adds (r := 0) (v := v) k84 k85 hG kRw (by omega) ⟨hk, by omega⟩ hw (fun wf3 z1 z2 => ?_)
          have hx : ¬ (pNum kd vl m 0 40 (pSg kd vl m i)).1 = -1 := fun z => c_14 (if_pos z)
          have e1 := hn1 hx
          have epe : pErr kd vl m k w i v = (1, (pNum kd vl m 0 40 (pSg kd vl m i)).2, addM v (k * 2 + w) nu1) := by
            unfold pErr
            rw [if_neg hx, e1]
          refine P.iinc (dq dtX7_takesRuns 21 rfl) rfl (by decide) rfl rfl ?_
          refine P.goto (t := 2) (dq dtX7_takesRuns 22 rfl) rfl ?_
          rw [epe] at h g1 hpb
          simp only [if_neg (show ¬ (1 : Int) = 0 by decide)] at h
          first
          | exact ih (k + 1) _ _ nu1 _ g1 (by omega) (by show k + 1 + (t : Int) = v.1; omega) hpb ⟨(by repeat (first | assumption | exact up_s | rw [up_n (by first | assumption | (apply Ne.symm; assumption) | decide | omega)])), (by repeat (first | assumption | exact up_s | rw [up_n (by first | assumption | (apply Ne.symm; assumption) | decide | omega)])), p1, s1, wf3, (by repeat (first | assumption | exact up_s | rw [up_n (by first | assumption | (apply Ne.symm; assumption) | decide | omega)])), up_s, kD.add c_23 z1 z2⟩ (Fr.trans (hF.trans fr1) (by repeat (first | assumption | exact Fr.rf | refine Fr.up ?_ (by simp)))) h
          | exact ih (k + 1) _ _ nu1 _ g1 (by omega) (by show k + 1 + (t : Int) = v.1; omega) hpb ⟨k87, k88, p1, s1, wf1, k84, k85, kD.z c_23⟩ (hF.trans fr1) h
      · refine P.iconst (dq dtX7_takesRuns 9 rfl) ?_
        refine P.zret (dq dtX7_takesRuns 10 rfl) rfl rfl (by omega) rfl ?_
        have hx : (pNum kd vl m 0 40 (pSg kd vl m i)).1 = -1 := by split at c_14 <;> first | assumption | omega
        have epe : pErr kd vl m k w i v = (0, (pNum kd vl m 0 40 (pSg kd vl m i)).2, v) := by
          unfold pErr
          rw [if_pos hx]
        rw [epe] at h
        simp only [if_pos (show (0 : Int) = 0 from rfl)] at h
        exact h σ1 nu1 hR1 (hF.trans fr1)
/-- takesRuns -/
theorem rs_runs {x : CM} {d N : Nat} {σ : PH} {Q : PQ} {f st kd vl : Int → Int} {n m : Int} (hT : TK f n st kd vl m) (hn : 0 ≤ n ∧ n ≤ 200) (hf : ∀ i : Int, 0 ≤ i ∧ i < n → 0 ≤ f i ∧ f i ≤ 255) {u pk wm dg p0 s0 : Int} {wf0 : Int → Int} {i cl nu : Int} {v : MsV} (hi : 0 ≤ i ∧ i < m) (hR : RS f st n m u pk wm dg p0 s0 wf0 σ i v cl nu) (hdg : dg = 0 ∨ dg = 1) (hGv : GMs v) (hd : 5 ≤ d) {w : Int} (hw : w = 0 ∨ w = 1) (h : ∀ (σ' : PH) (nu' : Int), RS f st n m u pk wm dg p0 s0 wf0 σ' (pRow kd vl m w v.1.toNat 0 i v).2.1 (pRow kd vl m w v.1.toNat 0 i v).2.2 cl nu' → Fr σ σ' [84, 85] → Q (some (vI (pRow kd vl m w v.1.toNat 0 i v).1)) σ') : Call x d 0 0 mX7_takesRuns [vR 84, vI w] N σ Q := by
  refine Call.of mcX7_takesRuns (Nat.le_of_ble_eq_true rfl) (fun y hy => ?_)
  subst hy
  refine P.iconst (dq dtX7_takesRuns 0 rfl) ?_
  refine P.istore_n (dq dtX7_takesRuns 1 rfl) (by decide) rfl rfl ?_
  have hp8 := hGv.1
  exact rs_runsL (σ := σ) hT hn hf hdg hw hd v.1.toNat 0 i v nu σ hGv (by omega) (by omega) hi hR Fr.rf h
/-- takesAt -/
theorem rs_at {x : CM} {d N : Nat} {σ : PH} {Q : PQ} {f st kd vl : Int → Int} {n m : Int} (hT : TK f n st kd vl m) (hn : 0 ≤ n ∧ n ≤ 200) (hf : ∀ i : Int, 0 ≤ i ∧ i < n → 0 ≤ f i ∧ f i ≤ 255) {u pk wm dg p0 s0 : Int} {wf0 : Int → Int} {i cl nu : Int} {v : MsV} (hi : 0 ≤ i ∧ i < m) (hR : RS f st n m u pk wm dg p0 s0 wf0 σ i v cl nu) (hdg : dg = 0 ∨ dg = 1) (hGv : GMs v) (hd : 5 ≤ d) (h : ∀ (σ' : PH) (nu' : Int), RS f st n m u pk wm dg p0 s0 wf0 σ' (pOne kd vl m i v).2.1 (pOne kd vl m i v).2.2 cl nu' → Fr σ σ' [84, 85] → Q (some (vI (pOne kd vl m i v).1)) σ') : Call x d 0 0 mX7_takesAt [vR 84] N σ Q := by
  refine Call.of mcX7_takesAt (Nat.le_of_ble_eq_true rfl) (fun y hy => ?_)
  subst hy
  obtain ⟨h87, h88, p, s, wf, h84, h85, hD⟩ := id hR
  obtain ⟨b1, b2, b3⟩ := tok_b hT hi hn.1
  have b4 := tok_end hT hi hn.1
  have hp8 := hGv.1
  unfold pOne at h
  refine P.aload_n (dq dtX7_takesAt 0 rfl) rfl ?_
  refine P.iconst (dq dtX7_takesAt 1 rfl) ?_
  refine P.aload_n (dq dtX7_takesAt 2 rfl) rfl ?_
  refine P.get flX7_111 (dq dtX7_takesAt 3 rfl) (by repeat (first | assumption | exact up_s | rw [up_n (by first | assumption | (apply Ne.symm; assumption) | decide | omega)])) (by rfl) ?_
  refine P.iconst (dq dtX7_takesAt 4 rfl) ?_
  refine P.isub (dq dtX7_takesAt 5 rfl) ?_
  refine P.callV2 (M' := mX7_takesNumber) (d' := d - 1) mlX7_107 mcX7_takesNumber mvX7_takesNumber (dq dtX7_takesAt 6 rfl) (by omega) (Nat.le_of_ble_eq_true rfl) (by repeat (first | assumption | exact up_s | rw [up_n (by first | assumption | (apply Ne.symm; assumption) | decide | omega)])) rfl ?_
  refine rs_num hT hn hf hi hR (by omega) (by omega) (by omega) (fun σ1 nu1 hR1 fr1 hn1 => ?_)
  have hi1 := pNum_b (kd := kd) (vl := vl) (lo := 0) (hi := v.1 - 1) hi
  obtain ⟨k87, k88, p1, s1, wf1, k84, k85, kD⟩ := id hR1
  obtain ⟨d1, d2, d3⟩ := tok_b hT hi1 hn.1
  have d4 := tok_k hT hi1
  refine P.if_ne (t := 16) (dq dtX7_takesAt 7 rfl) rfl (by split <;> omega) (fun c_11 => ?_) (fun c_11 => ?_)
  · refine P.aload_n (dq dtX7_takesAt 10 rfl) rfl ?_
    refine P.get flX7_101 (dq dtX7_takesAt 11 rfl) (by repeat (first | assumption | exact up_s | rw [up_n (by first | assumption | (apply Ne.symm; assumption) | decide | omega)])) (by rfl) ?_
    refine P.istore_n (dq dtX7_takesAt 12 rfl) (by decide) rfl rfl ?_
    refine P.aload_n (dq dtX7_takesAt 13 rfl) rfl ?_
    refine P.callV0 (M' := mX7_wordHere) (d' := d - 1) mlX7_129 mcX7_wordHere mvX7_wordHere (dq dtX7_takesAt 14 rfl) (by omega) (Nat.le_of_ble_eq_true rfl) (by repeat (first | assumption | exact up_s | rw [up_n (by first | assumption | (apply Ne.symm; assumption) | decide | omega)])) rfl ?_
    refine ct_wordHere k84 k87 k88 (by omega) hf (fun z => by have := d2; by_cases q : (pNum kd vl m 0 (v.1 - 1) i).2 < m - 1 <;> omega) ?_
    rw [whF_t hT hi1 hn.1]
    obtain ⟨bt1, bt2, bt3⟩ := ((hT.r hn hf).2 _ hi1.1 hi1.2).2
    have hx : ¬ (pNum kd vl m 0 (v.1 - 1) i).1 = -1 := fun z => c_11 (if_pos z)
    rw [if_neg hx] at h
    have e1 := hn1 hx
    have bn1 := pNum_v hx
    rw [← e1] at bn1
    refine P.istore_n (dq dtX7_takesAt 15 rfl) (by decide) rfl rfl ?_
    refine P.iload_n (dq dtX7_takesAt 16 rfl) rfl ?_
    refine P.callS1 (M' := mX7_isWay) (d' := d - 1) mlX7_133 mcX7_isWay msX7_isWay (dq dtX7_takesAt 17 rfl) (by omega) (Nat.le_of_ble_eq_true rfl) ?_
    refine ct_X7_isWay (by omega) (by split <;> omega) (fun n_27 => ?_) (fun n_27 => ?_)
    · refine P.if_ne (t := 35) (dq dtX7_takesAt 18 rfl) rfl (by omega) (fun _ => ?_) (fun h9 => absurd h9 (by decide))
      have hww : kd (pNum kd vl m 0 (v.1 - 1) i).2 = 1 ∧ (vl (pNum kd vl m 0 (v.1 - 1) i).2 = 0 ∨ vl (pNum kd vl m 0 (v.1 - 1) i).2 = 1) := by
        split at n_27
        · next q => exact ⟨q.1, by omega⟩
        · omega
      rw [if_pos hww] at h
      have ewh : (if kd (pNum kd vl m 0 (v.1 - 1) i).2 = 1 ∧ 0 ≤ vl (pNum kd vl m 0 (v.1 - 1) i).2 then vl (pNum kd vl m 0 (v.1 - 1) i).2 else -1) = vl (pNum kd vl m 0 (v.1 - 1) i).2 := if_pos ⟨hww.1, by omega⟩
      have hi2 := nx_b hi1
      rw [← e1] at h
      generalize hw : vl (pNum kd vl m 0 (v.1 - 1) i).2 = w at *
      refine P.aload_n (dq dtX7_takesAt 21 rfl) rfl ?_
      refine P.callV0 (M' := mX7_nextToken) (d' := d - 1) mlX7_104 mcX7_nextToken mvX7_nextToken (dq dtX7_takesAt 22 rfl) (by omega) (Nat.le_of_ble_eq_true rfl) (by repeat (first | assumption | exact up_s | rw [up_n (by first | assumption | (apply Ne.symm; assumption) | decide | omega)])) rfl ?_
      refine rs_next hT hn hf hi1 hR1 (by omega) (fun σ2 hR2 fr2 => ?_)
      obtain ⟨v87, v88, p2, s2, wf2, v84, v85, vD⟩ := id hR2
      refine P.aload_n (dq dtX7_takesAt 23 rfl) rfl ?_
      refine P.callV0 (M' := mX7_takesErr) (d' := d - 1) mlX7_121 mcX7_takesErr mvX7_takesErr (dq dtX7_takesAt 24 rfl) (by omega) (Nat.le_of_ble_eq_true rfl) (by repeat (first | assumption | exact up_s | rw [up_n (by first | assumption | (apply Ne.symm; assumption) | decide | omega)])) rfl ?_
      refine rs_err hT hn hf hi2 hR2 (by omega) (fun σ3 nu3 hR3 fr3 hn3 => ?_)
      obtain ⟨w87, w88, p3, s3, wf3, w84, w85, wD⟩ := id hR3
      refine P.if_ne (t := 48) (dq dtX7_takesAt 25 rfl) rfl (by split <;> omega) (fun c_43 => ?_) (fun c_43 => ?_)
      · refine P.aload_n (dq dtX7_takesAt 28 rfl) rfl ?_
        refine P.get flX7_114 (dq dtX7_takesAt 29 rfl) (by repeat (first | assumption | exact up_s | rw [up_n (by first | assumption | (apply Ne.symm; assumption) | decide | omega)])) (by rfl) ?_
        refine P.if_eq (t := 66) (dq dtX7_takesAt 30 rfl) rfl (by omega) (fun c_52 => ?_) (fun c_52 => ?_)
        · refine P.iconst (dq dtX7_takesAt 38 rfl) ?_
          refine P.zret (dq dtX7_takesAt 39 rfl) rfl rfl (by omega) rfl ?_
          have hy : ¬ (pNum kd vl m 0 40 (pSg kd vl m (nx m (pNum kd vl m 0 (v.1 - 1) i).2))).1 = -1 := fun z => c_43 (if_pos z)
          have e3 := hn3 hy
          have epe : pErr kd vl m nu1 w (nx m (pNum kd vl m 0 (v.1 - 1) i).2) v = (1, (pNum kd vl m 0 40 (pSg kd vl m (nx m (pNum kd vl m 0 (v.1 - 1) i).2))).2, addM v (nu1 * 2 + w) nu3) := by
            unfold pErr
            rw [if_neg hy, e3]
          rw [epe] at h
          first
          | exact h _ nu3 ⟨(by repeat (first | assumption | exact up_s | rw [up_n (by first | assumption | (apply Ne.symm; assumption) | decide | omega)])), (by repeat (first | assumption | exact up_s | rw [up_n (by first | assumption | (apply Ne.symm; assumption) | decide | omega)])), p3, s3, wf4, (by repeat (first | assumption | exact up_s | rw [up_n (by first | assumption | (apply Ne.symm; assumption) | decide | omega)])), up_s, wD.add c_52 z1 z2⟩ (Fr.trans ((fr1.trans fr2).trans fr3) (by repeat (first | assumption | exact Fr.rf | refine Fr.up ?_ (by simp))))
          | exact h _ nu3 ⟨w87, w88, p3, s3, wf3, w84, w85, wD.z c_52⟩ ((fr1.trans fr2).trans fr3)
        · refine P.aload_n (dq dtX7_takesAt 31 rfl) rfl ?_
          refine P.iconst (dq dtX7_takesAt 32 rfl) ?_
          refine P.iload_n (dq dtX7_takesAt 33 rfl) rfl ?_
          refine P.iload_n (dq dtX7_takesAt 34 rfl) rfl ?_
          refine P.aload_n (dq dtX7_takesAt 35 rfl) rfl ?_
          refine P.get flX7_101 (dq dtX7_takesAt 36 rfl) (by repeat (first | assumption | exact up_s | rw [up_n (by first | assumption | (apply Ne.symm; assumption) | decide | omega)])) (by rfl) ?_
          refine P.callV4 (M' := mX7_adds) (d' := d - 1) mlX7_125 mcX7_adds mvX7_adds (dq dtX7_takesAt 37 rfl) (by omega) (Nat.le_of_ble_eq_true rfl) (by repeat (first | assumption | exact up_s | rw [up_n (by first | assumption | (apply Ne.symm; assumption) | decide | omega)])) rfl ?_
          rw [ewh]
          refine ct_X7_adds (r := 0) (v := v) w84 w85 hGv (wD.rw c_52).2.2.1 (by omega) (by omega) (by omega) (fun wf4 z1 z2 => ?_)
          refine P.iconst (dq dtX7_takesAt 38 rfl) ?_
          refine P.zret (dq dtX7_takesAt 39 rfl) rfl rfl (by omega) rfl ?_
          have hy : ¬ (pNum kd vl m 0 40 (pSg kd vl m (nx m (pNum kd vl m 0 (v.1 - 1) i).2))).1 = -1 := fun z => c_43 (if_pos z)
          have e3 := hn3 hy
          have epe : pErr kd vl m nu1 w (nx m (pNum kd vl m 0 (v.1 - 1) i).2) v = (1, (pNum kd vl m 0 40 (pSg kd vl m (nx m (pNum kd vl m 0 (v.1 - 1) i).2))).2, addM v (nu1 * 2 + w) nu3) := by
            unfold pErr
            rw [if_neg hy, e3]
          rw [epe] at h
          first
          | exact h _ nu3 ⟨(by repeat (first | assumption | exact up_s | rw [up_n (by first | assumption | (apply Ne.symm; assumption) | decide | omega)])), (by repeat (first | assumption | exact up_s | rw [up_n (by first | assumption | (apply Ne.symm; assumption) | decide | omega)])), p3, s3, wf4, (by repeat (first | assumption | exact up_s | rw [up_n (by first | assumption | (apply Ne.symm; assumption) | decide | omega)])), up_s, wD.add c_52 z1 z2⟩ (Fr.trans ((fr1.trans fr2).trans fr3) (by repeat (first | assumption | exact Fr.rf | refine Fr.up ?_ (by simp))))
          | exact h _ nu3 ⟨w87, w88, p3, s3, wf3, w84, w85, wD.z c_52⟩ ((fr1.trans fr2).trans fr3)
      · refine P.iconst (dq dtX7_takesAt 26 rfl) ?_
        refine P.zret (dq dtX7_takesAt 27 rfl) rfl rfl (by omega) rfl ?_
        have hy : (pNum kd vl m 0 40 (pSg kd vl m (nx m (pNum kd vl m 0 (v.1 - 1) i).2))).1 = -1 := by split at c_43 <;> first | assumption | omega
        have epe : pErr kd vl m nu1 w (nx m (pNum kd vl m 0 (v.1 - 1) i).2) v = (0, (pNum kd vl m 0 40 (pSg kd vl m (nx m (pNum kd vl m 0 (v.1 - 1) i).2))).2, v) := by
          unfold pErr
          rw [if_pos hy]
        rw [epe] at h
        exact h σ3 nu3 hR3 ((fr1.trans fr2).trans fr3)
    · refine P.if_ne (t := 35) (dq dtX7_takesAt 18 rfl) rfl (by omega) (fun h9 => absurd h9 (by decide)) (fun _ => ?_)
      refine P.iconst (dq dtX7_takesAt 19 rfl) ?_
      refine P.zret (dq dtX7_takesAt 20 rfl) rfl rfl (by omega) rfl ?_
      rw [if_neg (fun z => n_27 (by rw [if_pos ⟨z.1, by omega⟩]; omega))] at h
      exact h σ1 nu1 hR1 fr1
  · refine P.iconst (dq dtX7_takesAt 8 rfl) ?_
    refine P.zret (dq dtX7_takesAt 9 rfl) rfl rfl (by omega) rfl ?_
    have hx : (pNum kd vl m 0 (v.1 - 1) i).1 = -1 := by split at c_11 <;> first | assumption | omega
    rw [if_pos hx] at h
    exact h σ1 nu1 hR1 fr1
/-- takesClause -/
theorem rs_clause {x : CM} {d N : Nat} {σ : PH} {Q : PQ} {f st kd vl : Int → Int} {n m : Int} (hT : TK f n st kd vl m) (hn : 0 ≤ n ∧ n ≤ 200) (hf : ∀ i : Int, 0 ≤ i ∧ i < n → 0 ≤ f i ∧ f i ≤ 255) {u pk wm dg p0 s0 : Int} {wf0 : Int → Int} {i cl nu : Int} {v : MsV} (hi : 0 ≤ i ∧ i < m) (hR : RS f st n m u pk wm dg p0 s0 wf0 σ i v cl nu) (hdg : dg = 0 ∨ dg = 1) (hGv : GMs v) (hd : 6 ≤ d) (h : ∀ (σ' : PH) (nu' : Int), RS f st n m u pk wm dg p0 s0 wf0 σ' (pCl (fun f => f) kd vl m i v).2.1 (pCl (fun f => f) kd vl m i v).2.2 cl nu' → Fr σ σ' [84, 85] → Q (some (vI (pCl (fun f => f) kd vl m i v).1)) σ') : Call x d 0 0 mX7_takesClause [vR 84] N σ Q := by
  refine Call.of mcX7_takesClause (Nat.le_of_ble_eq_true rfl) (fun y hy => ?_)
  subst hy
  obtain ⟨h87, h88, p, s, wf, h84, h85, hD⟩ := id hR
  obtain ⟨b1, b2, b3⟩ := tok_b hT hi hn.1
  have b4 := tok_end hT hi hn.1
  have hp8 := hGv.1
  unfold pCl at h
  obtain ⟨bt1, bt2, bt3⟩ := ((hT.r hn hf).2 _ hi.1 hi.2).2
  refine P.aload_n (dq dtX7_takesClause 0 rfl) rfl ?_
  refine P.callV0 (M' := mX7_wordHere) (d' := d - 1) mlX7_129 mcX7_wordHere mvX7_wordHere (dq dtX7_takesClause 1 rfl) (by omega) (Nat.le_of_ble_eq_true rfl) (by repeat (first | assumption | exact up_s | rw [up_n (by first | assumption | (apply Ne.symm; assumption) | decide | omega)])) rfl ?_
  refine ct_wordHere h84 h87 h88 (by omega) hf (fun z => by have := b2; by_cases q : i < m - 1 <;> omega) ?_
  rw [whF_t hT hi hn.1]
  have vr : kd i = 1 → 0 ≤ vl i → vl i ≤ 3 := tok_w hT hi
  generalize hwh : (if kd i = 1 ∧ 0 ≤ vl i then vl i else -1) = w at *
  have bw : -1 ≤ w ∧ w ≤ 3 := by
    rw [← hwh]
    split
    · next q => have := vr q.1 q.2; omega
    · omega
  refine P.istore_n (dq dtX7_takesClause 2 rfl) (by decide) rfl rfl ?_
  refine P.iload_n (dq dtX7_takesClause 3 rfl) rfl ?_
  refine P.if_ge (t := 11) (dq dtX7_takesClause 4 rfl) rfl (by omega) (fun c_6 => ?_) (fun c_6 => ?_)
  · have hk1 : kd i = 1 ∧ vl i = w := by
      by_cases q : kd i = 1 ∧ 0 ≤ vl i
      · rw [if_pos q] at hwh; exact ⟨q.1, hwh⟩
      · rw [if_neg q] at hwh; omega
    have hi2 := nx_b hi
    refine P.aload_n (dq dtX7_takesClause 7 rfl) rfl ?_
    refine P.callV0 (M' := mX7_nextToken) (d' := d - 1) mlX7_104 mcX7_nextToken mvX7_nextToken (dq dtX7_takesClause 8 rfl) (by omega) (Nat.le_of_ble_eq_true rfl) (by repeat (first | assumption | exact up_s | rw [up_n (by first | assumption | (apply Ne.symm; assumption) | decide | omega)])) rfl ?_
    refine rs_next hT hn hf hi hR (by omega) (fun σ2 hR2 fr2 => ?_)
    obtain ⟨v87, v88, p2, s2, wf2, v84, v85, vD⟩ := id hR2
    refine P.iload_n (dq dtX7_takesClause 9 rfl) rfl ?_
    refine P.iconst (dq dtX7_takesClause 10 rfl) ?_
    refine P.icmp_ne (t := 27) (dq dtX7_takesClause 11 rfl) rfl (by omega) (by omega) (fun c_17 => ?_) (fun c_17 => ?_)
    · refine P.iload_n (dq dtX7_takesClause 15 rfl) rfl ?_
      refine P.iconst (dq dtX7_takesClause 16 rfl) ?_
      refine P.icmp_ne (t := 39) (dq dtX7_takesClause 17 rfl) rfl (by omega) (by omega) (fun c_29 => ?_) (fun c_29 => ?_)
      · refine P.aload_n (dq dtX7_takesClause 21 rfl) rfl ?_
        refine P.iload_n (dq dtX7_takesClause 22 rfl) rfl ?_
        refine P.callV1 (M' := mX7_takesRuns) (d' := d - 1) mlX7_142 mcX7_takesRuns mvX7_takesRuns (dq dtX7_takesClause 23 rfl) (by omega) (Nat.le_of_ble_eq_true rfl) (by repeat (first | assumption | exact up_s | rw [up_n (by first | assumption | (apply Ne.symm; assumption) | decide | omega)])) rfl ?_
        rw [if_pos (by omega), hk1.2] at h
        refine rs_runs hT hn hf hi2 hR2 hdg hGv (by omega) (by omega) (fun σ3 nu3 hR3 fr3 => ?_)
        refine P.zret (dq dtX7_takesClause 24 rfl) rfl rfl (by first | exact pAxis_01 | exact pOne_01 | exact pRow_01 _ _ _ _) rfl ?_
        exact h σ3 nu3 hR3 (fr2.trans fr3)
      · refine P.aload_n (dq dtX7_takesClause 18 rfl) rfl ?_
        refine P.callV0 (M' := mX7_takesAt) (d' := d - 1) mlX7_139 mcX7_takesAt mvX7_takesAt (dq dtX7_takesClause 19 rfl) (by omega) (Nat.le_of_ble_eq_true rfl) (by repeat (first | assumption | exact up_s | rw [up_n (by first | assumption | (apply Ne.symm; assumption) | decide | omega)])) rfl ?_
        rw [if_neg (by omega), if_neg (by omega), if_pos (by omega)] at h
        refine rs_at hT hn hf hi2 hR2 hdg hGv (by omega) (fun σ3 nu3 hR3 fr3 => ?_)
        refine P.goto (t := 44) (dq dtX7_takesClause 20 rfl) rfl ?_
        refine P.zret (dq dtX7_takesClause 24 rfl) rfl rfl (by first | exact pAxis_01 | exact pOne_01 | exact pRow_01 _ _ _ _) rfl ?_
        exact h σ3 nu3 hR3 (fr2.trans fr3)
    · refine P.aload_n (dq dtX7_takesClause 12 rfl) rfl ?_
      refine P.callV0 (M' := mX7_takesAxis) (d' := d - 1) mlX7_136 mcX7_takesAxis mvX7_takesAxis (dq dtX7_takesClause 13 rfl) (by omega) (Nat.le_of_ble_eq_true rfl) (by repeat (first | assumption | exact up_s | rw [up_n (by first | assumption | (apply Ne.symm; assumption) | decide | omega)])) rfl ?_
      rw [if_neg (by omega), if_pos (by omega)] at h
      refine rs_axis hT hn hf hi2 hR2 hdg hGv (by omega) (fun σ3 nu3 hR3 fr3 => ?_)
      refine P.goto (t := 44) (dq dtX7_takesClause 14 rfl) rfl ?_
      refine P.zret (dq dtX7_takesClause 24 rfl) rfl rfl (by first | exact pAxis_01 | exact pOne_01 | exact pRow_01 _ _ _ _) rfl ?_
      exact h σ3 nu3 hR3 (fr2.trans fr3)
  · refine P.iconst (dq dtX7_takesClause 5 rfl) ?_
    refine P.zret (dq dtX7_takesClause 6 rfl) rfl rfl (by omega) rfl ?_
    have hno : ¬ (kd i = 1 ∧ 0 ≤ vl i) := fun q => by rw [if_pos q] at hwh; omega
    rw [if_neg (by omega), if_neg (by omega), if_neg (by omega)] at h
    exact h σ nu hR Fr.rf
