/-- letters of a label -/
def inL (f : Int → Int) (n : Int) : Prop := ∀ j : Int, 0 ≤ j ∧ j < n → 32 ≤ f j ∧ f j ≤ 126
theorem insF_L {f : Int → Int} {n p l : Int} (h : inL f n) (hl : 32 ≤ l ∧ l ≤ 126) (hp : 0 ≤ p ∧ p ≤ n) : inL (insF f n p l) (n + 1) := by
  intro j hj
  simp only [insF, upI, shF]
  split
  · exact hl
  · split
    · exact h _ (by omega)
    · exact h _ (by omega)
theorem rmF_L {f : Int → Int} {n u v : Int} (h : inL f n) (hp : 0 ≤ u ∧ u ≤ v ∧ v ≤ n) : inL (rmF f u v n) (n - (v - u)) := by
  intro j hj
  unfold rmF
  split <;> exact h _ (by omega)
theorem rvF_L {f : Int → Int} {n : Int} (h : inL f n) : inL (rvF f n (n / 2)) n := by
  intro j hj
  unfold rvF
  split <;> exact h _ (by omega)
theorem apF_L {f g : Int → Int} {n m : Int} (h : inL f n) (h2 : inL g m) : inL (apF f g n m) (n + m) := by
  intro j hj
  unfold apF
  split
  · exact h2 _ (by omega)
  · exact h _ (by omega)
theorem CS.lab1 {σ σ' : PH} {S : CSt} {it : Int → Int} {l : Nat} {n : Int} {f : Int → Int} (hS : CS σ S) (hl : l < 3) (hF : Fr σ σ' [69, 78 + 2 * l, 78 + 2 * l + 1]) (h69 : σ' 69 = pcI 1 3 it) (hit : ∀ i : Int, 0 ≤ i → i < 3 → it i = 0 ∨ it i = 1) (hL : Ls σ' (78 + 2 * l) 24 n f) (hn : 0 ≤ n ∧ n ≤ 24) (hf : inL f n) : CS σ' (sLab S it (upN S.ln l n) (upN S.lf l f)) ∧ FrC σ σ' := by
  obtain ⟨hG, hX, hTx, hRd, hNow, hPa, hKe, ⟨F, sf, hFg⟩, hSu, hSF, hLa⟩ := hS
  have hF2 : Fr σ σ' [69, 78, 79, 80, 81, 82, 83] := hF.wide (by
    intro j hj
    simp only [List.mem_cons, List.not_mem_nil, or_false] at hj
    have key : ∀ i : Nat, i < 84 → (i = 69 ∨ 78 ≤ i) → i ∈ [69, 78, 79, 80, 81, 82, 83] := by decide
    exact key j (by omega) (by omega))
  refine ⟨⟨⟨hG.1, hG.2.1, hG.2.2.1, hG.2.2.2.1, hit, fun i hi => ?_⟩, hX.fr hF2 rfl rfl rfl rfl, CTx.fr (S := S) hTx hF2 rfl, hRd.fr hF2 rfl, hNow.fr4 hF2 rfl, CPa.fr (S := S) hPa hF2 rfl rfl, CKe.fr (S := S) hKe hF2 rfl rfl, ⟨F, sf, hFg.fr hF2 rfl rfl⟩, Fp.fr hSu hF2 rfl, hSF.fr hF2 rfl, h69, fun i hi => ?_⟩, hF2.toC rfl⟩
  · show (0 ≤ upN S.ln l n i ∧ upN S.ln l n i ≤ 24) ∧ ∀ j : Int, 0 ≤ j ∧ j < upN S.ln l n i → 32 ≤ upN S.lf l f i j ∧ upN S.lf l f i j ≤ 126
    by_cases e : i = l
    · rw [e, upN_s, upN_s]; exact ⟨hn, hf⟩
    · rw [upN_n e, upN_n e]; exact hG.2.2.2.2.2 i hi
  · show Ls σ' (78 + 2 * i) 24 (upN S.ln l n i) (upN S.lf l f i)
    by_cases e : i = l
    · rw [e, upN_s, upN_s]; exact hL
    · rw [upN_n e, upN_n e]; exact (hLa.2 i hi).fr hF (by simp; omega) (by simp; omega)
theorem CS.labQ {σ σ' : PH} {Q : PQ} {r : Int} {S : CSt} {it : Int → Int} {l : Nat} {n : Int} {f : Int → Int} (h : ∀ σ' : PH, CS σ' (sLab S it (upN S.ln l n) (upN S.lf l f)) → FrC σ σ' → Q (some (vI r)) σ') (hS : CS σ S) (hl : l < 3) (hF : Fr σ σ' [69, 78 + 2 * l, 78 + 2 * l + 1]) (h69 : σ' 69 = pcI 1 3 it) (hit : ∀ i : Int, 0 ≤ i → i < 3 → it i = 0 ∨ it i = 1) (hL : Ls σ' (78 + 2 * l) 24 n f) (hn : 0 ≤ n ∧ n ≤ 24) (hf : inL f n) : Q (some (vI r)) σ' := by
  obtain ⟨z1, z2⟩ := hS.lab1 hl hF h69 hit hL hn hf
  exact h _ z1 z2
theorem it_up {it : Int → Int} {a z : Int} (h : ∀ i : Int, 0 ≤ i → i < 3 → it i = 0 ∨ it i = 1) (hz : z = 0 ∨ z = 1) : ∀ i : Int, 0 ≤ i → i < 3 → upI it a z i = 0 ∨ upI it a z i = 1 := by
  intro i g1 g2
  by_cases e : i = a
  · rw [e, upI_s]; exact hz
  · rw [upI_n e]; exact h i g1 g2
theorem ct_putAny {x : CM} {d N : Nat} {σ : PH} {Q : PQ} {q q2 : Nat} {n m : Int} {f g : Int → Int} (hL : Ls σ q 24 n f) (hL2 : Ls σ q2 24 m g) (hn : 0 ≤ n ∧ n ≤ 24) (hm : 0 ≤ m ∧ m ≤ 24) (he : q = q2 → n = m ∧ f = g) (hd : 3 ≤ d) (hr : n + m ≤ 24) (h : Q none (up (up σ (q + 1) (pcI 0 24 (apF f g n m))) q (pcO 1 [vR (q + 1), vI (n + m)]))) : Call x d 0 0 mX1_putAll [vR q, vR q2] N σ Q := by
  by_cases e : q = q2
  · obtain ⟨e1, e2⟩ := he e
    subst e1 e2 e
    exact ct_X1_putSelf hL.1 hL.2 (by omega) hd hr h
  · exact ct_X1_putAll hL.1 hL.2 (by omega) hL2.1 hL2.2 (by omega) hd e (by omega) hr h
def aLab (a : Int) : Int := if 0 ≤ a ∧ a < 3 then 0 else -100001
def sLb (S : CSt) (a : Int) : CSt := if 0 ≤ a ∧ a < 3 then sLab S (upI S.it a 1) (upN S.ln a.toNat 0) (upN S.lf a.toNat (S.lf a.toNat)) else S
/-- AxisTable.label -/
theorem cl_label {x : CM} {d N : Nat} {σ : PH} {Q : PQ} {S : CSt} (hS : CS σ S) (hd : 1 ≤ d) {a : Int} (ha : inR a) (h : ∀ σ' : PH, CS σ' (sLb S a) → FrC σ σ' → Q (some (vI (aLab a))) σ') : Call x d 0 0 mX6_label [vR 0, vI a] N σ Q := by
  refine Call.of mcX6_label (Nat.le_of_ble_eq_true rfl) (fun y hy => ?_)
  subst hy
  obtain ⟨hG, hX, hTx, hRd, hNow, hPa, hKe, ⟨F, sf, hFg⟩, ⟨sv, hSu⟩, hSF, hLa⟩ := id hS
  have x0 := hX.1
  have x1 := hTx.1
  have x2 := hTx.2
  have x7 := hNow.1
  have x8 := hNow.2.1
  have hGm := hG.2.1.1
  have hp := hGm.1
  have hs := hGm.2.1
  obtain ⟨f0, f1, f2, f3, f4, f5, f6, f7, fR⟩ := id hFg.1
  have tB := fR.tb hGm
  have hL9 := mul_bd (k := S.now.1.1 - 1) (s := S.now.1.2.1) (by omega) (by omega) (by omega) (by omega)
  have x69 := hLa.1
  obtain ⟨gl, hgl0, hgl⟩ := hX.2.2.2
  refine P.iload_n (dq dtX6_label 0 rfl) rfl ?_
  refine P.callS1 (M' := mX6_isLabel) (d' := d - 1) mlX6_236 mcX6_isLabel msX6_isLabel (dq dtX6_label 1 rfl) (by omega) (Nat.le_of_ble_eq_true rfl) ?_
  refine ct_X6_isLabel ha (fun n_1 => ?_) (fun n_1 => ?_)
  · refine P.if_ne (t := 10) (dq dtX6_label 2 rfl) rfl (by omega) (fun _ => ?_) (fun h9 => absurd h9 (by decide))
    have hl := hLa.2 a.toNat (by omega)
    have xl := hl.1
    have xr := hl.2
    have gla := hgl a (by omega) (by omega)
    obtain ⟨bn, bf⟩ := hG.2.2.2.2.2 a.toNat (by omega)
    refine P.aload_n (dq dtX6_label 5 rfl) rfl ?_
    refine P.get flX6_71 (dq dtX6_label 6 rfl) (by repeat (first | assumption | exact up_s | rw [up_n (by first | assumption | (apply Ne.symm; assumption) | decide | omega)])) (by rfl) ?_
    refine P.iload_n (dq dtX6_label 7 rfl) rfl ?_
    refine P.iconst (dq dtX6_label 8 rfl) ?_
    refine P.zast (dq dtX6_label 9 rfl) (by repeat (first | assumption | exact up_s | rw [up_n (by first | assumption | (apply Ne.symm; assumption) | decide | omega)])) (by omega) (by omega) (by omega) (by decide) ?_
    refine P.aload_n (dq dtX6_label 10 rfl) rfl ?_
    refine P.get flX6_67 (dq dtX6_label 11 rfl) (by repeat (first | assumption | exact up_s | rw [up_n (by first | assumption | (apply Ne.symm; assumption) | decide | omega)])) (by rfl) ?_
    refine P.iload_n (dq dtX6_label 12 rfl) rfl ?_
    refine P.aald (dq dtX6_label 13 rfl) (by repeat (first | assumption | exact up_s | rw [up_n (by first | assumption | (apply Ne.symm; assumption) | decide | omega)])) (by decide) (by omega) (by omega) (by omega) gla ?_
    refine P.iconst (dq dtX6_label 14 rfl) ?_
    refine P.put flX6_86 rfl (dq dtX6_label 15 rfl) (by repeat (first | assumption | exact up_s | rw [up_n (by first | assumption | (apply Ne.symm; assumption) | decide | omega)])) (by exact Nat.le_of_ble_eq_true rfl) rfl rfl rfl rfl rfl ?_
    refine P.iconst (dq dtX6_label 16 rfl) ?_
    refine P.iret (dq dtX6_label 17 rfl) rfl rfl rfl ?_
    simp only [aLab, sLb, if_pos n_1] at h
    refine CS.labQ h hS (l := a.toNat) (it := upI S.it a 1) (n := 0) (f := S.lf a.toNat) (by omega) (by repeat (first | assumption | exact Fr.rf | refine Fr.up ?_ (by simp))) (by repeat (first | assumption | exact up_s | rw [up_n (by first | assumption | (apply Ne.symm; assumption) | decide | omega)])) (it_up hG.2.2.2.2.1 (by exact Or.inr rfl)) ⟨up_s, (by repeat (first | assumption | exact up_s | rw [up_n (by first | assumption | (apply Ne.symm; assumption) | decide | omega)]))⟩ (by omega) (fun j hj => absurd hj (by omega))
  · refine P.if_ne (t := 10) (dq dtX6_label 2 rfl) rfl (by omega) (fun h9 => absurd h9 (by decide)) (fun _ => ?_)
    refine P.ldc (n := -100001) (dq dtX6_label 3 rfl) kcX6_129 rfl ?_
    refine P.iret (dq dtX6_label 4 rfl) rfl rfl rfl ?_
    simp only [aLab, sLb, if_neg n_1] at h
    exact h σ hS FrC.rf
def aIns (S : CSt) (a i c : Int) : Int := if ¬ (0 ≤ a ∧ a < 3) then -100001 else if ¬ (32 ≤ c ∧ c ≤ 126) then -100002 else if S.it a = 0 then -100011 else if ¬ (0 ≤ i ∧ i ≤ S.ln a.toNat) then -100012 else if S.ln a.toNat = 24 then -100013 else S.ln a.toNat + 1
def okI (S : CSt) (a i c : Int) : Prop := (0 ≤ a ∧ a < 3) ∧ (32 ≤ c ∧ c ≤ 126) ∧ S.it a ≠ 0 ∧ (0 ≤ i ∧ i ≤ S.ln a.toNat) ∧ S.ln a.toNat ≠ 24
def sIns (S : CSt) (a i c : Int) : CSt := if (0 ≤ a ∧ a < 3) ∧ (32 ≤ c ∧ c ≤ 126) ∧ S.it a ≠ 0 ∧ (0 ≤ i ∧ i ≤ S.ln a.toNat) ∧ S.ln a.toNat ≠ 24 then sLab S S.it (upN S.ln a.toNat (S.ln a.toNat + 1)) (upN S.lf a.toNat (insF (S.lf a.toNat) (S.ln a.toNat) i c)) else S
/-- AxisTable.insert -/
theorem cl_insert {x : CM} {d N : Nat} {σ : PH} {Q : PQ} {S : CSt} (hS : CS σ S) (hd : 2 ≤ d) {a i c : Int} (ha : inR a) (hi : inR i) (hc : inR c) (h : ∀ σ' : PH, CS σ' (sIns S a i c) → FrC σ σ' → Q (some (vI (aIns S a i c))) σ') : Call x d 0 0 mX6_insert [vR 0, vI a, vI i, vI c] N σ Q := by
  refine Call.of mcX6_insert (Nat.le_of_ble_eq_true rfl) (fun y hy => ?_)
  subst hy
  obtain ⟨hG, hX, hTx, hRd, hNow, hPa, hKe, ⟨F, sf, hFg⟩, ⟨sv, hSu⟩, hSF, hLa⟩ := id hS
  have x0 := hX.1
  have x1 := hTx.1
  have x2 := hTx.2
  have x7 := hNow.1
  have x8 := hNow.2.1
  have hGm := hG.2.1.1
  have hp := hGm.1
  have hs := hGm.2.1
  obtain ⟨f0, f1, f2, f3, f4, f5, f6, f7, fR⟩ := id hFg.1
  have tB := fR.tb hGm
  have hL9 := mul_bd (k := S.now.1.1 - 1) (s := S.now.1.2.1) (by omega) (by omega) (by omega) (by omega)
  have x69 := hLa.1
  obtain ⟨gl, hgl0, hgl⟩ := hX.2.2.2
  refine P.iload_n (dq dtX6_insert 0 rfl) rfl ?_
  refine P.callS1 (M' := mX6_isLabel) (d' := d - 1) mlX6_236 mcX6_isLabel msX6_isLabel (dq dtX6_insert 1 rfl) (by omega) (Nat.le_of_ble_eq_true rfl) ?_
  refine ct_X6_isLabel ha (fun n_1 => ?_) (fun n_1 => ?_)
  · refine P.if_ne (t := 10) (dq dtX6_insert 2 rfl) rfl (by omega) (fun _ => ?_) (fun h9 => absurd h9 (by decide))
    have hl := hLa.2 a.toNat (by omega)
    have xl := hl.1
    have xr := hl.2
    have gla := hgl a (by omega) (by omega)
    obtain ⟨bn, bf⟩ := hG.2.2.2.2.2 a.toNat (by omega)
    have b30 := hG.2.2.2.2.1 a n_1.1 n_1.2
    refine P.iload_n (dq dtX6_insert 5 rfl) rfl ?_
    refine P.bipush (dq dtX6_insert 6 rfl) rfl ?_
    refine P.icmp_lt (t := 22) (dq dtX6_insert 7 rfl) rfl (by omega) (by omega) (fun c_13 => ?_) (fun c_13 => ?_)
    · refine P.ldc (n := -100002) (dq dtX6_insert 11 rfl) kcX6_77 rfl ?_
      refine P.iret (dq dtX6_insert 12 rfl) rfl rfl rfl ?_
      have e1 : sIns S a i c = S := if_neg (by omega)
      rw [e1] at h
      unfold aIns at h
      repeat (first | rw [if_pos (by omega)] at h | rw [if_neg (by omega)] at h)
      exact h σ hS FrC.rf
    · refine P.iload_n (dq dtX6_insert 8 rfl) rfl ?_
      refine P.bipush (dq dtX6_insert 9 rfl) rfl ?_
      refine P.icmp_le (t := 25) (dq dtX6_insert 10 rfl) rfl (by omega) (by omega) (fun c_19 => ?_) (fun c_19 => ?_)
      · refine P.aload_n (dq dtX6_insert 13 rfl) rfl ?_
        refine P.get flX6_71 (dq dtX6_insert 14 rfl) (by repeat (first | assumption | exact up_s | rw [up_n (by first | assumption | (apply Ne.symm; assumption) | decide | omega)])) (by rfl) ?_
        refine P.iload_n (dq dtX6_insert 15 rfl) rfl ?_
        refine P.zald (dq dtX6_insert 16 rfl) (by repeat (first | assumption | exact up_s | rw [up_n (by first | assumption | (apply Ne.symm; assumption) | decide | omega)])) (by omega) (by omega) (by omega) ?_
        refine P.if_ne (t := 37) (dq dtX6_insert 17 rfl) rfl (by omega) (fun c_31 => ?_) (fun c_31 => ?_)
        · refine P.iload_n (dq dtX6_insert 20 rfl) rfl ?_
          refine P.if_lt (t := 54) (dq dtX6_insert 21 rfl) rfl (by omega) (fun c_38 => ?_) (fun c_38 => ?_)
          · refine P.ldc (n := -100012) (dq dtX6_insert 29 rfl) kcX6_240 rfl ?_
            refine P.iret (dq dtX6_insert 30 rfl) rfl rfl rfl ?_
            have e1 : sIns S a i c = S := if_neg (by omega)
            rw [e1] at h
            unfold aIns at h
            repeat (first | rw [if_pos (by omega)] at h | rw [if_neg (by omega)] at h)
            exact h σ hS FrC.rf
          · refine P.iload_n (dq dtX6_insert 22 rfl) rfl ?_
            refine P.aload_n (dq dtX6_insert 23 rfl) rfl ?_
            refine P.get flX6_67 (dq dtX6_insert 24 rfl) (by repeat (first | assumption | exact up_s | rw [up_n (by first | assumption | (apply Ne.symm; assumption) | decide | omega)])) (by rfl) ?_
            refine P.iload_n (dq dtX6_insert 25 rfl) rfl ?_
            refine P.aald (dq dtX6_insert 26 rfl) (by repeat (first | assumption | exact up_s | rw [up_n (by first | assumption | (apply Ne.symm; assumption) | decide | omega)])) (by decide) (by omega) (by omega) (by omega) gla ?_
            refine P.get flX6_86 (dq dtX6_insert 27 rfl) (by repeat (first | assumption | exact up_s | rw [up_n (by first | assumption | (apply Ne.symm; assumption) | decide | omega)])) (by rfl) ?_
            refine P.icmp_le (t := 57) (dq dtX6_insert 28 rfl) rfl (by omega) (by omega) (fun c_51 => ?_) (fun c_51 => ?_)
            · refine P.aload_n (dq dtX6_insert 31 rfl) rfl ?_
              refine P.get flX6_67 (dq dtX6_insert 32 rfl) (by repeat (first | assumption | exact up_s | rw [up_n (by first | assumption | (apply Ne.symm; assumption) | decide | omega)])) (by rfl) ?_
              refine P.iload_n (dq dtX6_insert 33 rfl) rfl ?_
              refine P.aald (dq dtX6_insert 34 rfl) (by repeat (first | assumption | exact up_s | rw [up_n (by first | assumption | (apply Ne.symm; assumption) | decide | omega)])) (by decide) (by omega) (by omega) (by omega) gla ?_
              refine P.iconst (dq dtX6_insert 35 rfl) ?_
              refine P.callV1 (M' := mX1_hasRoomFor) (d' := d - 1) mlX6_78 mcX1_hasRoomFor mvX1_hasRoomFor (dq dtX6_insert 36 rfl) (by omega) (Nat.le_of_ble_eq_true rfl) (by repeat (first | assumption | exact up_s | rw [up_n (by first | assumption | (apply Ne.symm; assumption) | decide | omega)])) rfl ?_
              refine ct_X1_hasRoomFor xl xr (by omega) (by omega) (fun n_64 => ?_) (fun n_64 => ?_)
              · refine P.if_ne (t := 73) (dq dtX6_insert 37 rfl) rfl (by omega) (fun _ => ?_) (fun h9 => absurd h9 (by decide))
                refine P.aload_n (dq dtX6_insert 40 rfl) rfl ?_
                refine P.get flX6_67 (dq dtX6_insert 41 rfl) (by repeat (first | assumption | exact up_s | rw [up_n (by first | assumption | (apply Ne.symm; assumption) | decide | omega)])) (by rfl) ?_
                refine P.iload_n (dq dtX6_insert 42 rfl) rfl ?_
                refine P.aald (dq dtX6_insert 43 rfl) (by repeat (first | assumption | exact up_s | rw [up_n (by first | assumption | (apply Ne.symm; assumption) | decide | omega)])) (by decide) (by omega) (by omega) (by omega) gla ?_
                refine P.iload_n (dq dtX6_insert 44 rfl) rfl ?_
                refine P.iload_n (dq dtX6_insert 45 rfl) rfl ?_
                refine P.callV2 (M' := mX1_putAt) (d' := d - 1) mlX6_242 mcX1_putAt mvX1_putAt (dq dtX6_insert 46 rfl) (by omega) (Nat.le_of_ble_eq_true rfl) (by repeat (first | assumption | exact up_s | rw [up_n (by first | assumption | (apply Ne.symm; assumption) | decide | omega)])) rfl ?_
                refine ct_X1_putAt xl xr (by omega) (by omega) (by omega) (by omega) ?_
                refine P.aload_n (dq dtX6_insert 47 rfl) rfl ?_
                refine P.get flX6_67 (dq dtX6_insert 48 rfl) (by repeat (first | assumption | exact up_s | rw [up_n (by first | assumption | (apply Ne.symm; assumption) | decide | omega)])) (by rfl) ?_
                refine P.iload_n (dq dtX6_insert 49 rfl) rfl ?_
                refine P.aald (dq dtX6_insert 50 rfl) (by repeat (first | assumption | exact up_s | rw [up_n (by first | assumption | (apply Ne.symm; assumption) | decide | omega)])) (by decide) (by omega) (by omega) (by omega) gla ?_
                refine P.get flX6_86 (dq dtX6_insert 51 rfl) (by repeat (first | assumption | exact up_s | rw [up_n (by first | assumption | (apply Ne.symm; assumption) | decide | omega)])) (by rfl) ?_
                refine P.iret (dq dtX6_insert 52 rfl) rfl rfl rfl ?_
                have e1 : sIns S a i c = sLab S S.it (upN S.ln a.toNat (S.ln a.toNat + 1)) (upN S.lf a.toNat (insF (S.lf a.toNat) (S.ln a.toNat) i c)) := if_pos (by omega)
                rw [e1] at h
                unfold aIns at h
                repeat (first | rw [if_pos (by omega)] at h | rw [if_neg (by omega)] at h)
                refine CS.labQ h hS (l := a.toNat) (it := S.it) (n := S.ln a.toNat + 1) (f := insF (S.lf a.toNat) (S.ln a.toNat) i c) (by omega) (by repeat (first | assumption | exact Fr.rf | refine Fr.up ?_ (by simp))) (by repeat (first | assumption | exact up_s | rw [up_n (by first | assumption | (apply Ne.symm; assumption) | decide | omega)])) hG.2.2.2.2.1 ⟨up_s, (by repeat (first | assumption | exact up_s | rw [up_n (by first | assumption | (apply Ne.symm; assumption) | decide | omega)]))⟩ (by omega) (insF_L bf (by omega) (by omega))
              · refine P.if_ne (t := 73) (dq dtX6_insert 37 rfl) rfl (by omega) (fun h9 => absurd h9 (by decide)) (fun _ => ?_)
                refine P.ldc (n := -100013) (dq dtX6_insert 38 rfl) kcX6_241 rfl ?_
                refine P.iret (dq dtX6_insert 39 rfl) rfl rfl rfl ?_
                have e1 : sIns S a i c = S := if_neg (by omega)
                rw [e1] at h
                unfold aIns at h
                repeat (first | rw [if_pos (by omega)] at h | rw [if_neg (by omega)] at h)
                exact h σ hS FrC.rf
            · refine P.ldc (n := -100012) (dq dtX6_insert 29 rfl) kcX6_240 rfl ?_
              refine P.iret (dq dtX6_insert 30 rfl) rfl rfl rfl ?_
              have e1 : sIns S a i c = S := if_neg (by omega)
              rw [e1] at h
              unfold aIns at h
              repeat (first | rw [if_pos (by omega)] at h | rw [if_neg (by omega)] at h)
              exact h σ hS FrC.rf
        · refine P.ldc (n := -100011) (dq dtX6_insert 18 rfl) kcX6_239 rfl ?_
          refine P.iret (dq dtX6_insert 19 rfl) rfl rfl rfl ?_
          have e1 : sIns S a i c = S := if_neg (by omega)
          rw [e1] at h
          unfold aIns at h
          repeat (first | rw [if_pos (by omega)] at h | rw [if_neg (by omega)] at h)
          exact h σ hS FrC.rf
      · refine P.ldc (n := -100002) (dq dtX6_insert 11 rfl) kcX6_77 rfl ?_
        refine P.iret (dq dtX6_insert 12 rfl) rfl rfl rfl ?_
        have e1 : sIns S a i c = S := if_neg (by omega)
        rw [e1] at h
        unfold aIns at h
        repeat (first | rw [if_pos (by omega)] at h | rw [if_neg (by omega)] at h)
        exact h σ hS FrC.rf
  · refine P.if_ne (t := 10) (dq dtX6_insert 2 rfl) rfl (by omega) (fun h9 => absurd h9 (by decide)) (fun _ => ?_)
    refine P.ldc (n := -100001) (dq dtX6_insert 3 rfl) kcX6_129 rfl ?_
    refine P.iret (dq dtX6_insert 4 rfl) rfl rfl rfl ?_
    have e1 : sIns S a i c = S := if_neg (by omega)
    rw [e1] at h
    unfold aIns at h
    repeat (first | rw [if_pos (by omega)] at h | rw [if_neg (by omega)] at h)
    exact h σ hS FrC.rf
def aCut (S : CSt) (a i j : Int) : Int := if rfL S.it a ≠ 0 then rfL S.it a else if ¬ (0 ≤ i ∧ i ≤ j ∧ j ≤ S.ln a.toNat) then -100012 else S.ln a.toNat - (j - i)
def sCut (S : CSt) (a i j : Int) : CSt := if rfL S.it a = 0 ∧ 0 ≤ i ∧ i ≤ j ∧ j ≤ S.ln a.toNat then sLab S S.it (upN S.ln a.toNat (S.ln a.toNat - (j - i))) (upN S.lf a.toNat (rmF (S.lf a.toNat) i j (S.ln a.toNat))) else S
/-- AxisTable.cut -/
theorem cl_cut {x : CM} {d N : Nat} {σ : PH} {Q : PQ} {S : CSt} (hS : CS σ S) (hd : 2 ≤ d) {a i j : Int} (ha : inR a) (hi : inR i) (hj : inR j) (h : ∀ σ' : PH, CS σ' (sCut S a i j) → FrC σ σ' → Q (some (vI (aCut S a i j))) σ') : Call x d 0 0 mX6_cut [vR 0, vI a, vI i, vI j] N σ Q := by
  refine Call.of mcX6_cut (Nat.le_of_ble_eq_true rfl) (fun y hy => ?_)
  subst hy
  obtain ⟨hG, hX, hTx, hRd, hNow, hPa, hKe, ⟨F, sf, hFg⟩, ⟨sv, hSu⟩, hSF, hLa⟩ := id hS
  have x0 := hX.1
  have x1 := hTx.1
  have x2 := hTx.2
  have x7 := hNow.1
  have x8 := hNow.2.1
  have hGm := hG.2.1.1
  have hp := hGm.1
  have hs := hGm.2.1
  obtain ⟨f0, f1, f2, f3, f4, f5, f6, f7, fR⟩ := id hFg.1
  have tB := fR.tb hGm
  have hL9 := mul_bd (k := S.now.1.1 - 1) (s := S.now.1.2.1) (by omega) (by omega) (by omega) (by omega)
  have x69 := hLa.1
  obtain ⟨gl, hgl0, hgl⟩ := hX.2.2.2
  refine P.aload_n (dq dtX6_cut 0 rfl) rfl ?_
  refine P.iload_n (dq dtX6_cut 1 rfl) rfl ?_
  refine P.callV1 (M' := mX6_refusalOfLabel) (d' := d - 1) mlX6_246 mcX6_refusalOfLabel mvX6_refusalOfLabel (dq dtX6_cut 2 rfl) (by omega) (Nat.le_of_ble_eq_true rfl) (by repeat (first | assumption | exact up_s | rw [up_n (by first | assumption | (apply Ne.symm; assumption) | decide | omega)])) rfl ?_
  refine ct_refLab hS (by omega) ha ?_
  refine P.istore (dq dtX6_cut 3 rfl) (by decide) rfl rfl ?_
  refine P.iload (dq dtX6_cut 4 rfl) rfl ?_
  refine P.if_eq (t := 15) (dq dtX6_cut 5 rfl) rfl (rfL_b _ _) (fun c_9 => ?_) (fun c_9 => ?_)
  · obtain ⟨e8, e9⟩ := rfL_0 c_9
    have hl := hLa.2 a.toNat (by omega)
    have xl := hl.1
    have xr := hl.2
    have gla := hgl a (by omega) (by omega)
    obtain ⟨bn, bf⟩ := hG.2.2.2.2.2 a.toNat (by omega)
    refine P.iload_n (dq dtX6_cut 8 rfl) rfl ?_
    refine P.if_lt (t := 37) (dq dtX6_cut 9 rfl) rfl (by omega) (fun c_16 => ?_) (fun c_16 => ?_)
    · refine P.ldc (n := -100012) (dq dtX6_cut 20 rfl) kcX6_240 rfl ?_
      refine P.iret (dq dtX6_cut 21 rfl) rfl rfl rfl ?_
      have e1 : sCut S a i j = S := if_neg (by omega)
      rw [e1] at h
      unfold aCut at h
      repeat (first | rw [if_pos (by omega)] at h | rw [if_neg (by omega)] at h)
      exact h σ hS FrC.rf
    · refine P.iload_n (dq dtX6_cut 10 rfl) rfl ?_
      refine P.iload_n (dq dtX6_cut 11 rfl) rfl ?_
      refine P.icmp_gt (t := 37) (dq dtX6_cut 12 rfl) rfl (by omega) (by omega) (fun c_21 => ?_) (fun c_21 => ?_)
      · refine P.ldc (n := -100012) (dq dtX6_cut 20 rfl) kcX6_240 rfl ?_
        refine P.iret (dq dtX6_cut 21 rfl) rfl rfl rfl ?_
        have e1 : sCut S a i j = S := if_neg (by omega)
        rw [e1] at h
        unfold aCut at h
        repeat (first | rw [if_pos (by omega)] at h | rw [if_neg (by omega)] at h)
        exact h σ hS FrC.rf
      · refine P.iload_n (dq dtX6_cut 13 rfl) rfl ?_
        refine P.aload_n (dq dtX6_cut 14 rfl) rfl ?_
        refine P.get flX6_67 (dq dtX6_cut 15 rfl) (by repeat (first | assumption | exact up_s | rw [up_n (by first | assumption | (apply Ne.symm; assumption) | decide | omega)])) (by rfl) ?_
        refine P.iload_n (dq dtX6_cut 16 rfl) rfl ?_
        refine P.aald (dq dtX6_cut 17 rfl) (by repeat (first | assumption | exact up_s | rw [up_n (by first | assumption | (apply Ne.symm; assumption) | decide | omega)])) (by decide) (by omega) (by omega) (by omega) gla ?_
        refine P.get flX6_86 (dq dtX6_cut 18 rfl) (by repeat (first | assumption | exact up_s | rw [up_n (by first | assumption | (apply Ne.symm; assumption) | decide | omega)])) (by rfl) ?_
        refine P.icmp_le (t := 40) (dq dtX6_cut 19 rfl) rfl (by omega) (by omega) (fun c_34 => ?_) (fun c_34 => ?_)
        · refine P.aload_n (dq dtX6_cut 22 rfl) rfl ?_
          refine P.get flX6_67 (dq dtX6_cut 23 rfl) (by repeat (first | assumption | exact up_s | rw [up_n (by first | assumption | (apply Ne.symm; assumption) | decide | omega)])) (by rfl) ?_
          refine P.iload_n (dq dtX6_cut 24 rfl) rfl ?_
          refine P.aald (dq dtX6_cut 25 rfl) (by repeat (first | assumption | exact up_s | rw [up_n (by first | assumption | (apply Ne.symm; assumption) | decide | omega)])) (by decide) (by omega) (by omega) (by omega) gla ?_
          refine P.iload_n (dq dtX6_cut 26 rfl) rfl ?_
          refine P.iload_n (dq dtX6_cut 27 rfl) rfl ?_
          refine P.callV2 (M' := mX1_remove) (d' := d - 1) mlX6_249 mcX1_remove mvX1_remove (dq dtX6_cut 28 rfl) (by omega) (Nat.le_of_ble_eq_true rfl) (by repeat (first | assumption | exact up_s | rw [up_n (by first | assumption | (apply Ne.symm; assumption) | decide | omega)])) rfl ?_
          refine ct_X1_remove xl xr (by omega) (by omega) ?_
          refine P.aload_n (dq dtX6_cut 29 rfl) rfl ?_
          refine P.get flX6_67 (dq dtX6_cut 30 rfl) (by repeat (first | assumption | exact up_s | rw [up_n (by first | assumption | (apply Ne.symm; assumption) | decide | omega)])) (by rfl) ?_
          refine P.iload_n (dq dtX6_cut 31 rfl) rfl ?_
          refine P.aald (dq dtX6_cut 32 rfl) (by repeat (first | assumption | exact up_s | rw [up_n (by first | assumption | (apply Ne.symm; assumption) | decide | omega)])) (by decide) (by omega) (by omega) (by omega) gla ?_
          refine P.get flX6_86 (dq dtX6_cut 33 rfl) (by repeat (first | assumption | exact up_s | rw [up_n (by first | assumption | (apply Ne.symm; assumption) | decide | omega)])) (by rfl) ?_
          refine P.iret (dq dtX6_cut 34 rfl) rfl rfl rfl ?_
          have e1 : sCut S a i j = sLab S S.it (upN S.ln a.toNat (S.ln a.toNat - (j - i))) (upN S.lf a.toNat (rmF (S.lf a.toNat) i j (S.ln a.toNat))) := if_pos (by omega)
          rw [e1] at h
          unfold aCut at h
          repeat (first | rw [if_pos (by omega)] at h | rw [if_neg (by omega)] at h)
          refine CS.labQ h hS (l := a.toNat) (it := S.it) (n := S.ln a.toNat - (j - i)) (f := rmF (S.lf a.toNat) i j (S.ln a.toNat)) (by omega) (by repeat (first | assumption | exact Fr.rf | refine Fr.up ?_ (by simp))) (by repeat (first | assumption | exact up_s | rw [up_n (by first | assumption | (apply Ne.symm; assumption) | decide | omega)])) hG.2.2.2.2.1 ⟨up_s, (by repeat (first | assumption | exact up_s | rw [up_n (by first | assumption | (apply Ne.symm; assumption) | decide | omega)]))⟩ (by omega) (rmF_L bf (by omega))
        · refine P.ldc (n := -100012) (dq dtX6_cut 20 rfl) kcX6_240 rfl ?_
          refine P.iret (dq dtX6_cut 21 rfl) rfl rfl rfl ?_
          have e1 : sCut S a i j = S := if_neg (by omega)
          rw [e1] at h
          unfold aCut at h
          repeat (first | rw [if_pos (by omega)] at h | rw [if_neg (by omega)] at h)
          exact h σ hS FrC.rf
  · refine P.iload (dq dtX6_cut 6 rfl) rfl ?_
    refine P.iret (dq dtX6_cut 7 rfl) rfl rfl rfl ?_
    have e1 : sCut S a i j = S := if_neg (by omega)
    rw [e1] at h
    unfold aCut at h
    repeat (first | rw [if_pos (by omega)] at h | rw [if_neg (by omega)] at h)
    exact h σ hS FrC.rf
def aJoi (S : CSt) (a b : Int) : Int := if rf2 S.it a b ≠ 0 then rf2 S.it a b else if ¬ (S.ln a.toNat + S.ln b.toNat ≤ 24) then -100013 else S.ln a.toNat + S.ln b.toNat
def sJoi (S : CSt) (a b : Int) : CSt := if rf2 S.it a b = 0 ∧ S.ln a.toNat + S.ln b.toNat ≤ 24 then sLab S S.it (upN S.ln a.toNat (S.ln a.toNat + S.ln b.toNat)) (upN S.lf a.toNat (apF (S.lf a.toNat) (S.lf b.toNat) (S.ln a.toNat) (S.ln b.toNat))) else S
/-- AxisTable.join -/
theorem cl_join {x : CM} {d N : Nat} {σ : PH} {Q : PQ} {S : CSt} (hS : CS σ S) (hd : 4 ≤ d) {a b : Int} (ha : inR a) (hb : inR b) (h : ∀ σ' : PH, CS σ' (sJoi S a b) → FrC σ σ' → Q (some (vI (aJoi S a b))) σ') : Call x d 0 0 mX6_join [vR 0, vI a, vI b] N σ Q := by
  refine Call.of mcX6_join (Nat.le_of_ble_eq_true rfl) (fun y hy => ?_)
  subst hy
  obtain ⟨hG, hX, hTx, hRd, hNow, hPa, hKe, ⟨F, sf, hFg⟩, ⟨sv, hSu⟩, hSF, hLa⟩ := id hS
  have x0 := hX.1
  have x1 := hTx.1
  have x2 := hTx.2
  have x7 := hNow.1
  have x8 := hNow.2.1
  have hGm := hG.2.1.1
  have hp := hGm.1
  have hs := hGm.2.1
  obtain ⟨f0, f1, f2, f3, f4, f5, f6, f7, fR⟩ := id hFg.1
  have tB := fR.tb hGm
  have hL9 := mul_bd (k := S.now.1.1 - 1) (s := S.now.1.2.1) (by omega) (by omega) (by omega) (by omega)
  have x69 := hLa.1
  obtain ⟨gl, hgl0, hgl⟩ := hX.2.2.2
  refine P.aload_n (dq dtX6_join 0 rfl) rfl ?_
  refine P.iload_n (dq dtX6_join 1 rfl) rfl ?_
  refine P.iload_n (dq dtX6_join 2 rfl) rfl ?_
  refine P.callV2 (M' := mX6_refusalOfTwo) (d' := d - 1) mlX6_252 mcX6_refusalOfTwo mvX6_refusalOfTwo (dq dtX6_join 3 rfl) (by omega) (Nat.le_of_ble_eq_true rfl) (by repeat (first | assumption | exact up_s | rw [up_n (by first | assumption | (apply Ne.symm; assumption) | decide | omega)])) rfl ?_
  refine ct_ref2 hS (by omega) ha hb ?_
  refine P.istore_n (dq dtX6_join 4 rfl) (by decide) rfl rfl ?_
  refine P.iload_n (dq dtX6_join 5 rfl) rfl ?_
  refine P.if_eq (t := 13) (dq dtX6_join 6 rfl) rfl (rf2_b _ _ _) (fun c_8 => ?_) (fun c_8 => ?_)
  · obtain ⟨⟨e8, e9⟩, e7, e6⟩ := rf2_0 c_8
    have hl := hLa.2 a.toNat (by omega)
    have xl := hl.1
    have xr := hl.2
    have gla := hgl a (by omega) (by omega)
    obtain ⟨bn, bf⟩ := hG.2.2.2.2.2 a.toNat (by omega)
    have hlb := hLa.2 b.toNat (by omega)
    have xlb := hlb.1
    have xrb := hlb.2
    have glab := hgl b (by omega) (by omega)
    obtain ⟨bnb, bfb⟩ := hG.2.2.2.2.2 b.toNat (by omega)
    have hsame : 78 + 2 * a.toNat = 78 + 2 * b.toNat → S.ln a.toNat = S.ln b.toNat ∧ S.lf a.toNat = S.lf b.toNat := by
      intro e
      rw [show a.toNat = b.toNat by omega]
      exact ⟨rfl, rfl⟩
    refine P.aload_n (dq dtX6_join 9 rfl) rfl ?_
    refine P.get flX6_67 (dq dtX6_join 10 rfl) (by repeat (first | assumption | exact up_s | rw [up_n (by first | assumption | (apply Ne.symm; assumption) | decide | omega)])) (by rfl) ?_
    refine P.iload_n (dq dtX6_join 11 rfl) rfl ?_
    refine P.aald (dq dtX6_join 12 rfl) (by repeat (first | assumption | exact up_s | rw [up_n (by first | assumption | (apply Ne.symm; assumption) | decide | omega)])) (by decide) (by omega) (by omega) (by omega) gla ?_
    refine P.aload_n (dq dtX6_join 13 rfl) rfl ?_
    refine P.get flX6_67 (dq dtX6_join 14 rfl) (by repeat (first | assumption | exact up_s | rw [up_n (by first | assumption | (apply Ne.symm; assumption) | decide | omega)])) (by rfl) ?_
    refine P.iload_n (dq dtX6_join 15 rfl) rfl ?_
    refine P.aald (dq dtX6_join 16 rfl) (by repeat (first | assumption | exact up_s | rw [up_n (by first | assumption | (apply Ne.symm; assumption) | decide | omega)])) (by decide) (by omega) (by omega) (by omega) glab ?_
    refine P.get flX6_86 (dq dtX6_join 17 rfl) (by repeat (first | assumption | exact up_s | rw [up_n (by first | assumption | (apply Ne.symm; assumption) | decide | omega)])) (by rfl) ?_
    refine P.callV1 (M' := mX1_hasRoomFor) (d' := d - 1) mlX6_78 mcX1_hasRoomFor mvX1_hasRoomFor (dq dtX6_join 18 rfl) (by omega) (Nat.le_of_ble_eq_true rfl) (by repeat (first | assumption | exact up_s | rw [up_n (by first | assumption | (apply Ne.symm; assumption) | decide | omega)])) rfl ?_
    refine ct_X1_hasRoomFor xl xr (by omega) (by omega) (fun n_28 => ?_) (fun n_28 => ?_)
    · refine P.if_ne (t := 37) (dq dtX6_join 19 rfl) rfl (by omega) (fun _ => ?_) (fun h9 => absurd h9 (by decide))
      refine P.aload_n (dq dtX6_join 22 rfl) rfl ?_
      refine P.get flX6_67 (dq dtX6_join 23 rfl) (by repeat (first | assumption | exact up_s | rw [up_n (by first | assumption | (apply Ne.symm; assumption) | decide | omega)])) (by rfl) ?_
      refine P.iload_n (dq dtX6_join 24 rfl) rfl ?_
      refine P.aald (dq dtX6_join 25 rfl) (by repeat (first | assumption | exact up_s | rw [up_n (by first | assumption | (apply Ne.symm; assumption) | decide | omega)])) (by decide) (by omega) (by omega) (by omega) gla ?_
      refine P.aload_n (dq dtX6_join 26 rfl) rfl ?_
      refine P.get flX6_67 (dq dtX6_join 27 rfl) (by repeat (first | assumption | exact up_s | rw [up_n (by first | assumption | (apply Ne.symm; assumption) | decide | omega)])) (by rfl) ?_
      refine P.iload_n (dq dtX6_join 28 rfl) rfl ?_
      refine P.aald (dq dtX6_join 29 rfl) (by repeat (first | assumption | exact up_s | rw [up_n (by first | assumption | (apply Ne.symm; assumption) | decide | omega)])) (by decide) (by omega) (by omega) (by omega) glab ?_
      refine P.callV1 (M' := mX1_putAll) (d' := d - 1) mlX6_255 mcX1_putAll mvX1_putAll (dq dtX6_join 30 rfl) (by omega) (Nat.le_of_ble_eq_true rfl) (by repeat (first | assumption | exact up_s | rw [up_n (by first | assumption | (apply Ne.symm; assumption) | decide | omega)])) rfl ?_
      refine ct_putAny hl hlb bn bnb hsame (by omega) (by omega) ?_
      refine P.aload_n (dq dtX6_join 31 rfl) rfl ?_
      refine P.get flX6_67 (dq dtX6_join 32 rfl) (by repeat (first | assumption | exact up_s | rw [up_n (by first | assumption | (apply Ne.symm; assumption) | decide | omega)])) (by rfl) ?_
      refine P.iload_n (dq dtX6_join 33 rfl) rfl ?_
      refine P.aald (dq dtX6_join 34 rfl) (by repeat (first | assumption | exact up_s | rw [up_n (by first | assumption | (apply Ne.symm; assumption) | decide | omega)])) (by decide) (by omega) (by omega) (by omega) gla ?_
      refine P.get flX6_86 (dq dtX6_join 35 rfl) (by repeat (first | assumption | exact up_s | rw [up_n (by first | assumption | (apply Ne.symm; assumption) | decide | omega)])) (by rfl) ?_
      refine P.iret (dq dtX6_join 36 rfl) rfl rfl rfl ?_
      have e1 : sJoi S a b = sLab S S.it (upN S.ln a.toNat (S.ln a.toNat + S.ln b.toNat)) (upN S.lf a.toNat (apF (S.lf a.toNat) (S.lf b.toNat) (S.ln a.toNat) (S.ln b.toNat))) := if_pos (by omega)
      rw [e1] at h
      unfold aJoi at h
      repeat (first | rw [if_pos (by omega)] at h | rw [if_neg (by omega)] at h)
      refine CS.labQ h hS (l := a.toNat) (it := S.it) (n := S.ln a.toNat + S.ln b.toNat) (f := apF (S.lf a.toNat) (S.lf b.toNat) (S.ln a.toNat) (S.ln b.toNat)) (by omega) (by repeat (first | assumption | exact Fr.rf | refine Fr.up ?_ (by simp))) (by repeat (first | assumption | exact up_s | rw [up_n (by first | assumption | (apply Ne.symm; assumption) | decide | omega)])) hG.2.2.2.2.1 ⟨up_s, (by repeat (first | assumption | exact up_s | rw [up_n (by first | assumption | (apply Ne.symm; assumption) | decide | omega)]))⟩ (by omega) (apF_L bf bfb)
    · refine P.if_ne (t := 37) (dq dtX6_join 19 rfl) rfl (by omega) (fun h9 => absurd h9 (by decide)) (fun _ => ?_)
      refine P.ldc (n := -100013) (dq dtX6_join 20 rfl) kcX6_241 rfl ?_
      refine P.iret (dq dtX6_join 21 rfl) rfl rfl rfl ?_
      have e1 : sJoi S a b = S := if_neg (by omega)
      rw [e1] at h
      unfold aJoi at h
      repeat (first | rw [if_pos (by omega)] at h | rw [if_neg (by omega)] at h)
      exact h σ hS FrC.rf
  · refine P.iload_n (dq dtX6_join 7 rfl) rfl ?_
    refine P.iret (dq dtX6_join 8 rfl) rfl rfl rfl ?_
    have e1 : sJoi S a b = S := if_neg (by omega)
    rw [e1] at h
    unfold aJoi at h
    repeat (first | rw [if_pos (by omega)] at h | rw [if_neg (by omega)] at h)
    exact h σ hS FrC.rf
def aTrn (S : CSt) (a : Int) : Int := if rfL S.it a ≠ 0 then rfL S.it a else S.ln a.toNat
def sTrn (S : CSt) (a : Int) : CSt := if rfL S.it a = 0 then sLab S S.it (upN S.ln a.toNat (S.ln a.toNat)) (upN S.lf a.toNat (rvF (S.lf a.toNat) (S.ln a.toNat) (S.ln a.toNat / 2))) else S
/-- AxisTable.turn -/
theorem cl_turn {x : CM} {d N : Nat} {σ : PH} {Q : PQ} {S : CSt} (hS : CS σ S) (hd : 2 ≤ d) {a : Int} (ha : inR a) (h : ∀ σ' : PH, CS σ' (sTrn S a) → FrC σ σ' → Q (some (vI (aTrn S a))) σ') : Call x d 0 0 mX6_turn [vR 0, vI a] N σ Q := by
  refine Call.of mcX6_turn (Nat.le_of_ble_eq_true rfl) (fun y hy => ?_)
  subst hy
  obtain ⟨hG, hX, hTx, hRd, hNow, hPa, hKe, ⟨F, sf, hFg⟩, ⟨sv, hSu⟩, hSF, hLa⟩ := id hS
  have x0 := hX.1
  have x1 := hTx.1
  have x2 := hTx.2
  have x7 := hNow.1
  have x8 := hNow.2.1
  have hGm := hG.2.1.1
  have hp := hGm.1
  have hs := hGm.2.1
  obtain ⟨f0, f1, f2, f3, f4, f5, f6, f7, fR⟩ := id hFg.1
  have tB := fR.tb hGm
  have hL9 := mul_bd (k := S.now.1.1 - 1) (s := S.now.1.2.1) (by omega) (by omega) (by omega) (by omega)
  have x69 := hLa.1
  obtain ⟨gl, hgl0, hgl⟩ := hX.2.2.2
  refine P.aload_n (dq dtX6_turn 0 rfl) rfl ?_
  refine P.iload_n (dq dtX6_turn 1 rfl) rfl ?_
  refine P.callV1 (M' := mX6_refusalOfLabel) (d' := d - 1) mlX6_246 mcX6_refusalOfLabel mvX6_refusalOfLabel (dq dtX6_turn 2 rfl) (by omega) (Nat.le_of_ble_eq_true rfl) (by repeat (first | assumption | exact up_s | rw [up_n (by first | assumption | (apply Ne.symm; assumption) | decide | omega)])) rfl ?_
  refine ct_refLab hS (by omega) ha ?_
  refine P.istore_n (dq dtX6_turn 3 rfl) (by decide) rfl rfl ?_
  refine P.iload_n (dq dtX6_turn 4 rfl) rfl ?_
  refine P.if_eq (t := 12) (dq dtX6_turn 5 rfl) rfl (rfL_b _ _) (fun c_7 => ?_) (fun c_7 => ?_)
  · obtain ⟨e8, e9⟩ := rfL_0 c_7
    have hl := hLa.2 a.toNat (by omega)
    have xl := hl.1
    have xr := hl.2
    have gla := hgl a (by omega) (by omega)
    obtain ⟨bn, bf⟩ := hG.2.2.2.2.2 a.toNat (by omega)
    refine P.aload_n (dq dtX6_turn 8 rfl) rfl ?_
    refine P.get flX6_67 (dq dtX6_turn 9 rfl) (by repeat (first | assumption | exact up_s | rw [up_n (by first | assumption | (apply Ne.symm; assumption) | decide | omega)])) (by rfl) ?_
    refine P.iload_n (dq dtX6_turn 10 rfl) rfl ?_
    refine P.aald (dq dtX6_turn 11 rfl) (by repeat (first | assumption | exact up_s | rw [up_n (by first | assumption | (apply Ne.symm; assumption) | decide | omega)])) (by decide) (by omega) (by omega) (by omega) gla ?_
    refine P.callV0 (M' := mX1_reverse) (d' := d - 1) mlX6_259 mcX1_reverse mvX1_reverse (dq dtX6_turn 12 rfl) (by omega) (Nat.le_of_ble_eq_true rfl) (by repeat (first | assumption | exact up_s | rw [up_n (by first | assumption | (apply Ne.symm; assumption) | decide | omega)])) rfl ?_
    refine ct_X1_reverse xl xr (by omega) ?_
    refine P.aload_n (dq dtX6_turn 13 rfl) rfl ?_
    refine P.get flX6_67 (dq dtX6_turn 14 rfl) (by repeat (first | assumption | exact up_s | rw [up_n (by first | assumption | (apply Ne.symm; assumption) | decide | omega)])) (by rfl) ?_
    refine P.iload_n (dq dtX6_turn 15 rfl) rfl ?_
    refine P.aald (dq dtX6_turn 16 rfl) (by repeat (first | assumption | exact up_s | rw [up_n (by first | assumption | (apply Ne.symm; assumption) | decide | omega)])) (by decide) (by omega) (by omega) (by omega) gla ?_
    refine P.get flX6_86 (dq dtX6_turn 17 rfl) (by repeat (first | assumption | exact up_s | rw [up_n (by first | assumption | (apply Ne.symm; assumption) | decide | omega)])) (by rfl) ?_
    refine P.iret (dq dtX6_turn 18 rfl) rfl rfl rfl ?_
    have e1 : sTrn S a = sLab S S.it (upN S.ln a.toNat (S.ln a.toNat)) (upN S.lf a.toNat (rvF (S.lf a.toNat) (S.ln a.toNat) (S.ln a.toNat / 2))) := if_pos (by omega)
    rw [e1] at h
    unfold aTrn at h
    repeat (first | rw [if_pos (by omega)] at h | rw [if_neg (by omega)] at h)
    refine CS.labQ h hS (l := a.toNat) (it := S.it) (n := S.ln a.toNat) (f := rvF (S.lf a.toNat) (S.ln a.toNat) (S.ln a.toNat / 2)) (by omega) (by repeat (first | assumption | exact Fr.rf | refine Fr.up ?_ (by simp))) (by repeat (first | assumption | exact up_s | rw [up_n (by first | assumption | (apply Ne.symm; assumption) | decide | omega)])) hG.2.2.2.2.1 ⟨(by repeat (first | assumption | exact up_s | rw [up_n (by first | assumption | (apply Ne.symm; assumption) | decide | omega)])), up_s⟩ (by omega) (rvF_L bf)
  · refine P.iload_n (dq dtX6_turn 6 rfl) rfl ?_
    refine P.iret (dq dtX6_turn 7 rfl) rfl rfl rfl ?_
    have e1 : sTrn S a = S := if_neg (by omega)
    rw [e1] at h
    unfold aTrn at h
    repeat (first | rw [if_pos (by omega)] at h | rw [if_neg (by omega)] at h)
    exact h σ hS FrC.rf
def aLet (S : CSt) (a k : Int) : Int := if rfL S.it a ≠ 0 then rfL S.it a else if 0 ≤ k ∧ k < S.ln a.toNat then S.lf a.toNat k else -100012
/-- AxisTable.letter -/
theorem cl_letter {x : CM} {d N : Nat} {σ : PH} {Q : PQ} {S : CSt} (hS : CS σ S) (hd : 2 ≤ d) {a k : Int} (ha : inR a) (hk : inR k) (h : Q (some (vI (aLet S a k))) σ) : Call x d 0 0 mX6_letter [vR 0, vI a, vI k] N σ Q := by
  refine Call.of mcX6_letter (Nat.le_of_ble_eq_true rfl) (fun y hy => ?_)
  subst hy
  obtain ⟨hG, hX, hTx, hRd, hNow, hPa, hKe, ⟨F, sf, hFg⟩, ⟨sv, hSu⟩, hSF, hLa⟩ := id hS
  have x0 := hX.1
  have x1 := hTx.1
  have x2 := hTx.2
  have x7 := hNow.1
  have x8 := hNow.2.1
  have hGm := hG.2.1.1
  have hp := hGm.1
  have hs := hGm.2.1
  obtain ⟨f0, f1, f2, f3, f4, f5, f6, f7, fR⟩ := id hFg.1
  have tB := fR.tb hGm
  have hL9 := mul_bd (k := S.now.1.1 - 1) (s := S.now.1.2.1) (by omega) (by omega) (by omega) (by omega)
  have x69 := hLa.1
  obtain ⟨gl, hgl0, hgl⟩ := hX.2.2.2
  refine P.aload_n (dq dtX6_letter 0 rfl) rfl ?_
  refine P.iload_n (dq dtX6_letter 1 rfl) rfl ?_
  refine P.callV1 (M' := mX6_refusalOfLabel) (d' := d - 1) mlX6_246 mcX6_refusalOfLabel mvX6_refusalOfLabel (dq dtX6_letter 2 rfl) (by omega) (Nat.le_of_ble_eq_true rfl) (by repeat (first | assumption | exact up_s | rw [up_n (by first | assumption | (apply Ne.symm; assumption) | decide | omega)])) rfl ?_
  refine ct_refLab hS (by omega) ha ?_
  refine P.istore_n (dq dtX6_letter 3 rfl) (by decide) rfl rfl ?_
  refine P.iload_n (dq dtX6_letter 4 rfl) rfl ?_
  refine P.if_eq (t := 12) (dq dtX6_letter 5 rfl) rfl (rfL_b _ _) (fun c_7 => ?_) (fun c_7 => ?_)
  · obtain ⟨e8, e9⟩ := rfL_0 c_7
    have hl := hLa.2 a.toNat (by omega)
    have xl := hl.1
    have xr := hl.2
    have gla := hgl a (by omega) (by omega)
    obtain ⟨bn, bf⟩ := hG.2.2.2.2.2 a.toNat (by omega)
    refine P.iload_n (dq dtX6_letter 8 rfl) rfl ?_
    refine P.if_lt (t := 42) (dq dtX6_letter 9 rfl) rfl (by omega) (fun c_13 => ?_) (fun c_13 => ?_)
    · refine P.ldc (n := -100012) (dq dtX6_letter 24 rfl) kcX6_240 rfl ?_
      refine P.iret (dq dtX6_letter 25 rfl) rfl rfl rfl ?_
      unfold aLet at h
      repeat (first | rw [if_pos (by omega)] at h | rw [if_neg (by omega)] at h)
      exact h
    · refine P.iload_n (dq dtX6_letter 10 rfl) rfl ?_
      refine P.aload_n (dq dtX6_letter 11 rfl) rfl ?_
      refine P.get flX6_67 (dq dtX6_letter 12 rfl) (by repeat (first | assumption | exact up_s | rw [up_n (by first | assumption | (apply Ne.symm; assumption) | decide | omega)])) (by rfl) ?_
      refine P.iload_n (dq dtX6_letter 13 rfl) rfl ?_
      refine P.aald (dq dtX6_letter 14 rfl) (by repeat (first | assumption | exact up_s | rw [up_n (by first | assumption | (apply Ne.symm; assumption) | decide | omega)])) (by decide) (by omega) (by omega) (by omega) gla ?_
      refine P.get flX6_86 (dq dtX6_letter 15 rfl) (by repeat (first | assumption | exact up_s | rw [up_n (by first | assumption | (apply Ne.symm; assumption) | decide | omega)])) (by rfl) ?_
      refine P.icmp_ge (t := 42) (dq dtX6_letter 16 rfl) rfl (by omega) (by omega) (fun c_26 => ?_) (fun c_26 => ?_)
      · refine P.ldc (n := -100012) (dq dtX6_letter 24 rfl) kcX6_240 rfl ?_
        refine P.iret (dq dtX6_letter 25 rfl) rfl rfl rfl ?_
        unfold aLet at h
        repeat (first | rw [if_pos (by omega)] at h | rw [if_neg (by omega)] at h)
        exact h
      · refine P.aload_n (dq dtX6_letter 17 rfl) rfl ?_
        refine P.get flX6_67 (dq dtX6_letter 18 rfl) (by repeat (first | assumption | exact up_s | rw [up_n (by first | assumption | (apply Ne.symm; assumption) | decide | omega)])) (by rfl) ?_
        refine P.iload_n (dq dtX6_letter 19 rfl) rfl ?_
        refine P.aald (dq dtX6_letter 20 rfl) (by repeat (first | assumption | exact up_s | rw [up_n (by first | assumption | (apply Ne.symm; assumption) | decide | omega)])) (by decide) (by omega) (by omega) (by omega) gla ?_
        refine P.iload_n (dq dtX6_letter 21 rfl) rfl ?_
        refine P.callV1 (M' := mX1_at) (d' := d - 1) mlX6_232 mcX1_at mvX1_at (dq dtX6_letter 22 rfl) (by omega) (Nat.le_of_ble_eq_true rfl) (by repeat (first | assumption | exact up_s | rw [up_n (by first | assumption | (apply Ne.symm; assumption) | decide | omega)])) rfl ?_
        refine ct_X1_at xl xr (by omega) (by omega) (fun n_36 => ?_) (fun n_36 => absurd (by omega) n_36)
        refine P.goto (t := 44) (dq dtX6_letter 23 rfl) rfl ?_
        refine P.iret (dq dtX6_letter 25 rfl) rfl rfl rfl ?_
        unfold aLet at h
        repeat (first | rw [if_pos (by omega)] at h | rw [if_neg (by omega)] at h)
        exact h
  · refine P.iload_n (dq dtX6_letter 6 rfl) rfl ?_
    refine P.iret (dq dtX6_letter 7 rfl) rfl rfl rfl ?_
    unfold aLet at h
    repeat (first | rw [if_pos (by omega)] at h | rw [if_neg (by omega)] at h)
    exact h
def aCmp (S : CSt) (a b : Int) : Int := if rf2 S.it a b ≠ 0 then rf2 S.it a b else ordF (S.lf a.toNat) (S.lf b.toNat) (S.ln a.toNat) (S.ln b.toNat) (min (S.ln a.toNat) (S.ln b.toNat)).toNat 0
/-- AxisTable.compare -/
theorem cl_compare {x : CM} {d N : Nat} {σ : PH} {Q : PQ} {S : CSt} (hS : CS σ S) (hd : 3 ≤ d) {a b : Int} (ha : inR a) (hb : inR b) (h : Q (some (vI (aCmp S a b))) σ) : Call x d 0 0 mX6_compare [vR 0, vI a, vI b] N σ Q := by
  refine Call.of mcX6_compare (Nat.le_of_ble_eq_true rfl) (fun y hy => ?_)
  subst hy
  obtain ⟨hG, hX, hTx, hRd, hNow, hPa, hKe, ⟨F, sf, hFg⟩, ⟨sv, hSu⟩, hSF, hLa⟩ := id hS
  have x0 := hX.1
  have x1 := hTx.1
  have x2 := hTx.2
  have x7 := hNow.1
  have x8 := hNow.2.1
  have hGm := hG.2.1.1
  have hp := hGm.1
  have hs := hGm.2.1
  obtain ⟨f0, f1, f2, f3, f4, f5, f6, f7, fR⟩ := id hFg.1
  have tB := fR.tb hGm
  have hL9 := mul_bd (k := S.now.1.1 - 1) (s := S.now.1.2.1) (by omega) (by omega) (by omega) (by omega)
  have x69 := hLa.1
  obtain ⟨gl, hgl0, hgl⟩ := hX.2.2.2
  refine P.aload_n (dq dtX6_compare 0 rfl) rfl ?_
  refine P.iload_n (dq dtX6_compare 1 rfl) rfl ?_
  refine P.iload_n (dq dtX6_compare 2 rfl) rfl ?_
  refine P.callV2 (M' := mX6_refusalOfTwo) (d' := d - 1) mlX6_252 mcX6_refusalOfTwo mvX6_refusalOfTwo (dq dtX6_compare 3 rfl) (by omega) (Nat.le_of_ble_eq_true rfl) (by repeat (first | assumption | exact up_s | rw [up_n (by first | assumption | (apply Ne.symm; assumption) | decide | omega)])) rfl ?_
  refine ct_ref2 hS (by omega) ha hb ?_
  refine P.istore_n (dq dtX6_compare 4 rfl) (by decide) rfl rfl ?_
  refine P.iload_n (dq dtX6_compare 5 rfl) rfl ?_
  refine P.if_eq (t := 15) (dq dtX6_compare 6 rfl) rfl (rf2_b _ _ _) (fun c_8 => ?_) (fun c_8 => ?_)
  · obtain ⟨⟨e8, e9⟩, e7, e6⟩ := rf2_0 c_8
    have hl := hLa.2 a.toNat (by omega)
    have xl := hl.1
    have xr := hl.2
    have gla := hgl a (by omega) (by omega)
    obtain ⟨bn, bf⟩ := hG.2.2.2.2.2 a.toNat (by omega)
    have hlb := hLa.2 b.toNat (by omega)
    have xlb := hlb.1
    have xrb := hlb.2
    have glab := hgl b (by omega) (by omega)
    obtain ⟨bnb, bfb⟩ := hG.2.2.2.2.2 b.toNat (by omega)
    refine P.aload_n (dq dtX6_compare 9 rfl) rfl ?_
    refine P.get flX6_67 (dq dtX6_compare 10 rfl) (by repeat (first | assumption | exact up_s | rw [up_n (by first | assumption | (apply Ne.symm; assumption) | decide | omega)])) (by rfl) ?_
    refine P.iload_n (dq dtX6_compare 11 rfl) rfl ?_
    refine P.aald (dq dtX6_compare 12 rfl) (by repeat (first | assumption | exact up_s | rw [up_n (by first | assumption | (apply Ne.symm; assumption) | decide | omega)])) (by decide) (by omega) (by omega) (by omega) gla ?_
    refine P.aload_n (dq dtX6_compare 13 rfl) rfl ?_
    refine P.get flX6_67 (dq dtX6_compare 14 rfl) (by repeat (first | assumption | exact up_s | rw [up_n (by first | assumption | (apply Ne.symm; assumption) | decide | omega)])) (by rfl) ?_
    refine P.iload_n (dq dtX6_compare 15 rfl) rfl ?_
    refine P.aald (dq dtX6_compare 16 rfl) (by repeat (first | assumption | exact up_s | rw [up_n (by first | assumption | (apply Ne.symm; assumption) | decide | omega)])) (by decide) (by omega) (by omega) (by omega) glab ?_
    refine P.callV1 (M' := mX1_orderAgainst) (d' := d - 1) mlX6_262 mcX1_orderAgainst mvX1_orderAgainst (dq dtX6_compare 17 rfl) (by omega) (Nat.le_of_ble_eq_true rfl) (by repeat (first | assumption | exact up_s | rw [up_n (by first | assumption | (apply Ne.symm; assumption) | decide | omega)])) rfl ?_
    refine ct_X1_orderAgainst xl xr (by omega) xlb xrb (by omega) (fun i hi => by have := bf i hi; omega) (fun i hi => by have := bfb i hi; omega) (by omega) ?_
    refine P.iret (dq dtX6_compare 18 rfl) rfl rfl rfl ?_
    unfold aCmp at h
    repeat (first | rw [if_pos (by omega)] at h | rw [if_neg (by omega)] at h)
    exact h
  · refine P.iload_n (dq dtX6_compare 7 rfl) rfl ?_
    refine P.goto (t := 30) (dq dtX6_compare 8 rfl) rfl ?_
    refine P.iret (dq dtX6_compare 18 rfl) rfl rfl rfl ?_
    unfold aCmp at h
    repeat (first | rw [if_pos (by omega)] at h | rw [if_neg (by omega)] at h)
    exact h
def aTms (S : CSt) (F : FgV) (a : Int) : Int := if rfL S.it a ≠ 0 then rfL S.it a else if S.ln a.toNat = 0 then 0 else tmF (fun i => (tbl S.now.1 F).getD i.toNat 0) (S.lf a.toNat) (S.ln a.toNat).toNat ((tbl S.now.1 F).length - S.ln a.toNat + 1).toNat 0
theorem eqF_c {f f' g : Int → Int} {a : Int} : ∀ (t : Nat) (k : Int), (∀ j : Int, k ≤ j → j < k + t → f (a + j) = f' (a + j)) → eqF f g a t k = eqF f' g a t k := by
  intro t
  induction t with
  | zero => intro k _; rfl
  | succ t ih =>
    intro k h
    show (decide (f (a + k) = g k) && eqF f g a t (k + 1)) = (decide (f' (a + k) = g k) && eqF f' g a t (k + 1))
    rw [h k (by omega) (by omega), ih (k + 1) (fun j h1 h2 => h j (by omega) (by omega))]
theorem tmF_c {f f' g : Int → Int} {m : Nat} : ∀ (t : Nat) (a : Int), (0 < t → ∀ j : Int, a ≤ j → j < a + t + m - 1 → f j = f' j) → tmF f g m t a = tmF f' g m t a := by
  intro t
  induction t with
  | zero => intro a _; rfl
  | succ t ih =>
    intro a h
    show (if eqF f g a m 0 = true then 1 else 0) + tmF f g m t (a + 1) = (if eqF f' g a m 0 = true then 1 else 0) + tmF f' g m t (a + 1)
    rw [ih (a + 1) (fun _ j h1 h2 => h (by omega) j (by omega) (by omega)), eqF_c (f' := f') m 0 (fun j h1 h2 => h (by omega) _ (by omega) (by omega))]
theorem digs_R (v : Int) (hv : 0 ≤ v ∧ v < 10000) : ∀ c ∈ digs v, 0 ≤ c ∧ c ≤ 255 := by
  unfold digs
  intro c hc
  split at hc
  · simp at hc; omega
  · split at hc
    · simp at hc; omega
    · split at hc
      · simp at hc; omega
      · simp at hc; omega
theorem shL_R {co : Int → Int} {s p : Int} (hT : TB co p) (hs : 10 ≤ s ∧ s ≤ 99) (hp : 2 ≤ p ∧ p ≤ 8) : ∀ k : Nat, (k : Int) ≤ p → ∀ c ∈ shL co s k, 0 ≤ c ∧ c ≤ 255 := by
  intro k
  induction k with
  | zero => intro _ c hc; cases hc
  | succ k ih =>
    intro hk c hc
    rw [show shL co s (k + 1) = shL co s k ++ offL co s k from rfl, List.mem_append] at hc
    rcases hc with hc | hc
    · exact ih (by omega) c hc
    · have h1 := hT.1 k (by omega) (by omega)
      have h2 := mul_bd (k := (k : Int)) (s := s) (by omega) (by omega) hs.1 hs.2
      unfold offL at hc
      simp only [List.mem_append, List.mem_singleton] at hc
      rcases hc with (((hc | hc) | hc) | hc) | hc
      · exact digs_R k (by omega) c hc
      · omega
      · split at hc <;> omega
      · exact digs_R _ (by split <;> omega) c hc
      · omega
theorem tbl_R {v : MsV} {F : FgV} (hG : GMs v) (hR : FgR v F) : ∀ c ∈ tbl v F, 0 ≤ c ∧ c ≤ 255 := by
  intro c hc
  unfold tbl shA at hc
  simp only [List.mem_append, List.mem_singleton] at hc
  have hp := hG.1
  rcases hc with (hc | hc) | hc
  · exact shL_R (hR.tb hG) hG.2.1 hG.1 v.1.toNat (by omega) c hc
  · omega
  · exact digs_R _ (by have := plc_b hG; omega) c hc
theorem Rp_R {f : Int → Int} {l : List Int} (h : Rp f l) (hl : ∀ c ∈ l, 0 ≤ c ∧ c ≤ 255) : ∀ i : Int, 0 ≤ i ∧ i < l.length → inR (f i) := by
  intro i hi
  obtain ⟨n, rfl⟩ : ∃ n : Nat, i = n := ⟨i.toNat, by omega⟩
  rw [h n (by omega)]
  have h1 : n < l.length := by omega
  have h2 : l.getD n 0 = l[n] := by simp [List.getD_eq_getElem?_getD, h1]
  rw [h2]
  have := hl _ (List.getElem_mem h1)
  unfold inR
  omega
theorem aTms_1 {S : CSt} {F : FgV} {a : Int} {f : Int → Int} (e : rfL S.it a = 0) (hR : Rp f (tbl S.now.1 F)) (hn : 0 ≤ S.ln a.toNat) : aTms S F a = if S.ln a.toNat = 0 then 0 else tmF f (S.lf a.toNat) (S.ln a.toNat).toNat ((tbl S.now.1 F).length - S.ln a.toNat + 1).toNat 0 := by
  unfold aTms
  rw [if_neg (by omega)]
  by_cases e0 : S.ln a.toNat = 0
  · rw [if_pos e0, if_pos e0]
  · rw [if_neg e0, if_neg e0]
    refine tmF_c _ _ (fun g0 j g1 g2 => ?_)
    have := hR j.toNat (by omega)
    rw [show ((j.toNat : Nat) : Int) = j by omega] at this
    exact this.symm
/-- AxisTable.times -/
theorem cl_times {x : CM} {d N : Nat} {σ : PH} {Q : PQ} {S : CSt} {F : FgV} {sf : Int → Int} (hS : CS σ S) (hFg : CFg σ S.now.1 F sf) (hd : 4 ≤ d) {a : Int} (ha : inR a) (h : Q (some (vI (aTms S F a))) σ) : Call x d 0 0 mX6_times [vR 0, vI a] N σ Q := by
  refine Call.of mcX6_times (Nat.le_of_ble_eq_true rfl) (fun y hy => ?_)
  subst hy
  obtain ⟨hG, hX, hTx, hRd, hNow, hPa, hKe, -, ⟨sv, hSu⟩, hSF, hLa⟩ := id hS
  have x0 := hX.1
  have x1 := hTx.1
  have x2 := hTx.2
  have x7 := hNow.1
  have x8 := hNow.2.1
  have hGm := hG.2.1.1
  have hp := hGm.1
  have hs := hGm.2.1
  obtain ⟨f0, f1, f2, f3, f4, f5, f6, f7, fR⟩ := id hFg.1
  have tB := fR.tb hGm
  have hL9 := mul_bd (k := S.now.1.1 - 1) (s := S.now.1.2.1) (by omega) (by omega) (by omega) (by omega)
  have x69 := hLa.1
  obtain ⟨gl, hgl0, hgl⟩ := hX.2.2.2
  have x66 := hFg.2.1.1
  have x67 := hFg.2.1.2
  have hln : (tbl S.now.1 F).length ≤ 80 := tbl_len _ _ hGm
  refine P.aload_n (dq dtX6_times 0 rfl) rfl ?_
  refine P.iload_n (dq dtX6_times 1 rfl) rfl ?_
  refine P.callV1 (M' := mX6_refusalOfLabel) (d' := d - 1) mlX6_246 mcX6_refusalOfLabel mvX6_refusalOfLabel (dq dtX6_times 2 rfl) (by omega) (Nat.le_of_ble_eq_true rfl) (by repeat (first | assumption | exact up_s | rw [up_n (by first | assumption | (apply Ne.symm; assumption) | decide | omega)])) rfl ?_
  refine ct_refLab hS (by omega) ha ?_
  refine P.istore_n (dq dtX6_times 3 rfl) (by decide) rfl rfl ?_
  refine P.iload_n (dq dtX6_times 4 rfl) rfl ?_
  refine P.if_eq (t := 14) (dq dtX6_times 5 rfl) rfl (rfL_b _ _) (fun c_7 => ?_) (fun c_7 => ?_)
  · obtain ⟨e8, e9⟩ := rfL_0 c_7
    have hl := hLa.2 a.toNat (by omega)
    have xl := hl.1
    have xr := hl.2
    have gla := hgl a (by omega) (by omega)
    obtain ⟨bn, bf⟩ := hG.2.2.2.2.2 a.toNat (by omega)
    refine P.aload_n (dq dtX6_times 8 rfl) rfl ?_
    refine P.get flX6_64 (dq dtX6_times 9 rfl) (by repeat (first | assumption | exact up_s | rw [up_n (by first | assumption | (apply Ne.symm; assumption) | decide | omega)])) (by rfl) ?_
    refine P.aload_n (dq dtX6_times 10 rfl) rfl ?_
    refine P.get flX6_67 (dq dtX6_times 11 rfl) (by repeat (first | assumption | exact up_s | rw [up_n (by first | assumption | (apply Ne.symm; assumption) | decide | omega)])) (by rfl) ?_
    refine P.iload_n (dq dtX6_times 12 rfl) rfl ?_
    refine P.aald (dq dtX6_times 13 rfl) (by repeat (first | assumption | exact up_s | rw [up_n (by first | assumption | (apply Ne.symm; assumption) | decide | omega)])) (by decide) (by omega) (by omega) (by omega) gla ?_
    refine P.callV1 (M' := mX1_timesOf) (d' := d - 1) mlX6_266 mcX1_timesOf mvX1_timesOf (dq dtX6_times 14 rfl) (by omega) (Nat.le_of_ble_eq_true rfl) (by repeat (first | assumption | exact up_s | rw [up_n (by first | assumption | (apply Ne.symm; assumption) | decide | omega)])) rfl ?_
    refine ct_X1_timesOf x66 x67 (by omega) xl xr (by omega) (Rp_R hFg.2.2 (tbl_R hGm fR)) (fun i hi => by have := bf i hi; omega) (by omega) ?_
    refine P.iret (dq dtX6_times 15 rfl) rfl rfl rfl ?_
    first | (unfold aTms at h; rw [if_pos (by omega)] at h; exact h) | (rw [aTms_1 c_7 hFg.2.2 bn.1] at h; exact h)
  · refine P.iload_n (dq dtX6_times 6 rfl) rfl ?_
    refine P.goto (t := 27) (dq dtX6_times 7 rfl) rfl ?_
    refine P.iret (dq dtX6_times 15 rfl) rfl rfl rfl ?_
    first | (unfold aTms at h; rw [if_pos (by omega)] at h; exact h) | (rw [aTms_1 c_7 hFg.2.2 bn.1] at h; exact h)
def aWrd (S : CSt) (a : Int) : Int := if rfL S.it a ≠ 0 then rfL S.it a else wdF (S.lf a.toNat) 0 (S.ln a.toNat)
/-- AxisTable.word -/
theorem cl_word {x : CM} {d N : Nat} {σ : PH} {Q : PQ} {S : CSt} (hS : CS σ S) (hd : 6 ≤ d) {a : Int} (ha : inR a) (h : Q (some (vI (aWrd S a))) σ) : Call x d 0 0 mX6_word [vR 0, vI a] N σ Q := by
  refine Call.of mcX6_word (Nat.le_of_ble_eq_true rfl) (fun y hy => ?_)
  subst hy
  obtain ⟨hG, hX, hTx, hRd, hNow, hPa, hKe, ⟨F, sf, hFg⟩, ⟨sv, hSu⟩, hSF, hLa⟩ := id hS
  have x0 := hX.1
  have x1 := hTx.1
  have x2 := hTx.2
  have x7 := hNow.1
  have x8 := hNow.2.1
  have hGm := hG.2.1.1
  have hp := hGm.1
  have hs := hGm.2.1
  obtain ⟨f0, f1, f2, f3, f4, f5, f6, f7, fR⟩ := id hFg.1
  have tB := fR.tb hGm
  have hL9 := mul_bd (k := S.now.1.1 - 1) (s := S.now.1.2.1) (by omega) (by omega) (by omega) (by omega)
  have x69 := hLa.1
  obtain ⟨gl, hgl0, hgl⟩ := hX.2.2.2
  refine P.aload_n (dq dtX6_word 0 rfl) rfl ?_
  refine P.iload_n (dq dtX6_word 1 rfl) rfl ?_
  refine P.callV1 (M' := mX6_refusalOfLabel) (d' := d - 1) mlX6_246 mcX6_refusalOfLabel mvX6_refusalOfLabel (dq dtX6_word 2 rfl) (by omega) (Nat.le_of_ble_eq_true rfl) (by repeat (first | assumption | exact up_s | rw [up_n (by first | assumption | (apply Ne.symm; assumption) | decide | omega)])) rfl ?_
  refine ct_refLab hS (by omega) ha ?_
  refine P.istore_n (dq dtX6_word 3 rfl) (by decide) rfl rfl ?_
  refine P.iload_n (dq dtX6_word 4 rfl) rfl ?_
  refine P.if_eq (t := 14) (dq dtX6_word 5 rfl) rfl (rfL_b _ _) (fun c_7 => ?_) (fun c_7 => ?_)
  · obtain ⟨e8, e9⟩ := rfL_0 c_7
    have hl := hLa.2 a.toNat (by omega)
    have xl := hl.1
    have xr := hl.2
    have gla := hgl a (by omega) (by omega)
    obtain ⟨bn, bf⟩ := hG.2.2.2.2.2 a.toNat (by omega)
    refine P.aload_n (dq dtX6_word 8 rfl) rfl ?_
    refine P.get flX6_67 (dq dtX6_word 9 rfl) (by repeat (first | assumption | exact up_s | rw [up_n (by first | assumption | (apply Ne.symm; assumption) | decide | omega)])) (by rfl) ?_
    refine P.iload_n (dq dtX6_word 10 rfl) rfl ?_
    refine P.aald (dq dtX6_word 11 rfl) (by repeat (first | assumption | exact up_s | rw [up_n (by first | assumption | (apply Ne.symm; assumption) | decide | omega)])) (by decide) (by omega) (by omega) (by omega) gla ?_
    refine P.iconst (dq dtX6_word 12 rfl) ?_
    refine P.aload_n (dq dtX6_word 13 rfl) rfl ?_
    refine P.get flX6_67 (dq dtX6_word 14 rfl) (by repeat (first | assumption | exact up_s | rw [up_n (by first | assumption | (apply Ne.symm; assumption) | decide | omega)])) (by rfl) ?_
    refine P.iload_n (dq dtX6_word 15 rfl) rfl ?_
    refine P.aald (dq dtX6_word 16 rfl) (by repeat (first | assumption | exact up_s | rw [up_n (by first | assumption | (apply Ne.symm; assumption) | decide | omega)])) (by decide) (by omega) (by omega) (by omega) gla ?_
    refine P.get flX6_86 (dq dtX6_word 17 rfl) (by repeat (first | assumption | exact up_s | rw [up_n (by first | assumption | (apply Ne.symm; assumption) | decide | omega)])) (by rfl) ?_
    refine P.callV2 (M' := mX1_wordIn) (d' := d - 1) mlX6_269 mcX1_wordIn mvX1_wordIn (dq dtX6_word 18 rfl) (by omega) (Nat.le_of_ble_eq_true rfl) (by repeat (first | assumption | exact up_s | rw [up_n (by first | assumption | (apply Ne.symm; assumption) | decide | omega)])) rfl ?_
    refine ct_X1_wordIn xl xr (by omega) (fun i hi => by have := bf i hi; omega) (by omega) (by omega) ?_
    refine P.iret (dq dtX6_word 19 rfl) rfl rfl rfl ?_
    unfold aWrd at h
    repeat (first | rw [if_pos (by omega)] at h | rw [if_neg (by omega)] at h)
    exact h
  · refine P.iload_n (dq dtX6_word 6 rfl) rfl ?_
    refine P.goto (t := 33) (dq dtX6_word 7 rfl) rfl ?_
    refine P.iret (dq dtX6_word 19 rfl) rfl rfl rfl ?_
    unfold aWrd at h
    repeat (first | rw [if_pos (by omega)] at h | rw [if_neg (by omega)] at h)
    exact h
def ngV (f : Int → Int) (n : Int) : Int := if 0 < n ∧ f 0 = 45 then 1 else 0
def nmV (f : Int → Int) (n : Int) : Int := if ngV f n < n ∧ n - ngV f n ≤ 4 then dgF f (n - ngV f n).toNat (ngV f n) 0 else -1
def aVal (S : CSt) (a : Int) : Int := if rfL S.it a ≠ 0 then rfL S.it a else if nmV (S.lf a.toNat) (S.ln a.toNat) = -1 then -100014 else if ngV (S.lf a.toNat) (S.ln a.toNat) = 1 then -(nmV (S.lf a.toNat) (S.ln a.toNat)) else nmV (S.lf a.toNat) (S.ln a.toNat)
theorem dgF_R {f : Int → Int} : ∀ (t : Nat) (k v : Int), t ≤ 4 → (0 ≤ v ∧ v < 100000) → (v = 0 ∨ t ≤ 3) → (v < 10 ∨ t ≤ 2) → (v < 100 ∨ t ≤ 1) → (v < 1000 ∨ t = 0) → -1 ≤ dgF f t k v ∧ dgF f t k v < 100000 := by
  intro t
  induction t with
  | zero => intro k v _ h _ _ _ _; show -1 ≤ v ∧ v < 100000; omega
  | succ t ih =>
    intro k v h1 h2 h3 h4 h5 h6
    show -1 ≤ (if 48 ≤ f k ∧ f k ≤ 57 then dgF f t (k + 1) (10 * v + f k - 48) else -1) ∧ (if 48 ≤ f k ∧ f k ≤ 57 then dgF f t (k + 1) (10 * v + f k - 48) else -1) < 100000
    split
    · exact ih _ _ (by omega) (by omega) (by omega) (by omega) (by omega) (by omega)
    · omega
theorem dgF_R2 {f : Int → Int} {t : Nat} {k : Int} (h : t ≤ 4) : inR (dgF f t k 0) := by
  have := dgF_R (f := f) t k 0 h (by omega) (by omega) (by omega) (by omega) (by omega)
  unfold inR
  omega
theorem ngV_0 {f : Int → Int} {n : Int} (h : ¬ (0 < n ∧ f 0 = 45)) : ngV f n = 0 := if_neg h
theorem ngV_1 {f : Int → Int} {n : Int} (h : 0 < n ∧ f 0 = 45) : ngV f n = 1 := if_pos h
theorem aVal_n {S : CSt} {a g : Int} (e : rfL S.it a = 0) (hg : ngV (S.lf a.toNat) (S.ln a.toNat) = g) (hx : ¬ (g < S.ln a.toNat ∧ S.ln a.toNat - g ≤ 4) ∨ dgF (S.lf a.toNat) (S.ln a.toNat - g).toNat g 0 = -1) : aVal S a = -100014 := by
  unfold aVal
  rw [if_neg (by omega)]
  refine if_pos ?_
  unfold nmV
  rw [hg]
  rcases hx with hx | hx
  · exact if_neg hx
  · rw [hx]; split <;> rfl
theorem aVal_y {S : CSt} {a g : Int} (e : rfL S.it a = 0) (hg : ngV (S.lf a.toNat) (S.ln a.toNat) = g) (hx : g < S.ln a.toNat ∧ S.ln a.toNat - g ≤ 4) (hy : dgF (S.lf a.toNat) (S.ln a.toNat - g).toNat g 0 ≠ -1) : aVal S a = if g = 1 then -(dgF (S.lf a.toNat) (S.ln a.toNat - g).toNat g 0) else dgF (S.lf a.toNat) (S.ln a.toNat - g).toNat g 0 := by
  have en : nmV (S.lf a.toNat) (S.ln a.toNat) = dgF (S.lf a.toNat) (S.ln a.toNat - g).toNat g 0 := by
    unfold nmV
    rw [hg]
    exact if_pos hx
  unfold aVal
  rw [if_neg (by omega), en, if_neg hy, hg]
/-- AxisTable.value -/
theorem cl_value {x : CM} {d N : Nat} {σ : PH} {Q : PQ} {S : CSt} (hS : CS σ S) (hd : 3 ≤ d) {a : Int} (ha : inR a) (h : Q (some (vI (aVal S a))) σ) : Call x d 0 0 mX6_value [vR 0, vI a] N σ Q := by
  refine Call.of mcX6_value (Nat.le_of_ble_eq_true rfl) (fun y hy => ?_)
  subst hy
  obtain ⟨hG, hX, hTx, hRd, hNow, hPa, hKe, ⟨F, sf, hFg⟩, ⟨sv, hSu⟩, hSF, hLa⟩ := id hS
  have x0 := hX.1
  have x1 := hTx.1
  have x2 := hTx.2
  have x7 := hNow.1
  have x8 := hNow.2.1
  have hGm := hG.2.1.1
  have hp := hGm.1
  have hs := hGm.2.1
  obtain ⟨f0, f1, f2, f3, f4, f5, f6, f7, fR⟩ := id hFg.1
  have tB := fR.tb hGm
  have hL9 := mul_bd (k := S.now.1.1 - 1) (s := S.now.1.2.1) (by omega) (by omega) (by omega) (by omega)
  have x69 := hLa.1
  obtain ⟨gl, hgl0, hgl⟩ := hX.2.2.2
  refine P.aload_n (dq dtX6_value 0 rfl) rfl ?_
  refine P.iload_n (dq dtX6_value 1 rfl) rfl ?_
  refine P.callV1 (M' := mX6_refusalOfLabel) (d' := d - 1) mlX6_246 mcX6_refusalOfLabel mvX6_refusalOfLabel (dq dtX6_value 2 rfl) (by omega) (Nat.le_of_ble_eq_true rfl) (by repeat (first | assumption | exact up_s | rw [up_n (by first | assumption | (apply Ne.symm; assumption) | decide | omega)])) rfl ?_
  refine ct_refLab hS (by omega) ha ?_
  refine P.istore_n (dq dtX6_value 3 rfl) (by decide) rfl rfl ?_
  refine P.iload_n (dq dtX6_value 4 rfl) rfl ?_
  refine P.if_eq (t := 12) (dq dtX6_value 5 rfl) rfl (rfL_b _ _) (fun c_7 => ?_) (fun c_7 => ?_)
  · obtain ⟨e8, e9⟩ := rfL_0 c_7
    have hl := hLa.2 a.toNat (by omega)
    have xl := hl.1
    have xr := hl.2
    have gla := hgl a (by omega) (by omega)
    obtain ⟨bn, bf⟩ := hG.2.2.2.2.2 a.toNat (by omega)
    refine P.aload_n (dq dtX6_value 8 rfl) rfl ?_
    refine P.get flX6_67 (dq dtX6_value 9 rfl) (by repeat (first | assumption | exact up_s | rw [up_n (by first | assumption | (apply Ne.symm; assumption) | decide | omega)])) (by rfl) ?_
    refine P.iload_n (dq dtX6_value 10 rfl) rfl ?_
    refine P.aald (dq dtX6_value 11 rfl) (by repeat (first | assumption | exact up_s | rw [up_n (by first | assumption | (apply Ne.symm; assumption) | decide | omega)])) (by decide) (by omega) (by omega) (by omega) gla ?_
    refine P.iconst (dq dtX6_value 12 rfl) ?_
    refine P.callV1 (M' := mX1_at) (d' := d - 1) mlX6_232 mcX1_at mvX1_at (dq dtX6_value 13 rfl) (by omega) (Nat.le_of_ble_eq_true rfl) (by repeat (first | assumption | exact up_s | rw [up_n (by first | assumption | (apply Ne.symm; assumption) | decide | omega)])) rfl ?_
    refine ct_X1_at xl xr (by omega) (by omega) (fun n_19 => ?_) (fun n_19 => ?_)
    · first | have bf0 := bf 0 n_19 | skip
      refine P.bipush (dq dtX6_value 14 rfl) rfl ?_
      refine P.icmp_ne (t := 31) (dq dtX6_value 15 rfl) rfl (by omega) (by omega) (fun c_24 => ?_) (fun c_24 => ?_)
      · refine P.iconst (dq dtX6_value 18 rfl) ?_
        refine P.istore_n (dq dtX6_value 19 rfl) (by decide) rfl rfl ?_
        refine P.aload_n (dq dtX6_value 20 rfl) rfl ?_
        refine P.get flX6_67 (dq dtX6_value 21 rfl) (by repeat (first | assumption | exact up_s | rw [up_n (by first | assumption | (apply Ne.symm; assumption) | decide | omega)])) (by rfl) ?_
        refine P.iload_n (dq dtX6_value 22 rfl) rfl ?_
        refine P.aald (dq dtX6_value 23 rfl) (by repeat (first | assumption | exact up_s | rw [up_n (by first | assumption | (apply Ne.symm; assumption) | decide | omega)])) (by decide) (by omega) (by omega) (by omega) gla ?_
        refine P.iload_n (dq dtX6_value 24 rfl) rfl ?_
        refine P.if_eq (t := 47) (dq dtX6_value 25 rfl) rfl (by omega) (fun _ => ?_) (fun h9 => absurd h9 (by decide))
        refine P.iconst (dq dtX6_value 28 rfl) ?_
        refine P.aload_n (dq dtX6_value 29 rfl) rfl ?_
        refine P.get flX6_67 (dq dtX6_value 30 rfl) (by repeat (first | assumption | exact up_s | rw [up_n (by first | assumption | (apply Ne.symm; assumption) | decide | omega)])) (by rfl) ?_
        refine P.iload_n (dq dtX6_value 31 rfl) rfl ?_
        refine P.aald (dq dtX6_value 32 rfl) (by repeat (first | assumption | exact up_s | rw [up_n (by first | assumption | (apply Ne.symm; assumption) | decide | omega)])) (by decide) (by omega) (by omega) (by omega) gla ?_
        refine P.get flX6_86 (dq dtX6_value 33 rfl) (by repeat (first | assumption | exact up_s | rw [up_n (by first | assumption | (apply Ne.symm; assumption) | decide | omega)])) (by rfl) ?_
        refine P.iconst (dq dtX6_value 34 rfl) ?_
        refine P.callV3 (M' := mX1_numberIn) (d' := d - 1) mlX6_272 mcX1_numberIn mvX1_numberIn (dq dtX6_value 35 rfl) (by omega) (Nat.le_of_ble_eq_true rfl) (by repeat (first | assumption | exact up_s | rw [up_n (by first | assumption | (apply Ne.symm; assumption) | decide | omega)])) rfl ?_
        refine ct_X1_numberIn xl xr (by omega) (fun i hi => by have := bf i hi; omega) (by omega) (by omega) (by omega) (fun n_58 => ?_) (fun n_58 => ?_)
        · refine P.istore (dq dtX6_value 36 rfl) (by decide) rfl rfl ?_
          refine P.iload (dq dtX6_value 37 rfl) rfl ?_
          refine P.iconst (dq dtX6_value 38 rfl) ?_
          refine P.icmp_ne (t := 73) (dq dtX6_value 39 rfl) rfl (by first | exact dgF_R2 (by omega) | omega) (by omega) (fun h9 => absurd h9 (by decide)) (fun _ => ?_)
          refine P.ldcw (n := -100014) (dq dtX6_value 40 rfl) kcX6_275 rfl ?_
          refine P.iret (dq dtX6_value 41 rfl) rfl rfl rfl ?_
          first | exact cgQ h (aVal_n c_7 (ngV_0 (by omega)) (by first | exact Or.inl n_58 | exact Or.inr (by assumption))) | exact cgQ h (aVal_n c_7 (ngV_1 (by omega)) (by first | exact Or.inl n_58 | exact Or.inr (by assumption)))
        · refine P.istore (dq dtX6_value 36 rfl) (by decide) rfl rfl ?_
          refine P.iload (dq dtX6_value 37 rfl) rfl ?_
          refine P.iconst (dq dtX6_value 38 rfl) ?_
          refine P.icmp_ne (t := 73) (dq dtX6_value 39 rfl) rfl (by first | exact dgF_R2 (by omega) | omega) (by omega) (fun c_66 => ?_) (fun c_66 => ?_)
          · refine P.iload_n (dq dtX6_value 42 rfl) rfl ?_
            refine P.if_eq (t := 83) (dq dtX6_value 43 rfl) rfl (by omega) (fun _ => ?_) (fun h9 => absurd h9 (by decide))
            refine P.iload (dq dtX6_value 47 rfl) rfl ?_
            refine P.iret (dq dtX6_value 48 rfl) rfl rfl rfl ?_
            first | exact cgQ h (aVal_y c_7 (ngV_0 (by omega)) n_58 c_66) | exact cgQ h (aVal_y c_7 (ngV_1 (by omega)) n_58 c_66)
          · refine P.ldcw (n := -100014) (dq dtX6_value 40 rfl) kcX6_275 rfl ?_
            refine P.iret (dq dtX6_value 41 rfl) rfl rfl rfl ?_
            first | exact cgQ h (aVal_n c_7 (ngV_0 (by omega)) (by first | exact Or.inl n_58 | exact Or.inr (by assumption))) | exact cgQ h (aVal_n c_7 (ngV_1 (by omega)) (by first | exact Or.inl n_58 | exact Or.inr (by assumption)))
      · refine P.iconst (dq dtX6_value 16 rfl) ?_
        refine P.goto (t := 32) (dq dtX6_value 17 rfl) rfl ?_
        refine P.istore_n (dq dtX6_value 19 rfl) (by decide) rfl rfl ?_
        refine P.aload_n (dq dtX6_value 20 rfl) rfl ?_
        refine P.get flX6_67 (dq dtX6_value 21 rfl) (by repeat (first | assumption | exact up_s | rw [up_n (by first | assumption | (apply Ne.symm; assumption) | decide | omega)])) (by rfl) ?_
        refine P.iload_n (dq dtX6_value 22 rfl) rfl ?_
        refine P.aald (dq dtX6_value 23 rfl) (by repeat (first | assumption | exact up_s | rw [up_n (by first | assumption | (apply Ne.symm; assumption) | decide | omega)])) (by decide) (by omega) (by omega) (by omega) gla ?_
        refine P.iload_n (dq dtX6_value 24 rfl) rfl ?_
        refine P.if_eq (t := 47) (dq dtX6_value 25 rfl) rfl (by omega) (fun h9 => absurd h9 (by decide)) (fun _ => ?_)
        refine P.iconst (dq dtX6_value 26 rfl) ?_
        refine P.goto (t := 48) (dq dtX6_value 27 rfl) rfl ?_
        refine P.aload_n (dq dtX6_value 29 rfl) rfl ?_
        refine P.get flX6_67 (dq dtX6_value 30 rfl) (by repeat (first | assumption | exact up_s | rw [up_n (by first | assumption | (apply Ne.symm; assumption) | decide | omega)])) (by rfl) ?_
        refine P.iload_n (dq dtX6_value 31 rfl) rfl ?_
        refine P.aald (dq dtX6_value 32 rfl) (by repeat (first | assumption | exact up_s | rw [up_n (by first | assumption | (apply Ne.symm; assumption) | decide | omega)])) (by decide) (by omega) (by omega) (by omega) gla ?_
        refine P.get flX6_86 (dq dtX6_value 33 rfl) (by repeat (first | assumption | exact up_s | rw [up_n (by first | assumption | (apply Ne.symm; assumption) | decide | omega)])) (by rfl) ?_
        refine P.iconst (dq dtX6_value 34 rfl) ?_
        refine P.callV3 (M' := mX1_numberIn) (d' := d - 1) mlX6_272 mcX1_numberIn mvX1_numberIn (dq dtX6_value 35 rfl) (by omega) (Nat.le_of_ble_eq_true rfl) (by repeat (first | assumption | exact up_s | rw [up_n (by first | assumption | (apply Ne.symm; assumption) | decide | omega)])) rfl ?_
        refine ct_X1_numberIn xl xr (by omega) (fun i hi => by have := bf i hi; omega) (by omega) (by omega) (by omega) (fun n_58 => ?_) (fun n_58 => ?_)
        · refine P.istore (dq dtX6_value 36 rfl) (by decide) rfl rfl ?_
          refine P.iload (dq dtX6_value 37 rfl) rfl ?_
          refine P.iconst (dq dtX6_value 38 rfl) ?_
          refine P.icmp_ne (t := 73) (dq dtX6_value 39 rfl) rfl (by first | exact dgF_R2 (by omega) | omega) (by omega) (fun h9 => absurd h9 (by decide)) (fun _ => ?_)
          refine P.ldcw (n := -100014) (dq dtX6_value 40 rfl) kcX6_275 rfl ?_
          refine P.iret (dq dtX6_value 41 rfl) rfl rfl rfl ?_
          first | exact cgQ h (aVal_n c_7 (ngV_0 (by omega)) (by first | exact Or.inl n_58 | exact Or.inr (by assumption))) | exact cgQ h (aVal_n c_7 (ngV_1 (by omega)) (by first | exact Or.inl n_58 | exact Or.inr (by assumption)))
        · refine P.istore (dq dtX6_value 36 rfl) (by decide) rfl rfl ?_
          refine P.iload (dq dtX6_value 37 rfl) rfl ?_
          refine P.iconst (dq dtX6_value 38 rfl) ?_
          refine P.icmp_ne (t := 73) (dq dtX6_value 39 rfl) rfl (by first | exact dgF_R2 (by omega) | omega) (by omega) (fun c_66 => ?_) (fun c_66 => ?_)
          · refine P.iload_n (dq dtX6_value 42 rfl) rfl ?_
            refine P.if_eq (t := 83) (dq dtX6_value 43 rfl) rfl (by omega) (fun h9 => absurd h9 (by decide)) (fun _ => ?_)
            refine P.iload (dq dtX6_value 44 rfl) rfl ?_
            refine P.ineg (dq dtX6_value 45 rfl) ?_
            refine P.goto (t := 85) (dq dtX6_value 46 rfl) rfl ?_
            refine P.iret (dq dtX6_value 48 rfl) rfl rfl rfl ?_
            first | exact cgQ h (aVal_y c_7 (ngV_0 (by omega)) n_58 c_66) | exact cgQ h (aVal_y c_7 (ngV_1 (by omega)) n_58 c_66)
          · refine P.ldcw (n := -100014) (dq dtX6_value 40 rfl) kcX6_275 rfl ?_
            refine P.iret (dq dtX6_value 41 rfl) rfl rfl rfl ?_
            first | exact cgQ h (aVal_n c_7 (ngV_0 (by omega)) (by first | exact Or.inl n_58 | exact Or.inr (by assumption))) | exact cgQ h (aVal_n c_7 (ngV_1 (by omega)) (by first | exact Or.inl n_58 | exact Or.inr (by assumption)))
    · first | have bf0 := bf 0 n_19 | skip
      refine P.bipush (dq dtX6_value 14 rfl) rfl ?_
      refine P.icmp_ne (t := 31) (dq dtX6_value 15 rfl) rfl (by omega) (by omega) (fun _ => ?_) (fun h9 => absurd h9 (by decide))
      refine P.iconst (dq dtX6_value 18 rfl) ?_
      refine P.istore_n (dq dtX6_value 19 rfl) (by decide) rfl rfl ?_
      refine P.aload_n (dq dtX6_value 20 rfl) rfl ?_
      refine P.get flX6_67 (dq dtX6_value 21 rfl) (by repeat (first | assumption | exact up_s | rw [up_n (by first | assumption | (apply Ne.symm; assumption) | decide | omega)])) (by rfl) ?_
      refine P.iload_n (dq dtX6_value 22 rfl) rfl ?_
      refine P.aald (dq dtX6_value 23 rfl) (by repeat (first | assumption | exact up_s | rw [up_n (by first | assumption | (apply Ne.symm; assumption) | decide | omega)])) (by decide) (by omega) (by omega) (by omega) gla ?_
      refine P.iload_n (dq dtX6_value 24 rfl) rfl ?_
      refine P.if_eq (t := 47) (dq dtX6_value 25 rfl) rfl (by omega) (fun _ => ?_) (fun h9 => absurd h9 (by decide))
      refine P.iconst (dq dtX6_value 28 rfl) ?_
      refine P.aload_n (dq dtX6_value 29 rfl) rfl ?_
      refine P.get flX6_67 (dq dtX6_value 30 rfl) (by repeat (first | assumption | exact up_s | rw [up_n (by first | assumption | (apply Ne.symm; assumption) | decide | omega)])) (by rfl) ?_
      refine P.iload_n (dq dtX6_value 31 rfl) rfl ?_
      refine P.aald (dq dtX6_value 32 rfl) (by repeat (first | assumption | exact up_s | rw [up_n (by first | assumption | (apply Ne.symm; assumption) | decide | omega)])) (by decide) (by omega) (by omega) (by omega) gla ?_
      refine P.get flX6_86 (dq dtX6_value 33 rfl) (by repeat (first | assumption | exact up_s | rw [up_n (by first | assumption | (apply Ne.symm; assumption) | decide | omega)])) (by rfl) ?_
      refine P.iconst (dq dtX6_value 34 rfl) ?_
      refine P.callV3 (M' := mX1_numberIn) (d' := d - 1) mlX6_272 mcX1_numberIn mvX1_numberIn (dq dtX6_value 35 rfl) (by omega) (Nat.le_of_ble_eq_true rfl) (by repeat (first | assumption | exact up_s | rw [up_n (by first | assumption | (apply Ne.symm; assumption) | decide | omega)])) rfl ?_
      refine ct_X1_numberIn xl xr (by omega) (fun i hi => by have := bf i hi; omega) (by omega) (by omega) (by omega) (fun n_58 => ?_) (fun n_58 => ?_)
      · refine P.istore (dq dtX6_value 36 rfl) (by decide) rfl rfl ?_
        refine P.iload (dq dtX6_value 37 rfl) rfl ?_
        refine P.iconst (dq dtX6_value 38 rfl) ?_
        refine P.icmp_ne (t := 73) (dq dtX6_value 39 rfl) rfl (by first | exact dgF_R2 (by omega) | omega) (by omega) (fun h9 => absurd h9 (by decide)) (fun _ => ?_)
        refine P.ldcw (n := -100014) (dq dtX6_value 40 rfl) kcX6_275 rfl ?_
        refine P.iret (dq dtX6_value 41 rfl) rfl rfl rfl ?_
        first | exact cgQ h (aVal_n c_7 (ngV_0 (by omega)) (by first | exact Or.inl n_58 | exact Or.inr (by assumption))) | exact cgQ h (aVal_n c_7 (ngV_1 (by omega)) (by first | exact Or.inl n_58 | exact Or.inr (by assumption)))
      · refine P.istore (dq dtX6_value 36 rfl) (by decide) rfl rfl ?_
        refine P.iload (dq dtX6_value 37 rfl) rfl ?_
        refine P.iconst (dq dtX6_value 38 rfl) ?_
        refine P.icmp_ne (t := 73) (dq dtX6_value 39 rfl) rfl (by first | exact dgF_R2 (by omega) | omega) (by omega) (fun c_66 => ?_) (fun c_66 => ?_)
        · refine P.iload_n (dq dtX6_value 42 rfl) rfl ?_
          refine P.if_eq (t := 83) (dq dtX6_value 43 rfl) rfl (by omega) (fun _ => ?_) (fun h9 => absurd h9 (by decide))
          refine P.iload (dq dtX6_value 47 rfl) rfl ?_
          refine P.iret (dq dtX6_value 48 rfl) rfl rfl rfl ?_
          first | exact cgQ h (aVal_y c_7 (ngV_0 (by omega)) n_58 c_66) | exact cgQ h (aVal_y c_7 (ngV_1 (by omega)) n_58 c_66)
        · refine P.ldcw (n := -100014) (dq dtX6_value 40 rfl) kcX6_275 rfl ?_
          refine P.iret (dq dtX6_value 41 rfl) rfl rfl rfl ?_
          first | exact cgQ h (aVal_n c_7 (ngV_0 (by omega)) (by first | exact Or.inl n_58 | exact Or.inr (by assumption))) | exact cgQ h (aVal_n c_7 (ngV_1 (by omega)) (by first | exact Or.inl n_58 | exact Or.inr (by assumption)))
  · refine P.iload_n (dq dtX6_value 6 rfl) rfl ?_
    refine P.iret (dq dtX6_value 7 rfl) rfl rfl rfl ?_
    unfold aVal at h
    repeat (first | rw [if_pos (by omega)] at h | rw [if_neg (by omega)] at h)
    exact h
def aDrp (S : CSt) (a : Int) : Int := if rfL S.it a ≠ 0 then rfL S.it a else S.ln a.toNat
def sDrp (S : CSt) (a : Int) : CSt := if rfL S.it a = 0 then sLab S (upI S.it a 0) (upN S.ln a.toNat (S.ln a.toNat)) (upN S.lf a.toNat (S.lf a.toNat)) else S
/-- AxisTable.drop -/
theorem cl_drop {x : CM} {d N : Nat} {σ : PH} {Q : PQ} {S : CSt} (hS : CS σ S) (hd : 2 ≤ d) {a : Int} (ha : inR a) (h : ∀ σ' : PH, CS σ' (sDrp S a) → FrC σ σ' → Q (some (vI (aDrp S a))) σ') : Call x d 0 0 mX6_drop [vR 0, vI a] N σ Q := by
  refine Call.of mcX6_drop (Nat.le_of_ble_eq_true rfl) (fun y hy => ?_)
  subst hy
  obtain ⟨hG, hX, hTx, hRd, hNow, hPa, hKe, ⟨F, sf, hFg⟩, ⟨sv, hSu⟩, hSF, hLa⟩ := id hS
  have x0 := hX.1
  have x1 := hTx.1
  have x2 := hTx.2
  have x7 := hNow.1
  have x8 := hNow.2.1
  have hGm := hG.2.1.1
  have hp := hGm.1
  have hs := hGm.2.1
  obtain ⟨f0, f1, f2, f3, f4, f5, f6, f7, fR⟩ := id hFg.1
  have tB := fR.tb hGm
  have hL9 := mul_bd (k := S.now.1.1 - 1) (s := S.now.1.2.1) (by omega) (by omega) (by omega) (by omega)
  have x69 := hLa.1
  obtain ⟨gl, hgl0, hgl⟩ := hX.2.2.2
  refine P.aload_n (dq dtX6_drop 0 rfl) rfl ?_
  refine P.iload_n (dq dtX6_drop 1 rfl) rfl ?_
  refine P.callV1 (M' := mX6_refusalOfLabel) (d' := d - 1) mlX6_246 mcX6_refusalOfLabel mvX6_refusalOfLabel (dq dtX6_drop 2 rfl) (by omega) (Nat.le_of_ble_eq_true rfl) (by repeat (first | assumption | exact up_s | rw [up_n (by first | assumption | (apply Ne.symm; assumption) | decide | omega)])) rfl ?_
  refine ct_refLab hS (by omega) ha ?_
  refine P.istore_n (dq dtX6_drop 3 rfl) (by decide) rfl rfl ?_
  refine P.iload_n (dq dtX6_drop 4 rfl) rfl ?_
  refine P.if_eq (t := 12) (dq dtX6_drop 5 rfl) rfl (rfL_b _ _) (fun c_7 => ?_) (fun c_7 => ?_)
  · obtain ⟨e8, e9⟩ := rfL_0 c_7
    have hl := hLa.2 a.toNat (by omega)
    have xl := hl.1
    have xr := hl.2
    have gla := hgl a (by omega) (by omega)
    obtain ⟨bn, bf⟩ := hG.2.2.2.2.2 a.toNat (by omega)
    refine P.aload_n (dq dtX6_drop 8 rfl) rfl ?_
    refine P.get flX6_71 (dq dtX6_drop 9 rfl) (by repeat (first | assumption | exact up_s | rw [up_n (by first | assumption | (apply Ne.symm; assumption) | decide | omega)])) (by rfl) ?_
    refine P.iload_n (dq dtX6_drop 10 rfl) rfl ?_
    refine P.iconst (dq dtX6_drop 11 rfl) ?_
    refine P.zast (dq dtX6_drop 12 rfl) (by repeat (first | assumption | exact up_s | rw [up_n (by first | assumption | (apply Ne.symm; assumption) | decide | omega)])) (by omega) (by omega) (by omega) (by decide) ?_
    refine P.aload_n (dq dtX6_drop 13 rfl) rfl ?_
    refine P.get flX6_67 (dq dtX6_drop 14 rfl) (by repeat (first | assumption | exact up_s | rw [up_n (by first | assumption | (apply Ne.symm; assumption) | decide | omega)])) (by rfl) ?_
    refine P.iload_n (dq dtX6_drop 15 rfl) rfl ?_
    refine P.aald (dq dtX6_drop 16 rfl) (by repeat (first | assumption | exact up_s | rw [up_n (by first | assumption | (apply Ne.symm; assumption) | decide | omega)])) (by decide) (by omega) (by omega) (by omega) gla ?_
    refine P.get flX6_86 (dq dtX6_drop 17 rfl) (by repeat (first | assumption | exact up_s | rw [up_n (by first | assumption | (apply Ne.symm; assumption) | decide | omega)])) (by rfl) ?_
    refine P.iret (dq dtX6_drop 18 rfl) rfl rfl rfl ?_
    have e1 : sDrp S a = sLab S (upI S.it a 0) (upN S.ln a.toNat (S.ln a.toNat)) (upN S.lf a.toNat (S.lf a.toNat)) := if_pos (by omega)
    rw [e1] at h
    unfold aDrp at h
    repeat (first | rw [if_pos (by omega)] at h | rw [if_neg (by omega)] at h)
    refine CS.labQ h hS (l := a.toNat) (it := upI S.it a 0) (n := S.ln a.toNat) (f := S.lf a.toNat) (by omega) (by repeat (first | assumption | exact Fr.rf | refine Fr.up ?_ (by simp))) (by repeat (first | assumption | exact up_s | rw [up_n (by first | assumption | (apply Ne.symm; assumption) | decide | omega)])) (it_up hG.2.2.2.2.1 (by exact Or.inl rfl)) ⟨(by repeat (first | assumption | exact up_s | rw [up_n (by first | assumption | (apply Ne.symm; assumption) | decide | omega)])), (by repeat (first | assumption | exact up_s | rw [up_n (by first | assumption | (apply Ne.symm; assumption) | decide | omega)]))⟩ (by omega) bf
  · refine P.iload_n (dq dtX6_drop 6 rfl) rfl ?_
    refine P.iret (dq dtX6_drop 7 rfl) rfl rfl rfl ?_
    have e1 : sDrp S a = S := if_neg (by omega)
    rw [e1] at h
    unfold aDrp at h
    repeat (first | rw [if_pos (by omega)] at h | rw [if_neg (by omega)] at h)
    exact h σ hS FrC.rf
