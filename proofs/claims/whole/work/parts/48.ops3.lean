theorem cgQ {Q : PQ} {σ : PH} {a b : Int} (h : Q (some (vI a)) σ) (e : a = b) : Q (some (vI b)) σ := e ▸ h
theorem mis_b {v : MsV} {F : FgV} (hG : GMs v) (hR : FgR v F) {k w : Int} (hk : 0 ≤ k ∧ k < v.1) (hw : w = 0 ∨ w = 1) : -1000000 ≤ misF F.1 F.2.2.2.2.2.2 v.2.1 (plc v.1 (plp v)) k w ∧ misF F.1 F.2.2.2.2.2.2 v.2.1 (plc v.1 (plp v)) k w ≤ 1000000 := by
  have hp := hG.1
  have h1 := (hR.tb hG).1 k hk.1 hk.2
  have h2 := plc_b hG
  have h3 := mm_b hG (t := k * 2 + w) (by omega) (by omega)
  rw [← hR.1 (k * 2 + w) (by omega) (by omega)] at h3
  have h4 := mul_bd hk.1 (show k ≤ 7 by omega) hG.2.1.1 hG.2.1.2
  unfold misF
  split <;> omega
theorem cntF_b {co : Int → Int} {p s z : Int} (hT : TB co p) (hp : 2 ≤ p ∧ p ≤ 8) (hs : 10 ≤ s ∧ s ≤ 99) (hz : 0 ≤ z ∧ z ≤ (p - 1) * s) : -751 ≤ cntF co p s z ∧ cntF co p s z ≤ 2271 := by
  obtain ⟨d1, d2, d3, d4⟩ := div_bd hz.1 hz.2 (show 0 < s by omega) hp.1
  have h1 := hT.1 (min (z / s) (p - 2)) d1 (by omega)
  obtain ⟨r1, r2, r3⟩ := rise_bd hT d1 (by omega) d3 d4 hs.2
  have q1 := Int.ediv_nonneg r2 (show 0 ≤ s by omega)
  have q2 : (co (min (z / s) (p - 2) + 1) - co (min (z / s) (p - 2))) * (z - min (z / s) (p - 2) * s) / s ≤ co (min (z / s) (p - 2) + 1) - co (min (z / s) (p - 2)) := by
    refine Int.ediv_le_of_le_mul (by omega) ?_
    exact Int.mul_le_mul_of_nonneg_left d4 (by omega)
  unfold cntF
  omega
/-- the parse stays within the tokens -/
theorem pTx_b {bg : (Int → Int) → Int → Int} {kd vl : Int → Int} {m : Int} : ∀ (t : Nat) (c i : Int) (v : MsV), (0 ≤ i ∧ i < m) → 0 ≤ (pTx bg kd vl m t c i v).2.1 ∧ (pTx bg kd vl m t c i v).2.1 < m := by
  intro t
  induction t with
  | zero => intro c i v h; exact h
  | succ t ih =>
    intro c i v h
    have h1 := pCl_b (bg := bg) (kd := kd) (vl := vl) (v := v) h
    unfold pTx; split
    · exact h1
    · split
      · exact h1
      · split
        · exact h1
        · exact ih _ _ _ (nx_b h1)
theorem pTx_c {bg : (Int → Int) → Int → Int} {kd vl : Int → Int} {m : Int} : ∀ (t : Nat) (c i : Int) (v : MsV), c ≤ (pTx bg kd vl m t c i v).2.2.2 ∧ (pTx bg kd vl m t c i v).2.2.2 ≤ c + t := by
  intro t
  induction t with
  | zero => intro c i v; show c ≤ c ∧ c ≤ c + ((0 : Nat) : Int); omega
  | succ t ih =>
    intro c i v
    unfold pTx; split
    · show c ≤ c ∧ c ≤ c + ((t + 1 : Nat) : Int); omega
    · split
      · show c ≤ c ∧ c ≤ c + ((t + 1 : Nat) : Int); omega
      · split
        · show c ≤ c ∧ c ≤ c + ((t + 1 : Nat) : Int); omega
        · have := ih (c + 1) (nx m (pCl bg kd vl m i v).2.1) (pCl bg kd vl m i v).2.2
          omega
def aPly (v : MsV) (c : Int) : Int := if c = 0 ∨ c = 1 then prt (plp v) (60 * v.1) c else -100002
/-- AxisTable.play -/
theorem cl_play {x : CM} {d N : Nat} {σ : PH} {Q : PQ} {S : CSt} {F : FgV} {sf : Int → Int} (hS : CS σ S) (hFg : CFg σ S.now.1 F sf) (hd : 2 ≤ d) {c : Int} (hc : inR c) (h : Q (some (vI (aPly S.now.1 c))) σ) : Call x d 0 0 mX6_play [vR 0, vI c] N σ Q := by
  refine Call.of mcX6_play (Nat.le_of_ble_eq_true rfl) (fun y hy => ?_)
  subst hy
  obtain ⟨hG, hX, hTx, hRd, hNow, hPa, hKe, -, ⟨sv, hSu⟩, hSF, hLa⟩ := id hS
  have x0 := hX.1
  have x1 := hTx.1
  have x2 := hTx.2
  have x7 := hNow.1
  have x8 := hNow.2.1
  have hGm := hG.2.1.1
  have hp := hGm.1
  have hs := hGm.2.1
  obtain ⟨f0, f1, f2, f3, f4, f5, f6, f7, fR⟩ := id hFg.1
  have tB := fR.tb hGm
  have hL9 := mul_bd (k := S.now.1.1 - 1) (s := S.now.1.2.1) (by omega) (by omega) (by omega) (by omega)
  have plB := plT_b (m := mm S.now.1) S.now.1.1.toNat (fun t g1 g2 => mm_b hGm g1 (by omega))
  have plB2 : -100000 ≤ plp S.now.1 ∧ plp S.now.1 ≤ 100000 := by unfold plp; omega
  refine P.iload_n (dq dtX6_play 0 rfl) rfl ?_
  refine P.callS1 (M' := mX6_isPart) (d' := d - 1) mlX6_154 mcX6_isPart msX6_isPart (dq dtX6_play 1 rfl) (by omega) (Nat.le_of_ble_eq_true rfl) ?_
  refine ct_X6_isPart hc (fun n_1 => ?_) (fun n_1 => ?_)
  · refine P.if_ne (t := 10) (dq dtX6_play 2 rfl) rfl (by omega) (fun _ => ?_) (fun h9 => absurd h9 (by decide))
    refine P.aload_n (dq dtX6_play 5 rfl) rfl ?_
    refine P.get flX6_50 (dq dtX6_play 6 rfl) (by repeat (first | assumption | exact up_s | rw [up_n (by first | assumption | (apply Ne.symm; assumption) | decide | omega)])) (by rfl) ?_
    refine P.get flX6_184 (dq dtX6_play 7 rfl) (by repeat (first | assumption | exact up_s | rw [up_n (by first | assumption | (apply Ne.symm; assumption) | decide | omega)])) (by rfl) ?_
    refine P.bipush (dq dtX6_play 8 rfl) rfl ?_
    refine P.aload_n (dq dtX6_play 9 rfl) rfl ?_
    refine P.get flX6_50 (dq dtX6_play 10 rfl) (by repeat (first | assumption | exact up_s | rw [up_n (by first | assumption | (apply Ne.symm; assumption) | decide | omega)])) (by rfl) ?_
    refine P.get flX6_187 (dq dtX6_play 11 rfl) (by repeat (first | assumption | exact up_s | rw [up_n (by first | assumption | (apply Ne.symm; assumption) | decide | omega)])) (by rfl) ?_
    refine P.imul (dq dtX6_play 12 rfl) ?_
    refine P.iload_n (dq dtX6_play 13 rfl) rfl ?_
    refine P.callS3 (M' := mX6_partOf) (d' := d - 1) mlX6_160 mcX6_partOf msX6_partOf (dq dtX6_play 14 rfl) (by omega) (Nat.le_of_ble_eq_true rfl) ?_
    refine ct_X6_partOf (by omega) (by omega) (by omega) hc ?_
    refine P.iret (dq dtX6_play 15 rfl) rfl rfl rfl ?_
    unfold aPly at h
    rw [if_pos n_1] at h
    exact h
  · refine P.if_ne (t := 10) (dq dtX6_play 2 rfl) rfl (by omega) (fun h9 => absurd h9 (by decide)) (fun _ => ?_)
    refine P.ldc (n := -100002) (dq dtX6_play 3 rfl) kcX6_77 rfl ?_
    refine P.iret (dq dtX6_play 4 rfl) rfl rfl rfl ?_
    unfold aPly at h
    rw [if_neg n_1] at h
    exact h
def aWst (v : MsV) (F : FgV) : Int := (wst (fun k => absI (misF F.1 F.2.2.2.2.2.2 v.2.1 (plc v.1 (plp v)) (k / 2) (k % 2))) (2 * v.1).toNat).1
/-- AxisTable.worst -/
theorem cl_worst {x : CM} {d N : Nat} {σ : PH} {Q : PQ} {S : CSt} {F : FgV} {sf : Int → Int} (hS : CS σ S) (hFg : CFg σ S.now.1 F sf) (hd : 5 ≤ d) (h : Q (some (vI (aWst S.now.1 F))) σ) : Call x d 0 0 mX6_worst [vR 0] N σ Q := by
  refine Call.of mcX6_worst (Nat.le_of_ble_eq_true rfl) (fun y hy => ?_)
  subst hy
  obtain ⟨hG, hX, hTx, hRd, hNow, hPa, hKe, -, ⟨sv, hSu⟩, hSF, hLa⟩ := id hS
  have x0 := hX.1
  have x1 := hTx.1
  have x2 := hTx.2
  have x7 := hNow.1
  have x8 := hNow.2.1
  have hGm := hG.2.1.1
  have hp := hGm.1
  have hs := hGm.2.1
  obtain ⟨f0, f1, f2, f3, f4, f5, f6, f7, fR⟩ := id hFg.1
  have tB := fR.tb hGm
  have hL9 := mul_bd (k := S.now.1.1 - 1) (s := S.now.1.2.1) (by omega) (by omega) (by omega) (by omega)
  refine P.aload_n (dq dtX6_worst 0 rfl) rfl ?_
  refine P.get flX6_50 (dq dtX6_worst 1 rfl) (by repeat (first | assumption | exact up_s | rw [up_n (by first | assumption | (apply Ne.symm; assumption) | decide | omega)])) (by rfl) ?_
  refine P.callV0 (M' := mX0_worstSlot) (d' := d - 1) mlX6_190 mcX0_worstSlot mvX0_worstSlot (dq dtX6_worst 2 rfl) (by omega) (Nat.le_of_ble_eq_true rfl) (by repeat (first | assumption | exact up_s | rw [up_n (by first | assumption | (apply Ne.symm; assumption) | decide | omega)])) rfl ?_
  refine ct_X0_worstSlot f0 f7 hp hs tB f1 (by omega) (fun k g1 g2 => mis_b hGm fR (by omega) (by omega)) ?_
  refine P.iret (dq dtX6_worst 3 rfl) rfl rfl rfl ?_
  exact h
def aPnt (v : MsV) (F : FgV) (a b c : Int) : Int :=
  if ¬ (0 ≤ a ∧ a < v.1) then -100001 else if ¬ ((0 ≤ b ∧ b ≤ 6) ∧ (c = 0 ∨ c = 1)) then -100002
  else if b = 0 ∨ b = 1 then prt (F.1 (a * 2 + b)) 60 c else if b = 2 then prt (F.1 (a * 2 + 0) + F.1 (a * 2 + 1)) 120 c
  else if b = 3 then prt (F.2.1 a) 120 c else if b = 4 then prt (F.2.2.2.2.1 (F.2.2.2.2.2.1 a)) (120 * F.2.2.2.1 (F.2.2.2.2.2.1 a)) c
  else prt (misF F.1 F.2.2.2.2.2.2 v.2.1 (plc v.1 (plp v)) a (b - 5)) 60 c
/-- AxisTable.point -/
theorem cl_point {x : CM} {d N : Nat} {σ : PH} {Q : PQ} {S : CSt} {F : FgV} {sf : Int → Int} (hS : CS σ S) (hFg : CFg σ S.now.1 F sf) (hd : 4 ≤ d) {a b c : Int} (ha : inR a) (hb : inR b) (hc : inR c) (h : Q (some (vI (aPnt S.now.1 F a b c))) σ) : Call x d 0 0 mX6_point [vR 0, vI a, vI b, vI c] N σ Q := by
  refine Call.of mcX6_point (Nat.le_of_ble_eq_true rfl) (fun y hy => ?_)
  subst hy
  obtain ⟨hG, hX, hTx, hRd, hNow, hPa, hKe, -, ⟨sv, hSu⟩, hSF, hLa⟩ := id hS
  have x0 := hX.1
  have x1 := hTx.1
  have x2 := hTx.2
  have x7 := hNow.1
  have x8 := hNow.2.1
  have hGm := hG.2.1.1
  have hp := hGm.1
  have hs := hGm.2.1
  obtain ⟨f0, f1, f2, f3, f4, f5, f6, f7, fR⟩ := id hFg.1
  have tB := fR.tb hGm
  have hL9 := mul_bd (k := S.now.1.1 - 1) (s := S.now.1.2.1) (by omega) (by omega) (by omega) (by omega)
  unfold aPnt at h
  refine P.aload_n (dq dtX6_point_0 0 rfl) rfl ?_
  refine P.get flX6_50 (dq dtX6_point_0 1 rfl) (by repeat (first | assumption | exact up_s | rw [up_n (by first | assumption | (apply Ne.symm; assumption) | decide | omega)])) (by rfl) ?_
  refine P.iload_n (dq dtX6_point_0 2 rfl) rfl ?_
  refine P.callV1 (M' := mX0_hasPoint) (d' := d - 1) mlX6_153 mcX0_hasPoint mvX0_hasPoint (dq dtX6_point_0 3 rfl) (by omega) (Nat.le_of_ble_eq_true rfl) (by repeat (first | assumption | exact up_s | rw [up_n (by first | assumption | (apply Ne.symm; assumption) | decide | omega)])) rfl ?_
  refine ct_X0_hasPoint f0 (by omega) ha (fun n_5 => ?_) (fun n_5 => ?_)
  · refine P.if_ne (t := 14) (dq dtX6_point_0 4 rfl) rfl (by omega) (fun _ => ?_) (fun h9 => absurd h9 (by decide))
    refine P.iload_n (dq dtX6_point_0 7 rfl) rfl ?_
    refine P.if_lt (t := 31) (dq dtX6_point_0 8 rfl) rfl (by omega) (fun c_15 => ?_) (fun c_15 => ?_)
    · refine P.ldc (n := -100002) (dq dtX6_point_0 15 rfl) kcX6_77 rfl ?_
      refine P.iret (dq dtX6_point_0 16 rfl) rfl rfl rfl ?_
      repeat (first | rw [if_pos (by omega)] at h | rw [if_neg (by omega)] at h)
      exact h
    · refine P.iload_n (dq dtX6_point_0 9 rfl) rfl ?_
      refine P.bipush (dq dtX6_point_0 10 rfl) rfl ?_
      refine P.icmp_gt (t := 31) (dq dtX6_point_0 11 rfl) rfl (by omega) (by omega) (fun c_21 => ?_) (fun c_21 => ?_)
      · refine P.ldc (n := -100002) (dq dtX6_point_0 15 rfl) kcX6_77 rfl ?_
        refine P.iret (dq dtX6_point_0 16 rfl) rfl rfl rfl ?_
        repeat (first | rw [if_pos (by omega)] at h | rw [if_neg (by omega)] at h)
        exact h
      · refine P.iload_n (dq dtX6_point_0 12 rfl) rfl ?_
        refine P.callS1 (M' := mX6_isPart) (d' := d - 1) mlX6_154 mcX6_isPart msX6_isPart (dq dtX6_point_0 13 rfl) (by omega) (Nat.le_of_ble_eq_true rfl) ?_
        refine ct_X6_isPart hc (fun n_25 => ?_) (fun n_25 => ?_)
        · refine P.if_ne (t := 34) (dq dtX6_point_0 14 rfl) rfl (by omega) (fun _ => ?_) (fun h9 => absurd h9 (by decide))
          have m0 := mm_b hGm (t := a * 2 + 0) (by omega) (by omega)
          have m1 := mm_b hGm (t := a * 2 + 1) (by omega) (by omega)
          rw [← fR.1 (a * 2 + 0) (by omega) (by omega)] at m0
          rw [← fR.1 (a * 2 + 1) (by omega) (by omega)] at m1
          have w0 := wnt_b hGm (k := a) (by omega) (by omega)
          rw [← fR.2.1 a (by omega) (by omega)] at w0
          obtain ⟨p1, p2, p3⟩ := fR.pb hGm a (by omega) (by omega)
          refine P.iload_n (dq dtX6_point_0 17 rfl) rfl ?_
          rcases (show b = 0 ∨ b = 1 ∨ b = 2 ∨ b = 3 ∨ b = 4 ∨ (b < 0 ∨ 4 < b) by omega) with e_35 | e_35 | e_35 | e_35 | e_35 | e_35
          · refine P.tswIn (off := 33) (t := 68) (dq dtX6_point_0 18 rfl) (by omega) (by omega) (by omega) (by rw [e_35]; rfl) rfl ?_
            have mb : -2400 ≤ F.1 (a * 2 + b) ∧ F.1 (a * 2 + b) ≤ 2400 := by
              rcases (show b = 0 ∨ b = 1 by omega) with e | e
              · rw [e]; exact m0
              · rw [e]; exact m1
            refine P.aload_n (dq dtX6_point_0 19 rfl) rfl ?_
            refine P.get flX6_50 (dq dtX6_point_0 20 rfl) (by repeat (first | assumption | exact up_s | rw [up_n (by first | assumption | (apply Ne.symm; assumption) | decide | omega)])) (by rfl) ?_
            refine P.iload_n (dq dtX6_point_0 21 rfl) rfl ?_
            refine P.iload_n (dq dtX6_point_0 22 rfl) rfl ?_
            refine P.callV2 (M' := mX0_meanAt) (d' := d - 1) mlX6_157 mcX0_meanAt mvX0_meanAt (dq dtX6_point_0 23 rfl) (by omega) (Nat.le_of_ble_eq_true rfl) (by repeat (first | assumption | exact up_s | rw [up_n (by first | assumption | (apply Ne.symm; assumption) | decide | omega)])) rfl ?_
            refine ct_X0_meanAt f0 (by omega) (by omega) f1 n_5 (by omega) ?_
            refine P.bipush (dq dtX6_point_0 24 rfl) rfl ?_
            refine P.iload_n (dq dtX6_point_0 25 rfl) rfl ?_
            refine P.callS3 (M' := mX6_partOf) (d' := d - 1) mlX6_160 mcX6_partOf msX6_partOf (dq dtX6_point_0 26 rfl) (by omega) (Nat.le_of_ble_eq_true rfl) ?_
            refine ct_X6_partOf (by omega) (by omega) (by omega) hc ?_
            refine P.iret (dq dtX6_point_0 27 rfl) rfl rfl rfl ?_
            repeat (first | rw [if_pos (by omega)] at h | rw [if_neg (by omega)] at h)
            exact h
          · refine P.tswIn (off := 33) (t := 68) (dq dtX6_point_0 18 rfl) (by omega) (by omega) (by omega) (by rw [e_35]; rfl) rfl ?_
            have mb : -2400 ≤ F.1 (a * 2 + b) ∧ F.1 (a * 2 + b) ≤ 2400 := by
              rcases (show b = 0 ∨ b = 1 by omega) with e | e
              · rw [e]; exact m0
              · rw [e]; exact m1
            refine P.aload_n (dq dtX6_point_0 19 rfl) rfl ?_
            refine P.get flX6_50 (dq dtX6_point_0 20 rfl) (by repeat (first | assumption | exact up_s | rw [up_n (by first | assumption | (apply Ne.symm; assumption) | decide | omega)])) (by rfl) ?_
            refine P.iload_n (dq dtX6_point_0 21 rfl) rfl ?_
            refine P.iload_n (dq dtX6_point_0 22 rfl) rfl ?_
            refine P.callV2 (M' := mX0_meanAt) (d' := d - 1) mlX6_157 mcX0_meanAt mvX0_meanAt (dq dtX6_point_0 23 rfl) (by omega) (Nat.le_of_ble_eq_true rfl) (by repeat (first | assumption | exact up_s | rw [up_n (by first | assumption | (apply Ne.symm; assumption) | decide | omega)])) rfl ?_
            refine ct_X0_meanAt f0 (by omega) (by omega) f1 n_5 (by omega) ?_
            refine P.bipush (dq dtX6_point_0 24 rfl) rfl ?_
            refine P.iload_n (dq dtX6_point_0 25 rfl) rfl ?_
            refine P.callS3 (M' := mX6_partOf) (d' := d - 1) mlX6_160 mcX6_partOf msX6_partOf (dq dtX6_point_0 26 rfl) (by omega) (Nat.le_of_ble_eq_true rfl) ?_
            refine ct_X6_partOf (by omega) (by omega) (by omega) hc ?_
            refine P.iret (dq dtX6_point_0 27 rfl) rfl rfl rfl ?_
            repeat (first | rw [if_pos (by omega)] at h | rw [if_neg (by omega)] at h)
            exact h
          · refine P.tswIn (off := 49) (t := 84) (dq dtX6_point_0 18 rfl) (by omega) (by omega) (by omega) (by rw [e_35]; rfl) rfl ?_
            refine P.aload_n (dq dtX6_point_0 28 rfl) rfl ?_
            refine P.get flX6_50 (dq dtX6_point_0 29 rfl) (by repeat (first | assumption | exact up_s | rw [up_n (by first | assumption | (apply Ne.symm; assumption) | decide | omega)])) (by rfl) ?_
            refine P.iload_n (dq dtX6_point_0 30 rfl) rfl ?_
            refine P.callV1 (M' := mX0_slopeAt) (d' := d - 1) mlX6_163 mcX0_slopeAt mvX0_slopeAt (dq dtX6_point_0 31 rfl) (by omega) (Nat.le_of_ble_eq_true rfl) (by repeat (first | assumption | exact up_s | rw [up_n (by first | assumption | (apply Ne.symm; assumption) | decide | omega)])) rfl ?_
            refine ct_X0_slopeAt f0 (by omega) (by omega) f1 n_5 ?_
            refine P.bipush (dq dtX6_point_0 32 rfl) rfl ?_
            refine P.iload_n (dq dtX6_point_0 33 rfl) rfl ?_
            refine P.callS3 (M' := mX6_partOf) (d' := d - 1) mlX6_160 mcX6_partOf msX6_partOf (dq dtX6_point_0 34 rfl) (by omega) (Nat.le_of_ble_eq_true rfl) ?_
            refine ct_X6_partOf (by omega) (by omega) (by omega) hc ?_
            refine P.iret (dq dtX6_point_0 35 rfl) rfl rfl rfl ?_
            repeat (first | rw [if_pos (by omega)] at h | rw [if_neg (by omega)] at h)
            exact h
          · refine P.tswIn (off := 64) (t := 99) (dq dtX6_point_0 18 rfl) (by omega) (by omega) (by omega) (by rw [e_35]; rfl) rfl ?_
            refine P.aload_n (dq dtX6_point_0 36 rfl) rfl ?_
            refine P.get flX6_50 (dq dtX6_point_0 37 rfl) (by repeat (first | assumption | exact up_s | rw [up_n (by first | assumption | (apply Ne.symm; assumption) | decide | omega)])) (by rfl) ?_
            refine P.iload_n (dq dtX6_point_0 38 rfl) rfl ?_
            refine P.callV1 (M' := mX0_wantedAt) (d' := d - 1) mlX6_166 mcX0_wantedAt mvX0_wantedAt (dq dtX6_point_0 39 rfl) (by omega) (Nat.le_of_ble_eq_true rfl) (by repeat (first | assumption | exact up_s | rw [up_n (by first | assumption | (apply Ne.symm; assumption) | decide | omega)])) rfl ?_
            refine ct_X0_wantedAt f0 (by omega) (by omega) f2 n_5 ?_
            refine P.bipush (dq dtX6_point_0 40 rfl) rfl ?_
            refine P.iload_n (dq dtX6_point_0 41 rfl) rfl ?_
            refine P.callS3 (M' := mX6_partOf) (d' := d - 1) mlX6_160 mcX6_partOf msX6_partOf (dq dtX6_point_0 42 rfl) (by omega) (Nat.le_of_ble_eq_true rfl) ?_
            refine ct_X6_partOf (by omega) (by omega) (by omega) hc ?_
            refine P.iret (dq dtX6_point_0 43 rfl) rfl rfl rfl ?_
            repeat (first | rw [if_pos (by omega)] at h | rw [if_neg (by omega)] at h)
            exact h
          · refine P.tswIn (off := 79) (t := 114) (dq dtX6_point_0 18 rfl) (by omega) (by omega) (by omega) (by rw [e_35]; rfl) rfl ?_
            refine P.aload_n (dq dtX6_point_0 44 rfl) rfl ?_
            refine P.get flX6_50 (dq dtX6_point_0 45 rfl) (by repeat (first | assumption | exact up_s | rw [up_n (by first | assumption | (apply Ne.symm; assumption) | decide | omega)])) (by rfl) ?_
            refine P.iload_n (dq dtX6_point_0 46 rfl) rfl ?_
            refine P.callV1 (M' := mX0_poolTotalAt) (d' := d - 1) mlX6_169 mcX0_poolTotalAt mvX0_poolTotalAt (dq dtX6_point_0 47 rfl) (by omega) (Nat.le_of_ble_eq_true rfl) (by repeat (first | assumption | exact up_s | rw [up_n (by first | assumption | (apply Ne.symm; assumption) | decide | omega)])) rfl ?_
            refine ct_X0_poolTotalAt f0 (by omega) (by omega) f5 f6 n_5 p1 ?_
            refine P.bipush (dq dtX6_point_0 48 rfl) rfl ?_
            refine P.aload_n (dq dtX6_point_0 49 rfl) rfl ?_
            refine P.get flX6_50 (dq dtX6_point_0 50 rfl) (by repeat (first | assumption | exact up_s | rw [up_n (by first | assumption | (apply Ne.symm; assumption) | decide | omega)])) (by rfl) ?_
            refine P.iload_n (dq dtX6_point_0 51 rfl) rfl ?_
            refine P.callV1 (M' := mX0_poolSizeAt) (d' := d - 1) mlX6_172 mcX0_poolSizeAt mvX0_poolSizeAt (dq dtX6_point_0 52 rfl) (by omega) (Nat.le_of_ble_eq_true rfl) (by repeat (first | assumption | exact up_s | rw [up_n (by first | assumption | (apply Ne.symm; assumption) | decide | omega)])) rfl ?_
            refine ct_X0_poolSizeAt f0 (by omega) (by omega) f4 f6 n_5 p1 ?_
            refine P.imul (dq dtX6_point_0 53 rfl) ?_
            refine P.iload_n (dq dtX6_point_0 54 rfl) rfl ?_
            refine P.callS3 (M' := mX6_partOf) (d' := d - 1) mlX6_160 mcX6_partOf msX6_partOf (dq dtX6_point_0 55 rfl) (by omega) (Nat.le_of_ble_eq_true rfl) ?_
            refine ct_X6_partOf (by omega) (by omega) (by omega) hc ?_
            refine P.iret (dq dtX6_point_0 56 rfl) rfl rfl rfl ?_
            repeat (first | rw [if_pos (by omega)] at h | rw [if_neg (by omega)] at h)
            exact h
          · refine P.tswOut (t := 138) (dq dtX6_point_0 18 rfl) (by omega) e_35 rfl ?_
            refine P.aload_n (dq dtX6_point_0 57 rfl) rfl ?_
            refine P.get flX6_50 (dq dtX6_point_0 58 rfl) (by repeat (first | assumption | exact up_s | rw [up_n (by first | assumption | (apply Ne.symm; assumption) | decide | omega)])) (by rfl) ?_
            refine P.iload_n (dq dtX6_point_0 59 rfl) rfl ?_
            refine P.iload_n (dq dtX6_point_0 60 rfl) rfl ?_
            refine P.iconst (dq dtX6_point_0 61 rfl) ?_
            refine P.isub (dq dtX6_point_0 62 rfl) ?_
            refine P.callV2 (M' := mX0_missAt) (d' := d - 1) mlX6_175 mcX0_missAt mvX0_missAt (dq dtX6_point_0 63 rfl) (by omega) (Nat.le_of_ble_eq_true rfl) (by repeat (first | assumption | exact up_s | rw [up_n (by first | assumption | (apply Ne.symm; assumption) | decide | omega)])) rfl ?_
            have mb := mis_b hGm fR n_5 (show b - 5 = 0 ∨ b - 5 = 1 by omega)
            refine ct_X0_missAt f0 (by omega) (by omega) f1 f7 n_5 (by omega) ?_
            show P _ _ _ _ _ _ _ (vI (misF F.1 F.2.2.2.2.2.2 S.now.1.2.1 (plc S.now.1.1 (plp S.now.1)) a (b - 5)) :: _) _ _
            refine P.bipush (dq dtX6_point_1 0 rfl) rfl ?_
            refine P.iload_n (dq dtX6_point_1 1 rfl) rfl ?_
            refine P.callS3 (M' := mX6_partOf) (d' := d - 1) mlX6_160 mcX6_partOf msX6_partOf (dq dtX6_point_1 2 rfl) (by omega) (Nat.le_of_ble_eq_true rfl) ?_
            refine ct_X6_partOf (by omega) (by omega) (by omega) hc ?_
            refine P.iret (dq dtX6_point_1 3 rfl) rfl rfl rfl ?_
            repeat (first | rw [if_pos (by omega)] at h | rw [if_neg (by omega)] at h)
            exact h
        · refine P.if_ne (t := 34) (dq dtX6_point_0 14 rfl) rfl (by omega) (fun h9 => absurd h9 (by decide)) (fun _ => ?_)
          refine P.ldc (n := -100002) (dq dtX6_point_0 15 rfl) kcX6_77 rfl ?_
          refine P.iret (dq dtX6_point_0 16 rfl) rfl rfl rfl ?_
          repeat (first | rw [if_pos (by omega)] at h | rw [if_neg (by omega)] at h)
          exact h
  · refine P.if_ne (t := 14) (dq dtX6_point_0 4 rfl) rfl (by omega) (fun h9 => absurd h9 (by decide)) (fun _ => ?_)
    refine P.ldc (n := -100001) (dq dtX6_point_0 5 rfl) kcX6_129 rfl ?_
    refine P.iret (dq dtX6_point_0 6 rfl) rfl rfl rfl ?_
    repeat (first | rw [if_pos (by omega)] at h | rw [if_neg (by omega)] at h)
    exact h
def aTab (v : MsV) (F : FgV) (a b : Int) : Int := if ¬ (0 ≤ a ∧ a < v.1) then -100001 else if b = 0 then F.2.2.2.2.2.2 a else if b = 1 then F.2.2.1 (F.2.2.2.2.2.1 a) else if b = 2 then F.2.2.2.1 (F.2.2.2.2.2.1 a) else -100002
/-- AxisTable.table -/
theorem cl_table {x : CM} {d N : Nat} {σ : PH} {Q : PQ} {S : CSt} {F : FgV} {sf : Int → Int} (hS : CS σ S) (hFg : CFg σ S.now.1 F sf) (hd : 2 ≤ d) {a b : Int} (ha : inR a) (hb : inR b) (h : Q (some (vI (aTab S.now.1 F a b))) σ) : Call x d 0 0 mX6_table [vR 0, vI a, vI b] N σ Q := by
  refine Call.of mcX6_table (Nat.le_of_ble_eq_true rfl) (fun y hy => ?_)
  subst hy
  obtain ⟨hG, hX, hTx, hRd, hNow, hPa, hKe, -, ⟨sv, hSu⟩, hSF, hLa⟩ := id hS
  have x0 := hX.1
  have x1 := hTx.1
  have x2 := hTx.2
  have x7 := hNow.1
  have x8 := hNow.2.1
  have hGm := hG.2.1.1
  have hp := hGm.1
  have hs := hGm.2.1
  obtain ⟨f0, f1, f2, f3, f4, f5, f6, f7, fR⟩ := id hFg.1
  have tB := fR.tb hGm
  have hL9 := mul_bd (k := S.now.1.1 - 1) (s := S.now.1.2.1) (by omega) (by omega) (by omega) (by omega)
  unfold aTab at h
  refine P.aload_n (dq dtX6_table 0 rfl) rfl ?_
  refine P.get flX6_50 (dq dtX6_table 1 rfl) (by repeat (first | assumption | exact up_s | rw [up_n (by first | assumption | (apply Ne.symm; assumption) | decide | omega)])) (by rfl) ?_
  refine P.iload_n (dq dtX6_table 2 rfl) rfl ?_
  refine P.callV1 (M' := mX0_hasPoint) (d' := d - 1) mlX6_153 mcX0_hasPoint mvX0_hasPoint (dq dtX6_table 3 rfl) (by omega) (Nat.le_of_ble_eq_true rfl) (by repeat (first | assumption | exact up_s | rw [up_n (by first | assumption | (apply Ne.symm; assumption) | decide | omega)])) rfl ?_
  refine ct_X0_hasPoint f0 (by omega) ha (fun n_5 => ?_) (fun n_5 => ?_)
  · refine P.if_ne (t := 14) (dq dtX6_table 4 rfl) rfl (by omega) (fun _ => ?_) (fun h9 => absurd h9 (by decide))
    obtain ⟨p1, p2, p3⟩ := fR.pb hGm a (by omega) (by omega)
    refine P.iload_n (dq dtX6_table 7 rfl) rfl ?_
    rcases (show b = 0 ∨ b = 1 ∨ b = 2 ∨ (b < 0 ∨ 2 < b) by omega) with e_15 | e_15 | e_15 | e_15
    · refine P.tswIn (off := 25) (t := 40) (dq dtX6_table 8 rfl) (by omega) (by omega) (by omega) (by rw [e_15]; rfl) rfl ?_
      refine P.aload_n (dq dtX6_table 9 rfl) rfl ?_
      refine P.get flX6_50 (dq dtX6_table 10 rfl) (by repeat (first | assumption | exact up_s | rw [up_n (by first | assumption | (apply Ne.symm; assumption) | decide | omega)])) (by rfl) ?_
      refine P.iload_n (dq dtX6_table 11 rfl) rfl ?_
      refine P.callV1 (M' := mX0_tableAt) (d' := d - 1) mlX6_178 mcX0_tableAt mvX0_tableAt (dq dtX6_table 12 rfl) (by omega) (Nat.le_of_ble_eq_true rfl) (by repeat (first | assumption | exact up_s | rw [up_n (by first | assumption | (apply Ne.symm; assumption) | decide | omega)])) rfl ?_
      refine ct_X0_tableAt f0 (by omega) (by omega) f7 n_5 ?_
      refine P.iret (dq dtX6_table 13 rfl) rfl rfl rfl ?_
      repeat (first | rw [if_pos (by omega)] at h | rw [if_neg (by omega)] at h)
      exact h
    · refine P.tswIn (off := 34) (t := 49) (dq dtX6_table 8 rfl) (by omega) (by omega) (by omega) (by rw [e_15]; rfl) rfl ?_
      refine P.aload_n (dq dtX6_table 14 rfl) rfl ?_
      refine P.get flX6_50 (dq dtX6_table 15 rfl) (by repeat (first | assumption | exact up_s | rw [up_n (by first | assumption | (apply Ne.symm; assumption) | decide | omega)])) (by rfl) ?_
      refine P.iload_n (dq dtX6_table 16 rfl) rfl ?_
      refine P.callV1 (M' := mX0_poolFirstAt) (d' := d - 1) mlX6_181 mcX0_poolFirstAt mvX0_poolFirstAt (dq dtX6_table 17 rfl) (by omega) (Nat.le_of_ble_eq_true rfl) (by repeat (first | assumption | exact up_s | rw [up_n (by first | assumption | (apply Ne.symm; assumption) | decide | omega)])) rfl ?_
      refine ct_X0_poolFirstAt f0 (by omega) (by omega) f3 f6 n_5 p1 ?_
      refine P.iret (dq dtX6_table 18 rfl) rfl rfl rfl ?_
      repeat (first | rw [if_pos (by omega)] at h | rw [if_neg (by omega)] at h)
      exact h
    · refine P.tswIn (off := 43) (t := 58) (dq dtX6_table 8 rfl) (by omega) (by omega) (by omega) (by rw [e_15]; rfl) rfl ?_
      refine P.aload_n (dq dtX6_table 19 rfl) rfl ?_
      refine P.get flX6_50 (dq dtX6_table 20 rfl) (by repeat (first | assumption | exact up_s | rw [up_n (by first | assumption | (apply Ne.symm; assumption) | decide | omega)])) (by rfl) ?_
      refine P.iload_n (dq dtX6_table 21 rfl) rfl ?_
      refine P.callV1 (M' := mX0_poolSizeAt) (d' := d - 1) mlX6_172 mcX0_poolSizeAt mvX0_poolSizeAt (dq dtX6_table 22 rfl) (by omega) (Nat.le_of_ble_eq_true rfl) (by repeat (first | assumption | exact up_s | rw [up_n (by first | assumption | (apply Ne.symm; assumption) | decide | omega)])) rfl ?_
      refine ct_X0_poolSizeAt f0 (by omega) (by omega) f4 f6 n_5 p1 ?_
      refine P.iret (dq dtX6_table 23 rfl) rfl rfl rfl ?_
      repeat (first | rw [if_pos (by omega)] at h | rw [if_neg (by omega)] at h)
      exact h
    · refine P.tswOut (t := 67) (dq dtX6_table 8 rfl) (by omega) e_15 rfl ?_
      refine P.ldc (n := -100002) (dq dtX6_table 24 rfl) kcX6_77 rfl ?_
      refine P.iret (dq dtX6_table 25 rfl) rfl rfl rfl ?_
      repeat (first | rw [if_pos (by omega)] at h | rw [if_neg (by omega)] at h)
      exact h
  · refine P.if_ne (t := 14) (dq dtX6_table 4 rfl) rfl (by omega) (fun h9 => absurd h9 (by decide)) (fun _ => ?_)
    refine P.ldc (n := -100001) (dq dtX6_table 5 rfl) kcX6_129 rfl ?_
    refine P.iret (dq dtX6_table 6 rfl) rfl rfl rfl ?_
    repeat (first | rw [if_pos (by omega)] at h | rw [if_neg (by omega)] at h)
    exact h
def lsm (it : Int → Int) (ln : Nat → Int) : Nat → Int
  | 0 => 0
  | k + 1 => lsm it ln k + if it k = 0 then 0 else ln k
theorem lp_lets {x : CX} {d N : Nat} {σ : PH} {Q : PQ} {S : CSt} (hS : CS σ S) (h : Q (some (vI (lsm S.it S.ln 3))) σ) : ∀ (t k : Nat), k ≤ 3 → 3 - k < t → P x d mX6_lettersOfLabels Q (0, 0) 4 [some (vR 0), some (vI (lsm S.it S.ln k)), some (vI k)] [] N σ := by
  intro t
  induction t with
  | zero =>
    intro k hk hm
    exfalso; omega
  | succ t ih =>
    intro k hk hm
    obtain ⟨hG, hX, hTx, hRd, hNow, hPa, hKe, ⟨F, sf, hFg⟩, ⟨sv, hSu⟩, hSF, hLa⟩ := id hS
    have x0 := hX.1
    have x1 := hTx.1
    have x2 := hTx.2
    have x7 := hNow.1
    have x8 := hNow.2.1
    have hGm := hG.2.1.1
    have hp := hGm.1
    have hs := hGm.2.1
    obtain ⟨f0, f1, f2, f3, f4, f5, f6, f7, fR⟩ := id hFg.1
    have tB := fR.tb hGm
    have hL9 := mul_bd (k := S.now.1.1 - 1) (s := S.now.1.2.1) (by omega) (by omega) (by omega) (by omega)
    have x69 := hLa.1
    obtain ⟨gl, hgl0, hgl⟩ := hX.2.2.2
    refine P.iload_n (dq dtX6_lettersOfLabels 4 rfl) rfl ?_
    refine P.iconst (dq dtX6_lettersOfLabels 5 rfl) ?_
    refine P.icmp_ge (t := 36) (dq dtX6_lettersOfLabels 6 rfl) rfl (by omega) (by omega) (fun c_6 => ?_) (fun c_6 => ?_)
    · refine P.iload_n (dq dtX6_lettersOfLabels 22 rfl) rfl ?_
      refine P.iret (dq dtX6_lettersOfLabels 23 rfl) rfl rfl rfl ?_
      obtain rfl : k = 3 := by omega
      exact h
    · have b14 := hG.2.2.2.2.1 k (by omega) (by omega)
      refine P.aload_n (dq dtX6_lettersOfLabels 7 rfl) rfl ?_
      refine P.get flX6_71 (dq dtX6_lettersOfLabels 8 rfl) (by repeat (first | assumption | exact up_s | rw [up_n (by first | assumption | (apply Ne.symm; assumption) | decide | omega)])) (by rfl) ?_
      refine P.iload_n (dq dtX6_lettersOfLabels 9 rfl) rfl ?_
      refine P.zald (dq dtX6_lettersOfLabels 10 rfl) (by repeat (first | assumption | exact up_s | rw [up_n (by first | assumption | (apply Ne.symm; assumption) | decide | omega)])) (by omega) (by omega) (by omega) ?_
      refine P.if_eq (t := 30) (dq dtX6_lettersOfLabels 11 rfl) rfl (by omega) (fun c_15 => ?_) (fun c_15 => ?_)
      · refine P.iinc (dq dtX6_lettersOfLabels 20 rfl) rfl (by decide) rfl rfl ?_
        refine P.goto (t := 4) (dq dtX6_lettersOfLabels 21 rfl) rfl ?_
        have e : lsm S.it S.ln (k + 1) = lsm S.it S.ln k + if S.it k = 0 then 0 else S.ln k := rfl
        first | rw [if_pos (by assumption)] at e | rw [if_neg (by assumption)] at e
        have hh := ih (k + 1) (by omega) (by omega)
        rw [e, show ((k + 1 : Nat) : Int) = (k : Int) + 1 by omega] at hh
        first | exact hh | (rw [Int.add_zero] at hh; exact hh)
      · refine P.iload_n (dq dtX6_lettersOfLabels 12 rfl) rfl ?_
        have xl := (hLa.2 k (by omega)).1
        refine P.aload_n (dq dtX6_lettersOfLabels 13 rfl) rfl ?_
        refine P.get flX6_67 (dq dtX6_lettersOfLabels 14 rfl) (by repeat (first | assumption | exact up_s | rw [up_n (by first | assumption | (apply Ne.symm; assumption) | decide | omega)])) (by rfl) ?_
        refine P.iload_n (dq dtX6_lettersOfLabels 15 rfl) rfl ?_
        refine P.aald (dq dtX6_lettersOfLabels 16 rfl) (by repeat (first | assumption | exact up_s | rw [up_n (by first | assumption | (apply Ne.symm; assumption) | decide | omega)])) (by decide) (by omega) (by omega) (by omega) (hgl k (by omega) (by omega)) ?_
        refine P.get flX6_86 (dq dtX6_lettersOfLabels 17 rfl) xl (by rfl) ?_
        refine P.iadd (dq dtX6_lettersOfLabels 18 rfl) ?_
        refine P.istore_n (dq dtX6_lettersOfLabels 19 rfl) (by decide) rfl rfl ?_
        refine P.iinc (dq dtX6_lettersOfLabels 20 rfl) rfl (by decide) rfl rfl ?_
        refine P.goto (t := 4) (dq dtX6_lettersOfLabels 21 rfl) rfl ?_
        have e : lsm S.it S.ln (k + 1) = lsm S.it S.ln k + if S.it k = 0 then 0 else S.ln k := rfl
        first | rw [if_pos (by assumption)] at e | rw [if_neg (by assumption)] at e
        have hh := ih (k + 1) (by omega) (by omega)
        rw [e, show ((k + 1 : Nat) : Int) = (k : Int) + 1 by omega] at hh
        first | exact hh | (rw [Int.add_zero] at hh; exact hh)
/-- X6_lettersOfLabels -/
theorem ct_lets {x : CM} {d N : Nat} {σ : PH} {Q : PQ} {S : CSt} (hS : CS σ S) (h : Q (some (vI (lsm S.it S.ln 3))) σ) : Call x d 0 0 mX6_lettersOfLabels [vR 0] N σ Q := by
  refine Call.of mcX6_lettersOfLabels (Nat.le_of_ble_eq_true rfl) (fun y hy => ?_)
  subst hy
  refine P.iconst (dq dtX6_lettersOfLabels 0 rfl) ?_
  refine P.istore_n (dq dtX6_lettersOfLabels 1 rfl) (by decide) rfl rfl ?_
  refine P.iconst (dq dtX6_lettersOfLabels 2 rfl) ?_
  refine P.istore_n (dq dtX6_lettersOfLabels 3 rfl) (by decide) rfl rfl ?_
  exact lp_lets hS h 4 0 (by omega) (by omega)
def aTld (S : CSt) (F : FgV) (b : Int) : Int :=
  if b = 0 then S.now.1.1 else if b = 1 then S.now.1.2.1 else if b = 2 then plc S.now.1.1 (plp S.now.1) else if b = 3 then S.now.2.1 else if b = 4 then S.now.2.2.1 else if b = 5 then S.now.2.2.2.1
  else if b = 6 then S.now.2.2.2.2.1 else if b = 7 then S.now.2.2.2.2.2 else if b = 8 then sumF S.now.1.2.2.1 0 16 else if b = 9 then ((tbl S.now.1 F).length : Int) else if b = 10 then lsm S.it S.ln 3 else if b = 11 then S.ct else if b = 12 then S.tn else -100002
/-- AxisTable.told -/
theorem cl_told {x : CM} {d N : Nat} {σ : PH} {Q : PQ} {S : CSt} {F : FgV} {sf : Int → Int} (hS : CS σ S) (hFg : CFg σ S.now.1 F sf) (hd : 2 ≤ d) {b : Int} (hb : inR b) (h : Q (some (vI (aTld S F b))) σ) : Call x d 0 0 mX6_told [vR 0, vI b] N σ Q := by
  refine Call.of mcX6_told (Nat.le_of_ble_eq_true rfl) (fun y hy => ?_)
  subst hy
  obtain ⟨hG, hX, hTx, hRd, hNow, hPa, hKe, -, ⟨sv, hSu⟩, hSF, hLa⟩ := id hS
  have x0 := hX.1
  have x1 := hTx.1
  have x2 := hTx.2
  have x7 := hNow.1
  have x8 := hNow.2.1
  have hGm := hG.2.1.1
  have hp := hGm.1
  have hs := hGm.2.1
  obtain ⟨f0, f1, f2, f3, f4, f5, f6, f7, fR⟩ := id hFg.1
  have tB := fR.tb hGm
  have hL9 := mul_bd (k := S.now.1.1 - 1) (s := S.now.1.2.1) (by omega) (by omega) (by omega) (by omega)
  have x11 := hPa.1
  have x66 := hFg.2.1.1
  have u01 := hG.2.1.2.2.2
  unfold aTld at h
  refine P.iload_n (dq dtX6_told 0 rfl) rfl ?_
  rcases (show b = 0 ∨ b = 1 ∨ b = 2 ∨ b = 3 ∨ b = 4 ∨ b = 5 ∨ b = 6 ∨ b = 7 ∨ b = 8 ∨ b = 9 ∨ b = 10 ∨ b = 11 ∨ b = 12 ∨ (b < 0 ∨ 12 < b) by omega) with e_1 | e_1 | e_1 | e_1 | e_1 | e_1 | e_1 | e_1 | e_1 | e_1 | e_1 | e_1 | e_1 | e_1
  · refine P.tswIn (off := 67) (t := 68) (dq dtX6_told 1 rfl) (by omega) (by omega) (by omega) (by rw [e_1]; rfl) rfl ?_
    refine P.aload_n (dq dtX6_told 2 rfl) rfl ?_
    refine P.get flX6_50 (dq dtX6_told 3 rfl) (by repeat (first | assumption | exact up_s | rw [up_n (by first | assumption | (apply Ne.symm; assumption) | decide | omega)])) (by rfl) ?_
    refine P.get flX6_187 (dq dtX6_told 4 rfl) (by repeat (first | assumption | exact up_s | rw [up_n (by first | assumption | (apply Ne.symm; assumption) | decide | omega)])) (by rfl) ?_
    refine P.iret (dq dtX6_told 5 rfl) rfl rfl rfl ?_
    repeat (first | rw [if_pos (by assumption)] at h | rw [if_neg (by omega)] at h)
    exact h
  · refine P.tswIn (off := 75) (t := 76) (dq dtX6_told 1 rfl) (by omega) (by omega) (by omega) (by rw [e_1]; rfl) rfl ?_
    refine P.aload_n (dq dtX6_told 6 rfl) rfl ?_
    refine P.get flX6_50 (dq dtX6_told 7 rfl) (by repeat (first | assumption | exact up_s | rw [up_n (by first | assumption | (apply Ne.symm; assumption) | decide | omega)])) (by rfl) ?_
    refine P.get flX6_213 (dq dtX6_told 8 rfl) (by repeat (first | assumption | exact up_s | rw [up_n (by first | assumption | (apply Ne.symm; assumption) | decide | omega)])) (by rfl) ?_
    refine P.iret (dq dtX6_told 9 rfl) rfl rfl rfl ?_
    repeat (first | rw [if_pos (by assumption)] at h | rw [if_neg (by omega)] at h)
    exact h
  · refine P.tswIn (off := 83) (t := 84) (dq dtX6_told 1 rfl) (by omega) (by omega) (by omega) (by rw [e_1]; rfl) rfl ?_
    refine P.aload_n (dq dtX6_told 10 rfl) rfl ?_
    refine P.get flX6_50 (dq dtX6_told 11 rfl) (by repeat (first | assumption | exact up_s | rw [up_n (by first | assumption | (apply Ne.symm; assumption) | decide | omega)])) (by rfl) ?_
    refine P.get flX6_200 (dq dtX6_told 12 rfl) (by repeat (first | assumption | exact up_s | rw [up_n (by first | assumption | (apply Ne.symm; assumption) | decide | omega)])) (by rfl) ?_
    refine P.iret (dq dtX6_told 13 rfl) rfl rfl rfl ?_
    repeat (first | rw [if_pos (by assumption)] at h | rw [if_neg (by omega)] at h)
    exact h
  · refine P.tswIn (off := 91) (t := 92) (dq dtX6_told 1 rfl) (by omega) (by omega) (by omega) (by rw [e_1]; rfl) rfl ?_
    refine P.aload_n (dq dtX6_told 14 rfl) rfl ?_
    refine P.get flX6_28 (dq dtX6_told 15 rfl) (by repeat (first | assumption | exact up_s | rw [up_n (by first | assumption | (apply Ne.symm; assumption) | decide | omega)])) (by rfl) ?_
    refine P.get flX6_147 (dq dtX6_told 16 rfl) (by repeat (first | assumption | exact up_s | rw [up_n (by first | assumption | (apply Ne.symm; assumption) | decide | omega)])) (by rfl) ?_
    refine P.iret (dq dtX6_told 17 rfl) rfl rfl rfl ?_
    repeat (first | rw [if_pos (by assumption)] at h | rw [if_neg (by omega)] at h)
    exact h
  · refine P.tswIn (off := 99) (t := 100) (dq dtX6_told 1 rfl) (by omega) (by omega) (by omega) (by rw [e_1]; rfl) rfl ?_
    refine P.aload_n (dq dtX6_told 18 rfl) rfl ?_
    refine P.get flX6_28 (dq dtX6_told 19 rfl) (by repeat (first | assumption | exact up_s | rw [up_n (by first | assumption | (apply Ne.symm; assumption) | decide | omega)])) (by rfl) ?_
    refine P.get flX6_207 (dq dtX6_told 20 rfl) (by repeat (first | assumption | exact up_s | rw [up_n (by first | assumption | (apply Ne.symm; assumption) | decide | omega)])) (by rfl) ?_
    refine P.iret (dq dtX6_told 21 rfl) rfl rfl rfl ?_
    repeat (first | rw [if_pos (by assumption)] at h | rw [if_neg (by omega)] at h)
    exact h
  · refine P.tswIn (off := 107) (t := 108) (dq dtX6_told 1 rfl) (by omega) (by omega) (by omega) (by rw [e_1]; rfl) rfl ?_
    refine P.aload_n (dq dtX6_told 22 rfl) rfl ?_
    refine P.get flX6_28 (dq dtX6_told 23 rfl) (by repeat (first | assumption | exact up_s | rw [up_n (by first | assumption | (apply Ne.symm; assumption) | decide | omega)])) (by rfl) ?_
    refine P.get flX6_216 (dq dtX6_told 24 rfl) (by repeat (first | assumption | exact up_s | rw [up_n (by first | assumption | (apply Ne.symm; assumption) | decide | omega)])) (by rfl) ?_
    refine P.iret (dq dtX6_told 25 rfl) rfl rfl rfl ?_
    repeat (first | rw [if_pos (by assumption)] at h | rw [if_neg (by omega)] at h)
    exact h
  · refine P.tswIn (off := 115) (t := 116) (dq dtX6_told 1 rfl) (by omega) (by omega) (by omega) (by rw [e_1]; rfl) rfl ?_
    refine P.aload_n (dq dtX6_told 26 rfl) rfl ?_
    refine P.get flX6_28 (dq dtX6_told 27 rfl) (by repeat (first | assumption | exact up_s | rw [up_n (by first | assumption | (apply Ne.symm; assumption) | decide | omega)])) (by rfl) ?_
    refine P.get flX6_219 (dq dtX6_told 28 rfl) (by repeat (first | assumption | exact up_s | rw [up_n (by first | assumption | (apply Ne.symm; assumption) | decide | omega)])) (by rfl) ?_
    refine P.iret (dq dtX6_told 29 rfl) rfl rfl rfl ?_
    repeat (first | rw [if_pos (by assumption)] at h | rw [if_neg (by omega)] at h)
    exact h
  · refine P.tswIn (off := 123) (t := 124) (dq dtX6_told 1 rfl) (by omega) (by omega) (by omega) (by rw [e_1]; rfl) rfl ?_
    refine P.aload_n (dq dtX6_told 30 rfl) rfl ?_
    refine P.get flX6_28 (dq dtX6_told 31 rfl) (by repeat (first | assumption | exact up_s | rw [up_n (by first | assumption | (apply Ne.symm; assumption) | decide | omega)])) (by rfl) ?_
    refine P.get flX6_222 (dq dtX6_told 32 rfl) (by repeat (first | assumption | exact up_s | rw [up_n (by first | assumption | (apply Ne.symm; assumption) | decide | omega)])) (by rfl) ?_
    refine P.if_eq (t := 138) (dq dtX6_told 33 rfl) rfl (by omega) (fun c_131 => ?_) (fun c_131 => ?_)
    · refine P.iconst (dq dtX6_told 36 rfl) ?_
      refine P.iret (dq dtX6_told 37 rfl) rfl rfl rfl ?_
      repeat (first | rw [if_pos (by assumption)] at h | rw [if_neg (by omega)] at h)
      exact cgQ h (by omega)
    · refine P.iconst (dq dtX6_told 34 rfl) ?_
      refine P.goto (t := 139) (dq dtX6_told 35 rfl) rfl ?_
      refine P.iret (dq dtX6_told 37 rfl) rfl rfl rfl ?_
      repeat (first | rw [if_pos (by assumption)] at h | rw [if_neg (by omega)] at h)
      exact cgQ h (by omega)
  · refine P.tswIn (off := 139) (t := 140) (dq dtX6_told 1 rfl) (by omega) (by omega) (by omega) (by rw [e_1]; rfl) rfl ?_
    refine P.aload_n (dq dtX6_told 38 rfl) rfl ?_
    refine P.get flX6_28 (dq dtX6_told 39 rfl) (by repeat (first | assumption | exact up_s | rw [up_n (by first | assumption | (apply Ne.symm; assumption) | decide | omega)])) (by rfl) ?_
    refine P.get flX6_90 (dq dtX6_told 40 rfl) (by repeat (first | assumption | exact up_s | rw [up_n (by first | assumption | (apply Ne.symm; assumption) | decide | omega)])) (by rfl) ?_
    refine P.callV0 (M' := mX2_countOfAll) (d' := d - 1) mlX6_226 mcX2_countOfAll mvX2_countOfAll (dq dtX6_told 41 rfl) (by omega) (Nat.le_of_ble_eq_true rfl) (by repeat (first | assumption | exact up_s | rw [up_n (by first | assumption | (apply Ne.symm; assumption) | decide | omega)])) rfl ?_
    refine ct_X2_countOfAll hNow.2 ?_
    refine P.iret (dq dtX6_told 42 rfl) rfl rfl rfl ?_
    repeat (first | rw [if_pos (by assumption)] at h | rw [if_neg (by omega)] at h)
    exact h
  · refine P.tswIn (off := 150) (t := 151) (dq dtX6_told 1 rfl) (by omega) (by omega) (by omega) (by rw [e_1]; rfl) rfl ?_
    refine P.aload_n (dq dtX6_told 43 rfl) rfl ?_
    refine P.get flX6_64 (dq dtX6_told 44 rfl) (by repeat (first | assumption | exact up_s | rw [up_n (by first | assumption | (apply Ne.symm; assumption) | decide | omega)])) (by rfl) ?_
    refine P.get flX6_86 (dq dtX6_told 45 rfl) (by repeat (first | assumption | exact up_s | rw [up_n (by first | assumption | (apply Ne.symm; assumption) | decide | omega)])) (by rfl) ?_
    refine P.iret (dq dtX6_told 46 rfl) rfl rfl rfl ?_
    repeat (first | rw [if_pos (by assumption)] at h | rw [if_neg (by omega)] at h)
    exact h
  · refine P.tswIn (off := 158) (t := 159) (dq dtX6_told 1 rfl) (by omega) (by omega) (by omega) (by rw [e_1]; rfl) rfl ?_
    refine P.aload_n (dq dtX6_told 47 rfl) rfl ?_
    refine P.callV0 (M' := mX6_lettersOfLabels) (d' := d - 1) mlX6_229 mcX6_lettersOfLabels mvX6_lettersOfLabels (dq dtX6_told 48 rfl) (by omega) (Nat.le_of_ble_eq_true rfl) (by repeat (first | assumption | exact up_s | rw [up_n (by first | assumption | (apply Ne.symm; assumption) | decide | omega)])) rfl ?_
    refine ct_lets hS ?_
    refine P.iret (dq dtX6_told 49 rfl) rfl rfl rfl ?_
    repeat (first | rw [if_pos (by assumption)] at h | rw [if_neg (by omega)] at h)
    exact h
  · refine P.tswIn (off := 163) (t := 164) (dq dtX6_told 1 rfl) (by omega) (by omega) (by omega) (by rw [e_1]; rfl) rfl ?_
    refine P.aload_n (dq dtX6_told 50 rfl) rfl ?_
    refine P.get flX6_35 (dq dtX6_told 51 rfl) (by repeat (first | assumption | exact up_s | rw [up_n (by first | assumption | (apply Ne.symm; assumption) | decide | omega)])) (by rfl) ?_
    refine P.get flX6_139 (dq dtX6_told 52 rfl) (by repeat (first | assumption | exact up_s | rw [up_n (by first | assumption | (apply Ne.symm; assumption) | decide | omega)])) (by rfl) ?_
    refine P.iret (dq dtX6_told 53 rfl) rfl rfl rfl ?_
    repeat (first | rw [if_pos (by assumption)] at h | rw [if_neg (by omega)] at h)
    exact h
  · refine P.tswIn (off := 171) (t := 172) (dq dtX6_told 1 rfl) (by omega) (by omega) (by omega) (by rw [e_1]; rfl) rfl ?_
    refine P.aload_n (dq dtX6_told 54 rfl) rfl ?_
    refine P.get flX6_14 (dq dtX6_told 55 rfl) (by repeat (first | assumption | exact up_s | rw [up_n (by first | assumption | (apply Ne.symm; assumption) | decide | omega)])) (by rfl) ?_
    refine P.get flX6_86 (dq dtX6_told 56 rfl) (by repeat (first | assumption | exact up_s | rw [up_n (by first | assumption | (apply Ne.symm; assumption) | decide | omega)])) (by rfl) ?_
    refine P.iret (dq dtX6_told 57 rfl) rfl rfl rfl ?_
    repeat (first | rw [if_pos (by assumption)] at h | rw [if_neg (by omega)] at h)
    exact h
  · refine P.tswOut (t := 180) (dq dtX6_told 1 rfl) (by omega) e_1 rfl ?_
    refine P.ldc (n := -100002) (dq dtX6_told 58 rfl) kcX6_77 rfl ?_
    refine P.iret (dq dtX6_told 59 rfl) rfl rfl rfl ?_
    repeat (first | rw [if_pos (by assumption)] at h | rw [if_neg (by omega)] at h)
    exact h
