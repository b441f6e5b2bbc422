/-- letter -/
theorem md_letter {x : CM} {d N : Nat} {σ : PH} {Q : PQ} {S : CSt} (hG : CG S) (hM : MD σ S) (hd : 2 ≤ d) {a k : Int} (ha : inR a) (hk : inR k) (h : Q (some (vI (aLet S a k))) σ) : Call x d 0 0 mX7_letter [vR 84, vI a, vI k] N σ Q := by
  refine Call.of mcX7_letter (Nat.le_of_ble_eq_true rfl) (fun y hy => ?_)
  subst hy
  obtain ⟨wf, sz, lt, a1, a2, a3, a4, a5, fi, be, rp, cl, dg, nu, pk, wm, h84, h85, h86, h87, h88, h89, h90, h91, h92, h93, h94, h95, hW, hL⟩ := id hM
  have hGm := hG.2.1.1
  have hp := hGm.1
  have hs := hGm.2.1
  have hL9 := mul_bd (k := S.now.1.1 - 1) (s := S.now.1.2.1) (by omega) (by omega) (by omega) (by omega)
  refine P.iload_n (dq dtX7_letter 0 rfl) rfl ?_
  refine P.callS1 (M' := mX7_isLabel) (d' := d - 1) mlX7_232 mcX7_isLabel msX7_isLabel (dq dtX7_letter 1 rfl) (by omega) (Nat.le_of_ble_eq_true rfl) ?_
  refine ct_X7_isLabel (by omega) ha (fun n_1 => ?_) (fun n_1 => ?_)
  · refine P.if_ne (t := 10) (dq dtX7_letter 2 rfl) rfl (by omega) (fun _ => ?_) (fun h9 => absurd h9 (by decide))
    have es := hL.1 a (by omega) (by omega)
    have bn := (hG.2.2.2.2.2 a.toNat (by omega)).1
    have bf := (hG.2.2.2.2.2 a.toNat (by omega)).2
    have bz : (sz a < 0 ∧ S.it a = 0 ∧ sz a = -1) ∨ (0 ≤ sz a ∧ S.it a ≠ 0 ∧ sz a = S.ln a.toNat) := by
      rw [es]
      split
      · next q => exact Or.inl ⟨by omega, q, rfl⟩
      · next q => exact Or.inr ⟨by omega, q, rfl⟩
    refine P.aload_n (dq dtX7_letter 5 rfl) rfl ?_
    refine P.get flX7_45 (dq dtX7_letter 6 rfl) (by repeat (first | assumption | exact up_s | rw [up_n (by first | assumption | (apply Ne.symm; assumption) | decide | omega)])) (by rfl) ?_
    refine P.iload_n (dq dtX7_letter 7 rfl) rfl ?_
    refine P.iald (dq dtX7_letter 8 rfl) (by repeat (first | assumption | exact up_s | rw [up_n (by first | assumption | (apply Ne.symm; assumption) | decide | omega)])) (by omega) (by omega) (by omega) ?_
    refine P.if_ge (t := 24) (dq dtX7_letter 9 rfl) rfl (by omega) (fun c_16 => ?_) (fun c_16 => ?_)
    · refine P.iload_n (dq dtX7_letter 12 rfl) rfl ?_
      refine P.i2l (dq dtX7_letter 13 rfl) (by omega) ?_
      refine P.lconst (z := 0) (dq dtX7_letter 14 rfl) rfl ?_
      refine P.aload_n (dq dtX7_letter 15 rfl) rfl ?_
      refine P.get flX7_45 (dq dtX7_letter 16 rfl) (by repeat (first | assumption | exact up_s | rw [up_n (by first | assumption | (apply Ne.symm; assumption) | decide | omega)])) (by rfl) ?_
      refine P.iload_n (dq dtX7_letter 17 rfl) rfl ?_
      refine P.iald (dq dtX7_letter 18 rfl) (by repeat (first | assumption | exact up_s | rw [up_n (by first | assumption | (apply Ne.symm; assumption) | decide | omega)])) (by omega) (by omega) (by omega) ?_
      refine P.iconst (dq dtX7_letter 19 rfl) ?_
      refine P.isub (dq dtX7_letter 20 rfl) ?_
      refine P.i2l (dq dtX7_letter 21 rfl) (by omega) ?_
      refine P.callS3 (M' := mX7_in) (d' := d - 1) mlX7_65 mcX7_in msX7_in (dq dtX7_letter 22 rfl) (by omega) (Nat.le_of_ble_eq_true rfl) ?_
      refine ct_X7_in (by omega) (by omega) (by omega) (fun n_36 => ?_) (fun n_36 => ?_)
      · refine P.if_eq (t := 56) (dq dtX7_letter 23 rfl) rfl (by omega) (fun h9 => absurd h9 (by decide)) (fun _ => ?_)
        refine P.aload_n (dq dtX7_letter 24 rfl) rfl ?_
        refine P.get flX7_48 (dq dtX7_letter 25 rfl) (by repeat (first | assumption | exact up_s | rw [up_n (by first | assumption | (apply Ne.symm; assumption) | decide | omega)])) (by rfl) ?_
        refine P.bipush (dq dtX7_letter 26 rfl) rfl ?_
        refine P.iload_n (dq dtX7_letter 27 rfl) rfl ?_
        refine P.imul (dq dtX7_letter 28 rfl) ?_
        refine P.iload_n (dq dtX7_letter 29 rfl) rfl ?_
        refine P.iadd (dq dtX7_letter 30 rfl) ?_
        refine P.iald (dq dtX7_letter 31 rfl) (by repeat (first | assumption | exact up_s | rw [up_n (by first | assumption | (apply Ne.symm; assumption) | decide | omega)])) (by omega) (by omega) (by omega) ?_
        refine P.goto (t := 58) (dq dtX7_letter 32 rfl) rfl ?_
        refine P.iret (dq dtX7_letter 34 rfl) rfl rfl rfl ?_
        unfold aLet at h
        by_cases q2 : S.it a = 0
        · first
          | (exfalso; omega)
          | (rw [rfL_n (it := S.it) (a := a) (by omega) q2, if_pos (by decide)] at h; exact h)
        · rw [rfL_z (it := S.it) (a := a) (by omega) q2, if_neg (by decide)] at h
          first
          | (exfalso; omega)
          | (rw [if_pos (by omega)] at h; exact cgQ h (hL.2 a k (by omega) (by omega) (by omega) (by omega)).symm)
          | (rw [if_neg (by omega)] at h; exact h)
      · refine P.if_eq (t := 56) (dq dtX7_letter 23 rfl) rfl (by omega) (fun _ => ?_) (fun h9 => absurd h9 (by decide))
        refine P.ldc (n := -100012) (dq dtX7_letter 33 rfl) kcX7_240 rfl ?_
        refine P.iret (dq dtX7_letter 34 rfl) rfl rfl rfl ?_
        unfold aLet at h
        by_cases q2 : S.it a = 0
        · first
          | (exfalso; omega)
          | (rw [rfL_n (it := S.it) (a := a) (by omega) q2, if_pos (by decide)] at h; exact h)
        · rw [rfL_z (it := S.it) (a := a) (by omega) q2, if_neg (by decide)] at h
          first
          | (exfalso; omega)
          | (rw [if_pos (by omega)] at h; exact cgQ h (hL.2 a k (by omega) (by omega) (by omega) (by omega)).symm)
          | (rw [if_neg (by omega)] at h; exact h)
    · refine P.ldc (n := -100011) (dq dtX7_letter 10 rfl) kcX7_239 rfl ?_
      refine P.goto (t := 58) (dq dtX7_letter 11 rfl) rfl ?_
      refine P.iret (dq dtX7_letter 34 rfl) rfl rfl rfl ?_
      unfold aLet at h
      by_cases q2 : S.it a = 0
      · first
        | (exfalso; omega)
        | (rw [rfL_n (it := S.it) (a := a) (by omega) q2, if_pos (by decide)] at h; exact h)
      · rw [rfL_z (it := S.it) (a := a) (by omega) q2, if_neg (by decide)] at h
        first
        | (exfalso; omega)
        | (rw [if_pos (by omega)] at h; exact cgQ h (hL.2 a k (by omega) (by omega) (by omega) (by omega)).symm)
        | (rw [if_neg (by omega)] at h; exact h)
  · refine P.if_ne (t := 10) (dq dtX7_letter 2 rfl) rfl (by omega) (fun h9 => absurd h9 (by decide)) (fun _ => ?_)
    refine P.ldc (n := -100001) (dq dtX7_letter 3 rfl) kcX7_163 rfl ?_
    refine P.iret (dq dtX7_letter 4 rfl) rfl rfl rfl ?_
    have e9 := rfL_u (it := S.it) (a := a) (by omega)
    unfold aLet at h
    repeat (first | rw [if_pos (by omega)] at h | rw [if_neg (by omega)] at h)
    rw [e9] at h
    exact h
theorem lp_cmpM {x : CX} {d N : Nat} {σ : PH} {Q : PQ} {S : CSt} (hG : CG S) {sz lt : Int → Int} {p s u l fi be rp cl dg nu pk wm : Int} (h84 : σ 84 = mdO p s u l fi be rp cl dg nu pk wm) (h94 : σ 94 = pcI 0 3 sz) (h95 : σ 95 = pcI 0 72 lt) (hL : LR S sz lt) {a : Int} (ha3 : 0 ≤ a ∧ a < 3) (esa : sz a = S.ln a.toNat) {b : Int} (hb3 : 0 ≤ b ∧ b < 3) (esb : sz b = S.ln b.toNat) : ∀ (t : Nat) (k : Int), 0 < t → 0 ≤ k → k + t = min (S.ln a.toNat) (S.ln b.toNat) + 1 → Q (some (vI (ordF (S.lf a.toNat) (S.lf b.toNat) (S.ln a.toNat) (S.ln b.toNat) (t - 1) k))) σ → P x d mX7_compare Q (0, 0) 40 [some (vR 84), some (vI a), some (vI b), some (vI k), none] [] N σ := by
  intro t
  induction t with
  | zero =>
    intro k h00 hk ht h
    exfalso; omega
  | succ t ih =>
    intro k h00 hk ht h
    have bn := (hG.2.2.2.2.2 a.toNat (by omega)).1
    have bf := (hG.2.2.2.2.2 a.toNat (by omega)).2
    have bnb := (hG.2.2.2.2.2 b.toNat (by omega)).1
    have bfb := (hG.2.2.2.2.2 b.toNat (by omega)).2
    refine P.iload_n (dq dtX7_compare_0 22 rfl) rfl ?_
    refine P.aload_n (dq dtX7_compare_0 23 rfl) rfl ?_
    refine P.get flX7_45 (dq dtX7_compare_0 24 rfl) (by repeat (first | assumption | exact up_s | rw [up_n (by first | assumption | (apply Ne.symm; assumption) | decide | omega)])) (by rfl) ?_
    refine P.iload_n (dq dtX7_compare_0 25 rfl) rfl ?_
    refine P.iald (dq dtX7_compare_0 26 rfl) (by repeat (first | assumption | exact up_s | rw [up_n (by first | assumption | (apply Ne.symm; assumption) | decide | omega)])) (by omega) (by omega) (by omega) ?_
    rw [esa]
    refine P.icmp_ge (t := 107) (dq dtX7_compare_0 27 rfl) rfl (by omega) (by omega) (fun c_47 => ?_) (fun c_47 => ?_)
    · refine P.aload_n (dq dtX7_compare_0 62 rfl) rfl ?_
      refine P.get flX7_45 (dq dtX7_compare_0 63 rfl) (by repeat (first | assumption | exact up_s | rw [up_n (by first | assumption | (apply Ne.symm; assumption) | decide | omega)])) (by rfl) ?_
      refine P.iload_n (dq dtX7_compare_1 0 rfl) rfl ?_
      refine P.iald (dq dtX7_compare_1 1 rfl) (by repeat (first | assumption | exact up_s | rw [up_n (by first | assumption | (apply Ne.symm; assumption) | decide | omega)])) (by omega) (by omega) (by omega) ?_
      refine P.aload_n (dq dtX7_compare_1 2 rfl) rfl ?_
      refine P.get flX7_45 (dq dtX7_compare_1 3 rfl) (by repeat (first | assumption | exact up_s | rw [up_n (by first | assumption | (apply Ne.symm; assumption) | decide | omega)])) (by rfl) ?_
      refine P.iload_n (dq dtX7_compare_1 4 rfl) rfl ?_
      refine P.iald (dq dtX7_compare_1 5 rfl) (by repeat (first | assumption | exact up_s | rw [up_n (by first | assumption | (apply Ne.symm; assumption) | decide | omega)])) (by omega) (by omega) (by omega) ?_
      rw [esa, esb]
      refine P.icmp_ge (t := 126) (dq dtX7_compare_1 6 rfl) rfl (by omega) (by omega) (fun c_119 => ?_) (fun c_119 => ?_)
      · refine P.aload_n (dq dtX7_compare_1 9 rfl) rfl ?_
        refine P.get flX7_45 (dq dtX7_compare_1 10 rfl) (by repeat (first | assumption | exact up_s | rw [up_n (by first | assumption | (apply Ne.symm; assumption) | decide | omega)])) (by rfl) ?_
        refine P.iload_n (dq dtX7_compare_1 11 rfl) rfl ?_
        refine P.iald (dq dtX7_compare_1 12 rfl) (by repeat (first | assumption | exact up_s | rw [up_n (by first | assumption | (apply Ne.symm; assumption) | decide | omega)])) (by omega) (by omega) (by omega) ?_
        refine P.aload_n (dq dtX7_compare_1 13 rfl) rfl ?_
        refine P.get flX7_45 (dq dtX7_compare_1 14 rfl) (by repeat (first | assumption | exact up_s | rw [up_n (by first | assumption | (apply Ne.symm; assumption) | decide | omega)])) (by rfl) ?_
        refine P.iload_n (dq dtX7_compare_1 15 rfl) rfl ?_
        refine P.iald (dq dtX7_compare_1 16 rfl) (by repeat (first | assumption | exact up_s | rw [up_n (by first | assumption | (apply Ne.symm; assumption) | decide | omega)])) (by omega) (by omega) (by omega) ?_
        rw [esa, esb]
        refine P.icmp_ne (t := 145) (dq dtX7_compare_1 17 rfl) rfl (by omega) (by omega) (fun c_138 => ?_) (fun c_138 => ?_)
        · refine P.iconst (dq dtX7_compare_1 20 rfl) ?_
          refine P.iret (dq dtX7_compare_1 21 rfl) rfl rfl rfl ?_
          first
          | (exfalso; omega)
          | (rw [show t + 1 - 1 = 0 by omega] at h
             have ho : ordF (S.lf a.toNat) (S.lf b.toNat) (S.ln a.toNat) (S.ln b.toNat) 0 k = if S.ln a.toNat < S.ln b.toNat then 0 else if S.ln a.toNat = S.ln b.toNat then 1 else 2 := rfl
             rw [ho] at h
             repeat (first | rw [if_pos (by omega)] at h | rw [if_neg (by omega)] at h)
             exact h)
        · refine P.iconst (dq dtX7_compare_1 18 rfl) ?_
          refine P.goto (t := 146) (dq dtX7_compare_1 19 rfl) rfl ?_
          refine P.iret (dq dtX7_compare_1 21 rfl) rfl rfl rfl ?_
          first
          | (exfalso; omega)
          | (rw [show t + 1 - 1 = 0 by omega] at h
             have ho : ordF (S.lf a.toNat) (S.lf b.toNat) (S.ln a.toNat) (S.ln b.toNat) 0 k = if S.ln a.toNat < S.ln b.toNat then 0 else if S.ln a.toNat = S.ln b.toNat then 1 else 2 := rfl
             rw [ho] at h
             repeat (first | rw [if_pos (by omega)] at h | rw [if_neg (by omega)] at h)
             exact h)
      · refine P.iconst (dq dtX7_compare_1 7 rfl) ?_
        refine P.goto (t := 146) (dq dtX7_compare_1 8 rfl) rfl ?_
        refine P.iret (dq dtX7_compare_1 21 rfl) rfl rfl rfl ?_
        first
        | (exfalso; omega)
        | (rw [show t + 1 - 1 = 0 by omega] at h
           have ho : ordF (S.lf a.toNat) (S.lf b.toNat) (S.ln a.toNat) (S.ln b.toNat) 0 k = if S.ln a.toNat < S.ln b.toNat then 0 else if S.ln a.toNat = S.ln b.toNat then 1 else 2 := rfl
           rw [ho] at h
           repeat (first | rw [if_pos (by omega)] at h | rw [if_neg (by omega)] at h)
           exact h)
    · refine P.iload_n (dq dtX7_compare_0 28 rfl) rfl ?_
      refine P.aload_n (dq dtX7_compare_0 29 rfl) rfl ?_
      refine P.get flX7_45 (dq dtX7_compare_0 30 rfl) (by repeat (first | assumption | exact up_s | rw [up_n (by first | assumption | (apply Ne.symm; assumption) | decide | omega)])) (by rfl) ?_
      refine P.iload_n (dq dtX7_compare_0 31 rfl) rfl ?_
      refine P.iald (dq dtX7_compare_0 32 rfl) (by repeat (first | assumption | exact up_s | rw [up_n (by first | assumption | (apply Ne.symm; assumption) | decide | omega)])) (by omega) (by omega) (by omega) ?_
      rw [esb]
      refine P.icmp_ge (t := 107) (dq dtX7_compare_0 33 rfl) rfl (by omega) (by omega) (fun c_57 => ?_) (fun c_57 => ?_)
      · refine P.aload_n (dq dtX7_compare_0 62 rfl) rfl ?_
        refine P.get flX7_45 (dq dtX7_compare_0 63 rfl) (by repeat (first | assumption | exact up_s | rw [up_n (by first | assumption | (apply Ne.symm; assumption) | decide | omega)])) (by rfl) ?_
        refine P.iload_n (dq dtX7_compare_1 0 rfl) rfl ?_
        refine P.iald (dq dtX7_compare_1 1 rfl) (by repeat (first | assumption | exact up_s | rw [up_n (by first | assumption | (apply Ne.symm; assumption) | decide | omega)])) (by omega) (by omega) (by omega) ?_
        refine P.aload_n (dq dtX7_compare_1 2 rfl) rfl ?_
        refine P.get flX7_45 (dq dtX7_compare_1 3 rfl) (by repeat (first | assumption | exact up_s | rw [up_n (by first | assumption | (apply Ne.symm; assumption) | decide | omega)])) (by rfl) ?_
        refine P.iload_n (dq dtX7_compare_1 4 rfl) rfl ?_
        refine P.iald (dq dtX7_compare_1 5 rfl) (by repeat (first | assumption | exact up_s | rw [up_n (by first | assumption | (apply Ne.symm; assumption) | decide | omega)])) (by omega) (by omega) (by omega) ?_
        rw [esa, esb]
        refine P.icmp_ge (t := 126) (dq dtX7_compare_1 6 rfl) rfl (by omega) (by omega) (fun c_119 => ?_) (fun c_119 => ?_)
        · refine P.aload_n (dq dtX7_compare_1 9 rfl) rfl ?_
          refine P.get flX7_45 (dq dtX7_compare_1 10 rfl) (by repeat (first | assumption | exact up_s | rw [up_n (by first | assumption | (apply Ne.symm; assumption) | decide | omega)])) (by rfl) ?_
          refine P.iload_n (dq dtX7_compare_1 11 rfl) rfl ?_
          refine P.iald (dq dtX7_compare_1 12 rfl) (by repeat (first | assumption | exact up_s | rw [up_n (by first | assumption | (apply Ne.symm; assumption) | decide | omega)])) (by omega) (by omega) (by omega) ?_
          refine P.aload_n (dq dtX7_compare_1 13 rfl) rfl ?_
          refine P.get flX7_45 (dq dtX7_compare_1 14 rfl) (by repeat (first | assumption | exact up_s | rw [up_n (by first | assumption | (apply Ne.symm; assumption) | decide | omega)])) (by rfl) ?_
          refine P.iload_n (dq dtX7_compare_1 15 rfl) rfl ?_
          refine P.iald (dq dtX7_compare_1 16 rfl) (by repeat (first | assumption | exact up_s | rw [up_n (by first | assumption | (apply Ne.symm; assumption) | decide | omega)])) (by omega) (by omega) (by omega) ?_
          rw [esa, esb]
          refine P.icmp_ne (t := 145) (dq dtX7_compare_1 17 rfl) rfl (by omega) (by omega) (fun c_138 => ?_) (fun c_138 => ?_)
          · refine P.iconst (dq dtX7_compare_1 20 rfl) ?_
            refine P.iret (dq dtX7_compare_1 21 rfl) rfl rfl rfl ?_
            first
            | (exfalso; omega)
            | (rw [show t + 1 - 1 = 0 by omega] at h
               have ho : ordF (S.lf a.toNat) (S.lf b.toNat) (S.ln a.toNat) (S.ln b.toNat) 0 k = if S.ln a.toNat < S.ln b.toNat then 0 else if S.ln a.toNat = S.ln b.toNat then 1 else 2 := rfl
               rw [ho] at h
               repeat (first | rw [if_pos (by omega)] at h | rw [if_neg (by omega)] at h)
               exact h)
          · refine P.iconst (dq dtX7_compare_1 18 rfl) ?_
            refine P.goto (t := 146) (dq dtX7_compare_1 19 rfl) rfl ?_
            refine P.iret (dq dtX7_compare_1 21 rfl) rfl rfl rfl ?_
            first
            | (exfalso; omega)
            | (rw [show t + 1 - 1 = 0 by omega] at h
               have ho : ordF (S.lf a.toNat) (S.lf b.toNat) (S.ln a.toNat) (S.ln b.toNat) 0 k = if S.ln a.toNat < S.ln b.toNat then 0 else if S.ln a.toNat = S.ln b.toNat then 1 else 2 := rfl
               rw [ho] at h
               repeat (first | rw [if_pos (by omega)] at h | rw [if_neg (by omega)] at h)
               exact h)
        · refine P.iconst (dq dtX7_compare_1 7 rfl) ?_
          refine P.goto (t := 146) (dq dtX7_compare_1 8 rfl) rfl ?_
          refine P.iret (dq dtX7_compare_1 21 rfl) rfl rfl rfl ?_
          first
          | (exfalso; omega)
          | (rw [show t + 1 - 1 = 0 by omega] at h
             have ho : ordF (S.lf a.toNat) (S.lf b.toNat) (S.ln a.toNat) (S.ln b.toNat) 0 k = if S.ln a.toNat < S.ln b.toNat then 0 else if S.ln a.toNat = S.ln b.toNat then 1 else 2 := rfl
             rw [ho] at h
             repeat (first | rw [if_pos (by omega)] at h | rw [if_neg (by omega)] at h)
             exact h)
      · rw [show t + 1 - 1 = (t - 1) + 1 by omega] at h
        have ho : ordF (S.lf a.toNat) (S.lf b.toNat) (S.ln a.toNat) (S.ln b.toNat) (t - 1 + 1) k = if S.lf a.toNat k = S.lf b.toNat k then ordF (S.lf a.toNat) (S.lf b.toNat) (S.ln a.toNat) (S.ln b.toNat) (t - 1) (k + 1) else if S.lf a.toNat k < S.lf b.toNat k then 0 else 2 := rfl
        rw [ho] at h
        have q1 := bf k (by omega)
        have q2 := bfb k (by omega)
        have e1 := hL.2 a k (by omega) (by omega) (by omega) (by omega)
        have e2 := hL.2 b k (by omega) (by omega) (by omega) (by omega)
        refine P.aload_n (dq dtX7_compare_0 34 rfl) rfl ?_
        refine P.get flX7_48 (dq dtX7_compare_0 35 rfl) (by repeat (first | assumption | exact up_s | rw [up_n (by first | assumption | (apply Ne.symm; assumption) | decide | omega)])) (by rfl) ?_
        refine P.bipush (dq dtX7_compare_0 36 rfl) rfl ?_
        refine P.iload_n (dq dtX7_compare_0 37 rfl) rfl ?_
        refine P.imul (dq dtX7_compare_0 38 rfl) ?_
        refine P.iload_n (dq dtX7_compare_0 39 rfl) rfl ?_
        refine P.iadd (dq dtX7_compare_0 40 rfl) ?_
        refine P.iald (dq dtX7_compare_0 41 rfl) (by repeat (first | assumption | exact up_s | rw [up_n (by first | assumption | (apply Ne.symm; assumption) | decide | omega)])) (by omega) (by omega) (by omega) ?_
        rw [e1]
        refine P.aload_n (dq dtX7_compare_0 42 rfl) rfl ?_
        refine P.get flX7_48 (dq dtX7_compare_0 43 rfl) (by repeat (first | assumption | exact up_s | rw [up_n (by first | assumption | (apply Ne.symm; assumption) | decide | omega)])) (by rfl) ?_
        refine P.bipush (dq dtX7_compare_0 44 rfl) rfl ?_
        refine P.iload_n (dq dtX7_compare_0 45 rfl) rfl ?_
        refine P.imul (dq dtX7_compare_0 46 rfl) ?_
        refine P.iload_n (dq dtX7_compare_0 47 rfl) rfl ?_
        refine P.iadd (dq dtX7_compare_0 48 rfl) ?_
        refine P.iald (dq dtX7_compare_0 49 rfl) (by repeat (first | assumption | exact up_s | rw [up_n (by first | assumption | (apply Ne.symm; assumption) | decide | omega)])) (by omega) (by omega) (by omega) ?_
        rw [e2]
        refine P.isub (dq dtX7_compare_0 50 rfl) ?_
        refine P.istore (dq dtX7_compare_0 51 rfl) (by decide) rfl rfl ?_
        refine P.iload (dq dtX7_compare_0 52 rfl) rfl ?_
        refine P.if_eq (t := 101) (dq dtX7_compare_0 53 rfl) rfl (by omega) (fun c_87 => ?_) (fun c_87 => ?_)
        · refine P.iinc (dq dtX7_compare_0 60 rfl) rfl (by decide) rfl rfl ?_
          refine P.goto (t := 40) (dq dtX7_compare_0 61 rfl) rfl ?_
          rw [if_pos (by omega)] at h
          refine P.keep [0, 1, 2, 3] ?_
          exact ih (k + 1) (by omega) (by omega) (by omega) h
        · refine P.iload (dq dtX7_compare_0 54 rfl) rfl ?_
          refine P.if_ge (t := 99) (dq dtX7_compare_0 55 rfl) rfl (by omega) (fun c_92 => ?_) (fun c_92 => ?_)
          · refine P.iconst (dq dtX7_compare_0 58 rfl) ?_
            refine P.iret (dq dtX7_compare_0 59 rfl) rfl rfl rfl ?_
            rw [if_neg (by omega)] at h
            first | (rw [if_pos (by omega)] at h; exact h) | (rw [if_neg (by omega)] at h; exact h)
          · refine P.iconst (dq dtX7_compare_0 56 rfl) ?_
            refine P.goto (t := 100) (dq dtX7_compare_0 57 rfl) rfl ?_
            refine P.iret (dq dtX7_compare_0 59 rfl) rfl rfl rfl ?_
            rw [if_neg (by omega)] at h
            first | (rw [if_pos (by omega)] at h; exact h) | (rw [if_neg (by omega)] at h; exact h)
/-- compare -/
theorem md_compare {x : CM} {d N : Nat} {σ : PH} {Q : PQ} {S : CSt} (hG : CG S) (hM : MD σ S) (hd : 2 ≤ d) {a b : Int} (ha : inR a) (hb : inR b) (h : Q (some (vI (aCmp S a b))) σ) : Call x d 0 0 mX7_compare [vR 84, vI a, vI b] N σ Q := by
  refine Call.of mcX7_compare (Nat.le_of_ble_eq_true rfl) (fun y hy => ?_)
  subst hy
  obtain ⟨wf, sz, lt, a1, a2, a3, a4, a5, fi, be, rp, cl, dg, nu, pk, wm, h84, h85, h86, h87, h88, h89, h90, h91, h92, h93, h94, h95, hW, hL⟩ := id hM
  have hGm := hG.2.1.1
  have hp := hGm.1
  have hs := hGm.2.1
  have hL9 := mul_bd (k := S.now.1.1 - 1) (s := S.now.1.2.1) (by omega) (by omega) (by omega) (by omega)
  refine P.iload_n (dq dtX7_compare_0 0 rfl) rfl ?_
  refine P.callS1 (M' := mX7_isLabel) (d' := d - 1) mlX7_232 mcX7_isLabel msX7_isLabel (dq dtX7_compare_0 1 rfl) (by omega) (Nat.le_of_ble_eq_true rfl) ?_
  refine ct_X7_isLabel (by omega) ha (fun n_1 => ?_) (fun n_1 => ?_)
  · refine P.if_eq (t := 14) (dq dtX7_compare_0 2 rfl) rfl (by omega) (fun h9 => absurd h9 (by decide)) (fun _ => ?_)
    refine P.iload_n (dq dtX7_compare_0 3 rfl) rfl ?_
    refine P.callS1 (M' := mX7_isLabel) (d' := d - 1) mlX7_232 mcX7_isLabel msX7_isLabel (dq dtX7_compare_0 4 rfl) (by omega) (Nat.le_of_ble_eq_true rfl) ?_
    refine ct_X7_isLabel (by omega) hb (fun n_8 => ?_) (fun n_8 => ?_)
    · refine P.if_ne (t := 17) (dq dtX7_compare_0 5 rfl) rfl (by omega) (fun _ => ?_) (fun h9 => absurd h9 (by decide))
      have es := hL.1 a (by omega) (by omega)
      have bn := (hG.2.2.2.2.2 a.toNat (by omega)).1
      have bf := (hG.2.2.2.2.2 a.toNat (by omega)).2
      have bz : (sz a < 0 ∧ S.it a = 0 ∧ sz a = -1) ∨ (0 ≤ sz a ∧ S.it a ≠ 0 ∧ sz a = S.ln a.toNat) := by
        rw [es]
        split
        · next q => exact Or.inl ⟨by omega, q, rfl⟩
        · next q => exact Or.inr ⟨by omega, q, rfl⟩
      have esb := hL.1 b (by omega) (by omega)
      have bnb := (hG.2.2.2.2.2 b.toNat (by omega)).1
      have bfb := (hG.2.2.2.2.2 b.toNat (by omega)).2
      have bzb : (sz b < 0 ∧ S.it b = 0 ∧ sz b = -1) ∨ (0 ≤ sz b ∧ S.it b ≠ 0 ∧ sz b = S.ln b.toNat) := by
        rw [esb]
        split
        · next q => exact Or.inl ⟨by omega, q, rfl⟩
        · next q => exact Or.inr ⟨by omega, q, rfl⟩
      refine P.aload_n (dq dtX7_compare_0 8 rfl) rfl ?_
      refine P.get flX7_45 (dq dtX7_compare_0 9 rfl) (by repeat (first | assumption | exact up_s | rw [up_n (by first | assumption | (apply Ne.symm; assumption) | decide | omega)])) (by rfl) ?_
      refine P.iload_n (dq dtX7_compare_0 10 rfl) rfl ?_
      refine P.iald (dq dtX7_compare_0 11 rfl) (by repeat (first | assumption | exact up_s | rw [up_n (by first | assumption | (apply Ne.symm; assumption) | decide | omega)])) (by omega) (by omega) (by omega) ?_
      refine P.if_lt (t := 35) (dq dtX7_compare_0 12 rfl) rfl (by omega) (fun c_23 => ?_) (fun c_23 => ?_)
      · refine P.ldc (n := -100011) (dq dtX7_compare_0 18 rfl) kcX7_239 rfl ?_
        refine P.iret (dq dtX7_compare_0 19 rfl) rfl rfl rfl ?_
        have e9 := rf2_n (it := S.it) (a := a) (b := b) (by omega) (by omega)
        unfold aCmp at h
        repeat (first | rw [if_pos (by omega)] at h | rw [if_neg (by omega)] at h)
        rw [e9] at h
        exact h
      · refine P.aload_n (dq dtX7_compare_0 13 rfl) rfl ?_
        refine P.get flX7_45 (dq dtX7_compare_0 14 rfl) (by repeat (first | assumption | exact up_s | rw [up_n (by first | assumption | (apply Ne.symm; assumption) | decide | omega)])) (by rfl) ?_
        refine P.iload_n (dq dtX7_compare_0 15 rfl) rfl ?_
        refine P.iald (dq dtX7_compare_0 16 rfl) (by repeat (first | assumption | exact up_s | rw [up_n (by first | assumption | (apply Ne.symm; assumption) | decide | omega)])) (by omega) (by omega) (by omega) ?_
        refine P.if_ge (t := 38) (dq dtX7_compare_0 17 rfl) rfl (by omega) (fun c_32 => ?_) (fun c_32 => ?_)
        · refine P.iconst (dq dtX7_compare_0 20 rfl) ?_
          refine P.istore_n (dq dtX7_compare_0 21 rfl) (by decide) rfl rfl ?_
          have e9 := rf2_z (it := S.it) (a := a) (b := b) (by omega) (by omega)
          unfold aCmp at h
          repeat (first | rw [if_pos (by omega)] at h | rw [if_neg (by omega)] at h)
          refine P.keep [0, 1, 2, 3] ?_
          exact lp_cmpM hG h84 h94 h95 hL (by omega) (by omega) (by omega) (by omega) ((min (S.ln a.toNat) (S.ln b.toNat)).toNat + 1) 0 (by omega) (by omega) (by omega) (by simpa using h)
        · refine P.ldc (n := -100011) (dq dtX7_compare_0 18 rfl) kcX7_239 rfl ?_
          refine P.iret (dq dtX7_compare_0 19 rfl) rfl rfl rfl ?_
          have e9 := rf2_n (it := S.it) (a := a) (b := b) (by omega) (by omega)
          unfold aCmp at h
          repeat (first | rw [if_pos (by omega)] at h | rw [if_neg (by omega)] at h)
          rw [e9] at h
          exact h
    · refine P.if_ne (t := 17) (dq dtX7_compare_0 5 rfl) rfl (by omega) (fun h9 => absurd h9 (by decide)) (fun _ => ?_)
      refine P.ldc (n := -100001) (dq dtX7_compare_0 6 rfl) kcX7_163 rfl ?_
      refine P.iret (dq dtX7_compare_0 7 rfl) rfl rfl rfl ?_
      have e9 := rf2_u (it := S.it) (a := a) (b := b) (by omega)
      unfold aCmp at h
      repeat (first | rw [if_pos (by omega)] at h | rw [if_neg (by omega)] at h)
      rw [e9] at h
      exact h
  · refine P.if_eq (t := 14) (dq dtX7_compare_0 2 rfl) rfl (by omega) (fun _ => ?_) (fun h9 => absurd h9 (by decide))
    refine P.ldc (n := -100001) (dq dtX7_compare_0 6 rfl) kcX7_163 rfl ?_
    refine P.iret (dq dtX7_compare_0 7 rfl) rfl rfl rfl ?_
    have e9 := rf2_u (it := S.it) (a := a) (b := b) (by omega)
    unfold aCmp at h
    repeat (first | rw [if_pos (by omega)] at h | rw [if_neg (by omega)] at h)
    rw [e9] at h
    exact h
theorem dgF_n {f : Int → Int} : ∀ (t : Nat) (k v : Int), 0 ≤ v → dgF f t k v = -1 ∨ 0 ≤ dgF f t k v := by
  intro t
  induction t with
  | zero => intro k v h; exact Or.inr h
  | succ t ih =>
    intro k v h
    show (if 48 ≤ f k ∧ f k ≤ 57 then dgF f t (k + 1) (10 * v + f k - 48) else -1) = -1 ∨ 0 ≤ (if 48 ≤ f k ∧ f k ≤ 57 then dgF f t (k + 1) (10 * v + f k - 48) else -1)
    split
    · exact ih _ _ (by omega)
    · exact Or.inl rfl
theorem vl_0 {x : CX} {d N : Nat} {σ : PH} {Q : PQ} {S : CSt} (hG : CG S) {sz lt : Int → Int} {p s u l fi be rp cl dg nu pk wm : Int} (h84 : σ 84 = mdO p s u l fi be rp cl dg nu pk wm) (h94 : σ 94 = pcI 0 3 sz) (h95 : σ 95 = pcI 0 72 lt) (hL : LR S sz lt) {a : Int} (ha3 : 0 ≤ a ∧ a < 3) (esa : sz a = S.ln a.toNat) {g fr k v : Int} (hk : inR k) (h : Q (some (vI (-100014))) σ) : P x d mX7_value Q (0, 0) 85 [some (vR 84), some (vI a), some (vI g), some (vI fr), some (vI 0), some (vI v), some (vI k)] [] N σ := by
  have bn := (hG.2.2.2.2.2 a.toNat (by omega)).1
  refine P.iload (dq dtX7_value_0 50 rfl) rfl ?_
  refine P.aload_n (dq dtX7_value_0 51 rfl) rfl ?_
  refine P.get flX7_45 (dq dtX7_value_0 52 rfl) (by repeat (first | assumption | exact up_s | rw [up_n (by first | assumption | (apply Ne.symm; assumption) | decide | omega)])) (by rfl) ?_
  refine P.iload_n (dq dtX7_value_0 53 rfl) rfl ?_
  refine P.iald (dq dtX7_value_0 54 rfl) (by repeat (first | assumption | exact up_s | rw [up_n (by first | assumption | (apply Ne.symm; assumption) | decide | omega)])) (by omega) (by omega) (by omega) ?_
  rw [esa]
  refine P.icmp_ge (t := 147) (dq dtX7_value_0 55 rfl) rfl (by omega) (by omega) (fun c_93 => ?_) (fun c_93 => ?_)
  · refine P.iload (dq dtX7_value_1 21 rfl) rfl ?_
    refine P.if_ne (t := 157) (dq dtX7_value_1 22 rfl) rfl (by omega) (fun h9 => absurd h9 (by decide)) (fun _ => ?_)
    refine P.ldc (n := -100014) (dq dtX7_value_1 23 rfl) kcX7_244 rfl ?_
    refine P.goto (t := 169) (dq dtX7_value_1 24 rfl) rfl ?_
    refine P.iret (dq dtX7_value_1 31 rfl) rfl rfl rfl ?_
    exact h
  · refine P.iload (dq dtX7_value_0 56 rfl) rfl ?_
    refine P.if_eq (t := 147) (dq dtX7_value_0 57 rfl) rfl (by omega) (fun _ => ?_) (fun h9 => absurd h9 (by decide))
    refine P.iload (dq dtX7_value_1 21 rfl) rfl ?_
    refine P.if_ne (t := 157) (dq dtX7_value_1 22 rfl) rfl (by omega) (fun h9 => absurd h9 (by decide)) (fun _ => ?_)
    refine P.ldc (n := -100014) (dq dtX7_value_1 23 rfl) kcX7_244 rfl ?_
    refine P.goto (t := 169) (dq dtX7_value_1 24 rfl) rfl ?_
    refine P.iret (dq dtX7_value_1 31 rfl) rfl rfl rfl ?_
    exact h
theorem aVal_g {S : CSt} {a g : Int} (e : rfL S.it a = 0) (hg : ngV (S.lf a.toNat) (S.ln a.toNat) = g) (hx : g < S.ln a.toNat ∧ S.ln a.toNat - g ≤ 4) : aVal S a = if dgF (S.lf a.toNat) (S.ln a.toNat - g).toNat g 0 = -1 then -100014 else if g = 1 then -(dgF (S.lf a.toNat) (S.ln a.toNat - g).toNat g 0) else dgF (S.lf a.toNat) (S.ln a.toNat - g).toNat g 0 := by
  have en : nmV (S.lf a.toNat) (S.ln a.toNat) = dgF (S.lf a.toNat) (S.ln a.toNat - g).toNat g 0 := by
    unfold nmV
    rw [hg]
    exact if_pos hx
  unfold aVal
  rw [if_neg (by omega), en, hg]
theorem lp_valM {x : CX} {d N : Nat} {σ : PH} {Q : PQ} {S : CSt} (hG : CG S) {sz lt : Int → Int} {p s u l fi be rp cl dg nu pk wm : Int} (h84 : σ 84 = mdO p s u l fi be rp cl dg nu pk wm) (h94 : σ 94 = pcI 0 3 sz) (h95 : σ 95 = pcI 0 72 lt) (hL : LR S sz lt) {a : Int} (ha3 : 0 ≤ a ∧ a < 3) (esa : sz a = S.ln a.toNat) (hd : 2 ≤ d) {g fr : Int} (hg : g = 0 ∨ g = 1) : ∀ (t : Nat) (k v : Int), 0 < t → 0 ≤ k → 0 ≤ v → k + t = S.ln a.toNat + 1 → Q (some (vI (if dgF (S.lf a.toNat) (t - 1) k v = -1 then -100014 else if g = 1 then -(dgF (S.lf a.toNat) (t - 1) k v) else dgF (S.lf a.toNat) (t - 1) k v))) σ → P x d mX7_value Q (0, 0) 85 [some (vR 84), some (vI a), some (vI g), some (vI fr), some (vI 1), some (vI v), some (vI k)] [] N σ := by
  intro t
  induction t with
  | zero =>
    intro k v h00 hk hv ht h
    exfalso; omega
  | succ t ih =>
    intro k v h00 hk hv ht h
    have bn := (hG.2.2.2.2.2 a.toNat (by omega)).1
    have bf := (hG.2.2.2.2.2 a.toNat (by omega)).2
    refine P.iload (dq dtX7_value_0 50 rfl) rfl ?_
    refine P.aload_n (dq dtX7_value_0 51 rfl) rfl ?_
    refine P.get flX7_45 (dq dtX7_value_0 52 rfl) (by repeat (first | assumption | exact up_s | rw [up_n (by first | assumption | (apply Ne.symm; assumption) | decide | omega)])) (by rfl) ?_
    refine P.iload_n (dq dtX7_value_0 53 rfl) rfl ?_
    refine P.iald (dq dtX7_value_0 54 rfl) (by repeat (first | assumption | exact up_s | rw [up_n (by first | assumption | (apply Ne.symm; assumption) | decide | omega)])) (by omega) (by omega) (by omega) ?_
    rw [esa]
    refine P.icmp_ge (t := 147) (dq dtX7_value_0 55 rfl) rfl (by omega) (by omega) (fun c_93 => ?_) (fun c_93 => ?_)
    · refine P.iload (dq dtX7_value_1 21 rfl) rfl ?_
      refine P.if_ne (t := 157) (dq dtX7_value_1 22 rfl) rfl (by omega) (fun c_149 => ?_) (fun c_149 => ?_)
      · refine P.iload_n (dq dtX7_value_1 25 rfl) rfl ?_
        refine P.if_eq (t := 167) (dq dtX7_value_1 26 rfl) rfl (by omega) (fun c_158 => ?_) (fun c_158 => ?_)
        · refine P.iload (dq dtX7_value_1 30 rfl) rfl ?_
          refine P.iret (dq dtX7_value_1 31 rfl) rfl rfl rfl ?_
          first
          | (exfalso; omega)
          | (rw [show t + 1 - 1 = 0 by omega] at h
             have hO : dgF (S.lf a.toNat) 0 k v = v := rfl
             rw [hO, if_neg (by omega)] at h
             first | (rw [if_pos (by omega)] at h; exact h) | (rw [if_neg (by omega)] at h; exact h))
        · refine P.iload (dq dtX7_value_1 27 rfl) rfl ?_
          refine P.ineg (dq dtX7_value_1 28 rfl) ?_
          refine P.goto (t := 169) (dq dtX7_value_1 29 rfl) rfl ?_
          refine P.iret (dq dtX7_value_1 31 rfl) rfl rfl rfl ?_
          first
          | (exfalso; omega)
          | (rw [show t + 1 - 1 = 0 by omega] at h
             have hO : dgF (S.lf a.toNat) 0 k v = v := rfl
             rw [hO, if_neg (by omega)] at h
             first | (rw [if_pos (by omega)] at h; exact h) | (rw [if_neg (by omega)] at h; exact h))
      · refine P.ldc (n := -100014) (dq dtX7_value_1 23 rfl) kcX7_244 rfl ?_
        refine P.goto (t := 169) (dq dtX7_value_1 24 rfl) rfl ?_
        refine P.iret (dq dtX7_value_1 31 rfl) rfl rfl rfl ?_
        first
        | (exfalso; omega)
        | (rw [show t + 1 - 1 = 0 by omega] at h
           have hO : dgF (S.lf a.toNat) 0 k v = v := rfl
           rw [hO, if_neg (by omega)] at h
           first | (rw [if_pos (by omega)] at h; exact h) | (rw [if_neg (by omega)] at h; exact h))
    · refine P.iload (dq dtX7_value_0 56 rfl) rfl ?_
      refine P.if_eq (t := 147) (dq dtX7_value_0 57 rfl) rfl (by omega) (fun c_98 => ?_) (fun c_98 => ?_)
      · refine P.iload (dq dtX7_value_1 21 rfl) rfl ?_
        refine P.if_ne (t := 157) (dq dtX7_value_1 22 rfl) rfl (by omega) (fun c_149 => ?_) (fun c_149 => ?_)
        · refine P.iload_n (dq dtX7_value_1 25 rfl) rfl ?_
          refine P.if_eq (t := 167) (dq dtX7_value_1 26 rfl) rfl (by omega) (fun c_158 => ?_) (fun c_158 => ?_)
          · refine P.iload (dq dtX7_value_1 30 rfl) rfl ?_
            refine P.iret (dq dtX7_value_1 31 rfl) rfl rfl rfl ?_
            first
            | (exfalso; omega)
            | (rw [show t + 1 - 1 = 0 by omega] at h
               have hO : dgF (S.lf a.toNat) 0 k v = v := rfl
               rw [hO, if_neg (by omega)] at h
               first | (rw [if_pos (by omega)] at h; exact h) | (rw [if_neg (by omega)] at h; exact h))
          · refine P.iload (dq dtX7_value_1 27 rfl) rfl ?_
            refine P.ineg (dq dtX7_value_1 28 rfl) ?_
            refine P.goto (t := 169) (dq dtX7_value_1 29 rfl) rfl ?_
            refine P.iret (dq dtX7_value_1 31 rfl) rfl rfl rfl ?_
            first
            | (exfalso; omega)
            | (rw [show t + 1 - 1 = 0 by omega] at h
               have hO : dgF (S.lf a.toNat) 0 k v = v := rfl
               rw [hO, if_neg (by omega)] at h
               first | (rw [if_pos (by omega)] at h; exact h) | (rw [if_neg (by omega)] at h; exact h))
        · refine P.ldc (n := -100014) (dq dtX7_value_1 23 rfl) kcX7_244 rfl ?_
          refine P.goto (t := 169) (dq dtX7_value_1 24 rfl) rfl ?_
          refine P.iret (dq dtX7_value_1 31 rfl) rfl rfl rfl ?_
          first
          | (exfalso; omega)
          | (rw [show t + 1 - 1 = 0 by omega] at h
             have hO : dgF (S.lf a.toNat) 0 k v = v := rfl
             rw [hO, if_neg (by omega)] at h
             first | (rw [if_pos (by omega)] at h; exact h) | (rw [if_neg (by omega)] at h; exact h))
      · rw [show t + 1 - 1 = (t - 1) + 1 by omega] at h
        have hO : dgF (S.lf a.toNat) (t - 1 + 1) k v = if 48 ≤ S.lf a.toNat k ∧ S.lf a.toNat k ≤ 57 then dgF (S.lf a.toNat) (t - 1) (k + 1) (10 * v + S.lf a.toNat k - 48) else -1 := rfl
        rw [hO] at h
        have e1 := hL.2 a k (by omega) (by omega) (by omega) (by omega)
        have q1 := bf k (by omega)
        refine P.aload_n (dq dtX7_value_0 58 rfl) rfl ?_
        refine P.get flX7_48 (dq dtX7_value_0 59 rfl) (by repeat (first | assumption | exact up_s | rw [up_n (by first | assumption | (apply Ne.symm; assumption) | decide | omega)])) (by rfl) ?_
        refine P.bipush (dq dtX7_value_0 60 rfl) rfl ?_
        refine P.iload_n (dq dtX7_value_0 61 rfl) rfl ?_
        refine P.imul (dq dtX7_value_0 62 rfl) ?_
        refine P.iload (dq dtX7_value_0 63 rfl) rfl ?_
        refine P.iadd (dq dtX7_value_1 0 rfl) ?_
        refine P.iald (dq dtX7_value_1 1 rfl) (by repeat (first | assumption | exact up_s | rw [up_n (by first | assumption | (apply Ne.symm; assumption) | decide | omega)])) (by omega) (by omega) (by omega) ?_
        rw [e1]
        refine P.callS1 (M' := mX7_isDigit) (d' := d - 1) mlX7_98 mcX7_isDigit msX7_isDigit (dq dtX7_value_1 2 rfl) (by omega) (Nat.le_of_ble_eq_true rfl) ?_
        refine ct_X7_isDigit (by omega) (by omega) (fun n_113 => ?_) (fun n_113 => ?_)
        · refine P.istore (dq dtX7_value_1 3 rfl) (by decide) rfl rfl ?_
          refine P.bipush (dq dtX7_value_1 4 rfl) rfl ?_
          refine P.iload (dq dtX7_value_1 5 rfl) rfl ?_
          refine P.imul (dq dtX7_value_1 6 rfl) ?_
          refine P.aload_n (dq dtX7_value_1 7 rfl) rfl ?_
          refine P.get flX7_48 (dq dtX7_value_1 8 rfl) (by repeat (first | assumption | exact up_s | rw [up_n (by first | assumption | (apply Ne.symm; assumption) | decide | omega)])) (by rfl) ?_
          refine P.bipush (dq dtX7_value_1 9 rfl) rfl ?_
          refine P.iload_n (dq dtX7_value_1 10 rfl) rfl ?_
          refine P.imul (dq dtX7_value_1 11 rfl) ?_
          refine P.iload (dq dtX7_value_1 12 rfl) rfl ?_
          refine P.iadd (dq dtX7_value_1 13 rfl) ?_
          refine P.iald (dq dtX7_value_1 14 rfl) (by repeat (first | assumption | exact up_s | rw [up_n (by first | assumption | (apply Ne.symm; assumption) | decide | omega)])) (by omega) (by omega) (by omega) ?_
          rw [e1]
          refine P.iadd (dq dtX7_value_1 15 rfl) ?_
          refine P.bipush (dq dtX7_value_1 16 rfl) rfl ?_
          refine P.isub (dq dtX7_value_1 17 rfl) ?_
          refine P.istore (dq dtX7_value_1 18 rfl) (by decide) rfl rfl ?_
          refine P.iinc (dq dtX7_value_1 19 rfl) rfl (by decide) rfl rfl ?_
          refine P.goto (t := 85) (dq dtX7_value_1 20 rfl) rfl ?_
          first
          | (simp only [if_pos n_113] at h; exact ih (k + 1) (10 * v + S.lf a.toNat k - 48) (by omega) (by omega) (by omega) (by omega) h)
          | (rw [if_neg n_113, if_pos rfl] at h; exact vl_0 hG h84 h94 h95 hL ha3 esa (by omega) h)
        · refine P.istore (dq dtX7_value_1 3 rfl) (by decide) rfl rfl ?_
          refine P.bipush (dq dtX7_value_1 4 rfl) rfl ?_
          refine P.iload (dq dtX7_value_1 5 rfl) rfl ?_
          refine P.imul (dq dtX7_value_1 6 rfl) ?_
          refine P.aload_n (dq dtX7_value_1 7 rfl) rfl ?_
          refine P.get flX7_48 (dq dtX7_value_1 8 rfl) (by repeat (first | assumption | exact up_s | rw [up_n (by first | assumption | (apply Ne.symm; assumption) | decide | omega)])) (by rfl) ?_
          refine P.bipush (dq dtX7_value_1 9 rfl) rfl ?_
          refine P.iload_n (dq dtX7_value_1 10 rfl) rfl ?_
          refine P.imul (dq dtX7_value_1 11 rfl) ?_
          refine P.iload (dq dtX7_value_1 12 rfl) rfl ?_
          refine P.iadd (dq dtX7_value_1 13 rfl) ?_
          refine P.iald (dq dtX7_value_1 14 rfl) (by repeat (first | assumption | exact up_s | rw [up_n (by first | assumption | (apply Ne.symm; assumption) | decide | omega)])) (by omega) (by omega) (by omega) ?_
          rw [e1]
          refine P.iadd (dq dtX7_value_1 15 rfl) ?_
          refine P.bipush (dq dtX7_value_1 16 rfl) rfl ?_
          refine P.isub (dq dtX7_value_1 17 rfl) ?_
          refine P.istore (dq dtX7_value_1 18 rfl) (by decide) rfl rfl ?_
          refine P.iinc (dq dtX7_value_1 19 rfl) rfl (by decide) rfl rfl ?_
          refine P.goto (t := 85) (dq dtX7_value_1 20 rfl) rfl ?_
          first
          | (simp only [if_pos n_113] at h; exact ih (k + 1) (10 * v + S.lf a.toNat k - 48) (by omega) (by omega) (by omega) (by omega) h)
          | (rw [if_neg n_113, if_pos rfl] at h; exact vl_0 hG h84 h94 h95 hL ha3 esa (by omega) h)
/-- value -/
theorem md_value {x : CM} {d N : Nat} {σ : PH} {Q : PQ} {S : CSt} (hG : CG S) (hM : MD σ S) (hd : 3 ≤ d) {a : Int} (ha : inR a) (h : Q (some (vI (aVal S a))) σ) : Call x d 0 0 mX7_value [vR 84, vI a] N σ Q := by
  refine Call.of mcX7_value (Nat.le_of_ble_eq_true rfl) (fun y hy => ?_)
  subst hy
  obtain ⟨wf, sz, lt, a1, a2, a3, a4, a5, fi, be, rp, cl, dg, nu, pk, wm, h84, h85, h86, h87, h88, h89, h90, h91, h92, h93, h94, h95, hW, hL⟩ := id hM
  have hGm := hG.2.1.1
  have hp := hGm.1
  have hs := hGm.2.1
  have hL9 := mul_bd (k := S.now.1.1 - 1) (s := S.now.1.2.1) (by omega) (by omega) (by omega) (by omega)
  refine P.iload_n (dq dtX7_value_0 0 rfl) rfl ?_
  refine P.callS1 (M' := mX7_isLabel) (d' := d - 1) mlX7_232 mcX7_isLabel msX7_isLabel (dq dtX7_value_0 1 rfl) (by omega) (Nat.le_of_ble_eq_true rfl) ?_
  refine ct_X7_isLabel (by omega) ha (fun n_1 => ?_) (fun n_1 => ?_)
  · refine P.if_ne (t := 10) (dq dtX7_value_0 2 rfl) rfl (by omega) (fun _ => ?_) (fun h9 => absurd h9 (by decide))
    have es := hL.1 a (by omega) (by omega)
    have bn := (hG.2.2.2.2.2 a.toNat (by omega)).1
    have bf := (hG.2.2.2.2.2 a.toNat (by omega)).2
    have bz : (sz a < 0 ∧ S.it a = 0 ∧ sz a = -1) ∨ (0 ≤ sz a ∧ S.it a ≠ 0 ∧ sz a = S.ln a.toNat) := by
      rw [es]
      split
      · next q => exact Or.inl ⟨by omega, q, rfl⟩
      · next q => exact Or.inr ⟨by omega, q, rfl⟩
    refine P.aload_n (dq dtX7_value_0 5 rfl) rfl ?_
    refine P.get flX7_45 (dq dtX7_value_0 6 rfl) (by repeat (first | assumption | exact up_s | rw [up_n (by first | assumption | (apply Ne.symm; assumption) | decide | omega)])) (by rfl) ?_
    refine P.iload_n (dq dtX7_value_0 7 rfl) rfl ?_
    refine P.iald (dq dtX7_value_0 8 rfl) (by repeat (first | assumption | exact up_s | rw [up_n (by first | assumption | (apply Ne.symm; assumption) | decide | omega)])) (by omega) (by omega) (by omega) ?_
    refine P.if_ge (t := 22) (dq dtX7_value_0 9 rfl) rfl (by omega) (fun c_16 => ?_) (fun c_16 => ?_)
    · have e9 := rfL_z (it := S.it) (a := a) (by omega) (by omega)
      have esa : sz a = S.ln a.toNat := by omega
      have el0 := hL.2 a 0 (by omega) (by omega) (by omega) (by omega)
      rw [Int.add_zero] at el0
      refine P.aload_n (dq dtX7_value_0 12 rfl) rfl ?_
      refine P.get flX7_45 (dq dtX7_value_0 13 rfl) (by repeat (first | assumption | exact up_s | rw [up_n (by first | assumption | (apply Ne.symm; assumption) | decide | omega)])) (by rfl) ?_
      refine P.iload_n (dq dtX7_value_0 14 rfl) rfl ?_
      refine P.iald (dq dtX7_value_0 15 rfl) (by repeat (first | assumption | exact up_s | rw [up_n (by first | assumption | (apply Ne.symm; assumption) | decide | omega)])) (by omega) (by omega) (by omega) ?_
      rw [esa]
      refine P.if_le (t := 49) (dq dtX7_value_0 16 rfl) rfl (by omega) (fun c_28 => ?_) (fun c_28 => ?_)
      · refine P.iconst (dq dtX7_value_0 27 rfl) ?_
        refine P.istore_n (dq dtX7_value_0 28 rfl) (by decide) rfl rfl ?_
        refine P.iload_n (dq dtX7_value_0 29 rfl) rfl ?_
        refine P.if_eq (t := 59) (dq dtX7_value_0 30 rfl) rfl (by omega) (fun _ => ?_) (fun h9 => absurd h9 (by decide))
        refine P.iconst (dq dtX7_value_0 33 rfl) ?_
        refine P.istore_n (dq dtX7_value_0 34 rfl) (by decide) rfl rfl ?_
        refine P.aload_n (dq dtX7_value_0 35 rfl) rfl ?_
        refine P.get flX7_45 (dq dtX7_value_0 36 rfl) (by repeat (first | assumption | exact up_s | rw [up_n (by first | assumption | (apply Ne.symm; assumption) | decide | omega)])) (by rfl) ?_
        refine P.iload_n (dq dtX7_value_0 37 rfl) rfl ?_
        refine P.iald (dq dtX7_value_0 38 rfl) (by repeat (first | assumption | exact up_s | rw [up_n (by first | assumption | (apply Ne.symm; assumption) | decide | omega)])) (by omega) (by omega) (by omega) ?_
        rw [esa]
        refine P.iload_n (dq dtX7_value_0 39 rfl) rfl ?_
        refine P.isub (dq dtX7_value_0 40 rfl) ?_
        refine P.i2l (dq dtX7_value_0 41 rfl) (by omega) ?_
        refine P.lconst (z := 1) (dq dtX7_value_0 42 rfl) rfl ?_
        refine P.ldc2 (n := 4) (dq dtX7_value_0 43 rfl) kcX7_242 rfl ?_
        refine P.callS3 (M' := mX7_in) (d' := d - 1) mlX7_65 mcX7_in msX7_in (dq dtX7_value_0 44 rfl) (by omega) (Nat.le_of_ble_eq_true rfl) ?_
        refine ct_X7_in (by omega) (by omega) (by omega) (fun n_74 => ?_) (fun n_74 => ?_)
        · refine P.istore (dq dtX7_value_0 45 rfl) (by decide) rfl rfl ?_
          refine P.iconst (dq dtX7_value_0 46 rfl) ?_
          refine P.istore (dq dtX7_value_0 47 rfl) (by decide) rfl rfl ?_
          refine P.iload_n (dq dtX7_value_0 48 rfl) rfl ?_
          refine P.istore (dq dtX7_value_0 49 rfl) (by decide) rfl rfl ?_
          first
          | exact vl_0 hG h84 h94 h95 hL (by omega) esa (by omega) (cgQ h (aVal_n e9 (ngV_0 (by omega)) (Or.inl (by omega))))
          | exact vl_0 hG h84 h94 h95 hL (by omega) esa (by omega) (cgQ h (aVal_n e9 (ngV_1 (by omega)) (Or.inl (by omega))))
          | exact lp_valM hG h84 h94 h95 hL (by omega) esa (by omega) (by omega) ((S.ln a.toNat - 0).toNat + 1) 0 0 (by omega) (by omega) (by omega) (by omega) (cgQ h (aVal_g e9 (ngV_0 (by omega)) (by omega)))
          | exact lp_valM hG h84 h94 h95 hL (by omega) esa (by omega) (by omega) ((S.ln a.toNat - 1).toNat + 1) 1 0 (by omega) (by omega) (by omega) (by omega) (cgQ h (aVal_g e9 (ngV_1 (by omega)) (by omega)))
        · refine P.istore (dq dtX7_value_0 45 rfl) (by decide) rfl rfl ?_
          refine P.iconst (dq dtX7_value_0 46 rfl) ?_
          refine P.istore (dq dtX7_value_0 47 rfl) (by decide) rfl rfl ?_
          refine P.iload_n (dq dtX7_value_0 48 rfl) rfl ?_
          refine P.istore (dq dtX7_value_0 49 rfl) (by decide) rfl rfl ?_
          first
          | exact vl_0 hG h84 h94 h95 hL (by omega) esa (by omega) (cgQ h (aVal_n e9 (ngV_0 (by omega)) (Or.inl (by omega))))
          | exact vl_0 hG h84 h94 h95 hL (by omega) esa (by omega) (cgQ h (aVal_n e9 (ngV_1 (by omega)) (Or.inl (by omega))))
          | exact lp_valM hG h84 h94 h95 hL (by omega) esa (by omega) (by omega) ((S.ln a.toNat - 0).toNat + 1) 0 0 (by omega) (by omega) (by omega) (by omega) (cgQ h (aVal_g e9 (ngV_0 (by omega)) (by omega)))
          | exact lp_valM hG h84 h94 h95 hL (by omega) esa (by omega) (by omega) ((S.ln a.toNat - 1).toNat + 1) 1 0 (by omega) (by omega) (by omega) (by omega) (cgQ h (aVal_g e9 (ngV_1 (by omega)) (by omega)))
      · have bf0 := bf 0 (by omega)
        refine P.aload_n (dq dtX7_value_0 17 rfl) rfl ?_
        refine P.get flX7_48 (dq dtX7_value_0 18 rfl) (by repeat (first | assumption | exact up_s | rw [up_n (by first | assumption | (apply Ne.symm; assumption) | decide | omega)])) (by rfl) ?_
        refine P.bipush (dq dtX7_value_0 19 rfl) rfl ?_
        refine P.iload_n (dq dtX7_value_0 20 rfl) rfl ?_
        refine P.imul (dq dtX7_value_0 21 rfl) ?_
        refine P.iald (dq dtX7_value_0 22 rfl) (by repeat (first | assumption | exact up_s | rw [up_n (by first | assumption | (apply Ne.symm; assumption) | decide | omega)])) (by omega) (by omega) (by omega) ?_
        rw [el0]
        refine P.bipush (dq dtX7_value_0 23 rfl) rfl ?_
        refine P.icmp_ne (t := 49) (dq dtX7_value_0 24 rfl) rfl (by omega) (by omega) (fun c_42 => ?_) (fun c_42 => ?_)
        · refine P.iconst (dq dtX7_value_0 27 rfl) ?_
          refine P.istore_n (dq dtX7_value_0 28 rfl) (by decide) rfl rfl ?_
          refine P.iload_n (dq dtX7_value_0 29 rfl) rfl ?_
          refine P.if_eq (t := 59) (dq dtX7_value_0 30 rfl) rfl (by omega) (fun _ => ?_) (fun h9 => absurd h9 (by decide))
          refine P.iconst (dq dtX7_value_0 33 rfl) ?_
          refine P.istore_n (dq dtX7_value_0 34 rfl) (by decide) rfl rfl ?_
          refine P.aload_n (dq dtX7_value_0 35 rfl) rfl ?_
          refine P.get flX7_45 (dq dtX7_value_0 36 rfl) (by repeat (first | assumption | exact up_s | rw [up_n (by first | assumption | (apply Ne.symm; assumption) | decide | omega)])) (by rfl) ?_
          refine P.iload_n (dq dtX7_value_0 37 rfl) rfl ?_
          refine P.iald (dq dtX7_value_0 38 rfl) (by repeat (first | assumption | exact up_s | rw [up_n (by first | assumption | (apply Ne.symm; assumption) | decide | omega)])) (by omega) (by omega) (by omega) ?_
          rw [esa]
          refine P.iload_n (dq dtX7_value_0 39 rfl) rfl ?_
          refine P.isub (dq dtX7_value_0 40 rfl) ?_
          refine P.i2l (dq dtX7_value_0 41 rfl) (by omega) ?_
          refine P.lconst (z := 1) (dq dtX7_value_0 42 rfl) rfl ?_
          refine P.ldc2 (n := 4) (dq dtX7_value_0 43 rfl) kcX7_242 rfl ?_
          refine P.callS3 (M' := mX7_in) (d' := d - 1) mlX7_65 mcX7_in msX7_in (dq dtX7_value_0 44 rfl) (by omega) (Nat.le_of_ble_eq_true rfl) ?_
          refine ct_X7_in (by omega) (by omega) (by omega) (fun n_74 => ?_) (fun n_74 => ?_)
          · refine P.istore (dq dtX7_value_0 45 rfl) (by decide) rfl rfl ?_
            refine P.iconst (dq dtX7_value_0 46 rfl) ?_
            refine P.istore (dq dtX7_value_0 47 rfl) (by decide) rfl rfl ?_
            refine P.iload_n (dq dtX7_value_0 48 rfl) rfl ?_
            refine P.istore (dq dtX7_value_0 49 rfl) (by decide) rfl rfl ?_
            first
            | exact vl_0 hG h84 h94 h95 hL (by omega) esa (by omega) (cgQ h (aVal_n e9 (ngV_0 (by omega)) (Or.inl (by omega))))
            | exact vl_0 hG h84 h94 h95 hL (by omega) esa (by omega) (cgQ h (aVal_n e9 (ngV_1 (by omega)) (Or.inl (by omega))))
            | exact lp_valM hG h84 h94 h95 hL (by omega) esa (by omega) (by omega) ((S.ln a.toNat - 0).toNat + 1) 0 0 (by omega) (by omega) (by omega) (by omega) (cgQ h (aVal_g e9 (ngV_0 (by omega)) (by omega)))
            | exact lp_valM hG h84 h94 h95 hL (by omega) esa (by omega) (by omega) ((S.ln a.toNat - 1).toNat + 1) 1 0 (by omega) (by omega) (by omega) (by omega) (cgQ h (aVal_g e9 (ngV_1 (by omega)) (by omega)))
          · refine P.istore (dq dtX7_value_0 45 rfl) (by decide) rfl rfl ?_
            refine P.iconst (dq dtX7_value_0 46 rfl) ?_
            refine P.istore (dq dtX7_value_0 47 rfl) (by decide) rfl rfl ?_
            refine P.iload_n (dq dtX7_value_0 48 rfl) rfl ?_
            refine P.istore (dq dtX7_value_0 49 rfl) (by decide) rfl rfl ?_
            first
            | exact vl_0 hG h84 h94 h95 hL (by omega) esa (by omega) (cgQ h (aVal_n e9 (ngV_0 (by omega)) (Or.inl (by omega))))
            | exact vl_0 hG h84 h94 h95 hL (by omega) esa (by omega) (cgQ h (aVal_n e9 (ngV_1 (by omega)) (Or.inl (by omega))))
            | exact lp_valM hG h84 h94 h95 hL (by omega) esa (by omega) (by omega) ((S.ln a.toNat - 0).toNat + 1) 0 0 (by omega) (by omega) (by omega) (by omega) (cgQ h (aVal_g e9 (ngV_0 (by omega)) (by omega)))
            | exact lp_valM hG h84 h94 h95 hL (by omega) esa (by omega) (by omega) ((S.ln a.toNat - 1).toNat + 1) 1 0 (by omega) (by omega) (by omega) (by omega) (cgQ h (aVal_g e9 (ngV_1 (by omega)) (by omega)))
        · refine P.iconst (dq dtX7_value_0 25 rfl) ?_
          refine P.goto (t := 50) (dq dtX7_value_0 26 rfl) rfl ?_
          refine P.istore_n (dq dtX7_value_0 28 rfl) (by decide) rfl rfl ?_
          refine P.iload_n (dq dtX7_value_0 29 rfl) rfl ?_
          refine P.if_eq (t := 59) (dq dtX7_value_0 30 rfl) rfl (by omega) (fun h9 => absurd h9 (by decide)) (fun _ => ?_)
          refine P.iconst (dq dtX7_value_0 31 rfl) ?_
          refine P.goto (t := 60) (dq dtX7_value_0 32 rfl) rfl ?_
          refine P.istore_n (dq dtX7_value_0 34 rfl) (by decide) rfl rfl ?_
          refine P.aload_n (dq dtX7_value_0 35 rfl) rfl ?_
          refine P.get flX7_45 (dq dtX7_value_0 36 rfl) (by repeat (first | assumption | exact up_s | rw [up_n (by first | assumption | (apply Ne.symm; assumption) | decide | omega)])) (by rfl) ?_
          refine P.iload_n (dq dtX7_value_0 37 rfl) rfl ?_
          refine P.iald (dq dtX7_value_0 38 rfl) (by repeat (first | assumption | exact up_s | rw [up_n (by first | assumption | (apply Ne.symm; assumption) | decide | omega)])) (by omega) (by omega) (by omega) ?_
          rw [esa]
          refine P.iload_n (dq dtX7_value_0 39 rfl) rfl ?_
          refine P.isub (dq dtX7_value_0 40 rfl) ?_
          refine P.i2l (dq dtX7_value_0 41 rfl) (by omega) ?_
          refine P.lconst (z := 1) (dq dtX7_value_0 42 rfl) rfl ?_
          refine P.ldc2 (n := 4) (dq dtX7_value_0 43 rfl) kcX7_242 rfl ?_
          refine P.callS3 (M' := mX7_in) (d' := d - 1) mlX7_65 mcX7_in msX7_in (dq dtX7_value_0 44 rfl) (by omega) (Nat.le_of_ble_eq_true rfl) ?_
          refine ct_X7_in (by omega) (by omega) (by omega) (fun n_74 => ?_) (fun n_74 => ?_)
          · refine P.istore (dq dtX7_value_0 45 rfl) (by decide) rfl rfl ?_
            refine P.iconst (dq dtX7_value_0 46 rfl) ?_
            refine P.istore (dq dtX7_value_0 47 rfl) (by decide) rfl rfl ?_
            refine P.iload_n (dq dtX7_value_0 48 rfl) rfl ?_
            refine P.istore (dq dtX7_value_0 49 rfl) (by decide) rfl rfl ?_
            first
            | exact vl_0 hG h84 h94 h95 hL (by omega) esa (by omega) (cgQ h (aVal_n e9 (ngV_0 (by omega)) (Or.inl (by omega))))
            | exact vl_0 hG h84 h94 h95 hL (by omega) esa (by omega) (cgQ h (aVal_n e9 (ngV_1 (by omega)) (Or.inl (by omega))))
            | exact lp_valM hG h84 h94 h95 hL (by omega) esa (by omega) (by omega) ((S.ln a.toNat - 0).toNat + 1) 0 0 (by omega) (by omega) (by omega) (by omega) (cgQ h (aVal_g e9 (ngV_0 (by omega)) (by omega)))
            | exact lp_valM hG h84 h94 h95 hL (by omega) esa (by omega) (by omega) ((S.ln a.toNat - 1).toNat + 1) 1 0 (by omega) (by omega) (by omega) (by omega) (cgQ h (aVal_g e9 (ngV_1 (by omega)) (by omega)))
          · refine P.istore (dq dtX7_value_0 45 rfl) (by decide) rfl rfl ?_
            refine P.iconst (dq dtX7_value_0 46 rfl) ?_
            refine P.istore (dq dtX7_value_0 47 rfl) (by decide) rfl rfl ?_
            refine P.iload_n (dq dtX7_value_0 48 rfl) rfl ?_
            refine P.istore (dq dtX7_value_0 49 rfl) (by decide) rfl rfl ?_
            first
            | exact vl_0 hG h84 h94 h95 hL (by omega) esa (by omega) (cgQ h (aVal_n e9 (ngV_0 (by omega)) (Or.inl (by omega))))
            | exact vl_0 hG h84 h94 h95 hL (by omega) esa (by omega) (cgQ h (aVal_n e9 (ngV_1 (by omega)) (Or.inl (by omega))))
            | exact lp_valM hG h84 h94 h95 hL (by omega) esa (by omega) (by omega) ((S.ln a.toNat - 0).toNat + 1) 0 0 (by omega) (by omega) (by omega) (by omega) (cgQ h (aVal_g e9 (ngV_0 (by omega)) (by omega)))
            | exact lp_valM hG h84 h94 h95 hL (by omega) esa (by omega) (by omega) ((S.ln a.toNat - 1).toNat + 1) 1 0 (by omega) (by omega) (by omega) (by omega) (cgQ h (aVal_g e9 (ngV_1 (by omega)) (by omega)))
    · refine P.ldc (n := -100011) (dq dtX7_value_0 10 rfl) kcX7_239 rfl ?_
      refine P.iret (dq dtX7_value_0 11 rfl) rfl rfl rfl ?_
      have e9 := rfL_n (it := S.it) (a := a) (by omega) (by omega)
      unfold aVal at h
      repeat (first | rw [if_pos (by omega)] at h | rw [if_neg (by omega)] at h)
      rw [e9] at h
      exact h
  · refine P.if_ne (t := 10) (dq dtX7_value_0 2 rfl) rfl (by omega) (fun h9 => absurd h9 (by decide)) (fun _ => ?_)
    refine P.ldc (n := -100001) (dq dtX7_value_0 3 rfl) kcX7_163 rfl ?_
    refine P.iret (dq dtX7_value_0 4 rfl) rfl rfl rfl ?_
    have e9 := rfL_u (it := S.it) (a := a) (by omega)
    unfold aVal at h
    repeat (first | rw [if_pos (by omega)] at h | rw [if_neg (by omega)] at h)
    rw [e9] at h
    exact h
theorem te_0 {x : CX} {d N : Nat} {σ : PH} {Q : PQ} {S : CSt} (hG : CG S) {sz lt : Int → Int} {p s u l fi be rp cl dg nu pk wm : Int} (h84 : σ 84 = mdO p s u l fi be rp cl dg nu pk wm) (h94 : σ 94 = pcI 0 3 sz) (h95 : σ 95 = pcI 0 72 lt) (hL : LR S sz lt) {a : Int} (ha3 : 0 ≤ a ∧ a < 3) (esa : sz a = S.ln a.toNat) {f' : Int → Int} (h93 : σ 93 = pcI 0 80 f') {c at_ : Int} (hat : 0 ≤ at_ ∧ at_ + S.ln a.toNat ≤ 80) (hfr : ∀ i : Int, 0 ≤ i ∧ i < at_ + S.ln a.toNat → inR (f' i)) {k : Int} (hk : inR k) (h0 : P x d mX7_times Q (0, 0) 113 [some (vR 84), some (vI a), some (vI c), some (vI at_), some (vI 0), none] [] N σ) : P x d mX7_times Q (0, 0) 60 [some (vR 84), some (vI a), some (vI c), some (vI at_), some (vI 0), some (vI k)] [] N σ := by
  have bn := (hG.2.2.2.2.2 a.toNat (by omega)).1
  have bf := (hG.2.2.2.2.2 a.toNat (by omega)).2
  refine P.iload (dq dtX7_times_0 36 rfl) rfl ?_
  refine P.aload_n (dq dtX7_times_0 37 rfl) rfl ?_
  refine P.get flX7_45 (dq dtX7_times_0 38 rfl) (by repeat (first | assumption | exact up_s | rw [up_n (by first | assumption | (apply Ne.symm; assumption) | decide | omega)])) (by rfl) ?_
  refine P.iload_n (dq dtX7_times_0 39 rfl) rfl ?_
  refine P.iald (dq dtX7_times_0 40 rfl) (by repeat (first | assumption | exact up_s | rw [up_n (by first | assumption | (apply Ne.symm; assumption) | decide | omega)])) (by omega) (by omega) (by omega) ?_
  rw [esa]
  refine P.icmp_ge (t := 113) (dq dtX7_times_0 41 rfl) rfl (by omega) (by omega) (fun c_68 => ?_) (fun c_68 => ?_)
  · refine P.keep [0, 1, 2, 3, 4] ?_
    exact h0
  · refine P.iload (dq dtX7_times_0 42 rfl) rfl ?_
    refine P.if_eq (t := 113) (dq dtX7_times_0 43 rfl) rfl (by omega) (fun _ => ?_) (fun h9 => absurd h9 (by decide))
    refine P.keep [0, 1, 2, 3, 4] ?_
    exact h0
theorem lp_eqM {x : CX} {d N : Nat} {σ : PH} {Q : PQ} {S : CSt} (hG : CG S) {sz lt : Int → Int} {p s u l fi be rp cl dg nu pk wm : Int} (h84 : σ 84 = mdO p s u l fi be rp cl dg nu pk wm) (h94 : σ 94 = pcI 0 3 sz) (h95 : σ 95 = pcI 0 72 lt) (hL : LR S sz lt) {a : Int} (ha3 : 0 ≤ a ∧ a < 3) (esa : sz a = S.ln a.toNat) {f' : Int → Int} (h93 : σ 93 = pcI 0 80 f') {c at_ : Int} (hat : 0 ≤ at_ ∧ at_ + S.ln a.toNat ≤ 80) (hfr : ∀ i : Int, 0 ≤ i ∧ i < at_ + S.ln a.toNat → inR (f' i)) : ∀ (t : Nat) (k : Int), 0 < t → 0 ≤ k → k + t = S.ln a.toNat + 1 → (eqF f' (S.lf a.toNat) at_ (t - 1) k = true → P x d mX7_times Q (0, 0) 113 [some (vR 84), some (vI a), some (vI c), some (vI at_), some (vI 1), none] [] N σ) → (eqF f' (S.lf a.toNat) at_ (t - 1) k = false → P x d mX7_times Q (0, 0) 113 [some (vR 84), some (vI a), some (vI c), some (vI at_), some (vI 0), none] [] N σ) → P x d mX7_times Q (0, 0) 60 [some (vR 84), some (vI a), some (vI c), some (vI at_), some (vI 1), some (vI k)] [] N σ := by
  intro t
  induction t with
  | zero =>
    intro k h00
    exfalso; omega
  | succ t ih =>
    intro k h00 hk ht h1 h0
    have bn := (hG.2.2.2.2.2 a.toNat (by omega)).1
    have bf := (hG.2.2.2.2.2 a.toNat (by omega)).2
    refine P.iload (dq dtX7_times_0 36 rfl) rfl ?_
    refine P.aload_n (dq dtX7_times_0 37 rfl) rfl ?_
    refine P.get flX7_45 (dq dtX7_times_0 38 rfl) (by repeat (first | assumption | exact up_s | rw [up_n (by first | assumption | (apply Ne.symm; assumption) | decide | omega)])) (by rfl) ?_
    refine P.iload_n (dq dtX7_times_0 39 rfl) rfl ?_
    refine P.iald (dq dtX7_times_0 40 rfl) (by repeat (first | assumption | exact up_s | rw [up_n (by first | assumption | (apply Ne.symm; assumption) | decide | omega)])) (by omega) (by omega) (by omega) ?_
    rw [esa]
    refine P.icmp_ge (t := 113) (dq dtX7_times_0 41 rfl) rfl (by omega) (by omega) (fun c_68 => ?_) (fun c_68 => ?_)
    · refine P.keep [0, 1, 2, 3, 4] ?_
      exact h1 (by rw [show t + 1 - 1 = 0 by omega]; rfl)
    · refine P.iload (dq dtX7_times_0 42 rfl) rfl ?_
      refine P.if_eq (t := 113) (dq dtX7_times_0 43 rfl) rfl (by omega) (fun h9 => absurd h9 (by decide)) (fun _ => ?_)
      rw [show t + 1 - 1 = (t - 1) + 1 by omega] at h1 h0
      have hO : eqF f' (S.lf a.toNat) at_ (t - 1 + 1) k = (decide (f' (at_ + k) = S.lf a.toNat k) && eqF f' (S.lf a.toNat) at_ (t - 1) (k + 1)) := rfl
      rw [hO] at h1 h0
      have e1 := hL.2 a k (by omega) (by omega) (by omega) (by omega)
      have q1 := bf k (by omega)
      have q2 := hfr (at_ + k) (by omega)
      refine P.aload_n (dq dtX7_times_0 44 rfl) rfl ?_
      refine P.get flX7_42 (dq dtX7_times_0 45 rfl) (by repeat (first | assumption | exact up_s | rw [up_n (by first | assumption | (apply Ne.symm; assumption) | decide | omega)])) (by rfl) ?_
      refine P.iload_n (dq dtX7_times_0 46 rfl) rfl ?_
      refine P.iload (dq dtX7_times_0 47 rfl) rfl ?_
      refine P.iadd (dq dtX7_times_0 48 rfl) ?_
      refine P.iald (dq dtX7_times_0 49 rfl) (by repeat (first | assumption | exact up_s | rw [up_n (by first | assumption | (apply Ne.symm; assumption) | decide | omega)])) (by omega) (by omega) (by omega) ?_
      refine P.aload_n (dq dtX7_times_0 50 rfl) rfl ?_
      refine P.get flX7_48 (dq dtX7_times_0 51 rfl) (by repeat (first | assumption | exact up_s | rw [up_n (by first | assumption | (apply Ne.symm; assumption) | decide | omega)])) (by rfl) ?_
      refine P.bipush (dq dtX7_times_0 52 rfl) rfl ?_
      refine P.iload_n (dq dtX7_times_0 53 rfl) rfl ?_
      refine P.imul (dq dtX7_times_0 54 rfl) ?_
      refine P.iload (dq dtX7_times_0 55 rfl) rfl ?_
      refine P.iadd (dq dtX7_times_0 56 rfl) ?_
      refine P.iald (dq dtX7_times_0 57 rfl) (by repeat (first | assumption | exact up_s | rw [up_n (by first | assumption | (apply Ne.symm; assumption) | decide | omega)])) (by omega) (by omega) (by omega) ?_
      rw [e1]
      refine P.icmp_ne (t := 104) (dq dtX7_times_0 58 rfl) rfl (by omega) (by omega) (fun c_97 => ?_) (fun c_97 => ?_)
      · refine P.iconst (dq dtX7_times_0 61 rfl) ?_
        refine P.istore (dq dtX7_times_0 62 rfl) (by decide) rfl rfl ?_
        refine P.iinc (dq dtX7_times_0 63 rfl) rfl (by decide) rfl rfl ?_
        refine P.goto (t := 60) (dq dtX7_times_1 0 rfl) rfl ?_
        first
        | exact ih (k + 1) (by omega) (by omega) (by omega) (fun z => h1 (by rw [decide_eq_true c_97, z]; rfl)) (fun z => h0 (by rw [decide_eq_true c_97, z]; rfl))
        | exact te_0 hG h84 h94 h95 hL ha3 esa h93 hat hfr (by omega) (h0 (by rw [decide_eq_false c_97]; rfl))
      · refine P.iconst (dq dtX7_times_0 59 rfl) ?_
        refine P.goto (t := 105) (dq dtX7_times_0 60 rfl) rfl ?_
        refine P.istore (dq dtX7_times_0 62 rfl) (by decide) rfl rfl ?_
        refine P.iinc (dq dtX7_times_0 63 rfl) rfl (by decide) rfl rfl ?_
        refine P.goto (t := 60) (dq dtX7_times_1 0 rfl) rfl ?_
        first
        | exact ih (k + 1) (by omega) (by omega) (by omega) (fun z => h1 (by rw [decide_eq_true c_97, z]; rfl)) (fun z => h0 (by rw [decide_eq_true c_97, z]; rfl))
        | exact te_0 hG h84 h94 h95 hL ha3 esa h93 hat hfr (by omega) (h0 (by rw [decide_eq_false c_97]; rfl))
theorem lp_tmsM {x : CX} {d N : Nat} {σ : PH} {Q : PQ} {S : CSt} (hG : CG S) {sz lt : Int → Int} {p s u l fi be rp cl dg nu pk : Int} {ln : Nat} (h84 : σ 84 = mdO p s u l fi be rp cl dg nu pk ln) (h94 : σ 94 = pcI 0 3 sz) (h95 : σ 95 = pcI 0 72 lt) (hL : LR S sz lt) {a : Int} (ha3 : 0 ≤ a ∧ a < 3) (esa : sz a = S.ln a.toNat) {f' : Int → Int} (h93 : σ 93 = pcI 0 80 f') (hln : ln ≤ 80) (hfr : ∀ i : Int, 0 ≤ i ∧ i < ln → inR (f' i)) (hm : 0 < S.ln a.toNat) : ∀ (t : Nat) (at_ c : Int), 0 < t → 0 ≤ at_ → at_ + t = (ln - S.ln a.toNat + 1).toNat + 1 → Q (some (vI (c + tmF f' (S.lf a.toNat) (S.ln a.toNat).toNat (t - 1) at_))) σ → P x d mX7_times Q (0, 0) 30 [some (vR 84), some (vI a), some (vI c), some (vI at_), none, none] [] N σ := by
  intro t
  induction t with
  | zero =>
    intro at_ c h00
    exfalso; omega
  | succ t ih =>
    intro at_ c h00 hat ht h
    have bn := (hG.2.2.2.2.2 a.toNat (by omega)).1
    have bf := (hG.2.2.2.2.2 a.toNat (by omega)).2
    refine P.iload_n (dq dtX7_times_0 18 rfl) rfl ?_
    refine P.aload_n (dq dtX7_times_0 19 rfl) rfl ?_
    refine P.get flX7_45 (dq dtX7_times_0 20 rfl) (by repeat (first | assumption | exact up_s | rw [up_n (by first | assumption | (apply Ne.symm; assumption) | decide | omega)])) (by rfl) ?_
    refine P.iload_n (dq dtX7_times_0 21 rfl) rfl ?_
    refine P.iald (dq dtX7_times_0 22 rfl) (by repeat (first | assumption | exact up_s | rw [up_n (by first | assumption | (apply Ne.symm; assumption) | decide | omega)])) (by omega) (by omega) (by omega) ?_
    rw [esa]
    refine P.iadd (dq dtX7_times_0 23 rfl) ?_
    refine P.aload_n (dq dtX7_times_0 24 rfl) rfl ?_
    refine P.get flX7_208 (dq dtX7_times_0 25 rfl) (by repeat (first | assumption | exact up_s | rw [up_n (by first | assumption | (apply Ne.symm; assumption) | decide | omega)])) (by rfl) ?_
    refine P.icmp_gt (t := 132) (dq dtX7_times_0 26 rfl) rfl (by omega) (by omega) (fun c_42 => ?_) (fun c_42 => ?_)
    · refine P.iload_n (dq dtX7_times_1 11 rfl) rfl ?_
      refine P.iret (dq dtX7_times_1 12 rfl) rfl rfl rfl ?_
      rw [show t + 1 - 1 = 0 by omega] at h
      exact cgQ h (Int.add_zero _)
    · refine P.aload_n (dq dtX7_times_0 27 rfl) rfl ?_
      refine P.get flX7_45 (dq dtX7_times_0 28 rfl) (by repeat (first | assumption | exact up_s | rw [up_n (by first | assumption | (apply Ne.symm; assumption) | decide | omega)])) (by rfl) ?_
      refine P.iload_n (dq dtX7_times_0 29 rfl) rfl ?_
      refine P.iald (dq dtX7_times_0 30 rfl) (by repeat (first | assumption | exact up_s | rw [up_n (by first | assumption | (apply Ne.symm; assumption) | decide | omega)])) (by omega) (by omega) (by omega) ?_
      rw [esa]
      refine P.if_le (t := 132) (dq dtX7_times_0 31 rfl) rfl (by omega) (fun c_51 => ?_) (fun c_51 => ?_)
      · refine P.iload_n (dq dtX7_times_1 11 rfl) rfl ?_
        refine P.iret (dq dtX7_times_1 12 rfl) rfl rfl rfl ?_
        rw [show t + 1 - 1 = 0 by omega] at h
        exact cgQ h (Int.add_zero _)
      · refine P.iconst (dq dtX7_times_0 32 rfl) ?_
        refine P.istore (dq dtX7_times_0 33 rfl) (by decide) rfl rfl ?_
        refine P.iconst (dq dtX7_times_0 34 rfl) ?_
        refine P.istore (dq dtX7_times_0 35 rfl) (by decide) rfl rfl ?_
        rw [show t + 1 - 1 = (t - 1) + 1 by omega] at h
        have hO : tmF f' (S.lf a.toNat) (S.ln a.toNat).toNat (t - 1 + 1) at_ = (if eqF f' (S.lf a.toNat) at_ (S.ln a.toNat).toNat 0 = true then 1 else 0) + tmF f' (S.lf a.toNat) (S.ln a.toNat).toNat (t - 1) (at_ + 1) := rfl
        rw [hO] at h
        refine lp_eqM hG h84 h94 h95 hL ha3 esa h93 (by omega) (fun i hi => hfr i (by omega)) ((S.ln a.toNat).toNat + 1) 0 (by omega) (by omega) (by omega) (fun z => ?_) (fun z => ?_)
        · rw [show (S.ln a.toNat).toNat + 1 - 1 = (S.ln a.toNat).toNat by omega] at z
          rw [if_pos z] at h
          refine P.iload_n (dq dtX7_times_1 1 rfl) rfl ?_
          refine P.iload (dq dtX7_times_1 2 rfl) rfl ?_
          refine P.if_eq (t := 123) (dq dtX7_times_1 3 rfl) rfl (by omega) (fun h9 => absurd h9 (by decide)) (fun _ => ?_)
          refine P.iconst (dq dtX7_times_1 4 rfl) ?_
          refine P.goto (t := 124) (dq dtX7_times_1 5 rfl) rfl ?_
          refine P.iadd (dq dtX7_times_1 7 rfl) ?_
          refine P.istore_n (dq dtX7_times_1 8 rfl) (by decide) rfl rfl ?_
          refine P.iinc (dq dtX7_times_1 9 rfl) rfl (by decide) rfl rfl ?_
          refine P.goto (t := 30) (dq dtX7_times_1 10 rfl) rfl ?_
          refine P.keep [0, 1, 2, 3] ?_
          exact ih (at_ + 1) (c + 1) (by omega) (by omega) (by omega) (cgQ h (by omega))
        · rw [show (S.ln a.toNat).toNat + 1 - 1 = (S.ln a.toNat).toNat by omega] at z
          rw [if_neg (by rw [z]; decide)] at h
          refine P.iload_n (dq dtX7_times_1 1 rfl) rfl ?_
          refine P.iload (dq dtX7_times_1 2 rfl) rfl ?_
          refine P.if_eq (t := 123) (dq dtX7_times_1 3 rfl) rfl (by omega) (fun _ => ?_) (fun h9 => absurd h9 (by decide))
          refine P.iconst (dq dtX7_times_1 6 rfl) ?_
          refine P.iadd (dq dtX7_times_1 7 rfl) ?_
          refine P.istore_n (dq dtX7_times_1 8 rfl) (by decide) rfl rfl ?_
          refine P.iinc (dq dtX7_times_1 9 rfl) rfl (by decide) rfl rfl ?_
          refine P.goto (t := 30) (dq dtX7_times_1 10 rfl) rfl ?_
          refine P.keep [0, 1, 2, 3] ?_
          exact ih (at_ + 1) (c + 0) (by omega) (by omega) (by omega) (cgQ h (by omega))
/-- times -/
theorem md_times {x : CM} {d N : Nat} {σ : PH} {Q : PQ} {S : CSt} (hG : CG S) (hM : MD σ S) {F : FgV} (hF : FgR S.now.1 F) (hd : 6 ≤ d) {a : Int} (ha : inR a) (h : ∀ σ' : PH, MD σ' S → Fr σ σ' LM → Q (some (vI (aTms S F a))) σ') : Call x d 0 0 mX7_times [vR 84, vI a] N σ Q := by
  refine Call.of mcX7_times (Nat.le_of_ble_eq_true rfl) (fun y hy => ?_)
  subst hy
  obtain ⟨wf, sz, lt, a1, a2, a3, a4, a5, fi, be, rp, cl, dg, nu, pk, wm, h84, h85, h86, h87, h88, h89, h90, h91, h92, h93, h94, h95, hW, hL⟩ := id hM
  have hGm := hG.2.1.1
  have hp := hGm.1
  have hs := hGm.2.1
  have hL9 := mul_bd (k := S.now.1.1 - 1) (s := S.now.1.2.1) (by omega) (by omega) (by omega) (by omega)
  have hln : (tbl S.now.1 F).length ≤ 80 := tbl_len _ _ hGm
  refine P.iload_n (dq dtX7_times_0 0 rfl) rfl ?_
  refine P.callS1 (M' := mX7_isLabel) (d' := d - 1) mlX7_232 mcX7_isLabel msX7_isLabel (dq dtX7_times_0 1 rfl) (by omega) (Nat.le_of_ble_eq_true rfl) ?_
  refine ct_X7_isLabel (by omega) ha (fun n_1 => ?_) (fun n_1 => ?_)
  · refine P.if_ne (t := 10) (dq dtX7_times_0 2 rfl) rfl (by omega) (fun _ => ?_) (fun h9 => absurd h9 (by decide))
    have es := hL.1 a (by omega) (by omega)
    have bn := (hG.2.2.2.2.2 a.toNat (by omega)).1
    have bf := (hG.2.2.2.2.2 a.toNat (by omega)).2
    have bz : (sz a < 0 ∧ S.it a = 0 ∧ sz a = -1) ∨ (0 ≤ sz a ∧ S.it a ≠ 0 ∧ sz a = S.ln a.toNat) := by
      rw [es]
      split
      · next q => exact Or.inl ⟨by omega, q, rfl⟩
      · next q => exact Or.inr ⟨by omega, q, rfl⟩
    refine P.aload_n (dq dtX7_times_0 5 rfl) rfl ?_
    refine P.get flX7_45 (dq dtX7_times_0 6 rfl) (by repeat (first | assumption | exact up_s | rw [up_n (by first | assumption | (apply Ne.symm; assumption) | decide | omega)])) (by rfl) ?_
    refine P.iload_n (dq dtX7_times_0 7 rfl) rfl ?_
    refine P.iald (dq dtX7_times_0 8 rfl) (by repeat (first | assumption | exact up_s | rw [up_n (by first | assumption | (apply Ne.symm; assumption) | decide | omega)])) (by omega) (by omega) (by omega) ?_
    refine P.if_ge (t := 22) (dq dtX7_times_0 9 rfl) rfl (by omega) (fun c_16 => ?_) (fun c_16 => ?_)
    · have e9 := rfL_z (it := S.it) (a := a) (by omega) (by omega)
      have esa : sz a = S.ln a.toNat := by omega
      refine P.aload_n (dq dtX7_times_0 12 rfl) rfl ?_
      refine P.callV0 (M' := mX7_laySheet) (d' := d - 1) mlX7_217 mcX7_laySheet mvX7_laySheet (dq dtX7_times_0 13 rfl) (by omega) (Nat.le_of_ble_eq_true rfl) (by repeat (first | assumption | exact up_s | rw [up_n (by first | assumption | (apply Ne.symm; assumption) | decide | omega)])) rfl ?_
      refine ct_X7_laySheet h84 h85 hGm hW.1.1 rfl rfl (by omega) h89 h90 h91 h92 hF h93 (fun σ2 b1 b2 b3 b4 f' q84 q89 q90 q91 q92 q93 hRp fr2 => ?_)
      have q85 := (fr2 85 (by decide)).trans h85
      have q86 := (fr2 86 (by decide)).trans h86
      have q87 := (fr2 87 (by decide)).trans h87
      have q88 := (fr2 88 (by decide)).trans h88
      have q94 := (fr2 94 (by decide)).trans h94
      have q95 := (fr2 95 (by decide)).trans h95
      have hM2 : MD σ2 S := ⟨wf, sz, lt, b1, b2, b3, b4, f', fi, be, rp, cl, dg, nu, _, _, q84, q85, q86, q87, q88, q89, q90, q91, q92, q93, q94, q95, hW, hL⟩
      have fm2 : Fr σ σ2 LM := fr2.wide (by simp)
      refine P.iconst (dq dtX7_times_0 14 rfl) ?_
      refine P.istore_n (dq dtX7_times_0 15 rfl) (by decide) rfl rfl ?_
      refine P.iconst (dq dtX7_times_0 16 rfl) ?_
      refine P.istore_n (dq dtX7_times_0 17 rfl) (by decide) rfl rfl ?_
      rw [aTms_1 e9 hRp bn.1] at h
      refine P.keep [0, 1, 2, 3] ?_
      by_cases hm : S.ln a.toNat = 0
      · rw [if_pos hm] at h
        refine P.iload_n (dq dtX7_times_0 18 rfl) rfl ?_
        refine P.aload_n (dq dtX7_times_0 19 rfl) rfl ?_
        refine P.get flX7_45 (dq dtX7_times_0 20 rfl) (by repeat (first | assumption | exact up_s | rw [up_n (by first | assumption | (apply Ne.symm; assumption) | decide | omega)])) (by rfl) ?_
        refine P.iload_n (dq dtX7_times_0 21 rfl) rfl ?_
        refine P.iald (dq dtX7_times_0 22 rfl) (by repeat (first | assumption | exact up_s | rw [up_n (by first | assumption | (apply Ne.symm; assumption) | decide | omega)])) (by omega) (by omega) (by omega) ?_
        rw [esa]
        refine P.iadd (dq dtX7_times_0 23 rfl) ?_
        refine P.aload_n (dq dtX7_times_0 24 rfl) rfl ?_
        refine P.get flX7_208 (dq dtX7_times_0 25 rfl) (by repeat (first | assumption | exact up_s | rw [up_n (by first | assumption | (apply Ne.symm; assumption) | decide | omega)])) (by rfl) ?_
        refine P.icmp_gt (t := 132) (dq dtX7_times_0 26 rfl) rfl (by omega) (by omega) (fun c_42 => ?_) (fun c_42 => ?_)
        · refine P.iload_n (dq dtX7_times_1 11 rfl) rfl ?_
          refine P.iret (dq dtX7_times_1 12 rfl) rfl rfl rfl ?_
          exact h σ2 hM2 fm2
        · refine P.aload_n (dq dtX7_times_0 27 rfl) rfl ?_
          refine P.get flX7_45 (dq dtX7_times_0 28 rfl) (by repeat (first | assumption | exact up_s | rw [up_n (by first | assumption | (apply Ne.symm; assumption) | decide | omega)])) (by rfl) ?_
          refine P.iload_n (dq dtX7_times_0 29 rfl) rfl ?_
          refine P.iald (dq dtX7_times_0 30 rfl) (by repeat (first | assumption | exact up_s | rw [up_n (by first | assumption | (apply Ne.symm; assumption) | decide | omega)])) (by omega) (by omega) (by omega) ?_
          rw [esa]
          refine P.if_le (t := 132) (dq dtX7_times_0 31 rfl) rfl (by omega) (fun c_51 => ?_) (fun c_51 => ?_)
          · refine P.iload_n (dq dtX7_times_1 11 rfl) rfl ?_
            refine P.iret (dq dtX7_times_1 12 rfl) rfl rfl rfl ?_
            exact h σ2 hM2 fm2
          · exfalso; omega
      · rw [if_neg hm] at h
        exact lp_tmsM hG q84 q94 q95 hL (by omega) esa q93 hln (fun i hi => Rp_R hRp (tbl_R hGm hF) i hi) (by omega) (((tbl S.now.1 F).length - S.ln a.toNat + 1).toNat + 1) 0 0 (by omega) (by omega) (by omega) (cgQ (h σ2 hM2 fm2) (by rw [Int.zero_add]; rfl))
    · refine P.ldc (n := -100011) (dq dtX7_times_0 10 rfl) kcX7_239 rfl ?_
      refine P.iret (dq dtX7_times_0 11 rfl) rfl rfl rfl ?_
      have e9 := rfL_n (it := S.it) (a := a) (by omega) (by omega)
      unfold aTms at h
      repeat (first | rw [if_pos (by omega)] at h | rw [if_neg (by omega)] at h)
      rw [e9] at h
      exact h σ hM Fr.rf
  · refine P.if_ne (t := 10) (dq dtX7_times_0 2 rfl) rfl (by omega) (fun h9 => absurd h9 (by decide)) (fun _ => ?_)
    refine P.ldc (n := -100001) (dq dtX7_times_0 3 rfl) kcX7_163 rfl ?_
    refine P.iret (dq dtX7_times_0 4 rfl) rfl rfl rfl ?_
    have e9 := rfL_u (it := S.it) (a := a) (by omega)
    unfold aTms at h
    repeat (first | rw [if_pos (by omega)] at h | rw [if_neg (by omega)] at h)
    rw [e9] at h
    exact h σ hM Fr.rf
