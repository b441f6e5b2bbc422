theorem pTx_01 (kd vl : Int → Int) (m : Int) : ∀ (t : Nat) (c i : Int) (v : MsV), (pTx (fun f => f) kd vl m t c i v).1 = 0 ∨ (pTx (fun f => f) kd vl m t c i v).1 = 1 := by
  intro t
  induction t with
  | zero => intro c i v; exact Or.inl rfl
  | succ t ih =>
    intro c i v
    unfold pTx
    split
    · exact Or.inl rfl
    · split
      · exact Or.inr rfl
      · split
        · exact Or.inl rfl
        · exact ih _ _ _
theorem rd_0 {x : CX} {d N : Nat} {σ : PH} {Q : PQ} {b : Int} (h : Q (some (vI 0)) σ) : P x d mX7_reads Q (0, 0) 32 [some (vR 84), some (vI b), some (vI 0)] [] N σ := by
  refine P.iload_n (dq dtX7_reads 18 rfl) rfl ?_
  refine P.if_eq (t := 102) (dq dtX7_reads 19 rfl) rfl (by omega) (fun _ => ?_) (fun h9 => absurd h9 (by decide))
  refine P.iload_n (dq dtX7_reads 54 rfl) rfl ?_
  refine P.zret (dq dtX7_reads 55 rfl) rfl rfl (by decide) rfl ?_
  exact h
theorem rd_loop {x : CX} {d N : Nat} {σ : PH} {Q : PQ} {f st kd vl : Int → Int} {n m : Int} (hT : TK f n st kd vl m) (hn : 0 ≤ n ∧ n ≤ 200) (hf : ∀ i : Int, 0 ≤ i ∧ i < n → 0 ≤ f i ∧ f i ≤ 255) {u pk wm dg p0 s0 : Int} {wf0 : Int → Int} (hdg : dg = 0 ∨ dg = 1) (hd : 7 ≤ d) : ∀ (t : Nat) (c i : Int) (v : MsV) (nu : Int) (σ' : PH), GMs v → 1 ≤ c → c + t = 25 → 0 < t → (0 ≤ i ∧ i < m) → RS f st n m u pk wm dg p0 s0 wf0 σ' (pCl (fun f => f) kd vl m i v).2.1 (pCl (fun f => f) kd vl m i v).2.2 c nu → Fr σ σ' [84, 85] → (∀ (σ2 : PH) (nu' : Int), RS f st n m u pk wm dg p0 s0 wf0 σ2 (pTx (fun f => f) kd vl m t c i v).2.1 (pTx (fun f => f) kd vl m t c i v).2.2.1 (pTx (fun f => f) kd vl m t c i v).2.2.2 nu' → Fr σ σ2 [84, 85] → Q (some (vI (pTx (fun f => f) kd vl m t c i v).1)) σ2) → P x d mX7_reads Q (0, 0) 32 [some (vR 84), some (vI dg), some (vI (pCl (fun f => f) kd vl m i v).1)] [] N σ' := by
  intro t
  induction t with
  | zero =>
    intro c i v nu σ' hG hc ht h0
    exfalso; omega
  | succ t ih =>
    intro c i v nu σ' hG hc ht h0 hi hR hF h
    obtain ⟨h87, h88, p, s, wf, h84, h85, hD⟩ := id hR
    have h01 := pCl_01 (bg := fun f => f) (kd := kd) (vl := vl) (m := m) (i := i) (v := v)
    have hjb := pCl_b (bg := fun f => f) (kd := kd) (vl := vl) (v := v) hi
    have hGj := pCl_G (bg := fun f => f) (kd := kd) (vl := vl) (m := m) (i := i) hG
    have hr : pTx (fun f => f) kd vl m (t + 1) c i v = if (pCl (fun f => f) kd vl m i v).1 = 0 then (0, (pCl (fun f => f) kd vl m i v).2.1, (pCl (fun f => f) kd vl m i v).2.2, c) else if kd (pCl (fun f => f) kd vl m i v).2.1 = 0 then (1, (pCl (fun f => f) kd vl m i v).2.1, (pCl (fun f => f) kd vl m i v).2.2, c) else if ¬ (kd (pCl (fun f => f) kd vl m i v).2.1 = 3 ∧ vl (pCl (fun f => f) kd vl m i v).2.1 = 59) ∨ c = 24 then (0, (pCl (fun f => f) kd vl m i v).2.1, (pCl (fun f => f) kd vl m i v).2.2, c) else pTx (fun f => f) kd vl m t (c + 1) (nx m (pCl (fun f => f) kd vl m i v).2.1) (pCl (fun f => f) kd vl m i v).2.2 := rfl
    rw [hr] at h
    generalize hpc : pCl (fun f => f) kd vl m i v = pc at *
    obtain ⟨b1, b2, b3⟩ := tok_b hT hjb hn.1
    have b4 := tok_end hT hjb hn.1
    have b5 := tok_sign (c := 59) hT hjb hn.1 (by omega)
    refine P.iload_n (dq dtX7_reads 18 rfl) rfl ?_
    refine P.if_eq (t := 102) (dq dtX7_reads 19 rfl) rfl (by omega) (fun c_33 => ?_) (fun c_33 => ?_)
    · refine P.iload_n (dq dtX7_reads 54 rfl) rfl ?_
      refine P.zret (dq dtX7_reads 55 rfl) rfl rfl (by omega) rfl ?_
      first
      | (rw [if_pos (by assumption)] at h
         have hh := h σ' nu hR hF
         exact cgQ hh (by show (0 : Int) = _; omega))
      | (rw [if_neg (by assumption), if_pos (b4.mpr (by omega))] at h
         have hh := h σ' nu hR hF
         exact cgQ hh (by show (1 : Int) = _; omega))
    · refine P.aload_n (dq dtX7_reads 20 rfl) rfl ?_
      refine P.get flX7_91 (dq dtX7_reads 21 rfl) (by repeat (first | assumption | exact up_s | rw [up_n (by first | assumption | (apply Ne.symm; assumption) | decide | omega)])) (by rfl) ?_
      refine P.aload_n (dq dtX7_reads 22 rfl) rfl ?_
      refine P.get flX7_76 (dq dtX7_reads 23 rfl) (by repeat (first | assumption | exact up_s | rw [up_n (by first | assumption | (apply Ne.symm; assumption) | decide | omega)])) (by rfl) ?_
      refine P.icmp_ge (t := 102) (dq dtX7_reads 24 rfl) rfl (by omega) (by omega) (fun c_44 => ?_) (fun c_44 => ?_)
      · refine P.iload_n (dq dtX7_reads 54 rfl) rfl ?_
        refine P.zret (dq dtX7_reads 55 rfl) rfl rfl (by omega) rfl ?_
        first
        | (rw [if_pos (by assumption)] at h
           have hh := h σ' nu hR hF
           exact cgQ hh (by show (0 : Int) = _; omega))
        | (rw [if_neg (by assumption), if_pos (b4.mpr (by omega))] at h
           have hh := h σ' nu hR hF
           exact cgQ hh (by show (1 : Int) = _; omega))
      · refine P.aload_n (dq dtX7_reads 25 rfl) rfl ?_
        refine P.get flX7_145 (dq dtX7_reads 26 rfl) (by repeat (first | assumption | exact up_s | rw [up_n (by first | assumption | (apply Ne.symm; assumption) | decide | omega)])) (by rfl) ?_
        refine P.bipush (dq dtX7_reads 27 rfl) rfl ?_
        refine P.icmp_ge (t := 74) (dq dtX7_reads 28 rfl) rfl (by omega) (by omega) (fun c_53 => ?_) (fun c_53 => ?_)
        · refine P.iconst (dq dtX7_reads 38 rfl) ?_
          refine P.istore_n (dq dtX7_reads 39 rfl) (by decide) rfl rfl ?_
          refine P.iload_n (dq dtX7_reads 40 rfl) rfl ?_
          refine P.if_eq (t := 32) (dq dtX7_reads 41 rfl) rfl (by omega) (fun _ => ?_) (fun h9 => absurd h9 (by decide))
          first
          | exact rd_0 (by
              rw [if_neg (by omega), if_neg (fun z => by have := b4.mp z; omega), if_pos (by omega)] at h
              exact h σ' nu hR hF)
          | (rw [if_neg (by omega), if_neg (fun z => by have := b4.mp z; omega), if_neg (by omega)] at h
             exact ih (c + 1) _ _ nu4 _ hGj (by omega) (by omega) (by omega) hi3 ⟨(by repeat (first | assumption | exact up_s | rw [up_n (by first | assumption | (apply Ne.symm; assumption) | decide | omega)])), (by repeat (first | assumption | exact up_s | rw [up_n (by first | assumption | (apply Ne.symm; assumption) | decide | omega)])), p4, s4, wf4, up_s, (by repeat (first | assumption | exact up_s | rw [up_n (by first | assumption | (apply Ne.symm; assumption) | decide | omega)])), wD⟩ (Fr.trans ((hF.trans fr3).trans fr4) (by repeat (first | assumption | exact Fr.rf | refine Fr.up ?_ (by simp)))) h)
        · have q0 := hf (st pc.2.1) (by omega)
          refine P.aload_n (dq dtX7_reads 29 rfl) rfl ?_
          refine P.get flX7_24 (dq dtX7_reads 30 rfl) (by repeat (first | assumption | exact up_s | rw [up_n (by first | assumption | (apply Ne.symm; assumption) | decide | omega)])) (by rfl) ?_
          refine P.aload_n (dq dtX7_reads 31 rfl) rfl ?_
          refine P.get flX7_91 (dq dtX7_reads 32 rfl) (by repeat (first | assumption | exact up_s | rw [up_n (by first | assumption | (apply Ne.symm; assumption) | decide | omega)])) (by rfl) ?_
          refine P.iald (dq dtX7_reads 33 rfl) (by repeat (first | assumption | exact up_s | rw [up_n (by first | assumption | (apply Ne.symm; assumption) | decide | omega)])) (by omega) (by omega) (by omega) ?_
          refine P.bipush (dq dtX7_reads 34 rfl) rfl ?_
          refine P.icmp_ne (t := 74) (dq dtX7_reads 35 rfl) rfl (by omega) (by omega) (fun c_67 => ?_) (fun c_67 => ?_)
          · refine P.iconst (dq dtX7_reads 38 rfl) ?_
            refine P.istore_n (dq dtX7_reads 39 rfl) (by decide) rfl rfl ?_
            refine P.iload_n (dq dtX7_reads 40 rfl) rfl ?_
            refine P.if_eq (t := 32) (dq dtX7_reads 41 rfl) rfl (by omega) (fun _ => ?_) (fun h9 => absurd h9 (by decide))
            first
            | exact rd_0 (by
                rw [if_neg (by omega), if_neg (fun z => by have := b4.mp z; omega), if_pos (by omega)] at h
                exact h σ' nu hR hF)
            | (rw [if_neg (by omega), if_neg (fun z => by have := b4.mp z; omega), if_neg (by omega)] at h
               exact ih (c + 1) _ _ nu4 _ hGj (by omega) (by omega) (by omega) hi3 ⟨(by repeat (first | assumption | exact up_s | rw [up_n (by first | assumption | (apply Ne.symm; assumption) | decide | omega)])), (by repeat (first | assumption | exact up_s | rw [up_n (by first | assumption | (apply Ne.symm; assumption) | decide | omega)])), p4, s4, wf4, up_s, (by repeat (first | assumption | exact up_s | rw [up_n (by first | assumption | (apply Ne.symm; assumption) | decide | omega)])), wD⟩ (Fr.trans ((hF.trans fr3).trans fr4) (by repeat (first | assumption | exact Fr.rf | refine Fr.up ?_ (by simp)))) h)
          · refine P.iconst (dq dtX7_reads 36 rfl) ?_
            refine P.goto (t := 75) (dq dtX7_reads 37 rfl) rfl ?_
            refine P.istore_n (dq dtX7_reads 39 rfl) (by decide) rfl rfl ?_
            refine P.iload_n (dq dtX7_reads 40 rfl) rfl ?_
            refine P.if_eq (t := 32) (dq dtX7_reads 41 rfl) rfl (by omega) (fun h9 => absurd h9 (by decide)) (fun _ => ?_)
            refine P.aload_n (dq dtX7_reads 42 rfl) rfl ?_
            refine P.callV0 (M' := mX7_nextToken) (d' := d - 1) mlX7_104 mcX7_nextToken mvX7_nextToken (dq dtX7_reads 43 rfl) (by omega) (Nat.le_of_ble_eq_true rfl) (by repeat (first | assumption | exact up_s | rw [up_n (by first | assumption | (apply Ne.symm; assumption) | decide | omega)])) rfl ?_
            refine rs_next hT hn hf hjb hR (by omega) (fun σ3 hR3 fr3 => ?_)
            obtain ⟨v87, v88, p3, s3, wf3, v84, v85, vD⟩ := id hR3
            have hi3 := nx_b hjb
            refine P.aload_n (dq dtX7_reads 44 rfl) rfl ?_
            refine P.callV0 (M' := mX7_takesClause) (d' := d - 1) mlX7_148 mcX7_takesClause mvX7_takesClause (dq dtX7_reads 45 rfl) (by omega) (Nat.le_of_ble_eq_true rfl) (by repeat (first | assumption | exact up_s | rw [up_n (by first | assumption | (apply Ne.symm; assumption) | decide | omega)])) rfl ?_
            refine rs_clause hT hn hf hi3 hR3 hdg hGj (by omega) (fun σ4 nu4 hR4 fr4 => ?_)
            obtain ⟨w87, w88, p4, s4, wf4, w84, w85, wD⟩ := id hR4
            refine P.istore_n (dq dtX7_reads 46 rfl) (by decide) rfl rfl ?_
            refine P.aload_n (dq dtX7_reads 47 rfl) rfl ?_
            refine P.dup (dq dtX7_reads 48 rfl) rfl ?_
            refine P.get flX7_145 (dq dtX7_reads 49 rfl) (by repeat (first | assumption | exact up_s | rw [up_n (by first | assumption | (apply Ne.symm; assumption) | decide | omega)])) (by rfl) ?_
            refine P.iconst (dq dtX7_reads 50 rfl) ?_
            refine P.iadd (dq dtX7_reads 51 rfl) ?_
            refine P.put flX7_145 rfl (dq dtX7_reads 52 rfl) (by repeat (first | assumption | exact up_s | rw [up_n (by first | assumption | (apply Ne.symm; assumption) | decide | omega)])) (by exact Nat.le_of_ble_eq_true rfl) rfl rfl rfl rfl rfl ?_
            refine P.goto (t := 32) (dq dtX7_reads 53 rfl) rfl ?_
            first
            | exact rd_0 (by
                rw [if_neg (by omega), if_neg (fun z => by have := b4.mp z; omega), if_pos (by omega)] at h
                exact h σ' nu hR hF)
            | (rw [if_neg (by omega), if_neg (fun z => by have := b4.mp z; omega), if_neg (by omega)] at h
               exact ih (c + 1) _ _ nu4 _ hGj (by omega) (by omega) (by omega) hi3 ⟨(by repeat (first | assumption | exact up_s | rw [up_n (by first | assumption | (apply Ne.symm; assumption) | decide | omega)])), (by repeat (first | assumption | exact up_s | rw [up_n (by first | assumption | (apply Ne.symm; assumption) | decide | omega)])), p4, s4, wf4, up_s, (by repeat (first | assumption | exact up_s | rw [up_n (by first | assumption | (apply Ne.symm; assumption) | decide | omega)])), wD⟩ (Fr.trans ((hF.trans fr3).trans fr4) (by repeat (first | assumption | exact Fr.rf | refine Fr.up ?_ (by simp)))) h)
/-- reads -/
theorem ct_reads {x : CM} {d N : Nat} {σ : PH} {Q : PQ} {f st kd vl : Int → Int} {n m : Int} (hT : TK f n st kd vl m) (hn : 0 ≤ n ∧ n ≤ 200) (hf : ∀ i : Int, 0 ≤ i ∧ i < n → 0 ≤ f i ∧ f i ≤ 255) {u pk wm dg : Int} {wf0 : Int → Int} {fi be rp cl dg0 nu : Int} {v : MsV} (hGv : GMs v) (h84 : σ 84 = mdO v.1 v.2.1 u n fi be rp cl dg0 nu pk wm) (h85 : σ 85 = pcI 0 1404 wf0) (h87 : σ 87 = pcI 0 200 f) (h88 : σ 88 = pcI 0 16 wdA) (hR0 : Rw wf0 0 v) (hdg : dg = 0 ∨ dg = 1) (hd : 7 ≤ d) (h : ∀ (σ' : PH) (nu' : Int), RS f st n m u pk wm dg v.1 v.2.1 wf0 σ' (pTx (fun f => f) kd vl m 24 1 0 v).2.1 (pTx (fun f => f) kd vl m 24 1 0 v).2.2.1 (pTx (fun f => f) kd vl m 24 1 0 v).2.2.2 nu' → Fr σ σ' [84, 85] → Q (some (vI (pTx (fun f => f) kd vl m 24 1 0 v).1)) σ') : Call x d 0 0 mX7_reads [vR 84, vI dg] N σ Q := by
  refine Call.of mcX7_reads (Nat.le_of_ble_eq_true rfl) (fun y hy => ?_)
  subst hy
  have hm := hT.1
  obtain ⟨t1, t2⟩ := tok_0 hT
  have hD0 : DV dg v.1 v.2.1 wf0 v.1 v.2.1 wf0 v := by
    rcases hdg with e | e
    · exact Or.inl ⟨e, rfl, rfl, rfl⟩
    · exact Or.inr ⟨e, rfl, rfl, hR0, fun _ _ => rfl⟩
  refine P.aload_n (dq dtX7_reads 0 rfl) rfl ?_
  refine P.iload_n (dq dtX7_reads 1 rfl) rfl ?_
  refine P.put flX7_114 rfl (dq dtX7_reads 2 rfl) (by repeat (first | assumption | exact up_s | rw [up_n (by first | assumption | (apply Ne.symm; assumption) | decide | omega)])) (by exact Nat.le_of_ble_eq_true rfl) rfl rfl (bz_nar (by omega)) (bz_fit (by omega)) rfl ?_
  refine P.aload_n (dq dtX7_reads 3 rfl) rfl ?_
  refine P.iconst (dq dtX7_reads 4 rfl) ?_
  refine P.put flX7_88 rfl (dq dtX7_reads 5 rfl) (by repeat (first | assumption | exact up_s | rw [up_n (by first | assumption | (apply Ne.symm; assumption) | decide | omega)])) (by exact Nat.le_of_ble_eq_true rfl) rfl rfl rfl rfl rfl ?_
  refine P.aload_n (dq dtX7_reads 6 rfl) rfl ?_
  refine P.iconst (dq dtX7_reads 7 rfl) ?_
  refine P.put flX7_145 rfl (dq dtX7_reads 8 rfl) (by repeat (first | assumption | exact up_s | rw [up_n (by first | assumption | (apply Ne.symm; assumption) | decide | omega)])) (by exact Nat.le_of_ble_eq_true rfl) rfl rfl rfl rfl rfl ?_
  refine P.aload_n (dq dtX7_reads 9 rfl) rfl ?_
  refine P.aload_n (dq dtX7_reads 10 rfl) rfl ?_
  refine P.get flX7_7 (dq dtX7_reads 11 rfl) (by repeat (first | assumption | exact up_s | rw [up_n (by first | assumption | (apply Ne.symm; assumption) | decide | omega)])) (by rfl) ?_
  refine P.put flX7_111 rfl (dq dtX7_reads 12 rfl) (by repeat (first | assumption | exact up_s | rw [up_n (by first | assumption | (apply Ne.symm; assumption) | decide | omega)])) (by exact Nat.le_of_ble_eq_true rfl) rfl rfl rfl rfl rfl ?_
  refine P.aload_n (dq dtX7_reads 13 rfl) rfl ?_
  refine P.callV0 (M' := mX7_nextToken) (d' := d - 1) mlX7_104 mcX7_nextToken mvX7_nextToken (dq dtX7_reads 14 rfl) (by omega) (Nat.le_of_ble_eq_true rfl) (by repeat (first | assumption | exact up_s | rw [up_n (by first | assumption | (apply Ne.symm; assumption) | decide | omega)])) rfl ?_
  refine ct_nextTok (by repeat (first | assumption | exact up_s | rw [up_n (by first | assumption | (apply Ne.symm; assumption) | decide | omega)])) hn hf up_s (by omega) (by omega) ?_
  rw [t1, t2]
  repeat (rw [up_up])
  refine P.aload_n (dq dtX7_reads 15 rfl) rfl ?_
  refine P.callV0 (M' := mX7_takesClause) (d' := d - 1) mlX7_148 mcX7_takesClause mvX7_takesClause (dq dtX7_reads 16 rfl) (by omega) (Nat.le_of_ble_eq_true rfl) (by repeat (first | assumption | exact up_s | rw [up_n (by first | assumption | (apply Ne.symm; assumption) | decide | omega)])) rfl ?_
  refine rs_clause (dg := dg) (u := u) (pk := pk) (wm := wm) (p0 := v.1) (s0 := v.2.1) (wf0 := wf0) (i := 0) (v := v) (cl := 1) (nu := nu) hT hn hf (by omega) ⟨(by repeat (first | assumption | exact up_s | rw [up_n (by first | assumption | (apply Ne.symm; assumption) | decide | omega)])), (by repeat (first | assumption | exact up_s | rw [up_n (by first | assumption | (apply Ne.symm; assumption) | decide | omega)])), v.1, v.2.1, wf0, up_s, (by repeat (first | assumption | exact up_s | rw [up_n (by first | assumption | (apply Ne.symm; assumption) | decide | omega)])), hD0⟩ hdg hGv (by omega) (fun σ4 nu4 hR4 fr4 => ?_)
  refine P.istore_n (dq dtX7_reads 17 rfl) (by decide) rfl rfl ?_
  exact rd_loop (σ := σ) hT hn hf hdg hd 24 1 0 v nu4 σ4 hGv (by omega) (by omega) (by omega) (by omega) hR4 (Fr.trans (by repeat (first | assumption | exact Fr.rf | refine Fr.up ?_ (by simp))) fr4) h
/-- fault -/
theorem md_fault {x : CM} {d N : Nat} {σ : PH} {Q : PQ} {S : CSt} (hG : CG S) (hM : MD σ S) {st kd vl : Int → Int} {m : Int} (hT : TK S.tf S.tn st kd vl m) (hd : 8 ≤ d) (h : ∀ σ' : PH, MD σ' S → Fr σ σ' LM → Q (some (vI (if (pTx (fun f => f) kd vl m 24 1 0 S.now.1).1 = 1 then -1 else st (pTx (fun f => f) kd vl m 24 1 0 S.now.1).2.1))) σ') : Call x d 0 0 mX7_fault [vR 84] N σ Q := by
  refine Call.of mcX7_fault (Nat.le_of_ble_eq_true rfl) (fun y hy => ?_)
  subst hy
  obtain ⟨wf, sz, lt, a1, a2, a3, a4, a5, fi, be, rp, cl, dg, nu, pk, wm, h84, h85, h86, h87, h88, h89, h90, h91, h92, h93, h94, h95, hW, hL⟩ := id hM
  have hGm := hG.2.1.1
  have hp := hGm.1
  have hs := hGm.2.1
  have hL9 := mul_bd (k := S.now.1.1 - 1) (s := S.now.1.2.1) (by omega) (by omega) (by omega) (by omega)
  refine P.aload_n (dq dtX7_fault 0 rfl) rfl ?_
  refine P.iconst (dq dtX7_fault 1 rfl) ?_
  refine P.callV1 (M' := mX7_reads) (d' := d - 1) mlX7_151 mcX7_reads mvX7_reads (dq dtX7_fault 2 rfl) (by omega) (Nat.le_of_ble_eq_true rfl) (by repeat (first | assumption | exact up_s | rw [up_n (by first | assumption | (apply Ne.symm; assumption) | decide | omega)])) rfl ?_
  refine ct_reads (dg := 0) hT hG.1.1 hG.1.2 hGm h84 h85 h87 h88 hW.1.1 (by omega) (by omega) (fun σ2 nu2 hR2 fr2 => ?_)
  obtain ⟨q87, q88, p2, s2, wf2, q84, q85, hD⟩ := hR2
  obtain ⟨-, e1, e2, e3⟩ : (0 : Int) = 0 ∧ p2 = S.now.1.1 ∧ s2 = S.now.1.2.1 ∧ wf2 = wf := by
    rcases hD with z | z
    · exact z
    · omega
  subst e1 e2 e3
  have h01 := pTx_01 kd vl m 24 1 0 S.now.1
  have hM2 : MD σ2 S := ⟨_, _, _, _, _, _, _, _, _, _, _, _, _, _, _, _, q84, q85, (fr2 86 (by decide)).trans h86, q87, q88, (fr2 89 (by decide)).trans h89, (fr2 90 (by decide)).trans h90, (fr2 91 (by decide)).trans h91, (fr2 92 (by decide)).trans h92, (fr2 93 (by decide)).trans h93, (fr2 94 (by decide)).trans h94, (fr2 95 (by decide)).trans h95, hW, hL⟩
  have fm2 : Fr σ σ2 LM := fr2.wide (by simp)
  refine P.if_eq (t := 12) (dq dtX7_fault 3 rfl) rfl (by omega) (fun c_5 => ?_) (fun c_5 => ?_)
  · refine P.aload_n (dq dtX7_fault 6 rfl) rfl ?_
    refine P.get flX7_91 (dq dtX7_fault 7 rfl) (by repeat (first | assumption | exact up_s | rw [up_n (by first | assumption | (apply Ne.symm; assumption) | decide | omega)])) (by rfl) ?_
    refine P.iret (dq dtX7_fault 8 rfl) rfl rfl rfl ?_
    first
    | (rw [if_pos (by omega)] at h; exact h σ2 hM2 fm2)
    | (rw [if_neg (by omega)] at h; exact h σ2 hM2 fm2)
  · refine P.iconst (dq dtX7_fault 4 rfl) ?_
    refine P.goto (t := 16) (dq dtX7_fault 5 rfl) rfl ?_
    refine P.iret (dq dtX7_fault 8 rfl) rfl rfl rfl ?_
    first
    | (rw [if_pos (by omega)] at h; exact h σ2 hM2 fm2)
    | (rw [if_neg (by omega)] at h; exact h σ2 hM2 fm2)
/-- axis -/
theorem md_axis {x : CM} {d N : Nat} {σ : PH} {Q : PQ} {S : CSt} (hG : CG S) (hM : MD σ S) {st kd vl : Int → Int} {m : Int} (hT : TK S.tf S.tn st kd vl m) (hd : 8 ≤ d) {F' : FgV} (hF' : (pTx (fun f => f) kd vl m 24 1 0 S.now.1).1 = 1 → FgR (pTx (fun f => f) kd vl m 24 1 0 S.now.1).2.2.1 F') (h : ∀ σ' : PH, MD σ' (if (pTx (fun f => f) kd vl m 24 1 0 S.now.1).1 = 1 then sAx S (pTx (fun f => f) kd vl m 24 1 0 S.now.1).2.2.1 F' else S) → Fr σ σ' LM → Q (some (vI (if (pTx (fun f => f) kd vl m 24 1 0 S.now.1).1 = 1 then (pTx (fun f => f) kd vl m 24 1 0 S.now.1).2.2.2 else -100003))) σ') : Call x d 0 0 mX7_axis [vR 84] N σ Q := by
  refine Call.of mcX7_axis (Nat.le_of_ble_eq_true rfl) (fun y hy => ?_)
  subst hy
  obtain ⟨wf, sz, lt, a1, a2, a3, a4, a5, fi, be, rp, cl, dg, nu, pk, wm, h84, h85, h86, h87, h88, h89, h90, h91, h92, h93, h94, h95, hW, hL⟩ := id hM
  have hGm := hG.2.1.1
  have hp := hGm.1
  have hs := hGm.2.1
  have hL9 := mul_bd (k := S.now.1.1 - 1) (s := S.now.1.2.1) (by omega) (by omega) (by omega) (by omega)
  have h01 := pTx_01 kd vl m 24 1 0 S.now.1
  have gV := pTx_G (bg := fun f => f) (kd := kd) (vl := vl) (m := m) 24 1 0 S.now.1 hGm
  refine P.aload_n (dq dtX7_axis 0 rfl) rfl ?_
  refine P.iconst (dq dtX7_axis 1 rfl) ?_
  refine P.callV1 (M' := mX7_reads) (d' := d - 1) mlX7_151 mcX7_reads mvX7_reads (dq dtX7_axis 2 rfl) (by omega) (Nat.le_of_ble_eq_true rfl) (by repeat (first | assumption | exact up_s | rw [up_n (by first | assumption | (apply Ne.symm; assumption) | decide | omega)])) rfl ?_
  refine ct_reads (dg := 0) hT hG.1.1 hG.1.2 hGm h84 h85 h87 h88 hW.1.1 (by omega) (by omega) (fun σ2 nu2 hR2 fr2 => ?_)
  obtain ⟨q87, q88, p2, s2, wf2, q84, q85, hD⟩ := hR2
  obtain ⟨-, e1, e2, e3⟩ : (0 : Int) = 0 ∧ p2 = S.now.1.1 ∧ s2 = S.now.1.2.1 ∧ wf2 = wf := by
    rcases hD with z | z
    · exact z
    · omega
  subst e1 e2 e3
  have hM2 : MD σ2 S := ⟨_, _, _, _, _, _, _, _, _, _, _, _, _, _, _, _, q84, q85, (fr2 86 (by decide)).trans h86, q87, q88, (fr2 89 (by decide)).trans h89, (fr2 90 (by decide)).trans h90, (fr2 91 (by decide)).trans h91, (fr2 92 (by decide)).trans h92, (fr2 93 (by decide)).trans h93, (fr2 94 (by decide)).trans h94, (fr2 95 (by decide)).trans h95, hW, hL⟩
  have fm2 : Fr σ σ2 LM := fr2.wide (by simp)
  refine P.if_ne (t := 11) (dq dtX7_axis 3 rfl) rfl (by omega) (fun c_5 => ?_) (fun c_5 => ?_)
  · have e1 : (pTx (fun f => f) kd vl m 24 1 0 S.now.1).1 = 1 := by omega
    rw [if_pos e1, if_pos e1] at h
    refine P.aload_n (dq dtX7_axis 6 rfl) rfl ?_
    refine P.iconst (dq dtX7_axis 7 rfl) ?_
    refine P.callV1 (M' := mX7_reads) (d' := d - 1) mlX7_151 mcX7_reads mvX7_reads (dq dtX7_axis 8 rfl) (by omega) (Nat.le_of_ble_eq_true rfl) (by repeat (first | assumption | exact up_s | rw [up_n (by first | assumption | (apply Ne.symm; assumption) | decide | omega)])) rfl ?_
    refine ct_reads (dg := 1) hT hG.1.1 hG.1.2 hGm q84 q85 q87 q88 hW.1.1 (by omega) (by omega) (fun σ3 nu3 hR3 fr3 => ?_)
    obtain ⟨k87, k88, p3, s3, wf3, k84, k85, kD⟩ := hR3
    obtain ⟨g1, g2, g3, g4, -⟩ := kD.rw (by decide)
    subst g1 g2
    have fr23 := fr2.trans fr3
    refine P.istore_n (dq dtX7_axis 9 rfl) (by decide) rfl rfl ?_
    refine P.aload_n (dq dtX7_axis 10 rfl) rfl ?_
    refine P.iconst (dq dtX7_axis 11 rfl) ?_
    refine P.put flX7_76 rfl (dq dtX7_axis 12 rfl) (by repeat (first | assumption | exact up_s | rw [up_n (by first | assumption | (apply Ne.symm; assumption) | decide | omega)])) (by exact Nat.le_of_ble_eq_true rfl) rfl rfl rfl rfl rfl ?_
    refine P.aload_n (dq dtX7_axis 13 rfl) rfl ?_
    refine P.callV0 (M' := mX7_rests) (d' := d - 1) mlX7_51 mcX7_rests mvX7_rests (dq dtX7_axis 14 rfl) (by omega) (Nat.le_of_ble_eq_true rfl) (by repeat (first | assumption | exact up_s | rw [up_n (by first | assumption | (apply Ne.symm; assumption) | decide | omega)])) rfl ?_
    refine ct_X7_rests (v := (pTx (fun f => f) kd vl m 24 1 0 S.now.1).2.2.1) up_s (by repeat (first | assumption | exact up_s | rw [up_n (by first | assumption | (apply Ne.symm; assumption) | decide | omega)])) gV g3 rfl rfl (by omega) (a1 := a1) (a2 := a2) (a3 := a3) (a4 := a4) ((up_n (by decide)).trans ((fr23 89 (by decide)).trans h89)) ((up_n (by decide)).trans ((fr23 90 (by decide)).trans h90)) ((up_n (by decide)).trans ((fr23 91 (by decide)).trans h91)) ((up_n (by decide)).trans ((fr23 92 (by decide)).trans h92)) (hF' e1) ((up_n (by decide)).trans ((fr23 86 (by decide)).trans h86)) ((up_n (by decide)).trans ((fr23 94 (by decide)).trans h94)) (fun σ4 wf4 b1 b2 b3 b4 w84 w85 wRw wRs w86 w94 w89 w90 w91 w92 fr4 => ?_)
    refine P.iload_n (dq dtX7_axis 15 rfl) rfl ?_
    refine P.if_eq (t := 37) (dq dtX7_axis 16 rfl) rfl (by omega) (fun c_27 => ?_) (fun c_27 => ?_)
    · refine P.ldc (n := -100003) (dq dtX7_axis 20 rfl) kcX7_155 rfl ?_
      refine P.iret (dq dtX7_axis 21 rfl) rfl rfl rfl ?_
      first
      | (exfalso; omega)
      | (have frA : Fr σ σ4 [84, 85, 86, 89, 90, 91, 92, 94] := Fr.trans (Fr.trans (fr23.wide (by simp)) (Fr.up Fr.rf (by simp))) (fr4.wide (by simp))
         have hWW : WR (sAx S (pTx (fun f => f) kd vl m 24 1 0 S.now.1).2.2.1 F') wf4 := ⟨⟨wRw, wRs, rfl, rfl⟩, fun j q0 q1 => absurd q1 (by show ¬ j < (0 : Int); omega), fun k q0 q1 q2 => absurd rfl q2⟩
         have hLL : LR (sAx S (pTx (fun f => f) kd vl m 24 1 0 S.now.1).2.2.1 F') (fun _ => -1) lt := ⟨fun l q0 q1 => rfl, fun l j q0 q1 q2 q3 => hL.2 l j q0 q1 q2 q3⟩
         exact h σ4 ⟨_, _, _, _, _, _, _, _, _, _, _, _, _, _, _, _, w84, w85, w86, (fr4 87 (by decide)).trans ((up_n (by decide)).trans k87), (fr4 88 (by decide)).trans ((up_n (by decide)).trans k88), w89, w90, w91, w92, (frA 93 (by decide)).trans h93, w94, (frA 95 (by decide)).trans h95, hWW, hLL⟩ (frA.wide (by simp)))
    · refine P.aload_n (dq dtX7_axis 17 rfl) rfl ?_
      refine P.get flX7_145 (dq dtX7_axis 18 rfl) (by repeat (first | assumption | exact up_s | rw [up_n (by first | assumption | (apply Ne.symm; assumption) | decide | omega)])) (by rfl) ?_
      refine P.goto (t := 39) (dq dtX7_axis 19 rfl) rfl ?_
      refine P.iret (dq dtX7_axis 21 rfl) rfl rfl rfl ?_
      first
      | (exfalso; omega)
      | (have frA : Fr σ σ4 [84, 85, 86, 89, 90, 91, 92, 94] := Fr.trans (Fr.trans (fr23.wide (by simp)) (Fr.up Fr.rf (by simp))) (fr4.wide (by simp))
         have hWW : WR (sAx S (pTx (fun f => f) kd vl m 24 1 0 S.now.1).2.2.1 F') wf4 := ⟨⟨wRw, wRs, rfl, rfl⟩, fun j q0 q1 => absurd q1 (by show ¬ j < (0 : Int); omega), fun k q0 q1 q2 => absurd rfl q2⟩
         have hLL : LR (sAx S (pTx (fun f => f) kd vl m 24 1 0 S.now.1).2.2.1 F') (fun _ => -1) lt := ⟨fun l q0 q1 => rfl, fun l j q0 q1 q2 q3 => hL.2 l j q0 q1 q2 q3⟩
         exact h σ4 ⟨_, _, _, _, _, _, _, _, _, _, _, _, _, _, _, _, w84, w85, w86, (fr4 87 (by decide)).trans ((up_n (by decide)).trans k87), (fr4 88 (by decide)).trans ((up_n (by decide)).trans k88), w89, w90, w91, w92, (frA 93 (by decide)).trans h93, w94, (frA 95 (by decide)).trans h95, hWW, hLL⟩ (frA.wide (by simp)))
  · refine P.ldc (n := -100003) (dq dtX7_axis 4 rfl) kcX7_155 rfl ?_
    refine P.iret (dq dtX7_axis 5 rfl) rfl rfl rfl ?_
    rw [if_neg (by omega), if_neg (by omega)] at h
    exact h σ2 hM2 fm2
