theorem lp_wi {x : CX} {d N : Nat} {σ : PH} {Q : PQ} {S : CSt} (hG : CG S) {sz lt : Int → Int} {p s u l fi be rp cl dg nu pk wm : Int} (h84 : σ 84 = mdO p s u l fi be rp cl dg nu pk wm) (h94 : σ 94 = pcI 0 3 sz) (h95 : σ 95 = pcI 0 72 lt) (hL : LR S sz lt) {a : Int} (ha3 : 0 ≤ a ∧ a < 3) (esa : sz a = S.ln a.toNat) (h88 : σ 88 = pcI 0 16 wdA) {k : Nat} (hk4 : k < 4) {fd : Int} : ∀ (t : Nat) (n b : Int), 0 < t → 0 ≤ n → n + t = lnS k + 1 → (b = 0 ∨ b = 1) → (∀ r : Int, (r = 0 ∨ r = 1) → (r = 1 ↔ b = 1 ∧ (∀ i : Int, n ≤ i → i < lnS k → i < S.ln a.toNat ∧ S.lf a.toNat i = chS k i)) → P x d mX7_word Q (0, 0) 109 [some (vR 84), some (vI a), some (vI fd), some (vI (ofS k)), some (vI k), some (vI (lnS k)), some (vI r)] [] N σ) → P x d mX7_word Q (0, 0) 42 [some (vR 84), some (vI a), some (vI fd), some (vI (ofS k)), some (vI k), some (vI n), some (vI b)] [] N σ := by
  intro t
  induction t with
  | zero =>
    intro n b h00
    exfalso; omega
  | succ t ih =>
    intro n b h00 hn ht hbb kk
    have bn := (hG.2.2.2.2.2 a.toNat (by omega)).1
    have bf := (hG.2.2.2.2.2 a.toNat (by omega)).2
    have hb := lnS_b hk4
    have ho := ofS_b k hk4
    have he := wdA_e k hk4
    by_cases hlt : n < lnS k
    · obtain ⟨w1, w2⟩ := wdA_c hk4 hn hlt
      have w3 := chS_R k n
      refine P.aload_n (dq dtX7_word_0 25 rfl) rfl ?_
      refine P.get flX7_27 (dq dtX7_word_0 26 rfl) (by repeat (first | assumption | exact up_s | rw [up_n (by first | assumption | (apply Ne.symm; assumption) | decide | omega)])) (by rfl) ?_
      refine P.iload_n (dq dtX7_word_0 27 rfl) rfl ?_
      refine P.iload (dq dtX7_word_0 28 rfl) rfl ?_
      refine P.iadd (dq dtX7_word_0 29 rfl) ?_
      refine P.iald (dq dtX7_word_0 30 rfl) (by repeat (first | assumption | exact up_s | rw [up_n (by first | assumption | (apply Ne.symm; assumption) | decide | omega)])) (by omega) (by omega) (by omega) ?_
      refine P.bipush (dq dtX7_word_0 31 rfl) rfl ?_
      rw [w1]
      refine P.icmp_eq (t := 109) (dq dtX7_word_0 32 rfl) rfl (by omega) (by omega) (fun c_53 => ?_) (fun c_53 => ?_)
      · exfalso; omega
      · refine P.iload (dq dtX7_word_0 33 rfl) rfl ?_
        refine P.if_eq (t := 100) (dq dtX7_word_0 34 rfl) rfl (by omega) (fun c_58 => ?_) (fun c_58 => ?_)
        · refine P.iconst (dq dtX7_word_0 58 rfl) ?_
          refine P.istore (dq dtX7_word_0 59 rfl) (by decide) rfl rfl ?_
          refine P.iinc (dq dtX7_word_0 60 rfl) rfl (by decide) rfl rfl ?_
          refine P.goto (t := 42) (dq dtX7_word_0 61 rfl) rfl ?_
          refine ih (n + 1) _ (by omega) (by omega) (by omega) (by omega) (fun r hr hi => kk r hr (hi.trans ?_))
          constructor
          · rintro ⟨q1, q2⟩
            first
            | (exfalso; omega)
            | exact ⟨by omega, fun i g1 g2 => by
                by_cases e : i = n
                · rw [e]; exact ⟨by omega, by omega⟩
                · exact q2 i (by omega) g2⟩
          · rintro ⟨q1, q2⟩
            have q3 := q2 n (by omega) hlt
            first
            | (exfalso; omega)
            | exact ⟨by omega, fun i g1 g2 => q2 i (by omega) g2⟩
        · refine P.iload (dq dtX7_word_0 35 rfl) rfl ?_
          refine P.aload_n (dq dtX7_word_0 36 rfl) rfl ?_
          refine P.get flX7_45 (dq dtX7_word_0 37 rfl) (by repeat (first | assumption | exact up_s | rw [up_n (by first | assumption | (apply Ne.symm; assumption) | decide | omega)])) (by rfl) ?_
          refine P.iload_n (dq dtX7_word_0 38 rfl) rfl ?_
          refine P.iald (dq dtX7_word_0 39 rfl) (by repeat (first | assumption | exact up_s | rw [up_n (by first | assumption | (apply Ne.symm; assumption) | decide | omega)])) (by omega) (by omega) (by omega) ?_
          rw [esa]
          refine P.icmp_ge (t := 100) (dq dtX7_word_0 40 rfl) rfl (by omega) (by omega) (fun c_69 => ?_) (fun c_69 => ?_)
          · refine P.iconst (dq dtX7_word_0 58 rfl) ?_
            refine P.istore (dq dtX7_word_0 59 rfl) (by decide) rfl rfl ?_
            refine P.iinc (dq dtX7_word_0 60 rfl) rfl (by decide) rfl rfl ?_
            refine P.goto (t := 42) (dq dtX7_word_0 61 rfl) rfl ?_
            refine ih (n + 1) _ (by omega) (by omega) (by omega) (by omega) (fun r hr hi => kk r hr (hi.trans ?_))
            constructor
            · rintro ⟨q1, q2⟩
              first
              | (exfalso; omega)
              | exact ⟨by omega, fun i g1 g2 => by
                  by_cases e : i = n
                  · rw [e]; exact ⟨by omega, by omega⟩
                  · exact q2 i (by omega) g2⟩
            · rintro ⟨q1, q2⟩
              have q3 := q2 n (by omega) hlt
              first
              | (exfalso; omega)
              | exact ⟨by omega, fun i g1 g2 => q2 i (by omega) g2⟩
          · have e1 := hL.2 a n (by omega) (by omega) (by omega) (by omega)
            have q1 := bf n (by omega)
            refine P.aload_n (dq dtX7_word_0 41 rfl) rfl ?_
            refine P.get flX7_48 (dq dtX7_word_0 42 rfl) (by repeat (first | assumption | exact up_s | rw [up_n (by first | assumption | (apply Ne.symm; assumption) | decide | omega)])) (by rfl) ?_
            refine P.bipush (dq dtX7_word_0 43 rfl) rfl ?_
            refine P.iload_n (dq dtX7_word_0 44 rfl) rfl ?_
            refine P.imul (dq dtX7_word_0 45 rfl) ?_
            refine P.iload (dq dtX7_word_0 46 rfl) rfl ?_
            refine P.iadd (dq dtX7_word_0 47 rfl) ?_
            refine P.iald (dq dtX7_word_0 48 rfl) (by repeat (first | assumption | exact up_s | rw [up_n (by first | assumption | (apply Ne.symm; assumption) | decide | omega)])) (by omega) (by omega) (by omega) ?_
            rw [e1]
            refine P.aload_n (dq dtX7_word_0 49 rfl) rfl ?_
            refine P.get flX7_27 (dq dtX7_word_0 50 rfl) (by repeat (first | assumption | exact up_s | rw [up_n (by first | assumption | (apply Ne.symm; assumption) | decide | omega)])) (by rfl) ?_
            refine P.iload_n (dq dtX7_word_0 51 rfl) rfl ?_
            refine P.iload (dq dtX7_word_0 52 rfl) rfl ?_
            refine P.iadd (dq dtX7_word_0 53 rfl) ?_
            refine P.iald (dq dtX7_word_0 54 rfl) (by repeat (first | assumption | exact up_s | rw [up_n (by first | assumption | (apply Ne.symm; assumption) | decide | omega)])) (by omega) (by omega) (by omega) ?_
            rw [w1]
            refine P.icmp_ne (t := 100) (dq dtX7_word_0 55 rfl) rfl (by omega) (by omega) (fun c_93 => ?_) (fun c_93 => ?_)
            · refine P.iconst (dq dtX7_word_0 58 rfl) ?_
              refine P.istore (dq dtX7_word_0 59 rfl) (by decide) rfl rfl ?_
              refine P.iinc (dq dtX7_word_0 60 rfl) rfl (by decide) rfl rfl ?_
              refine P.goto (t := 42) (dq dtX7_word_0 61 rfl) rfl ?_
              refine ih (n + 1) _ (by omega) (by omega) (by omega) (by omega) (fun r hr hi => kk r hr (hi.trans ?_))
              constructor
              · rintro ⟨q1, q2⟩
                first
                | (exfalso; omega)
                | exact ⟨by omega, fun i g1 g2 => by
                    by_cases e : i = n
                    · rw [e]; exact ⟨by omega, by omega⟩
                    · exact q2 i (by omega) g2⟩
              · rintro ⟨q1, q2⟩
                have q3 := q2 n (by omega) hlt
                first
                | (exfalso; omega)
                | exact ⟨by omega, fun i g1 g2 => q2 i (by omega) g2⟩
            · refine P.iconst (dq dtX7_word_0 56 rfl) ?_
              refine P.goto (t := 101) (dq dtX7_word_0 57 rfl) rfl ?_
              refine P.istore (dq dtX7_word_0 59 rfl) (by decide) rfl rfl ?_
              refine P.iinc (dq dtX7_word_0 60 rfl) rfl (by decide) rfl rfl ?_
              refine P.goto (t := 42) (dq dtX7_word_0 61 rfl) rfl ?_
              refine ih (n + 1) _ (by omega) (by omega) (by omega) (by omega) (fun r hr hi => kk r hr (hi.trans ?_))
              constructor
              · rintro ⟨q1, q2⟩
                first
                | (exfalso; omega)
                | exact ⟨by omega, fun i g1 g2 => by
                    by_cases e : i = n
                    · rw [e]; exact ⟨by omega, by omega⟩
                    · exact q2 i (by omega) g2⟩
              · rintro ⟨q1, q2⟩
                have q3 := q2 n (by omega) hlt
                first
                | (exfalso; omega)
                | exact ⟨by omega, fun i g1 g2 => q2 i (by omega) g2⟩
    · obtain rfl : n = lnS k := by omega
      refine P.aload_n (dq dtX7_word_0 25 rfl) rfl ?_
      refine P.get flX7_27 (dq dtX7_word_0 26 rfl) (by repeat (first | assumption | exact up_s | rw [up_n (by first | assumption | (apply Ne.symm; assumption) | decide | omega)])) (by rfl) ?_
      refine P.iload_n (dq dtX7_word_0 27 rfl) rfl ?_
      refine P.iload (dq dtX7_word_0 28 rfl) rfl ?_
      refine P.iadd (dq dtX7_word_0 29 rfl) ?_
      refine P.iald (dq dtX7_word_0 30 rfl) (by repeat (first | assumption | exact up_s | rw [up_n (by first | assumption | (apply Ne.symm; assumption) | decide | omega)])) (by omega) (by omega) (by omega) ?_
      refine P.bipush (dq dtX7_word_0 31 rfl) rfl ?_
      rw [he]
      refine P.icmp_eq (t := 109) (dq dtX7_word_0 32 rfl) rfl (by omega) (by omega) (fun c_53 => ?_) (fun c_53 => ?_)
      · exact kk b hbb ⟨fun z => ⟨z, fun i g1 g2 => absurd g2 (by omega)⟩, fun z => z.1⟩
      · exfalso; omega
theorem wd_step {x : CX} {d N : Nat} {σ : PH} {Q : PQ} {S : CSt} (hG : CG S) {sz lt : Int → Int} {p s u l fi be rp cl dg nu pk wm : Int} (h84 : σ 84 = mdO p s u l fi be rp cl dg nu pk wm) (h94 : σ 94 = pcI 0 3 sz) (h95 : σ 95 = pcI 0 72 lt) (hL : LR S sz lt) {a : Int} (ha3 : 0 ≤ a ∧ a < 3) (esa : sz a = S.ln a.toNat) (h88 : σ 88 = pcI 0 16 wdA) {k : Nat} (hk4 : k < 4) {fd : Int} (kk : P x d mX7_word Q (0, 0) 30 [some (vR 84), some (vI a), some (vI (if spB (S.lf a.toNat) 0 (S.ln a.toNat) k = true then (k : Int) else fd)), some (vI (ofS (k + 1))), some (vI ((k + 1 : Nat) : Int)), none, none] [] N σ) : P x d mX7_word Q (0, 0) 30 [some (vR 84), some (vI a), some (vI fd), some (vI (ofS k)), some (vI k), none, none] [] N σ := by
  have bn := (hG.2.2.2.2.2 a.toNat (by omega)).1
  have bf := (hG.2.2.2.2.2 a.toNat (by omega)).2
  have hb := lnS_b hk4
  have ho := ofS_b k hk4
  have he := wdA_e k hk4
  have is := spB_iff (f := S.lf a.toNat) (u := 0) (w := S.ln a.toNat) hk4
  rw [ofS_s k hk4, show ((k + 1 : Nat) : Int) = (k : Int) + 1 by omega] at kk
  refine P.iload (dq dtX7_word_0 18 rfl) rfl ?_
  refine P.iconst (dq dtX7_word_0 19 rfl) ?_
  refine P.icmp_ge (t := 145) (dq dtX7_word_0 20 rfl) rfl (by omega) (by omega) (fun c_33 => ?_) (fun c_33 => ?_)
  · exfalso; omega
  · refine P.iconst (dq dtX7_word_0 21 rfl) ?_
    refine P.istore (dq dtX7_word_0 22 rfl) (by decide) rfl rfl ?_
    refine P.iconst (dq dtX7_word_0 23 rfl) ?_
    refine P.istore (dq dtX7_word_0 24 rfl) (by decide) rfl rfl ?_
    refine lp_wi hG h84 h94 h95 hL ha3 esa h88 hk4 ((lnS k).toNat + 1) 0 1 (by omega) (by omega) (by omega) (by omega) (fun r hr hi => ?_)
    have key : (r = 1 ∧ lnS k = S.ln a.toNat) ↔ spB (S.lf a.toNat) 0 (S.ln a.toNat) k = true := by
      rw [is]
      constructor
      · rintro ⟨q1, q2⟩
        have q3 := (hi.mp q1).2
        exact ⟨by omega, fun j g1 g2 => by rw [Int.zero_add]; exact (q3 j g1 g2).2⟩
      · rintro ⟨q1, q2⟩
        refine ⟨hi.mpr ⟨rfl, fun i g1 g2 => ⟨by omega, ?_⟩⟩, by omega⟩
        have := q2 i g1 g2
        rwa [Int.zero_add] at this
    refine P.iload (dq dtX7_word_0 62 rfl) rfl ?_
    refine P.if_eq (t := 130) (dq dtX7_word_0 63 rfl) rfl (by omega) (fun c_111 => ?_) (fun c_111 => ?_)
    · refine P.iload_n (dq dtX7_word_1 8 rfl) rfl ?_
      refine P.istore_n (dq dtX7_word_1 9 rfl) (by decide) rfl rfl ?_
      refine P.iload_n (dq dtX7_word_1 10 rfl) rfl ?_
      refine P.iload (dq dtX7_word_1 11 rfl) rfl ?_
      refine P.iconst (dq dtX7_word_1 12 rfl) ?_
      refine P.iadd (dq dtX7_word_1 13 rfl) ?_
      refine P.iadd (dq dtX7_word_1 14 rfl) ?_
      refine P.istore_n (dq dtX7_word_1 15 rfl) (by decide) rfl rfl ?_
      refine P.iinc (dq dtX7_word_1 16 rfl) rfl (by decide) rfl rfl ?_
      refine P.goto (t := 30) (dq dtX7_word_1 17 rfl) rfl ?_
      refine P.keep [0, 1, 2, 3, 4] ?_
      first
      | (rw [if_pos (key.mp ⟨by omega, by omega⟩)] at kk; exact kk)
      | (rw [if_neg (fun z => by have := key.mpr z; omega)] at kk; exact kk)
    · refine P.iload (dq dtX7_word_1 0 rfl) rfl ?_
      refine P.aload_n (dq dtX7_word_1 1 rfl) rfl ?_
      refine P.get flX7_45 (dq dtX7_word_1 2 rfl) (by repeat (first | assumption | exact up_s | rw [up_n (by first | assumption | (apply Ne.symm; assumption) | decide | omega)])) (by rfl) ?_
      refine P.iload_n (dq dtX7_word_1 3 rfl) rfl ?_
      refine P.iald (dq dtX7_word_1 4 rfl) (by repeat (first | assumption | exact up_s | rw [up_n (by first | assumption | (apply Ne.symm; assumption) | decide | omega)])) (by omega) (by omega) (by omega) ?_
      rw [esa]
      refine P.icmp_ne (t := 130) (dq dtX7_word_1 5 rfl) rfl (by omega) (by omega) (fun c_122 => ?_) (fun c_122 => ?_)
      · refine P.iload_n (dq dtX7_word_1 8 rfl) rfl ?_
        refine P.istore_n (dq dtX7_word_1 9 rfl) (by decide) rfl rfl ?_
        refine P.iload_n (dq dtX7_word_1 10 rfl) rfl ?_
        refine P.iload (dq dtX7_word_1 11 rfl) rfl ?_
        refine P.iconst (dq dtX7_word_1 12 rfl) ?_
        refine P.iadd (dq dtX7_word_1 13 rfl) ?_
        refine P.iadd (dq dtX7_word_1 14 rfl) ?_
        refine P.istore_n (dq dtX7_word_1 15 rfl) (by decide) rfl rfl ?_
        refine P.iinc (dq dtX7_word_1 16 rfl) rfl (by decide) rfl rfl ?_
        refine P.goto (t := 30) (dq dtX7_word_1 17 rfl) rfl ?_
        refine P.keep [0, 1, 2, 3, 4] ?_
        first
        | (rw [if_pos (key.mp ⟨by omega, by omega⟩)] at kk; exact kk)
        | (rw [if_neg (fun z => by have := key.mpr z; omega)] at kk; exact kk)
      · refine P.iload (dq dtX7_word_1 6 rfl) rfl ?_
        refine P.goto (t := 131) (dq dtX7_word_1 7 rfl) rfl ?_
        refine P.istore_n (dq dtX7_word_1 9 rfl) (by decide) rfl rfl ?_
        refine P.iload_n (dq dtX7_word_1 10 rfl) rfl ?_
        refine P.iload (dq dtX7_word_1 11 rfl) rfl ?_
        refine P.iconst (dq dtX7_word_1 12 rfl) ?_
        refine P.iadd (dq dtX7_word_1 13 rfl) ?_
        refine P.iadd (dq dtX7_word_1 14 rfl) ?_
        refine P.istore_n (dq dtX7_word_1 15 rfl) (by decide) rfl rfl ?_
        refine P.iinc (dq dtX7_word_1 16 rfl) rfl (by decide) rfl rfl ?_
        refine P.goto (t := 30) (dq dtX7_word_1 17 rfl) rfl ?_
        refine P.keep [0, 1, 2, 3, 4] ?_
        first
        | (rw [if_pos (key.mp ⟨by omega, by omega⟩)] at kk; exact kk)
        | (rw [if_neg (fun z => by have := key.mpr z; omega)] at kk; exact kk)
/-- word -/
theorem md_word {x : CM} {d N : Nat} {σ : PH} {Q : PQ} {S : CSt} (hG : CG S) (hM : MD σ S) (hd : 2 ≤ d) {a : Int} (ha : inR a) (h : Q (some (vI (aWrd S a))) σ) : Call x d 0 0 mX7_word [vR 84, vI a] N σ Q := by
  refine Call.of mcX7_word (Nat.le_of_ble_eq_true rfl) (fun y hy => ?_)
  subst hy
  obtain ⟨wf, sz, lt, a1, a2, a3, a4, a5, fi, be, rp, cl, dg, nu, pk, wm, h84, h85, h86, h87, h88, h89, h90, h91, h92, h93, h94, h95, hW, hL⟩ := id hM
  have hGm := hG.2.1.1
  have hp := hGm.1
  have hs := hGm.2.1
  have hL9 := mul_bd (k := S.now.1.1 - 1) (s := S.now.1.2.1) (by omega) (by omega) (by omega) (by omega)
  refine P.iload_n (dq dtX7_word_0 0 rfl) rfl ?_
  refine P.callS1 (M' := mX7_isLabel) (d' := d - 1) mlX7_232 mcX7_isLabel msX7_isLabel (dq dtX7_word_0 1 rfl) (by omega) (Nat.le_of_ble_eq_true rfl) ?_
  refine ct_X7_isLabel (by omega) ha (fun n_1 => ?_) (fun n_1 => ?_)
  · refine P.if_ne (t := 10) (dq dtX7_word_0 2 rfl) rfl (by omega) (fun _ => ?_) (fun h9 => absurd h9 (by decide))
    have es := hL.1 a (by omega) (by omega)
    have bn := (hG.2.2.2.2.2 a.toNat (by omega)).1
    have bf := (hG.2.2.2.2.2 a.toNat (by omega)).2
    have bz : (sz a < 0 ∧ S.it a = 0 ∧ sz a = -1) ∨ (0 ≤ sz a ∧ S.it a ≠ 0 ∧ sz a = S.ln a.toNat) := by
      rw [es]
      split
      · next q => exact Or.inl ⟨by omega, q, rfl⟩
      · next q => exact Or.inr ⟨by omega, q, rfl⟩
    refine P.aload_n (dq dtX7_word_0 5 rfl) rfl ?_
    refine P.get flX7_45 (dq dtX7_word_0 6 rfl) (by repeat (first | assumption | exact up_s | rw [up_n (by first | assumption | (apply Ne.symm; assumption) | decide | omega)])) (by rfl) ?_
    refine P.iload_n (dq dtX7_word_0 7 rfl) rfl ?_
    refine P.iald (dq dtX7_word_0 8 rfl) (by repeat (first | assumption | exact up_s | rw [up_n (by first | assumption | (apply Ne.symm; assumption) | decide | omega)])) (by omega) (by omega) (by omega) ?_
    refine P.if_ge (t := 22) (dq dtX7_word_0 9 rfl) rfl (by omega) (fun c_16 => ?_) (fun c_16 => ?_)
    · have e9 := rfL_z (it := S.it) (a := a) (by omega) (by omega)
      have esa : sz a = S.ln a.toNat := by omega
      refine P.ldc (n := -100000) (dq dtX7_word_0 12 rfl) kcX7_170 rfl ?_
      refine P.istore_n (dq dtX7_word_0 13 rfl) (by decide) rfl rfl ?_
      refine P.iconst (dq dtX7_word_0 14 rfl) ?_
      refine P.istore_n (dq dtX7_word_0 15 rfl) (by decide) rfl rfl ?_
      refine P.iconst (dq dtX7_word_0 16 rfl) ?_
      refine P.istore (dq dtX7_word_0 17 rfl) (by decide) rfl rfl ?_
      unfold aWrd at h
      rw [if_neg (by omega)] at h
      have ha3 : 0 ≤ a ∧ a < 3 := by omega
      refine wd_step (k := 0) hG h84 h94 h95 hL ha3 esa h88 (by omega) ?_
      refine wd_step (k := 1) hG h84 h94 h95 hL ha3 esa h88 (by omega) ?_
      refine wd_step (k := 2) hG h84 h94 h95 hL ha3 esa h88 (by omega) ?_
      refine wd_step (k := 3) hG h84 h94 h95 hL ha3 esa h88 (by omega) ?_
      have hx := wd_x (f := S.lf a.toNat) (u := 0) (w := S.ln a.toNat) (D := -100000)
      refine P.iload (dq dtX7_word_0 18 rfl) rfl ?_
      refine P.iconst (dq dtX7_word_0 19 rfl) ?_
      refine P.icmp_ge (t := 145) (dq dtX7_word_0 20 rfl) rfl (by omega) (by omega) (fun c_33 => ?_) (fun c_33 => ?_)
      · refine P.iload_n (dq dtX7_word_1 18 rfl) rfl ?_
        refine P.iret (dq dtX7_word_1 19 rfl) rfl rfl rfl ?_
        refine cgQ h ?_
        refine Eq.trans ?_ hx.symm
        split
        · next q => exact q
        · rfl
      · exact absurd c_33 (by decide)
    · refine P.ldc (n := -100011) (dq dtX7_word_0 10 rfl) kcX7_239 rfl ?_
      refine P.iret (dq dtX7_word_0 11 rfl) rfl rfl rfl ?_
      have e9 := rfL_n (it := S.it) (a := a) (by omega) (by omega)
      unfold aWrd at h
      repeat (first | rw [if_pos (by omega)] at h | rw [if_neg (by omega)] at h)
      rw [e9] at h
      exact h
  · refine P.if_ne (t := 10) (dq dtX7_word_0 2 rfl) rfl (by omega) (fun h9 => absurd h9 (by decide)) (fun _ => ?_)
    refine P.ldc (n := -100001) (dq dtX7_word_0 3 rfl) kcX7_163 rfl ?_
    refine P.iret (dq dtX7_word_0 4 rfl) rfl rfl rfl ?_
    have e9 := rfL_u (it := S.it) (a := a) (by omega)
    unfold aWrd at h
    repeat (first | rw [if_pos (by omega)] at h | rw [if_neg (by omega)] at h)
    rw [e9] at h
    exact h
theorem lp_wh {x : CX} {d N : Nat} {σ : PH} {Q : PQ} {p s u n fi be rp cl dg nu pk wm : Int} {f : Int → Int} (h84 : σ 84 = mdO p s u n fi be rp cl dg nu pk wm) (h87 : σ 87 = pcI 0 200 f) (h88 : σ 88 = pcI 0 16 wdA) (hb3 : 0 ≤ fi ∧ fi ≤ be ∧ be ≤ n ∧ n ≤ 200) (hf : ∀ i : Int, 0 ≤ i ∧ i < n → 0 ≤ f i ∧ f i ≤ 255) {k : Nat} (hk4 : k < 4) {fd : Int} : ∀ (t : Nat) (z b : Int), 0 < t → 0 ≤ z → z + t = lnS k + 1 → (b = 0 ∨ b = 1) → (∀ r : Int, (r = 0 ∨ r = 1) → (r = 1 ↔ b = 1 ∧ (∀ i : Int, z ≤ i → i < lnS k → fi + i < be ∧ f (fi + i) = chS k i)) → P x d mX7_wordHere Q (0, 0) 102 [some (vR 84), some (vI fd), some (vI (ofS k)), some (vI k), some (vI (lnS k)), some (vI r)] [] N σ) → P x d mX7_wordHere Q (0, 0) 32 [some (vR 84), some (vI fd), some (vI (ofS k)), some (vI k), some (vI z), some (vI b)] [] N σ := by
  intro t
  induction t with
  | zero =>
    intro z b h00
    exfalso; omega
  | succ t ih =>
    intro z b h00 hn ht hbb kk
    have hb := lnS_b hk4
    have ho := ofS_b k hk4
    have he := wdA_e k hk4
    by_cases hlt : z < lnS k
    · obtain ⟨w1, w2⟩ := wdA_c hk4 hn hlt
      have w3 := chS_R k z
      refine P.aload_n (dq dtX7_wordHere_0 20 rfl) rfl ?_
      refine P.get flX7_27 (dq dtX7_wordHere_0 21 rfl) (by repeat (first | assumption | exact up_s | rw [up_n (by first | assumption | (apply Ne.symm; assumption) | decide | omega)])) (by rfl) ?_
      refine P.iload_n (dq dtX7_wordHere_0 22 rfl) rfl ?_
      refine P.iload (dq dtX7_wordHere_0 23 rfl) rfl ?_
      refine P.iadd (dq dtX7_wordHere_0 24 rfl) ?_
      refine P.iald (dq dtX7_wordHere_0 25 rfl) (by repeat (first | assumption | exact up_s | rw [up_n (by first | assumption | (apply Ne.symm; assumption) | decide | omega)])) (by omega) (by omega) (by omega) ?_
      refine P.bipush (dq dtX7_wordHere_0 26 rfl) rfl ?_
      rw [w1]
      refine P.icmp_eq (t := 102) (dq dtX7_wordHere_0 27 rfl) rfl (by omega) (by omega) (fun c_43 => ?_) (fun c_43 => ?_)
      · exfalso; omega
      · refine P.iload (dq dtX7_wordHere_0 28 rfl) rfl ?_
        refine P.if_eq (t := 93) (dq dtX7_wordHere_0 29 rfl) rfl (by omega) (fun c_48 => ?_) (fun c_48 => ?_)
        · refine P.iconst (dq dtX7_wordHere_0 53 rfl) ?_
          refine P.istore (dq dtX7_wordHere_0 54 rfl) (by decide) rfl rfl ?_
          refine P.iinc (dq dtX7_wordHere_0 55 rfl) rfl (by decide) rfl rfl ?_
          refine P.goto (t := 32) (dq dtX7_wordHere_0 56 rfl) rfl ?_
          refine ih (z + 1) _ (by omega) (by omega) (by omega) (by omega) (fun r hr hi => kk r hr (hi.trans ?_))
          constructor
          · rintro ⟨q1, q2⟩
            first
            | (exfalso; omega)
            | exact ⟨by omega, fun i g1 g2 => by
                by_cases e : i = z
                · rw [e]; exact ⟨by omega, by omega⟩
                · exact q2 i (by omega) g2⟩
          · rintro ⟨q1, q2⟩
            have q3 := q2 z (by omega) hlt
            first
            | (exfalso; omega)
            | exact ⟨by omega, fun i g1 g2 => q2 i (by omega) g2⟩
        · refine P.aload_n (dq dtX7_wordHere_0 30 rfl) rfl ?_
          refine P.get flX7_91 (dq dtX7_wordHere_0 31 rfl) (by repeat (first | assumption | exact up_s | rw [up_n (by first | assumption | (apply Ne.symm; assumption) | decide | omega)])) (by rfl) ?_
          refine P.iload (dq dtX7_wordHere_0 32 rfl) rfl ?_
          refine P.iadd (dq dtX7_wordHere_0 33 rfl) ?_
          refine P.aload_n (dq dtX7_wordHere_0 34 rfl) rfl ?_
          refine P.get flX7_88 (dq dtX7_wordHere_0 35 rfl) (by repeat (first | assumption | exact up_s | rw [up_n (by first | assumption | (apply Ne.symm; assumption) | decide | omega)])) (by rfl) ?_
          refine P.icmp_ge (t := 93) (dq dtX7_wordHere_0 36 rfl) rfl (by omega) (by omega) (fun c_62 => ?_) (fun c_62 => ?_)
          · refine P.iconst (dq dtX7_wordHere_0 53 rfl) ?_
            refine P.istore (dq dtX7_wordHere_0 54 rfl) (by decide) rfl rfl ?_
            refine P.iinc (dq dtX7_wordHere_0 55 rfl) rfl (by decide) rfl rfl ?_
            refine P.goto (t := 32) (dq dtX7_wordHere_0 56 rfl) rfl ?_
            refine ih (z + 1) _ (by omega) (by omega) (by omega) (by omega) (fun r hr hi => kk r hr (hi.trans ?_))
            constructor
            · rintro ⟨q1, q2⟩
              first
              | (exfalso; omega)
              | exact ⟨by omega, fun i g1 g2 => by
                  by_cases e : i = z
                  · rw [e]; exact ⟨by omega, by omega⟩
                  · exact q2 i (by omega) g2⟩
            · rintro ⟨q1, q2⟩
              have q3 := q2 z (by omega) hlt
              first
              | (exfalso; omega)
              | exact ⟨by omega, fun i g1 g2 => q2 i (by omega) g2⟩
          · have q1 := hf (fi + z) (by omega)
            refine P.aload_n (dq dtX7_wordHere_0 37 rfl) rfl ?_
            refine P.get flX7_24 (dq dtX7_wordHere_0 38 rfl) (by repeat (first | assumption | exact up_s | rw [up_n (by first | assumption | (apply Ne.symm; assumption) | decide | omega)])) (by rfl) ?_
            refine P.aload_n (dq dtX7_wordHere_0 39 rfl) rfl ?_
            refine P.get flX7_91 (dq dtX7_wordHere_0 40 rfl) (by repeat (first | assumption | exact up_s | rw [up_n (by first | assumption | (apply Ne.symm; assumption) | decide | omega)])) (by rfl) ?_
            refine P.iload (dq dtX7_wordHere_0 41 rfl) rfl ?_
            refine P.iadd (dq dtX7_wordHere_0 42 rfl) ?_
            refine P.iald (dq dtX7_wordHere_0 43 rfl) (by repeat (first | assumption | exact up_s | rw [up_n (by first | assumption | (apply Ne.symm; assumption) | decide | omega)])) (by omega) (by omega) (by omega) ?_
            refine P.aload_n (dq dtX7_wordHere_0 44 rfl) rfl ?_
            refine P.get flX7_27 (dq dtX7_wordHere_0 45 rfl) (by repeat (first | assumption | exact up_s | rw [up_n (by first | assumption | (apply Ne.symm; assumption) | decide | omega)])) (by rfl) ?_
            refine P.iload_n (dq dtX7_wordHere_0 46 rfl) rfl ?_
            refine P.iload (dq dtX7_wordHere_0 47 rfl) rfl ?_
            refine P.iadd (dq dtX7_wordHere_0 48 rfl) ?_
            refine P.iald (dq dtX7_wordHere_0 49 rfl) (by repeat (first | assumption | exact up_s | rw [up_n (by first | assumption | (apply Ne.symm; assumption) | decide | omega)])) (by omega) (by omega) (by omega) ?_
            rw [w1]
            refine P.icmp_ne (t := 93) (dq dtX7_wordHere_0 50 rfl) rfl (by omega) (by omega) (fun c_86 => ?_) (fun c_86 => ?_)
            · refine P.iconst (dq dtX7_wordHere_0 53 rfl) ?_
              refine P.istore (dq dtX7_wordHere_0 54 rfl) (by decide) rfl rfl ?_
              refine P.iinc (dq dtX7_wordHere_0 55 rfl) rfl (by decide) rfl rfl ?_
              refine P.goto (t := 32) (dq dtX7_wordHere_0 56 rfl) rfl ?_
              refine ih (z + 1) _ (by omega) (by omega) (by omega) (by omega) (fun r hr hi => kk r hr (hi.trans ?_))
              constructor
              · rintro ⟨q1, q2⟩
                first
                | (exfalso; omega)
                | exact ⟨by omega, fun i g1 g2 => by
                    by_cases e : i = z
                    · rw [e]; exact ⟨by omega, by omega⟩
                    · exact q2 i (by omega) g2⟩
              · rintro ⟨q1, q2⟩
                have q3 := q2 z (by omega) hlt
                first
                | (exfalso; omega)
                | exact ⟨by omega, fun i g1 g2 => q2 i (by omega) g2⟩
            · refine P.iconst (dq dtX7_wordHere_0 51 rfl) ?_
              refine P.goto (t := 94) (dq dtX7_wordHere_0 52 rfl) rfl ?_
              refine P.istore (dq dtX7_wordHere_0 54 rfl) (by decide) rfl rfl ?_
              refine P.iinc (dq dtX7_wordHere_0 55 rfl) rfl (by decide) rfl rfl ?_
              refine P.goto (t := 32) (dq dtX7_wordHere_0 56 rfl) rfl ?_
              refine ih (z + 1) _ (by omega) (by omega) (by omega) (by omega) (fun r hr hi => kk r hr (hi.trans ?_))
              constructor
              · rintro ⟨q1, q2⟩
                first
                | (exfalso; omega)
                | exact ⟨by omega, fun i g1 g2 => by
                    by_cases e : i = z
                    · rw [e]; exact ⟨by omega, by omega⟩
                    · exact q2 i (by omega) g2⟩
              · rintro ⟨q1, q2⟩
                have q3 := q2 z (by omega) hlt
                first
                | (exfalso; omega)
                | exact ⟨by omega, fun i g1 g2 => q2 i (by omega) g2⟩
    · obtain rfl : z = lnS k := by omega
      refine P.aload_n (dq dtX7_wordHere_0 20 rfl) rfl ?_
      refine P.get flX7_27 (dq dtX7_wordHere_0 21 rfl) (by repeat (first | assumption | exact up_s | rw [up_n (by first | assumption | (apply Ne.symm; assumption) | decide | omega)])) (by rfl) ?_
      refine P.iload_n (dq dtX7_wordHere_0 22 rfl) rfl ?_
      refine P.iload (dq dtX7_wordHere_0 23 rfl) rfl ?_
      refine P.iadd (dq dtX7_wordHere_0 24 rfl) ?_
      refine P.iald (dq dtX7_wordHere_0 25 rfl) (by repeat (first | assumption | exact up_s | rw [up_n (by first | assumption | (apply Ne.symm; assumption) | decide | omega)])) (by omega) (by omega) (by omega) ?_
      refine P.bipush (dq dtX7_wordHere_0 26 rfl) rfl ?_
      rw [he]
      refine P.icmp_eq (t := 102) (dq dtX7_wordHere_0 27 rfl) rfl (by omega) (by omega) (fun c_43 => ?_) (fun c_43 => ?_)
      · exact kk b hbb ⟨fun z => ⟨z, fun i g1 g2 => absurd g2 (by omega)⟩, fun z => z.1⟩
      · exfalso; omega
theorem wh_step {x : CX} {d N : Nat} {σ : PH} {Q : PQ} {p s u n fi be rp cl dg nu pk wm : Int} {f : Int → Int} (h84 : σ 84 = mdO p s u n fi be rp cl dg nu pk wm) (h87 : σ 87 = pcI 0 200 f) (h88 : σ 88 = pcI 0 16 wdA) (hb3 : 0 ≤ fi ∧ fi ≤ be ∧ be ≤ n ∧ n ≤ 200) (hf : ∀ i : Int, 0 ≤ i ∧ i < n → 0 ≤ f i ∧ f i ≤ 255) {k : Nat} (hk4 : k < 4) {fd : Int} (hfb : fi < n → fi < be) (kk : P x d mX7_wordHere Q (0, 0) 6 [some (vR 84), some (vI (if spB f fi be k = true then (k : Int) else fd)), some (vI (ofS (k + 1))), some (vI ((k + 1 : Nat) : Int)), none, none] [] N σ) : P x d mX7_wordHere Q (0, 0) 6 [some (vR 84), some (vI fd), some (vI (ofS k)), some (vI k), none, none] [] N σ := by
  have hb := lnS_b hk4
  have ho := ofS_b k hk4
  have he := wdA_e k hk4
  have is := spB_iff (f := f) (u := fi) (w := be) hk4
  rw [ofS_s k hk4, show ((k + 1 : Nat) : Int) = (k : Int) + 1 by omega] at kk
  refine P.iload_n (dq dtX7_wordHere_0 6 rfl) rfl ?_
  refine P.iconst (dq dtX7_wordHere_0 7 rfl) ?_
  refine P.icmp_ge (t := 140) (dq dtX7_wordHere_0 8 rfl) rfl (by omega) (by omega) (fun c_8 => ?_) (fun c_8 => ?_)
  · exfalso; omega
  · refine P.iconst (dq dtX7_wordHere_0 9 rfl) ?_
    refine P.istore (dq dtX7_wordHere_0 10 rfl) (by decide) rfl rfl ?_
    refine P.aload_n (dq dtX7_wordHere_0 11 rfl) rfl ?_
    refine P.get flX7_91 (dq dtX7_wordHere_0 12 rfl) (by repeat (first | assumption | exact up_s | rw [up_n (by first | assumption | (apply Ne.symm; assumption) | decide | omega)])) (by rfl) ?_
    refine P.aload_n (dq dtX7_wordHere_0 13 rfl) rfl ?_
    refine P.get flX7_76 (dq dtX7_wordHere_0 14 rfl) (by repeat (first | assumption | exact up_s | rw [up_n (by first | assumption | (apply Ne.symm; assumption) | decide | omega)])) (by rfl) ?_
    refine P.icmp_ge (t := 29) (dq dtX7_wordHere_0 15 rfl) rfl (by omega) (by omega) (fun c_22 => ?_) (fun c_22 => ?_)
    · refine P.iconst (dq dtX7_wordHere_0 18 rfl) ?_
      refine P.istore (dq dtX7_wordHere_0 19 rfl) (by decide) rfl rfl ?_
      refine lp_wh h84 h87 h88 hb3 hf hk4 ((lnS k).toNat + 1) 0 _ (by omega) (by omega) (by omega) (by omega) (fun r hr hi => ?_)
      have key : (r = 1 ∧ be - fi = lnS k) ↔ spB f fi be k = true := by
        rw [is]
        constructor
        · rintro ⟨q1, q2⟩
          have q3 := (hi.mp q1).2
          exact ⟨by omega, fun j g1 g2 => (q3 j g1 g2).2⟩
        · rintro ⟨q1, q2⟩
          first
          | (exfalso; omega)
          | exact ⟨hi.mpr ⟨rfl, fun i g1 g2 => ⟨by omega, q2 i g1 g2⟩⟩, by omega⟩
      refine P.iload (dq dtX7_wordHere_0 57 rfl) rfl ?_
      refine P.if_eq (t := 125) (dq dtX7_wordHere_0 58 rfl) rfl (by omega) (fun c_104 => ?_) (fun c_104 => ?_)
      · refine P.iload_n (dq dtX7_wordHere_1 4 rfl) rfl ?_
        refine P.istore_n (dq dtX7_wordHere_1 5 rfl) (by decide) rfl rfl ?_
        refine P.iload_n (dq dtX7_wordHere_1 6 rfl) rfl ?_
        refine P.iload (dq dtX7_wordHere_1 7 rfl) rfl ?_
        refine P.iconst (dq dtX7_wordHere_1 8 rfl) ?_
        refine P.iadd (dq dtX7_wordHere_1 9 rfl) ?_
        refine P.iadd (dq dtX7_wordHere_1 10 rfl) ?_
        refine P.istore_n (dq dtX7_wordHere_1 11 rfl) (by decide) rfl rfl ?_
        refine P.iinc (dq dtX7_wordHere_1 12 rfl) rfl (by decide) rfl rfl ?_
        refine P.goto (t := 6) (dq dtX7_wordHere_1 13 rfl) rfl ?_
        refine P.keep [0, 1, 2, 3] ?_
        first
        | (rw [if_pos (key.mp ⟨by omega, by omega⟩)] at kk; exact kk)
        | (rw [if_neg (fun z => by have := key.mpr z; omega)] at kk; exact kk)
      · refine P.aload_n (dq dtX7_wordHere_0 59 rfl) rfl ?_
        refine P.get flX7_88 (dq dtX7_wordHere_0 60 rfl) (by repeat (first | assumption | exact up_s | rw [up_n (by first | assumption | (apply Ne.symm; assumption) | decide | omega)])) (by rfl) ?_
        refine P.aload_n (dq dtX7_wordHere_0 61 rfl) rfl ?_
        refine P.get flX7_91 (dq dtX7_wordHere_0 62 rfl) (by repeat (first | assumption | exact up_s | rw [up_n (by first | assumption | (apply Ne.symm; assumption) | decide | omega)])) (by rfl) ?_
        refine P.isub (dq dtX7_wordHere_0 63 rfl) ?_
        refine P.iload (dq dtX7_wordHere_1 0 rfl) rfl ?_
        refine P.icmp_ne (t := 125) (dq dtX7_wordHere_1 1 rfl) rfl (by omega) (by omega) (fun c_118 => ?_) (fun c_118 => ?_)
        · refine P.iload_n (dq dtX7_wordHere_1 4 rfl) rfl ?_
          refine P.istore_n (dq dtX7_wordHere_1 5 rfl) (by decide) rfl rfl ?_
          refine P.iload_n (dq dtX7_wordHere_1 6 rfl) rfl ?_
          refine P.iload (dq dtX7_wordHere_1 7 rfl) rfl ?_
          refine P.iconst (dq dtX7_wordHere_1 8 rfl) ?_
          refine P.iadd (dq dtX7_wordHere_1 9 rfl) ?_
          refine P.iadd (dq dtX7_wordHere_1 10 rfl) ?_
          refine P.istore_n (dq dtX7_wordHere_1 11 rfl) (by decide) rfl rfl ?_
          refine P.iinc (dq dtX7_wordHere_1 12 rfl) rfl (by decide) rfl rfl ?_
          refine P.goto (t := 6) (dq dtX7_wordHere_1 13 rfl) rfl ?_
          refine P.keep [0, 1, 2, 3] ?_
          first
          | (rw [if_pos (key.mp ⟨by omega, by omega⟩)] at kk; exact kk)
          | (rw [if_neg (fun z => by have := key.mpr z; omega)] at kk; exact kk)
        · refine P.iload_n (dq dtX7_wordHere_1 2 rfl) rfl ?_
          refine P.goto (t := 126) (dq dtX7_wordHere_1 3 rfl) rfl ?_
          refine P.istore_n (dq dtX7_wordHere_1 5 rfl) (by decide) rfl rfl ?_
          refine P.iload_n (dq dtX7_wordHere_1 6 rfl) rfl ?_
          refine P.iload (dq dtX7_wordHere_1 7 rfl) rfl ?_
          refine P.iconst (dq dtX7_wordHere_1 8 rfl) ?_
          refine P.iadd (dq dtX7_wordHere_1 9 rfl) ?_
          refine P.iadd (dq dtX7_wordHere_1 10 rfl) ?_
          refine P.istore_n (dq dtX7_wordHere_1 11 rfl) (by decide) rfl rfl ?_
          refine P.iinc (dq dtX7_wordHere_1 12 rfl) rfl (by decide) rfl rfl ?_
          refine P.goto (t := 6) (dq dtX7_wordHere_1 13 rfl) rfl ?_
          refine P.keep [0, 1, 2, 3] ?_
          first
          | (rw [if_pos (key.mp ⟨by omega, by omega⟩)] at kk; exact kk)
          | (rw [if_neg (fun z => by have := key.mpr z; omega)] at kk; exact kk)
    · refine P.iconst (dq dtX7_wordHere_0 16 rfl) ?_
      refine P.goto (t := 30) (dq dtX7_wordHere_0 17 rfl) rfl ?_
      refine P.istore (dq dtX7_wordHere_0 19 rfl) (by decide) rfl rfl ?_
      refine lp_wh h84 h87 h88 hb3 hf hk4 ((lnS k).toNat + 1) 0 _ (by omega) (by omega) (by omega) (by omega) (fun r hr hi => ?_)
      have key : (r = 1 ∧ be - fi = lnS k) ↔ spB f fi be k = true := by
        rw [is]
        constructor
        · rintro ⟨q1, q2⟩
          have q3 := (hi.mp q1).2
          exact ⟨by omega, fun j g1 g2 => (q3 j g1 g2).2⟩
        · rintro ⟨q1, q2⟩
          first
          | (exfalso; omega)
          | exact ⟨hi.mpr ⟨rfl, fun i g1 g2 => ⟨by omega, q2 i g1 g2⟩⟩, by omega⟩
      refine P.iload (dq dtX7_wordHere_0 57 rfl) rfl ?_
      refine P.if_eq (t := 125) (dq dtX7_wordHere_0 58 rfl) rfl (by omega) (fun c_104 => ?_) (fun c_104 => ?_)
      · refine P.iload_n (dq dtX7_wordHere_1 4 rfl) rfl ?_
        refine P.istore_n (dq dtX7_wordHere_1 5 rfl) (by decide) rfl rfl ?_
        refine P.iload_n (dq dtX7_wordHere_1 6 rfl) rfl ?_
        refine P.iload (dq dtX7_wordHere_1 7 rfl) rfl ?_
        refine P.iconst (dq dtX7_wordHere_1 8 rfl) ?_
        refine P.iadd (dq dtX7_wordHere_1 9 rfl) ?_
        refine P.iadd (dq dtX7_wordHere_1 10 rfl) ?_
        refine P.istore_n (dq dtX7_wordHere_1 11 rfl) (by decide) rfl rfl ?_
        refine P.iinc (dq dtX7_wordHere_1 12 rfl) rfl (by decide) rfl rfl ?_
        refine P.goto (t := 6) (dq dtX7_wordHere_1 13 rfl) rfl ?_
        refine P.keep [0, 1, 2, 3] ?_
        first
        | (rw [if_pos (key.mp ⟨by omega, by omega⟩)] at kk; exact kk)
        | (rw [if_neg (fun z => by have := key.mpr z; omega)] at kk; exact kk)
      · refine P.aload_n (dq dtX7_wordHere_0 59 rfl) rfl ?_
        refine P.get flX7_88 (dq dtX7_wordHere_0 60 rfl) (by repeat (first | assumption | exact up_s | rw [up_n (by first | assumption | (apply Ne.symm; assumption) | decide | omega)])) (by rfl) ?_
        refine P.aload_n (dq dtX7_wordHere_0 61 rfl) rfl ?_
        refine P.get flX7_91 (dq dtX7_wordHere_0 62 rfl) (by repeat (first | assumption | exact up_s | rw [up_n (by first | assumption | (apply Ne.symm; assumption) | decide | omega)])) (by rfl) ?_
        refine P.isub (dq dtX7_wordHere_0 63 rfl) ?_
        refine P.iload (dq dtX7_wordHere_1 0 rfl) rfl ?_
        refine P.icmp_ne (t := 125) (dq dtX7_wordHere_1 1 rfl) rfl (by omega) (by omega) (fun c_118 => ?_) (fun c_118 => ?_)
        · refine P.iload_n (dq dtX7_wordHere_1 4 rfl) rfl ?_
          refine P.istore_n (dq dtX7_wordHere_1 5 rfl) (by decide) rfl rfl ?_
          refine P.iload_n (dq dtX7_wordHere_1 6 rfl) rfl ?_
          refine P.iload (dq dtX7_wordHere_1 7 rfl) rfl ?_
          refine P.iconst (dq dtX7_wordHere_1 8 rfl) ?_
          refine P.iadd (dq dtX7_wordHere_1 9 rfl) ?_
          refine P.iadd (dq dtX7_wordHere_1 10 rfl) ?_
          refine P.istore_n (dq dtX7_wordHere_1 11 rfl) (by decide) rfl rfl ?_
          refine P.iinc (dq dtX7_wordHere_1 12 rfl) rfl (by decide) rfl rfl ?_
          refine P.goto (t := 6) (dq dtX7_wordHere_1 13 rfl) rfl ?_
          refine P.keep [0, 1, 2, 3] ?_
          first
          | (rw [if_pos (key.mp ⟨by omega, by omega⟩)] at kk; exact kk)
          | (rw [if_neg (fun z => by have := key.mpr z; omega)] at kk; exact kk)
        · refine P.iload_n (dq dtX7_wordHere_1 2 rfl) rfl ?_
          refine P.goto (t := 126) (dq dtX7_wordHere_1 3 rfl) rfl ?_
          refine P.istore_n (dq dtX7_wordHere_1 5 rfl) (by decide) rfl rfl ?_
          refine P.iload_n (dq dtX7_wordHere_1 6 rfl) rfl ?_
          refine P.iload (dq dtX7_wordHere_1 7 rfl) rfl ?_
          refine P.iconst (dq dtX7_wordHere_1 8 rfl) ?_
          refine P.iadd (dq dtX7_wordHere_1 9 rfl) ?_
          refine P.iadd (dq dtX7_wordHere_1 10 rfl) ?_
          refine P.istore_n (dq dtX7_wordHere_1 11 rfl) (by decide) rfl rfl ?_
          refine P.iinc (dq dtX7_wordHere_1 12 rfl) rfl (by decide) rfl rfl ?_
          refine P.goto (t := 6) (dq dtX7_wordHere_1 13 rfl) rfl ?_
          refine P.keep [0, 1, 2, 3] ?_
          first
          | (rw [if_pos (key.mp ⟨by omega, by omega⟩)] at kk; exact kk)
          | (rw [if_neg (fun z => by have := key.mpr z; omega)] at kk; exact kk)
/-- wordHere -/
theorem ct_wordHere {x : CM} {d N : Nat} {σ : PH} {Q : PQ} {p s u n fi be rp cl dg nu pk wm : Int} {f : Int → Int} (h84 : σ 84 = mdO p s u n fi be rp cl dg nu pk wm) (h87 : σ 87 = pcI 0 200 f) (h88 : σ 88 = pcI 0 16 wdA) (hb3 : 0 ≤ fi ∧ fi ≤ be ∧ be ≤ n ∧ n ≤ 200) (hf : ∀ i : Int, 0 ≤ i ∧ i < n → 0 ≤ f i ∧ f i ≤ 255) (hfb : fi < n → fi < be) (h : Q (some (vI (whF f fi be))) σ) : Call x d 0 0 mX7_wordHere [vR 84] N σ Q := by
  refine Call.of mcX7_wordHere (Nat.le_of_ble_eq_true rfl) (fun y hy => ?_)
  subst hy
  refine P.iconst (dq dtX7_wordHere_0 0 rfl) ?_
  refine P.istore_n (dq dtX7_wordHere_0 1 rfl) (by decide) rfl rfl ?_
  refine P.iconst (dq dtX7_wordHere_0 2 rfl) ?_
  refine P.istore_n (dq dtX7_wordHere_0 3 rfl) (by decide) rfl rfl ?_
  refine P.iconst (dq dtX7_wordHere_0 4 rfl) ?_
  refine P.istore_n (dq dtX7_wordHere_0 5 rfl) (by decide) rfl rfl ?_
  refine wh_step (k := 0) h84 h87 h88 hb3 hf (by omega) hfb ?_
  refine wh_step (k := 1) h84 h87 h88 hb3 hf (by omega) hfb ?_
  refine wh_step (k := 2) h84 h87 h88 hb3 hf (by omega) hfb ?_
  refine wh_step (k := 3) h84 h87 h88 hb3 hf (by omega) hfb ?_
  have hx := wd_x (f := f) (u := fi) (w := be) (D := -1)
  refine P.iload_n (dq dtX7_wordHere_0 6 rfl) rfl ?_
  refine P.iconst (dq dtX7_wordHere_0 7 rfl) ?_
  refine P.icmp_ge (t := 140) (dq dtX7_wordHere_0 8 rfl) rfl (by omega) (by omega) (fun c_8 => ?_) (fun c_8 => ?_)
  · refine P.iload_n (dq dtX7_wordHere_1 14 rfl) rfl ?_
    refine P.iret (dq dtX7_wordHere_1 15 rfl) rfl rfl rfl ?_
    refine cgQ h ?_
    unfold whF
    exact hx.symm
  · exact absurd c_8 (by decide)
