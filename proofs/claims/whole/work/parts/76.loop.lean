/-- the law's loop -/
theorem law_loop {x : CX} {Q : PQ} {b : Nat × Nat} {n : Nat} {xs : Nat → Int32} (hX : SX x n xs) (hend : ∀ (L : List (Option Value)) (N : Nat) (σ : PH), P x 12 mL_law Q b 1012 L [vI 1] N σ) : ∀ (t : Nat) (i : Int) (σ : PH) (S : CSt), 0 ≤ i → i ≤ 4096 → n - i < t → CS σ S → MD σ S → P x 12 mL_law Q b 18 [some (vR 2000), some (vR 0), some (vR 84), some (vI i)] [] 96 σ := by
  intro t
  induction t with
  | zero =>
    intro i σ S h0 h1 ht hS hM
    refine P.iload_n (dq dtL_law_0 10 rfl) rfl ?_
    refine P.aload_n (dq dtL_law_0 11 rfl) rfl ?_
    refine P.sclen hX (dq dtL_law_0 12 rfl) ?_
    refine P.iconst (dq dtL_law_0 13 rfl) ?_
    refine P.isub (dq dtL_law_0 14 rfl) ?_
    have hn := hX.2.2.2
    refine P.icmp_gt (t := 1011) (dq dtL_law_0 15 rfl) rfl (by omega) (by omega) (fun c1 => ?_) (fun c1 => ?_)
    · refine P.iconst (dq dtL_law_10 31 rfl) ?_
      exact hend _ _ _
    · exfalso; omega
  | succ t ih =>
    intro i σ S h0 h1 ht hS hM
    have hn := hX.2.2.2
    refine P.iload_n (dq dtL_law_0 10 rfl) rfl ?_
    refine P.aload_n (dq dtL_law_0 11 rfl) rfl ?_
    refine P.sclen hX (dq dtL_law_0 12 rfl) ?_
    refine P.iconst (dq dtL_law_0 13 rfl) ?_
    refine P.isub (dq dtL_law_0 14 rfl) ?_
    refine P.icmp_gt (t := 1011) (dq dtL_law_0 15 rfl) rfl (by omega) (by omega) (fun c1 => ?_) (fun c1 => ?_)
    · refine P.iconst (dq dtL_law_10 31 rfl) ?_
      exact hend _ _ _
    have hn4 : i + 4 ≤ n := by omega
    have kk : ∀ (σ' : PH) (S' : CSt), CS σ' S' → MD σ' S' → P x 12 mL_law Q b 1005 [some (vR 2000), some (vR 0), some (vR 84), some (vI i)] [] 96 σ' := by
      intro σ' S' hS' hM'
      refine P.iinc (dq dtL_law_10 29 rfl) rfl (by decide) rfl rfl ?_
      refine P.goto (t := 18) (dq dtL_law_10 30 rfl) rfl ?_
      exact ih (i + 4) σ' S' (by omega) (by omega) (by omega) hS' hM'
    refine P.aload_n (dq dtL_law_0 16 rfl) rfl ?_
    refine P.iload_n (dq dtL_law_0 17 rfl) rfl ?_
    refine P.scld hX (dq dtL_law_0 18 rfl) (by omega) (by omega) ?_
    refine P.bipush (dq dtL_law_0 19 rfl) rfl ?_
    refine P.iand31 (dq dtL_law_0 20 rfl) (fun z z0 z1 => ?_)
    rcases (show z ≤ 15 ∨ 16 ≤ z by omega) with e | e
    · rcases (show z ≤ 7 ∨ 8 ≤ z by omega) with e | e
      · rcases (show z ≤ 3 ∨ 4 ≤ z by omega) with e | e
        · rcases (show z ≤ 1 ∨ 2 ≤ z by omega) with e | e
          · rcases (show z ≤ 0 ∨ 1 ≤ z by omega) with e | e
            · obtain rfl : z = 0 := by omega
              refine P.tswIn (off := 140) (t := 172) (dq dtL_law_0 21 rfl) (by omega) (by omega) (by omega) rfl rfl ?_
              exact lc_0 hX h0 hn4 hS hM kk
            · obtain rfl : z = 1 := by omega
              refine P.tswIn (off := 163) (t := 195) (dq dtL_law_0 21 rfl) (by omega) (by omega) (by omega) rfl rfl ?_
              exact lc_1 hX h0 hn4 hS hM kk
          · rcases (show z ≤ 2 ∨ 3 ≤ z by omega) with e | e
            · obtain rfl : z = 2 := by omega
              refine P.tswIn (off := 176) (t := 208) (dq dtL_law_0 21 rfl) (by omega) (by omega) (by omega) rfl rfl ?_
              exact lc_2 hX h0 hn4 hS hM kk
            · obtain rfl : z = 3 := by omega
              refine P.tswIn (off := 189) (t := 221) (dq dtL_law_0 21 rfl) (by omega) (by omega) (by omega) rfl rfl ?_
              exact lc_3 hX h0 hn4 hS hM kk
        · rcases (show z ≤ 5 ∨ 6 ≤ z by omega) with e | e
          · rcases (show z ≤ 4 ∨ 5 ≤ z by omega) with e | e
            · obtain rfl : z = 4 := by omega
              refine P.tswIn (off := 202) (t := 234) (dq dtL_law_0 21 rfl) (by omega) (by omega) (by omega) rfl rfl ?_
              exact lc_4 hX h0 hn4 hS hM kk
            · obtain rfl : z = 5 := by omega
              refine P.tswIn (off := 245) (t := 277) (dq dtL_law_0 21 rfl) (by omega) (by omega) (by omega) rfl rfl ?_
              exact lc_5 hX h0 hn4 hS hM kk
          · rcases (show z ≤ 6 ∨ 7 ≤ z by omega) with e | e
            · obtain rfl : z = 6 := by omega
              refine P.tswIn (off := 278) (t := 310) (dq dtL_law_0 21 rfl) (by omega) (by omega) (by omega) rfl rfl ?_
              exact lc_6 hX h0 hn4 hS hM kk
            · obtain rfl : z = 7 := by omega
              refine P.tswIn (off := 291) (t := 323) (dq dtL_law_0 21 rfl) (by omega) (by omega) (by omega) rfl rfl ?_
              exact lc_7 hX h0 hn4 hS hM kk
      · rcases (show z ≤ 11 ∨ 12 ≤ z by omega) with e | e
        · rcases (show z ≤ 9 ∨ 10 ≤ z by omega) with e | e
          · rcases (show z ≤ 8 ∨ 9 ≤ z by omega) with e | e
            · obtain rfl : z = 8 := by omega
              refine P.tswIn (off := 314) (t := 346) (dq dtL_law_0 21 rfl) (by omega) (by omega) (by omega) rfl rfl ?_
              exact lc_8 hX h0 hn4 hS hM kk
            · obtain rfl : z = 9 := by omega
              refine P.tswIn (off := 337) (t := 369) (dq dtL_law_0 21 rfl) (by omega) (by omega) (by omega) rfl rfl ?_
              exact lc_9 hX h0 hn4 hS hM kk
          · rcases (show z ≤ 10 ∨ 11 ≤ z by omega) with e | e
            · obtain rfl : z = 10 := by omega
              refine P.tswIn (off := 380) (t := 412) (dq dtL_law_0 21 rfl) (by omega) (by omega) (by omega) rfl rfl ?_
              exact lc_10 hX h0 hn4 hS hM kk
            · obtain rfl : z = 11 := by omega
              refine P.tswIn (off := 423) (t := 455) (dq dtL_law_0 21 rfl) (by omega) (by omega) (by omega) rfl rfl ?_
              exact lc_11 hX h0 hn4 hS hM kk
        · rcases (show z ≤ 13 ∨ 14 ≤ z by omega) with e | e
          · rcases (show z ≤ 12 ∨ 13 ≤ z by omega) with e | e
            · obtain rfl : z = 12 := by omega
              refine P.tswIn (off := 456) (t := 488) (dq dtL_law_0 21 rfl) (by omega) (by omega) (by omega) rfl rfl ?_
              exact lc_12 hX h0 hn4 hS hM kk
            · obtain rfl : z = 13 := by omega
              refine P.tswIn (off := 479) (t := 511) (dq dtL_law_0 21 rfl) (by omega) (by omega) (by omega) rfl rfl ?_
              exact lc_13 hX h0 hn4 hS hM kk
          · rcases (show z ≤ 14 ∨ 15 ≤ z by omega) with e | e
            · obtain rfl : z = 14 := by omega
              refine P.tswIn (off := 492) (t := 524) (dq dtL_law_0 21 rfl) (by omega) (by omega) (by omega) rfl rfl ?_
              exact lc_14 hX h0 hn4 hS hM kk
            · obtain rfl : z = 15 := by omega
              refine P.tswIn (off := 535) (t := 567) (dq dtL_law_0 21 rfl) (by omega) (by omega) (by omega) rfl rfl ?_
              exact lc_15 hX h0 hn4 hS hM kk
    · rcases (show z ≤ 23 ∨ 24 ≤ z by omega) with e | e
      · rcases (show z ≤ 19 ∨ 20 ≤ z by omega) with e | e
        · rcases (show z ≤ 17 ∨ 18 ≤ z by omega) with e | e
          · rcases (show z ≤ 16 ∨ 17 ≤ z by omega) with e | e
            · obtain rfl : z = 16 := by omega
              refine P.tswIn (off := 558) (t := 590) (dq dtL_law_0 21 rfl) (by omega) (by omega) (by omega) rfl rfl ?_
              exact lc_16 hX h0 hn4 hS hM kk
            · obtain rfl : z = 17 := by omega
              refine P.tswIn (off := 581) (t := 613) (dq dtL_law_0 21 rfl) (by omega) (by omega) (by omega) rfl rfl ?_
              exact lc_17 hX h0 hn4 hS hM kk
          · rcases (show z ≤ 18 ∨ 19 ≤ z by omega) with e | e
            · obtain rfl : z = 18 := by omega
              refine P.tswIn (off := 604) (t := 636) (dq dtL_law_0 21 rfl) (by omega) (by omega) (by omega) rfl rfl ?_
              exact lc_18 hX h0 hn4 hS hM kk
            · obtain rfl : z = 19 := by omega
              refine P.tswIn (off := 627) (t := 659) (dq dtL_law_0 21 rfl) (by omega) (by omega) (by omega) rfl rfl ?_
              exact lc_19 hX h0 hn4 hS hM kk
        · rcases (show z ≤ 21 ∨ 22 ≤ z by omega) with e | e
          · rcases (show z ≤ 20 ∨ 21 ≤ z by omega) with e | e
            · obtain rfl : z = 20 := by omega
              refine P.tswIn (off := 650) (t := 682) (dq dtL_law_0 21 rfl) (by omega) (by omega) (by omega) rfl rfl ?_
              exact lc_20 hX h0 hn4 hS hM kk
            · obtain rfl : z = 21 := by omega
              refine P.tswIn (off := 673) (t := 705) (dq dtL_law_0 21 rfl) (by omega) (by omega) (by omega) rfl rfl ?_
              exact lc_21 hX h0 hn4 hS hM kk
          · rcases (show z ≤ 22 ∨ 23 ≤ z by omega) with e | e
            · obtain rfl : z = 22 := by omega
              refine P.tswIn (off := 716) (t := 748) (dq dtL_law_0 21 rfl) (by omega) (by omega) (by omega) rfl rfl ?_
              exact lc_22 hX h0 hn4 hS hM kk
            · obtain rfl : z = 23 := by omega
              refine P.tswIn (off := 759) (t := 791) (dq dtL_law_0 21 rfl) (by omega) (by omega) (by omega) rfl rfl ?_
              exact lc_23 hX h0 hn4 hS hM kk
      · rcases (show z ≤ 27 ∨ 28 ≤ z by omega) with e | e
        · rcases (show z ≤ 25 ∨ 26 ≤ z by omega) with e | e
          · rcases (show z ≤ 24 ∨ 25 ≤ z by omega) with e | e
            · obtain rfl : z = 24 := by omega
              refine P.tswIn (off := 792) (t := 824) (dq dtL_law_0 21 rfl) (by omega) (by omega) (by omega) rfl rfl ?_
              exact lc_24 hX h0 hn4 hS hM kk
            · obtain rfl : z = 25 := by omega
              refine P.tswIn (off := 815) (t := 847) (dq dtL_law_0 21 rfl) (by omega) (by omega) (by omega) rfl rfl ?_
              exact lc_25 hX h0 hn4 hS hM kk
          · rcases (show z ≤ 26 ∨ 27 ≤ z by omega) with e | e
            · obtain rfl : z = 26 := by omega
              refine P.tswIn (off := 848) (t := 880) (dq dtL_law_0 21 rfl) (by omega) (by omega) (by omega) rfl rfl ?_
              exact lc_26 hX h0 hn4 hS hM kk
            · obtain rfl : z = 27 := by omega
              refine P.tswIn (off := 881) (t := 913) (dq dtL_law_0 21 rfl) (by omega) (by omega) (by omega) rfl rfl ?_
              exact lc_27 hX h0 hn4 hS hM kk
        · rcases (show z ≤ 29 ∨ 30 ≤ z by omega) with e | e
          · rcases (show z ≤ 28 ∨ 29 ≤ z by omega) with e | e
            · obtain rfl : z = 28 := by omega
              refine P.tswIn (off := 904) (t := 936) (dq dtL_law_0 21 rfl) (by omega) (by omega) (by omega) rfl rfl ?_
              exact lc_28 hX h0 hn4 hS hM kk
            · obtain rfl : z = 29 := by omega
              refine P.tswIn (off := 927) (t := 959) (dq dtL_law_0 21 rfl) (by omega) (by omega) (by omega) rfl rfl ?_
              exact lc_29 hX h0 hn4 hS hM kk
          · rcases (show z ≤ 30 ∨ 31 ≤ z by omega) with e | e
            · obtain rfl : z = 30 := by omega
              refine P.tswIn (off := 950) (t := 982) (dq dtL_law_0 21 rfl) (by omega) (by omega) (by omega) rfl rfl ?_
              exact lc_30 hX h0 hn4 hS hM kk
            · obtain rfl : z = 31 := by omega
              refine P.tswOut (t := 1005) (dq dtL_law_0 21 rfl) (by omega) (by omega) rfl ?_
              exact kk σ S hS hM
/-- the law, from its entry -/
theorem law_go {x : CX} {Q : PQ} {n : Nat} {xs : Nat → Int32} (hX : SX x n xs) (hend : ∀ (L : List (Option Value)) (N : Nat) (σ : PH), P x 12 mL_law Q (599904, 7297756) 1012 L [vI 1] N σ) : P x 12 mL_law Q (600000, 7302250) 0 [some (vR 2000), none, none, none] [] 0 (fun _ => junk) := by
  refine P.new (ci := 6) (n := 12) (fs := [.null, .null, .null, .null, .null, .null, .null, .null, .null, .null, .null, .null]) (b1 := 599999) (b2 := 7302238) (dq dtL_law_0 0 rfl) clL_7 rfl rfl rfl (by omega) ?_
  refine P.nN (N' := 1) rfl ?_
  refine P.dup (dq dtL_law_0 1 rfl) rfl ?_
  refine P.callIg (M' := mX6_init) (d' := 11) (mc := 83) (ms := 2650) (As := []) mlL_9 mcX6_init mnX6_init rfl rfl (dq dtL_law_0 2 rfl) rfl (by omega) (Nat.le_of_ble_eq_true rfl) ⟨by omega, by omega⟩ ?_
  refine cl_init (by omega) up_s (fun σ1 hS1 f1 => ?_)
  obtain ⟨F, sf, hFg⟩ := hS1.2.2.2.2.2.2.2.1
  have hF : FgR m00.1 F := hFg.1.2.2.2.2.2.2.2.2
  refine P.bud (b' := (599916, 7299588)) rfl ?_
  refine P.nN (N' := 84) rfl ?_
  refine P.astore_n (dq dtL_law_0 3 rfl) (by decide) rfl rfl ?_
  refine P.new (ci := 7) (n := 23) (fs := [vI 0, vI 0, .null, vI 0, .null, .null, vI 0, vI 0, vI 0, vI 0, vI 0, vI 0, vI 0, .null, .null, .null, .null, .null, vI 0, .null, vI 0, .null, .null]) (b1 := 599915) (b2 := 7299565) (dq dtL_law_0 4 rfl) clL_10 rfl rfl rfl (by omega) ?_
  refine P.nN (N' := 85) rfl ?_
  refine P.dup (dq dtL_law_0 5 rfl) rfl ?_
  refine P.callIg (M' := mX7_init) (d' := 11) (mc := 11) (ms := 1809) (As := []) mlL_12 mcX7_init mnX7_init rfl rfl (dq dtL_law_0 6 rfl) rfl (by omega) (Nat.le_of_ble_eq_true rfl) ⟨by omega, by omega⟩ ?_
  refine md_init (by omega) up_s hF (fun σ2 hM2 f2 => ?_)
  have hS2 : CS σ2 S00 := hS1.frM (Fr.trans (Fr.up Fr.rf (by simp)) f2)
  refine P.bud (b' := (599904, 7297756)) rfl ?_
  refine P.nN (N' := 96) rfl ?_
  refine P.astore_n (dq dtL_law_0 7 rfl) (by decide) rfl rfl ?_
  refine P.iconst (dq dtL_law_0 8 rfl) ?_
  refine P.istore_n (dq dtL_law_0 9 rfl) (by decide) rfl rfl ?_
  exact law_loop hX hend (n + 1) 0 σ2 S00 (by omega) (by omega) (by omega) hS2 hM2
