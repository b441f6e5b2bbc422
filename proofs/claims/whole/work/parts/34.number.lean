/-- a row of letters at q, its array behind it -/
def Ls (σ : PH) (q r : Nat) (n : Int) (f : Int → Int) : Prop := σ q = pcO 1 [vR (q + 1), vI n] ∧ σ (q + 1) = pcI 0 r f
theorem Ls.fr {σ σ' : PH} {q r : Nat} {n : Int} {f : Int → Int} {S : List Nat} (h : Ls σ q r n f) (hF : Fr σ σ' S) (h0 : q ∉ S) (h1 : q + 1 ∉ S) : Ls σ' q r n f := ⟨(hF _ h0).trans h.1, (hF _ h1).trans h.2⟩
theorem ct_putL {x : CM} {d N : Nat} {σ : PH} {Q : PQ} {q r : Nat} {f : Int → Int} {l : List Int} {c : Int} (hL : Ls σ q r l.length f) (hR : Rp f l) (hr : l.length < r ∧ r < 1000) (hd : 2 ≤ d) (h : ∀ (σ' : PH) (f' : Int → Int), Ls σ' q r (l ++ [c]).length f' → Rp f' (l ++ [c]) → Fr σ σ' [q, q + 1] → Q none σ') : Call x d 0 0 mX1_put [vR q, vI c] N σ Q := by
  refine ct_X1_put hL.1 hL.2 (by omega) hd (by omega) ?_
  refine h _ (upI f l.length c) ⟨?_, ?_⟩ (Rp_put hR) (by repeat (first | assumption | exact Fr.rf | refine Fr.up ?_ (by simp)))
  · rw [up_s]
    simp
  · rw [up_n (by omega)]
    exact up_s
theorem pn_h1 {x : CX} {d N : Nat} {σ : PH} {Q : PQ} {q : Nat} {v u : Int} (hv : 0 ≤ v ∧ v < 10000) (hu : 1 ≤ u ∧ u ≤ 10000) (k1 : u ≤ v / 10 → P x d mX1_putNumber Q (0, 0) 2 [some (vR q), some (vI v), some (vI (u * 10))] [] N σ) (k2 : v / 10 < u → P x d mX1_putNumber Q (0, 0) 18 [some (vR q), some (vI v), some (vI u)] [] N σ) : P x d mX1_putNumber Q (0, 0) 2 [some (vR q), some (vI v), some (vI u)] [] N σ := by
  have e : v.tdiv 10 = v / 10 := Int.tdiv_eq_ediv_of_nonneg (by omega)
  refine P.iload_n (dq dtX1_putNumber 2 rfl) rfl ?_
  refine P.iload_n (dq dtX1_putNumber 3 rfl) rfl ?_
  refine P.bipush (dq dtX1_putNumber 4 rfl) rfl ?_
  refine P.idiv (dq dtX1_putNumber 5 rfl) (by omega) (by omega) (by omega) ?_
  refine P.icmp_gt (t := 18) (dq dtX1_putNumber 6 rfl) rfl (by omega) (by omega) (fun c_7 => ?_) (fun c_7 => ?_)
  · exact k2 (by omega)
  · refine P.iload_n (dq dtX1_putNumber 7 rfl) rfl ?_
    refine P.bipush (dq dtX1_putNumber 8 rfl) rfl ?_
    refine P.imul (dq dtX1_putNumber 9 rfl) ?_
    refine P.istore_n (dq dtX1_putNumber 10 rfl) (by decide) rfl rfl ?_
    refine P.goto (t := 2) (dq dtX1_putNumber 11 rfl) rfl ?_
    exact k1 (by omega)
theorem pn_h2 {x : CX} {d N : Nat} {σ : PH} {Q : PQ} {q r : Nat} {f : Int → Int} {l : List Int} {v : Int} {u : Int} (hL : Ls σ q r l.length f) (hR : Rp f l) (hr : l.length < r ∧ r < 1000) (hd : 3 ≤ d) (hv : 0 ≤ v ∧ v < 10000) (hu : 1 ≤ u ∧ u ≤ 10000) (kk : ∀ (σ' : PH) (f' : Int → Int), Ls σ' q r (l ++ [48 + v / u % 10]).length f' → Rp f' (l ++ [48 + v / u % 10]) → Fr σ σ' [q, q + 1] → P x d mX1_putNumber Q (0, 0) 18 [some (vR q), some (vI v), some (vI (u / 10))] [] N σ') : P x d mX1_putNumber Q (0, 0) 18 [some (vR q), some (vI v), some (vI u)] [] N σ := by
  have hLq := hL.1
  have e1 : v.tdiv u = v / u := Int.tdiv_eq_ediv_of_nonneg (by omega)
  have e2 := Int.ediv_nonneg (show 0 ≤ v by omega) (show 0 ≤ u by omega)
  have e4 : (v / u).tmod 10 = v / u % 10 := Int.tmod_eq_emod_of_nonneg e2
  have e3 : u.tdiv 10 = u / 10 := Int.tdiv_eq_ediv_of_nonneg (by omega)
  have e5 : v / u ≤ v := Int.ediv_le_self _ (by omega)
  refine P.iload_n (dq dtX1_putNumber 12 rfl) rfl ?_
  refine P.if_le (t := 43) (dq dtX1_putNumber 13 rfl) rfl (by omega) (fun c_19 => ?_) (fun c_19 => ?_)
  · exfalso; omega
  · refine P.aload_n (dq dtX1_putNumber 14 rfl) rfl ?_
    refine P.bipush (dq dtX1_putNumber 15 rfl) rfl ?_
    refine P.iload_n (dq dtX1_putNumber 16 rfl) rfl ?_
    refine P.iload_n (dq dtX1_putNumber 17 rfl) rfl ?_
    refine P.idiv (dq dtX1_putNumber 18 rfl) (by omega) (by omega) (by omega) ?_
    rw [e1]
    refine P.bipush (dq dtX1_putNumber 19 rfl) rfl ?_
    refine P.irem (dq dtX1_putNumber 20 rfl) (by omega) (by omega) (by omega) ?_
    rw [e4]
    refine P.iadd (dq dtX1_putNumber 21 rfl) ?_
    refine P.callV1 (M' := mX1_put) (d' := d - 1) mlX1_37 mcX1_put mvX1_put (dq dtX1_putNumber 22 rfl) (by omega) (Nat.le_of_ble_eq_true rfl) (by repeat (first | assumption | exact up_s | rw [up_n (by first | assumption | (apply Ne.symm; assumption) | decide | omega)])) rfl ?_
    refine ct_putL hL hR hr (by omega) (fun σ' f' q1 q2 q3 => ?_)
    refine P.iload_n (dq dtX1_putNumber 23 rfl) rfl ?_
    refine P.bipush (dq dtX1_putNumber 24 rfl) rfl ?_
    refine P.idiv (dq dtX1_putNumber 25 rfl) (by omega) (by omega) (by omega) ?_
    rw [e3]
    refine P.istore_n (dq dtX1_putNumber 26 rfl) (by decide) rfl rfl ?_
    refine P.goto (t := 18) (dq dtX1_putNumber 27 rfl) rfl ?_
    exact kk σ' f' q1 q2 q3
theorem pn_h3 {x : CX} {d N : Nat} {σ : PH} {Q : PQ} {q : Nat} {v : Int} (h : Q none σ) : P x d mX1_putNumber Q (0, 0) 18 [some (vR q), some (vI v), some (vI 0)] [] N σ := by
  refine P.iload_n (dq dtX1_putNumber 12 rfl) rfl ?_
  refine P.if_le (t := 43) (dq dtX1_putNumber 13 rfl) rfl (by omega) (fun c_19 => ?_) (fun c_19 => ?_)
  · refine P.vret (dq dtX1_putNumber 28 rfl) rfl rfl rfl ?_
    exact h
  · exfalso; omega
theorem ct_X1_putNumber {x : CM} {d N : Nat} {σ : PH} {Q : PQ} {q r : Nat} {f : Int → Int} {l : List Int} {v : Int} (hL : Ls σ q r l.length f) (hR : Rp f l) (hr : l.length + 4 ≤ r ∧ r < 1000) (hd : 3 ≤ d) (hv : 0 ≤ v ∧ v < 10000) (h : ∀ (σ' : PH) (f' : Int → Int), Ls σ' q r (l ++ digs v).length f' → Rp f' (l ++ digs v) → Fr σ σ' [q, q + 1] → Q none σ') : Call x d 0 0 mX1_putNumber [vR q, vI v] N σ Q := by
  refine Call.of mcX1_putNumber (Nat.le_of_ble_eq_true rfl) (fun y hy => ?_)
  subst hy
  refine P.iconst (dq dtX1_putNumber 0 rfl) ?_
  refine P.istore_n (dq dtX1_putNumber 1 rfl) (by decide) rfl rfl ?_
  rcases Int.lt_or_le v 10 with hc | hc
  · show P y d mX1_putNumber Q (0, 0) 2 [some (vR q), some (vI v), some (vI 1)] [] N σ
    refine pn_h1 hv (by omega) (fun h9 => absurd h9 (by omega)) (fun _ => ?_)
    refine pn_h2 hL hR (by first | omega | (simp only [List.length_append, List.length_singleton]; omega)) hd hv (by omega) (fun σ1 f1 a1 b1 c1 => ?_)
    rw [show (1 : Int) / 10 = 0 by decide]
    refine pn_h3 (h σ1 f1 ?_ ?_ ?_)
    · have el : digs v = [48 + v / 1 % 10] := by
        unfold digs
        rw [if_pos (show v < 10 by omega)]
        rw [show 48 + v / 1 % 10 = 48 + v by omega]
      rw [el]
      simpa using a1
    · have el : digs v = [48 + v / 1 % 10] := by
        unfold digs
        rw [if_pos (show v < 10 by omega)]
        rw [show 48 + v / 1 % 10 = 48 + v by omega]
      rw [el]
      simpa using b1
    · exact c1
  · rcases Int.lt_or_le v 100 with hc2 | hc2
    · show P y d mX1_putNumber Q (0, 0) 2 [some (vR q), some (vI v), some (vI 1)] [] N σ
      refine pn_h1 hv (by omega) (fun _ => ?_) (fun h9 => absurd h9 (by omega))
      rw [show (1 : Int) * 10 = 10 by omega]
      refine pn_h1 hv (by omega) (fun h9 => absurd h9 (by omega)) (fun _ => ?_)
      refine pn_h2 hL hR (by first | omega | (simp only [List.length_append, List.length_singleton]; omega)) hd hv (by omega) (fun σ1 f1 a1 b1 c1 => ?_)
      rw [show (10 : Int) / 10 = 1 by decide]
      refine pn_h2 a1 b1 (by first | omega | (simp only [List.length_append, List.length_singleton]; omega)) hd hv (by omega) (fun σ2 f2 a2 b2 c2 => ?_)
      rw [show (1 : Int) / 10 = 0 by decide]
      refine pn_h3 (h σ2 f2 ?_ ?_ ?_)
      · have el : digs v = [48 + v / 10 % 10, 48 + v / 1 % 10] := by
          unfold digs
          rw [if_neg (show ¬ v < 10 by omega), if_pos (show v < 100 by omega)]
          rw [show 48 + v / 10 % 10 = 48 + v / 10 by omega, show 48 + v / 1 % 10 = 48 + v % 10 by omega]
        rw [el]
        simpa using a2
      · have el : digs v = [48 + v / 10 % 10, 48 + v / 1 % 10] := by
          unfold digs
          rw [if_neg (show ¬ v < 10 by omega), if_pos (show v < 100 by omega)]
          rw [show 48 + v / 10 % 10 = 48 + v / 10 by omega, show 48 + v / 1 % 10 = 48 + v % 10 by omega]
        rw [el]
        simpa using b2
      · exact (c1).trans c2
    · rcases Int.lt_or_le v 1000 with hc3 | hc3
      · show P y d mX1_putNumber Q (0, 0) 2 [some (vR q), some (vI v), some (vI 1)] [] N σ
        refine pn_h1 hv (by omega) (fun _ => ?_) (fun h9 => absurd h9 (by omega))
        rw [show (1 : Int) * 10 = 10 by omega]
        refine pn_h1 hv (by omega) (fun _ => ?_) (fun h9 => absurd h9 (by omega))
        rw [show (10 : Int) * 10 = 100 by omega]
        refine pn_h1 hv (by omega) (fun h9 => absurd h9 (by omega)) (fun _ => ?_)
        refine pn_h2 hL hR (by first | omega | (simp only [List.length_append, List.length_singleton]; omega)) hd hv (by omega) (fun σ1 f1 a1 b1 c1 => ?_)
        rw [show (100 : Int) / 10 = 10 by decide]
        refine pn_h2 a1 b1 (by first | omega | (simp only [List.length_append, List.length_singleton]; omega)) hd hv (by omega) (fun σ2 f2 a2 b2 c2 => ?_)
        rw [show (10 : Int) / 10 = 1 by decide]
        refine pn_h2 a2 b2 (by first | omega | (simp only [List.length_append, List.length_singleton]; omega)) hd hv (by omega) (fun σ3 f3 a3 b3 c3 => ?_)
        rw [show (1 : Int) / 10 = 0 by decide]
        refine pn_h3 (h σ3 f3 ?_ ?_ ?_)
        · have el : digs v = [48 + v / 100 % 10, 48 + v / 10 % 10, 48 + v / 1 % 10] := by
            unfold digs
            rw [if_neg (show ¬ v < 10 by omega), if_neg (show ¬ v < 100 by omega), if_pos (show v < 1000 by omega)]
            rw [show 48 + v / 100 % 10 = 48 + v / 100 by omega, show 48 + v / 1 % 10 = 48 + v % 10 by omega]
          rw [el]
          simpa using a3
        · have el : digs v = [48 + v / 100 % 10, 48 + v / 10 % 10, 48 + v / 1 % 10] := by
            unfold digs
            rw [if_neg (show ¬ v < 10 by omega), if_neg (show ¬ v < 100 by omega), if_pos (show v < 1000 by omega)]
            rw [show 48 + v / 100 % 10 = 48 + v / 100 by omega, show 48 + v / 1 % 10 = 48 + v % 10 by omega]
          rw [el]
          simpa using b3
        · exact ((c1).trans c2).trans c3
      · show P y d mX1_putNumber Q (0, 0) 2 [some (vR q), some (vI v), some (vI 1)] [] N σ
        refine pn_h1 hv (by omega) (fun _ => ?_) (fun h9 => absurd h9 (by omega))
        rw [show (1 : Int) * 10 = 10 by omega]
        refine pn_h1 hv (by omega) (fun _ => ?_) (fun h9 => absurd h9 (by omega))
        rw [show (10 : Int) * 10 = 100 by omega]
        refine pn_h1 hv (by omega) (fun _ => ?_) (fun h9 => absurd h9 (by omega))
        rw [show (100 : Int) * 10 = 1000 by omega]
        refine pn_h1 hv (by omega) (fun h9 => absurd h9 (by omega)) (fun _ => ?_)
        refine pn_h2 hL hR (by first | omega | (simp only [List.length_append, List.length_singleton]; omega)) hd hv (by omega) (fun σ1 f1 a1 b1 c1 => ?_)
        rw [show (1000 : Int) / 10 = 100 by decide]
        refine pn_h2 a1 b1 (by first | omega | (simp only [List.length_append, List.length_singleton]; omega)) hd hv (by omega) (fun σ2 f2 a2 b2 c2 => ?_)
        rw [show (100 : Int) / 10 = 10 by decide]
        refine pn_h2 a2 b2 (by first | omega | (simp only [List.length_append, List.length_singleton]; omega)) hd hv (by omega) (fun σ3 f3 a3 b3 c3 => ?_)
        rw [show (10 : Int) / 10 = 1 by decide]
        refine pn_h2 a3 b3 (by first | omega | (simp only [List.length_append, List.length_singleton]; omega)) hd hv (by omega) (fun σ4 f4 a4 b4 c4 => ?_)
        rw [show (1 : Int) / 10 = 0 by decide]
        refine pn_h3 (h σ4 f4 ?_ ?_ ?_)
        · have el : digs v = [48 + v / 1000 % 10, 48 + v / 100 % 10, 48 + v / 10 % 10, 48 + v / 1 % 10] := by
            unfold digs
            rw [if_neg (show ¬ v < 10 by omega), if_neg (show ¬ v < 100 by omega), if_neg (show ¬ v < 1000 by omega)]
            rw [show 48 + v / 1000 % 10 = 48 + v / 1000 by omega, show 48 + v / 1 % 10 = 48 + v % 10 by omega]
          rw [el]
          simpa using a4
        · have el : digs v = [48 + v / 1000 % 10, 48 + v / 100 % 10, 48 + v / 10 % 10, 48 + v / 1 % 10] := by
            unfold digs
            rw [if_neg (show ¬ v < 10 by omega), if_neg (show ¬ v < 100 by omega), if_neg (show ¬ v < 1000 by omega)]
            rw [show 48 + v / 1000 % 10 = 48 + v / 1000 by omega, show 48 + v / 1 % 10 = 48 + v % 10 by omega]
          rw [el]
          simpa using b4
        · exact (((c1).trans c2).trans c3).trans c4

