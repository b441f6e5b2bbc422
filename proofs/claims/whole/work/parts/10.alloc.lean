/-! what is made: objects, arrays; texts; arraycopy; stores of references -/
theorem wl_push {x : CM} {N : Nat} {σ : PH} {e : PC} (h : ∀ k : Nat, N ≤ k → σ k = junk) : wl x N σ ++ [(CM.base x + N, cE (rho x) (CM.cy x) e)] = wl x (N + 1) (up σ N e) := by
  unfold wl
  rw [List.range_succ, List.map_append]
  congr 1
  · apply List.map_congr_left
    intro k hk
    have : k < N := List.mem_range.mp hk
    rw [up_n (by omega)]
  · simp [up_s]
theorem Wd.pushed {x : CM} {N : Nat} {σ : PH} {H H1 : Heap} {e : PC} (h : Wd x N σ H) (hN : N < 1000) (hz : H1.size = H.size + 1) (hk : ∀ q : Nat, q < H.size → H1[q]? = H[q]?) (he : va_at (CM.dC x, CM.dI x) vwCl (CM.base x + N, cE (rho x) (CM.cy x) e) H1) : Wd x (N + 1) (up σ N e) H1 := by
  refine ⟨by omega, by rw [hz, h.2.1]; omega, ?_, fun k hk => ?_⟩
  · rw [← wl_push h.2.2.2]
    refine (h.2.2.1.kept (fun k q hq => hk q.1 ((h.2.2.1 k q hq).lt))).app (fun k q hq => ?_)
    have hz : k < 1 := (List.getElem?_eq_some_iff.mp hq).1
    rw [show k = 0 by omega] at hq
    cases hq
    exact he
  · rw [up_n (by omega)]
    exact h.2.2.2 k (by omega)
theorem va_S.pushed {x : CM} {H0 H H1 : Heap} {locs : List Loc} (h : va_S (AA x) H0 H locs) (hz : H1.size = H.size + 1) (hk : ∀ q : Nat, q < H.size → H1[q]? = H[q]?) : va_S (AA x) H0 H1 locs :=
  ⟨Nat.le_trans h.1 (by omega), fun q g1 g2 => (hk q (Nat.lt_of_lt_of_le g1 h.1)).trans (h.2.1 q g1 g2), h.2.2⟩
def dflt (ds : String) : Value := match parseFieldDescriptor ds with
  | some ty => defaultValue ty
  | none => .null
section
variable {x : CX} {d : Nat} {M : MI} {Q : PQ} {b : Nat × Nat} {pc : Nat} {L : List (Option Value)} {st : List Value} {N : Nat} {σ : PH}
theorem P.new {i ci n b1 b2 : Nat} {C : String} {T : u_T} {fs : List Value} (hd : decode (MI.cc M) pc = .ok (.new i, 3)) (hl : Cond.classLink (MI.own M) i C ∈ TW) (hc : vwCl[ci]? = some (C, T, n)) (hfs : (List.range n).map (fun j => dflt (T j).2.2.1) = fs) (hfc : fs.map (cvx (CX.cm x)) = fs) (hN : N < 1000)
    (kk : P x d M Q (b1, b2) (pc + 3) L (vR N :: st) (N + 1) (up σ N (pcO ci fs))) : P x d M Q (b1 + 1, b2 + n) pc L st N σ := by
  intro ok H locs cells slots ls hW hS hL h1 h2
  obtain ⟨o1, o2, o3, o4, o5, o6, o7, o8, o9, o10, o11, o12, o13, o14⟩ := id ok
  obtain ⟨hin, ⟨ty, hty⟩, hnm, hinst, hini⟩ := cl_ok ci _ hc
  have hKn := o9.1.1 ci _ hc
  have h1b : cells + (b1 + 1) = CX.mc x := h1.2
  have h2b : slots + (b2 + n) ≤ CX.ms x := h2
  refine W.newcK o1 o2 o6 (o8 _ hl) (o8 _ hinst) (o8 _ hini) rfl hd (by omega) (by show slots + n ≤ _; omega) hKn.2.1 hW.2.1 fun H1 kC hkC e1 z1 q1 => ?_
  have hz : H1.size = H.size + 1 := by rw [z1, hW.2.1]
  have hk : ∀ q : Nat, q < H.size → H1[q]? = H[q]? := fun q hq => q1 q (by rw [hW.2.1] at hq; exact hq)
  have hfs2 : ∀ j, j < n → defaultValue (ty j) = vp_V (fs.map (cvv (rho (CX.cm x)))) j := by
    intro j hj
    have e2 : fs[j]? = some (dflt (T j).2.2.1) := by rw [← hfs, List.getElem?_map, List.getElem?_range hj]; rfl
    have e3 : dflt (T j).2.2.1 = defaultValue (ty j) := by unfold dflt; rw [hty j hj]
    have e4 : fs.map (cvv (rho (CX.cm x))) = fs := hfc
    rw [e4]
    unfold vp_V
    rw [List.getD_eq_getElem?_getD, e2, e3]
    rfl
  have hat : va_at (CM.dC (CX.cm x), CM.dI (CX.cm x)) vwCl (CM.base (CX.cm x) + N, cE (rho (CX.cm x)) (CM.cy (CX.cm x)) (pcO ci fs)) H1 := ⟨_, hc, (u_born ty o8 hin hKn hkC e1 hty).to hfs2⟩
  have hk2 := kk ok H1 locs (cells + 1) (slots + n) ls (hW.pushed hN hz hk hat) (hS.pushed hz hk) hL ⟨by omega, by show cells + 1 + b1 = _; omega⟩ (by show slots + n + b2 ≤ _; omega)
  have e5 : (vR N :: st).map (cvx (CX.cm x)) = .ref (CM.base (CX.cm x) + N) :: st.map (cvx (CX.cm x)) := by
    show Value.ref (rho (CX.cm x) N) :: _ = _
    rw [rho_lt hN]
  rw [e5] at hk2
  exact hk2
theorem P.newI {n b1 b2 : Nat} {z : Int} (hd : decode (MI.cc M) pc = .ok (.newarray .int, 2)) (hz0 : z = (n : Int)) (hn : n < 100000) (hN : N < 1000)
    (kk : P x d M Q (b1, b2) (pc + 2) L (vR N :: st) (N + 1) (up σ N (pcI 0 n (fun _ => 0)))) : P x d M Q (b1 + 1, b2 + n) pc L (vI z :: st) N σ := by
  intro ok H locs cells slots ls hW hS hL h1 h2
  obtain ⟨o1, o2, o3, o4, o5, o6, o7, o8, o9, o10, o11, o12, o13, o14⟩ := id ok
  have h1b : cells + (b1 + 1) = CX.mc x := h1.2
  have h2b : slots + (b2 + n) ≤ CX.ms x := h2
  have hR : inR z := ⟨by omega, by omega⟩
  have hcl : (iI z).toNatClampNeg = n := by rw [iI_clamp hR]; omega
  refine va_newaK (atype := .int) (N := n) (n := iI z) (rest := st.map (cvx (CX.cm x))) o1 o2 (o8 _ w_acI) rfl hd rfl (fun h => by have := (iI_lt hR inR_0).mp h; omega) hcl (by show n * 4 ≤ _; omega) (by omega) (by omega) hW.2.1 fun H1 cA e1 z1 q1 hAr hNm => ?_
  obtain rfl : cA = CM.cy (CX.cm x) 0 := Option.some.inj (hNm.symm.trans (o9.1.2 0 _ rfl).2)
  have hz : H1.size = H.size + 1 := by rw [z1, hW.2.1]
  have hk : ∀ q : Nat, q < H.size → H1[q]? = H[q]? := fun q hq => q1 q (by rw [hW.2.1] at hq; exact hq)
  have hk2 := kk ok H1 locs (cells + 1) (slots + n) ls (hW.pushed hN hz hk (show H1[_]? = some (vp_cell _ _) from e1)) (hS.pushed hz hk) hL ⟨by omega, by show cells + 1 + b1 = _; omega⟩ (by show slots + n + b2 ≤ _; omega)
  have e5 : (vR N :: st).map (cvx (CX.cm x)) = .ref (CM.base (CX.cm x) + N) :: st.map (cvx (CX.cm x)) := by
    show Value.ref (rho (CX.cm x) N) :: _ = _
    rw [rho_lt hN]
  rw [e5] at hk2
  exact hk2
theorem P.newZ {n b1 b2 : Nat} {z : Int} (hd : decode (MI.cc M) pc = .ok (.newarray .boolean, 2)) (hz0 : z = (n : Int)) (hn : n < 100000) (hN : N < 1000)
    (kk : P x d M Q (b1, b2) (pc + 2) L (vR N :: st) (N + 1) (up σ N (pcI 1 n (fun _ => 0)))) : P x d M Q (b1 + 1, b2 + n) pc L (vI z :: st) N σ := by
  intro ok H locs cells slots ls hW hS hL h1 h2
  obtain ⟨o1, o2, o3, o4, o5, o6, o7, o8, o9, o10, o11, o12, o13, o14⟩ := id ok
  have h1b : cells + (b1 + 1) = CX.mc x := h1.2
  have h2b : slots + (b2 + n) ≤ CX.ms x := h2
  have hR : inR z := ⟨by omega, by omega⟩
  have hcl : (iI z).toNatClampNeg = n := by rw [iI_clamp hR]; omega
  refine va_newaK (atype := .boolean) (N := n) (n := iI z) (rest := st.map (cvx (CX.cm x))) o1 o2 (o8 _ w_acZ) rfl hd rfl (fun h => by have := (iI_lt hR inR_0).mp h; omega) hcl (by show n * 1 ≤ _; omega) (by omega) (by omega) hW.2.1 fun H1 cA e1 z1 q1 hAr hNm => ?_
  obtain rfl : cA = CM.cy (CX.cm x) 1 := Option.some.inj (hNm.symm.trans (o9.1.2 1 _ rfl).2)
  have hz : H1.size = H.size + 1 := by rw [z1, hW.2.1]
  have hk : ∀ q : Nat, q < H.size → H1[q]? = H[q]? := fun q hq => q1 q (by rw [hW.2.1] at hq; exact hq)
  have hk2 := kk ok H1 locs (cells + 1) (slots + n) ls (hW.pushed hN hz hk (show H1[_]? = some (vp_cell _ _) from e1)) (hS.pushed hz hk) hL ⟨by omega, by show cells + 1 + b1 = _; omega⟩ (by show slots + n + b2 ≤ _; omega)
  have e5 : (vR N :: st).map (cvx (CX.cm x)) = .ref (CM.base (CX.cm x) + N) :: st.map (cvx (CX.cm x)) := by
    show Value.ref (rho (CX.cm x) N) :: _ = _
    rw [rho_lt hN]
  rw [e5] at hk2
  exact hk2
theorem P.newR {i n b1 b2 t : Nat} {z : Int} {C : String} (hd : decode (MI.cc M) pc = .ok (.anewarray i, 3)) (hl : Cond.classLink (MI.own M) i C ∈ TW) (hC : (C = RX1 ∧ t = 2) ∨ (C = RX3 ∧ t = 3)) (hz0 : z = (n : Int)) (hn : n < 100000) (hN : N < 1000)
    (kk : P x d M Q (b1, b2) (pc + 3) L (vR N :: st) (N + 1) (up σ N (pcR t n (fun _ => none)))) : P x d M Q (b1 + 1, b2 + n) pc L (vI z :: st) N σ := by
  intro ok H locs cells slots ls hW hS hL h1 h2
  obtain ⟨o1, o2, o3, o4, o5, o6, o7, o8, o9, o10, o11, o12, o13, o14⟩ := id ok
  have h1b : cells + (b1 + 1) = CX.mc x := h1.2
  have h2b : slots + (b2 + n) ≤ CX.ms x := h2
  have hR : inR z := ⟨by omega, by omega⟩
  have hcl : (iI z).toNatClampNeg = n := by rw [iI_clamp hR]; omega
  have hcy : ∃ (kA : Class) (comp : ClassId), (CX.s x).vm.classes[CM.cy (CX.cm x) t]? = some kA ∧ kA.kind = .array comp (.object C) ∧ (CX.s x).vm.findClass C = some comp ∧ (CX.s x).vm.findClass ("[" ++ (FieldType.object C).toString) = some (CM.cy (CX.cm x) t) := by
    rcases hC with ⟨rfl, rfl⟩ | ⟨rfl, rfl⟩
    · exact (o9.1.2 2 _ rfl).2
    · exact (o9.1.2 3 _ rfl).2
  have hao : va_AO C (CX.s x) := by
    rcases hC with ⟨rfl, rfl⟩ | ⟨rfl, rfl⟩
    · exact o9.2.2.1
    · exact o9.2.2.2.1
  obtain ⟨kA0, comp0, g1, g2, g3, g4⟩ := hcy
  refine W.anew (n := iI z) (rest := st.map (cvx (CX.cm x))) o1 o2 o6 (o8 _ hl) (va_AO.use hao) rfl hd rfl (fun h => by have := (iI_lt hR inR_0).mp h; omega) (by rw [hcl]; omega) (by omega) (by rw [hcl]; omega) fun cA kA comp f1 f2 f3 f4 => ?_
  obtain rfl : cA = CM.cy (CX.cm x) t := Option.some.inj (f1.symm.trans g4)
  rw [hcl]
  generalize hH1 : H.push ({ cls := CM.cy (CX.cm x) t, slots := Array.replicate n .null, vm := .none } : Cell) = H1
  have hz : H1.size = H.size + 1 := by rw [← hH1, Array.size_push]
  have hk : ∀ q : Nat, q < H.size → H1[q]? = H[q]? := fun q hq => by rw [← hH1, Array.getElem?_push, if_neg (Nat.ne_of_lt hq)]
  have e1 : H1[CM.base (CX.cm x) + N]? = some (arrV (CM.cy (CX.cm x) t) n (fun _ => .null)) := by rw [← hW.2.1, ← hH1, Array.getElem?_push_size, ← arrV_new]
  have hk2 := kk ok H1 locs (cells + 1) (slots + n) ls (hW.pushed hN hz hk (show H1[_]? = some (vp_cell _ _) from e1)) (hS.pushed hz hk) hL ⟨by omega, by show cells + 1 + b1 = _; omega⟩ (by show slots + n + b2 ≤ _; omega)
  have e5 : (vR N :: st).map (cvx (CX.cm x)) = .ref H.size :: st.map (cvx (CX.cm x)) := by
    show Value.ref (rho (CX.cm x) N) :: _ = _
    rw [rho_lt hN, hW.2.1]
  rw [e5] at hk2
  exact hk2
theorem P.aast {q n t a ci : Nat} {g : Int → Option Nat} {z : Int} {fs : List Value} {C : String} {T : u_T} {nf : Nat} (hd : decode (MI.cc M) pc = .ok (.aastore, 1)) (he : σ q = pcR t n g) (ha : σ a = pcO ci fs) (hc : vwCl[ci]? = some (C, T, nf)) (hC : (C = RX1 ∧ t = 2) ∨ (C = RX3 ∧ t = 3)) (h0 : 0 ≤ z) (hz : z < n) (hn : n < 2147483648)
    (kk : P x d M Q b (pc + 1) L st N (up σ q (pcR t n (upI g z (some a))))) : P x d M Q b pc L (vR a :: vI z :: vR q :: st) N σ := by
  intro ok H locs cells slots ls hW hS hL h1 h2
  have hq := hW.lt_a he
  have haq := hW.lt_o ha hc
  have hR : inR z := ⟨by omega, by omega⟩
  have o9 := ok.2.2.2.2.2.2.2.2.1
  show W _ _ _ _ _ _ _ _ _ _ H locs cells slots _ (F0 _ pc ls (.ref (rho (CX.cm x) a) :: .int (iI z) :: .ref (rho (CX.cm x) q) :: _))
  rw [rho_lt (Nat.lt_of_lt_of_le hq hW.1), rho_lt (Nat.lt_of_lt_of_le haq hW.1)]
  have hat := wl_at (x := CX.cm x) (σ := σ) hq
  rw [he] at hat
  have hat2 := wl_at (x := CX.cm x) (σ := σ) haq
  rw [ha] at hat2
  have hty : (tysJ (CX.cm x))[t]? = some (CM.cy (CX.cm x) t, .object C) := by
    rcases hC with ⟨rfl, rfl⟩ | ⟨rfl, rfl⟩ <;> rfl
  refine va_astq (r := (C, T, nf)) ok.1 ok.2.1 o9.1 hW.2.2.1 wl_D hS q t a ci hat hty hat2 hc (iI_in h0 hz hR) hd (fun H1 locs1 hP1 _ hS1 => W.bySize fun hsz => ?_)
  have e1 : va_up (fun j : Nat => (g (j : Int)).map (rho (CX.cm x))) (iI z).toNatClampNeg (some (CM.base (CX.cm x) + a)) = fun j : Nat => (upI g z (some a) (j : Int)).map (rho (CX.cm x)) := by
    funext j
    unfold va_up upI
    rw [iI_clamp hR]
    by_cases hj : j = z.toNat
    · rw [if_pos hj, if_pos (by omega), Option.map_some, rho_lt (Nat.lt_of_lt_of_le haq hW.1)]
    · rw [if_neg hj, if_neg (by omega)]
  rw [e1] at hP1
  have hP2 : va_P (CM.dC (CX.cm x), CM.dI (CX.cm x)) vwCl ((wl (CX.cm x) N σ).set q (CM.base (CX.cm x) + q, cE (rho (CX.cm x)) (CM.cy (CX.cm x)) (pcR t n (upI g z (some a))))) H1 := hP1
  rw [wl_set] at hP2
  exact kk ok H1 locs1 cells slots ls (hW.stored hq hP2 (by omega)) hS1 hL h1 h2
def cpI (f g : Int → Int) (sp dp n : Int) : Int → Int := fun k => if dp ≤ k ∧ k < dp + n then f (sp + (k - dp)) else g k
theorem P.copyI {i q0 q1 n0 n1 : Nat} {f g : Int → Int} {sp dp n : Int} (hd : decode (MI.cc M) pc = .ok (.invokestatic i, 3)) (hl : Cond.methodLink (MI.own M) i arraycopyName ∈ TW) (he0 : σ q0 = pcI 0 n0 f) (he1 : σ q1 = pcI 0 n1 g) (h1 : 0 ≤ sp) (h2 : 0 ≤ dp) (h3 : 0 ≤ n) (h4 : sp + n ≤ n0) (h5 : dp + n ≤ n1) (hn0 : n0 < 100000) (hn1 : n1 < 100000) (hdd : 1 ≤ d) (hst : sw st ≤ 8)
    (kk : P x d M Q b (pc + 3) L st N (up σ q1 (pcI 0 n1 (cpI f g sp dp n)))) : P x d M Q b pc L (vI n :: vI dp :: vR q1 :: vI sp :: vR q0 :: st) N σ := by
  intro ok H locs cells slots ls hW hS hL g1 g2
  obtain ⟨o1, o2, o3, o4, o5, o6, o7, o8, o9, o10, o11, o12, o13, o14⟩ := id ok
  have hq0 := hW.lt_a he0
  have hq1 := hW.lt_a he1
  have R1 : inR sp := ⟨by omega, by omega⟩
  have R2 : inR dp := ⟨by omega, by omega⟩
  have R3 : inR n := ⟨by omega, by omega⟩
  show W _ _ _ _ _ _ _ _ _ _ H locs cells slots _ (F0 _ pc ls (.int (iI n) :: .int (iI dp) :: .ref (rho (CX.cm x) q1) :: .int (iI sp) :: .ref (rho (CX.cm x) q0) :: _))
  rw [rho_lt (Nat.lt_of_lt_of_le hq0 hW.1), rho_lt (Nat.lt_of_lt_of_le hq1 hW.1)]
  have hat0 := wl_at (x := CX.cm x) (σ := σ) hq0
  rw [he0] at hat0
  have hat1 := wl_at (x := CX.cm x) (σ := σ) hq1
  rw [he1] at hat1
  have e9 : nativeFrameWords "java/lang/System" "arraycopy" 5 + 11 ≤ 28 := by decide +kernel
  refine va_copyi (ty := .int) (rest := st.map (cvx (CX.cm x))) o1 o2 (by rw [o3]; exact hL.1.symm) o6 (o8 _ hl) (o8 _ w_acN) (o8 _ w_acS) (o8 _ w_inS) o9.1 hW.2.2.1 wl_D hS q0 q1 0 0 hat0 hat1 rfl rfl rfl (fun h => by have := (iI_lt R1 inR_0).mp h; omega) (fun h => by have := (iI_lt R2 inR_0).mp h; omega) (fun h => by have := (iI_lt R3 inR_0).mp h; omega) (by rw [iI_clamp R1, iI_clamp R3]; omega) (by rw [iI_clamp R2, iI_clamp R3]; omega) (fun _ _ => rfl) (by omega) (by rw [sw_cv]; omega) hd (fun H1 locs1 hP1 _ hS1 => W.bySize fun hsz => ?_)
  have e1 : va_cpy (fun j : Nat => iI (f (j : Int))) (fun j : Nat => iI (g (j : Int))) (iI sp).toNatClampNeg (iI dp).toNatClampNeg (iI n).toNatClampNeg = fun j : Nat => iI (cpI f g sp dp n (j : Int)) := by
    funext j
    unfold va_cpy cpI
    rw [iI_clamp R1, iI_clamp R2, iI_clamp R3]
    by_cases hj : dp.toNat ≤ j ∧ j < dp.toNat + n.toNat
    · rw [if_pos hj, if_pos (by omega)]
      show iI (f ((sp.toNat + (j - dp.toNat) : Nat) : Int)) = iI (f (sp + ((j : Int) - dp)))
      rw [show ((sp.toNat + (j - dp.toNat) : Nat) : Int) = sp + ((j : Int) - dp) by omega]
    · rw [if_neg hj, if_neg (by omega)]
  rw [e1] at hP1
  have hP2 : va_P (CM.dC (CX.cm x), CM.dI (CX.cm x)) vwCl ((wl (CX.cm x) N σ).set q1 (CM.base (CX.cm x) + q1, cE (rho (CX.cm x)) (CM.cy (CX.cm x)) (pcI 0 n1 (cpI f g sp dp n)))) H1 := hP1
  rw [wl_set] at hP2
  exact kk ok H1 locs1 cells slots ls (hW.stored hq1 hP2 (by omega)) hS1 hL g1 g2
theorem P.objInit {i q : Nat} (hd : decode (MI.cc M) pc = .ok (.invokespecial i, 3)) (hl : Cond.methodLink (MI.own M) i objectInit ∈ TW) (hdd : 1 ≤ d) (hst : sw st ≤ 8) (kk : P x d M Q b (pc + 3) L st N σ) : P x d M Q b pc L (vR q :: st) N σ := by
  intro ok H locs cells slots ls hW hS hL h1 h2
  obtain ⟨o1, o2, o3, o4, o5, o6, o7, o8, o9, o10, o11, o12, o13, o14⟩ := id ok
  exact W.objInit (rest := st.map (cvx (CX.cm x))) o1 o2 o6 (o8 _ hl) (o8 _ w_oiI) (o8 _ w_oiC) rfl (hL.1.trans o3.symm) rfl hd (by omega) (by rw [show (F0 (CX.m x) pc ls ((vR q :: st).map (cvx (CX.cm x)))).monitorRoom = 0 from rfl, sw_cv]; omega) (kk ok H locs cells slots ls hW hS hL h1 h2)
theorem P.ldcS {i k : Nat} (hd : decode (MI.cc M) pc = .ok (.ldc i, 2)) (hM : MI.own M = RX1) (hk : (i = 50 ∧ k = 0) ∨ (i = 56 ∧ k = 1) ∨ (i = 58 ∧ k = 2) ∨ (i = 60 ∧ k = 3)) (kk : P x d M Q b (pc + 2) L (vR (1000 + k) :: st) N σ) : P x d M Q b pc L st N σ := by
  intro ok H locs cells slots ls hW hS hL h1 h2
  obtain ⟨o1, o2, o3, o4, o5, o6, o7, o8, o9, o10, o11, o12, o13, o14⟩ := id ok
  have hk2 := kk ok H locs cells slots ls hW hS hL h1 h2
  have e5 : (vR (1000 + k) :: st).map (cvx (CX.cm x)) = .ref (CM.adK (CX.cm x) k) :: st.map (cvx (CX.cm x)) := by
    show Value.ref (rho (CX.cm x) (1000 + k)) :: _ = _
    unfold rho
    rw [if_neg (by omega), if_pos (by omega), show 1000 + k - 1000 = k by omega]
  rw [e5] at hk2
  rw [hM] at o6
  obtain ⟨k1, k2, k3, k4⟩ := o9.2.2.2.2.1
  rcases hk with ⟨rfl, rfl⟩ | ⟨rfl, rfl⟩ | ⟨rfl, rfl⟩ | ⟨rfl, rfl⟩
  · exact va_ldcS o1 o2 o6 k1 hd hk2
  · exact va_ldcS o1 o2 o6 k2 hd hk2
  · exact va_ldcS o1 o2 o6 k3 hd hk2
  · exact va_ldcS o1 o2 o6 k4 hd hk2
end
