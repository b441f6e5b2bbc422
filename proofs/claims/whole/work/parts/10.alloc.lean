/-! what is made: objects, arrays; texts; arraycopy; stores of references -/
theorem wl_push {x : CM} {N : Nat} {σ : PH} {e : PC} (h : ∀ k : Nat, N ≤ k → σ k = junk) : wl x N σ ++ [(CM.base x + N, cE (rho x) (CM.cy x) e)] = wl x (N + 1) (up σ N e) := by
  unfold wl
  rw [List.range_succ, List.map_append]
  congr 1
  · apply List.map_congr_left
    intro k hk
    have : k < N := List.mem_range.mp hk
    rw [up_n (by omega)]
  · simp [up_s]
theorem Wd.pushed {x : CM} {N : Nat} {σ : PH} {H H1 : Heap} {e : PC} (h : Wd x N σ H) (hN : N < 1000) (hz : H1.size = H.size + 1) (hk : ∀ q : Nat, q < H.size → H1[q]? = H[q]?) (he : va_at (CM.dC x, CM.dI x) vwCl (CM.base x + N, cE (rho x) (CM.cy x) e) H1) : Wd x (N + 1) (up σ N e) H1 := by
  refine ⟨by omega, by rw [hz, h.2.1]; omega, ?_, fun k hk => ?_⟩
  · rw [← wl_push h.2.2.2]
    refine (h.2.2.1.kept (fun k q hq => hk q.1 ((h.2.2.1 k q hq).lt))).app (fun k q hq => ?_)
    have hz : k < 1 := (List.getElem?_eq_some_iff.mp hq).1
    rw [show k = 0 by omega] at hq
    cases hq
    exact he
  · rw [up_n (by omega)]
    exact h.2.2.2 k (by omega)
theorem va_S.pushed {x : CM} {H0 H H1 : Heap} {locs : List Loc} (h : va_S (AA x) H0 H locs) (hz : H1.size = H.size + 1) (hk : ∀ q : Nat, q < H.size → H1[q]? = H[q]?) : va_S (AA x) H0 H1 locs :=
  ⟨Nat.le_trans h.1 (by omega), fun q g1 g2 => (hk q (Nat.lt_of_lt_of_le g1 h.1)).trans (h.2.1 q g1 g2), h.2.2⟩
def dflt (ds : String) : Value := match parseFieldDescriptor ds with
  | some ty => defaultValue ty
  | none => .null
section
variable {x : CX} {d : Nat} {M : MI} {Q : PQ} {b : Nat × Nat} {pc : Nat} {L : List (Option Value)} {st : List Value} {N : Nat} {σ : PH}
theorem P.new {i ci n b1 b2 : Nat} {C : String} {T : u_T} {fs : List Value} (hd : decode (MI.cc M) pc = .ok (.new i, 3)) (hl : Cond.classLink (MI.own M) i C ∈ TW) (hc : vwCl[ci]? = some (C, T, n)) (hfs : (List.range n).map (fun j => dflt (T j).2.2.1) = fs) (hfc : fs.map (cvx (CX.cm x)) = fs) (hN : N < 1000)
    (kk : P x d M Q (b1, b2) (pc + 3) L (vR N :: st) (N + 1) (up σ N (pcO ci fs))) : P x d M Q (b1 + 1, b2 + n) pc L st N σ := by
  intro ok H locs cells slots ls hW hS hL h1 h2
  obtain ⟨o1, o2, o3, o4, o5, o6, o7, o8, o9, o10, o11, o12, o13, o14⟩ := id ok
  obtain ⟨hin, ⟨ty, hty⟩, hnm, hinst, hini⟩ := cl_ok ci _ hc
  have hKn := o9.1.1 ci _ hc
  have h1b : cells + (b1 + 1) = CX.mc x := h1.2
  have h2b : slots + (b2 + n) ≤ CX.ms x := h2
  refine W.newcK o1 o2 o6 (o8 _ hl) (o8 _ hinst) (o8 _ hini) rfl hd (by omega) (by show slots + n ≤ _; omega) hKn.2.1 hW.2.1 fun H1 kC hkC e1 z1 q1 => ?_
  have hz : H1.size = H.size + 1 := by rw [z1, hW.2.1]
  have hk : ∀ q : Nat, q < H.size → H1[q]? = H[q]? := fun q hq => q1 q (by rw [hW.2.1] at hq; exact hq)
  have hfs2 : ∀ j, j < n → defaultValue (ty j) = vp_V (fs.map (cvv (rho (CX.cm x)))) j := by
    intro j hj
    have e2 : fs[j]? = some (dflt (T j).2.2.1) := by rw [← hfs, List.getElem?_map, List.getElem?_range hj]; rfl
    have e3 : dflt (T j).2.2.1 = defaultValue (ty j) := by unfold dflt; rw [hty j hj]
    have e4 : fs.map (cvv (rho (CX.cm x))) = fs := hfc
    rw [e4]
    unfold vp_V
    rw [List.getD_eq_getElem?_getD, e2, e3]
    rfl
  have hat : va_at (CM.dC (CX.cm x), CM.dI (CX.cm x)) vwCl (CM.base (CX.cm x) + N, cE (rho (CX.cm x)) (CM.cy (CX.cm x)) (pcO ci fs)) H1 := ⟨_, hc, (u_born ty o8 hin hKn hkC e1 hty).to hfs2⟩
  have hk2 := kk ok H1 locs (cells + 1) (slots + n) ls (hW.pushed hN hz hk hat) (hS.pushed hz hk) hL ⟨by omega, by show cells + 1 + b1 = _; omega⟩ (by show slots + n + b2 ≤ _; omega)
  have e5 : (vR N :: st).map (cvx (CX.cm x)) = .ref (CM.base (CX.cm x) + N) :: st.map (cvx (CX.cm x)) := by
    show Value.ref (rho (CX.cm x) N) :: _ = _
    rw [rho_lt hN]
  rw [e5] at hk2
  exact hk2
theorem P.newI {n b1 b2 : Nat} {z : Int} (hd : decode (MI.cc M) pc = .ok (.newarray .int, 2)) (hz0 : z = (n : Int)) (hn : n < 100000) (hN : N < 1000) (hcy : ∀ U : State, EN (CX.cm x) U → U.vm.findClass ("[" ++ FieldType.int.toString) = some (CM.cy (CX.cm x) 0))
    (kk : P x d M Q (b1, b2) (pc + 2) L (vR N :: st) (N + 1) (up σ N (pcI 0 n (fun _ => 0)))) : P x d M Q (b1 + 1, b2 + n) pc L (vI z :: st) N σ := by
  intro ok H locs cells slots ls hW hS hL h1 h2
  obtain ⟨o1, o2, o3, o4, o5, o6, o7, o8, o9, o10, o11, o12, o13, o14⟩ := id ok
  have h1b : cells + (b1 + 1) = CX.mc x := h1.2
  have h2b : slots + (b2 + n) ≤ CX.ms x := h2
  have hR : inR z := ⟨by omega, by omega⟩
  have hcl : (iI z).toNatClampNeg = n := by rw [iI_clamp hR]; omega
  refine va_newaK (atype := .int) (N := n) (n := iI z) (rest := st.map (cvx (CX.cm x))) o1 o2 (o8 _ w_acI) rfl hd rfl (fun h => by have := (iI_lt hR inR_0).mp h; omega) hcl (by show n * 4 ≤ _; omega) (by omega) (by omega) hW.2.1 fun H1 cA e1 z1 q1 hAr hNm => ?_
  obtain rfl : cA = CM.cy (CX.cm x) 0 := Option.some.inj (hNm.symm.trans (hcy _ o9))
  have hz : H1.size = H.size + 1 := by rw [z1, hW.2.1]
  have hk : ∀ q : Nat, q < H.size → H1[q]? = H[q]? := fun q hq => q1 q (by rw [hW.2.1] at hq; exact hq)
  have hk2 := kk ok H1 locs (cells + 1) (slots + n) ls (hW.pushed hN hz hk (show H1[_]? = some (vp_cell _ _) from e1)) (hS.pushed hz hk) hL ⟨by omega, by show cells + 1 + b1 = _; omega⟩ (by show slots + n + b2 ≤ _; omega)
  have e5 : (vR N :: st).map (cvx (CX.cm x)) = .ref (CM.base (CX.cm x) + N) :: st.map (cvx (CX.cm x)) := by
    show Value.ref (rho (CX.cm x) N) :: _ = _
    rw [rho_lt hN]
  rw [e5] at hk2
  exact hk2
end
