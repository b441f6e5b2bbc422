/-! the four texts: places 1000 .. 1003, their rows 1500 .. 1503 -/
def chS (k : Nat) (j : Int) : Int := ((bytS.getD k []).getD j.toNat 0).toInt
def lnS (k : Nat) : Int := (lenS.getD k 0 : Nat)
theorem chS_ok : ∀ k, k < 4 → ∀ j, j < lenS.getD k 0 → (((bytS.getD k []).getD j 0 &&& 255) = (bytS.getD k []).getD j 0 ∧ (((bytS.getD k []).getD j 0).toUInt32 % 65536).toInt32 = (bytS.getD k []).getD j 0 ∧ narrow .char (.int ((bytS.getD k []).getD j 0)) = .int ((bytS.getD k []).getD j 0)) := by decide +kernel
theorem lnS_b {k : Nat} (hk : k < 4) : 2 ≤ lnS k ∧ lnS k ≤ 4 := by
  have : ∀ k, k < 4 → 2 ≤ lnS k ∧ lnS k ≤ 4 := by decide +kernel
  exact this k hk
theorem rho_K {x : CM} {k : Nat} (h : k < 500) : rho x (1000 + k) = CM.adK x k := by
  unfold rho
  rw [if_neg (by omega), if_pos (by omega), show 1000 + k - 1000 = k by omega]
theorem rho_V {x : CM} {k : Nat} (h : k < 500) : rho x (1500 + k) = CM.adV x k := by
  unfold rho
  rw [if_neg (by omega), if_neg (by omega), if_pos (by omega), show 1500 + k - 1500 = k by omega]
section
variable {x : CX} {d : Nat} {M : MI} {Q : PQ} {b : Nat × Nat} {pc : Nat} {L : List (Option Value)} {st : List Value} {N : Nat} {σ : PH}
theorem P.sgetV {k : Nat} (hk : k < 4) (hd : decode (MI.cc M) pc = .ok (.getfield 9, 3)) (hM : MI.own M = RJ0) (kk : P x d M Q b (pc + 3) L (vR (1500 + k) :: st) N σ) : P x d M Q b pc L (vR (1000 + k) :: st) N σ := by
  intro ok H locs cells slots ls hW hS hL h1 h2
  obtain ⟨o1, o2, o3, o4, o5, o6, o7, o8, o9, o10, o11, o12, o13, o14⟩ := id ok
  have hk2 := kk ok H locs cells slots ls hW hS hL h1 h2
  have e5 : (vR (1500 + k) :: st).map (cvx (CX.cm x)) = .ref (CM.adV (CX.cm x) k) :: st.map (cvx (CX.cm x)) := by
    show Value.ref (rho (CX.cm x) (1500 + k)) :: _ = _
    rw [rho_V (by omega)]
  rw [e5] at hk2
  show W _ _ _ _ _ _ _ _ _ _ H locs cells slots _ (F0 _ pc ls (.ref (rho (CX.cm x) (1000 + k)) :: _))
  rw [rho_K (by omega)]
  rw [hM] at o6
  exact vk_getf o1 o2 (o9.2.2.2.2.2.1.1 k hk).2.2.1 hS o6 (o8 _ w_sV) (fun _ h => h) hd hk2
theorem P.sgetC {k : Nat} (hk : k < 4) (hd : decode (MI.cc M) pc = .ok (.getfield 15, 3)) (hM : MI.own M = RJ0) (kk : P x d M Q b (pc + 3) L (vI 0 :: st) N σ) : P x d M Q b pc L (vR (1000 + k) :: st) N σ := by
  intro ok H locs cells slots ls hW hS hL h1 h2
  obtain ⟨o1, o2, o3, o4, o5, o6, o7, o8, o9, o10, o11, o12, o13, o14⟩ := id ok
  have hk2 := kk ok H locs cells slots ls hW hS hL h1 h2
  show W _ _ _ _ _ _ _ _ _ _ H locs cells slots _ (F0 _ pc ls (.ref (rho (CX.cm x) (1000 + k)) :: _))
  rw [rho_K (by omega)]
  rw [hM] at o6
  exact vk_getf o1 o2 (o9.2.2.2.2.2.1.1 k hk).2.1 hS o6 (o8 _ w_sC) (fun _ h => h) hd hk2
theorem P.gsC (hd : decode (MI.cc M) pc = .ok (.getstatic 38, 3)) (hM : MI.own M = RJ0) (kk : P x d M Q b (pc + 3) L (vI 1 :: st) N σ) : P x d M Q b pc L st N σ := by
  intro ok H locs cells slots ls hW hS hL h1 h2
  obtain ⟨o1, o2, o3, o4, o5, o6, o7, o8, o9, o10, o11, o12, o13, o14⟩ := id ok
  rw [hM] at o6
  exact va_gets o1 o2 o9.2.2.2.2.2.2.1 hS o6 (o8 _ w_sZ) (fun _ h => h) hd (kk ok H locs cells slots ls hW hS hL h1 h2)
theorem P.gsF (hd : decode (MI.cc M) pc = .ok (.getstatic 1053, 3)) (hM : MI.own M = RJ0) (kk : ∀ v : Value, v = .null ∨ v = vR 1509 → P x d M Q b (pc + 3) L (v :: st) N σ) : P x d M Q b pc L st N σ := by
  intro ok H locs cells slots ls hW hS hL h1 h2
  obtain ⟨o1, o2, o3, o4, o5, o6, o7, o8, o9, o10, o11, o12, o13, o14⟩ := id ok
  rw [hM] at o6
  rcases o9.2.2.2.2.2.2.2 with z | z
  · exact va_gets o1 o2 z hS o6 (o8 _ w_sF) (fun _ h => h) hd (kk .null (Or.inl rfl) ok H locs cells slots ls hW hS hL h1 h2)
  · have hk2 := kk (vR 1509) (Or.inr rfl) ok H locs cells slots ls hW hS hL h1 h2
    have e5 : (vR 1509 :: st).map (cvx (CX.cm x)) = .ref (CM.adV (CX.cm x) 9) :: st.map (cvx (CX.cm x)) := by
      show Value.ref (rho (CX.cm x) (1500 + 9)) :: _ = _
      rw [rho_V (by omega)]
    rw [e5] at hk2
    exact va_gets o1 o2 z hS o6 (o8 _ w_sF) (fun _ h => h) hd hk2
theorem P.slen {k : Nat} (hk : k < 4) (hd : decode (MI.cc M) pc = .ok (.arraylength, 1)) (kk : P x d M Q b (pc + 1) L (vI (lnS k) :: st) N σ) : P x d M Q b pc L (vR (1500 + k) :: st) N σ := by
  intro ok H locs cells slots ls hW hS hL h1 h2
  obtain ⟨o1, o2, o3, o4, o5, o6, o7, o8, o9, o10, o11, o12, o13, o14⟩ := id ok
  show W _ _ _ _ _ _ _ _ _ _ H locs cells slots _ (F0 _ pc ls (.ref (rho (CX.cm x) (1500 + k)) :: _))
  rw [rho_V (by omega)]
  exact va_tlen o1 o2 (o9.2.2.2.2.2.1.1 k hk).2.2.2 hS (v := iI (lnS k)) (nI_iI _) hd (kk ok H locs cells slots ls hW hS hL h1 h2)
theorem P.sbald {k : Nat} {j : Int} (hk : k < 4) (hd : decode (MI.cc M) pc = .ok (.baload, 1)) (hj : 0 ≤ j ∧ j < lnS k) (kk : P x d M Q b (pc + 1) L (vI (chS k j) :: st) N σ) : P x d M Q b pc L (vI j :: vR (1500 + k) :: st) N σ := by
  intro ok H locs cells slots ls hW hS hL h1 h2
  obtain ⟨o1, o2, o3, o4, o5, o6, o7, o8, o9, o10, o11, o12, o13, o14⟩ := id ok
  have hb := lnS_b hk
  have hR : inR j := ⟨by omega, by omega⟩
  show W _ _ _ _ _ _ _ _ _ _ H locs cells slots _ (F0 _ pc ls (.int (iI j) :: .ref (rho (CX.cm x) (1500 + k)) :: _))
  rw [rho_V (by omega)]
  refine va_tb o1 o2 (o9.2.2.2.2.2.1.1 k hk).2.2.2 hS (iI_in hj.1 hj.2 hR) (v := vI (chS k j)) ?_ hd (kk ok H locs cells slots ls hW hS hL h1 h2)
  rw [iI_clamp hR]
  unfold vI chS
  rw [iI_of]
theorem P.iand {a c z : Int} (hd : decode (MI.cc M) pc = .ok (.iand, 1)) (hz : iI a &&& iI c = iI z) (k : P x d M Q b (pc + 1) L (vI z :: st) N σ) : P x d M Q b pc L (vI c :: vI a :: st) N σ :=
  fun ok H locs cells slots ls hW hS hL h1 h2 => lv_iand ok.1 ok.2.1 hd (by rw [hz]; exact k ok H locs cells slots ls hW hS hL h1 h2)
theorem P.i2c {a z : Int} (hd : decode (MI.cc M) pc = .ok (.i2c, 1)) (hz : ((iI a).toUInt32 % 65536).toInt32 = iI z) (k : P x d M Q b (pc + 1) L (vI z :: st) N σ) : P x d M Q b pc L (vI a :: st) N σ :=
  fun ok H locs cells slots ls hW hS hL h1 h2 => lv_i2c ok.1 ok.2.1 hd hz (k ok H locs cells slots ls hW hS hL h1 h2)
theorem P.ishr {a c z : Int} (hd : decode (MI.cc M) pc = .ok (.ishr, 1)) (hz : iI a >>> (iI c &&& 31) = iI z) (k : P x d M Q b (pc + 1) L (vI z :: st) N σ) : P x d M Q b pc L (vI c :: vI a :: st) N σ :=
  fun ok H locs cells slots ls hW hS hL h1 h2 => lv_ishr ok.1 ok.2.1 hd (by rw [hz]; exact k ok H locs cells slots ls hW hS hL h1 h2)
theorem P.nret {z : Int} {ty : FieldType} (hd : decode (MI.cc M) pc = .ok (.ireturn, 1)) (hlw : MI.lw M = false) (hr : MI.ret M = some ty) (hz : narrow ty (vI z) = vI z) (hb : b.1 = 0) (hQ : Q (some (vI z)) σ) : P x d M Q b pc L [vI z] N σ := by
  intro ok H locs cells slots ls hW hS hL h1 h2
  have hlocks : (CX.meth x).locks = false := ok.2.2.2.2.1
  obtain ⟨N0, hN0, hZ⟩ := ok.2.2.2.2.2.2.2.2.2.2.2.2.2.1 hlw
  rw [hZ]
  have hN : N = N0 + CX.mc x := by omega
  refine W.widen (k := CX.mc x) (n := CX.ms x) (by omega) (by omega) ?_
  exact W.zret (v := iI z) ok.1 ok.2.1 (ok.2.2.2.1.trans hr) hz (fun t ht hw => ⟨⟨some (vI z), σ, rfl, hQ, by rw [ht, ← hN]; exact hW⟩, hS.F ht⟩) hS.2.2 hd
theorem P.callVs {i n d' k : Nat} {M' : MI} {As : List Value} (hk : k < 4) (hl : Cond.methodLink (MI.own M) i (MI.y M') ∈ TW) (hM : MC M' n) (hV : MV M') (hS' : MI.own M' = RJ0) (hd : decode (MI.cc M) pc = .ok (.invokevirtual i, 3)) (hn : As.length = n) (hdd : d' + 1 ≤ d) (hst : sw st ≤ 8)
    (h : Call (CX.cm x) d' 0 0 M' (vR (1000 + k) :: As) N σ (fun r σ' => P x d M Q b (pc + 3) L (r.toList ++ st) N σ')) : P x d M Q b pc L (As.reverse ++ vR (1000 + k) :: st) N σ := by
  intro ok H locs cells slots ls hW hS hL h1 h2
  obtain ⟨o1, o2, o3, o4, o5, o6, o7, o8, o9, o10, o11, o12, o13, o14⟩ := id ok
  have hnl := hM.2.2.2.2.1
  have hrec := vk_recv o9.2.2.2.2.2.1 hk hS
  obtain ⟨pf, pu⟩ := pre_of (as := vR (1000 + k) :: As) o9 hW hS
  have hgo0 := va_runV (cells := cells) (slots := slots) (locs := locs) (H := H) (below := CX.below x) (meth := CX.meth x) (e := CX.e x) (R := CX.R x) (As := As.map (cvx (CX.cm x))) (rest := st.map (cvx (CX.cm x))) (b := rho (CX.cm x) (1000 + k)) (C := MI.own M') (own := MI.own M) (index := i) (n := n) (bytes := MI.cc M') (maxL := MI.nL M') (ret := MI.ret M') (Ts := TW) (cc := MI.cc M) (nL := MI.nL M) (g := F0 (CX.m x) pc ls ((As.reverse ++ vR (1000 + k) :: st).map (cvx (CX.cm x))))
      ⟨o1, o2, o3, o6, o8⟩ h ⟨callB_of n o8 (MC.good (M := M) hM) rfl rfl rfl (o8 _ hM.2.1) (o8 _ hl) hM.2.2.1 ⟨by show d' + 1 ≤ _; omega, by show 8 + (MI.nL M' + 11) + 36 * d' ≤ _; omega⟩, o8 _ hV.1, o8 _ hV.2⟩ ⟨pf, by rw [rho_K (by omega), hS']; exact hrec, pu⟩ rfl (by simpa using hn) hL.1 (by simp [cvv]) (by rw [show (F0 (CX.m x) pc ls ((As.reverse ++ vR (1000 + k) :: st).map (cvx (CX.cm x)))).monitorRoom = 0 from rfl, sw_cv]; omega) hd ⟨by omega, by omega⟩
  exact P.behind (b := b) (mc := 0) (ms := 0) ok hS hL h1 h2 ⟨Nat.zero_le _, Nat.zero_le _⟩ hgo0 (fun r σ' hk => hk)
end
