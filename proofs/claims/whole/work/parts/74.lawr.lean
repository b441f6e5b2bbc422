/-! the law: its script, its end -/
abbrev mL_law : MI := (yL_law, cL_law, 4, some .boolean, true)
/-- the script as the law's run sees it: n ints xs, outside of what is ours -/
def SX (x : CX) (n : Nat) (xs : Nat → Int32) : Prop := va_X (CM.sc (CX.cm x)) n xs (CX.s x) (CX.s x).heap ∧ CM.sc (CX.cm x) < (CX.s x).heap.size ∧ CM.sc (CX.cm x) < CM.base (CX.cm x) ∧ n ≤ 2048
/-- the script's int at a place -/
def xz (xs : Nat → Int32) (i : Int) : Int := (xs i.toNat).toInt
theorem xz_R (xs : Nat → Int32) (i : Int) : inR (xz xs i) := inR_toInt _
theorem and31 (a : Int) : 0 ≤ (iI a &&& iI 31).toInt ∧ (iI a &&& iI 31).toInt < 32 := by
  have h := pk_andIn (iI a) (m := iI 31) 5 (by decide) (by decide)
  rw [vp_in_iff] at h
  exact ⟨h.1, by have := h.2; omega⟩
section
variable {x : CX} {d : Nat} {M : MI} {Q : PQ} {b : Nat × Nat} {pc : Nat} {L : List (Option Value)} {st : List Value} {N : Nat} {σ : PH} {n : Nat} {xs : Nat → Int32}
theorem SX.nA (h : SX x n xs) : ¬ AA (CX.cm x) (CM.sc (CX.cm x)) := Nat.not_le.mpr h.2.2.1
theorem rho_sc {x : CM} : rho x 2000 = CM.sc x := by
  unfold rho
  rw [if_neg (by omega), if_neg (by omega), if_neg (by omega)]
theorem P.scld {z : Int} (hX : SX x n xs) (hd : decode (MI.cc M) pc = .ok (.iaload, 1)) (h0 : 0 ≤ z) (hz : z < n) (kk : P x d M Q b (pc + 1) L (vI (xz xs z) :: st) N σ) : P x d M Q b pc L (vI z :: vR 2000 :: st) N σ := by
  intro ok H locs cells slots ls hW hS hL h1 h2
  have hn := hX.2.2.2
  have hR : inR z := ⟨by omega, by omega⟩
  show W _ _ _ _ _ _ _ _ _ _ H locs cells slots _ (F0 _ pc ls (.int (iI z) :: .ref (rho (CX.cm x) 2000) :: _))
  rw [rho_sc]
  refine va_sld ok.1 ok.2.1 hX.1 hX.2.1 hX.nA hS (iI_in h0 hz hR) hd ?_
  rw [iI_clamp hR]
  have hk := kk ok H locs cells slots ls hW hS hL h1 h2
  have e : vI (xz xs z) = .int (xs z.toNat) := by unfold vI xz; rw [iI_of]
  rw [e] at hk
  exact hk
theorem P.sclen (hX : SX x n xs) (hd : decode (MI.cc M) pc = .ok (.arraylength, 1)) (kk : P x d M Q b (pc + 1) L (vI n :: st) N σ) : P x d M Q b pc L (vR 2000 :: st) N σ := by
  intro ok H locs cells slots ls hW hS hL h1 h2
  show W _ _ _ _ _ _ _ _ _ _ H locs cells slots _ (F0 _ pc ls (.ref (rho (CX.cm x) 2000) :: _))
  rw [rho_sc]
  refine va_slen ok.1 ok.2.1 hX.1 hX.2.1 hX.nA hS hd ?_
  have hk := kk ok H locs cells slots ls hW hS hL h1 h2
  have e : vI n = .int (Int32.ofNat n) := congrArg Value.int (nI_iI n).symm
  rw [e] at hk
  exact hk
theorem P.iand31 {a : Int} (hd : decode (MI.cc M) pc = .ok (.iand, 1)) (kk : ∀ z : Int, 0 ≤ z → z < 32 → P x d M Q b (pc + 1) L (vI z :: st) N σ) : P x d M Q b pc L (vI 31 :: vI a :: st) N σ :=
  fun ok H locs cells slots ls hW hS hL h1 h2 => lv_iand ok.1 ok.2.1 hd (by
    have hk := kk (iI a &&& iI 31).toInt (and31 a).1 (and31 a).2 ok H locs cells slots ls hW hS hL h1 h2
    have e : vI (iI a &&& iI 31).toInt = .int (iI a &&& iI 31) := by unfold vI; rw [iI_of]
    rw [e] at hk
    exact hk)
theorem P.icmp_same {a off : Int} {t : Nat} (hd : decode (MI.cc M) pc = .ok (.if_icmp .eq off, 3)) (ht : (pc : Int) + off = (t : Int)) (k : P x d M Q b t L st N σ) : P x d M Q b pc L (vI a :: vI a :: st) N σ :=
  fun ok H locs cells slots ls hW hS hL h1 h2 => lv_icmp_eq ok.1 ok.2.1 hd ht (fun _ => k ok H locs cells slots ls hW hS hL h1 h2) (fun h => absurd rfl h)
end
