/-! heap, calls, returns -/
theorem rho_lt {x : CM} {k : Nat} (h : k < 1000) : rho x k = CM.base x + k := if_pos h
theorem wl_at {x : CM} {N : Nat} {σ : PH} {k : Nat} (h : k < N) : (wl x N σ)[k]? = some (CM.base x + k, cE (rho x) (CM.cy x) (σ k)) := by
  unfold wl
  rw [List.getElem?_map, List.getElem?_range h]
  rfl
theorem wl_set {x : CM} {N : Nat} {σ : PH} {q : Nat} {e : PC} : (wl x N σ).set q (CM.base x + q, cE (rho x) (CM.cy x) e) = wl x N (up σ q e) := by
  apply List.ext_getElem?
  intro k
  by_cases hk : k < N
  · by_cases hq : q = k
    · subst hq
      rw [wl_at hk, List.getElem?_set_self (by unfold wl; simpa using hk), up_s]
    · rw [List.getElem?_set_ne hq, wl_at hk, wl_at hk, up_n (Ne.symm hq)]
  · have h1 : (wl x N (up σ q e))[k]? = none := List.getElem?_eq_none (by unfold wl; simp; omega)
    rw [h1]
    exact List.getElem?_eq_none (by unfold wl; simp; omega)
theorem wl_D {x : CM} {N : Nat} {σ : PH} : va_D (AA x) (wl x N σ) := by
  have key : ∀ (i : Nat) (p : Nat × va_E), (wl x N σ)[i]? = some p → p.1 = CM.base x + i := by
    intro i p h
    have hi : i < N := by
      have := (List.getElem?_eq_some_iff.mp h).1
      unfold wl at this
      simpa using this
    rw [wl_at hi] at h
    cases h
    rfl
  refine ⟨fun i j p q hi hj e => ?_, fun k q hk => ?_⟩
  · have h1 := key i p hi
    have h2 := key j q hj
    omega
  · have := key k q hk
    show CM.base x ≤ q.1
    omega
theorem Wd.lt_o {x : CM} {N : Nat} {σ : PH} {H : Heap} (h : Wd x N σ H) {q ci : Nat} {fs : List Value} {r : vw_C} (he : σ q = pcO ci fs) (hc : vwCl[ci]? = some r) : q < N := by
  rcases Nat.lt_or_ge q N with h1 | h1
  · exact h1
  · have := h.2.2.2 q h1
    rw [he] at this
    cases this
    cases hc
theorem Wd.lt_a {x : CM} {N : Nat} {σ : PH} {H : Heap} (h : Wd x N σ H) {q : Nat} {a : Nat × Nat × ((Int → Int) ⊕ (Int → Option Nat))} (he : σ q = .inl a) : q < N := by
  rcases Nat.lt_or_ge q N with h1 | h1
  · exact h1
  · have := h.2.2.2 q h1
    rw [he] at this
    cases this
theorem W.bySize {p : Program} {l : Launch} {e : Env} {R : Room} {s : State} {m : MethodId} {args : Array Value} {below : List Frame} {meth : Method} {c : Code} {H : Heap} {locs : List Loc} {cells slots : Nat} {Z : State → Prop} {g : JFrame}
    (h : H.size ≤ s.heap.size + cells → W p l e R s m args below meth c H locs cells slots Z g) : W p l e R s m args below meth c H locs cells slots Z g :=
  fun T hT X => h (hT ▸ X.heapSize) T hT X
/-- a world behind a store: as large as it was -/
theorem Wd.stored {x : CM} {N q : Nat} {σ : PH} {H H1 : Heap} {e : PC} (h : Wd x N σ H) (hq : q < N) (hP : va_P (CM.dC x, CM.dI x) vwCl (wl x N (up σ q e)) H1) (hz : H1.size ≤ CM.base x + N) : Wd x N (up σ q e) H1 := by
  refine ⟨h.1, ?_, hP, fun k hk => ?_⟩
  · have h1 := (hP (N - 1) _ (wl_at (by omega))).lt
    have h2 : CM.base x + (N - 1) < H1.size := h1
    omega
  · rw [up_n (by omega)]
    exact h.2.2.2 k hk
section
variable {x : CX} {d : Nat} {M : MI} {Q : PQ} {b : Nat × Nat} {pc : Nat} {L : List (Option Value)} {st : List Value} {N : Nat} {σ : PH}
theorem P.get {i ci k q : Nat} {fs : List Value} {v : Value} (hf : FL (MI.own M) i ci k) (hd : decode (MI.cc M) pc = .ok (.getfield i, 3)) (he : σ q = pcO ci fs) (hv : fs[k]? = some v) (kk : P x d M Q b (pc + 3) L (v :: st) N σ) : P x d M Q b pc L (vR q :: st) N σ := by
  intro ok H locs cells slots ls hW hS hL h1 h2
  obtain ⟨C, T, n, hc, hk, hw⟩ := hf
  have hq := hW.lt_o he hc
  have hq2 : q < 1000 := Nat.lt_of_lt_of_le hq hW.1
  have hen := ok.2.2.2.2.2.2.2.2.1
  show W _ _ _ _ _ _ _ _ _ _ H locs cells slots _ (F0 _ pc ls (.ref (rho (CX.cm x) q) :: _))
  rw [rho_lt hq2]
  have hat := wl_at (x := CX.cm x) (σ := σ) hq
  rw [he] at hat
  exact va_get (C := C) (T := T) (N := n) (ci := ci) ok.1 ok.2.1 ok.2.2.2.2.2.2.2.1 (cl_ok ci _ hc).1 ok.2.2.2.2.2.1 hen.1 hW.2.2.1 q hat hc k hk (ok.2.2.2.2.2.2.2.1 _ hw) (fun _ h => h) (v := cvx (CX.cm x) v) (by rw [List.getElem?_map, hv]; rfl) hd (kk ok H locs cells slots ls hW hS hL h1 h2)
theorem P.put {i ci k q : Nat} {fs fs' : List Value} {v : Value} {C : String} {T : u_T} {n : Nat} {ty : FieldType} (hf : FL (MI.own M) i ci k) (hc : vwCl[ci]? = some (C, T, n)) (hd : decode (MI.cc M) pc = .ok (.putfield i, 3)) (he : σ q = pcO ci fs) (hl : k < fs.length) (hfin : (T k).2.2.2 = false)
    (hty : parseFieldDescriptor (T k).2.2.1 = some ty) (hn : narrow ty v = v) (hfit : fits ty (cvx (CX.cm x) v) = true) (hs : fs.set k v = fs') (kk : P x d M Q b (pc + 3) L st N (up σ q (pcO ci fs'))) : P x d M Q b pc L (v :: vR q :: st) N σ := by
  intro ok H locs cells slots ls hW hS hL h1 h2
  obtain ⟨C', T', n', hc', hk, hw⟩ := hf
  cases Option.some.inj (hc'.symm.trans hc)
  have hq := hW.lt_o he hc
  have hq2 : q < 1000 := Nat.lt_of_lt_of_le hq hW.1
  have hen := ok.2.2.2.2.2.2.2.2.1
  obtain ⟨hin, ⟨ty0, hty0⟩, hnm, -⟩ := cl_ok ci _ hc
  show W _ _ _ _ _ _ _ _ _ _ H locs cells slots _ (F0 _ pc ls (cvx (CX.cm x) v :: .ref (rho (CX.cm x) q) :: _))
  rw [rho_lt hq2]
  have hat := wl_at (x := CX.cm x) (σ := σ) hq
  rw [he] at hat
  refine va_put (C := C) (T := T) (N := n) (ci := ci) ok.1 ok.2.1 ok.2.2.2.2.2.2.2.1 hin ty0 hty0 hnm ok.2.2.2.2.2.1 hen.1 hW.2.2.1 wl_D hS q hat hc k hk (ok.2.2.2.2.2.2.2.1 _ hw) (fun _ h => h) hfin hty (by cases v <;> first | exact hn | (cases ty <;> rfl)) hfit (by simpa using hl) hd (fun H1 locs1 hP1 _ hS1 => W.bySize fun hz => ?_)
  have e1 : (fs.map (cvv (rho (CX.cm x)))).set k (cvx (CX.cm x) v) = (fs'.map (cvv (rho (CX.cm x)))) := by rw [← hs, List.map_set]
  rw [e1] at hP1
  have hP2 : va_P (CM.dC (CX.cm x), CM.dI (CX.cm x)) vwCl ((wl (CX.cm x) N σ).set q (CM.base (CX.cm x) + q, cE (rho (CX.cm x)) (CM.cy (CX.cm x)) (pcO ci fs'))) H1 := hP1
  rw [wl_set] at hP2
  exact kk ok H1 locs1 cells slots ls (hW.stored hq hP2 (by omega)) hS1 hL h1 h2
theorem P.putF {i ci k q : Nat} {fs fs' : List Value} {v : Value} {C : String} {T : u_T} {n : Nat} {ty : FieldType} (hf : FL (MI.own M) i ci k) (hc : vwCl[ci]? = some (C, T, n)) (hd : decode (MI.cc M) pc = .ok (.putfield i, 3)) (he : σ q = pcO ci fs) (hl : k < fs.length) (hfin : (T k).2.2.2 = true) (hi : (MI.y M).name = "<init>") (hdl : (T k).1 = MI.own M)
    (hty : parseFieldDescriptor (T k).2.2.1 = some ty) (hn : narrow ty v = v) (hfit : fits ty (cvx (CX.cm x) v) = true) (hs : fs.set k v = fs') (kk : P x d M Q b (pc + 3) L st N (up σ q (pcO ci fs'))) : P x d M Q b pc L (v :: vR q :: st) N σ := by
  intro ok H locs cells slots ls hW hS hL h1 h2
  obtain ⟨C', T', n', hc', hk, hw⟩ := hf
  cases Option.some.inj (hc'.symm.trans hc)
  have hq := hW.lt_o he hc
  have hq2 : q < 1000 := Nat.lt_of_lt_of_le hq hW.1
  have hen := ok.2.2.2.2.2.2.2.2.1
  obtain ⟨hin, ⟨ty0, hty0⟩, hnm, -⟩ := cl_ok ci _ hc
  show W _ _ _ _ _ _ _ _ _ _ H locs cells slots _ (F0 _ pc ls (cvx (CX.cm x) v :: .ref (rho (CX.cm x) q) :: _))
  rw [rho_lt hq2]
  have hat := wl_at (x := CX.cm x) (σ := σ) hq
  rw [he] at hat
  refine va_putF (C := C) (T := T) (N := n) (ci := ci) ok.1 ok.2.1 ok.2.2.2.2.2.2.2.1 hin ty0 hty0 hnm ok.2.2.2.2.2.1 hen.1 hW.2.2.1 wl_D hS q hat hc k hk (ok.2.2.2.2.2.2.2.1 _ hw) (fun _ h => h) hfin (ok.2.2.2.2.2.2.1.trans hi) hdl hty (by cases v <;> first | exact hn | (cases ty <;> rfl)) hfit (by simpa using hl) hd (fun H1 locs1 hP1 _ hS1 => W.bySize fun hz => ?_)
  have e1 : (fs.map (cvv (rho (CX.cm x)))).set k (cvx (CX.cm x) v) = (fs'.map (cvv (rho (CX.cm x)))) := by rw [← hs, List.map_set]
  rw [e1] at hP1
  have hP2 : va_P (CM.dC (CX.cm x), CM.dI (CX.cm x)) vwCl ((wl (CX.cm x) N σ).set q (CM.base (CX.cm x) + q, cE (rho (CX.cm x)) (CM.cy (CX.cm x)) (pcO ci fs'))) H1 := hP1
  rw [wl_set] at hP2
  exact kk ok H1 locs1 cells slots ls (hW.stored hq hP2 (by omega)) hS1 hL h1 h2
theorem P.iald {q n : Nat} {f : Int → Int} {z : Int} (hd : decode (MI.cc M) pc = .ok (.iaload, 1)) (he : σ q = pcI 0 n f) (h0 : 0 ≤ z) (hz : z < n) (hn : n < 2147483648) (kk : P x d M Q b (pc + 1) L (vI (f z) :: st) N σ) : P x d M Q b pc L (vI z :: vR q :: st) N σ := by
  intro ok H locs cells slots ls hW hS hL h1 h2
  have hq := hW.lt_a he
  have hR : inR z := ⟨by omega, by omega⟩
  show W _ _ _ _ _ _ _ _ _ _ H locs cells slots _ (F0 _ pc ls (.int (iI z) :: .ref (rho (CX.cm x) q) :: _))
  rw [rho_lt (Nat.lt_of_lt_of_le hq hW.1)]
  have hat := wl_at (x := CX.cm x) (σ := σ) hq
  rw [he] at hat
  refine va_iald ok.1 ok.2.1 ok.2.2.2.2.2.2.2.2.1.1 hW.2.2.1 q 0 hat rfl (iI_in h0 hz hR) hd ?_
  rw [iI_clamp hR, Int.toNat_of_nonneg h0]
  exact kk ok H locs cells slots ls hW hS hL h1 h2
theorem P.zald {q n : Nat} {f : Int → Int} {z : Int} (hd : decode (MI.cc M) pc = .ok (.baload, 1)) (he : σ q = pcI 1 n f) (h0 : 0 ≤ z) (hz : z < n) (hn : n < 2147483648) (kk : P x d M Q b (pc + 1) L (vI (f z) :: st) N σ) : P x d M Q b pc L (vI z :: vR q :: st) N σ := by
  intro ok H locs cells slots ls hW hS hL h1 h2
  have hq := hW.lt_a he
  have hR : inR z := ⟨by omega, by omega⟩
  show W _ _ _ _ _ _ _ _ _ _ H locs cells slots _ (F0 _ pc ls (.int (iI z) :: .ref (rho (CX.cm x) q) :: _))
  rw [rho_lt (Nat.lt_of_lt_of_le hq hW.1)]
  have hat := wl_at (x := CX.cm x) (σ := σ) hq
  rw [he] at hat
  refine va_zald ok.1 ok.2.1 ok.2.2.2.2.2.2.2.2.1.1 hW.2.2.1 q 1 hat rfl (iI_in h0 hz hR) hd ?_
  rw [iI_clamp hR, Int.toNat_of_nonneg h0]
  exact kk ok H locs cells slots ls hW hS hL h1 h2
theorem P.aald {q n t : Nat} {g : Int → Option Nat} {z : Int} {a : Nat} (hd : decode (MI.cc M) pc = .ok (.aaload, 1)) (he : σ q = pcR t n g) (ht : t = 2 ∨ t = 3) (h0 : 0 ≤ z) (hz : z < n) (hn : n < 2147483648) (hg : g z = some a) (kk : P x d M Q b (pc + 1) L (vR a :: st) N σ) : P x d M Q b pc L (vI z :: vR q :: st) N σ := by
  intro ok H locs cells slots ls hW hS hL h1 h2
  have hq := hW.lt_a he
  have hR : inR z := ⟨by omega, by omega⟩
  show W _ _ _ _ _ _ _ _ _ _ H locs cells slots _ (F0 _ pc ls (.int (iI z) :: .ref (rho (CX.cm x) q) :: _))
  rw [rho_lt (Nat.lt_of_lt_of_le hq hW.1)]
  have hat := wl_at (x := CX.cm x) (σ := σ) hq
  rw [he] at hat
  have hk := kk ok H locs cells slots ls hW hS hL h1 h2
  rcases ht with rfl | rfl
  · refine va_aldq (C := RX1) ok.1 ok.2.1 ok.2.2.2.2.2.2.2.2.1.1 hW.2.2.1 q 2 hat rfl (iI_in h0 hz hR) hd ?_
    rw [iI_clamp hR, Int.toNat_of_nonneg h0, hg]
    exact hk
  · refine va_aldq (C := RX3) ok.1 ok.2.1 ok.2.2.2.2.2.2.2.2.1.1 hW.2.2.1 q 3 hat rfl (iI_in h0 hz hR) hd ?_
    rw [iI_clamp hR, Int.toNat_of_nonneg h0, hg]
    exact hk
theorem P.alen {q : Nat} {t n : Nat} {c : (Int → Int) ⊕ (Int → Option Nat)} (hd : decode (MI.cc M) pc = .ok (.arraylength, 1)) (he : σ q = .inl (t, n, c)) (ht : t < 4) (kk : P x d M Q b (pc + 1) L (vI n :: st) N σ) : P x d M Q b pc L (vR q :: st) N σ := by
  intro ok H locs cells slots ls hW hS hL h1 h2
  have hq := hW.lt_a he
  show W _ _ _ _ _ _ _ _ _ _ H locs cells slots _ (F0 _ pc ls (.ref (rho (CX.cm x) q) :: _))
  rw [rho_lt (Nat.lt_of_lt_of_le hq hW.1)]
  have hat := wl_at (x := CX.cm x) (σ := σ) hq
  rw [he] at hat
  have hk := kk ok H locs cells slots ls hW hS hL h1 h2
  have key : ∀ (y : vp_A) (ty : FieldType), y.1 = n → (wl (CX.cm x) N σ)[q]? = some (CM.base (CX.cm x) + q, .inl (CM.cy (CX.cm x) t, y)) → (tysJ (CX.cm x))[t]? = some (CM.cy (CX.cm x) t, ty) → W (CX.p x) (CM.l (CX.cm x)) (CX.e x) (CX.R x) (CX.s x) (CX.m x) (CX.args x) (CX.below x) (CX.meth x) (CX.c x) H locs cells slots (CX.Z x) (F0 (CX.m x) pc ls (.ref (CM.base (CX.cm x) + q) :: st.map (cvx (CX.cm x)))) := by
    intro y ty hy hy2 hy3
    exact va_alen ok.1 ok.2.1 ok.2.2.2.2.2.2.2.2.1.1 hW.2.2.1 q t hy2 hy3 (v := iI n) (by rw [hy]; exact nI_iI n) hd hk
  have ht4 : t = 0 ∨ t = 1 ∨ t = 2 ∨ t = 3 := by omega
  cases c <;> rcases ht4 with rfl | rfl | rfl | rfl <;> exact key _ _ rfl hat rfl
theorem P.iast {q n : Nat} {f : Int → Int} {z v : Int} (hd : decode (MI.cc M) pc = .ok (.iastore, 1)) (he : σ q = pcI 0 n f) (h0 : 0 ≤ z) (hz : z < n) (hn : n < 2147483648) (kk : P x d M Q b (pc + 1) L st N (up σ q (pcI 0 n (upI f z v)))) : P x d M Q b pc L (vI v :: vI z :: vR q :: st) N σ := by
  intro ok H locs cells slots ls hW hS hL h1 h2
  have hq := hW.lt_a he
  have hR : inR z := ⟨by omega, by omega⟩
  show W _ _ _ _ _ _ _ _ _ _ H locs cells slots _ (F0 _ pc ls (.int (iI v) :: .int (iI z) :: .ref (rho (CX.cm x) q) :: _))
  rw [rho_lt (Nat.lt_of_lt_of_le hq hW.1)]
  have hat := wl_at (x := CX.cm x) (σ := σ) hq
  rw [he] at hat
  refine va_iast ok.1 ok.2.1 ok.2.2.2.2.2.2.2.2.1.1 hW.2.2.1 wl_D hS q 0 hat rfl (iI_in h0 hz hR) hd (fun H1 locs1 hP1 _ hS1 => W.bySize fun hsz => ?_)
  have e1 : upd (fun j : Nat => iI (f (j : Int))) (iI z).toNatClampNeg (iI v) = fun j : Nat => iI (upI f z v (j : Int)) := by
    funext j
    unfold upd upI
    rw [iI_clamp hR]
    by_cases hj : j = z.toNat
    · rw [if_pos hj, if_pos (by omega)]
    · rw [if_neg hj, if_neg (by omega)]
  rw [e1] at hP1
  have hP2 : va_P (CM.dC (CX.cm x), CM.dI (CX.cm x)) vwCl ((wl (CX.cm x) N σ).set q (CM.base (CX.cm x) + q, cE (rho (CX.cm x)) (CM.cy (CX.cm x)) (pcI 0 n (upI f z v)))) H1 := hP1
  rw [wl_set] at hP2
  exact kk ok H1 locs1 cells slots ls (hW.stored hq hP2 (by omega)) hS1 hL h1 h2
theorem P.zast {q n : Nat} {f : Int → Int} {z v : Int} (hd : decode (MI.cc M) pc = .ok (.bastore, 1)) (he : σ q = pcI 1 n f) (h0 : 0 ≤ z) (hz : z < n) (hn : n < 2147483648) (hv : v = 0 ∨ v = 1) (kk : P x d M Q b (pc + 1) L st N (up σ q (pcI 1 n (upI f z v)))) : P x d M Q b pc L (vI v :: vI z :: vR q :: st) N σ := by
  intro ok H locs cells slots ls hW hS hL h1 h2
  have hq := hW.lt_a he
  have hR : inR z := ⟨by omega, by omega⟩
  show W _ _ _ _ _ _ _ _ _ _ H locs cells slots _ (F0 _ pc ls (.int (iI v) :: .int (iI z) :: .ref (rho (CX.cm x) q) :: _))
  rw [rho_lt (Nat.lt_of_lt_of_le hq hW.1)]
  have hat := wl_at (x := CX.cm x) (σ := σ) hq
  rw [he] at hat
  refine va_zast ok.1 ok.2.1 ok.2.2.2.2.2.2.2.2.1.1 hW.2.2.1 wl_D hS q 1 hat rfl (iI_in h0 hz hR) hd (fun H1 locs1 hP1 _ hS1 => W.bySize fun hsz => ?_)
  have hnar : vp_nar .boolean (iI v) = iI v := by rcases hv with rfl | rfl <;> decide +kernel
  have e1 : upd (fun j : Nat => iI (f (j : Int))) (iI z).toNatClampNeg (vp_nar .boolean (iI v)) = fun j : Nat => iI (upI f z v (j : Int)) := by
    rw [hnar]
    funext j
    unfold upd upI
    rw [iI_clamp hR]
    by_cases hj : j = z.toNat
    · rw [if_pos hj, if_pos (by omega)]
    · rw [if_neg hj, if_neg (by omega)]
  rw [e1] at hP1
  have hP2 : va_P (CM.dC (CX.cm x), CM.dI (CX.cm x)) vwCl ((wl (CX.cm x) N σ).set q (CM.base (CX.cm x) + q, cE (rho (CX.cm x)) (CM.cy (CX.cm x)) (pcI 1 n (upI f z v)))) H1 := hP1
  rw [wl_set] at hP2
  exact kk ok H1 locs1 cells slots ls (hW.stored hq hP2 (by omega)) hS1 hL h1 h2
/-! returns -/
theorem P.iret {z : Int} (hd : decode (MI.cc M) pc = .ok (.ireturn, 1)) (hlw : MI.lw M = false) (hr : MI.ret M = some .int) (hb : b.1 = 0) (hQ : Q (some (vI z)) σ) : P x d M Q b pc L [vI z] N σ := by
  intro ok H locs cells slots ls hW hS hL h1 h2
  have hlocks : (CX.meth x).locks = false := ok.2.2.2.2.1
  obtain ⟨N0, hN0, hZ⟩ := ok.2.2.2.2.2.2.2.2.2.2.2.2.2.1 hlw
  rw [hZ]
  have hN : N = N0 + CX.mc x := by omega
  refine W.widen (k := CX.mc x) (n := CX.ms x) (by omega) (by omega) ?_
  exact W.iret (v := iI z) ok.1 ok.2.1 (ok.2.2.2.1.trans hr) (fun t ht hw => ⟨⟨some (vI z), σ, rfl, hQ, by rw [ht, ← hN]; exact hW⟩, hS.F ht⟩) hS.2.2 hd
theorem P.zret {z : Int} (hd : decode (MI.cc M) pc = .ok (.ireturn, 1)) (hlw : MI.lw M = false) (hr : MI.ret M = some .boolean) (hz : z = 0 ∨ z = 1) (hb : b.1 = 0) (hQ : Q (some (vI z)) σ) : P x d M Q b pc L [vI z] N σ := by
  intro ok H locs cells slots ls hW hS hL h1 h2
  have hlocks : (CX.meth x).locks = false := ok.2.2.2.2.1
  obtain ⟨N0, hN0, hZ⟩ := ok.2.2.2.2.2.2.2.2.2.2.2.2.2.1 hlw
  rw [hZ]
  have hN : N = N0 + CX.mc x := by omega
  refine W.widen (k := CX.mc x) (n := CX.ms x) (by omega) (by omega) ?_
  exact W.zret (v := iI z) ok.1 ok.2.1 (ok.2.2.2.1.trans hr) (by rcases hz with rfl | rfl <;> decide +kernel) (fun t ht hw => ⟨⟨some (vI z), σ, rfl, hQ, by rw [ht, ← hN]; exact hW⟩, hS.F ht⟩) hS.2.2 hd
theorem P.vret (hd : decode (MI.cc M) pc = .ok (.return_, 1)) (hlw : MI.lw M = false) (hr : MI.ret M = none) (hb : b.1 = 0) (hQ : Q none σ) : P x d M Q b pc L [] N σ := by
  intro ok H locs cells slots ls hW hS hL h1 h2
  have hlocks : (CX.meth x).locks = false := ok.2.2.2.2.1
  obtain ⟨N0, hN0, hZ⟩ := ok.2.2.2.2.2.2.2.2.2.2.2.2.2.1 hlw
  rw [hZ]
  have hN : N = N0 + CX.mc x := by omega
  refine W.widen (k := CX.mc x) (n := CX.ms x) (by omega) (by omega) ?_
  exact W.vret ok.1 ok.2.1 (ok.2.2.2.1.trans hr) (fun t ht hw => ⟨⟨none, σ, rfl, hQ, by rw [ht, ← hN]; exact hW⟩, hS.F ht⟩) hS.2.2 hd
end
