/-! a method out of its body -/
def dnL : List Value → List (Option Value)
  | [] => []
  | v :: vs => if v.category = 2 then some v :: none :: dnL vs else some v :: dnL vs
def entL (nL : Nat) (as : List Value) : List (Option Value) := dnL as ++ List.replicate (nL - (dnL as).length) none
theorem dnL_args (ρ : Nat → Nat) : ∀ (as : List Value) (k i : Nat) (v : Value), (dnL as)[i]? = some (some v) → (k + i, cvv ρ v) ∈ lv_args k (as.map (cvv ρ)) := by
  intro as
  induction as with
  | nil => intro k i v h; simp [dnL] at h
  | cons a as ih =>
    intro k i v h
    show _ ∈ (k, cvv ρ a) :: lv_args (if (cvv ρ a).category = 2 then k + 2 else k + 1) (as.map (cvv ρ))
    rw [cvv_cat]
    unfold dnL at h
    by_cases hc : a.category = 2
    · rw [if_pos hc] at h ⊢
      match i, h with
      | 0, h => cases h; exact List.mem_cons_self
      | 1, h => cases h
      | i + 2, h =>
        have := ih (k + 2) i v h
        rw [show k + (i + 2) = k + 2 + i by omega]
        exact List.mem_cons_of_mem _ this
    · rw [if_neg hc] at h ⊢
      match i, h with
      | 0, h => cases h; exact List.mem_cons_self
      | i + 1, h =>
        have := ih (k + 1) i v h
        rw [show k + (i + 1) = k + 1 + i by omega]
        exact List.mem_cons_of_mem _ this
theorem Lv.entry {ρ : Nat → Nat} {nL : Nat} {as : List Value} {ls : Array Slot} (h : lv_has ls nL (lv_args 0 (as.map (cvv ρ)))) : Lv ρ ls nL (entL nL as) := by
  refine ⟨h.1, h.2.1, fun i v hi => ?_⟩
  unfold entL at hi
  by_cases hl : i < (dnL as).length
  · rw [List.getElem?_append_left hl] at hi
    have := dnL_args ρ as 0 i v hi
    rw [Nat.zero_add] at this
    exact h.2.2 (i, cvv ρ v) this
  · rw [List.getElem?_append_right (by omega)] at hi
    have := List.mem_of_getElem? hi
    have := List.eq_of_mem_replicate this
    cases this
theorem lg_sl_len (ρ : Nat → Nat) : ∀ as : List Value, (lg_sl (as.map (cvv ρ))).length = (dnL as).length := by
  intro as
  induction as with
  | nil => rfl
  | cons a as ih =>
    have e1 : lg_sl ((a :: as).map (cvv ρ)) = (if (cvv ρ a).category = 2 then [Slot.val (cvv ρ a), Slot.second] else [Slot.val (cvv ρ a)]) ++ lg_sl (as.map (cvv ρ)) := rfl
    rw [e1, cvv_cat, List.length_append, ih]
    show _ = (if a.category = 2 then some a :: none :: dnL as else some a :: dnL as).length
    by_cases hc : a.category = 2
    · rw [if_pos hc, if_pos hc]; simp; omega
    · rw [if_neg hc, if_neg hc]; simp; omega
theorem Call.of {x : CM} {d mc ms n : Nat} {M : MI} {as : List Value} {N : Nat} {σ : PH} {Q : PQ} (hM : MC M n) (hl : (dnL as).length ≤ MI.nL M)
    (h : ∀ y : CX, CX.cm y = x → P y d M Q (mc, ms) 0 (entL (MI.nL M) as) [] N σ) : Call x d mc ms M as N σ Q := by
  obtain ⟨hcode, hini, hdd, hpl, hnl, hlw⟩ := hM
  refine va_MetF (cc := MI.cc M) (maxL := MI.nL M) (ret := MI.ret M) (ws' := TW) hpl rfl ?_
  intro p e s m args below meth c s₁ B hml hv
  obtain ⟨rfl, hW, hE⟩ := hv
  have hts := atoms_spec (ws := wsM M) B.pre
  have hlen : (lg_sl (as.map (cvx x))).length ≤ MI.nL M := by rw [lg_sl_len]; exact hl
  have hlv := lv_entry (as.map (cvx x)) (n := MI.nL M) hlen
  rw [lg_entry_eq]
  generalize (lg_sl (as.map (cvx x)) ++ List.replicate (MI.nL M - (lg_sl (as.map (cvx x))).length) Slot.unset).toArray = ls at hlv ⊢
  have hL := Lv.entry hlv
  have hk := h (x, p, e, s, m, (as.map (cvx x)).toArray, below, meth, c, Rm d mc ms, mc, ms, MQ below (QQ x (N + mc) Q) (as.map (cvx x)).toArray s mc ms (AA x)) rfl
  have hs := hW.2.1
  refine hk ⟨B.exec, B.bytes, hml, B.returns, B.notSynchronized, findClass_of_methodNamed B.named, (name_of_methodNamed B.named B.method).1, fun w hw => hts w (List.mem_cons_of_mem _ hw), hE, Nat.le_refl _, Nat.le_refl _, Nat.le_refl _, Nat.le_refl _, fun _ => ⟨N, hs, rfl⟩, ?_⟩ s.heap [] 0 0 ls hW va_S.rf hL ⟨by show s.heap.size + 0 = CM.base x + N; omega, by show 0 + mc = mc; omega⟩ (by show 0 + ms ≤ ms; omega)
  show CM.base x ≤ s.heap.size
  omega
/-! calls -/
theorem MC.good {M M' : MI} {n : Nat} (h : MC M' n) : GoodIn TW (wsM M') := by
  intro w hw
  rcases List.mem_cons.mp hw with rfl | hw
  · exact ⟨h.1, good_of_word (TW_good h.1)⟩
  · exact ⟨hw, good_of_word (TW_good hw)⟩
theorem pre_of {x : CM} {N : Nat} {σ : PH} {s : State} {H : Heap} {locs : List Loc} {as : List Value} (hE : EN x s) (hW : Wd x N σ H) (hS : va_S (AA x) s.heap H locs) : PreS s H (va_Pc (as.map (cvx x)) (fun U => Wd x N σ U.heap ∧ EN x U)) (as.map (cvx x)) := by
  refine ⟨fun a U g mk q => ?_, fun U hU hw => ⟨rfl, by rw [hU]; exact hW, hE.warm hw (locs := locs) (by rw [hU]; exact hS)⟩⟩
  obtain ⟨q1, q2, q3⟩ := q
  exact ⟨q1, q2, q3.frames g mk a⟩
section
variable {x : CX} {d : Nat} {M : MI} {Q : PQ} {b : Nat × Nat} {pc : Nat} {L : List (Option Value)} {st : List Value} {N : Nat} {σ : PH}
abbrev sw (st : List Value) : Nat := (st.map fun v => v.category).sum
theorem sw_cv (ρ : Nat → Nat) (st : List Value) : ((st.map (cvv ρ)).map fun v => v.category).sum = sw st := by
  unfold sw
  congr 1
  rw [List.map_map]
  exact List.map_congr_left (fun v _ => cvv_cat ρ v)
/-- behind a call -/
theorem P.behind {mc ms : Nat} {Q' : PQ} {H : Heap} {locs : List Loc} {cells slots : Nat} {ls : Array Slot} {stc : List Value} {a : Array Value} (ok : OKx x d M Q) (hS : va_S (AA (CX.cm x)) (CX.s x).heap H locs) (hL : Lv (rho (CX.cm x)) ls (MI.nL M) L)
    (h1 : (CX.s x).heap.size + cells = CM.base (CX.cm x) + N ∧ cells + b.1 = CX.mc x) (h2 : slots + b.2 ≤ CX.ms x) (hb : mc ≤ b.1 ∧ ms ≤ b.2)
    (hr : va_Run (CX.p x) (CM.l (CX.cm x)) (CX.e x) (CX.R x) (CX.s x) (CX.m x) (CX.args x) (CX.below x) (CX.meth x) (CX.c x) H locs cells slots mc ms (F0 (CX.m x) pc ls stc) (st.map (cvx (CX.cm x))) (QQ (CX.cm x) (N + mc) Q' a) (AA (CX.cm x)))
    (k : ∀ (r : Option Value) (σ' : PH), Q' r σ' → P x d M Q (b.1 - mc, b.2 - ms) (pc + 3) L (r.toList ++ st) (N + mc) σ') :
    W (CX.p x) (CM.l (CX.cm x)) (CX.e x) (CX.R x) (CX.s x) (CX.m x) (CX.args x) (CX.below x) (CX.meth x) (CX.c x) H locs cells slots (CX.Z x) (F0 (CX.m x) pc ls stc) := by
  intro T hT X
  obtain ⟨v, st₀, t, T', L', h0, X', hL', e1, e2, ⟨⟨r, σ', hv, hQ, hWd⟩, hF⟩, hgo⟩ := hr T hT X
  have hv' : v = r.map (cvx (CX.cm x)) := by cases hv; rfl
  have hF1 := hF.1
  have hF2 := hF.2
  rw [h0] at hF1 hF2
  have hS' : va_S (AA (CX.cm x)) (CX.s x).heap T'.heap (locs ++ L') := by
    refine ⟨Nat.le_trans hS.1 (by rw [e1]; exact hF1), fun q g1 g2 => ?_, fun q hq => ?_⟩
    · rw [e1, hF2 q (Nat.lt_of_lt_of_le g1 hS.1) g2]
      exact hS.2.1 q g1 g2
    · rcases List.mem_append.mp hq with h | h
      · exact hS.2.2 q h
      · exact hL' q h
  obtain ⟨t2, a1, b1⟩ := k r σ' hQ ok T'.heap (locs ++ L') (cells + mc) (slots + ms) ls (by rw [e1]; exact hWd) hS' hL ⟨by omega, by show cells + mc + (b.1 - mc) = _; omega⟩ (by show slots + ms + (b.2 - ms) ≤ _; omega) T' rfl X'
  refine ⟨t2, hgo t2 ?_, b1⟩
  rw [hv']
  cases r
  · exact a1
  · exact a1
theorem P.callVg {i n d' mc ms q ci : Nat} {M' : MI} {As fs : List Value} {T : u_T} {nf : Nat} (hl : Cond.methodLink (MI.own M) i (MI.y M') ∈ TW) (hM : MC M' n) (hV : MV M') (hd : decode (MI.cc M) pc = .ok (.invokevirtual i, 3)) (hn : As.length = n) (hdd : d' + 1 ≤ d) (hst : sw st ≤ 8) (hb : mc ≤ b.1 ∧ ms ≤ b.2)
    (he : σ q = pcO ci fs) (hci : vwCl[ci]? = some (MI.own M', T, nf))
    (h : Call (CX.cm x) d' mc ms M' (vR q :: As) N σ (fun r σ' => P x d M Q (b.1 - mc, b.2 - ms) (pc + 3) L (r.toList ++ st) (N + mc) σ')) : P x d M Q b pc L (As.reverse ++ vR q :: st) N σ := by
  intro ok H locs cells slots ls hW hS hL h1 h2
  have hq := hW.lt_o he hci
  have hq2 : q < 1000 := Nat.lt_of_lt_of_le hq hW.1
  obtain ⟨o1, o2, o3, o4, o5, o6, o7, o8, o9, o10, o11, o12, o13, o14⟩ := id ok
  have hnl := hM.2.2.2.2.1
  have hat := wl_at (x := CX.cm x) (σ := σ) hq
  rw [he] at hat
  have hrec := va_recv (ci := ci) o9.1 hW.2.2.1 hci hat
  obtain ⟨pf, pu⟩ := pre_of (as := vR q :: As) o9 hW hS
  have hgo : va_Run (CX.p x) (CM.l (CX.cm x)) (CX.e x) (CX.R x) (CX.s x) (CX.m x) (CX.args x) (CX.below x) (CX.meth x) (CX.c x) H locs cells slots mc ms (F0 (CX.m x) pc ls ((As.reverse ++ vR q :: st).map (cvx (CX.cm x)))) (st.map (cvx (CX.cm x))) (QQ (CX.cm x) (N + mc) (fun r σ' => P x d M Q (b.1 - mc, b.2 - ms) (pc + 3) L (r.toList ++ st) (N + mc) σ') ((vR q :: As).map (cvx (CX.cm x))).toArray) (AA (CX.cm x)) := by
    have hgo0 := va_runV (cells := cells) (slots := slots) (locs := locs) (H := H) (below := CX.below x) (meth := CX.meth x) (e := CX.e x) (R := CX.R x) (As := As.map (cvx (CX.cm x))) (rest := st.map (cvx (CX.cm x))) (b := rho (CX.cm x) q) (C := MI.own M') (own := MI.own M) (index := i) (n := n) (bytes := MI.cc M') (maxL := MI.nL M') (ret := MI.ret M') (Ts := TW) (cc := MI.cc M) (nL := MI.nL M) (g := F0 (CX.m x) pc ls ((As.reverse ++ vR q :: st).map (cvx (CX.cm x))))
      ⟨o1, o2, o3, o6, o8⟩ h ⟨callB_of n o8 (MC.good (M := M) hM) rfl rfl rfl (o8 _ hM.2.1) (o8 _ hl) hM.2.2.1 ⟨by show d' + 1 ≤ _; omega, by show 8 + (MI.nL M' + 11) + 36 * d' ≤ _; omega⟩, o8 _ hV.1, o8 _ hV.2⟩ ⟨pf, by rw [rho_lt hq2]; exact hrec, pu⟩ rfl (by simpa using hn) hL.1 (by simp [cvv]) (by rw [show (F0 (CX.m x) pc ls ((As.reverse ++ vR q :: st).map (cvx (CX.cm x)))).monitorRoom = 0 from rfl, sw_cv]; omega) hd ⟨by omega, by omega⟩
    exact hgo0
  exact P.behind ok hS hL h1 h2 hb hgo (fun r σ' hk => hk)
theorem P.callSg {i n d' mc ms : Nat} {M' : MI} {As : List Value} (hl : Cond.methodLink (MI.own M) i (MI.y M') ∈ TW) (hM : MC M' n) (hV : Cond.static (MI.y M') ∈ TW) (hd : decode (MI.cc M) pc = .ok (.invokestatic i, 3)) (hn : As.length = n) (hdd : d' + 1 ≤ d) (hst : sw st ≤ 8) (hb : mc ≤ b.1 ∧ ms ≤ b.2)
    (h : Call (CX.cm x) d' mc ms M' As N σ (fun r σ' => P x d M Q (b.1 - mc, b.2 - ms) (pc + 3) L (r.toList ++ st) (N + mc) σ')) : P x d M Q b pc L (As.reverse ++ st) N σ := by
  intro ok H locs cells slots ls hW hS hL h1 h2
  obtain ⟨o1, o2, o3, o4, o5, o6, o7, o8, o9, o10, o11, o12, o13, o14⟩ := id ok
  have hnl := hM.2.2.2.2.1
  have hgo0 := va_runS (cells := cells) (slots := slots) (locs := locs) (H := H) (below := CX.below x) (meth := CX.meth x) (e := CX.e x) (R := CX.R x) (As := As.map (cvx (CX.cm x))) (rest := st.map (cvx (CX.cm x))) (own := MI.own M) (index := i) (n := n) (bytes := MI.cc M') (maxL := MI.nL M') (ret := MI.ret M') (Ts := TW) (cc := MI.cc M) (nL := MI.nL M) (g := F0 (CX.m x) pc ls ((As.reverse ++ st).map (cvx (CX.cm x))))
      ⟨o1, o2, o3, o6, o8⟩ h ⟨callB_of n o8 (MC.good (M := M) hM) rfl rfl rfl (o8 _ hM.2.1) (o8 _ hl) hM.2.2.1 ⟨by show d' + 1 ≤ _; omega, by show 8 + (MI.nL M' + 11) + 36 * d' ≤ _; omega⟩, o8 _ hV⟩ (pre_of (as := As) o9 hW hS) rfl (by simpa using hn) hL.1 (by simp) (by rw [show (F0 (CX.m x) pc ls ((As.reverse ++ st).map (cvx (CX.cm x)))).monitorRoom = 0 from rfl, sw_cv]; omega) hd ⟨by omega, by omega⟩
  exact P.behind ok hS hL h1 h2 hb hgo0 (fun r σ' hk => hk)
theorem P.callSNg {i n d' mc ms : Nat} {M' : MI} {As : List Value} {host : String} (hl : Cond.methodLinkNest (MI.own M) i (MI.y M') host ∈ nestW) (hM : MC M' n) (hV : Cond.static (MI.y M') ∈ TW) (hd : decode (MI.cc M) pc = .ok (.invokestatic i, 3)) (hn : As.length = n) (hdd : d' + 1 ≤ d) (hst : sw st ≤ 8) (hb : mc ≤ b.1 ∧ ms ≤ b.2)
    (h : Call (CX.cm x) d' mc ms M' As N σ (fun r σ' => P x d M Q (b.1 - mc, b.2 - ms) (pc + 3) L (r.toList ++ st) (N + mc) σ')) : P x d M Q b pc L (As.reverse ++ st) N σ := by
  intro ok H locs cells slots ls hW hS hL h1 h2
  obtain ⟨o1, o2, o3, o4, o5, o6, o7, o8, o9, o10, o11, o12, o13, o14⟩ := id ok
  have hnl := hM.2.2.2.2.1
  have hgo0 := va_runSN (cells := cells) (slots := slots) (locs := locs) (H := H) (below := CX.below x) (meth := CX.meth x) (e := CX.e x) (R := CX.R x) (As := As.map (cvx (CX.cm x))) (rest := st.map (cvx (CX.cm x))) (own := MI.own M) (host := host) (index := i) (n := n) (bytes := MI.cc M') (maxL := MI.nL M') (ret := MI.ret M') (Ts := TW) (cc := MI.cc M) (nL := MI.nL M) (g := F0 (CX.m x) pc ls ((As.reverse ++ st).map (cvx (CX.cm x))))
      ⟨o1, o2, o3, o6, o8⟩ h ⟨va_cnB n o8 (MC.good (M := M) hM) rfl rfl rfl (o9.2.1 _ _ _ _ hl) (o8 _ hM.2.1) hM.2.2.1 ⟨by show d' + 1 ≤ _; omega, by show 8 + (MI.nL M' + 11) + 36 * d' ≤ _; omega⟩, o8 _ hV, trivial⟩ (pre_of (as := As) o9 hW hS) rfl (by simpa using hn) hL.1 (by simp) (by rw [show (F0 (CX.m x) pc ls ((As.reverse ++ st).map (cvx (CX.cm x)))).monitorRoom = 0 from rfl, sw_cv]; omega) hd ⟨by omega, by omega⟩
  exact P.behind ok hS hL h1 h2 hb hgo0 (fun r σ' hk => hk)
theorem P.callIg {i n d' mc ms q : Nat} {M' : MI} {As : List Value} (hl : Cond.methodLink (MI.own M) i (MI.y M') ∈ TW) (hM : MC M' n) (hV : Cond.instanceMethod (MI.y M') ∈ TW) (hy : (MI.y M').name = "<init>") (hrt : MI.ret M' = none) (hd : decode (MI.cc M) pc = .ok (.invokespecial i, 3)) (hn : As.length = n) (hdd : d' + 1 ≤ d) (hst : sw st ≤ 8) (hb : mc ≤ b.1 ∧ ms ≤ b.2)
    (h : Call (CX.cm x) d' mc ms M' (vR q :: As) N σ (fun r σ' => P x d M Q (b.1 - mc, b.2 - ms) (pc + 3) L (r.toList ++ st) (N + mc) σ')) : P x d M Q b pc L (As.reverse ++ vR q :: st) N σ := by
  intro ok H locs cells slots ls hW hS hL h1 h2
  obtain ⟨o1, o2, o3, o4, o5, o6, o7, o8, o9, o10, o11, o12, o13, o14⟩ := id ok
  have hnl := hM.2.2.2.2.1
  have hcb := callB_of (R := CX.R x) (rm := Rm d' mc ms) (mc := mc) (ms := ms) (ws := wsM M') n o8 (MC.good (M := M) hM) rfl rfl rfl (o8 _ hM.2.1) (o8 _ hl) hM.2.2.1 ⟨by show d' + 1 ≤ _; omega, by show 8 + (MI.nL M' + 11) + 36 * d' ≤ _; omega⟩
  rw [hrt] at hcb
  have hgo0 := va_runI (cells := cells) (slots := slots) (locs := locs) (H := H) (below := CX.below x) (meth := CX.meth x) (e := CX.e x) (R := CX.R x) (As := As.map (cvx (CX.cm x))) (rest := st.map (cvx (CX.cm x))) (b := rho (CX.cm x) q) (own := MI.own M) (index := i) (n := n) (bytes := MI.cc M') (maxL := MI.nL M') (Ts := TW) (cc := MI.cc M) (nL := MI.nL M) (g := F0 (CX.m x) pc ls ((As.reverse ++ vR q :: st).map (cvx (CX.cm x))))
      ⟨o1, o2, o3, o6, o8⟩ h ⟨hcb, hy, o8 _ hV⟩ (pre_of (as := vR q :: As) o9 hW hS) rfl (by simpa using hn) hL.1 (by simp [cvv]) (by rw [show (F0 (CX.m x) pc ls ((As.reverse ++ vR q :: st).map (cvx (CX.cm x)))).monitorRoom = 0 from rfl, sw_cv]; omega) hd ⟨by omega, by omega⟩
  exact P.behind ok hS hL h1 h2 hb hgo0 (fun r σ' hk => hk)
theorem P.callINg {i n d' mc ms q : Nat} {M' : MI} {As : List Value} {host : String} (hl : Cond.methodLinkNest (MI.own M) i (MI.y M') host ∈ nestW) (hM : MC M' n) (hV : Cond.instanceMethod (MI.y M') ∈ TW) (hy : (MI.y M').name = "<init>") (hrt : MI.ret M' = none) (hd : decode (MI.cc M) pc = .ok (.invokespecial i, 3)) (hn : As.length = n) (hdd : d' + 1 ≤ d) (hst : sw st ≤ 8) (hb : mc ≤ b.1 ∧ ms ≤ b.2)
    (h : Call (CX.cm x) d' mc ms M' (vR q :: As) N σ (fun r σ' => P x d M Q (b.1 - mc, b.2 - ms) (pc + 3) L (r.toList ++ st) (N + mc) σ')) : P x d M Q b pc L (As.reverse ++ vR q :: st) N σ := by
  intro ok H locs cells slots ls hW hS hL h1 h2
  obtain ⟨o1, o2, o3, o4, o5, o6, o7, o8, o9, o10, o11, o12, o13, o14⟩ := id ok
  have hnl := hM.2.2.2.2.1
  have hcb := va_cnB (R := CX.R x) (rm := Rm d' mc ms) (mc := mc) (ms := ms) (ws := wsM M') n o8 (MC.good (M := M) hM) rfl rfl rfl (o9.2.1 _ _ _ _ hl) (o8 _ hM.2.1) hM.2.2.1 ⟨by show d' + 1 ≤ _; omega, by show 8 + (MI.nL M' + 11) + 36 * d' ≤ _; omega⟩
  rw [hrt] at hcb
  have hgo0 := va_runIN (cells := cells) (slots := slots) (locs := locs) (H := H) (below := CX.below x) (meth := CX.meth x) (e := CX.e x) (R := CX.R x) (As := As.map (cvx (CX.cm x))) (rest := st.map (cvx (CX.cm x))) (b := rho (CX.cm x) q) (own := MI.own M) (host := host) (index := i) (n := n) (bytes := MI.cc M') (maxL := MI.nL M') (Ts := TW) (cc := MI.cc M) (nL := MI.nL M) (g := F0 (CX.m x) pc ls ((As.reverse ++ vR q :: st).map (cvx (CX.cm x))))
      ⟨o1, o2, o3, o6, o8⟩ h ⟨hcb, hy, o8 _ hV⟩ (pre_of (as := vR q :: As) o9 hW hS) rfl (by simpa using hn) hL.1 (by simp [cvv]) (by rw [show (F0 (CX.m x) pc ls ((As.reverse ++ vR q :: st).map (cvx (CX.cm x)))).monitorRoom = 0 from rfl, sw_cv]; omega) hd ⟨by omega, by omega⟩
  exact P.behind ok hS hL h1 h2 hb hgo0 (fun r σ' hk => hk)
end
