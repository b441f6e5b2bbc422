section
variable {x : CX} {d : Nat} {M : MI} {Q : PQ} {b : Nat × Nat} {pc : Nat} {L : List (Option Value)} {st : List Value} {N : Nat} {σ : PH}
theorem P.callV0 {i d' q ci : Nat} {M' : MI} {fs : List Value} {T : u_T} {nf : Nat}  (hl : Cond.methodLink (MI.own M) i (MI.y M') ∈ TW) (hM : MC M' 0) (hV : MV M') (hd : decode (MI.cc M) pc = .ok (.invokevirtual i, 3)) (hdd : d' + 1 ≤ d) (hst : sw st ≤ 8) (he : σ q = pcO ci fs) (hci : vwCl[ci]? = some (MI.own M', T, nf)) (h : Call (CX.cm x) d' 0 0 M' (vR q :: []) N σ (fun r σ' => P x d M Q b (pc + 3) L (r.toList ++ st) N σ')) : P x d M Q b pc L (vR q :: st) N σ :=
  P.callVg (As := []) (mc := 0) (ms := 0) hl hM hV hd rfl hdd hst ⟨Nat.zero_le _, Nat.zero_le _⟩ he hci h
theorem P.callV1 {i d' q ci : Nat} {M' : MI} {fs : List Value} {T : u_T} {nf : Nat} {v1 : Value} (hl : Cond.methodLink (MI.own M) i (MI.y M') ∈ TW) (hM : MC M' 1) (hV : MV M') (hd : decode (MI.cc M) pc = .ok (.invokevirtual i, 3)) (hdd : d' + 1 ≤ d) (hst : sw st ≤ 8) (he : σ q = pcO ci fs) (hci : vwCl[ci]? = some (MI.own M', T, nf)) (h : Call (CX.cm x) d' 0 0 M' (vR q :: [v1]) N σ (fun r σ' => P x d M Q b (pc + 3) L (r.toList ++ st) N σ')) : P x d M Q b pc L (v1 :: vR q :: st) N σ :=
  P.callVg (As := [v1]) (mc := 0) (ms := 0) hl hM hV hd rfl hdd hst ⟨Nat.zero_le _, Nat.zero_le _⟩ he hci h
theorem P.callS1 {i d' : Nat} {M' : MI} {v1 : Value} (hl : Cond.methodLink (MI.own M) i (MI.y M') ∈ TW) (hM : MC M' 1) (hV : Cond.static (MI.y M') ∈ TW) (hd : decode (MI.cc M) pc = .ok (.invokestatic i, 3)) (hdd : d' + 1 ≤ d) (hst : sw st ≤ 8) (h : Call (CX.cm x) d' 0 0 M' [v1] N σ (fun r σ' => P x d M Q b (pc + 3) L (r.toList ++ st) N σ')) : P x d M Q b pc L (v1 :: st) N σ :=
  P.callSg (As := [v1]) (mc := 0) (ms := 0) hl hM hV hd rfl hdd hst ⟨Nat.zero_le _, Nat.zero_le _⟩ h
theorem P.callSN1 {i d' : Nat} {M' : MI} {host : String} {v1 : Value} (hl : Cond.methodLinkNest (MI.own M) i (MI.y M') host ∈ nestW) (hM : MC M' 1) (hV : Cond.static (MI.y M') ∈ TW) (hd : decode (MI.cc M) pc = .ok (.invokestatic i, 3)) (hdd : d' + 1 ≤ d) (hst : sw st ≤ 8) (h : Call (CX.cm x) d' 0 0 M' [v1] N σ (fun r σ' => P x d M Q b (pc + 3) L (r.toList ++ st) N σ')) : P x d M Q b pc L (v1 :: st) N σ :=
  P.callSNg (As := [v1]) (mc := 0) (ms := 0) hl hM hV hd rfl hdd hst ⟨Nat.zero_le _, Nat.zero_le _⟩ h
theorem P.callV2 {i d' q ci : Nat} {M' : MI} {fs : List Value} {T : u_T} {nf : Nat} {v1 v2 : Value} (hl : Cond.methodLink (MI.own M) i (MI.y M') ∈ TW) (hM : MC M' 2) (hV : MV M') (hd : decode (MI.cc M) pc = .ok (.invokevirtual i, 3)) (hdd : d' + 1 ≤ d) (hst : sw st ≤ 8) (he : σ q = pcO ci fs) (hci : vwCl[ci]? = some (MI.own M', T, nf)) (h : Call (CX.cm x) d' 0 0 M' (vR q :: [v1, v2]) N σ (fun r σ' => P x d M Q b (pc + 3) L (r.toList ++ st) N σ')) : P x d M Q b pc L (v2 :: v1 :: vR q :: st) N σ :=
  P.callVg (As := [v1, v2]) (mc := 0) (ms := 0) hl hM hV hd rfl hdd hst ⟨Nat.zero_le _, Nat.zero_le _⟩ he hci h
theorem P.callS2 {i d' : Nat} {M' : MI} {v1 v2 : Value} (hl : Cond.methodLink (MI.own M) i (MI.y M') ∈ TW) (hM : MC M' 2) (hV : Cond.static (MI.y M') ∈ TW) (hd : decode (MI.cc M) pc = .ok (.invokestatic i, 3)) (hdd : d' + 1 ≤ d) (hst : sw st ≤ 8) (h : Call (CX.cm x) d' 0 0 M' [v1, v2] N σ (fun r σ' => P x d M Q b (pc + 3) L (r.toList ++ st) N σ')) : P x d M Q b pc L (v2 :: v1 :: st) N σ :=
  P.callSg (As := [v1, v2]) (mc := 0) (ms := 0) hl hM hV hd rfl hdd hst ⟨Nat.zero_le _, Nat.zero_le _⟩ h
theorem P.callSN2 {i d' : Nat} {M' : MI} {host : String} {v1 v2 : Value} (hl : Cond.methodLinkNest (MI.own M) i (MI.y M') host ∈ nestW) (hM : MC M' 2) (hV : Cond.static (MI.y M') ∈ TW) (hd : decode (MI.cc M) pc = .ok (.invokestatic i, 3)) (hdd : d' + 1 ≤ d) (hst : sw st ≤ 8) (h : Call (CX.cm x) d' 0 0 M' [v1, v2] N σ (fun r σ' => P x d M Q b (pc + 3) L (r.toList ++ st) N σ')) : P x d M Q b pc L (v2 :: v1 :: st) N σ :=
  P.callSNg (As := [v1, v2]) (mc := 0) (ms := 0) hl hM hV hd rfl hdd hst ⟨Nat.zero_le _, Nat.zero_le _⟩ h
theorem P.callV3 {i d' q ci : Nat} {M' : MI} {fs : List Value} {T : u_T} {nf : Nat} {v1 v2 v3 : Value} (hl : Cond.methodLink (MI.own M) i (MI.y M') ∈ TW) (hM : MC M' 3) (hV : MV M') (hd : decode (MI.cc M) pc = .ok (.invokevirtual i, 3)) (hdd : d' + 1 ≤ d) (hst : sw st ≤ 8) (he : σ q = pcO ci fs) (hci : vwCl[ci]? = some (MI.own M', T, nf)) (h : Call (CX.cm x) d' 0 0 M' (vR q :: [v1, v2, v3]) N σ (fun r σ' => P x d M Q b (pc + 3) L (r.toList ++ st) N σ')) : P x d M Q b pc L (v3 :: v2 :: v1 :: vR q :: st) N σ :=
  P.callVg (As := [v1, v2, v3]) (mc := 0) (ms := 0) hl hM hV hd rfl hdd hst ⟨Nat.zero_le _, Nat.zero_le _⟩ he hci h
theorem P.callS3 {i d' : Nat} {M' : MI} {v1 v2 v3 : Value} (hl : Cond.methodLink (MI.own M) i (MI.y M') ∈ TW) (hM : MC M' 3) (hV : Cond.static (MI.y M') ∈ TW) (hd : decode (MI.cc M) pc = .ok (.invokestatic i, 3)) (hdd : d' + 1 ≤ d) (hst : sw st ≤ 8) (h : Call (CX.cm x) d' 0 0 M' [v1, v2, v3] N σ (fun r σ' => P x d M Q b (pc + 3) L (r.toList ++ st) N σ')) : P x d M Q b pc L (v3 :: v2 :: v1 :: st) N σ :=
  P.callSg (As := [v1, v2, v3]) (mc := 0) (ms := 0) hl hM hV hd rfl hdd hst ⟨Nat.zero_le _, Nat.zero_le _⟩ h
theorem P.callSN3 {i d' : Nat} {M' : MI} {host : String} {v1 v2 v3 : Value} (hl : Cond.methodLinkNest (MI.own M) i (MI.y M') host ∈ nestW) (hM : MC M' 3) (hV : Cond.static (MI.y M') ∈ TW) (hd : decode (MI.cc M) pc = .ok (.invokestatic i, 3)) (hdd : d' + 1 ≤ d) (hst : sw st ≤ 8) (h : Call (CX.cm x) d' 0 0 M' [v1, v2, v3] N σ (fun r σ' => P x d M Q b (pc + 3) L (r.toList ++ st) N σ')) : P x d M Q b pc L (v3 :: v2 :: v1 :: st) N σ :=
  P.callSNg (As := [v1, v2, v3]) (mc := 0) (ms := 0) hl hM hV hd rfl hdd hst ⟨Nat.zero_le _, Nat.zero_le _⟩ h
theorem P.callV4 {i d' q ci : Nat} {M' : MI} {fs : List Value} {T : u_T} {nf : Nat} {v1 v2 v3 v4 : Value} (hl : Cond.methodLink (MI.own M) i (MI.y M') ∈ TW) (hM : MC M' 4) (hV : MV M') (hd : decode (MI.cc M) pc = .ok (.invokevirtual i, 3)) (hdd : d' + 1 ≤ d) (hst : sw st ≤ 8) (he : σ q = pcO ci fs) (hci : vwCl[ci]? = some (MI.own M', T, nf)) (h : Call (CX.cm x) d' 0 0 M' (vR q :: [v1, v2, v3, v4]) N σ (fun r σ' => P x d M Q b (pc + 3) L (r.toList ++ st) N σ')) : P x d M Q b pc L (v4 :: v3 :: v2 :: v1 :: vR q :: st) N σ :=
  P.callVg (As := [v1, v2, v3, v4]) (mc := 0) (ms := 0) hl hM hV hd rfl hdd hst ⟨Nat.zero_le _, Nat.zero_le _⟩ he hci h
theorem P.callS4 {i d' : Nat} {M' : MI} {v1 v2 v3 v4 : Value} (hl : Cond.methodLink (MI.own M) i (MI.y M') ∈ TW) (hM : MC M' 4) (hV : Cond.static (MI.y M') ∈ TW) (hd : decode (MI.cc M) pc = .ok (.invokestatic i, 3)) (hdd : d' + 1 ≤ d) (hst : sw st ≤ 8) (h : Call (CX.cm x) d' 0 0 M' [v1, v2, v3, v4] N σ (fun r σ' => P x d M Q b (pc + 3) L (r.toList ++ st) N σ')) : P x d M Q b pc L (v4 :: v3 :: v2 :: v1 :: st) N σ :=
  P.callSg (As := [v1, v2, v3, v4]) (mc := 0) (ms := 0) hl hM hV hd rfl hdd hst ⟨Nat.zero_le _, Nat.zero_le _⟩ h
theorem P.callSN4 {i d' : Nat} {M' : MI} {host : String} {v1 v2 v3 v4 : Value} (hl : Cond.methodLinkNest (MI.own M) i (MI.y M') host ∈ nestW) (hM : MC M' 4) (hV : Cond.static (MI.y M') ∈ TW) (hd : decode (MI.cc M) pc = .ok (.invokestatic i, 3)) (hdd : d' + 1 ≤ d) (hst : sw st ≤ 8) (h : Call (CX.cm x) d' 0 0 M' [v1, v2, v3, v4] N σ (fun r σ' => P x d M Q b (pc + 3) L (r.toList ++ st) N σ')) : P x d M Q b pc L (v4 :: v3 :: v2 :: v1 :: st) N σ :=
  P.callSNg (As := [v1, v2, v3, v4]) (mc := 0) (ms := 0) hl hM hV hd rfl hdd hst ⟨Nat.zero_le _, Nat.zero_le _⟩ h
end
/-- Math.max, walked -/
theorem ct_try {x : CM} {d N : Nat} {σ : PH} {Q : PQ} {a c : Int} (ha : inR a) (hc : inR c) (h : Q (some (vI (if c ≤ a then a else c))) σ) : Call x d 0 0 mJ9_max_7cf53 [vI a, vI c] N σ Q := by
  refine Call.of mcJ9_max_7cf53 (Nat.le_of_ble_eq_true rfl) (fun y hy => ?_)
  subst hy
  refine P.iload_n (dq dtJ9_max_7cf53 0 rfl) rfl ?_
  refine P.iload_n (dq dtJ9_max_7cf53 1 rfl) rfl ?_
  refine P.icmp_lt (t := 9) (dq dtJ9_max_7cf53 2 rfl) rfl ha hc (fun h1 => ?_) (fun h1 => ?_)
  · refine P.iload_n (dq dtJ9_max_7cf53 5 rfl) rfl ?_
    rw [if_neg (by omega)] at h
    exact P.iret (dq dtJ9_max_7cf53 6 rfl) rfl rfl rfl h
  · refine P.iload_n (dq dtJ9_max_7cf53 3 rfl) rfl ?_
    refine P.goto (t := 10) (dq dtJ9_max_7cf53 4 rfl) rfl ?_
    rw [if_pos (by omega)] at h
    exact P.iret (dq dtJ9_max_7cf53 6 rfl) rfl rfl rfl h
