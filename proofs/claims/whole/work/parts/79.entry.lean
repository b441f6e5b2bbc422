/-- the law's end -/
theorem law_end {cm : CM} {p : Program} {e : Env} {s : State} {m : MethodId} {b : Nat} {below : List Frame} {meth : Method} {c : Code} {Q : PQ} {bb : Nat × Nat} (hbase : CM.base cm = s.heap.size) (L : List (Option Value)) (N : Nat) (σ : PH) : P (cm, p, e, s, m, #[Value.ref b], below, meth, c, room_1, 600000, 7302250, lw_Z below #[Value.ref b] s) 12 mL_law Q bb 1012 L [vI 1] N σ := by
  intro ok H locs cells slots ls hW hS hL h1 h2
  have h1b : cells + bb.1 = 600000 := h1.2
  have h2b : slots + bb.2 ≤ 7302250 := h2
  refine va_forget (fun q hq => ?_) ?_
  · have h3 : CM.base cm ≤ q.base := hS.2.2 q hq
    show s.heap.size ≤ q.base
    omega
  refine W.widen (k := 600000) (n := 7302250) (by omega) (by omega) ?_
  exact lw_ret ok.1 ok.2.1 ok.2.2.2.1 ok.2.2.2.2.1 (dq dtL_law_10 32 rfl)
/-- from the entry, for every script of at most 2048 ints, the law comes to its end with true -/
theorem whole_start {p : Program} {e : Env} {s : State} {m : MethodId} {below : List Frame} {meth : Method} {c : Code} (l : Launch) (hflags : l.flags = flags0) {b L : Nat} {xs : Nat → Int32} (hL : L ≤ 2048) (C0 : lw_At p s m meth c b L xs) : W p l e room_1 s m #[Value.ref b] below meth c s.heap [] 0 0 (lw_Z below #[Value.ref b] s) (entryFrame m ([Value.ref b] : List Value).toArray 4) := by
  obtain ⟨hx, hb, hr, hml, hown, hts, hX, hbl, hlocks, hgv, hnm⟩ := id C0
  obtain ⟨dC, dI, cy, adK, adV, hE⟩ := EN_start l hts hgv
  have hgo := law_go (x := ((l, s.heap.size, dC, dI, cy, adK, adV, b), p, e, s, m, #[Value.ref b], below, meth, c, room_1, 600000, 7302250, lw_Z below #[Value.ref b] s)) (Q := fun _ _ => True) (n := L) (xs := xs) ⟨hX, hbl, hbl, hL⟩ (law_end rfl)
  have hlv := lv_entry ([.ref b]) (n := 4) (Nat.le_of_ble_eq_true rfl)
  rw [lg_entry_eq]
  generalize (lg_sl ([.ref b]) ++ List.replicate (4 - (lg_sl ([.ref b])).length) Slot.unset).toArray = ls at hlv ⊢
  have hLv : Lv (rho (l, s.heap.size, dC, dI, cy, adK, adV, b)) ls 4 [some (vR 2000), none, none, none] := Lv.entry (as := [vR 2000]) (nL := 4) (by
    show lv_has ls 4 (lv_args 0 [.ref (rho (l, s.heap.size, dC, dI, cy, adK, adV, b) 2000)])
    rw [rho_sc]
    exact hlv)
  exact hgo ⟨hx, hb, hml, hr, hlocks, hown, hnm, fun w hw => hts w (TW_lw hw), hE, Nat.le_of_ble_eq_true rfl, Nat.le_of_ble_eq_true rfl, Nat.le_refl _, Nat.le_refl _, fun h => absurd h (by decide), Nat.le_refl _⟩ s.heap [] 0 0 ls ⟨Nat.zero_le _, rfl, fun k q h => (by cases h), fun _ _ => rfl⟩ va_S.rf hLv ⟨rfl, rfl⟩ (Nat.le_of_ble_eq_true rfl)
