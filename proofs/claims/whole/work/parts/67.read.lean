/-! words; the reference's reading -/
theorem eqF_iff {f g : Int → Int} {a : Int} : ∀ (t : Nat) (k : Int), eqF f g a t k = true ↔ ∀ j : Int, k ≤ j → j < k + t → f (a + j) = g j := by
  intro t
  induction t with
  | zero => intro k; exact ⟨fun _ j h1 h2 => absurd h1 (by omega), fun _ => rfl⟩
  | succ t ih =>
    intro k
    show (decide (f (a + k) = g k) && eqF f g a t (k + 1)) = true ↔ _
    rw [Bool.and_eq_true, decide_eq_true_iff, ih (k + 1)]
    constructor
    · rintro ⟨h1, h2⟩ j h3 h4
      by_cases e : j = k
      · rw [e]; exact h1
      · exact h2 j (by omega) (by omega)
    · intro h
      exact ⟨h k (by omega) (by omega), fun j h1 h2 => h j (by omega) (by omega)⟩
theorem spB_iff {f : Int → Int} {u w : Int} {k : Nat} (hk : k < 4) : spB f u w k = true ↔ w - u = lnS k ∧ ∀ j : Int, 0 ≤ j → j < lnS k → f (u + j) = chS k j := by
  have hb := lnS_b hk
  unfold spB
  rw [Bool.and_eq_true, decide_eq_true_iff, eqF_iff]
  constructor
  · rintro ⟨h1, h2⟩
    exact ⟨h1, fun j h3 h4 => h2 j h3 (by omega)⟩
  · rintro ⟨h1, h2⟩
    exact ⟨h1, fun j h3 h4 => h2 j h3 (by omega)⟩
def ofS (k : Nat) : Int := [0, 3, 8, 13, 16].getD k 0
theorem ofS_s : ∀ k, k < 4 → ofS (k + 1) = ofS k + (lnS k + 1) := by decide +kernel
theorem ofS_b : ∀ k, k < 4 → 0 ≤ ofS k ∧ ofS k + lnS k ≤ 15 := by decide +kernel
theorem wdA_e : ∀ k, k < 4 → wdA (ofS k + lnS k) = 32 := by decide +kernel
theorem wdA_n : ∀ k : Nat, k < 4 → ∀ j : Nat, j < 4 → (j : Int) < lnS k → wdA (ofS k + (j : Int)) = chS k (j : Int) ∧ chS k (j : Int) ≠ 32 := by decide +kernel
theorem wdA_c {k : Nat} {j : Int} (hk : k < 4) (h0 : 0 ≤ j) (h1 : j < lnS k) : wdA (ofS k + j) = chS k j ∧ chS k j ≠ 32 := by
  have hb := lnS_b hk
  obtain ⟨n, rfl⟩ : ∃ n : Nat, j = n := ⟨j.toNat, by omega⟩
  exact wdA_n k hk n (by omega) h1
theorem wd_x {f : Int → Int} {u w D : Int} : (if spB f u w 3 = true then 3 else if spB f u w 2 = true then 2 else if spB f u w 1 = true then 1 else if spB f u w 0 = true then 0 else D) = if wdF f u w = -100000 then D else wdF f u w := by
  have l0 : lnS 0 = 2 := rfl
  have l1 : lnS 1 = 4 := rfl
  have l2 : lnS 2 = 4 := rfl
  have l3 : lnS 3 = 2 := rfl
  have c0 : chS 0 0 = 117 := by decide +kernel
  have c1 : chS 1 0 = 100 := by decide +kernel
  have c2 : chS 2 0 = 97 := by decide +kernel
  have c3 : chS 3 0 = 97 := by decide +kernel
  have i0 := spB_iff (f := f) (u := u) (w := w) (k := 0) (by omega)
  have i1 := spB_iff (f := f) (u := u) (w := w) (k := 1) (by omega)
  have i2 := spB_iff (f := f) (u := u) (w := w) (k := 2) (by omega)
  have i3 := spB_iff (f := f) (u := u) (w := w) (k := 3) (by omega)
  unfold wdF
  by_cases q0 : spB f u w 0 = true
  · have z0 := i0.mp q0
    have y0 := z0.2 0 (by omega) (by omega)
    have q1 : ¬ spB f u w 1 = true := fun z => by have := (i1.mp z).1; omega
    have q2 : ¬ spB f u w 2 = true := fun z => by have := (i2.mp z).1; omega
    have q3 : ¬ spB f u w 3 = true := fun z => by have := (i3.mp z).2 0 (by omega) (by omega); omega
    rw [if_neg q3, if_neg q2, if_neg q1, if_pos q0, if_pos q0, if_neg (by decide)]
  · rw [if_neg q0, if_neg q0]
    by_cases q1 : spB f u w 1 = true
    · have z1 := i1.mp q1
      have y1 := z1.2 0 (by omega) (by omega)
      have q2 : ¬ spB f u w 2 = true := fun z => by have := (i2.mp z).2 0 (by omega) (by omega); omega
      have q3 : ¬ spB f u w 3 = true := fun z => by have := (i3.mp z).1; omega
      rw [if_neg q3, if_neg q2, if_pos q1, if_pos q1, if_neg (by decide)]
    · rw [if_neg q1, if_neg q1]
      by_cases q2 : spB f u w 2 = true
      · have z2 := i2.mp q2
        have q3 : ¬ spB f u w 3 = true := fun z => by have := (i3.mp z).1; omega
        rw [if_neg q3, if_pos q2, if_pos q2, if_neg (by decide)]
      · rw [if_neg q2, if_neg q2]
        by_cases q3 : spB f u w 3 = true
        · rw [if_pos q3, if_pos q3, if_neg (by decide)]
        · rw [if_neg q3, if_neg q3, if_pos rfl]
/-- where a token ends -/
def bhF (f st : Int → Int) (n m i : Int) : Int := if i < m - 1 then tkE f n (st i) else n
/-- does the reading write? then what is read stands in the row; else all is as it was -/
def DV (dg p s : Int) (wf : Int → Int) (p0 s0 : Int) (wf0 : Int → Int) (v : MsV) : Prop := (dg = 0 ∧ p = p0 ∧ s = s0 ∧ wf = wf0) ∨ (dg = 1 ∧ p = v.1 ∧ s = v.2.1 ∧ Rw wf 0 v ∧ ∀ i : Int, 112 ≤ i → wf i = wf0 i)
def RS (f st : Int → Int) (n m u pk wm dg p0 s0 : Int) (wf0 : Int → Int) (σ : PH) (i : Int) (v : MsV) (cl nu : Int) : Prop := σ 87 = pcI 0 200 f ∧ σ 88 = pcI 0 16 wdA ∧ ∃ (p s : Int) (wf : Int → Int), σ 84 = mdO p s u n (st i) (bhF f st n m i) v.1 cl dg nu pk wm ∧ σ 85 = pcI 0 1404 wf ∧ DV dg p s wf p0 s0 wf0 v
theorem tok_b {f st kd vl : Int → Int} {n m i : Int} (hT : TK f n st kd vl m) (hi : 0 ≤ i ∧ i < m) (hn : 0 ≤ n) : (0 ≤ st i ∧ st i ≤ bhF f st n m i ∧ bhF f st n m i ≤ n) ∧ (i < m - 1 → st i < bhF f st n m i) ∧ (¬ i < m - 1 → st i = n ∧ bhF f st n m i = n) := by
  obtain ⟨h1, h2, h3, h4, h5, h6⟩ := hT
  unfold bhF
  by_cases e : i < m - 1
  · obtain ⟨⟨g1, g2, g3, g4, g5⟩, -⟩ := h3 i hi.1 e
    have := tkE_b (f := f) g2
    rw [if_pos e]
    exact ⟨by omega, fun _ => by omega, fun z => absurd e z⟩
  · obtain rfl : i = m - 1 := by omega
    rw [if_neg e, h4]
    exact ⟨by omega, fun z => absurd z e, fun _ => ⟨rfl, rfl⟩⟩
theorem tok_next {f st kd vl : Int → Int} {n m i : Int} (hT : TK f n st kd vl m) (hi : 0 ≤ i ∧ i < m) : skp f n (bhF f st n m i) = st (nx m i) ∧ (if st (nx m i) < n then tkE f n (st (nx m i)) else st (nx m i)) = bhF f st n m (nx m i) := by
  have hT0 := hT
  obtain ⟨h1, h2, h3, h4, h5, h6⟩ := hT
  by_cases e : i < m - 1
  · have en : nx m i = i + 1 := by unfold nx; rw [if_pos e]
    rw [en]
    refine ⟨?_, ?_⟩
    · unfold bhF; rw [if_pos e]; exact (h3 i hi.1 e).2.symm
    · unfold bhF
      by_cases e2 : i + 1 < m - 1
      · rw [if_pos e2, if_pos (h3 (i + 1) (by omega) e2).1.2.1]
      · rw [if_neg e2, show i + 1 = m - 1 by omega, h4, if_neg (by omega)]
  · have en : nx m i = i := by unfold nx; rw [if_neg e]
    obtain rfl : i = m - 1 := by omega
    rw [en]
    unfold bhF
    rw [if_neg e, h4]
    refine ⟨?_, by rw [if_neg (by omega)]⟩
    unfold skp
    exact rn_n (by omega)
theorem tok_0 {f st kd vl : Int → Int} {n m : Int} (hT : TK f n st kd vl m) : skp f n 0 = st 0 ∧ (if st 0 < n then tkE f n (st 0) else st 0) = bhF f st n m 0 := by
  obtain ⟨h1, h2, h3, h4, h5, h6⟩ := hT
  refine ⟨h2.symm, ?_⟩
  unfold bhF
  by_cases e2 : (0 : Int) < m - 1
  · rw [if_pos e2, if_pos (h3 0 (by omega) e2).1.2.1]
  · rw [if_neg e2, show (0 : Int) = m - 1 by omega, h4, if_neg (by omega)]
/-- what a token is, by its letters -/
theorem tok_k {f st kd vl : Int → Int} {n m i : Int} (hT : TK f n st kd vl m) (hi : 0 ≤ i ∧ i < m) : (st i = n → kd i = 0 ∧ vl i = 0) ∧ (st i < n → kd i = kdF f (st i) ∧ vl i = vlF f n (st i) ∧ bhF f st n m i = tkE f n (st i)) := by
  obtain ⟨h1, h2, h3, h4, h5, h6⟩ := hT
  by_cases e : i < m - 1
  · obtain ⟨⟨g1, g2, g3, g4, g5⟩, -⟩ := h3 i hi.1 e
    exact ⟨fun z => by omega, fun _ => ⟨g4, g5, by unfold bhF; rw [if_pos e]⟩⟩
  · obtain rfl : i = m - 1 := by omega
    exact ⟨fun _ => ⟨h5, h6⟩, fun z => by omega⟩
/-- which word a token is -/
def whF (f : Int → Int) (u w : Int) : Int := if wdF f u w = -100000 then -1 else wdF f u w
theorem wdF_r (f : Int → Int) (u w : Int) : wdF f u w = -100000 ∨ wdF f u w = 0 ∨ wdF f u w = 1 ∨ wdF f u w = 2 ∨ wdF f u w = 3 := by
  unfold wdF
  repeat' split
  all_goals omega
theorem whF_t {f st kd vl : Int → Int} {n m i : Int} (hT : TK f n st kd vl m) (hi : 0 ≤ i ∧ i < m) (hn : 0 ≤ n) : whF f (st i) (bhF f st n m i) = if kd i = 1 ∧ 0 ≤ vl i then vl i else -1 := by
  obtain ⟨b1, b2, b3⟩ := tok_b hT hi hn
  obtain ⟨t1, t2⟩ := tok_k hT hi
  have i0 := spB_iff (f := f) (u := st i) (w := bhF f st n m i) (k := 0) (by omega)
  have i1 := spB_iff (f := f) (u := st i) (w := bhF f st n m i) (k := 1) (by omega)
  have i2 := spB_iff (f := f) (u := st i) (w := bhF f st n m i) (k := 2) (by omega)
  have i3 := spB_iff (f := f) (u := st i) (w := bhF f st n m i) (k := 3) (by omega)
  have l0 : lnS 0 = 2 := rfl
  have l1 : lnS 1 = 4 := rfl
  have l2 : lnS 2 = 4 := rfl
  have l3 : lnS 3 = 2 := rfl
  have c0 : chS 0 0 = 117 := by decide +kernel
  have c1 : chS 1 0 = 100 := by decide +kernel
  have c2 : chS 2 0 = 97 := by decide +kernel
  have c3 : chS 3 0 = 97 := by decide +kernel
  have hr := wdF_r f (st i) (bhF f st n m i)
  by_cases hs : st i < n ∧ bS (f (st i)) = true
  · obtain ⟨k1, k2, k3⟩ := t2 hs.1
    have e1 : kd i = 1 := by rw [k1]; unfold kdF; rw [if_pos hs.2]
    have e2 : vl i = wdF f (st i) (bhF f st n m i) := by rw [k2, k3]; unfold vlF; rw [if_pos hs.2]
    unfold whF
    rw [e1, e2]
    rcases hr with h | h | h | h | h <;> rw [h] <;> decide
  · have no : ∀ k : Nat, k < 4 → ¬ spB f (st i) (bhF f st n m i) k = true := by
      intro k hk z
      have z2 := (spB_iff hk).mp z
      have hb := lnS_b hk
      have y := z2.2 0 (by omega) (by omega)
      rw [Int.add_zero] at y
      have hlt : st i < n := by omega
      refine hs ⟨hlt, ?_⟩
      unfold bS
      rw [y]
      match k, hk with
      | 0, _ => rw [c0]; rfl
      | 1, _ => rw [c1]; rfl
      | 2, _ => rw [c2]; rfl
      | 3, _ => rw [c3]; rfl
    have ew : wdF f (st i) (bhF f st n m i) = -100000 := by
      unfold wdF
      rw [if_neg (no 0 (by omega)), if_neg (no 1 (by omega)), if_neg (no 2 (by omega)), if_neg (no 3 (by omega))]
    unfold whF
    rw [if_pos ew]
    have ek : kd i ≠ 1 := by
      by_cases hlt : st i < n
      · rw [(t2 hlt).1]
        unfold kdF
        rw [if_neg (fun z => hs ⟨hlt, z⟩)]
        split <;> decide
      · rw [(t1 (by omega)).1]; decide
    rw [if_neg (fun z => ek z.1)]
