/-! reading: over tokens, each its kind and its value -/
def nx (m i : Int) : Int := if i < m - 1 then i + 1 else i
def addM (v : MsV) (t z : Int) : MsV := (v.1, v.2.1, addC v.2.2.1 t, addE v.2.2.1 v.2.2.2 t z)
def pNum (kd vl : Int → Int) (m lo hi i : Int) : Int × Int := if kd i = 2 ∧ lo ≤ vl i ∧ vl i ≤ hi then (vl i, nx m i) else (-1, i)
def pSg (kd vl : Int → Int) (m i : Int) : Int := if kd i = 3 ∧ vl i = 45 then nx m i else i
def pErr (kd vl : Int → Int) (m k w i : Int) (v : MsV) : Int × Int × MsV :=
  if (pNum kd vl m 0 40 (pSg kd vl m i)).1 = -1 then (0, (pNum kd vl m 0 40 (pSg kd vl m i)).2, v)
  else (1, (pNum kd vl m 0 40 (pSg kd vl m i)).2, addM v (k * 2 + w) (if kd i = 3 ∧ vl i = 45 then -(pNum kd vl m 0 40 (pSg kd vl m i)).1 else (pNum kd vl m 0 40 (pSg kd vl m i)).1))
def pRow (kd vl : Int → Int) (m w : Int) : Nat → Int → Int → MsV → Int × Int × MsV
  | 0, _, i, v => (1, i, v)
  | t + 1, k, i, v => if (pErr kd vl m k w i v).1 = 0 then pErr kd vl m k w i v else pRow kd vl m w t (k + 1) (pErr kd vl m k w i v).2.1 (pErr kd vl m k w i v).2.2
def pAxis (bg : (Int → Int) → Int → Int) (kd vl : Int → Int) (m i : Int) (v : MsV) : Int × Int × MsV :=
  if (pNum kd vl m 2 8 i).1 = -1 then (0, (pNum kd vl m 2 8 i).2, v)
  else if (pNum kd vl m 10 99 (pNum kd vl m 2 8 i).2).1 = -1 then (0, (pNum kd vl m 10 99 (pNum kd vl m 2 8 i).2).2, v)
  else (1, (pNum kd vl m 10 99 (pNum kd vl m 2 8 i).2).2, ((pNum kd vl m 2 8 i).1, (pNum kd vl m 10 99 (pNum kd vl m 2 8 i).2).1, (fun _ => 0), bg v.2.2.2))
def pOne (kd vl : Int → Int) (m i : Int) (v : MsV) : Int × Int × MsV :=
  if (pNum kd vl m 0 (v.1 - 1) i).1 = -1 then (0, (pNum kd vl m 0 (v.1 - 1) i).2, v)
  else if kd (pNum kd vl m 0 (v.1 - 1) i).2 = 1 ∧ (vl (pNum kd vl m 0 (v.1 - 1) i).2 = 0 ∨ vl (pNum kd vl m 0 (v.1 - 1) i).2 = 1) then pErr kd vl m (pNum kd vl m 0 (v.1 - 1) i).1 (vl (pNum kd vl m 0 (v.1 - 1) i).2) (nx m (pNum kd vl m 0 (v.1 - 1) i).2) v
  else (0, (pNum kd vl m 0 (v.1 - 1) i).2, v)
def pCl (bg : (Int → Int) → Int → Int) (kd vl : Int → Int) (m i : Int) (v : MsV) : Int × Int × MsV :=
  if kd i = 1 ∧ (vl i = 0 ∨ vl i = 1) then pRow kd vl m (vl i) v.1.toNat 0 (nx m i) v
  else if kd i = 1 ∧ vl i = 2 then pAxis bg kd vl m (nx m i) v
  else if kd i = 1 ∧ vl i = 3 then pOne kd vl m (nx m i) v else (0, i, v)
/-- the whole text: 1 or 0, the token, what is measured then, the clauses -/
def pTx (bg : (Int → Int) → Int → Int) (kd vl : Int → Int) (m : Int) : Nat → Int → Int → MsV → Int × Int × MsV × Int
  | 0, c, i, v => (0, i, v, c)
  | t + 1, c, i, v => if (pCl bg kd vl m i v).1 = 0 then (0, (pCl bg kd vl m i v).2.1, (pCl bg kd vl m i v).2.2, c)
    else if kd (pCl bg kd vl m i v).2.1 = 0 then (1, (pCl bg kd vl m i v).2.1, (pCl bg kd vl m i v).2.2, c)
    else if ¬ (kd (pCl bg kd vl m i v).2.1 = 3 ∧ vl (pCl bg kd vl m i v).2.1 = 59) ∨ c = 24 then (0, (pCl bg kd vl m i v).2.1, (pCl bg kd vl m i v).2.2, c)
    else pTx bg kd vl m t (c + 1) (nx m (pCl bg kd vl m i v).2.1) (pCl bg kd vl m i v).2.2
/-- tokens are within -/
def TKr (st kd vl : Int → Int) (m : Int) : Prop := (1 ≤ m ∧ m ≤ 201) ∧ ∀ i : Int, 0 ≤ i → i < m → (0 ≤ st i ∧ st i ≤ 200) ∧ (0 ≤ kd i ∧ kd i ≤ 3) ∧ -100000 ≤ vl i ∧ vl i ≤ 255
theorem nx_b {m i : Int} (h : 0 ≤ i ∧ i < m) : 0 ≤ nx m i ∧ nx m i < m := by unfold nx; split <;> omega
theorem pNum_b {kd vl : Int → Int} {m lo hi i : Int} (h : 0 ≤ i ∧ i < m) : 0 ≤ (pNum kd vl m lo hi i).2 ∧ (pNum kd vl m lo hi i).2 < m := by
  unfold pNum; split
  · exact nx_b h
  · exact h
theorem pNum_v {kd vl : Int → Int} {m lo hi i : Int} (h : (pNum kd vl m lo hi i).1 ≠ -1) : lo ≤ (pNum kd vl m lo hi i).1 ∧ (pNum kd vl m lo hi i).1 ≤ hi := by
  unfold pNum at h ⊢; split
  · next h1 => rw [if_pos h1] at h; exact h1.2
  · next h1 => rw [if_neg h1] at h; exact absurd rfl h
theorem pSg_b {kd vl : Int → Int} {m i : Int} (h : 0 ≤ i ∧ i < m) : 0 ≤ pSg kd vl m i ∧ pSg kd vl m i < m := by
  unfold pSg; split
  · exact nx_b h
  · exact h
theorem pErr_b {kd vl : Int → Int} {m k w i : Int} {v : MsV} (h : 0 ≤ i ∧ i < m) : 0 ≤ (pErr kd vl m k w i v).2.1 ∧ (pErr kd vl m k w i v).2.1 < m := by
  unfold pErr; split <;> exact pNum_b (pSg_b h)
theorem GMs_add {v : MsV} {t z : Int} (h : GMs v) (ht : 0 ≤ t ∧ t < 16) (hz : -40 ≤ z ∧ z ≤ 40) : GMs (addM v t z) := by
  refine ⟨h.1, h.2.1, fun u h0 h1 => ?_⟩
  obtain ⟨g1, g2⟩ := h.2.2 u h0 h1
  obtain ⟨g3, g4⟩ := h.2.2 t ht.1 ht.2
  show (0 ≤ addC v.2.2.1 t u ∧ addC v.2.2.1 t u ≤ 6) ∧ ∀ j : Int, 0 ≤ j ∧ j < addC v.2.2.1 t u → -40 ≤ addE v.2.2.1 v.2.2.2 t z (u * 6 + j) ∧ addE v.2.2.1 v.2.2.2 t z (u * 6 + j) ≤ 40
  by_cases e : u = t
  · subst e
    have eC : addC v.2.2.1 u u = if 6 ≤ v.2.2.1 u then 6 else v.2.2.1 u + 1 := upI_s
    rw [eC]
    refine ⟨by split <;> omega, fun j hj => ?_⟩
    unfold addE
    by_cases e6 : 6 ≤ v.2.2.1 u
    · rw [if_pos e6]
      rw [if_pos e6] at hj
      by_cases ej : j = 5
      · rw [ej, upI_s]; exact hz
      · rw [upI_n (by omega)]
        unfold cpI
        rw [if_pos (by omega)]
        have := g2 (j + 1) (by omega)
        rwa [show u * 6 + 1 + (u * 6 + j - u * 6) = u * 6 + (j + 1) by omega]
    · rw [if_neg e6]
      rw [if_neg e6] at hj
      by_cases ej : j = v.2.2.1 u
      · rw [ej, upI_s]; exact hz
      · rw [upI_n (by omega)]
        exact g2 j (by omega)
  · have eC : addC v.2.2.1 t u = v.2.2.1 u := upI_n e
    rw [eC]
    refine ⟨g1, fun j hj => ?_⟩
    have hE : addE v.2.2.1 v.2.2.2 t z (u * 6 + j) = v.2.2.2 (u * 6 + j) := by
      unfold addE
      split
      · rw [upI_n (by omega)]
        unfold cpI
        rw [if_neg (by omega)]
      · rw [upI_n (by omega)]
    rw [hE]
    exact g2 j hj
theorem pErr_G {kd vl : Int → Int} {m k w i : Int} {v : MsV} (hG : GMs v) (hk : 0 ≤ k ∧ k < v.1) (hw : w = 0 ∨ w = 1) : GMs (pErr kd vl m k w i v).2.2 ∧ (pErr kd vl m k w i v).2.2.1 = v.1 := by
  unfold pErr
  split
  · exact ⟨hG, rfl⟩
  · next h =>
    have hv := hG.1
    have := pNum_v h
    exact ⟨GMs_add hG (by omega) (by split <;> omega), rfl⟩
theorem pRow_b {kd vl : Int → Int} {m w : Int} : ∀ (t : Nat) (k i : Int) (v : MsV), (0 ≤ i ∧ i < m) → 0 ≤ (pRow kd vl m w t k i v).2.1 ∧ (pRow kd vl m w t k i v).2.1 < m := by
  intro t
  induction t with
  | zero => intro k i v h; exact h
  | succ t ih =>
    intro k i v h
    unfold pRow
    split
    · exact pErr_b h
    · exact ih _ _ _ (pErr_b h)
theorem pRow_G {kd vl : Int → Int} {m w : Int} (hw : w = 0 ∨ w = 1) : ∀ (t : Nat) (k i : Int) (v : MsV), GMs v → 0 ≤ k → k + t ≤ v.1 → GMs (pRow kd vl m w t k i v).2.2 := by
  intro t
  induction t with
  | zero => intro k i v h _ _; exact h
  | succ t ih =>
    intro k i v h h0 h1
    obtain ⟨g1, g2⟩ := pErr_G (kd := kd) (vl := vl) (m := m) (k := k) (i := i) h ⟨h0, by omega⟩ hw
    unfold pRow
    split
    · exact g1
    · exact ih _ _ _ g1 (by omega) (by rw [g2]; omega)
theorem pAxis_b {bg : (Int → Int) → Int → Int} {kd vl : Int → Int} {m i : Int} {v : MsV} (h : 0 ≤ i ∧ i < m) : 0 ≤ (pAxis bg kd vl m i v).2.1 ∧ (pAxis bg kd vl m i v).2.1 < m := by
  unfold pAxis; split
  · exact pNum_b h
  · split <;> exact pNum_b (pNum_b h)
theorem pAxis_G {bg : (Int → Int) → Int → Int} {kd vl : Int → Int} {m i : Int} {v : MsV} (hG : GMs v) : GMs (pAxis bg kd vl m i v).2.2 := by
  unfold pAxis; split
  · exact hG
  · next h1 =>
    split
    · exact hG
    · next h2 => exact ⟨pNum_v h1, pNum_v h2, fun t _ _ => ⟨by show (0 : Int) ≤ 0 ∧ (0 : Int) ≤ 6; omega, fun j hj => absurd hj (by show ¬ (0 ≤ j ∧ j < (0 : Int)); omega)⟩⟩
theorem pOne_b {kd vl : Int → Int} {m i : Int} {v : MsV} (h : 0 ≤ i ∧ i < m) : 0 ≤ (pOne kd vl m i v).2.1 ∧ (pOne kd vl m i v).2.1 < m := by
  unfold pOne; split
  · exact pNum_b h
  · split
    · exact pErr_b (nx_b (pNum_b h))
    · exact pNum_b h
theorem pOne_G {kd vl : Int → Int} {m i : Int} {v : MsV} (hG : GMs v) : GMs (pOne kd vl m i v).2.2 := by
  unfold pOne; split
  · exact hG
  · next h1 =>
    split
    · next h2 => exact (pErr_G hG (by have := pNum_v h1; omega) h2.2).1
    · exact hG
theorem pCl_b {bg : (Int → Int) → Int → Int} {kd vl : Int → Int} {m i : Int} {v : MsV} (h : 0 ≤ i ∧ i < m) : 0 ≤ (pCl bg kd vl m i v).2.1 ∧ (pCl bg kd vl m i v).2.1 < m := by
  unfold pCl; split
  · exact pRow_b _ _ _ _ (nx_b h)
  · split
    · exact pAxis_b (nx_b h)
    · split
      · exact pOne_b (nx_b h)
      · exact h
theorem pCl_G {bg : (Int → Int) → Int → Int} {kd vl : Int → Int} {m i : Int} {v : MsV} (hG : GMs v) : GMs (pCl bg kd vl m i v).2.2 := by
  unfold pCl; split
  · next h1 => exact pRow_G h1.2 _ _ _ _ hG (by omega) (by have := hG.1; omega)
  · split
    · exact pAxis_G hG
    · split
      · exact pOne_G hG
      · exact hG
theorem pTx_G {bg : (Int → Int) → Int → Int} {kd vl : Int → Int} {m : Int} : ∀ (t : Nat) (c i : Int) (v : MsV), GMs v → GMs (pTx bg kd vl m t c i v).2.2.1 := by
  intro t
  induction t with
  | zero => intro c i v h; exact h
  | succ t ih =>
    intro c i v h
    have := pCl_G (bg := bg) (kd := kd) (vl := vl) (m := m) (i := i) h
    unfold pTx; split
    · exact this
    · split
      · exact this
      · split
        · exact this
        · exact ih _ _ _ this
