/-! what is reckoned, as functions of what is measured -/
def GMs (v : MsV) : Prop := (2 ≤ v.1 ∧ v.1 ≤ 8) ∧ (10 ≤ v.2.1 ∧ v.2.1 ≤ 99) ∧ ∀ t : Int, 0 ≤ t → t < 16 → (0 ≤ v.2.2.1 t ∧ v.2.2.1 t ≤ 6) ∧ ∀ j : Int, 0 ≤ j ∧ j < v.2.2.1 t → -40 ≤ v.2.2.2 (t * 6 + j) ∧ v.2.2.2 (t * 6 + j) ≤ 40
abbrev mm (v : MsV) : Int → Int := m60 v.2.2.1 v.2.2.2
def wnt (v : MsV) : Int → Int := fun k => 120 * k * v.2.1 - (mm v (k * 2 + 0) + mm v (k * 2 + 1))
def plT (m : Int → Int) : Nat → Int
  | 0 => 0
  | k + 1 => plT m k + (m ((k : Int) * 2 + 0) - m ((k : Int) * 2 + 1))
def tabF (g : Int → Int) : Nat → Int
  | 0 => g 0
  | k + 1 => if g ((k + 1 : Nat) : Int) ≤ tabF g k then tabF g k + 1 else g ((k + 1 : Nat) : Int)
theorem tdiv_s {a c b : Int} (hc : 0 < c) (h1 : -(b * c) ≤ a) (h2 : a ≤ b * c) : -b ≤ a.tdiv c ∧ a.tdiv c ≤ b := by
  obtain ⟨g1, g2⟩ := tdiv_b (a := a) hc
  rcases Int.lt_or_le a 0 with h | h
  · obtain ⟨q1, q2, q3⟩ := g2 h
    have hb : 0 ≤ b := by
      rcases Int.lt_or_le b 0 with hb | hb
      · have := Int.mul_neg_of_neg_of_pos hb hc
        omega
      · exact hb
    refine ⟨?_, by omega⟩
    rcases Int.lt_or_le (a.tdiv c) (-b) with hx | hx
    · have : (a.tdiv c) * c ≤ (-b - 1) * c := Int.mul_le_mul_of_nonneg_right (by omega) (by omega)
      rw [Int.sub_mul, Int.neg_mul] at this
      omega
    · exact hx
  · obtain ⟨q1, q2, q3⟩ := g1 h
    have hb : 0 ≤ b := by
      rcases Int.lt_or_le b 0 with hb | hb
      · have := Int.mul_neg_of_neg_of_pos hb hc
        omega
      · exact hb
    refine ⟨by omega, ?_⟩
    rcases Int.lt_or_le b (a.tdiv c) with hx | hx
    · have : (b + 1) * c ≤ (a.tdiv c) * c := Int.mul_le_mul_of_nonneg_right (by omega) (by omega)
      rw [Int.add_mul] at this
      omega
    · exact hx
theorem mm_b {v : MsV} (h : GMs v) {t : Int} (h0 : 0 ≤ t) (h1 : t < 16) : -2400 ≤ mm v t ∧ mm v t ≤ 2400 := by
  obtain ⟨g1, g2⟩ := h.2.2 t h0 h1
  unfold mm m60
  split
  · omega
  · have hs := sumF_b (f := v.2.2.2) (a := t * 6) (c := 40) (by omega) (v.2.2.1 t).toNat (fun k hk => g2 k (by omega))
    exact tdiv_s (by omega) (by omega) (by omega)
theorem mul_bd {k s : Int} (h0 : 0 ≤ k) (h1 : k ≤ 7) (h2 : 10 ≤ s) (h3 : s ≤ 99) : 0 ≤ k * s ∧ k * s ≤ 693 := by
  have e1 := Int.mul_nonneg h0 (show 0 ≤ s by omega)
  have e2 : k * s ≤ 7 * s := Int.mul_le_mul_of_nonneg_right h1 (by omega)
  omega
theorem wnt_b {v : MsV} (h : GMs v) {k : Int} (h0 : 0 ≤ k) (h1 : k < 8) : -90000 ≤ wnt v k ∧ wnt v k ≤ 90000 := by
  have e1 := mm_b h (t := k * 2 + 0) (by omega) (by omega)
  have e2 := mm_b h (t := k * 2 + 1) (by omega) (by omega)
  have e3 := mul_bd h0 (by omega) h.2.1.1 h.2.1.2
  unfold wnt
  rw [Int.mul_assoc]
  omega
theorem plT_b {m : Int → Int} : ∀ k : Nat, (∀ t : Int, 0 ≤ t → t < 2 * k → -2400 ≤ m t ∧ m t ≤ 2400) → -(4800 * (k : Int)) ≤ plT m k ∧ plT m k ≤ 4800 * k := by
  intro k
  induction k with
  | zero => intro _; simp [plT]
  | succ k ih =>
    intro h
    have h1 := ih (fun t g1 g2 => h t g1 (by omega))
    have h2 := h ((k : Int) * 2 + 0) (by omega) (by omega)
    have h3 := h ((k : Int) * 2 + 1) (by omega) (by omega)
    show -(4800 * ((k + 1 : Nat) : Int)) ≤ plT m k + (m ((k : Int) * 2 + 0) - m ((k : Int) * 2 + 1)) ∧ plT m k + (m ((k : Int) * 2 + 0) - m ((k : Int) * 2 + 1)) ≤ 4800 * ((k + 1 : Nat) : Int)
    omega
theorem plT_c {m m' : Int → Int} : ∀ k : Nat, (∀ t : Int, 0 ≤ t → t < 2 * k → m t = m' t) → plT m k = plT m' k := by
  intro k
  induction k with
  | zero => intro _; rfl
  | succ k ih =>
    intro h
    show plT m k + _ = plT m' k + _
    rw [ih (fun t g1 g2 => h t g1 (by omega)), h _ (by omega) (by omega), h _ (by omega) (by omega)]
theorem pool_c {w w' : Int → Int} : ∀ k : Nat, (∀ i : Nat, i < k → w i = w' i) → pool w k = pool w' k := by
  intro k
  induction k with
  | zero => intro _; rfl
  | succ k ih =>
    intro h
    show mrgA (w k) 1 (pool w k) = mrgA (w' k) 1 (pool w' k)
    rw [ih (fun i hi => h i (by omega)), h k (by omega)]
theorem tabF_c {g g' : Int → Int} : ∀ k : Nat, (∀ i : Nat, i ≤ k → g i = g' i) → tabF g k = tabF g' k := by
  intro k
  induction k with
  | zero => intro h; exact h 0 (by omega)
  | succ k ih =>
    intro h
    show (if g ((k + 1 : Nat) : Int) ≤ tabF g k then tabF g k + 1 else g ((k + 1 : Nat) : Int)) = (if g' ((k + 1 : Nat) : Int) ≤ tabF g' k then tabF g' k + 1 else g' ((k + 1 : Nat) : Int))
    rw [ih (fun i hi => h i (by omega)), h (k + 1) (by omega)]
theorem tabF_b {g : Int → Int} {lo hi : Int} : ∀ k : Nat, (∀ i : Nat, i ≤ k → lo ≤ g i ∧ g i ≤ hi) → lo ≤ tabF g k ∧ tabF g k ≤ hi + k := by
  intro k
  induction k with
  | zero => intro h; have := h 0 (by omega); show lo ≤ g 0 ∧ g 0 ≤ hi + ((0 : Nat) : Int); simp at this ⊢; omega
  | succ k ih =>
    intro h
    have h1 := ih (fun i hi => h i (by omega))
    have h2 := h (k + 1) (by omega)
    show lo ≤ (if g ((k + 1 : Nat) : Int) ≤ tabF g k then tabF g k + 1 else g ((k + 1 : Nat) : Int)) ∧ (if g ((k + 1 : Nat) : Int) ≤ tabF g k then tabF g k + 1 else g ((k + 1 : Nat) : Int)) ≤ hi + ((k + 1 : Nat) : Int)
    split <;> omega
theorem near_b {a c b : Int} (hc : 0 < c) (hb : 0 ≤ b) (h1 : -(b * c) ≤ a) (h2 : a ≤ b * c) : -b - 1 ≤ near a c ∧ near a c ≤ b + 1 := by
  rw [near_eq hc]
  constructor
  · refine (Int.le_ediv_iff_mul_le (by omega)).mpr ?_
    have e : (-b - 1) * (2 * c) = -(2 * (b * c)) - 2 * c := by
      rw [Int.sub_mul, Int.neg_mul, Int.mul_left_comm]; omega
    rw [e]; omega
  · have : (2 * a + c - 1) / (2 * c) < b + 2 := by
      refine (Int.ediv_lt_iff_lt_mul (by omega)).mpr ?_
      have e : (b + 2) * (2 * c) = 2 * (b * c) + 4 * c := by
        rw [Int.add_mul, Int.mul_left_comm]; omega
      rw [e]; omega
    omega
