/-! pools: the last one first, each its sum and how many it has -/
def mrgA (t s : Int) : List (Int × Int) → List (Int × Int)
  | [] => [(t, s)]
  | (t0, s0) :: r => if t * s0 ≤ t0 * s then mrgA (t0 + t) (s0 + s) r else (t, s) :: (t0, s0) :: r
def pool (w : Int → Int) : Nat → List (Int × Int)
  | 0 => []
  | k + 1 => mrgA (w k) 1 (pool w k)
def szs : List (Int × Int) → Int
  | [] => 0
  | (_, s) :: r => s + szs r
def Rl (to si : Int → Int) : List (Int × Int) → Prop
  | [] => True
  | (t, s) :: r => to r.length = t ∧ si r.length = s ∧ Rl to si r
def RF (fi : Int → Int) : List (Int × Int) → Prop
  | [] => True
  | (_, _) :: r => fi r.length = szs r ∧ RF fi r
def GB (B : Int) : List (Int × Int) → Prop
  | [] => True
  | (t, s) :: r => (1 ≤ s ∧ -(B * s) ≤ t ∧ t ≤ B * s) ∧ GB B r
theorem szs_app : ∀ (t s : Int) (l : List (Int × Int)), szs (mrgA t s l) = s + szs l := by
  intro t s l
  induction l generalizing t s with
  | nil => simp [mrgA, szs]
  | cons a r ih =>
    obtain ⟨t0, s0⟩ := a
    unfold mrgA
    split
    · rw [ih]; simp only [szs]; omega
    · simp only [szs]
theorem pool_szs (w : Int → Int) : ∀ k : Nat, szs (pool w k) = k := by
  intro k
  induction k with
  | zero => rfl
  | succ k ih =>
    show szs (mrgA (w k) 1 (pool w k)) = _
    rw [szs_app, ih]
    omega
theorem GB_mrg {B : Int} : ∀ (t s : Int) (l : List (Int × Int)), (1 ≤ s ∧ -(B * s) ≤ t ∧ t ≤ B * s) → GB B l → GB B (mrgA t s l) := by
  intro t s l
  induction l generalizing t s with
  | nil => intro h _; exact ⟨h, trivial⟩
  | cons a r ih =>
    obtain ⟨t0, s0⟩ := a
    intro h h2
    obtain ⟨h3, h4⟩ := h2
    unfold mrgA
    split
    · refine ih _ _ ?_ h4
      rw [Int.mul_add]
      omega
    · exact ⟨h, h3, h4⟩
theorem pool_GB {B : Int} {w : Int → Int} : ∀ k : Nat, (∀ i : Nat, i < k → -B ≤ w i ∧ w i ≤ B) → GB B (pool w k) := by
  intro k
  induction k with
  | zero => intro _; trivial
  | succ k ih =>
    intro h
    refine GB_mrg _ _ _ ?_ (ih (fun i hi => h i (by omega)))
    have := h k (by omega)
    rw [Int.mul_one]
    omega
theorem GB_len {B : Int} : ∀ l : List (Int × Int), GB B l → (l.length : Int) ≤ szs l := by
  intro l
  induction l with
  | nil => intro _; simp [szs]
  | cons a r ih =>
    obtain ⟨t, s⟩ := a
    intro h
    have := ih h.2
    have := h.1.1
    simp only [szs, List.length_cons]
    omega
theorem Rl_up {to si : Int → Int} {j v j' v' : Int} : ∀ l : List (Int × Int), Rl to si l → (l.length : Int) ≤ j → (l.length : Int) ≤ j' → Rl (upI to j v) (upI si j' v') l := by
  intro l
  induction l with
  | nil => intro _ _ _; trivial
  | cons a r ih =>
    obtain ⟨t, s⟩ := a
    intro h h1 h2
    simp only [List.length_cons] at h1 h2
    refine ⟨?_, ?_, ih h.2.2 (by omega) (by omega)⟩
    · rw [upI_n (by omega)]; exact h.1
    · rw [upI_n (by omega)]; exact h.2.1
theorem RF_up {fi : Int → Int} {j v : Int} : ∀ l : List (Int × Int), RF fi l → (l.length : Int) ≤ j → RF (upI fi j v) l := by
  intro l
  induction l with
  | nil => intro _ _; trivial
  | cons a r ih =>
    obtain ⟨t, s⟩ := a
    intro h h1
    simp only [List.length_cons] at h1
    refine ⟨?_, ih h.2 (by omega)⟩
    rw [upI_n (by omega)]; exact h.1
theorem Rl_c {to si to' si' : Int → Int} : ∀ l : List (Int × Int), Rl to si l → (∀ i : Int, 0 ≤ i → i < l.length → to' i = to i ∧ si' i = si i) → Rl to' si' l := by
  intro l
  induction l with
  | nil => intro _ _; trivial
  | cons a r ih =>
    obtain ⟨t, s⟩ := a
    intro h h1
    simp only [List.length_cons] at h1
    have := h1 r.length (by omega) (by omega)
    exact ⟨this.1.trans h.1, this.2.trans h.2.1, ih h.2.2 (fun i h5 h6 => h1 i h5 (by omega))⟩
/-- two pictures of one list are alike -/
theorem Rl_eq {to si to' si' : Int → Int} : ∀ l : List (Int × Int), Rl to si l → Rl to' si' l → ∀ i : Int, 0 ≤ i → i < l.length → to i = to' i ∧ si i = si' i := by
  intro l
  induction l with
  | nil => intro _ _ i h1 h2; simp at h2; omega
  | cons a r ih =>
    obtain ⟨t, s⟩ := a
    intro h h' i h1 h2
    simp only [List.length_cons] at h2
    by_cases e : i = r.length
    · subst e
      exact ⟨h.1.trans h'.1.symm, h.2.1.trans h'.2.1.symm⟩
    · exact ih h.2.2 h'.2.2 i h1 (by omega)
theorem Rl_GB {to si : Int → Int} {B : Int} : ∀ l : List (Int × Int), Rl to si l → GB B l → ∀ i : Int, 0 ≤ i → i < l.length → 1 ≤ si i ∧ -(B * si i) ≤ to i ∧ to i ≤ B * si i := by
  intro l
  induction l with
  | nil => intro _ _ i h1 h2; simp at h2; omega
  | cons a r ih =>
    obtain ⟨t, s⟩ := a
    intro h hg i h1 h2
    simp only [List.length_cons] at h2
    by_cases e : i = r.length
    · subst e
      rw [h.1, h.2.1]
      exact hg.1
    · exact ih h.2.2 hg.2 i h1 (by omega)
theorem Rl_sum {to si : Int → Int} : ∀ l : List (Int × Int), Rl to si l → szs l = sumF si 0 l.length := by
  intro l
  induction l with
  | nil => intro _; rfl
  | cons a r ih =>
    obtain ⟨t, s⟩ := a
    intro h
    show s + szs r = sumF si 0 r.length + si (0 + r.length)
    rw [Int.zero_add, h.2.1, ih h.2.2]
    omega
theorem RF_sum {to si fi : Int → Int} : ∀ l : List (Int × Int), Rl to si l → RF fi l → ∀ j : Nat, j < l.length → fi j = sumF si 0 j := by
  intro l
  induction l with
  | nil => intro _ _ j hj; simp at hj
  | cons a r ih =>
    obtain ⟨t, s⟩ := a
    intro h hf j hj
    simp only [List.length_cons] at hj
    by_cases e : j = r.length
    · subst e
      rw [hf.1, Rl_sum r h.2.2]
    · exact ih h.2.2 hf.2 j (by omega)
theorem sumF_mono {si : Int → Int} {m : Nat} (h : ∀ i : Int, 0 ≤ i → i < m → 1 ≤ si i) : ∀ j k : Nat, j ≤ k → k ≤ m → sumF si 0 j + (k - j : Int) ≤ sumF si 0 k := by
  intro j k hjk
  induction k with
  | zero => intro _; obtain rfl : j = 0 := by omega
            simp
  | succ k ih =>
    intro hk
    by_cases e : j = k + 1
    · subst e; simp
    · have h1 := ih (by omega) (by omega)
      have h2 := h (0 + k) (by omega) (by omega)
      show sumF si 0 j + (((k + 1 : Nat) : Int) - j) ≤ sumF si 0 k + si (0 + k)
      omega
/-- the pool of a place -/
def PO (pf si : Int → Int) (m : Nat) : Prop := ∀ (j : Nat) (k : Int), j < m → 0 ≤ k → k < si j → pf (sumF si 0 j + k) = j
/-- every place stands in a pool -/
theorem in_pool {si : Int → Int} : ∀ (m : Nat), (∀ i : Int, 0 ≤ i → i < m → 1 ≤ si i) → ∀ p : Int, 0 ≤ p → p < sumF si 0 m → ∃ j : Nat, j < m ∧ sumF si 0 j ≤ p ∧ p < sumF si 0 j + si j := by
  intro m
  induction m with
  | zero => intro _ p h1 h2; simp [sumF] at h2; omega
  | succ m ih =>
    intro h p h1 h2
    by_cases e : p < sumF si 0 m
    · obtain ⟨j, q1, q2, q3⟩ := ih (fun i g1 g2 => h i g1 (by omega)) p h1 e
      exact ⟨j, by omega, q2, q3⟩
    · refine ⟨m, by omega, by omega, ?_⟩
      have : sumF si 0 (m + 1) = sumF si 0 m + si (0 + m) := rfl
      rw [Int.zero_add] at this
      omega
theorem PO_at {pf si : Int → Int} {m : Nat} (h : PO pf si m) {p : Int} {j : Nat} (hj : j < m) (h1 : sumF si 0 j ≤ p) (h2 : p < sumF si 0 j + si j) : pf p = j := by
  have := h j (p - sumF si 0 j) hj (by omega) (by omega)
  rwa [show sumF si 0 j + (p - sumF si 0 j) = p by omega] at this
