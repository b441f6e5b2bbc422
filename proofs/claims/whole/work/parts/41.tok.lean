/-! tokens of a text -/
def bS (c : Int) : Bool := decide (97 ≤ c ∧ c ≤ 122)
def bD (c : Int) : Bool := decide (48 ≤ c ∧ c ≤ 57)
def bB (c : Int) : Bool := decide (c = 32)
def rnE (pr : Int → Bool) (f : Int → Int) (n : Int) : Nat → Int → Int
  | 0, k => k
  | t + 1, k => if k < n ∧ pr (f k) = true then rnE pr f n t (k + 1) else k
/-- where a run ends -/
def rn (pr : Int → Bool) (f : Int → Int) (n k : Int) : Int := rnE pr f n (n - k).toNat k
theorem rn_y {pr : Int → Bool} {f : Int → Int} {n k : Int} (h : k < n) (hp : pr (f k) = true) : rn pr f n k = rn pr f n (k + 1) := by
  unfold rn
  obtain ⟨t, ht⟩ : ∃ t : Nat, (n - k).toNat = t + 1 := ⟨(n - k).toNat - 1, by omega⟩
  rw [ht, show (n - (k + 1)).toNat = t by omega]
  show (if k < n ∧ pr (f k) = true then rnE pr f n t (k + 1) else k) = _
  rw [if_pos ⟨h, hp⟩]
theorem rn_n {pr : Int → Bool} {f : Int → Int} {n k : Int} (h : ¬ (k < n ∧ pr (f k) = true)) : rn pr f n k = k := by
  unfold rn
  cases ht : (n - k).toNat with
  | zero => rfl
  | succ t =>
    show (if k < n ∧ pr (f k) = true then rnE pr f n t (k + 1) else k) = k
    rw [if_neg h]
theorem rn_b {pr : Int → Bool} {f : Int → Int} {n : Int} : ∀ (t : Nat) (k : Int), n - k ≤ t → k ≤ rn pr f n k ∧ (k ≤ n → rn pr f n k ≤ n) := by
  intro t
  induction t with
  | zero => intro k h; rw [rn_n (by omega)]; omega
  | succ t ih =>
    intro k h
    by_cases hc : k < n ∧ pr (f k) = true
    · rw [rn_y hc.1 hc.2]
      have := ih (k + 1) (by omega)
      omega
    · rw [rn_n hc]; omega
theorem rn_bd {pr : Int → Bool} {f : Int → Int} {n k : Int} : k ≤ rn pr f n k ∧ (k ≤ n → rn pr f n k ≤ n) := rn_b (n - k).toNat k (by omega)
theorem rn_end {pr : Int → Bool} {f : Int → Int} {n : Int} : ∀ (t : Nat) (k : Int), n - k ≤ t → ¬ (rn pr f n k < n ∧ pr (f (rn pr f n k)) = true) := by
  intro t
  induction t with
  | zero => intro k h; rw [rn_n (by omega)]; omega
  | succ t ih =>
    intro k h
    by_cases hc : k < n ∧ pr (f k) = true
    · rw [rn_y hc.1 hc.2]
      exact ih (k + 1) (by omega)
    · rw [rn_n hc]; exact hc
theorem rn_all {pr : Int → Bool} {f : Int → Int} {n : Int} : ∀ (t : Nat) (k : Int), n - k ≤ t → ∀ i : Int, k ≤ i → i < rn pr f n k → pr (f i) = true := by
  intro t
  induction t with
  | zero => intro k h i h1 h2; rw [rn_n (by omega)] at h2; omega
  | succ t ih =>
    intro k h i h1 h2
    by_cases hc : k < n ∧ pr (f k) = true
    · by_cases e : i = k
      · rw [e]; exact hc.2
      · rw [rn_y hc.1 hc.2] at h2
        exact ih (k + 1) (by omega) i (by omega) h2
    · rw [rn_n hc] at h2; omega
def tkE (f : Int → Int) (n k : Int) : Int := if bS (f k) = true then rn bS f n (k + 1) else if bD (f k) = true then rn bD f n (k + 1) else k + 1
def skp (f : Int → Int) (n k : Int) : Int := rn bB f n k
def nmF (f : Int → Int) (k e : Int) : Int := if k < e ∧ e - k ≤ 2 then dgF f (e - k).toNat k 0 else -1
def kdF (f : Int → Int) (k : Int) : Int := if bS (f k) = true then 1 else if bD (f k) = true then 2 else 3
def vlF (f : Int → Int) (n k : Int) : Int := if bS (f k) = true then wdF f k (tkE f n k) else if bD (f k) = true then nmF f k (tkE f n k) else f k
/-- a token that is no end -/
def TK1 (f : Int → Int) (n : Int) (st kd vl : Int → Int) (i : Int) : Prop := 0 ≤ st i ∧ st i < n ∧ f (st i) ≠ 32 ∧ kd i = kdF f (st i) ∧ vl i = vlF f n (st i)
def TK (f : Int → Int) (n : Int) (st kd vl : Int → Int) (m : Int) : Prop := (1 ≤ m ∧ m ≤ n + 1) ∧ st 0 = skp f n 0 ∧ (∀ i : Int, 0 ≤ i → i < m - 1 → TK1 f n st kd vl i ∧ st (i + 1) = skp f n (tkE f n (st i))) ∧ st (m - 1) = n ∧ kd (m - 1) = 0 ∧ vl (m - 1) = 0
theorem tkE_b {f : Int → Int} {n k : Int} (h : k < n) : k < tkE f n k ∧ tkE f n k ≤ n := by
  unfold tkE
  have h1 := rn_bd (pr := bS) (f := f) (n := n) (k := k + 1)
  have h2 := rn_bd (pr := bD) (f := f) (n := n) (k := k + 1)
  split
  · omega
  · split <;> omega
theorem wdF_b (f : Int → Int) (u w : Int) : -100000 ≤ wdF f u w ∧ wdF f u w ≤ 3 := by
  unfold wdF
  repeat' split
  all_goals omega
theorem dgF_b {f : Int → Int} {k v : Int} (hv : 0 ≤ v ∧ v ≤ 9) : ∀ t : Nat, t ≤ 1 → -1 ≤ dgF f t k v ∧ dgF f t k v ≤ 99 := by
  intro t ht
  match t, ht with
  | 0, _ => show -1 ≤ v ∧ v ≤ 99; omega
  | 1, _ =>
    show -1 ≤ (if 48 ≤ f k ∧ f k ≤ 57 then 10 * v + f k - 48 else -1) ∧ (if 48 ≤ f k ∧ f k ≤ 57 then 10 * v + f k - 48 else -1) ≤ 99
    split <;> omega
theorem nmF_b (f : Int → Int) (k e : Int) : -1 ≤ nmF f k e ∧ nmF f k e ≤ 99 := by
  unfold nmF
  split
  · next h =>
    obtain ⟨t, ht⟩ : ∃ t : Nat, (e - k).toNat = t + 1 := ⟨(e - k).toNat - 1, by omega⟩
    rw [ht]
    show -1 ≤ (if 48 ≤ f k ∧ f k ≤ 57 then dgF f t (k + 1) (10 * 0 + f k - 48) else -1) ∧ (if 48 ≤ f k ∧ f k ≤ 57 then dgF f t (k + 1) (10 * 0 + f k - 48) else -1) ≤ 99
    split
    · exact dgF_b (by omega) t (by omega)
    · omega
  · omega
theorem TK.r {f : Int → Int} {n : Int} {st kd vl : Int → Int} {m : Int} (h : TK f n st kd vl m) (hn : 0 ≤ n ∧ n ≤ 200) (hf : ∀ i : Int, 0 ≤ i ∧ i < n → 0 ≤ f i ∧ f i ≤ 255) : TKr st kd vl m := by
  obtain ⟨h1, h2, h3, h4, h5, h6⟩ := h
  refine ⟨by omega, fun i h0 hi => ?_⟩
  by_cases e : i = m - 1
  · rw [e, h4, h5, h6]; omega
  · obtain ⟨⟨g1, g2, g3, g4, g5⟩, -⟩ := h3 i h0 (by omega)
    rw [g4, g5]
    have hfi := hf (st i) (by omega)
    refine ⟨by omega, by unfold kdF; repeat' split; all_goals omega, ?_⟩
    unfold vlF
    have := wdF_b f (st i) (tkE f n (st i))
    have := nmF_b f (st i) (tkE f n (st i))
    repeat' split
    all_goals omega
