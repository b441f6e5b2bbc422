/-! rows as lists; the sheet; counts and places -/
def Rp (f : Int → Int) (l : List Int) : Prop := ∀ i : Nat, i < l.length → f i = l.getD i 0
theorem Rp_nil {f : Int → Int} : Rp f [] := fun i h => absurd h (by simp)
theorem Rp_put {f : Int → Int} {l : List Int} {c : Int} (h : Rp f l) : Rp (upI f l.length c) (l ++ [c]) := by
  intro i hi
  simp only [List.length_append, List.length_singleton] at hi
  by_cases e : i = l.length
  · subst e
    rw [upI_s]
    simp
  · rw [upI_n (by omega), h i (by omega)]
    simp only [List.getD_eq_getElem?_getD]
    rw [List.getElem?_append_left (by omega)]
def digs (v : Int) : List Int := if v < 10 then [48 + v] else if v < 100 then [48 + v / 10, 48 + v % 10] else if v < 1000 then [48 + v / 100, 48 + v / 10 % 10, 48 + v % 10] else [48 + v / 1000, 48 + v / 100 % 10, 48 + v / 10 % 10, 48 + v % 10]
theorem digs_len (v : Int) : 1 ≤ (digs v).length ∧ (digs v).length ≤ 4 := by
  unfold digs
  split
  · simp
  · split
    · simp
    · split <;> simp
def offL (co : Int → Int) (s k : Int) : List Int := digs k ++ [58] ++ [if co k - k * s < 0 then 45 else 43] ++ digs (if 0 ≤ co k - k * s then co k - k * s else -(co k - k * s)) ++ [59]
def shL (co : Int → Int) (s : Int) : Nat → List Int
  | 0 => []
  | k + 1 => shL co s k ++ offL co s k
def shA (co : Int → Int) (s p pl : Int) : List Int := shL co s p.toNat ++ [112] ++ digs pl
theorem offL_len (co : Int → Int) (s k : Int) : (offL co s k).length ≤ 11 := by
  unfold offL
  have h1 := digs_len k
  have h2 := digs_len (if 0 ≤ co k - k * s then co k - k * s else -(co k - k * s))
  simp only [List.length_append, List.length_singleton]
  omega
theorem offL_len2 (co : Int → Int) (s k : Int) (hk : k < 10) : (offL co s k).length ≤ 8 := by
  unfold offL
  have h1 : (digs k).length = 1 := by unfold digs; rw [if_pos hk]; rfl
  have h2 := digs_len (if 0 ≤ co k - k * s then co k - k * s else -(co k - k * s))
  simp only [List.length_append, List.length_singleton]
  omega
theorem shL_len (co : Int → Int) (s : Int) : ∀ k : Nat, k ≤ 10 → (shL co s k).length ≤ 8 * k := by
  intro k
  induction k with
  | zero => intro _; simp [shL]
  | succ k ih =>
    intro h
    have := offL_len2 co s k (by omega)
    have := ih (by omega)
    show (shL co s k ++ offL co s k).length ≤ _
    rw [List.length_append]
    omega
def cntF (co : Int → Int) (p s x : Int) : Int := co (min (x / s) (p - 2)) + ((co (min (x / s) (p - 2) + 1) - co (min (x / s) (p - 2))) * (x - min (x / s) (p - 2) * s)) / s
/-- the place of the greatest, the first of like ones; and it -/
def wst (a : Int → Int) : Nat → Int × Int
  | 0 => (0, -1)
  | k + 1 => if (wst a k).2 < a k then ((k : Int), a k) else wst a k
def absI (z : Int) : Int := if 0 ≤ z then z else -z
/-- MISS, sixty times, of a point and way -/
def misF (me co : Int → Int) (s pl k w : Int) : Int := me (k * 2 + w) + 60 * (co k - k * s + if w = 1 then pl else 0)
def plF (co : Int → Int) (s y : Int) : Nat → Int → Int
  | 0, _ => -100000
  | t + 1, k => if y ≤ co (k + 1) then k * s - (-(y - co k) * s) / (co (k + 1) - co k) else plF co s y t (k + 1)
def srF (f : Int → Int) (y : Int) : Nat → Int → Int
  | 0, _ => -100000
  | t + 1, x => if y ≤ f x then x else srF f y t (x + 1)
/-- a table: bounds, rising -/
def TB (co : Int → Int) (p : Int) : Prop := (∀ k : Int, 0 ≤ k → k < p → -751 ≤ co k ∧ co k ≤ 760) ∧ ∀ k : Int, 0 ≤ k → k + 1 < p → co k + 1 ≤ co (k + 1)
theorem FgR.tb {v : MsV} {F : FgV} (hG : GMs v) (h : FgR v F) : TB F.2.2.2.2.2.2 v.1 := by
  have hpb := h.pb hG
  have hv := hG.1
  have hco := h.2.2.2.2.2
  refine ⟨fun k h0 h1 => ?_, fun k h0 h1 => ?_⟩
  · obtain ⟨n, rfl⟩ : ∃ n : Nat, k = n := ⟨k.toNat, by omega⟩
    rw [hco n h1]
    have := tabF_b (g := gF F.2.2.2.2.1 F.2.2.2.1 F.2.2.2.2.2.1) (lo := -751) (hi := 751) n (fun i hi => gF_b hpb (by omega) (by omega))
    omega
  · obtain ⟨n, rfl⟩ : ∃ n : Nat, k = n := ⟨k.toNat, by omega⟩
    have e1 := hco n (by omega)
    have e2 := hco (n + 1) (by omega)
    rw [e1, show ((n : Int) + 1) = ((n + 1 : Nat) : Int) by omega, e2]
    show tabF _ n + 1 ≤ (if _ ≤ tabF _ n then tabF _ n + 1 else _)
    split <;> omega
theorem div_bd {x s p : Int} (h0 : 0 ≤ x) (h1 : x ≤ (p - 1) * s) (hs : 0 < s) (hp : 2 ≤ p) : 0 ≤ min (x / s) (p - 2) ∧ min (x / s) (p - 2) ≤ p - 2 ∧ 0 ≤ x - min (x / s) (p - 2) * s ∧ x - min (x / s) (p - 2) * s ≤ s := by
  have e0 := Int.ediv_nonneg h0 (by omega : 0 ≤ s)
  have e1 := Int.mul_ediv_add_emod x s
  have e2 := Int.emod_nonneg x (by omega : s ≠ 0)
  have e3 := Int.emod_lt_of_pos x hs
  rw [Int.mul_comm] at e1
  rcases Int.le_total (x / s) (p - 2) with h | h
  · rw [Int.min_eq_left h]
    omega
  · rw [Int.min_eq_right h]
    have e4 : (p - 2) * s ≤ x / s * s := Int.mul_le_mul_of_nonneg_right h (by omega)
    have e5 : (p - 1) * s = (p - 2) * s + s := by
      rw [show p - 1 = (p - 2) + 1 by omega, Int.add_mul, Int.one_mul]
    omega
