/-! whole numbers as the machine's ints: every int is iI z; sums, differences, products need no bound; compares, quotients, places do -/
def iI (z : Int) : Int32 := Int32.ofInt z
def lL (z : Int) : Int64 := Int64.ofInt z
abbrev inR (z : Int) : Prop := -2147483648 ≤ z ∧ z < 2147483648
theorem iI_add (a b : Int) : iI a + iI b = iI (a + b) := (Int32.ofInt_add a b).symm
theorem iI_sub (a b : Int) : iI a - iI b = iI (a - b) := (Int32.ofInt_sub a b).symm
theorem iI_mul (a b : Int) : iI a * iI b = iI (a * b) := (Int32.ofInt_mul a b).symm
theorem iI_neg (a : Int) : -iI a = iI (-a) := (Int32.ofInt_neg a).symm
theorem iI_of (x : Int32) : iI x.toInt = x := Int32.ofInt_toInt x
theorem iI_toInt {z : Int} (h : inR z) : (iI z).toInt = z := Int32.toInt_ofInt_of_le (by have := h.1; omega) (by have := h.2; omega)
theorem inR_toInt (x : Int32) : inR x.toInt := by
  have h1 := Int32.le_toInt x
  have h2 := Int32.toInt_lt x
  unfold inR
  constructor <;> omega
theorem iI_inj {a b : Int} (ha : inR a) (hb : inR b) : iI a = iI b ↔ a = b := by
  constructor
  · intro h
    rw [← iI_toInt ha, ← iI_toInt hb, h]
  · intro h; rw [h]
theorem iI_lt {a b : Int} (ha : inR a) (hb : inR b) : iI a < iI b ↔ a < b := by
  rw [Int32.lt_iff_toInt_lt, iI_toInt ha, iI_toInt hb]
theorem iI_le {a b : Int} (ha : inR a) (hb : inR b) : iI a ≤ iI b ↔ a ≤ b := by
  rw [Int32.le_iff_toInt_le, iI_toInt ha, iI_toInt hb]
theorem iI_zero : iI 0 = 0 := rfl
theorem inR_0 : inR 0 := by unfold inR; omega
theorem iI_div {a b : Int} (ha : inR a) (hb : inR b) : iI a / iI b = iI (a.tdiv b) := by
  apply Int32.toInt.inj
  rw [Int32.toInt_div, iI_toInt ha, iI_toInt hb]
  unfold iI
  rw [Int32.toInt_ofInt]
theorem iI_rem {a b : Int} (ha : inR a) (hb : inR b) : iI a - iI a / iI b * iI b = iI (a.tmod b) := by
  rw [iI_div ha hb, iI_mul, iI_sub]
  congr 1
  have := Int.tmod_add_mul_tdiv a b
  rw [Int.mul_comm] at this
  omega
theorem iI_clamp {z : Int} (h : inR z) : (iI z).toNatClampNeg = z.toNat := by
  show (iI z).toInt.toNat = _
  rw [iI_toInt h]
theorem iI_in {z : Int} {n : Nat} (h0 : 0 ≤ z) (h1 : z < n) (hR : inR z) : vp_in (iI z) n := by
  rw [vp_in_iff, iI_toInt hR]; exact ⟨h0, h1⟩
theorem nI_iI (n : Nat) : nI n = iI n := by
  unfold nI iI
  exact Int32.ofInt_eq_ofNat.symm
theorem iI_long {z : Int} (h : inR z) : (iI z).toInt64 = lL z := by
  apply Int64.toInt.inj
  rw [Int32.toInt_toInt64, iI_toInt h]
  unfold lL
  obtain ⟨h1, h2⟩ := h
  rw [Int64.toInt_ofInt_of_le (by omega) (by omega)]
theorem lL_toInt {z : Int} (h : inR z) : (lL z).toInt = z := by
  obtain ⟨h1, h2⟩ := h
  exact Int64.toInt_ofInt_of_le (by omega) (by omega)
theorem lL_cmp {a b : Int} (ha : inR a) (hb : inR b) : lg_cmp (lL a) (lL b) = iI (if b < a then 1 else if a = b then 0 else -1) := by
  unfold lg_cmp
  have e1 : (lL a > lL b) ↔ b < a := by
    show lL b < lL a ↔ _
    rw [Int64.lt_iff_toInt_lt, lL_toInt ha, lL_toInt hb]
  have e2 : (lL a = lL b) ↔ a = b := by
    constructor
    · intro h; rw [← lL_toInt ha, ← lL_toInt hb, h]
    · intro h; rw [h]
  by_cases h1 : b < a
  · rw [if_pos (e1.mpr h1), if_pos h1]; rfl
  · rw [if_neg (fun h => h1 (e1.mp h)), if_neg h1]
    by_cases h2 : a = b
    · rw [if_pos (e2.mpr h2), if_pos h2]; rfl
    · rw [if_neg (fun h => h2 (e2.mp h)), if_neg h2]; rfl
def upI {α : Type} (f : Int → α) (k : Int) (x : α) : Int → α := fun j => if j = k then x else f j
theorem upI_s {α : Type} {f : Int → α} {k : Int} {x : α} : upI f k x k = x := if_pos rfl
theorem upI_n {α : Type} {f : Int → α} {k j : Int} {x : α} (h : j ≠ k) : upI f k x j = f j := if_neg h
/-! the pure heap: places 0, 1 .. ; an int array (kind, length, numbers), an array of references (kind, length, places), an object (class, fields) -/
abbrev PC : Type := (Nat × Nat × ((Int → Int) ⊕ (Int → Option Nat))) ⊕ (Nat × List Value)
abbrev PH : Type := Nat → PC
abbrev pcI (t n : Nat) (f : Int → Int) : PC := .inl (t, n, .inl f)
abbrev pcR (t n : Nat) (g : Int → Option Nat) : PC := .inl (t, n, .inr g)
abbrev pcO (ci : Nat) (fs : List Value) : PC := .inr (ci, fs)
abbrev vI (z : Int) : Value := .int (iI z)
abbrev vL (z : Int) : Value := .long (lL z)
abbrev vR (k : Nat) : Value := .ref k
def up (σ : PH) (q : Nat) (e : PC) : PH := fun j => if j = q then e else σ j
theorem up_s {σ : PH} {q : Nat} {e : PC} : up σ q e q = e := if_pos rfl
theorem up_n {σ : PH} {q j : Nat} {e : PC} (h : j ≠ q) : up σ q e j = σ j := if_neg h
theorem up_up {σ : PH} {q : Nat} {e e' : PC} : up (up σ q e) q e' = up σ q e' := by
  funext j; unfold up; split <;> simp_all
theorem up_id {σ : PH} {q : Nat} {e : PC} (h : σ q = e) : up σ q e = σ := by
  funext j; unfold up; split
  · next h1 => rw [h1, h]
  · rfl
def cvv (ρ : Nat → Nat) : Value → Value
  | .ref k => .ref (ρ k)
  | v => v
theorem cvv_cat (ρ : Nat → Nat) (v : Value) : (cvv ρ v).category = v.category := by cases v <;> rfl
def cE (ρ : Nat → Nat) (cy : Nat → ClassId) : PC → va_E
  | .inl (t, n, .inl f) => .inl (cy t, n, .inl (fun j : Nat => iI (f (j : Int))))
  | .inl (t, n, .inr g) => .inl (cy t, n, .inr (.inr (.inr (.inr (fun j : Nat => (g (j : Int)).map ρ)))))
  | .inr (ci, fs) => .inr (ci, fs.map (cvv ρ))
/-! locals: a row with holes -/
def Lv (ρ : Nat → Nat) (ls : Array Slot) (nL : Nat) (L : List (Option Value)) : Prop :=
  ls.size = nL ∧ lv_wf ls ∧ ∀ (i : Nat) (v : Value), L[i]? = some (some v) → ls[i]? = some (.val (cvv ρ v))
def noLong (L : List (Option Value)) : Bool := L.all fun o => match o with
  | some (.long _) => false
  | some (.double _) => false
  | _ => true
def aL (ρ : Nat → Nat) (L : List (Option Value)) : List (Nat × Value) := (List.range L.length).filterMap fun i => match L[i]? with
  | some (some v) => some (i, cvv ρ v)
  | _ => none
theorem aL_mem {ρ : Nat → Nat} {L : List (Option Value)} {q : Nat × Value} : q ∈ aL ρ L ↔ ∃ v, L[q.1]? = some (some v) ∧ q.2 = cvv ρ v := by
  unfold aL
  rw [List.mem_filterMap]
  constructor
  · rintro ⟨i, -, h⟩
    split at h
    · next v hv => cases h; exact ⟨v, hv, rfl⟩
    · cases h
  · rintro ⟨v, h1, h2⟩
    refine ⟨q.1, List.mem_range.mpr (List.getElem?_eq_some_iff.mp h1).1, ?_⟩
    rw [h1]
    show some (q.1, cvv ρ v) = some q
    rw [← h2]
theorem Lv.has {ρ : Nat → Nat} {ls : Array Slot} {nL : Nat} {L : List (Option Value)} (h : Lv ρ ls nL L) : lv_has ls nL (aL ρ L) := by
  refine ⟨h.1, h.2.1, fun q hq => ?_⟩
  obtain ⟨v, h1, h2⟩ := aL_mem.mp hq
  rw [h2]
  exact h.2.2 _ _ h1
theorem noLong_at {L : List (Option Value)} (h : noLong L = true) {i : Nat} {v : Value} (hv : L[i]? = some (some v)) : v.category ≠ 2 := by
  have h1 := List.all_eq_true.mp h _ (List.mem_of_getElem? hv)
  cases v <;> first | (intro h2; cases h2; done) | (simp at h1; done)
theorem Lv.set {ρ : Nat → Nat} {ls' : Array Slot} {nL i : Nat} {L : List (Option Value)} {v : Value} (hn : noLong L = true)
    (h : lv_has ls' nL ((i, cvv ρ v) :: (aL ρ L).filter (fun q => !(q.1 == i) && !(q.1 + 1 == i && q.2.category == 2)))) : Lv ρ ls' nL (L.set i (some v)) := by
  refine ⟨h.1, h.2.1, fun j w hj => ?_⟩
  by_cases hji : j = i
  · subst hji
    have hlt : j < L.length := by
      have := (List.getElem?_eq_some_iff.mp hj).1
      simpa using this
    rw [List.getElem?_set_self hlt] at hj
    obtain rfl : v = w := Option.some.inj (Option.some.inj hj)
    exact h.2.2 (j, cvv ρ v) List.mem_cons_self
  · rw [List.getElem?_set_ne (Ne.symm hji)] at hj
    refine h.2.2 (j, cvv ρ w) (List.mem_cons_of_mem _ (List.mem_filter.mpr ⟨aL_mem.mpr ⟨w, hj, rfl⟩, ?_⟩))
    have h2 := noLong_at hn hj
    have h3 : (cvv ρ w).category ≠ 2 := by rw [cvv_cat]; exact h2
    simp [hji, h3]
