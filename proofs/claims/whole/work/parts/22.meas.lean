/-! an array's numbers beyond its length are of no account -/
theorem Wd.ext {x : CM} {N q t n : Nat} {σ : PH} {H : Heap} {f f' : Int → Int} (h : Wd x N σ H) (he : σ q = pcI t n f) (hff : ∀ i : Int, 0 ≤ i → i < n → f' i = f i) : Wd x N (up σ q (pcI t n f')) H := by
  have hq := h.lt_a he
  refine ⟨h.1, h.2.1, fun k p hp => ?_, fun k hk => by rw [up_n (by omega)]; exact h.2.2.2 k hk⟩
  have hk : k < N := by
    have := (List.getElem?_eq_some_iff.mp hp).1
    unfold wl at this
    simpa using this
  rw [wl_at hk] at hp
  cases hp
  have h0 := h.2.2.1 k _ (wl_at hk)
  by_cases hkq : k = q
  · subst hkq
    rw [he] at h0
    rw [up_s]
    have e1 : H[CM.base x + k]? = some (arrV (CM.cy x t) n (fun j => .int (iI (f (j : Int))))) := h0
    show H[CM.base x + k]? = some (arrV (CM.cy x t) n (fun j => .int (iI (f' (j : Int)))))
    rw [e1]
    apply congrArg some
    unfold arrV
    congr 1
    apply Array.ext
    · simp
    · intro i h1 h2
      simp at h1
      simp only [Array.getElem_ofFn]
      rw [hff (i : Int) (by omega) (by omega)]
  · rw [up_n hkq]
    exact h0
theorem P.ext {x : CX} {d : Nat} {M : MI} {Q : PQ} {b : Nat × Nat} {pc : Nat} {L : List (Option Value)} {st : List Value} {N : Nat} {σ : PH} {q t n : Nat} {f f' : Int → Int} (he : σ q = pcI t n f) (hff : ∀ i : Int, 0 ≤ i → i < n → f' i = f i) (k : P x d M Q b pc L st N (up σ q (pcI t n f'))) : P x d M Q b pc L st N σ :=
  fun ok H locs cells slots ls hW hS hL h1 h2 => k ok H locs cells slots ls (hW.ext he hff) hS hL h1 h2
theorem bz_nar {z : Int} (h : z = 0 ∨ z = 1) : narrow .boolean (vI z) = vI z := by rcases h with rfl | rfl <;> decide +kernel
theorem bz_fit {ρ : Nat → Nat} {z : Int} (h : z = 0 ∨ z = 1) : fits .boolean (cvv ρ (vI z)) = true := by
  show fits .boolean (vI z) = true
  rcases h with rfl | rfl <;> decide +kernel
/-- the sum of n numbers from a on -/
def sumF (f : Int → Int) (a : Int) : Nat → Int
  | 0 => 0
  | n + 1 => sumF f a n + f (a + n)
theorem sumF_b {f : Int → Int} {a c : Int} (hc : 0 ≤ c) : ∀ n : Nat, (∀ k : Int, 0 ≤ k ∧ k < n → -c ≤ f (a + k) ∧ f (a + k) ≤ c) → -(c * n) ≤ sumF f a n ∧ sumF f a n ≤ c * n := by
  intro n
  induction n with
  | zero => intro _; simp [sumF]
  | succ n ih =>
    intro h
    have h1 := ih (fun k hk => h k (by omega))
    have h2 := h n (by omega)
    show -(c * ((n + 1 : Nat) : Int)) ≤ sumF f a n + f (a + n) ∧ sumF f a n + f (a + n) ≤ c * ((n + 1 : Nat) : Int)
    have e : c * ((n + 1 : Nat) : Int) = c * n + c := by rw [Int.natCast_add, Int.mul_add]; simp
    rw [e]
    omega
theorem sumF_c {f g : Int → Int} {a b : Int} : ∀ n : Nat, (∀ k : Int, 0 ≤ k ∧ k < n → f (a + k) = g (b + k)) → sumF f a n = sumF g b n := by
  intro n
  induction n with
  | zero => intro _; rfl
  | succ n ih =>
    intro h
    show sumF f a n + f (a + n) = sumF g b n + g (b + n)
    rw [ih (fun k hk => h k (by omega)), h n (by omega)]
def addC (cn : Int → Int) (t : Int) : Int → Int := upI cn t (if 6 ≤ cn t then 6 else cn t + 1)
def addE (cn er : Int → Int) (t v : Int) : Int → Int := if 6 ≤ cn t then upI (cpI er er (t * 6 + 1) (t * 6) 5) (t * 6 + 5) v else upI er (t * 6 + cn t) v
/-- sixty times the mean -/
def m60 (cn er : Int → Int) (t : Int) : Int := if cn t = 0 then 0 else (sumF er (t * 6) (cn t).toNat * 60).tdiv (cn t)
abbrev MsV : Type := Int × Int × (Int → Int) × (Int → Int)
def Ms (σ : PH) (q : Nat) (v : MsV) : Prop := σ q = pcO 2 [vI v.1, vI v.2.1, vR (q + 1), vR (q + 2)] ∧ σ (q + 1) = pcI 0 16 v.2.2.1 ∧ σ (q + 2) = pcI 0 96 v.2.2.2
theorem Ms.fr {σ σ' : PH} {q : Nat} {v : MsV} {S : List Nat} (h : Ms σ q v) (hF : Fr σ σ' S) (h0 : q ∉ S) (h1 : q + 1 ∉ S) (h2 : q + 2 ∉ S) : Ms σ' q v := ⟨(hF _ h0).trans h.1, (hF _ h1).trans h.2.1, (hF _ h2).trans h.2.2⟩
/-- a moment: what is measured; place, screw, turns, travel, up -/
abbrev MoV : Type := MsV × Int × Int × Int × Int × Int
def Mo (σ : PH) (q : Nat) (v : MoV) : Prop := σ q = pcO 3 [vR (q + 1), vI v.2.1, vI v.2.2.1, vI v.2.2.2.1, vI v.2.2.2.2.1, vI v.2.2.2.2.2] ∧ Ms σ (q + 1) v.1
theorem Mo.fr {σ σ' : PH} {q : Nat} {v : MoV} {S : List Nat} (h : Mo σ q v) (hF : Fr σ σ' S) (h0 : q ∉ S) (h1 : q + 1 ∉ S) (h2 : q + 2 ∉ S) (h3 : q + 3 ∉ S) : Mo σ' q v := ⟨(hF _ h0).trans h.1, h.2.fr hF h1 h2 h3⟩
