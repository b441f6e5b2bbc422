/-- a heap beside another: nothing else has changed -/
def Fr (σ σ' : PH) (S : List Nat) : Prop := ∀ j : Nat, j ∉ S → σ' j = σ j
theorem Fr.rf {σ : PH} {S : List Nat} : Fr σ σ S := fun _ _ => rfl
theorem Fr.trans {σ σ' σ'' : PH} {S : List Nat} (h1 : Fr σ σ' S) (h2 : Fr σ' σ'' S) : Fr σ σ'' S := fun j hj => (h2 j hj).trans (h1 j hj)
theorem Fr.wide {σ σ' : PH} {S S' : List Nat} (h : Fr σ σ' S) (hs : ∀ j ∈ S, j ∈ S') : Fr σ σ' S' := fun j hj => h j (fun hm => hj (hs j hm))
theorem Fr.up {σ σ' : PH} {S : List Nat} {q : Nat} {e : PC} (h : Fr σ σ' S) (hq : q ∈ S) : Fr σ (up σ' q e) S := fun j hj => (up_n (j := j) (q := q) (fun he => hj (by rw [he]; exact hq))).trans (h j hj)
theorem ne_oI {σ : PH} {q a ci t n : Nat} {fs : List Value} {f : Int → Int} (h1 : σ q = pcO ci fs) (h2 : σ a = pcI t n f) : q ≠ a := by
  intro h; rw [h, h2] at h1; cases h1
theorem ne_oR {σ : PH} {q a ci t n : Nat} {fs : List Value} {f : Int → Option Nat} (h1 : σ q = pcO ci fs) (h2 : σ a = pcR t n f) : q ≠ a := by
  intro h; rw [h, h2] at h1; cases h1
theorem ne_oo {σ : PH} {q a ci cj : Nat} {fs gs : List Value} (h1 : σ q = pcO ci fs) (h2 : σ a = pcO cj gs) (hc : ci ≠ cj) : q ≠ a := by
  intro h; rw [h, h2] at h1; cases h1; exact hc rfl
theorem ne_IR {σ : PH} {q a t n t' n' : Nat} {f : Int → Int} {g : Int → Option Nat} (h1 : σ q = pcI t n f) (h2 : σ a = pcR t' n' g) : q ≠ a := by
  intro h; rw [h, h2] at h1; cases h1
section
variable {x : CX} {d : Nat} {M : MI} {Q : PQ} {b : Nat × Nat} {pc : Nat} {L : List (Option Value)} {st : List Value} {N : Nat} {σ : PH}
theorem xor_neg {a c : Int} (ha : inR a) (hc : inR c) : (iI a ^^^ iI c).toInt < 0 ↔ ¬ (a < 0 ↔ c < 0) := by
  have key : ∀ z : Int32, z.toInt < 0 ↔ z.toBitVec.msb = true := by
    intro z
    rw [← Int32.toInt_toBitVec, BitVec.msb_eq_toInt]
    simp
  rw [key, Int32.toBitVec_xor, BitVec.msb_xor]
  have h1 := key (iI a)
  have h2 := key (iI c)
  rw [iI_toInt ha] at h1
  rw [iI_toInt hc] at h2
  cases q1 : (iI a).toBitVec.msb <;> cases q2 : (iI c).toBitVec.msb <;> simp_all <;> omega
theorem P.ixor {a c : Int} (hd : decode (MI.cc M) pc = .ok (.ixor, 1)) (ha : inR a) (hc : inR c) (k : ∀ z : Int, inR z → (z < 0 ↔ ¬ (a < 0 ↔ c < 0)) → P x d M Q b (pc + 1) L (vI z :: st) N σ) : P x d M Q b pc L (vI c :: vI a :: st) N σ :=
  fun ok H locs cells slots ls hW hS hL h1 h2 => lv_ixor ok.1 ok.2.1 hd (by
    have hk := k (iI a ^^^ iI c).toInt (inR_toInt _) (xor_neg ha hc) ok H locs cells slots ls hW hS hL h1 h2
    have e : vI (iI a ^^^ iI c).toInt = .int (iI a ^^^ iI c) := by unfold vI; rw [iI_of]
    rw [e] at hk
    exact hk)
end
