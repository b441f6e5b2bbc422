/-! the first calls, in one form -/
def aWri (S : CSt) (a : Int) : Int := if ¬ (0 ≤ a ∧ a ≤ 255) then -100002 else if S.tn = 200 then -100004 else S.tn + 1
def sWri (S : CSt) (a : Int) : CSt := if (0 ≤ a ∧ a ≤ 255) ∧ S.tn ≠ 200 then sTx S (S.tn + 1) (upI S.tf S.tn a) else S
def aRat (S : CSt) (a b c : Int) : Int := if ¬ (0 ≤ a ∧ a < S.now.1.1) then -100001 else if ¬ ((b = 0 ∨ b = 1) ∧ 0 ≤ c) then -100002 else if c < S.now.1.2.2.1 (a * 2 + b) then S.now.1.2.2.2 ((a * 2 + b) * 6 + c) else -100000
def aCof (v : MsV) (F : FgV) (a : Int) : Int := if ¬ (0 ≤ a ∧ a ≤ (v.1 - 1) * v.2.1) then -100002 else cntF F.2.2.2.2.2.2 v.1 v.2.1 a
def aPof (v : MsV) (F : FgV) (a : Int) : Int := if ¬ (-200 ≤ a ∧ a ≤ 2000) then -100002 else if a ≤ F.2.2.2.2.2.2 0 then 0 else plF F.2.2.2.2.2.2 v.2.1 a (v.1 - 1).toNat 0
def aSht (v : MsV) (F : FgV) (a : Int) : Int := if a < 0 then -100002 else if a < (tbl v F).length then (tbl v F).getD a.toNat 0 else -100000
section
variable {x : CM} {d N : Nat} {σ : PH} {Q : PQ} {S : CSt} {F : FgV} {sf : Int → Int}
theorem cf_write (hS : CS σ S) (hd : 4 ≤ d) {a : Int} (ha : inR a) (h : ∀ σ' : PH, CS σ' (sWri S a) → FrC σ σ' → Q (some (vI (aWri S a))) σ') : Call x d 0 0 mX6_write [vR 0, vI a] N σ Q := by
  have ht := hS.1.1.1
  refine cl_write hS hd ha (fun h1 => ?_) (fun h1 h2 => ?_) (fun h1 h2 σ' h3 h4 => ?_)
  · simp only [aWri, sWri, if_pos h1, if_neg (show ¬ ((0 ≤ a ∧ a ≤ 255) ∧ S.tn ≠ 200) from fun z => h1 z.1)] at h
    exact h σ hS FrC.rf
  · simp only [aWri, sWri, if_neg (show ¬ ¬ (0 ≤ a ∧ a ≤ 255) from fun z => z h1), if_pos h2, if_neg (show ¬ ((0 ≤ a ∧ a ≤ 255) ∧ S.tn ≠ 200) from fun z => z.2 h2)] at h
    exact h σ hS FrC.rf
  · have h5 : S.tn ≠ 200 := by omega
    simp only [aWri, sWri, if_neg (show ¬ ¬ (0 ≤ a ∧ a ≤ 255) from fun z => z h1), if_neg h5, if_pos (show (0 ≤ a ∧ a ≤ 255) ∧ S.tn ≠ 200 from ⟨h1, h5⟩)] at h
    exact h σ' h3 h4
theorem cf_erase (hS : CS σ S) (h : ∀ σ' : PH, CS σ' (sTx S 0 S.tf) → FrC σ σ' → Q (some (vI S.tn)) σ') : Call x d 0 0 mX6_erase [vR 0] N σ Q := cl_erase hS h
theorem cf_runAt (hS : CS σ S) (hd : 2 ≤ d) {a b c : Int} (ha : inR a) (hb : inR b) (hc : inR c) (h : Q (some (vI (aRat S a b c))) σ) : Call x d 0 0 mX6_runAt [vR 0, vI a, vI b, vI c] N σ Q := by
  unfold aRat at h
  refine cl_runAt hS hd ha hb hc (fun h1 => ?_) (fun h1 h2 => ?_) (fun h1 h2 h3 => ?_) (fun h1 h2 h3 => ?_)
  · rw [if_pos h1] at h; exact h
  · rw [if_neg (fun z => z h1), if_pos h2] at h; exact h
  · rw [if_neg (fun z => z h1), if_neg (fun z => z h2), if_pos h3] at h; exact h
  · rw [if_neg (fun z => z h1), if_neg (fun z => z h2), if_neg h3] at h; exact h
theorem cf_countOf (hS : CS σ S) (hFg : CFg σ S.now.1 F sf) (hd : 3 ≤ d) {a : Int} (ha : inR a) (h : Q (some (vI (aCof S.now.1 F a))) σ) : Call x d 0 0 mX6_countOf [vR 0, vI a] N σ Q := by
  unfold aCof at h
  refine cl_countOf hS hFg hd ha (fun h1 => ?_) (fun h1 => ?_)
  · rw [if_pos h1] at h; exact h
  · rw [if_neg (fun z => z h1)] at h; exact h
theorem cf_placeOf (hS : CS σ S) (hFg : CFg σ S.now.1 F sf) (hd : 3 ≤ d) {a : Int} (ha : inR a) (h : Q (some (vI (aPof S.now.1 F a))) σ) : Call x d 0 0 mX6_placeOf [vR 0, vI a] N σ Q := by
  unfold aPof at h
  refine cl_placeOf hS hFg hd ha (fun h1 => ?_) (fun h1 => ?_)
  · rw [if_pos h1] at h; exact h
  · rw [if_neg (fun z => z h1)] at h; exact h
theorem cf_sheet (hS : CS σ S) (hFg : CFg σ S.now.1 F sf) (hd : 1 ≤ d) {a : Int} (ha : inR a) (h : Q (some (vI (aSht S.now.1 F a))) σ) : Call x d 0 0 mX6_sheet [vR 0, vI a] N σ Q := by
  unfold aSht at h
  refine cl_sheet hS hFg hd ha (fun h1 => ?_) (fun h1 h2 => ?_) (fun h1 => ?_)
  · rw [if_pos h1] at h; exact h
  · rw [if_neg (by omega), if_pos h2] at h; exact h
  · rw [if_neg (by omega), if_neg (by omega)] at h; exact h
end
