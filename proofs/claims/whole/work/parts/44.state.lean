/-! the object AxisTable: its cells 0 .. 83 -/
/-- text; now; the past (next, count, the eight); kept (which, the two); labels (there, lengths, letters) -/
abbrev CSt : Type := (Int × (Int → Int)) × MoV × (Int × Int × (Nat → MoV)) × ((Int → Int) × (Nat → MoV)) × ((Int → Int) × (Nat → Int) × (Nat → Int → Int))
abbrev CSt.tn (S : CSt) : Int := S.1.1
abbrev CSt.tf (S : CSt) : Int → Int := S.1.2
abbrev CSt.now (S : CSt) : MoV := S.2.1
abbrev CSt.nxt (S : CSt) : Int := S.2.2.1.1
abbrev CSt.ct (S : CSt) : Int := S.2.2.1.2.1
abbrev CSt.pm (S : CSt) : Nat → MoV := S.2.2.1.2.2
abbrev CSt.ik (S : CSt) : Int → Int := S.2.2.2.1.1
abbrev CSt.km (S : CSt) : Nat → MoV := S.2.2.2.1.2
abbrev CSt.it (S : CSt) : Int → Int := S.2.2.2.2.1
abbrev CSt.ln (S : CSt) : Nat → Int := S.2.2.2.2.2.1
abbrev CSt.lf (S : CSt) : Nat → Int → Int := S.2.2.2.2.2.2
def CX0 (σ : PH) : Prop := σ 0 = pcO 6 [vR 1, vR 3, vR 7, vR 11, vR 45, vR 46, vR 47, vR 55, vR 58, vR 66, vR 68, vR 69] ∧ (∃ g : Int → Option Nat, σ 12 = pcR 3 8 g ∧ ∀ i : Int, 0 ≤ i → i < 8 → g i = some (13 + 4 * i.toNat)) ∧ (∃ g : Int → Option Nat, σ 45 = pcR 3 2 g ∧ ∀ i : Int, 0 ≤ i → i < 2 → g i = some (70 + 4 * i.toNat)) ∧ (∃ g : Int → Option Nat, σ 68 = pcR 2 3 g ∧ ∀ i : Int, 0 ≤ i → i < 3 → g i = some (78 + 2 * i.toNat))
/-- the table of what is measured -/
def tbl (v : MsV) (F : FgV) : List Int := shA F.2.2.2.2.2.2 v.2.1 v.1 (plc v.1 (plp v))
def CFg (σ : PH) (v : MsV) (F : FgV) (f : Int → Int) : Prop := Fg σ 47 v F ∧ Ls σ 66 128 (tbl v F).length f ∧ Rp f (tbl v F)
def GMo (w : MoV) : Prop := GMs w.1 ∧ (-100000 ≤ w.2.1 ∧ w.2.1 ≤ 100000) ∧ (-100000 ≤ w.2.2.1 ∧ w.2.2.1 ≤ 100000) ∧ (w.2.2.2.2.2 = 0 ∨ w.2.2.2.2.2 = 1)
def CG (S : CSt) : Prop := ((0 ≤ S.tn ∧ S.tn ≤ 200) ∧ ∀ i : Int, 0 ≤ i ∧ i < S.tn → 0 ≤ S.tf i ∧ S.tf i ≤ 255) ∧ GMo S.now ∧ ((0 ≤ S.nxt ∧ S.nxt < 8) ∧ (0 ≤ S.ct ∧ S.ct ≤ 8) ∧ ∀ i : Nat, i < 8 → GMo (S.pm i)) ∧ ((∀ i : Int, 0 ≤ i → i < 2 → S.ik i = 0 ∨ S.ik i = 1) ∧ ∀ i : Nat, i < 2 → GMo (S.km i)) ∧ (∀ i : Int, 0 ≤ i → i < 3 → S.it i = 0 ∨ S.it i = 1) ∧ ∀ i : Nat, i < 3 → (0 ≤ S.ln i ∧ S.ln i ≤ 24) ∧ ∀ j : Int, 0 ≤ j ∧ j < S.ln i → 32 ≤ S.lf i j ∧ S.lf i j ≤ 126
def CTx (σ : PH) (S : CSt) : Prop := Ls σ 1 200 S.tn S.tf
def CRd (σ : PH) : Prop := ∃ (st kd vl : Int → Int) (m i c : Int), Rd σ 3 st kd vl m i c
def CPa (σ : PH) (S : CSt) : Prop := σ 11 = pcO 4 [vR 12, vI S.nxt, vI S.ct] ∧ ∀ i : Nat, i < 8 → Mo σ (13 + 4 * i) (S.pm i)
def CKe (σ : PH) (S : CSt) : Prop := σ 46 = pcI 1 2 S.ik ∧ ∀ i : Nat, i < 2 → Mo σ (70 + 4 * i) (S.km i)
def CLa (σ : PH) (S : CSt) : Prop := σ 69 = pcI 1 3 S.it ∧ ∀ i : Nat, i < 3 → Ls σ (78 + 2 * i) 24 (S.ln i) (S.lf i)
def CS (σ : PH) (S : CSt) : Prop := CG S ∧ CX0 σ ∧ CTx σ S ∧ CRd σ ∧ Mo σ 7 S.now ∧ CPa σ S ∧ CKe σ S ∧ (∃ (F : FgV) (f : Int → Int), CFg σ S.now.1 F f) ∧ (∃ v : MsV, Ms σ 55 v) ∧ Fg0 σ 58 ∧ CLa σ S
/-- none of a row of places -/
def out (L : List Nat) (a n : Nat) : Bool := L.all fun j => decide (j < a ∨ a + n ≤ j)
theorem out_n {L : List Nat} {a n j : Nat} (h : out L a n = true) (h1 : a ≤ j) (h2 : j < a + n) : j ∉ L := by
  intro hj
  have := List.all_eq_true.mp h j hj
  have := of_decide_eq_true this
  omega
section
variable {σ σ' : PH} {L : List Nat} {S : CSt}
theorem CX0.fr (h : CX0 σ) (hF : Fr σ σ' L) (h1 : out L 0 1 = true) (h2 : out L 12 1 = true) (h3 : out L 45 1 = true) (h4 : out L 68 1 = true) : CX0 σ' := by
  obtain ⟨a, ⟨g1, b1, c1⟩, ⟨g2, b2, c2⟩, g3, b3, c3⟩ := h
  exact ⟨(hF 0 (out_n h1 (by omega) (by omega))).trans a, ⟨g1, (hF 12 (out_n h2 (by omega) (by omega))).trans b1, c1⟩, ⟨g2, (hF 45 (out_n h3 (by omega) (by omega))).trans b2, c2⟩, g3, (hF 68 (out_n h4 (by omega) (by omega))).trans b3, c3⟩
theorem CTx.fr (h : CTx σ S) (hF : Fr σ σ' L) (h1 : out L 1 2 = true) : CTx σ' S := Ls.fr h hF (out_n h1 (by omega) (by omega)) (out_n h1 (by omega) (by omega))
theorem CRd.fr (h : CRd σ) (hF : Fr σ σ' L) (h1 : out L 3 4 = true) : CRd σ' := by
  obtain ⟨st, kd, vl, m, i, c, hR⟩ := h
  exact ⟨st, kd, vl, m, i, c, hR.fr hF (out_n h1 (by omega) (by omega)) (out_n h1 (by omega) (by omega)) (out_n h1 (by omega) (by omega)) (out_n h1 (by omega) (by omega))⟩
theorem Mo.fr4 {q : Nat} {v : MoV} (h : Mo σ q v) (hF : Fr σ σ' L) (h1 : out L q 4 = true) : Mo σ' q v := h.fr hF (out_n h1 (by omega) (by omega)) (out_n h1 (by omega) (by omega)) (out_n h1 (by omega) (by omega)) (out_n h1 (by omega) (by omega))
theorem Ms.fr3 {q : Nat} {v : MsV} (h : Ms σ q v) (hF : Fr σ σ' L) (h1 : out L q 3 = true) : Ms σ' q v := h.fr hF (out_n h1 (by omega) (by omega)) (out_n h1 (by omega) (by omega)) (out_n h1 (by omega) (by omega))
theorem out_sub {L : List Nat} {a n b m : Nat} (h : out L a n = true) (h1 : a ≤ b) (h2 : b + m ≤ a + n) : out L b m = true := by
  refine List.all_eq_true.mpr fun j hj => ?_
  have := of_decide_eq_true (List.all_eq_true.mp h j hj)
  exact decide_eq_true (by omega)
theorem CPa.fr (h : CPa σ S) (hF : Fr σ σ' L) (h1 : out L 11 1 = true) (h2 : out L 13 32 = true) : CPa σ' S := ⟨(hF 11 (out_n h1 (by omega) (by omega))).trans h.1, fun i hi => (h.2 i hi).fr4 hF (out_sub h2 (by omega) (by omega))⟩
theorem CKe.fr (h : CKe σ S) (hF : Fr σ σ' L) (h1 : out L 46 1 = true) (h2 : out L 70 8 = true) : CKe σ' S := ⟨(hF 46 (out_n h1 (by omega) (by omega))).trans h.1, fun i hi => (h.2 i hi).fr4 hF (out_sub h2 (by omega) (by omega))⟩
theorem CLa.fr (h : CLa σ S) (hF : Fr σ σ' L) (h1 : out L 69 1 = true) (h2 : out L 78 6 = true) : CLa σ' S := ⟨(hF 69 (out_n h1 (by omega) (by omega))).trans h.1, fun i hi => Ls.fr (h.2 i hi) hF (out_n h2 (by omega) (by omega)) (out_n h2 (by omega) (by omega))⟩
theorem Fg.fr {q : Nat} {v : MsV} {F : FgV} (h : Fg σ q v F) (hF : Fr σ σ' L) (h1 : out L q 8 = true) : Fg σ' q v F := by
  obtain ⟨a0, a1, a2, a3, a4, a5, a6, a7, r⟩ := h
  have k : ∀ j : Nat, q ≤ j → j < q + 8 → σ' j = σ j := fun j g1 g2 => hF j (out_n h1 g1 g2)
  exact ⟨(k _ (by omega) (by omega)).trans a0, (k _ (by omega) (by omega)).trans a1, (k _ (by omega) (by omega)).trans a2, (k _ (by omega) (by omega)).trans a3, (k _ (by omega) (by omega)).trans a4, (k _ (by omega) (by omega)).trans a5, (k _ (by omega) (by omega)).trans a6, (k _ (by omega) (by omega)).trans a7, r⟩
theorem Fg0.fr {q : Nat} (h : Fg0 σ q) (hF : Fr σ σ' L) (h1 : out L q 8 = true) : Fg0 σ' q := by
  obtain ⟨p, s, po, pt, pl, F, a0, a1, a2, a3, a4, a5, a6, a7⟩ := h
  have k : ∀ j : Nat, q ≤ j → j < q + 8 → σ' j = σ j := fun j g1 g2 => hF j (out_n h1 g1 g2)
  exact ⟨p, s, po, pt, pl, F, (k _ (by omega) (by omega)).trans a0, (k _ (by omega) (by omega)).trans a1, (k _ (by omega) (by omega)).trans a2, (k _ (by omega) (by omega)).trans a3, (k _ (by omega) (by omega)).trans a4, (k _ (by omega) (by omega)).trans a5, (k _ (by omega) (by omega)).trans a6, (k _ (by omega) (by omega)).trans a7⟩
theorem CFg.fr {v : MsV} {F : FgV} {f : Int → Int} (h : CFg σ v F f) (hF : Fr σ σ' L) (h1 : out L 47 8 = true) (h2 : out L 66 2 = true) : CFg σ' v F f := ⟨h.1.fr hF h1, h.2.1.fr hF (out_n h2 (by omega) (by omega)) (out_n h2 (by omega) (by omega)), h.2.2⟩
end
/-- what lies behind the object stays -/
def FrC (σ σ' : PH) : Prop := ∀ j : Nat, 84 ≤ j → σ' j = σ j
theorem FrC.rf {σ : PH} : FrC σ σ := fun _ _ => rfl
theorem FrC.trans {σ σ' σ'' : PH} (h1 : FrC σ σ') (h2 : FrC σ' σ'') : FrC σ σ'' := fun j hj => (h2 j hj).trans (h1 j hj)

theorem Fr.toC {σ σ' : PH} {L : List Nat} (h : Fr σ σ' L) (hL : (L.all fun j => decide (j < 84)) = true) : FrC σ σ' := by
  intro j hj
  refine h j fun hm => ?_
  have := of_decide_eq_true (List.all_eq_true.mp hL j hm)
  omega
