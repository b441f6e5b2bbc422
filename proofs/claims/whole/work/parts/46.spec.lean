/-! the states behind the calls; the object but for what is reckoned -/
def upN {α : Type} (f : Nat → α) (k : Nat) (x : α) : Nat → α := fun j => if j = k then x else f j
theorem upN_s {α : Type} {f : Nat → α} {k : Nat} {x : α} : upN f k x k = x := if_pos rfl
theorem upN_n {α : Type} {f : Nat → α} {k j : Nat} {x : α} (h : j ≠ k) : upN f k x j = f j := if_neg h
def sNow (S : CSt) (w : MoV) : CSt := (S.1, w, S.2.2)
def sRem (S : CSt) : CSt := (S.1, S.now, (if S.nxt = 7 then 0 else S.nxt + 1, if 8 ≤ S.ct then 8 else S.ct + 1, upN S.pm S.nxt.toNat S.now), S.2.2.2)
def bkI (n : Int) : Int := if n = 0 then 7 else n - 1
def sUnd (S : CSt) : CSt := (S.1, S.pm (bkI S.nxt).toNat, (bkI S.nxt, S.ct - 1, S.pm), S.2.2.2)
def sNoP (S : CSt) : CSt := (S.1, S.now, (S.nxt, 0, S.pm), S.2.2.2)
def sKep (S : CSt) (k : Int) : CSt := (S.1, S.now, S.2.2.1, (upI S.ik k 1, upN S.km k.toNat S.now), S.2.2.2.2)
def sIk (S : CSt) (f : Int → Int) : CSt := (S.1, S.now, S.2.2.1, (f, S.km), S.2.2.2.2)
def sLab (S : CSt) (it : Int → Int) (ln : Nat → Int) (lf : Nat → Int → Int) : CSt := (S.1, S.now, S.2.2.1, S.2.2.2.1, (it, ln, lf))
def sTx (S : CSt) (n : Int) (f : Int → Int) : CSt := ((n, f), S.2)
def CSn (σ : PH) (S : CSt) : Prop := CG S ∧ CX0 σ ∧ CTx σ S ∧ CRd σ ∧ Mo σ 7 S.now ∧ CPa σ S ∧ CKe σ S ∧ (Fg0 σ 47 ∧ ∃ (n : Int) (f : Int → Int), Ls σ 66 128 n f) ∧ (∃ v : MsV, Ms σ 55 v) ∧ Fg0 σ 58 ∧ CLa σ S
theorem CS.n {σ : PH} {S : CSt} (h : CS σ S) : CSn σ S := by
  obtain ⟨h1, h2, h3, h4, h5, h6, h7, ⟨F, f, h8⟩, h9⟩ := h
  exact ⟨h1, h2, h3, h4, h5, h6, h7, ⟨h8.1.any, _, f, h8.2.1⟩, h9⟩
theorem Fs.fr {σ σ' : PH} {L : List Nat} (h : Fg0 σ 47 ∧ ∃ (n : Int) (f : Int → Int), Ls σ 66 128 n f) (hF : Fr σ σ' L) (h1 : out L 47 8 = true) (h2 : out L 66 2 = true) : Fg0 σ' 47 ∧ ∃ (n : Int) (f : Int → Int), Ls σ' 66 128 n f := by
  obtain ⟨a, n, f, b⟩ := h
  exact ⟨a.fr hF h1, n, f, b.fr hF (out_n h2 (by omega) (by omega)) (out_n h2 (by omega) (by omega))⟩
theorem Fp.fr {σ σ' : PH} {L : List Nat} (h : ∃ v : MsV, Ms σ 55 v) (hF : Fr σ σ' L) (h1 : out L 55 3 = true) : ∃ v : MsV, Ms σ' 55 v := by
  obtain ⟨v, a⟩ := h
  exact ⟨v, a.fr3 hF h1⟩
abbrev LPa : List Nat := [11, 13, 14, 15, 16, 17, 18, 19, 20, 21, 22, 23, 24, 25, 26, 27, 28, 29, 30, 31, 32, 33, 34, 35, 36, 37, 38, 39, 40, 41, 42, 43, 44]
theorem mem_LPa {j : Nat} (h : j = 11 ∨ (13 ≤ j ∧ j ≤ 44)) : j ∈ LPa := by
  have h1 : j < 45 := by omega
  have key : ∀ k : Nat, k < 45 → (k = 11 ∨ (13 ≤ k ∧ k ≤ 44)) → k ∈ LPa := by decide
  exact key j h1 h
section
variable {x : CM} {d N : Nat} {σ : PH} {Q : PQ} {S : CSt}
theorem cn_remember2 (hS : CSn σ S) (hd : 3 ≤ d) (h : ∀ σ' : PH, CSn σ' (sRem S) → FrC σ σ' → Fr σ σ' LPa → Q none σ') : Call x d 0 0 mX4_remember [vR 11, vR 7] N σ Q := by
  obtain ⟨hG, hX, hTx, hRd, hNow, hPa, hKe, hFs, hSu, hSF, hLa⟩ := id hS
  obtain ⟨g, hg0, hg⟩ := hX.2.1
  obtain ⟨hnx, hct, hpm⟩ := hG.2.2.1
  refine ct_X4_remember (a := 13 + 4 * S.nxt.toNat) (v := S.pm S.nxt.toNat) (w := S.now) hPa.1 hg0 hnx hct (hg S.nxt hnx.1 hnx.2) (hPa.2 _ (by omega)) hNow (by omega) (by omega) hG.2.1.2.2.2 hd (fun σ' k1 k2 k3 => ?_)
  have hF : Fr σ σ' LPa := k3.wide (by
    intro j hj
    simp only [List.mem_cons, List.not_mem_nil, or_false] at hj
    exact mem_LPa (by omega))
  refine h σ' ⟨⟨hG.1, hG.2.1, ⟨?_, ?_, fun i hi => ?_⟩, hG.2.2.2⟩, hX.fr hF rfl rfl rfl rfl, CTx.fr (S := S) hTx hF rfl, hRd.fr hF rfl, hNow.fr4 hF rfl, ⟨k2, fun i hi => ?_⟩, CKe.fr (S := S) hKe hF rfl rfl, Fs.fr hFs hF rfl rfl, Fp.fr hSu hF rfl, hSF.fr hF rfl, CLa.fr (S := S) hLa hF rfl rfl⟩ (hF.toC rfl) hF
  · show 0 ≤ (if S.nxt = 7 then 0 else S.nxt + 1) ∧ (if S.nxt = 7 then 0 else S.nxt + 1) < 8
    split <;> omega
  · show 0 ≤ (if 8 ≤ S.ct then 8 else S.ct + 1) ∧ (if 8 ≤ S.ct then 8 else S.ct + 1) ≤ 8
    split <;> omega
  · show GMo (upN S.pm S.nxt.toNat S.now i)
    by_cases e : i = S.nxt.toNat
    · rw [e, upN_s]; exact hG.2.1
    · rw [upN_n e]; exact hpm i hi
  · show Mo σ' (13 + 4 * i) (upN S.pm S.nxt.toNat S.now i)
    by_cases e : i = S.nxt.toNat
    · rw [e, upN_s]; exact k1
    · rw [upN_n e]
      exact (hPa.2 i hi).fr k3 (by simp; omega) (by simp; omega) (by simp; omega) (by simp; omega)
theorem cn_remember (hS : CSn σ S) (hd : 3 ≤ d) (h : ∀ σ' : PH, CSn σ' (sRem S) → FrC σ σ' → Q none σ') : Call x d 0 0 mX4_remember [vR 11, vR 7] N σ Q := cn_remember2 hS hd (fun σ' a b _ => h σ' a b)
theorem cn_recall (hS : CSn σ S) (h0 : S.ct ≠ 0) (hd : 3 ≤ d) (h : ∀ σ' : PH, CSn σ' (sUnd S) → FrC σ σ' → Q none σ') : Call x d 0 0 mX4_recallInto [vR 11, vR 7] N σ Q := by
  obtain ⟨hG, hX, hTx, hRd, hNow, hPa, hKe, hFs, hSu, hSF, hLa⟩ := id hS
  obtain ⟨g, hg0, hg⟩ := hX.2.1
  obtain ⟨hnx, hct, hpm⟩ := hG.2.2.1
  have hb : 0 ≤ bkI S.nxt ∧ bkI S.nxt < 8 := by unfold bkI; split <;> omega
  refine ct_X4_recallInto (a := 7) (q2 := 13 + 4 * (bkI S.nxt).toNat) (v := S.now) (w := S.pm (bkI S.nxt).toNat) hPa.1 hg0 hnx hct (by omega) (hg (bkI S.nxt) hb.1 hb.2) hNow (hPa.2 _ (by omega)) (by omega) (by omega) (by omega) (hpm _ (by omega)).2.2.2 hd (fun σ' k1 k2 k3 => ?_)
  refine h σ' ⟨⟨hG.1, hpm _ (by omega), ⟨hb, by show 0 ≤ S.ct - 1 ∧ S.ct - 1 ≤ 8; omega, hpm⟩, hG.2.2.2⟩, hX.fr k3 rfl rfl rfl rfl, CTx.fr (S := S) hTx k3 rfl, hRd.fr k3 rfl, k1, ⟨k2, fun i hi => (hPa.2 i hi).fr4 k3 (by simp [out]; omega)⟩, CKe.fr (S := S) hKe k3 rfl rfl, Fs.fr hFs k3 rfl rfl, Fp.fr hSu k3 rfl, hSF.fr k3 rfl, CLa.fr (S := S) hLa k3 rfl rfl⟩ (k3.toC rfl)
theorem cn_forgetAll (hS : CSn σ S) (h : ∀ σ' : PH, CSn σ' (sNoP S) → FrC σ σ' → Fr σ σ' [11] → Q none σ') : Call x d 0 0 mX4_forgetAll [vR 11] N σ Q := by
  obtain ⟨hG, hX, hTx, hRd, hNow, hPa, hKe, hFs, hSu, hSF, hLa⟩ := id hS
  refine ct_X4_forgetAll hPa.1 ?_
  have hF : Fr σ (up σ 11 (pcO 4 [vR 12, vI S.nxt, vI 0])) [11] := Fr.up Fr.rf (by simp)
  exact h _ ⟨⟨hG.1, hG.2.1, ⟨hG.2.2.1.1, by show (0 : Int) ≤ 0 ∧ (0 : Int) ≤ 8; omega, hG.2.2.1.2.2⟩, hG.2.2.2⟩, hX.fr hF rfl rfl rfl rfl, CTx.fr (S := S) hTx hF rfl, hRd.fr hF rfl, hNow.fr4 hF rfl, ⟨up_s, fun i hi => (hPa.2 i hi).fr4 hF (by simp [out]; omega)⟩, CKe.fr (S := S) hKe hF rfl rfl, Fs.fr hFs hF rfl rfl, Fp.fr hSu hF rfl, hSF.fr hF rfl, CLa.fr (S := S) hLa hF rfl rfl⟩ (hF.toC rfl) hF
/-- now's measured has changed, nothing else -/
theorem CSn.ms {σ' : PH} {v : MsV} (hS : CSn σ S) (hM : Ms σ' 8 v) (hG : GMs v) (hF : Fr σ σ' [8, 9, 10]) : CSn σ' (sNow S (v, S.now.2)) := by
  obtain ⟨hG0, hX, hTx, hRd, hNow, hPa, hKe, hFs, hSu, hSF, hLa⟩ := hS
  exact ⟨⟨hG0.1, ⟨hG, hG0.2.1.2⟩, hG0.2.2⟩, hX.fr hF rfl rfl rfl rfl, CTx.fr (S := S) hTx hF rfl, hRd.fr hF rfl, ⟨(hF 7 (by decide)).trans hNow.1, hM⟩, CPa.fr (S := S) hPa hF rfl rfl, CKe.fr (S := S) hKe hF rfl rfl, Fs.fr hFs hF rfl rfl, Fp.fr hSu hF rfl, hSF.fr hF rfl, CLa.fr (S := S) hLa hF rfl rfl⟩
/-- now has changed, nothing else -/
theorem CSn.mo {σ' : PH} {w : MoV} (hS : CSn σ S) (hM : Mo σ' 7 w) (hG : GMo w) (hF : Fr σ σ' [7, 8, 9, 10]) : CSn σ' (sNow S w) := by
  obtain ⟨hG0, hX, hTx, hRd, hNow, hPa, hKe, hFs, hSu, hSF, hLa⟩ := hS
  exact ⟨⟨hG0.1, hG, hG0.2.2⟩, hX.fr hF rfl rfl rfl rfl, CTx.fr (S := S) hTx hF rfl, hRd.fr hF rfl, hM, CPa.fr (S := S) hPa hF rfl rfl, CKe.fr (S := S) hKe hF rfl rfl, Fs.fr hFs hF rfl rfl, Fp.fr hSu hF rfl, hSF.fr hF rfl, CLa.fr (S := S) hLa hF rfl rfl⟩
theorem CSn.to {F : FgV} {f : Int → Int} (hS : CSn σ S) (h : CFg σ S.now.1 F f) : CS σ S := by
  obtain ⟨h1, h2, h3, h4, h5, h6, h7, h8, h9⟩ := hS
  exact ⟨h1, h2, h3, h4, h5, h6, h7, ⟨F, f, h⟩, h9⟩
theorem CSn.fig {σ' : PH} {F : FgV} {f : Int → Int} (hS : CSn σ S) (h : CFg σ' S.now.1 F f) (hF : Fr σ σ' [47, 48, 49, 50, 51, 52, 53, 54, 66, 67]) : CS σ' S := by
  obtain ⟨hG, hX, hTx, hRd, hNow, hPa, hKe, hFs, hSu, hSF, hLa⟩ := hS
  exact ⟨hG, hX.fr hF rfl rfl rfl rfl, CTx.fr (S := S) hTx hF rfl, hRd.fr hF rfl, hNow.fr4 hF rfl, CPa.fr (S := S) hPa hF rfl rfl, CKe.fr (S := S) hKe hF rfl rfl, ⟨F, f, h⟩, Fp.fr hSu hF rfl, hSF.fr hF rfl, CLa.fr (S := S) hLa hF rfl rfl⟩
/-- what is only supposed has changed -/
theorem CS.sup {σ' : PH} (hS : CS σ S) (hRd : CRd σ') (hSu : ∃ v : MsV, Ms σ' 55 v) (hSF : Fg0 σ' 58) (hF : Fr σ σ' [3, 4, 5, 6, 55, 56, 57, 58, 59, 60, 61, 62, 63, 64, 65]) : CS σ' S := by
  obtain ⟨hG, hX, hTx, _, hNow, hPa, hKe, ⟨F, f, hFg⟩, _, _, hLa⟩ := hS
  exact ⟨hG, hX.fr hF rfl rfl rfl rfl, CTx.fr (S := S) hTx hF rfl, hRd, hNow.fr4 hF rfl, CPa.fr (S := S) hPa hF rfl rfl, CKe.fr (S := S) hKe hF rfl rfl, ⟨F, f, hFg.fr hF rfl rfl⟩, hSu, hSF, CLa.fr (S := S) hLa hF rfl rfl⟩
end
theorem plc_b {v : MsV} (h : GMs v) : 0 ≤ plc v.1 (plp v) ∧ plc v.1 (plp v) ≤ 81 := by
  have hp := h.1
  have h1 := plT_b (m := mm v) v.1.toNat (fun t g1 g2 => mm_b h g1 (by omega))
  have h2 := near_b (a := plp v) (c := 60 * v.1) (b := 80) (by omega) (by omega) (by unfold plp; omega) (by unfold plp; omega)
  unfold plc
  split <;> omega
