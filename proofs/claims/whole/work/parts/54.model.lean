/-! the reference: its object at place 84, its rows behind it; said in the words of the class's state -/
abbrev mdO (p s u l fi be rp cl dg nu pk wm : Int) : PC := pcO 7 [vI p, vI s, vR 85, vI u, vR 86, vR 87, vI l, vI fi, vI be, vI rp, vI cl, vI dg, vI nu, vR 88, vR 89, vR 90, vR 91, vR 92, vI pk, vR 93, vI wm, vR 94, vR 95]
def wdA : Int → Int := fun i => [117, 112, 32, 100, 111, 119, 110, 32, 97, 120, 105, 115, 32, 97, 116, 32].getD i.toNat 0
/-- a row holds what is measured -/
def Rw (f : Int → Int) (r : Int) (v : MsV) : Prop := (∀ t : Int, 0 ≤ t → t < 16 → f (r + t) = v.2.2.1 t) ∧ (∀ t j : Int, 0 ≤ t → t < 16 → 0 ≤ j → j < v.2.2.1 t → f (r + 16 + 6 * t + j) = v.2.2.2 (t * 6 + j)) ∧ ∀ t : Int, 2 * v.1 ≤ t → t < 16 → v.2.2.1 t = 0
def Rs (f : Int → Int) (r : Int) (w : Int × Int × Int × Int × Int) : Prop := f (r + 112) = w.1 ∧ f (r + 113) = w.2.1 ∧ f (r + 114) = w.2.2.1 ∧ f (r + 115) = w.2.2.2.1 ∧ f (r + 116) = w.2.2.2.2
def Rx (f : Int → Int) (r : Int) (w : MoV) (p s : Int) : Prop := Rw f r w.1 ∧ Rs f r w.2 ∧ w.1.1 = p ∧ w.1.2.1 = s
/-- which of the ring is the j-th -/
def ri (nx ct j : Int) : Nat := ((nx + 8 - ct + j) % 8).toNat
def WR (S : CSt) (f : Int → Int) : Prop := Rx f 0 S.now S.now.1.1 S.now.1.2.1 ∧ (∀ j : Int, 0 ≤ j → j < S.ct → Rx f (468 + 117 * j) (S.pm (ri S.nxt S.ct j)) S.now.1.1 S.now.1.2.1) ∧ ∀ k : Int, 0 ≤ k → k < 2 → S.ik k ≠ 0 → Rx f (234 + 117 * k) (S.km k.toNat) S.now.1.1 S.now.1.2.1
def LR (S : CSt) (sz lt : Int → Int) : Prop := (∀ l : Int, 0 ≤ l → l < 3 → sz l = if S.it l = 0 then -1 else S.ln l.toNat) ∧ ∀ l j : Int, 0 ≤ l → l < 3 → 0 ≤ j → j < 24 → lt (24 * l + j) = S.lf l.toNat j
def MD (σ : PH) (S : CSt) : Prop := ∃ (wf sz lt a1 a2 a3 a4 a5 : Int → Int) (fi be rp cl dg nu pk wm : Int), σ 84 = mdO S.now.1.1 S.now.1.2.1 S.ct S.tn fi be rp cl dg nu pk wm ∧ σ 85 = pcI 0 1404 wf ∧ σ 86 = pcI 1 2 S.ik ∧ σ 87 = pcI 0 200 S.tf ∧ σ 88 = pcI 0 16 wdA ∧ σ 89 = pcI 0 8 a1 ∧ σ 90 = pcI 0 8 a2 ∧ σ 91 = pcI 0 8 a3 ∧ σ 92 = pcI 0 8 a4 ∧ σ 93 = pcI 0 80 a5 ∧ σ 94 = pcI 0 3 sz ∧ σ 95 = pcI 0 72 lt ∧ WR S wf ∧ LR S sz lt
theorem MD.frC {σ σ' : PH} {S : CSt} (h : MD σ S) (hF : FrC σ σ') : MD σ' S := by
  obtain ⟨wf, sz, lt, a1, a2, a3, a4, a5, fi, be, rp, cl, dg, nu, pk, wm, h0, h1, h2, h3, h4, h5, h6, h7, h8, h9, h10, h11, h12⟩ := h
  exact ⟨wf, sz, lt, a1, a2, a3, a4, a5, fi, be, rp, cl, dg, nu, pk, wm, (hF _ (by omega)).trans h0, (hF _ (by omega)).trans h1, (hF _ (by omega)).trans h2, (hF _ (by omega)).trans h3, (hF _ (by omega)).trans h4, (hF _ (by omega)).trans h5, (hF _ (by omega)).trans h6, (hF _ (by omega)).trans h7, (hF _ (by omega)).trans h8, (hF _ (by omega)).trans h9, (hF _ (by omega)).trans h10, (hF _ (by omega)).trans h11, h12⟩
abbrev LM : List Nat := [84, 85, 86, 87, 88, 89, 90, 91, 92, 93, 94, 95]
theorem CS.frM {σ σ' : PH} {S : CSt} (h : CS σ S) (hF : Fr σ σ' LM) : CS σ' S := by
  obtain ⟨hG, hX, hTx, hRd, hNow, hPa, hKe, ⟨F, f, hFg⟩, hSu, hSF, hLa⟩ := h
  exact ⟨hG, hX.fr hF rfl rfl rfl rfl, CTx.fr (S := S) hTx hF rfl, hRd.fr hF rfl, hNow.fr4 hF rfl, CPa.fr (S := S) hPa hF rfl rfl, CKe.fr (S := S) hKe hF rfl rfl, ⟨F, f, hFg.fr hF rfl rfl⟩, Fp.fr hSu hF rfl, hSF.fr hF rfl, CLa.fr (S := S) hLa hF rfl rfl⟩
/-! rows and copies -/
theorem cpI_in {f g : Int → Int} {sp dp n k : Int} (h : dp ≤ k ∧ k < dp + n) : cpI f g sp dp n k = f (sp + (k - dp)) := if_pos h
theorem cpI_out {f g : Int → Int} {sp dp n k : Int} (h : ¬ (dp ≤ k ∧ k < dp + n)) : cpI f g sp dp n k = g k := if_neg h
theorem cpI_0 {f : Int → Int} {sp dp : Int} : cpI f f sp dp 0 = f := by
  funext k; exact cpI_out (by omega)
theorem cpI_step {f : Int → Int} {sp dp k : Int} (hk : 0 ≤ k) (h : dp ≤ sp ∨ sp + k < dp) : upI (cpI f f sp dp k) (dp + k) (cpI f f sp dp k (sp + k)) = cpI f f sp dp (k + 1) := by
  funext i
  by_cases e : i = dp + k
  · rw [e, upI_s, cpI_out (show ¬ (dp ≤ sp + k ∧ sp + k < dp + k) by omega), cpI_in (by omega), show sp + (dp + k - dp) = sp + k by omega]
  · rw [upI_n e]
    by_cases e2 : dp ≤ i ∧ i < dp + k
    · rw [cpI_in e2, cpI_in (by omega)]
    · rw [cpI_out e2, cpI_out (by omega)]
theorem Rw.c {f g : Int → Int} {r r' : Int} {v : MsV} (h : Rw f r v) (hG : GMs v) (hc : ∀ j : Int, 0 ≤ j → j < 112 → g (r' + j) = f (r + j)) : Rw g r' v := by
  refine ⟨fun t h0 h1 => (hc t h0 (by omega)).trans (h.1 t h0 h1), fun t j h0 h1 h2 h3 => ?_, h.2.2⟩
  have h4 := (hG.2.2 t h0 h1).1
  have := (hc (16 + 6 * t + j) (by omega) (by omega))
  rw [show r' + (16 + 6 * t + j) = r' + 16 + 6 * t + j by omega, show r + (16 + 6 * t + j) = r + 16 + 6 * t + j by omega] at this
  exact this.trans (h.2.1 t j h0 h1 h2 h3)
theorem Rs.c {f g : Int → Int} {r r' : Int} {w : Int × Int × Int × Int × Int} (h : Rs f r w) (hc : ∀ j : Int, 112 ≤ j → j < 117 → g (r' + j) = f (r + j)) : Rs g r' w :=
  ⟨(hc 112 (by omega) (by omega)).trans h.1, (hc 113 (by omega) (by omega)).trans h.2.1, (hc 114 (by omega) (by omega)).trans h.2.2.1, (hc 115 (by omega) (by omega)).trans h.2.2.2.1, (hc 116 (by omega) (by omega)).trans h.2.2.2.2⟩
theorem Rx.c {f g : Int → Int} {r r' : Int} {w : MoV} {p s : Int} (h : Rx f r w p s) (hG : GMo w) (hc : ∀ j : Int, 0 ≤ j → j < 117 → g (r' + j) = f (r + j)) : Rx g r' w p s :=
  ⟨h.1.c hG.1 (fun j h0 h1 => hc j h0 (by omega)), h.2.1.c (fun j h0 h1 => hc j (by omega) h1), h.2.2⟩
