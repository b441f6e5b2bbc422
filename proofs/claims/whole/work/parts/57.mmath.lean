/-! the reference's rows: what its steps do to them -/
theorem Rw.add {f f' : Int → Int} {r T z : Int} {v : MsV} (h : Rw f r v) (hG : GMs v) (hT : 0 ≤ T ∧ T < 2 * v.1) (h1 : f' (r + T) = if 6 ≤ v.2.2.1 T then 6 else v.2.2.1 T + 1)
    (h2 : v.2.2.1 T < 6 → f' (r + 16 + 6 * T + v.2.2.1 T) = z ∧ ∀ j : Int, 0 ≤ j → j < v.2.2.1 T → f' (r + 16 + 6 * T + j) = f (r + 16 + 6 * T + j))
    (h3 : 6 ≤ v.2.2.1 T → f' (r + 16 + 6 * T + 5) = z ∧ ∀ j : Int, 0 ≤ j → j < 5 → f' (r + 16 + 6 * T + j) = f (r + 16 + 6 * T + (j + 1)))
    (h4 : ∀ t : Int, t ≠ T → 0 ≤ t → t < 16 → f' (r + t) = f (r + t) ∧ ∀ j : Int, 0 ≤ j → j < 6 → f' (r + 16 + 6 * t + j) = f (r + 16 + 6 * t + j)) : Rw f' r (addM v T z) := by
  have hv := hG.1
  have hc := (hG.2.2 T (by omega) (by omega)).1
  refine ⟨fun t g0 g1 => ?_, fun t j g0 g1 g2 g3 => ?_, fun t g0 g1 => ?_⟩
  · show f' (r + t) = addC v.2.2.1 T t
    by_cases e : t = T
    · rw [e, h1]; exact upI_s.symm
    · rw [(h4 t e g0 g1).1, h.1 t g0 g1]; exact (upI_n e).symm
  · have g3' : j < addC v.2.2.1 T t := g3
    show f' (r + 16 + 6 * t + j) = addE v.2.2.1 v.2.2.2 T z (t * 6 + j)
    by_cases e : t = T
    · subst e
      have eC : addC v.2.2.1 t t = if 6 ≤ v.2.2.1 t then 6 else v.2.2.1 t + 1 := upI_s
      rw [eC] at g3'
      unfold addE
      by_cases e6 : 6 ≤ v.2.2.1 t
      · rw [if_pos e6] at g3' ⊢
        obtain ⟨q1, q2⟩ := h3 e6
        by_cases ej : j = 5
        · rw [ej, q1, upI_s]
        · rw [q2 j g2 (by omega), upI_n (by omega), cpI_in (by omega)]
          have := h.2.1 t (j + 1) g0 g1 (by omega) (by omega)
          rw [this, show t * 6 + 1 + (t * 6 + j - t * 6) = t * 6 + (j + 1) by omega]
      · rw [if_neg e6] at g3' ⊢
        obtain ⟨q1, q2⟩ := h2 (by omega)
        by_cases ej : j = v.2.2.1 t
        · rw [ej, q1, upI_s]
        · rw [q2 j g2 (by omega), upI_n (by omega)]
          exact h.2.1 t j g0 g1 g2 (by omega)
    · have eC : addC v.2.2.1 T t = v.2.2.1 t := upI_n e
      rw [eC] at g3'
      have hct := (hG.2.2 t g0 g1).1
      rw [(h4 t e g0 g1).2 j g2 (by omega), h.2.1 t j g0 g1 g2 g3']
      unfold addE
      split
      · rw [upI_n (by omega), cpI_out (by omega)]
      · rw [upI_n (by omega)]
  · show addC v.2.2.1 T t = 0
    have g0' : 2 * v.1 ≤ t := g0
    exact (upI_n (by omega)).trans (h.2.2 t g0' g1)
theorem sumF_pad {f : Int → Int} {n : Nat} : ∀ m : Nat, n ≤ m → (∀ t : Int, (n : Int) ≤ t → t < m → f t = 0) → sumF f 0 m = sumF f 0 n := by
  intro m
  induction m with
  | zero => intro h _; rw [show n = 0 by omega]
  | succ m ih =>
    intro h hz
    by_cases e : n = m + 1
    · rw [e]
    · show sumF f 0 m + f (0 + m) = _
      rw [ih (by omega) (fun t g1 g2 => hz t g1 (by omega)), hz (0 + m) (by omega) (by omega)]
      omega
theorem TB.c {co co' : Int → Int} {p : Int} (h : TB co p) (hc : ∀ i : Int, 0 ≤ i → i < p → co' i = co i) : TB co' p :=
  ⟨fun k h0 h1 => by rw [hc k h0 h1]; exact h.1 k h0 h1, fun k h0 h1 => by rw [hc k h0 (by omega), hc (k + 1) (by omega) h1]; exact h.2 k h0 h1⟩
theorem cntF_c {co co' : Int → Int} {p s x : Int} (hp : 2 ≤ p) (hs : 0 < s) (hx : 0 ≤ x ∧ x ≤ (p - 1) * s) (hc : ∀ i : Int, 0 ≤ i → i < p → co' i = co i) : cntF co' p s x = cntF co p s x := by
  obtain ⟨d1, d2, d3, d4⟩ := div_bd hx.1 hx.2 hs hp
  unfold cntF
  rw [hc _ d1 (by omega), hc _ (by omega) (by omega)]
theorem shL_c {co co' : Int → Int} {s p : Int} (hc : ∀ i : Int, 0 ≤ i → i < p → co' i = co i) : ∀ k : Nat, (k : Int) ≤ p → shL co' s k = shL co s k := by
  intro k
  induction k with
  | zero => intro _; rfl
  | succ k ih =>
    intro hk
    show shL co' s k ++ offL co' s k = shL co s k ++ offL co s k
    rw [ih (by omega)]
    unfold offL
    rw [hc k (by omega) (by omega)]
/-- the pool of a point -/
theorem FgR.at {v : MsV} {F : FgV} (hG : GMs v) (h : FgR v F) {k : Int} (h0 : 0 ≤ k) (h1 : k < v.1) : ∃ j : Nat, j < (pls v).length ∧ F.2.2.2.2.2.1 k = j ∧ sumF F.2.2.2.1 0 j ≤ k ∧ k < sumF F.2.2.2.1 0 j + F.2.2.2.1 j ∧ F.2.2.1 (F.2.2.2.2.2.1 k) = sumF F.2.2.2.1 0 j := by
  have hs1 : ∀ i : Int, 0 ≤ i → i < (pls v).length → 1 ≤ F.2.2.2.1 i := fun i g1 g2 => (Rl_GB _ h.2.2.2.1 (pls_GB hG) i g1 g2).1
  obtain ⟨j, q1, q2, q3⟩ := in_pool (pls v).length hs1 k h0 (by rw [← Rl_sum _ h.2.2.2.1, pls_sz hG]; exact h1)
  have e := PO_at h.2.2.2.2.1 q1 q2 q3
  refine ⟨j, q1, e, q2, q3, ?_⟩
  rw [e]
  exact RF_sum _ h.2.2.2.1 h.2.2.1 j q1
/-! the ring -/
theorem WR.rem {S : CSt} {f g : Int → Int} (hG : CG S) (h : WR S f) (h1 : S.ct < 8 → ∀ i : Int, g i = if 468 + 117 * S.ct ≤ i ∧ i < 468 + 117 * S.ct + 117 then f (i - (468 + 117 * S.ct)) else f i)
    (h2 : S.ct = 8 → ∀ i : Int, g i = if 1287 ≤ i ∧ i < 1404 then f (i - 1287) else if 468 ≤ i ∧ i < 1287 then f (i + 117) else f i) : WR (sRem S) g := by
  obtain ⟨hn, hu, hk⟩ := h
  obtain ⟨bn, bc, bm⟩ := hG.2.2.1
  have low : ∀ i : Int, i < 468 → g i = f i := by
    intro i hi
    by_cases e : S.ct = 8
    · rw [h2 e, if_neg (by omega), if_neg (by omega)]
    · rw [h1 (by omega), if_neg (by omega)]
  refine ⟨hn.c hG.2.1 (fun j g0 g1 => low _ (by omega)), fun j g0 g1 => ?_, fun k g0 g1 g2 => (hk k g0 g1 g2).c (hG.2.2.2.1.2 k.toNat (by omega)) (fun j q0 q1 => low _ (by omega))⟩
  show Rx g (468 + 117 * j) (upN S.pm S.nxt.toNat S.now (ri (if S.nxt = 7 then 0 else S.nxt + 1) (if 8 ≤ S.ct then 8 else S.ct + 1) j)) S.now.1.1 S.now.1.2.1
  have g1' : j < (if 8 ≤ S.ct then 8 else S.ct + 1) := g1
  by_cases e : S.ct = 8
  · rw [if_pos (show 8 ≤ S.ct by omega)] at g1' ⊢
    by_cases ej : j = 7
    · have er : ri (if S.nxt = 7 then 0 else S.nxt + 1) 8 j = S.nxt.toNat := by
        unfold ri; split <;> omega
      rw [er, upN_s, ej]
      exact hn.c hG.2.1 (fun i q0 q1 => by rw [h2 e, if_pos (by omega)]; congr 1; omega)
    · have er : ri (if S.nxt = 7 then 0 else S.nxt + 1) 8 j = ri S.nxt S.ct (j + 1) := by
        unfold ri; rw [e]; split <;> omega
      have en : ri S.nxt S.ct (j + 1) ≠ S.nxt.toNat := by unfold ri; omega
      have e8 : ri S.nxt S.ct (j + 1) < 8 := by unfold ri; omega
      rw [er, upN_n en]
      exact (hu (j + 1) (by omega) (by omega)).c (bm _ e8) (fun i q0 q1 => by rw [h2 e, if_neg (by omega), if_pos (by omega)]; congr 1; omega)
  · rw [if_neg (show ¬ 8 ≤ S.ct by omega)] at g1' ⊢
    by_cases ej : j = S.ct
    · have er : ri (if S.nxt = 7 then 0 else S.nxt + 1) (S.ct + 1) j = S.nxt.toNat := by
        unfold ri; split <;> omega
      rw [er, upN_s, ej]
      exact hn.c hG.2.1 (fun i q0 q1 => by rw [h1 (by omega), if_pos (by omega)]; congr 1; omega)
    · have er : ri (if S.nxt = 7 then 0 else S.nxt + 1) (S.ct + 1) j = ri S.nxt S.ct j := by
        unfold ri; split <;> omega
      have en : ri S.nxt S.ct j ≠ S.nxt.toNat := by unfold ri; omega
      have e8 : ri S.nxt S.ct j < 8 := by unfold ri; omega
      rw [er, upN_n en]
      exact (hu j g0 (by omega)).c (bm _ e8) (fun i q0 q1 => by rw [h1 (by omega), if_neg (by omega)])
