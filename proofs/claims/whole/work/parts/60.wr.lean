/-! what the rows show behind each call -/
theorem CG.rem {S : CSt} (hG : CG S) : CG (sRem S) := by
  obtain ⟨hnx, hct, hpm⟩ := hG.2.2.1
  refine ⟨hG.1, hG.2.1, ⟨?_, ?_, fun i hi => ?_⟩, hG.2.2.2⟩
  · show 0 ≤ (if S.nxt = 7 then 0 else S.nxt + 1) ∧ (if S.nxt = 7 then 0 else S.nxt + 1) < 8
    split <;> omega
  · show 0 ≤ (if 8 ≤ S.ct then 8 else S.ct + 1) ∧ (if 8 ≤ S.ct then 8 else S.ct + 1) ≤ 8
    split <;> omega
  · show GMo (upN S.pm S.nxt.toNat S.now i)
    by_cases e : i = S.nxt.toNat
    · rw [e, upN_s]; exact hG.2.1
    · rw [upN_n e]; exact hpm i hi
theorem ri_lt {nx ct j : Int} : ri nx ct j < 8 := by unfold ri; omega
theorem WR.new {S : CSt} {f f' : Int → Int} {w : MoV} (h : WR S f) (hG : CG S) (h0 : Rx f' 0 w S.now.1.1 S.now.1.2.1) (hc : ∀ i : Int, 117 ≤ i → f' i = f i) : WR (sNow S w) f' := by
  obtain ⟨hn, hu, hk⟩ := h
  obtain ⟨r1, r2, r3, r4⟩ := h0
  have e1 : (sNow S w).now.1.1 = S.now.1.1 := r3
  have e2 : (sNow S w).now.1.2.1 = S.now.1.2.1 := r4
  refine ⟨⟨r1, r2, rfl, rfl⟩, fun j g0 g1 => ?_, fun k g0 g1 g2 => ?_⟩
  · rw [e1, e2]
    exact (hu j g0 g1).c (hG.2.2.1.2.2 _ ri_lt) (fun i q0 q1 => hc _ (by omega))
  · rw [e1, e2]
    exact (hk k g0 g1 g2).c (hG.2.2.2.1.2 k.toNat (by omega)) (fun i q0 q1 => hc _ (by omega))
theorem WR.ms {S : CSt} {f f' : Int → Int} {v : MsV} (h : WR S f) (hG : CG S) (hR : Rw f' 0 v) (e1 : v.1 = S.now.1.1) (e2 : v.2.1 = S.now.1.2.1) (hc : ∀ i : Int, 112 ≤ i → f' i = f i) : WR (sNow S (v, S.now.2)) f' :=
  h.new hG ⟨hR, h.1.2.1.c (fun j q0 q1 => hc _ (by omega)), e1, e2⟩ (fun i hi => hc i (by omega))
theorem WR.c {S : CSt} {f f' : Int → Int} (h : WR S f) (hG : CG S) (hc : ∀ i : Int, (0 ≤ i ∧ i < 117) ∨ 234 ≤ i → f' i = f i) : WR S f' := by
  obtain ⟨hn, hu, hk⟩ := h
  exact ⟨hn.c hG.2.1 (fun j q0 q1 => hc _ (by omega)), fun j g0 g1 => (hu j g0 g1).c (hG.2.2.1.2.2 _ ri_lt) (fun i q0 q1 => hc _ (by omega)), fun k g0 g1 g2 => (hk k g0 g1 g2).c (hG.2.2.2.1.2 k.toNat (by omega)) (fun i q0 q1 => hc _ (by omega))⟩
theorem Rw.clr {f : Int → Int} {v : MsV} {T : Int} (h : Rw f 0 v) (hG : GMs v) (hT : 0 ≤ T ∧ T < 16) : Rw (upI f T 0) 0 (v.1, v.2.1, upI v.2.2.1 T 0, v.2.2.2) := by
  refine ⟨fun t g0 g1 => ?_, fun t j g0 g1 g2 g3 => ?_, fun t g0 g1 => ?_⟩
  · show upI f T 0 (0 + t) = upI v.2.2.1 T 0 t
    by_cases e : t = T
    · rw [e, show 0 + T = T by omega, upI_s, upI_s]
    · rw [upI_n (by omega), upI_n e]; exact h.1 t g0 g1
  · have g3' : j < upI v.2.2.1 T 0 t := g3
    show upI f T 0 (0 + 16 + 6 * t + j) = v.2.2.2 (t * 6 + j)
    by_cases e : t = T
    · rw [e, upI_s] at g3'; omega
    · rw [upI_n e] at g3'
      rw [upI_n (by omega)]
      exact h.2.1 t j g0 g1 g2 g3'
  · show upI v.2.2.1 T 0 t = 0
    by_cases e : t = T
    · rw [e, upI_s]
    · rw [upI_n e]; exact h.2.2 t g0 g1
theorem WR.und {S : CSt} {f : Int → Int} (h : WR S f) (hG : CG S) (h0 : S.ct ≠ 0) : WR (sUnd S) (cpI f f (468 + 117 * (S.ct - 1)) 0 117) := by
  obtain ⟨hn, hu, hk⟩ := h
  obtain ⟨bn, bc, bm⟩ := hG.2.2.1
  have eb : ri S.nxt S.ct (S.ct - 1) = (bkI S.nxt).toNat := by unfold ri bkI; split <;> omega
  have hl := hu (S.ct - 1) (by omega) (by omega)
  rw [eb] at hl
  have e1 : (sUnd S).now.1.1 = S.now.1.1 := hl.2.2.1
  have e2 : (sUnd S).now.1.2.1 = S.now.1.2.1 := hl.2.2.2
  have hb8 : (bkI S.nxt).toNat < 8 := by unfold bkI; split <;> omega
  have out : ∀ i : Int, 117 ≤ i → cpI f f (468 + 117 * (S.ct - 1)) 0 117 i = f i := fun i hi => cpI_out (by omega)
  refine ⟨?_, fun j g0 g1 => ?_, fun k g0 g1 g2 => ?_⟩
  · rw [e1, e2]
    exact hl.c (bm _ hb8) (fun j q0 q1 => by rw [cpI_in (by omega)]; congr 1; omega)
  · rw [e1, e2]
    have g1' : j < S.ct - 1 := g1
    have er : ri (bkI S.nxt) (S.ct - 1) j = ri S.nxt S.ct j := by unfold ri bkI; split <;> omega
    show Rx _ _ (S.pm (ri (bkI S.nxt) (S.ct - 1) j)) _ _
    rw [er]
    exact (hu j g0 (by omega)).c (bm _ ri_lt) (fun i q0 q1 => out _ (by omega))
  · rw [e1, e2]
    exact (hk k g0 g1 g2).c (hG.2.2.2.1.2 k.toNat (by omega)) (fun i q0 q1 => out _ (by omega))
theorem WR.kep {S : CSt} {f : Int → Int} {k : Int} (h : WR S f) (hG : CG S) (hk2 : 0 ≤ k ∧ k < 2) : WR (sKep S k) (cpI f f 0 (234 + 117 * k) 117) := by
  obtain ⟨hn, hu, hk⟩ := h
  refine ⟨hn.c hG.2.1 (fun j q0 q1 => cpI_out (by omega)), fun j g0 g1 => (hu j g0 g1).c (hG.2.2.1.2.2 _ ri_lt) (fun i q0 q1 => cpI_out (by omega)), fun i g0 g1 g2 => ?_⟩
  show Rx _ (234 + 117 * i) (upN S.km k.toNat S.now i.toNat) S.now.1.1 S.now.1.2.1
  have g2' : upI S.ik k 1 i ≠ 0 := g2
  by_cases e : i = k
  · rw [e, upN_s]
    exact hn.c hG.2.1 (fun j q0 q1 => by rw [cpI_in (by omega)]; congr 1; omega)
  · rw [upI_n e] at g2'
    rw [upN_n (by omega)]
    exact (hk i g0 g1 g2').c (hG.2.2.2.1.2 i.toNat (by omega)) (fun j q0 q1 => cpI_out (by omega))
theorem WR.bck {S : CSt} {f : Int → Int} {k : Int} (h : WR S f) (hG : CG S) (hk2 : 0 ≤ k ∧ k < 2) (hi : S.ik k ≠ 0) : WR (sNoP (sNow S (S.km k.toNat))) (cpI f f (234 + 117 * k) 0 117) := by
  obtain ⟨hn, hu, hk⟩ := h
  have hl := hk k hk2.1 hk2.2 hi
  have e1 : (sNoP (sNow S (S.km k.toNat))).now.1.1 = S.now.1.1 := hl.2.2.1
  have e2 : (sNoP (sNow S (S.km k.toNat))).now.1.2.1 = S.now.1.2.1 := hl.2.2.2
  refine ⟨?_, fun j g0 g1 => ?_, fun i g0 g1 g2 => ?_⟩
  · rw [e1, e2]
    exact hl.c (hG.2.2.2.1.2 k.toNat (by omega)) (fun j q0 q1 => by rw [cpI_in (by omega)]; congr 1; omega)
  · have g1' : j < (0 : Int) := g1
    omega
  · rw [e1, e2]
    exact (hk i g0 g1 g2).c (hG.2.2.2.1.2 i.toNat (by omega)) (fun j q0 q1 => cpI_out (by omega))
theorem rfR_u {p a b c : Int} (h : ¬ (0 ≤ a ∧ a < p)) : rfR p a b c = -100001 := if_pos h
theorem rfR_o {p a b c : Int} (h : 0 ≤ a ∧ a < p) (h2 : ¬ ((b = 0 ∨ b = 1) ∧ -40 ≤ c ∧ c ≤ 40)) : rfR p a b c = -100002 := by
  unfold rfR
  rw [if_neg (fun z => z h), if_neg h2]
theorem rfR_z {p a b c : Int} (h : 0 ≤ a ∧ a < p) (h2 : (b = 0 ∨ b = 1) ∧ -40 ≤ c ∧ c ≤ 40) : rfR p a b c = 0 := by
  unfold rfR
  rw [if_neg (fun z => z h), if_pos h2]
