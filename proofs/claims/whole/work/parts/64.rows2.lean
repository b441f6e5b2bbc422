/-! the reference's letters: a label's row among them -/
def rowU (lt : Int → Int) (a : Int) (g : Int → Int) : Int → Int := fun i => if 24 * a ≤ i ∧ i < 24 * a + 24 then g (i - 24 * a) else lt i
theorem rowU_r {lt g : Int → Int} {a k : Int} (h : 0 ≤ k ∧ k < 24) : rowU lt a g (24 * a + k) = g k := by
  unfold rowU
  rw [if_pos (by omega), show 24 * a + k - 24 * a = k by omega]
theorem rowU_up {lt g : Int → Int} {a k v : Int} (h : 0 ≤ k ∧ k < 24) : upI (rowU lt a g) (24 * a + k) v = rowU lt a (upI g k v) := by
  funext i
  by_cases e : i = 24 * a + k
  · rw [e, upI_s, rowU_r h, upI_s]
  · rw [upI_n e]
    unfold rowU
    split
    · rw [upI_n (by omega)]
    · rfl
theorem rowU_o {lt g : Int → Int} {a b k : Int} (hab : a ≠ b) (h : 0 ≤ k ∧ k < 24) : rowU lt a g (24 * b + k) = lt (24 * b + k) := if_neg (by omega)
theorem rowU_ext {S : CSt} {sz lt : Int → Int} {a : Int} (hL : LR S sz lt) (ha : 0 ≤ a ∧ a < 3) : ∀ i : Int, 0 ≤ i → i < (72 : Nat) → rowU lt a (S.lf a.toNat) i = lt i := by
  intro i h0 h1
  unfold rowU
  split
  · next h => rw [← hL.2 a (i - 24 * a) ha.1 ha.2 (by omega) (by omega)]; congr 1; omega
  · rfl
theorem LR.row {S : CSt} {sz lt g : Int → Int} {a n : Int} (h : LR S sz lt) (ha : 0 ≤ a ∧ a < 3) (hi : S.it a ≠ 0) : LR (sLab S S.it (upN S.ln a.toNat n) (upN S.lf a.toNat g)) (upI sz a n) (rowU lt a g) := by
  refine ⟨fun l h0 h1 => ?_, fun l j h0 h1 h2 h3 => ?_⟩
  · show upI sz a n l = if S.it l = 0 then -1 else upN S.ln a.toNat n l.toNat
    by_cases e : l = a
    · rw [e, upI_s, if_neg hi, upN_s]
    · rw [upI_n e, upN_n (by omega)]; exact h.1 l h0 h1
  · show rowU lt a g (24 * l + j) = upN S.lf a.toNat g l.toNat j
    by_cases e : l = a
    · rw [e, rowU_r ⟨h2, h3⟩, upN_s]
    · rw [rowU_o (fun q => e q.symm) ⟨h2, h3⟩, upN_n (by omega)]; exact h.2 l j h0 h1 h2 h3
theorem LR.it {S : CSt} {sz lt : Int → Int} {a n z m : Int} (h : LR S sz lt) (ha : 0 ≤ a ∧ a < 3) (hm : m = if z = 0 then -1 else n) : LR (sLab S (upI S.it a z) (upN S.ln a.toNat n) (upN S.lf a.toNat (S.lf a.toNat))) (upI sz a m) lt := by
  refine ⟨fun l h0 h1 => ?_, fun l j h0 h1 h2 h3 => ?_⟩
  · show upI sz a m l = if upI S.it a z l = 0 then -1 else upN S.ln a.toNat n l.toNat
    by_cases e : l = a
    · rw [e, upI_s, upI_s, upN_s]; exact hm
    · rw [upI_n e, upI_n e, upN_n (by omega)]; exact h.1 l h0 h1
  · show lt (24 * l + j) = upN S.lf a.toNat (S.lf a.toNat) l.toNat j
    by_cases e : l = a
    · rw [e, upN_s, h.2 a j ha.1 ha.2 h2 h3]
    · rw [upN_n (by omega)]; exact h.2 l j h0 h1 h2 h3
theorem LR.no {S : CSt} {sz lt : Int → Int} {a : Int} (h : LR S sz lt) (ha : 0 ≤ a ∧ a < 3) (hi : S.it a = 0) : LR S (upI sz a (-1)) lt := by
  refine ⟨fun l h0 h1 => ?_, h.2⟩
  by_cases e : l = a
  · rw [e, upI_s, if_pos hi]
  · rw [upI_n e]; exact h.1 l h0 h1
theorem rfL_u {it : Int → Int} {a : Int} (h : ¬ (0 ≤ a ∧ a < 3)) : rfL it a = -100001 := if_pos h
theorem rfL_n {it : Int → Int} {a : Int} (h : 0 ≤ a ∧ a < 3) (h2 : it a = 0) : rfL it a = -100011 := by
  unfold rfL; rw [if_neg (fun z => z h), if_pos h2]
theorem rfL_z {it : Int → Int} {a : Int} (h : 0 ≤ a ∧ a < 3) (h2 : it a ≠ 0) : rfL it a = 0 := by
  unfold rfL; rw [if_neg (fun z => z h), if_neg h2]
theorem rf2_u {it : Int → Int} {a b : Int} (h : ¬ ((0 ≤ a ∧ a < 3) ∧ 0 ≤ b ∧ b < 3)) : rf2 it a b = -100001 := if_pos h
theorem rf2_n {it : Int → Int} {a b : Int} (h : (0 ≤ a ∧ a < 3) ∧ 0 ≤ b ∧ b < 3) (h2 : it a = 0 ∨ it b = 0) : rf2 it a b = -100011 := by
  unfold rf2; rw [if_neg (fun z => z h), if_pos h2]
theorem rf2_z {it : Int → Int} {a b : Int} (h : (0 ≤ a ∧ a < 3) ∧ 0 ≤ b ∧ b < 3) (h2 : ¬ (it a = 0 ∨ it b = 0)) : rf2 it a b = 0 := by
  unfold rf2; rw [if_neg (fun z => z h), if_neg h2]
