/-! rows of letters: what is done to them, as functions -/
def shF (f : Int → Int) (k n : Int) : Int → Int := fun i => if k < i ∧ i ≤ n then f (i - 1) else f i
def insF (f : Int → Int) (n p l : Int) : Int → Int := upI (shF f p n) p l
def rmF (f : Int → Int) (a b k : Int) : Int → Int := fun i => if a ≤ i ∧ i < a + (k - b) then f (i + (b - a)) else f i
def rvF (f : Int → Int) (n k : Int) : Int → Int := fun i => if (0 ≤ i ∧ i < k) ∨ (n - k ≤ i ∧ i < n) then f (n - 1 - i) else f i
def apF (f g : Int → Int) (n m : Int) : Int → Int := fun i => if n ≤ i ∧ i < n + m then g (i - n) else f i
theorem shF_0 {f : Int → Int} {n : Int} : shF f n n = f := by
  funext i; unfold shF; rw [if_neg (by omega)]
theorem shF_step {f : Int → Int} {k n : Int} (h : k ≤ n) : upI (shF f k n) k (shF f k n (k - 1)) = shF f (k - 1) n := by
  funext i; simp only [upI, shF]; repeat' split
  all_goals first | rfl | (exfalso; omega) | (congr 1; omega)
theorem insF_n {f : Int → Int} {n l : Int} : insF f n n l = upI f n l := by unfold insF; rw [shF_0]
theorem rmF_0 {f : Int → Int} {a b : Int} : rmF f a b b = f := by
  funext i; unfold rmF; rw [if_neg (by omega)]
theorem rmF_step {f : Int → Int} {a b k : Int} (h1 : a ≤ b) (h : b ≤ k) : upI (rmF f a b k) (a + k - b) (rmF f a b k k) = rmF f a b (k + 1) := by
  funext i; simp only [upI, rmF]; repeat' split
  all_goals first | rfl | (exfalso; omega) | (congr 1; omega)
theorem rvF_0 {f : Int → Int} {n : Int} : rvF f n 0 = f := by
  funext i; unfold rvF; rw [if_neg (by omega)]
theorem rvF_step {f : Int → Int} {n k : Int} (h0 : 0 ≤ k) (h : 2 * (k + 1) ≤ n) : upI (upI (rvF f n k) k (rvF f n k (n - 1 - k))) (n - 1 - k) (rvF f n k k) = rvF f n (k + 1) := by
  funext i; simp only [upI, rvF]; repeat' split
  all_goals first | rfl | (exfalso; omega) | (congr 1; omega)
theorem apF_0 {f g : Int → Int} {n : Int} : apF f g n 0 = f := by
  funext i; unfold apF; rw [if_neg (by omega)]
theorem apF_step {f g : Int → Int} {n k : Int} (h : 0 ≤ k) : upI (apF f g n k) (n + k) (g k) = apF f g n (k + 1) := by
  funext i; simp only [upI, apF]; repeat' split
  all_goals first | rfl | (exfalso; omega) | (congr 1; omega)
/-- 0 ahead, 1 alike, 2 behind: from place k on, t places to compare -/
def ordF (f g : Int → Int) (n m : Int) : Nat → Int → Int
  | 0, _ => if n < m then 0 else if n = m then 1 else 2
  | t + 1, k => if f k = g k then ordF f g n m t (k + 1) else if f k < g k then 0 else 2
/-- are the t places from k on alike? -/
def eqF (f g : Int → Int) (a : Int) : Nat → Int → Bool
  | 0, _ => true
  | t + 1, k => decide (f (a + k) = g k) && eqF f g a t (k + 1)
/-- how often, at the t places from a on -/
def tmF (f g : Int → Int) (m : Nat) : Nat → Int → Int
  | 0, _ => 0
  | t + 1, a => (if eqF f g a m 0 = true then 1 else 0) + tmF f g m t (a + 1)
/-- the number of t digits from k on, v ahead of them; -1: one is none -/
def dgF (f : Int → Int) : Nat → Int → Int → Int
  | 0, _, v => v
  | t + 1, k, v => if 48 ≤ f k ∧ f k ≤ 57 then dgF f t (k + 1) (10 * v + f k - 48) else -1
