/-- X6_isWay -/
theorem ct_X6_isWay {x : CM} {d N : Nat} {σ : PH} {Q : PQ} {a : Int} (ha : inR a) (ht : (a = 0 ∨ a = 1) → Q (some (vI 1)) σ) (hf : ¬ ((a = 0 ∨ a = 1)) → Q (some (vI 0)) σ) : Call x d 0 0 mX6_isWay [vI a] N σ Q := by
  refine Call.of mcX6_isWay (Nat.le_of_ble_eq_true rfl) (fun y hy => ?_)
  subst hy
  refine P.iload_n (dq dtX6_isWay 0 rfl) rfl ?_
  refine P.if_eq (t := 9) (dq dtX6_isWay 1 rfl) rfl (by omega) (fun c_1 => ?_) (fun c_1 => ?_)
  · refine P.iconst (dq dtX6_isWay 5 rfl) ?_
    refine P.goto (t := 14) (dq dtX6_isWay 6 rfl) rfl ?_
    refine P.zret (dq dtX6_isWay 8 rfl) rfl rfl (by decide) rfl ?_
    first | exact ht (by omega) | exact hf (by omega)
  · refine P.iload_n (dq dtX6_isWay 2 rfl) rfl ?_
    refine P.iconst (dq dtX6_isWay 3 rfl) ?_
    refine P.icmp_ne (t := 13) (dq dtX6_isWay 4 rfl) rfl (by omega) (by omega) (fun c_6 => ?_) (fun c_6 => ?_)
    · refine P.iconst (dq dtX6_isWay 7 rfl) ?_
      refine P.zret (dq dtX6_isWay 8 rfl) rfl rfl (by decide) rfl ?_
      first | exact ht (by omega) | exact hf (by omega)
    · refine P.iconst (dq dtX6_isWay 5 rfl) ?_
      refine P.goto (t := 14) (dq dtX6_isWay 6 rfl) rfl ?_
      refine P.zret (dq dtX6_isWay 8 rfl) rfl rfl (by decide) rfl ?_
      first | exact ht (by omega) | exact hf (by omega)
/-- X6_isPart -/
theorem ct_X6_isPart {x : CM} {d N : Nat} {σ : PH} {Q : PQ} {a : Int} (ha : inR a) (ht : (a = 0 ∨ a = 1) → Q (some (vI 1)) σ) (hf : ¬ ((a = 0 ∨ a = 1)) → Q (some (vI 0)) σ) : Call x d 0 0 mX6_isPart [vI a] N σ Q := by
  refine Call.of mcX6_isPart (Nat.le_of_ble_eq_true rfl) (fun y hy => ?_)
  subst hy
  refine P.iload_n (dq dtX6_isPart 0 rfl) rfl ?_
  refine P.if_eq (t := 9) (dq dtX6_isPart 1 rfl) rfl (by omega) (fun c_1 => ?_) (fun c_1 => ?_)
  · refine P.iconst (dq dtX6_isPart 5 rfl) ?_
    refine P.goto (t := 14) (dq dtX6_isPart 6 rfl) rfl ?_
    refine P.zret (dq dtX6_isPart 8 rfl) rfl rfl (by decide) rfl ?_
    first | exact ht (by omega) | exact hf (by omega)
  · refine P.iload_n (dq dtX6_isPart 2 rfl) rfl ?_
    refine P.iconst (dq dtX6_isPart 3 rfl) ?_
    refine P.icmp_ne (t := 13) (dq dtX6_isPart 4 rfl) rfl (by omega) (by omega) (fun c_6 => ?_) (fun c_6 => ?_)
    · refine P.iconst (dq dtX6_isPart 7 rfl) ?_
      refine P.zret (dq dtX6_isPart 8 rfl) rfl rfl (by decide) rfl ?_
      first | exact ht (by omega) | exact hf (by omega)
    · refine P.iconst (dq dtX6_isPart 5 rfl) ?_
      refine P.goto (t := 14) (dq dtX6_isPart 6 rfl) rfl ?_
      refine P.zret (dq dtX6_isPart 8 rfl) rfl rfl (by decide) rfl ?_
      first | exact ht (by omega) | exact hf (by omega)
/-- X6_isLabel -/
theorem ct_X6_isLabel {x : CM} {d N : Nat} {σ : PH} {Q : PQ} {a : Int} (ha : inR a) (ht : (0 ≤ a ∧ a < 3) → Q (some (vI 1)) σ) (hf : ¬ ((0 ≤ a ∧ a < 3)) → Q (some (vI 0)) σ) : Call x d 0 0 mX6_isLabel [vI a] N σ Q := by
  refine Call.of mcX6_isLabel (Nat.le_of_ble_eq_true rfl) (fun y hy => ?_)
  subst hy
  refine P.iload_n (dq dtX6_isLabel 0 rfl) rfl ?_
  refine P.if_lt (t := 13) (dq dtX6_isLabel 1 rfl) rfl (by omega) (fun c_1 => ?_) (fun c_1 => ?_)
  · refine P.iconst (dq dtX6_isLabel 7 rfl) ?_
    refine P.zret (dq dtX6_isLabel 8 rfl) rfl rfl (by decide) rfl ?_
    first | exact ht (by omega) | exact hf (by omega)
  · refine P.iload_n (dq dtX6_isLabel 2 rfl) rfl ?_
    refine P.iconst (dq dtX6_isLabel 3 rfl) ?_
    refine P.icmp_ge (t := 13) (dq dtX6_isLabel 4 rfl) rfl (by omega) (by omega) (fun c_6 => ?_) (fun c_6 => ?_)
    · refine P.iconst (dq dtX6_isLabel 7 rfl) ?_
      refine P.zret (dq dtX6_isLabel 8 rfl) rfl rfl (by decide) rfl ?_
      first | exact ht (by omega) | exact hf (by omega)
    · refine P.iconst (dq dtX6_isLabel 5 rfl) ?_
      refine P.goto (t := 14) (dq dtX6_isLabel 6 rfl) rfl ?_
      refine P.zret (dq dtX6_isLabel 8 rfl) rfl rfl (by decide) rfl ?_
      first | exact ht (by omega) | exact hf (by omega)
/-- X6_isDigit -/
theorem ct_X6_isDigit {x : CM} {d N : Nat} {σ : PH} {Q : PQ} {a : Int} (ha : inR a) (ht : (48 ≤ a ∧ a ≤ 57) → Q (some (vI 1)) σ) (hf : ¬ ((48 ≤ a ∧ a ≤ 57)) → Q (some (vI 0)) σ) : Call x d 0 0 mX6_isDigit [vI a] N σ Q := by
  refine Call.of mcX6_isDigit (Nat.le_of_ble_eq_true rfl) (fun y hy => ?_)
  subst hy
  refine P.iload_n (dq dtX6_isDigit 0 rfl) rfl ?_
  refine P.bipush (dq dtX6_isDigit 1 rfl) rfl ?_
  refine P.icmp_lt (t := 16) (dq dtX6_isDigit 2 rfl) rfl (by omega) (by omega) (fun c_3 => ?_) (fun c_3 => ?_)
  · refine P.iconst (dq dtX6_isDigit 8 rfl) ?_
    refine P.zret (dq dtX6_isDigit 9 rfl) rfl rfl (by decide) rfl ?_
    first | exact ht (by omega) | exact hf (by omega)
  · refine P.iload_n (dq dtX6_isDigit 3 rfl) rfl ?_
    refine P.bipush (dq dtX6_isDigit 4 rfl) rfl ?_
    refine P.icmp_gt (t := 16) (dq dtX6_isDigit 5 rfl) rfl (by omega) (by omega) (fun c_9 => ?_) (fun c_9 => ?_)
    · refine P.iconst (dq dtX6_isDigit 8 rfl) ?_
      refine P.zret (dq dtX6_isDigit 9 rfl) rfl rfl (by decide) rfl ?_
      first | exact ht (by omega) | exact hf (by omega)
    · refine P.iconst (dq dtX6_isDigit 6 rfl) ?_
      refine P.goto (t := 17) (dq dtX6_isDigit 7 rfl) rfl ?_
      refine P.zret (dq dtX6_isDigit 9 rfl) rfl rfl (by decide) rfl ?_
      first | exact ht (by omega) | exact hf (by omega)
/-- X6_isSmallLetter -/
theorem ct_X6_isSmallLetter {x : CM} {d N : Nat} {σ : PH} {Q : PQ} {a : Int} (ha : inR a) (ht : (97 ≤ a ∧ a ≤ 122) → Q (some (vI 1)) σ) (hf : ¬ ((97 ≤ a ∧ a ≤ 122)) → Q (some (vI 0)) σ) : Call x d 0 0 mX6_isSmallLetter [vI a] N σ Q := by
  refine Call.of mcX6_isSmallLetter (Nat.le_of_ble_eq_true rfl) (fun y hy => ?_)
  subst hy
  refine P.iload_n (dq dtX6_isSmallLetter 0 rfl) rfl ?_
  refine P.bipush (dq dtX6_isSmallLetter 1 rfl) rfl ?_
  refine P.icmp_lt (t := 16) (dq dtX6_isSmallLetter 2 rfl) rfl (by omega) (by omega) (fun c_3 => ?_) (fun c_3 => ?_)
  · refine P.iconst (dq dtX6_isSmallLetter 8 rfl) ?_
    refine P.zret (dq dtX6_isSmallLetter 9 rfl) rfl rfl (by decide) rfl ?_
    first | exact ht (by omega) | exact hf (by omega)
  · refine P.iload_n (dq dtX6_isSmallLetter 3 rfl) rfl ?_
    refine P.bipush (dq dtX6_isSmallLetter 4 rfl) rfl ?_
    refine P.icmp_gt (t := 16) (dq dtX6_isSmallLetter 5 rfl) rfl (by omega) (by omega) (fun c_9 => ?_) (fun c_9 => ?_)
    · refine P.iconst (dq dtX6_isSmallLetter 8 rfl) ?_
      refine P.zret (dq dtX6_isSmallLetter 9 rfl) rfl rfl (by decide) rfl ?_
      first | exact ht (by omega) | exact hf (by omega)
    · refine P.iconst (dq dtX6_isSmallLetter 6 rfl) ?_
      refine P.goto (t := 17) (dq dtX6_isSmallLetter 7 rfl) rfl ?_
      refine P.zret (dq dtX6_isSmallLetter 9 rfl) rfl rfl (by decide) rfl ?_
      first | exact ht (by omega) | exact hf (by omega)
/-- X7_in -/
theorem ct_X7_in {x : CM} {d N : Nat} {σ : PH} {Q : PQ} {a lo hi : Int} (ha : inR a) (hlo : inR lo) (hhi : inR hi) (ht : (lo ≤ a ∧ a ≤ hi) → Q (some (vI 1)) σ) (hf : ¬ ((lo ≤ a ∧ a ≤ hi)) → Q (some (vI 0)) σ) : Call x d 0 0 mX7_in [vL a, vL lo, vL hi] N σ Q := by
  refine Call.of mcX7_in (Nat.le_of_ble_eq_true rfl) (fun y hy => ?_)
  subst hy
  refine P.lload_n (dq dtX7_in 0 rfl) rfl ?_
  refine P.lload_n (dq dtX7_in 1 rfl) rfl ?_
  refine P.lcmp (dq dtX7_in 2 rfl) ha hlo ?_
  refine P.if_lt (t := 17) (dq dtX7_in 3 rfl) rfl (by split <;> (try split) <;> decide) (fun c_3 => ?_) (fun c_3 => ?_)
  · refine P.iconst (dq dtX7_in 10 rfl) ?_
    refine P.zret (dq dtX7_in 11 rfl) rfl rfl (by decide) rfl ?_
    first | exact ht (by constructor <;> (by_cases q1 : lo < a <;> by_cases q2 : a = lo <;> by_cases q3 : hi < a <;> simp_all <;> omega)) | exact hf (by by_cases q1 : lo < a <;> by_cases q2 : a = lo <;> by_cases q3 : hi < a <;> by_cases q4 : a = hi <;> simp_all <;> omega)
  · refine P.lload_n (dq dtX7_in 4 rfl) rfl ?_
    refine P.lload (dq dtX7_in 5 rfl) rfl ?_
    refine P.lcmp (dq dtX7_in 6 rfl) ha hhi ?_
    refine P.if_gt (t := 17) (dq dtX7_in 7 rfl) rfl (by split <;> (try split) <;> decide) (fun c_10 => ?_) (fun c_10 => ?_)
    · refine P.iconst (dq dtX7_in 10 rfl) ?_
      refine P.zret (dq dtX7_in 11 rfl) rfl rfl (by decide) rfl ?_
      first | exact ht (by constructor <;> (by_cases q1 : lo < a <;> by_cases q2 : a = lo <;> by_cases q3 : hi < a <;> simp_all <;> omega)) | exact hf (by by_cases q1 : lo < a <;> by_cases q2 : a = lo <;> by_cases q3 : hi < a <;> by_cases q4 : a = hi <;> simp_all <;> omega)
    · refine P.iconst (dq dtX7_in 8 rfl) ?_
      refine P.goto (t := 18) (dq dtX7_in 9 rfl) rfl ?_
      refine P.zret (dq dtX7_in 11 rfl) rfl rfl (by decide) rfl ?_
      first | exact ht (by constructor <;> (by_cases q1 : lo < a <;> by_cases q2 : a = lo <;> by_cases q3 : hi < a <;> simp_all <;> omega)) | exact hf (by by_cases q1 : lo < a <;> by_cases q2 : a = lo <;> by_cases q3 : hi < a <;> by_cases q4 : a = hi <;> simp_all <;> omega)
/-- X7_isWay -/
theorem ct_X7_isWay {x : CM} {d N : Nat} {σ : PH} {Q : PQ} {a : Int} (hd : 1 ≤ d) (ha : inR a) (ht : (0 ≤ a ∧ a ≤ 1) → Q (some (vI 1)) σ) (hf : ¬ ((0 ≤ a ∧ a ≤ 1)) → Q (some (vI 0)) σ) : Call x d 0 0 mX7_isWay [vI a] N σ Q := by
  refine Call.of mcX7_isWay (Nat.le_of_ble_eq_true rfl) (fun y hy => ?_)
  subst hy
  refine P.iload_n (dq dtX7_isWay 0 rfl) rfl ?_
  refine P.i2l (dq dtX7_isWay 1 rfl) (by omega) ?_
  refine P.lconst (z := 0) (dq dtX7_isWay 2 rfl) rfl ?_
  refine P.lconst (z := 1) (dq dtX7_isWay 3 rfl) rfl ?_
  refine P.callS3 (M' := mX7_in) (d' := d - 1) mlX7_65 mcX7_in msX7_in (dq dtX7_isWay 4 rfl) (by omega) (Nat.le_of_ble_eq_true rfl) ?_
  refine ct_X7_in (by omega) (by omega) (by omega) (fun n_4 => ?_) (fun n_4 => ?_)
  · refine P.zret (dq dtX7_isWay 5 rfl) rfl rfl (by decide) rfl ?_
    first | exact ht (by omega) | exact hf (by omega)
  · refine P.zret (dq dtX7_isWay 5 rfl) rfl rfl (by decide) rfl ?_
    first | exact ht (by omega) | exact hf (by omega)
/-- X7_isErr -/
theorem ct_X7_isErr {x : CM} {d N : Nat} {σ : PH} {Q : PQ} {a : Int} (hd : 1 ≤ d) (ha : inR a) (ht : (-40 ≤ a ∧ a ≤ 40) → Q (some (vI 1)) σ) (hf : ¬ ((-40 ≤ a ∧ a ≤ 40)) → Q (some (vI 0)) σ) : Call x d 0 0 mX7_isErr [vI a] N σ Q := by
  refine Call.of mcX7_isErr (Nat.le_of_ble_eq_true rfl) (fun y hy => ?_)
  subst hy
  refine P.iload_n (dq dtX7_isErr 0 rfl) rfl ?_
  refine P.i2l (dq dtX7_isErr 1 rfl) (by omega) ?_
  refine P.ldc2 (n := -40) (dq dtX7_isErr 2 rfl) kcX7_69 rfl ?_
  refine P.ldc2 (n := 40) (dq dtX7_isErr 3 rfl) kcX7_71 rfl ?_
  refine P.callS3 (M' := mX7_in) (d' := d - 1) mlX7_65 mcX7_in msX7_in (dq dtX7_isErr 4 rfl) (by omega) (Nat.le_of_ble_eq_true rfl) ?_
  refine ct_X7_in (by omega) (by omega) (by omega) (fun n_8 => ?_) (fun n_8 => ?_)
  · refine P.zret (dq dtX7_isErr 5 rfl) rfl rfl (by decide) rfl ?_
    first | exact ht (by omega) | exact hf (by omega)
  · refine P.zret (dq dtX7_isErr 5 rfl) rfl rfl (by decide) rfl ?_
    first | exact ht (by omega) | exact hf (by omega)
/-- X7_isLabel -/
theorem ct_X7_isLabel {x : CM} {d N : Nat} {σ : PH} {Q : PQ} {a : Int} (hd : 1 ≤ d) (ha : inR a) (ht : (0 ≤ a ∧ a ≤ 2) → Q (some (vI 1)) σ) (hf : ¬ ((0 ≤ a ∧ a ≤ 2)) → Q (some (vI 0)) σ) : Call x d 0 0 mX7_isLabel [vI a] N σ Q := by
  refine Call.of mcX7_isLabel (Nat.le_of_ble_eq_true rfl) (fun y hy => ?_)
  subst hy
  refine P.iload_n (dq dtX7_isLabel 0 rfl) rfl ?_
  refine P.i2l (dq dtX7_isLabel 1 rfl) (by omega) ?_
  refine P.lconst (z := 0) (dq dtX7_isLabel 2 rfl) rfl ?_
  refine P.ldc2 (n := 2) (dq dtX7_isLabel 3 rfl) kcX7_196 rfl ?_
  refine P.callS3 (M' := mX7_in) (d' := d - 1) mlX7_65 mcX7_in msX7_in (dq dtX7_isLabel 4 rfl) (by omega) (Nat.le_of_ble_eq_true rfl) ?_
  refine ct_X7_in (by omega) (by omega) (by omega) (fun n_6 => ?_) (fun n_6 => ?_)
  · refine P.zret (dq dtX7_isLabel 5 rfl) rfl rfl (by decide) rfl ?_
    first | exact ht (by omega) | exact hf (by omega)
  · refine P.zret (dq dtX7_isLabel 5 rfl) rfl rfl (by decide) rfl ?_
    first | exact ht (by omega) | exact hf (by omega)
/-- X7_isSmall -/
theorem ct_X7_isSmall {x : CM} {d N : Nat} {σ : PH} {Q : PQ} {a : Int} (hd : 1 ≤ d) (ha : inR a) (ht : (97 ≤ a ∧ a ≤ 122) → Q (some (vI 1)) σ) (hf : ¬ ((97 ≤ a ∧ a ≤ 122)) → Q (some (vI 0)) σ) : Call x d 0 0 mX7_isSmall [vI a] N σ Q := by
  refine Call.of mcX7_isSmall (Nat.le_of_ble_eq_true rfl) (fun y hy => ?_)
  subst hy
  refine P.iload_n (dq dtX7_isSmall 0 rfl) rfl ?_
  refine P.i2l (dq dtX7_isSmall 1 rfl) (by omega) ?_
  refine P.ldc2 (n := 97) (dq dtX7_isSmall 2 rfl) kcX7_80 rfl ?_
  refine P.ldc2 (n := 122) (dq dtX7_isSmall 3 rfl) kcX7_82 rfl ?_
  refine P.callS3 (M' := mX7_in) (d' := d - 1) mlX7_65 mcX7_in msX7_in (dq dtX7_isSmall 4 rfl) (by omega) (Nat.le_of_ble_eq_true rfl) ?_
  refine ct_X7_in (by omega) (by omega) (by omega) (fun n_8 => ?_) (fun n_8 => ?_)
  · refine P.zret (dq dtX7_isSmall 5 rfl) rfl rfl (by decide) rfl ?_
    first | exact ht (by omega) | exact hf (by omega)
  · refine P.zret (dq dtX7_isSmall 5 rfl) rfl rfl (by decide) rfl ?_
    first | exact ht (by omega) | exact hf (by omega)
/-- X7_isDigit -/
theorem ct_X7_isDigit {x : CM} {d N : Nat} {σ : PH} {Q : PQ} {a : Int} (hd : 1 ≤ d) (ha : inR a) (ht : (48 ≤ a ∧ a ≤ 57) → Q (some (vI 1)) σ) (hf : ¬ ((48 ≤ a ∧ a ≤ 57)) → Q (some (vI 0)) σ) : Call x d 0 0 mX7_isDigit [vI a] N σ Q := by
  refine Call.of mcX7_isDigit (Nat.le_of_ble_eq_true rfl) (fun y hy => ?_)
  subst hy
  refine P.iload_n (dq dtX7_isDigit 0 rfl) rfl ?_
  refine P.i2l (dq dtX7_isDigit 1 rfl) (by omega) ?_
  refine P.ldc2 (n := 48) (dq dtX7_isDigit 2 rfl) kcX7_84 rfl ?_
  refine P.ldc2 (n := 57) (dq dtX7_isDigit 3 rfl) kcX7_86 rfl ?_
  refine P.callS3 (M' := mX7_in) (d' := d - 1) mlX7_65 mcX7_in msX7_in (dq dtX7_isDigit 4 rfl) (by omega) (Nat.le_of_ble_eq_true rfl) ?_
  refine ct_X7_in (by omega) (by omega) (by omega) (fun n_8 => ?_) (fun n_8 => ?_)
  · refine P.zret (dq dtX7_isDigit 5 rfl) rfl rfl (by decide) rfl ?_
    first | exact ht (by omega) | exact hf (by omega)
  · refine P.zret (dq dtX7_isDigit 5 rfl) rfl rfl (by decide) rfl ?_
    first | exact ht (by omega) | exact hf (by omega)
/-- Math.max -/
theorem ct_max {x : CM} {d N : Nat} {σ : PH} {Q : PQ} {a c : Int} (ha : inR a) (hc : inR c) (h1 : c ≤ a → Q (some (vI a)) σ) (h2 : a < c → Q (some (vI c)) σ) : Call x d 0 0 mJ9_max_7cf53 [vI a, vI c] N σ Q := by
  refine Call.of mcJ9_max_7cf53 (Nat.le_of_ble_eq_true rfl) (fun y hy => ?_)
  subst hy
  refine P.iload_n (dq dtJ9_max_7cf53 0 rfl) rfl ?_
  refine P.iload_n (dq dtJ9_max_7cf53 1 rfl) rfl ?_
  refine P.icmp_lt (t := 9) (dq dtJ9_max_7cf53 2 rfl) rfl (by omega) (by omega) (fun c_2 => ?_) (fun c_2 => ?_)
  · refine P.iload_n (dq dtJ9_max_7cf53 5 rfl) rfl ?_
    refine P.iret (dq dtJ9_max_7cf53 6 rfl) rfl rfl rfl ?_
    first | exact h1 (by omega) | exact h2 (by omega)
  · refine P.iload_n (dq dtJ9_max_7cf53 3 rfl) rfl ?_
    refine P.goto (t := 10) (dq dtJ9_max_7cf53 4 rfl) rfl ?_
    refine P.iret (dq dtJ9_max_7cf53 6 rfl) rfl rfl rfl ?_
    first | exact h1 (by omega) | exact h2 (by omega)
/-- Math.min -/
theorem ct_min {x : CM} {d N : Nat} {σ : PH} {Q : PQ} {a c : Int} (ha : inR a) (hc : inR c) (h1 : a ≤ c → Q (some (vI a)) σ) (h2 : c < a → Q (some (vI c)) σ) : Call x d 0 0 mJ9_min_7cf53 [vI a, vI c] N σ Q := by
  refine Call.of mcJ9_min_7cf53 (Nat.le_of_ble_eq_true rfl) (fun y hy => ?_)
  subst hy
  refine P.iload_n (dq dtJ9_min_7cf53 0 rfl) rfl ?_
  refine P.iload_n (dq dtJ9_min_7cf53 1 rfl) rfl ?_
  refine P.icmp_gt (t := 9) (dq dtJ9_min_7cf53 2 rfl) rfl (by omega) (by omega) (fun c_2 => ?_) (fun c_2 => ?_)
  · refine P.iload_n (dq dtJ9_min_7cf53 5 rfl) rfl ?_
    refine P.iret (dq dtJ9_min_7cf53 6 rfl) rfl rfl rfl ?_
    first | exact h1 (by omega) | exact h2 (by omega)
  · refine P.iload_n (dq dtJ9_min_7cf53 3 rfl) rfl ?_
    refine P.goto (t := 10) (dq dtJ9_min_7cf53 4 rfl) rfl ?_
    refine P.iret (dq dtJ9_min_7cf53 6 rfl) rfl rfl rfl ?_
    first | exact h1 (by omega) | exact h2 (by omega)
/-- Math.abs -/
theorem ct_abs {x : CM} {d N : Nat} {σ : PH} {Q : PQ} {a : Int} (ha : inR a) (h1 : 0 ≤ a → Q (some (vI a)) σ) (h2 : a < 0 → Q (some (vI (-a))) σ) : Call x d 0 0 mJ9_abs_0f7a4 [vI a] N σ Q := by
  refine Call.of mcJ9_abs_0f7a4 (Nat.le_of_ble_eq_true rfl) (fun y hy => ?_)
  subst hy
  refine P.iload_n (dq dtJ9_abs_0f7a4 0 rfl) rfl ?_
  refine P.if_ge (t := 9) (dq dtJ9_abs_0f7a4 1 rfl) rfl (by omega) (fun c_1 => ?_) (fun c_1 => ?_)
  · refine P.iload_n (dq dtJ9_abs_0f7a4 5 rfl) rfl ?_
    refine P.iret (dq dtJ9_abs_0f7a4 6 rfl) rfl rfl rfl ?_
    first | exact h1 (by omega) | exact h2 (by omega)
  · refine P.iload_n (dq dtJ9_abs_0f7a4 2 rfl) rfl ?_
    refine P.ineg (dq dtJ9_abs_0f7a4 3 rfl) ?_
    refine P.goto (t := 10) (dq dtJ9_abs_0f7a4 4 rfl) rfl ?_
    refine P.iret (dq dtJ9_abs_0f7a4 6 rfl) rfl rfl rfl ?_
    first | exact h1 (by omega) | exact h2 (by omega)
