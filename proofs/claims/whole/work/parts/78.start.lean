theorem lt_1 {w : Cond} (j : Nat) (h : tables_1_1[j]? = some w) : w ∈ lw_tbl := List.mem_append_right _ (show w ∈ tables_1_1 ++ (tables_1_2 ++ (tables_1_3 ++ (tables_1_4 ++ tables_1_5))) from List.mem_append_left _ (List.mem_of_getElem? h))
theorem lt_2 {w : Cond} (j : Nat) (h : tables_1_2[j]? = some w) : w ∈ lw_tbl := List.mem_append_right _ (show w ∈ tables_1_1 ++ (tables_1_2 ++ (tables_1_3 ++ (tables_1_4 ++ tables_1_5))) from List.mem_append_right _ (List.mem_append_left _ (List.mem_of_getElem? h)))
theorem kn_cls {s : State} {b : Nat} (hts : ∀ w ∈ lw_tbl, w.before #[Value.ref b] s = true) : ∃ (dC : Nat → ClassId) (dI : Nat → Nat → Nat), ∀ (k : Nat) (q : vw_C), vwCl[k]? = some q → u_Kn s q.1 q.2.1 q.2.2 (dC k) (dI k) := by
  have h0 : ∀ k : Nat, ∃ r : ClassId × (Nat → Nat), ∀ q : vw_C, vwCl[k]? = some q → u_Kn s q.1 q.2.1 q.2.2 r.1 r.2 := by
    intro k
    by_cases hk : ∃ q : vw_C, vwCl[k]? = some q
    · obtain ⟨q, hq⟩ := hk
      obtain ⟨c, i, h⟩ := u_known (C := q.1) (T := q.2.1) (N := q.2.2) (n := q.2.2) hts (fun w hw => TW_lw ((cl_ok k q hq).1 w hw)) (hts _ (TW_lw (cl_ok k q hq).2.2.2.1))
      refine ⟨(c, i), fun q' h' => ?_⟩
      cases Option.some.inj (hq.symm.trans h')
      exact h
    · obtain ⟨c, i, h⟩ := u_known (C := RX1) (T := TX1) (N := 2) (n := 2) hts (fun w hw => TW_lw (clX1.1 w hw)) (hts _ (TW_lw clX1.2.2.2.1))
      exact ⟨(c, i), fun q' h' => absurd ⟨q', h'⟩ hk⟩
  obtain ⟨f, hf⟩ := Classical.axiomOfChoice h0
  exact ⟨fun k => (f k).1, fun k => (f k).2, fun k q h => hf k q h⟩
theorem kn_prim {s : State} {args : Array Value} {ty : FieldType} (h : (Cond.arrayClass ty).before args s = true) : ∃ cA : ClassId, ArrOfT s cA ty ∧ s.vm.findClass ("[" ++ ty.toString) = some cA := by
  obtain ⟨c, k, comp, h1, h2, h3⟩ := Cond.arrayClass_spec h
  exact ⟨c, fun n z => ⟨fun k h => (by cases h), k, h2, comp, h3⟩, h1⟩
theorem kn_obj {s : State} {args : Array Value} {C : String} (h : (Cond.arrayOver (.object C)).before args s = true) : ∃ cA : ClassId, ArrOfT s cA (.object C) ∧ va_RA s cA (.object C) := by
  obtain ⟨comp, c, k, h1, h2, h3, h4, h5⟩ := Cond.arrayOver_spec h
  exact ⟨c, fun n z => ⟨fun k h => (by cases h), k, h3, comp, h4⟩, k, comp, h3, h4, h1, h5⟩
def tmS : Nat → Term
  | 0 => .string RX1 50
  | 1 => .string RX1 56
  | 2 => .string RX1 58
  | _ => .string RX1 60
theorem kn_str {s : State} {b : Nat} (hgv : (Jvm.Cond.and given_1 narrow_1).before #[Value.ref b] s = true) : ∃ adK adV : Nat → Nat, vk_S 4 lenS bytS adK adV (fun q => s.heap.size ≤ q) s s.heap ∧ ∀ i : Nat, i < 4 → (tmS i).eval #[Value.ref b] s none [] s = some (.ref (adK i)) := by
  have hf := flat_of_before _ hgv
  refine vk_Sof (args := #[Value.ref b]) (tm := tmS) ?_ ?_ ?_ ?_ ?_ ?_ ?_ (fun a h => Nat.not_le.mpr h)
  · intro i hi
    rcases (show i = 0 ∨ i = 1 ∨ i = 2 ∨ i = 3 by omega) with rfl | rfl | rfl | rfl <;> decide
  · intro i hi
    rcases (show i = 0 ∨ i = 1 ∨ i = 2 ∨ i = 3 by omega) with rfl | rfl | rfl | rfl <;> exact hf _ (by decide +kernel)
  · intro i hi
    rcases (show i = 0 ∨ i = 1 ∨ i = 2 ∨ i = 3 by omega) with rfl | rfl | rfl | rfl <;> exact hf _ (by decide +kernel)
  · intro i hi
    rcases (show i = 0 ∨ i = 1 ∨ i = 2 ∨ i = 3 by omega) with rfl | rfl | rfl | rfl <;> exact hf _ (by decide +kernel)
  · intro i hi
    rcases (show i = 0 ∨ i = 1 ∨ i = 2 ∨ i = 3 by omega) with rfl | rfl | rfl | rfl <;> exact hf _ (by decide +kernel)
  · intro i hi j hj
    rcases (show i = 0 ∨ i = 1 ∨ i = 2 ∨ i = 3 by omega) with rfl | rfl | rfl | rfl
    · have hj : j < 2 := hj
      rcases (show j = 0 ∨ j = 1 by omega) with rfl | rfl <;> exact hf _ (by decide +kernel)
    · have hj : j < 4 := hj
      rcases (show j = 0 ∨ j = 1 ∨ j = 2 ∨ j = 3 by omega) with rfl | rfl | rfl | rfl <;> exact hf _ (by decide +kernel)
    · have hj : j < 4 := hj
      rcases (show j = 0 ∨ j = 1 ∨ j = 2 ∨ j = 3 by omega) with rfl | rfl | rfl | rfl <;> exact hf _ (by decide +kernel)
    · have hj : j < 2 := hj
      rcases (show j = 0 ∨ j = 1 by omega) with rfl | rfl <;> exact hf _ (by decide +kernel)
  · intro i j hi hj hne
    rcases (show i = 0 ∨ i = 1 ∨ i = 2 ∨ i = 3 by omega) with rfl | rfl | rfl | rfl <;> rcases (show j = 0 ∨ j = 1 ∨ j = 2 ∨ j = 3 by omega) with rfl | rfl | rfl | rfl <;>
      first
        | exact absurd rfl hne
        | exact Or.inl (hf _ (by decide +kernel))
        | exact Or.inr (hf _ (by decide +kernel))
theorem vk_S.ad {N : Nat} {len : List Nat} {byt : List (List Int32)} {adK adV adV' : Nat → Nat} {A : Nat → Prop} {U : State} {H : Heap} (h : vk_S N len byt adK adV A U H) (he : ∀ i : Nat, i < N → adV' i = adV i) : vk_S N len byt adK adV' A U H :=
  ⟨fun i hi => by rw [he i hi]; exact h.1 i hi, h.2⟩
theorem EN_start {s : State} (l : Launch) {b : Nat} (hts : ∀ w ∈ lw_tbl, w.before #[Value.ref b] s = true) (hgv : (Jvm.Cond.and given_1 narrow_1).before #[Value.ref b] s = true) : ∃ (dC : Nat → ClassId) (dI : Nat → Nat → Nat) (cy : Nat → ClassId) (adK adV : Nat → Nat), EN (l, s.heap.size, dC, dI, cy, adK, adV, b) s := by
  have hA : ∀ a : Nat, a < s.heap.size → ¬ (fun q => s.heap.size ≤ q) a := fun a h => Nat.not_le.mpr h
  have hf := flat_of_before _ hgv
  obtain ⟨dC, dI, hK⟩ := kn_cls hts
  obtain ⟨c0, a0, n0⟩ := kn_prim (hts _ (TW_lw w_acI))
  obtain ⟨c1, a1, n1⟩ := kn_prim (hts _ (TW_lw w_acZ))
  have o1 : (Cond.arrayOver (.object RX1)).before #[Value.ref b] s = true := hts _ (lt_1 193 rfl)
  have o3 : (Cond.arrayOver (.object RX3)).before #[Value.ref b] s = true := hts _ (lt_1 130 rfl)
  obtain ⟨c2, a2, n2⟩ := kn_obj o1
  obtain ⟨c3, a3, n3⟩ := kn_obj o3
  obtain ⟨adK, adV, hV, hev⟩ := kn_str hgv
  have hZ1 : va_Z "java/lang/String" "COMPACT_STRINGS" "Z" (.int 1) (fun q => s.heap.size ≤ q) s s.heap := va_Zof (args := #[Value.ref b]) (hts _ (lt_2 157 rfl)) (hts _ (lt_1 11 rfl)) (va_eqi (hf _ (by decide +kernel))) hA
  have hZ2 : va_Zq "jdk/internal/util/Preconditions" "SIOOBE_FORMATTER" "Ljava/util/function/BiFunction;" (fun q => s.heap.size ≤ q) s s.heap := va_Zqof (args := #[Value.ref b]) (hts _ (lt_2 174 rfl)) (hts _ (lt_1 13 rfl)) (hf _ (by decide +kernel)) hA
  have hb : ∃ t : Nat, va_Z "jdk/internal/util/Preconditions" "SIOOBE_FORMATTER" "Ljava/util/function/BiFunction;" .null (fun q => s.heap.size ≤ q) s s.heap ∨ va_Z "jdk/internal/util/Preconditions" "SIOOBE_FORMATTER" "Ljava/util/function/BiFunction;" (.ref t) (fun q => s.heap.size ≤ q) s s.heap := by
    rcases hZ2 with h | ⟨t, h⟩
    · exact ⟨0, Or.inl h⟩
    · exact ⟨t, Or.inr h⟩
  obtain ⟨t, hZ3⟩ := hb
  refine ⟨dC, dI, (fun k => if k = 0 then c0 else if k = 1 then c1 else if k = 2 then c2 else c3), adK, (fun k => if k = 9 then t else adV k), ⟨hK, fun k q hq => ?_⟩, fun a i y h hm => va_Nw.of rfl (hts _ (List.mem_filter.mp hm).1), va_AO.of o1, va_AO.of o3, ⟨vk_R.of (hts _ (lt_2 143 rfl)) (hev 0 (by omega)), vk_R.of (hts _ (lt_2 197 rfl)) (hev 1 (by omega)), vk_R.of (hts _ (lt_2 198 rfl)) (hev 2 (by omega)), vk_R.of (hts _ (lt_2 199 rfl)) (hev 3 (by omega))⟩, hV.ad (fun i hi => if_neg (by omega)), hZ1, hZ3⟩
  match k, hq with
  | 0, hq => cases hq; exact ⟨a0, n0⟩
  | 1, hq => cases hq; exact ⟨a1, n1⟩
  | 2, hq => cases hq; exact ⟨a2, n2⟩
  | 3, hq => cases hq; exact ⟨a3, n3⟩
  | k + 4, hq => simp at hq
