/-! THE CALCULUS: pure states (locals, stack, heap by places), a judgement P for a place in a method's body, Call for a method -/
def TW : List Cond := lw_tbl.filter goodWord
theorem TW_lw {w : Cond} (h : w ∈ TW) : w ∈ lw_tbl := (List.mem_filter.mp h).1
theorem TW_good {w : Cond} (h : w ∈ TW) : goodWord w = true := (List.mem_filter.mp h).2
/-- what is one for the whole run: launch, the first address of ours, class numbers, slots, array classes, the texts' addresses, their rows, the script -/
abbrev CM : Type := Launch × Nat × (Nat → ClassId) × (Nat → Nat → Nat) × (Nat → ClassId) × (Nat → Nat) × (Nat → Nat) × Nat
abbrev CM.l (x : CM) : Launch := x.1
abbrev CM.base (x : CM) : Nat := x.2.1
abbrev CM.dC (x : CM) : Nat → ClassId := x.2.2.1
abbrev CM.dI (x : CM) : Nat → Nat → Nat := x.2.2.2.1
abbrev CM.cy (x : CM) : Nat → ClassId := x.2.2.2.2.1
abbrev CM.adK (x : CM) : Nat → Nat := x.2.2.2.2.2.1
abbrev CM.adV (x : CM) : Nat → Nat := x.2.2.2.2.2.2.1
abbrev CM.sc (x : CM) : Nat := x.2.2.2.2.2.2.2
def rho (x : CM) (k : Nat) : Nat := if k < 1000 then CM.base x + k else if k < 1500 then CM.adK x (k - 1000) else if k < 2000 then CM.adV x (k - 1500) else CM.sc x
def AA (x : CM) : Nat → Prop := fun q => CM.base x ≤ q
abbrev cvx (x : CM) : Value → Value := cvv (rho x)
abbrev junk : PC := pcO 99 []
def wl (x : CM) (N : Nat) (σ : PH) : va_W := (List.range N).map fun k => (CM.base x + k, cE (rho x) (CM.cy x) (σ k))
def Wd (x : CM) (N : Nat) (σ : PH) (H : Heap) : Prop := N ≤ 1000 ∧ H.size = CM.base x + N ∧ va_P (CM.dC x, CM.dI x) vwCl (wl x N σ) H ∧ ∀ k : Nat, N ≤ k → σ k = junk
abbrev tysJ (x : CM) : List (ClassId × FieldType) := [(CM.cy x 0, .int), (CM.cy x 1, .boolean), (CM.cy x 2, .object RX1), (CM.cy x 3, .object RX3)]
def nestW : List Cond := lw_tbl.filter fun w => match w with
  | .methodLinkNest .. => true
  | _ => false
abbrev lenS : List Nat := [2, 4, 4, 2]
abbrev bytS : List (List Int32) := [[117, 112], [100, 111, 119, 110], [97, 120, 105, 115], [97, 116]]
def EN (x : CM) (U : State) : Prop :=
  va_K (CM.dC x, CM.dI x) vwCl (tysJ x) U ∧ (∀ (a : String) (i : Nat) (y : MethodName) (h : String), Cond.methodLinkNest a i y h ∈ nestW → va_Nw (.methodLinkNest a i y h) U) ∧ va_AO RX1 U ∧ va_AO RX3 U ∧
  (vk_R RX1 50 "up" (CM.adK x 0) U ∧ vk_R RX1 56 "down" (CM.adK x 1) U ∧ vk_R RX1 58 "axis" (CM.adK x 2) U ∧ vk_R RX1 60 "at" (CM.adK x 3) U) ∧
  vk_S 4 lenS bytS (CM.adK x) (CM.adV x) (AA x) U U.heap ∧ va_Z "java/lang/String" "COMPACT_STRINGS" "Z" (.int 1) (AA x) U U.heap ∧ (va_Z "jdk/internal/util/Preconditions" "SIOOBE_FORMATTER" "Ljava/util/function/BiFunction;" .null (AA x) U U.heap ∨ va_Z "jdk/internal/util/Preconditions" "SIOOBE_FORMATTER" "Ljava/util/function/BiFunction;" (.ref (CM.adV x 9)) (AA x) U U.heap)
theorem EN.frames {x : CM} {U : State} (h : EN x U) (g : JFrame) (mk : MethodId) (a : Array Value) : EN x (U.calling g mk a) := by
  obtain ⟨h1, h2, h3, h4, ⟨k1, k2, k3, k4⟩, h6, h7, h8⟩ := h
  have hv : U.vm.Alike (U.calling g mk a).vm := Vm.Alike.refl U.vm
  exact ⟨va_K.moved hv h1, fun a i y h q => va_Nw.same rfl rfl (h2 a i y h q), va_AO.moved hv h3, va_AO.moved hv h4, ⟨vk_R.same rfl k1, vk_R.same rfl k2, vk_R.same rfl k3, vk_R.same rfl k4⟩, vk_S.moved hv h6, va_Z.moved hv h7, h8.imp (va_Z.moved hv) (va_Z.moved hv)⟩
theorem EN.warm {x : CM} {s U : State} {locs : List Loc} (h : EN x s) (hW : s.WarmedH U.vm) (hS : va_S (AA x) s.heap U.heap locs) : EN x U := by
  obtain ⟨h1, h2, h3, h4, ⟨k1, k2, k3, k4⟩, h6, h7, h8⟩ := h
  have hv : s.vm.Alike U.vm := hW.alike
  have hk : ∀ a : Nat, a < s.heap.size → ¬ AA x a → U.heap[a]? = s.heap[a]? := fun a q1 q2 => hS.2.1 a q1 q2
  exact ⟨va_K.moved hv h1, fun a i y h q => va_Nw.warmM hW (h2 a i y h q), va_AO.moved hv h3, va_AO.moved hv h4, ⟨vk_R.warm hW k1, vk_R.warm hW k2, vk_R.warm hW k3, vk_R.warm hW k4⟩, (vk_S.moved hv h6).kept hk, (va_Z.moved hv h7).kept hk, h8.imp (fun z => (va_Z.moved hv z).kept hk) (fun z => (va_Z.moved hv z).kept hk)⟩
/-- a method: name, bytes, locals, what it returns, is it the law -/
abbrev MI : Type := MethodName × ByteArray × Nat × Option FieldType × Bool
abbrev MI.y (M : MI) : MethodName := M.1
abbrev MI.cc (M : MI) : ByteArray := M.2.1
abbrev MI.nL (M : MI) : Nat := M.2.2.1
abbrev MI.ret (M : MI) : Option FieldType := M.2.2.2.1
abbrev MI.lw (M : MI) : Bool := M.2.2.2.2
abbrev MI.own (M : MI) : String := M.1.cls
/-- where a body stands: the run, the machine at its entry, its room, what may be made, the end that is sought -/
abbrev CX : Type := CM × Program × Env × State × MethodId × Array Value × List Frame × Method × Code × Room × Nat × Nat × (State → Prop)
abbrev CX.cm (x : CX) : CM := x.1
abbrev CX.p (x : CX) : Program := x.2.1
abbrev CX.e (x : CX) : Env := x.2.2.1
abbrev CX.s (x : CX) : State := x.2.2.2.1
abbrev CX.m (x : CX) : MethodId := x.2.2.2.2.1
abbrev CX.args (x : CX) : Array Value := x.2.2.2.2.2.1
abbrev CX.below (x : CX) : List Frame := x.2.2.2.2.2.2.1
abbrev CX.meth (x : CX) : Method := x.2.2.2.2.2.2.2.1
abbrev CX.c (x : CX) : Code := x.2.2.2.2.2.2.2.2.1
abbrev CX.R (x : CX) : Room := x.2.2.2.2.2.2.2.2.2.1
abbrev CX.mc (x : CX) : Nat := x.2.2.2.2.2.2.2.2.2.2.1
abbrev CX.ms (x : CX) : Nat := x.2.2.2.2.2.2.2.2.2.2.2.1
abbrev CX.Z (x : CX) : State → Prop := x.2.2.2.2.2.2.2.2.2.2.2.2
abbrev PQ : Type := Option Value → PH → Prop
def QQ (x : CM) (Nf : Nat) (Q : PQ) : Array Value → State → Outcome → State → Prop := fun _ st oc t =>
  (∃ (r : Option Value) (σ : PH), oc = .returned (r.map (cvx x)) ∧ Q r σ ∧ Wd x Nf σ t.heap) ∧ va_F (AA x) st t
def Rm (d mc ms : Nat) : Room := { frames := d, cells := mc, slots := ms, locals := 36 * d }
def OKx (x : CX) (d : Nat) (M : MI) (Q : PQ) : Prop :=
  (CX.p x).tables.exec = Jvm.exec ∧ (CX.c x).code = MI.cc M ∧ (CX.c x).maxLocals = MI.nL M ∧ (CX.meth x).sig.returnType = MI.ret M ∧ (CX.meth x).locks = false ∧ (CX.s x).vm.findClass (MI.own M) = some (CX.m x).cls ∧ (CX.meth x).name = (MI.y M).name ∧
  (∀ w ∈ TW, w.before (CX.args x) (CX.s x) = true) ∧ EN (CX.cm x) (CX.s x) ∧ d ≤ (CX.R x).frames ∧ 36 * d ≤ (CX.R x).locals ∧ CX.mc x ≤ (CX.R x).cells ∧ CX.ms x ≤ (CX.R x).slots ∧
  (MI.lw M = false → ∃ N0 : Nat, (CX.s x).heap.size = CM.base (CX.cm x) + N0 ∧ CX.Z x = MQ (CX.below x) (QQ (CX.cm x) (N0 + CX.mc x) Q) (CX.args x) (CX.s x) (CX.mc x) (CX.ms x) (AA (CX.cm x))) ∧ CM.base (CX.cm x) ≤ (CX.s x).heap.size
def P (x : CX) (d : Nat) (M : MI) (Q : PQ) (b : Nat × Nat) (pc : Nat) (L : List (Option Value)) (st : List Value) (N : Nat) (σ : PH) : Prop :=
  OKx x d M Q → ∀ (H : Heap) (locs : List Loc) (cells slots : Nat) (ls : Array Slot), Wd (CX.cm x) N σ H → va_S (AA (CX.cm x)) (CX.s x).heap H locs → Lv (rho (CX.cm x)) ls (MI.nL M) L → (CX.s x).heap.size + cells = CM.base (CX.cm x) + N ∧ cells + b.1 = CX.mc x → slots + b.2 ≤ CX.ms x →
    W (CX.p x) (CM.l (CX.cm x)) (CX.e x) (CX.R x) (CX.s x) (CX.m x) (CX.args x) (CX.below x) (CX.meth x) (CX.c x) H locs cells slots (CX.Z x) (F0 (CX.m x) pc ls (st.map (cvx (CX.cm x))))
def wsM (M : MI) : List Cond := .code (MI.y M) (MI.cc M) (MI.nL M) (MI.ret M) :: TW
def Call (x : CM) (d mc ms : Nat) (M : MI) (as : List Value) (N : Nat) (σ : PH) (Q : PQ) : Prop :=
  Met (CM.l x) (MI.y M) (wsM M) (Rm d mc ms) (va_Pc (as.map (cvx x)) (fun U => Wd x N σ U.heap ∧ EN x U)) (QQ x (N + mc) Q) mc ms (AA x)
section
variable {x : CX} {d : Nat} {M : MI} {Q : PQ} {b : Nat × Nat} {pc : Nat} {L : List (Option Value)} {st : List Value} {N : Nat} {σ : PH}
/-! constants -/
theorem P.iconst {n : Int} (hd : decode (MI.cc M) pc = .ok (.iconst n, 1)) (k : P x d M Q b (pc + 1) L (vI n :: st) N σ) : P x d M Q b pc L st N σ :=
  fun ok H locs cells slots ls hW hS hL h1 h2 => lv_iconst ok.1 ok.2.1 hd rfl (k ok H locs cells slots ls hW hS hL h1 h2)
theorem P.bipush {n : Int} (hd : decode (MI.cc M) pc = .ok (.bipush n, 2)) (hv : (Int8.ofInt n).toInt32 = iI n) (k : P x d M Q b (pc + 2) L (vI n :: st) N σ) : P x d M Q b pc L st N σ :=
  fun ok H locs cells slots ls hW hS hL h1 h2 => lv_bipush ok.1 ok.2.1 hd hv (k ok H locs cells slots ls hW hS hL h1 h2)
theorem P.sipush {n : Int} (hd : decode (MI.cc M) pc = .ok (.sipush n, 3)) (hv : (Int16.ofInt n).toInt32 = iI n) (k : P x d M Q b (pc + 3) L (vI n :: st) N σ) : P x d M Q b pc L st N σ :=
  fun ok H locs cells slots ls hW hS hL h1 h2 => lv_sipush ok.1 ok.2.1 hd hv (k ok H locs cells slots ls hW hS hL h1 h2)
theorem P.ldc {i : Nat} {n : Int} {v : Int32} (hd : decode (MI.cc M) pc = .ok (.ldc i, 2)) (hw : Cond.constant (MI.own M) i v ∈ TW) (hv : v = iI n) (k : P x d M Q b (pc + 2) L (vI n :: st) N σ) : P x d M Q b pc L st N σ :=
  fun ok H locs cells slots ls hW hS hL h1 h2 => lv_ldc ok.1 ok.2.1 ok.2.2.2.2.2.1 (by rw [← hv]; exact ok.2.2.2.2.2.2.2.1 _ hw) hd (k ok H locs cells slots ls hW hS hL h1 h2)
theorem P.ldcw {i : Nat} {n : Int} {v : Int32} (hd : decode (MI.cc M) pc = .ok (.ldc_w i, 3)) (hw : Cond.constant (MI.own M) i v ∈ TW) (hv : v = iI n) (k : P x d M Q b (pc + 3) L (vI n :: st) N σ) : P x d M Q b pc L st N σ :=
  fun ok H locs cells slots ls hW hS hL h1 h2 => lv_ldcw ok.1 ok.2.1 ok.2.2.2.2.2.1 (by rw [← hv]; exact ok.2.2.2.2.2.2.2.1 _ hw) hd (k ok H locs cells slots ls hW hS hL h1 h2)
theorem P.ldc2 {i : Nat} {n : Int} {v : Int64} (hd : decode (MI.cc M) pc = .ok (.ldc2_w i, 3)) (hw : Cond.constantLong (MI.own M) i v ∈ TW) (hv : v = lL n) (k : P x d M Q b (pc + 3) L (vL n :: st) N σ) : P x d M Q b pc L st N σ :=
  fun ok H locs cells slots ls hW hS hL h1 h2 => lv_ldc2 ok.1 ok.2.1 ok.2.2.2.2.2.1 (by rw [← hv]; exact ok.2.2.2.2.2.2.2.1 _ hw) hd (k ok H locs cells slots ls hW hS hL h1 h2)
theorem P.lconst {n : Fin 2} {z : Int} (hd : decode (MI.cc M) pc = .ok (.lconst n, 1)) (hv : Int64.ofNat (n : Nat) = lL z) (k : P x d M Q b (pc + 1) L (vL z :: st) N σ) : P x d M Q b pc L st N σ :=
  fun ok H locs cells slots ls hW hS hL h1 h2 => lv_lconst ok.1 ok.2.1 hd hv (k ok H locs cells slots ls hW hS hL h1 h2)
/-! locals -/
theorem P.iload_n {i : Fin 4} {z : Int} (hd : decode (MI.cc M) pc = .ok (.iload_n i, 1)) (hl : L[(i : Nat)]? = some (some (vI z))) (k : P x d M Q b (pc + 1) L (vI z :: st) N σ) : P x d M Q b pc L st N σ :=
  fun ok H locs cells slots ls hW hS hL h1 h2 => lv_iload_n ok.1 ok.2.1 hd rfl (hL.2.2 _ _ hl) (k ok H locs cells slots ls hW hS hL h1 h2)
theorem P.iload {i : Nat} {z : Int} (hd : decode (MI.cc M) pc = .ok (.iload i, 2)) (hl : L[i]? = some (some (vI z))) (k : P x d M Q b (pc + 2) L (vI z :: st) N σ) : P x d M Q b pc L st N σ :=
  fun ok H locs cells slots ls hW hS hL h1 h2 => lv_iload ok.1 ok.2.1 hd (hL.2.2 _ _ hl) (k ok H locs cells slots ls hW hS hL h1 h2)
theorem P.lload_n {i : Fin 4} {z : Int} (hd : decode (MI.cc M) pc = .ok (.lload_n i, 1)) (hl : L[(i : Nat)]? = some (some (vL z))) (k : P x d M Q b (pc + 1) L (vL z :: st) N σ) : P x d M Q b pc L st N σ :=
  fun ok H locs cells slots ls hW hS hL h1 h2 => lv_lload_n ok.1 ok.2.1 hd rfl (hL.2.2 _ _ hl) (k ok H locs cells slots ls hW hS hL h1 h2)
theorem P.lload {i : Nat} {z : Int} (hd : decode (MI.cc M) pc = .ok (.lload i, 2)) (hl : L[i]? = some (some (vL z))) (k : P x d M Q b (pc + 2) L (vL z :: st) N σ) : P x d M Q b pc L st N σ :=
  fun ok H locs cells slots ls hW hS hL h1 h2 => lv_lload ok.1 ok.2.1 hd (hL.2.2 _ _ hl) (k ok H locs cells slots ls hW hS hL h1 h2)
theorem P.aload_n {i : Fin 4} {q : Nat} (hd : decode (MI.cc M) pc = .ok (.aload_n i, 1)) (hl : L[(i : Nat)]? = some (some (vR q))) (k : P x d M Q b (pc + 1) L (vR q :: st) N σ) : P x d M Q b pc L st N σ :=
  fun ok H locs cells slots ls hW hS hL h1 h2 => lv_aload_n ok.1 ok.2.1 hd rfl (hL.2.2 _ _ hl) (k ok H locs cells slots ls hW hS hL h1 h2)
theorem P.aload {i : Nat} {q : Nat} (hd : decode (MI.cc M) pc = .ok (.aload i, 2)) (hl : L[i]? = some (some (vR q))) (k : P x d M Q b (pc + 2) L (vR q :: st) N σ) : P x d M Q b pc L st N σ :=
  fun ok H locs cells slots ls hW hS hL h1 h2 => lv_aload ok.1 ok.2.1 hd (hL.2.2 _ _ hl) (k ok H locs cells slots ls hW hS hL h1 h2)
theorem P.istore_n {i : Fin 4} {z : Int} {L' : List (Option Value)} (hd : decode (MI.cc M) pc = .ok (.istore_n i, 1)) (hi : (i : Nat) < MI.nL M) (hn : noLong L = true) (hl : L.set (i : Nat) (some (vI z)) = L') (k : P x d M Q b (pc + 1) L' st N σ) : P x d M Q b pc L (vI z :: st) N σ :=
  fun ok H locs cells slots ls hW hS hL h1 h2 => lv_istore_n ok.1 ok.2.1 hd rfl hL.has hi rfl (fun ls' h' => k ok H locs cells slots ls' hW hS (hl ▸ Lv.set (v := vI z) hn h') h1 h2)
theorem P.istore {i : Nat} {z : Int} {L' : List (Option Value)} (hd : decode (MI.cc M) pc = .ok (.istore i, 2)) (hi : i < MI.nL M) (hn : noLong L = true) (hl : L.set i (some (vI z)) = L') (k : P x d M Q b (pc + 2) L' st N σ) : P x d M Q b pc L (vI z :: st) N σ :=
  fun ok H locs cells slots ls hW hS hL h1 h2 => lv_istore ok.1 ok.2.1 hd hL.has hi rfl (fun ls' h' => k ok H locs cells slots ls' hW hS (hl ▸ Lv.set (v := vI z) hn h') h1 h2)
theorem P.astore_n {i : Fin 4} {q : Nat} {L' : List (Option Value)} (hd : decode (MI.cc M) pc = .ok (.astore_n i, 1)) (hi : (i : Nat) < MI.nL M) (hn : noLong L = true) (hl : L.set (i : Nat) (some (vR q)) = L') (k : P x d M Q b (pc + 1) L' st N σ) : P x d M Q b pc L (vR q :: st) N σ :=
  fun ok H locs cells slots ls hW hS hL h1 h2 => lv_astore_n ok.1 ok.2.1 hd rfl hL.has hi rfl (fun ls' h' => k ok H locs cells slots ls' hW hS (hl ▸ Lv.set (v := vR q) hn h') h1 h2)
theorem P.iinc {i : Nat} {n z : Int} {L' : List (Option Value)} (hd : decode (MI.cc M) pc = .ok (.iinc i n, 3)) (hz : L[i]? = some (some (vI z))) (hi : i < MI.nL M) (hn : noLong L = true) (hl : L.set i (some (vI (z + n))) = L') (k : P x d M Q b (pc + 3) L' st N σ) : P x d M Q b pc L st N σ := by
  intro ok H locs cells slots ls hW hS hL h1 h2
  obtain ⟨j, hj⟩ := List.getElem?_of_mem (aL_mem (ρ := rho (CX.cm x)) (L := L) (q := (i, vI z)) |>.mpr ⟨vI z, hz, rfl⟩)
  exact lv_iinc ok.1 ok.2.1 hd hL.has hj (iI_add z n) hi rfl (fun ls' h' => k ok H locs cells slots ls' hW hS (hl ▸ Lv.set (v := vI (z + n)) hn h') h1 h2)
/-! arithmetic -/
theorem P.iadd {a c : Int} (hd : decode (MI.cc M) pc = .ok (.iadd, 1)) (k : P x d M Q b (pc + 1) L (vI (a + c) :: st) N σ) : P x d M Q b pc L (vI c :: vI a :: st) N σ :=
  fun ok H locs cells slots ls hW hS hL h1 h2 => lv_iadd ok.1 ok.2.1 hd (by rw [iI_add]; exact k ok H locs cells slots ls hW hS hL h1 h2)
theorem P.isub {a c : Int} (hd : decode (MI.cc M) pc = .ok (.isub, 1)) (k : P x d M Q b (pc + 1) L (vI (a - c) :: st) N σ) : P x d M Q b pc L (vI c :: vI a :: st) N σ :=
  fun ok H locs cells slots ls hW hS hL h1 h2 => lv_isub ok.1 ok.2.1 hd (by rw [iI_sub]; exact k ok H locs cells slots ls hW hS hL h1 h2)
theorem P.imul {a c : Int} (hd : decode (MI.cc M) pc = .ok (.imul, 1)) (k : P x d M Q b (pc + 1) L (vI (a * c) :: st) N σ) : P x d M Q b pc L (vI c :: vI a :: st) N σ :=
  fun ok H locs cells slots ls hW hS hL h1 h2 => lv_imul ok.1 ok.2.1 hd (by rw [iI_mul]; exact k ok H locs cells slots ls hW hS hL h1 h2)
theorem P.ineg {a : Int} (hd : decode (MI.cc M) pc = .ok (.ineg, 1)) (k : P x d M Q b (pc + 1) L (vI (-a) :: st) N σ) : P x d M Q b pc L (vI a :: st) N σ :=
  fun ok H locs cells slots ls hW hS hL h1 h2 => lv_ineg ok.1 ok.2.1 hd (by rw [iI_neg]; exact k ok H locs cells slots ls hW hS hL h1 h2)
theorem P.idiv {a c : Int} (hd : decode (MI.cc M) pc = .ok (.idiv, 1)) (ha : inR a) (hc : inR c) (hne : c ≠ 0) (k : P x d M Q b (pc + 1) L (vI (a.tdiv c) :: st) N σ) : P x d M Q b pc L (vI c :: vI a :: st) N σ :=
  fun ok H locs cells slots ls hW hS hL h1 h2 => lv_idiv ok.1 ok.2.1 hd (fun h => hne ((iI_inj hc inR_0).mp h)) (by rw [iI_div ha hc]; exact k ok H locs cells slots ls hW hS hL h1 h2)
theorem P.irem {a c : Int} (hd : decode (MI.cc M) pc = .ok (.irem, 1)) (ha : inR a) (hc : inR c) (hne : c ≠ 0) (k : P x d M Q b (pc + 1) L (vI (a.tmod c) :: st) N σ) : P x d M Q b pc L (vI c :: vI a :: st) N σ :=
  fun ok H locs cells slots ls hW hS hL h1 h2 => lv_irem ok.1 ok.2.1 hd (fun h => hne ((iI_inj hc inR_0).mp h)) (by rw [iI_rem ha hc]; exact k ok H locs cells slots ls hW hS hL h1 h2)
theorem P.i2l {a : Int} (hd : decode (MI.cc M) pc = .ok (.i2l, 1)) (ha : inR a) (k : P x d M Q b (pc + 1) L (vL a :: st) N σ) : P x d M Q b pc L (vI a :: st) N σ :=
  fun ok H locs cells slots ls hW hS hL h1 h2 => lv_i2l ok.1 ok.2.1 hd (iI_long ha) (k ok H locs cells slots ls hW hS hL h1 h2)
theorem P.lcmp {a c : Int} (hd : decode (MI.cc M) pc = .ok (.lcmp, 1)) (ha : inR a) (hc : inR c) (k : P x d M Q b (pc + 1) L (vI (if c < a then 1 else if a = c then 0 else -1) :: st) N σ) : P x d M Q b pc L (vL c :: vL a :: st) N σ :=
  fun ok H locs cells slots ls hW hS hL h1 h2 => W.lcmp ok.1 ok.2.1 hd (by rw [lL_cmp ha hc]; exact k ok H locs cells slots ls hW hS hL h1 h2)
theorem P.dup {v : Value} (hd : decode (MI.cc M) pc = .ok (.dup, 1)) (hv : v.category = 1) (k : P x d M Q b (pc + 1) L (v :: v :: st) N σ) : P x d M Q b pc L (v :: st) N σ :=
  fun ok H locs cells slots ls hW hS hL h1 h2 => lv_dup ok.1 ok.2.1 hd ((cvv_cat _ v).trans hv) (k ok H locs cells slots ls hW hS hL h1 h2)
theorem P.dup2 {v w : Value} (hd : decode (MI.cc M) pc = .ok (.dup2, 1)) (hv : v.category = 1) (hw : w.category = 1) (k : P x d M Q b (pc + 1) L (v :: w :: v :: w :: st) N σ) : P x d M Q b pc L (v :: w :: st) N σ :=
  fun ok H locs cells slots ls hW hS hL h1 h2 => lv_dup2_11 ok.1 ok.2.1 hd ((cvv_cat _ v).trans hv) ((cvv_cat _ w).trans hw) (k ok H locs cells slots ls hW hS hL h1 h2)
theorem P.pop {v : Value} (hd : decode (MI.cc M) pc = .ok (.pop, 1)) (hv : v.category = 1) (k : P x d M Q b (pc + 1) L st N σ) : P x d M Q b pc L (v :: st) N σ :=
  fun ok H locs cells slots ls hW hS hL h1 h2 => lv_pop ok.1 ok.2.1 hd ((cvv_cat _ v).trans hv) (k ok H locs cells slots ls hW hS hL h1 h2)
theorem P.goto {off : Int} {t : Nat} (hd : decode (MI.cc M) pc = .ok (.goto off, 3)) (ht : (pc : Int) + off = (t : Int)) (k : P x d M Q b t L st N σ) : P x d M Q b pc L st N σ :=
  fun ok H locs cells slots ls hW hS hL h1 h2 => lv_goto ok.1 ok.2.1 hd ht (k ok H locs cells slots ls hW hS hL h1 h2)
/-! branches -/
theorem P.if_eq {a off : Int} {t : Nat} (hd : decode (MI.cc M) pc = .ok (.ifCond .eq off, 3)) (ht : (pc : Int) + off = (t : Int)) (ha : inR a) (k1 : a = 0 → P x d M Q b t L st N σ) (k2 : a ≠ 0 → P x d M Q b (pc + 3) L st N σ) : P x d M Q b pc L (vI a :: st) N σ :=
  fun ok H locs cells slots ls hW hS hL h1 h2 => lv_if_eq ok.1 ok.2.1 hd ht (fun h => k1 ((iI_inj ha inR_0).mp h) ok H locs cells slots ls hW hS hL h1 h2) (fun h => k2 (fun e => h (by rw [e]; rfl)) ok H locs cells slots ls hW hS hL h1 h2)
theorem P.if_ne {a off : Int} {t : Nat} (hd : decode (MI.cc M) pc = .ok (.ifCond .ne off, 3)) (ht : (pc : Int) + off = (t : Int)) (ha : inR a) (k1 : a ≠ 0 → P x d M Q b t L st N σ) (k2 : a = 0 → P x d M Q b (pc + 3) L st N σ) : P x d M Q b pc L (vI a :: st) N σ :=
  fun ok H locs cells slots ls hW hS hL h1 h2 => lv_if_ne ok.1 ok.2.1 hd ht (fun h => k1 (fun e => h (by rw [e]; rfl)) ok H locs cells slots ls hW hS hL h1 h2) (fun h => k2 ((iI_inj ha inR_0).mp h) ok H locs cells slots ls hW hS hL h1 h2)
theorem P.if_lt {a off : Int} {t : Nat} (hd : decode (MI.cc M) pc = .ok (.ifCond .lt off, 3)) (ht : (pc : Int) + off = (t : Int)) (ha : inR a) (k1 : a < 0 → P x d M Q b t L st N σ) (k2 : 0 ≤ a → P x d M Q b (pc + 3) L st N σ) : P x d M Q b pc L (vI a :: st) N σ :=
  fun ok H locs cells slots ls hW hS hL h1 h2 => lv_if_lt ok.1 ok.2.1 hd ht (fun h => k1 ((iI_lt ha inR_0).mp h) ok H locs cells slots ls hW hS hL h1 h2) (fun h => k2 (Int.not_lt.mp fun e => h ((iI_lt ha inR_0).mpr e)) ok H locs cells slots ls hW hS hL h1 h2)
theorem P.if_ge {a off : Int} {t : Nat} (hd : decode (MI.cc M) pc = .ok (.ifCond .ge off, 3)) (ht : (pc : Int) + off = (t : Int)) (ha : inR a) (k1 : 0 ≤ a → P x d M Q b t L st N σ) (k2 : a < 0 → P x d M Q b (pc + 3) L st N σ) : P x d M Q b pc L (vI a :: st) N σ :=
  fun ok H locs cells slots ls hW hS hL h1 h2 => lv_if_ge ok.1 ok.2.1 hd ht (fun h => k1 ((iI_le inR_0 ha).mp h) ok H locs cells slots ls hW hS hL h1 h2) (fun h => k2 (Int.not_le.mp fun e => h ((iI_le inR_0 ha).mpr e)) ok H locs cells slots ls hW hS hL h1 h2)
theorem P.if_gt {a off : Int} {t : Nat} (hd : decode (MI.cc M) pc = .ok (.ifCond .gt off, 3)) (ht : (pc : Int) + off = (t : Int)) (ha : inR a) (k1 : 0 < a → P x d M Q b t L st N σ) (k2 : a ≤ 0 → P x d M Q b (pc + 3) L st N σ) : P x d M Q b pc L (vI a :: st) N σ :=
  fun ok H locs cells slots ls hW hS hL h1 h2 => lv_if_gt ok.1 ok.2.1 hd ht (fun h => k1 ((iI_lt inR_0 ha).mp h) ok H locs cells slots ls hW hS hL h1 h2) (fun h => k2 (Int.not_lt.mp fun e => h ((iI_lt inR_0 ha).mpr e)) ok H locs cells slots ls hW hS hL h1 h2)
theorem P.if_le {a off : Int} {t : Nat} (hd : decode (MI.cc M) pc = .ok (.ifCond .le off, 3)) (ht : (pc : Int) + off = (t : Int)) (ha : inR a) (k1 : a ≤ 0 → P x d M Q b t L st N σ) (k2 : 0 < a → P x d M Q b (pc + 3) L st N σ) : P x d M Q b pc L (vI a :: st) N σ :=
  fun ok H locs cells slots ls hW hS hL h1 h2 => lv_if_le ok.1 ok.2.1 hd ht (fun h => k1 ((iI_le ha inR_0).mp h) ok H locs cells slots ls hW hS hL h1 h2) (fun h => k2 (Int.not_le.mp fun e => h ((iI_le ha inR_0).mpr e)) ok H locs cells slots ls hW hS hL h1 h2)
theorem P.icmp_eq {a c off : Int} {t : Nat} (hd : decode (MI.cc M) pc = .ok (.if_icmp .eq off, 3)) (ht : (pc : Int) + off = (t : Int)) (ha : inR a) (hc : inR c) (k1 : a = c → P x d M Q b t L st N σ) (k2 : a ≠ c → P x d M Q b (pc + 3) L st N σ) : P x d M Q b pc L (vI c :: vI a :: st) N σ :=
  fun ok H locs cells slots ls hW hS hL h1 h2 => lv_icmp_eq ok.1 ok.2.1 hd ht (fun h => k1 ((iI_inj ha hc).mp h) ok H locs cells slots ls hW hS hL h1 h2) (fun h => k2 (fun e => h (by rw [e])) ok H locs cells slots ls hW hS hL h1 h2)
theorem P.icmp_ne {a c off : Int} {t : Nat} (hd : decode (MI.cc M) pc = .ok (.if_icmp .ne off, 3)) (ht : (pc : Int) + off = (t : Int)) (ha : inR a) (hc : inR c) (k1 : a ≠ c → P x d M Q b t L st N σ) (k2 : a = c → P x d M Q b (pc + 3) L st N σ) : P x d M Q b pc L (vI c :: vI a :: st) N σ :=
  fun ok H locs cells slots ls hW hS hL h1 h2 => lv_icmp_ne ok.1 ok.2.1 hd ht (fun h => k1 (fun e => h (by rw [e])) ok H locs cells slots ls hW hS hL h1 h2) (fun h => k2 ((iI_inj ha hc).mp h) ok H locs cells slots ls hW hS hL h1 h2)
theorem P.icmp_lt {a c off : Int} {t : Nat} (hd : decode (MI.cc M) pc = .ok (.if_icmp .lt off, 3)) (ht : (pc : Int) + off = (t : Int)) (ha : inR a) (hc : inR c) (k1 : a < c → P x d M Q b t L st N σ) (k2 : c ≤ a → P x d M Q b (pc + 3) L st N σ) : P x d M Q b pc L (vI c :: vI a :: st) N σ :=
  fun ok H locs cells slots ls hW hS hL h1 h2 => lv_icmp_lt ok.1 ok.2.1 hd ht (fun h => k1 ((iI_lt ha hc).mp h) ok H locs cells slots ls hW hS hL h1 h2) (fun h => k2 (Int.not_lt.mp fun e => h ((iI_lt ha hc).mpr e)) ok H locs cells slots ls hW hS hL h1 h2)
theorem P.icmp_ge {a c off : Int} {t : Nat} (hd : decode (MI.cc M) pc = .ok (.if_icmp .ge off, 3)) (ht : (pc : Int) + off = (t : Int)) (ha : inR a) (hc : inR c) (k1 : c ≤ a → P x d M Q b t L st N σ) (k2 : a < c → P x d M Q b (pc + 3) L st N σ) : P x d M Q b pc L (vI c :: vI a :: st) N σ :=
  fun ok H locs cells slots ls hW hS hL h1 h2 => lv_icmp_ge ok.1 ok.2.1 hd ht (fun h => k1 ((iI_le hc ha).mp h) ok H locs cells slots ls hW hS hL h1 h2) (fun h => k2 (Int.not_le.mp fun e => h ((iI_le hc ha).mpr e)) ok H locs cells slots ls hW hS hL h1 h2)
theorem P.icmp_gt {a c off : Int} {t : Nat} (hd : decode (MI.cc M) pc = .ok (.if_icmp .gt off, 3)) (ht : (pc : Int) + off = (t : Int)) (ha : inR a) (hc : inR c) (k1 : c < a → P x d M Q b t L st N σ) (k2 : a ≤ c → P x d M Q b (pc + 3) L st N σ) : P x d M Q b pc L (vI c :: vI a :: st) N σ :=
  fun ok H locs cells slots ls hW hS hL h1 h2 => lv_icmp_gt ok.1 ok.2.1 hd ht (fun h => k1 ((iI_lt hc ha).mp h) ok H locs cells slots ls hW hS hL h1 h2) (fun h => k2 (Int.not_lt.mp fun e => h ((iI_lt hc ha).mpr e)) ok H locs cells slots ls hW hS hL h1 h2)
theorem P.icmp_le {a c off : Int} {t : Nat} (hd : decode (MI.cc M) pc = .ok (.if_icmp .le off, 3)) (ht : (pc : Int) + off = (t : Int)) (ha : inR a) (hc : inR c) (k1 : a ≤ c → P x d M Q b t L st N σ) (k2 : c < a → P x d M Q b (pc + 3) L st N σ) : P x d M Q b pc L (vI c :: vI a :: st) N σ :=
  fun ok H locs cells slots ls hW hS hL h1 h2 => lv_icmp_le ok.1 ok.2.1 hd ht (fun h => k1 ((iI_le ha hc).mp h) ok H locs cells slots ls hW hS hL h1 h2) (fun h => k2 (Int.not_le.mp fun e => h ((iI_le ha hc).mpr e)) ok H locs cells slots ls hW hS hL h1 h2)
theorem P.tswOut {a dflt lo hi : Int} {offs : Array Int} {len t : Nat} (hd : decode (MI.cc M) pc = .ok (.tableswitch dflt lo hi offs, len)) (ha : inR a) (h : a < lo ∨ hi < a) (ht : (pc : Int) + dflt = (t : Int)) (k : P x d M Q b t L st N σ) : P x d M Q b pc L (vI a :: st) N σ :=
  fun ok H locs cells slots ls hW hS hL h1 h2 => lv_tableOut ok.1 ok.2.1 hd (by rw [iI_toInt ha]; exact h) ht (k ok H locs cells slots ls hW hS hL h1 h2)
theorem P.tswIn {a dflt lo hi off : Int} {offs : Array Int} {len t : Nat} (hd : decode (MI.cc M) pc = .ok (.tableswitch dflt lo hi offs, len)) (ha : inR a) (h1 : lo ≤ a) (h2 : a ≤ hi) (ho : offs[(a - lo).toNat]? = some off) (ht : (pc : Int) + off = (t : Int)) (k : P x d M Q b t L st N σ) : P x d M Q b pc L (vI a :: st) N σ :=
  fun ok H locs cells slots ls hW hS hL g1 g2 => lv_tableIn ok.1 ok.2.1 hd (by rw [iI_toInt ha]; omega) (by rw [iI_toInt ha]; omega) (by rw [iI_toInt ha]; exact ho) ht (k ok H locs cells slots ls hW hS hL g1 g2)
end
