/-! ===== THE PURE MACHINE. A heap is what is known of its cells (tag and contents), how many cells there are, how many slots were made. Tags below 100 are objects of the class vwCl[tag]; 100 + j are arrays of the kind pat[j]. A frame: method, pc, locals, operand stack. 'Ex E d F h F' h'': from F over h the method comes to F' over h', its calls done whole, at most d deep. It is said of the machine itself (W), so that every rule below is a theorem about the machine. ===== -/
abbrev PC : Type := Nat × List Value
abbrev PH : Type := (Nat → Option PC) × Nat × Nat
abbrev PL : Type := List (Option Value)
abbrev PF : Type := Nat × Nat × PL × List Value
/-- below the first number nothing is written; where the static arrays lie; the Class object of Object[] -/
abbrev PE : Type := Nat × (Nat → Nat) × Nat
abbrev PD : Type := va_G × (Nat → ClassId)
def pN (t : Nat) : Nat := match vwCl[t]? with
  | some r => r.2.2
  | none => 0
/-- a cell of the heap is as told -/
def pcel (D : PD) (a t : Nat) (fs : List Value) (H : Heap) : Prop :=
  ∃ cell : Cell, H[a]? = some cell ∧
    ((t < 100 ∧ cell.cls = D.1.1 t ∧ cell.vm = .none ∧ fs.length = pN t ∧ ∀ k, k < pN t → cell.slots[D.1.2 t k]? = fs[k]?) ∨
     (100 ≤ t ∧ cell.cls = D.2 (t - 100) ∧ cell.vm ≠ .unknown ∧ (∀ q, cell.vm ≠ .statics q) ∧ cell.slots.toList = fs ∧ (t < 107 → cell = ({ cls := cell.cls, slots := cell.slots, vm := .none } : Cell))))
def prep (E : PE) (D : PD) (h : PH) (H : Heap) : Prop := H.size = h.2.1 ∧ ∀ (a t : Nat) (fs : List Value), h.1 a = some (t, fs) → pcel D a t fs H ∧ (t < 107 → E.1 ≤ a)
/-- an array class by the tables -/
def parr (U : State) (cA : ClassId) (ty : FieldType) : Prop := ∃ (kA : Class) (comp : ClassId), U.vm.classes[cA]? = some kA ∧ kA.kind = .array comp ty ∧ ∀ C, ty = .object C → U.vm.findClass C = some comp
/-- what the tables and the statics say, at a state -/
def PK (E : PE) (D : PD) (U : State) : Prop :=
  va_K D.1 vwCl [] U ∧ (∀ (j : Nat) (ty : FieldType), pat[j]? = some ty → parr U (D.2 j) ty) ∧
  (∀ (j : Nat) (ty : FieldType), pat[j]? = some ty → j < 7 → U.vm.findClass ("[" ++ ty.toString) = some (D.2 j)) ∧
  va_Z "TermSimplifier" "HEAD_LENGTHS" "[I" (.ref (E.2.1 0)) (fun q => E.1 ≤ q) U U.heap ∧
  va_Z "TermSimplifier" "PARTS" "[I" (.ref (E.2.1 1)) (fun q => E.1 ≤ q) U U.heap ∧
  va_Z "java/util/ArrayList" "DEFAULTCAPACITY_EMPTY_ELEMENTDATA" "[Ljava/lang/Object;" (.ref (E.2.1 2)) (fun q => E.1 ≤ q) U U.heap ∧
  va_Mi "[Ljava/lang/Object;" E.2.2 U ∧ D.2 9 = D.2 6 ∧ va_Dc U ∧ (∀ (j : Nat) (C : String), pat[j]? = some (.object C) → j < 7 → va_AO C U) ∧
  (∀ q ∈ mln, va_Nw (.methodLinkNest (cnm.getD q.1 "") q.2.1 (mnam q.2.2.1) "TermSimplifier") U) ∧ va_Nw (.fieldLinkNest "TermSimplifier$Converter" jHL "TermSimplifier" "HEAD_LENGTHS" "[I" "TermSimplifier") U ∧
  va_Nw (.fieldLinkNest "TermSimplifier$Converter" jPA "TermSimplifier" "PARTS" "[I" "TermSimplifier") U ∧ va_Nw (.castable "TermSimplifier$Binding" "java/lang/Object") U
/-- the locals of the machine's frame hold what is known of them -/
def lrel (ls : Array Slot) (L : PL) : Prop := ls.size = L.length ∧ lv_wf ls ∧ ∀ (i : Nat) (v : Value), L[i]? = some (some v) → ls[i]? = some (.val v)
/-- the method that runs: its code, the tables' words, its room -/
def PFit (E : PE) (D : PD) (p : Program) (R : Room) (s : State) (m : MethodId) (args : Array Value) (meth : Method) (c : Code) (mi d : Nat) : Prop :=
  p.tables.exec = Jvm.exec ∧ c.code = mbyt mi ∧ c.maxLocals = mmax mi ∧ s.vm.findClass (mown mi) = some m.cls ∧ (∀ w ∈ gtbl, w.before args s = true) ∧ meth.name = (mnam mi).name ∧
  d + 8 ≤ R.frames ∧ 40 * d + 200 ≤ R.locals ∧ PK E D s ∧ E.1 ≤ s.heap.size
def Ex (E : PE) (d : Nat) (F : PF) (h : PH) (F' : PF) (h' : PH) : Prop :=
  F'.1 = F.1 ∧ F'.2.2.1.length = F.2.2.1.length ∧ h.2.1 ≤ h'.2.1 ∧ h.2.2 ≤ h'.2.2 ∧
  ∀ (D : PD) (p : Program) (l : Launch) (e : Env) (R : Room) (s : State) (m : MethodId) (args : Array Value) (below : List Frame) (meth : Method) (c : Code) (Q : State → Prop) (en es : Nat) (H : Heap) (locs : List Loc) (ls : Array Slot),
    PFit E D p R s m args meth c F.1 d → en ≤ h.2.1 → es ≤ h.2.2 → h'.2.1 - en ≤ R.cells → h'.2.2 - es ≤ R.slots →
    prep E D h H → va_S (fun q => E.1 ≤ q) s.heap H locs → F.2.2.1.length = mmax F.1 → lrel ls F.2.2.1 →
    (∀ (H' : Heap) (locs' : List Loc) (ls' : Array Slot), prep E D h' H' → va_S (fun q => E.1 ≤ q) s.heap H' locs' → lrel ls' F'.2.2.1 →
      W p l e R s m args below meth c H' locs' (h'.2.1 - en) (h'.2.2 - es) Q (F0 m F'.2.1 ls' F'.2.2.2)) →
    W p l e R s m args below meth c H locs (h.2.1 - en) (h.2.2 - es) Q (F0 m F.2.1 ls F.2.2.2)
theorem Ex.rf {E : PE} {d : Nat} {F : PF} {h : PH} : Ex E d F h F h :=
  ⟨rfl, rfl, Nat.le_refl _, Nat.le_refl _, fun D p l e R s m args below meth c Q en es H locs ls _ _ _ _ _ hP hS _ hl k => k H locs ls hP hS hl⟩
theorem Ex.tr {E : PE} {d : Nat} {F F1 F2 : PF} {h h1 h2 : PH} (x : Ex E d F h F1 h1) (y : Ex E d F1 h1 F2 h2) : Ex E d F h F2 h2 := by
  obtain ⟨a1, b1, c1, d1, k1⟩ := x
  obtain ⟨a2, b2, c2, d2, k2⟩ := y
  refine ⟨a2.trans a1, b2.trans b1, Nat.le_trans c1 c2, Nat.le_trans d1 d2, ?_⟩
  intro D p l e R s m args below meth c Q en es H locs ls hF he1 he2 hc hs hP hS hm hl k
  refine k1 D p l e R s m args below meth c Q en es H locs ls hF he1 he2 (by omega) (by omega) hP hS hm hl (fun H' locs' ls' hP' hS' hl' => ?_)
  refine k2 D p l e R s m args below meth c Q en es H' locs' ls' (by rw [a1]; exact hF) (by omega) (by omega) hc hs hP' hS' (by rw [b1, a1]; exact hm) hl' k
/-- a step that touches the operand stack and the pc alone -/
theorem Ex.go {E : PE} {d mi pc pc' : Nat} {L : PL} {st st' : List Value} {h : PH}
    (k : ∀ (D : PD) (p : Program) (l : Launch) (e : Env) (R : Room) (s : State) (m : MethodId) (args : Array Value) (below : List Frame) (meth : Method) (c : Code) (Q : State → Prop) (H : Heap) (locs : List Loc) (cells slots : Nat) (ls : Array Slot),
      PFit E D p R s m args meth c mi d → lrel ls L → prep E D h H → va_S (fun q => E.1 ≤ q) s.heap H locs → W p l e R s m args below meth c H locs cells slots Q (F0 m pc' ls st') → W p l e R s m args below meth c H locs cells slots Q (F0 m pc ls st)) :
    Ex E d (mi, pc, L, st) h (mi, pc', L, st') h :=
  ⟨rfl, rfl, Nat.le_refl _, Nat.le_refl _, fun D p l e R s m args below meth c Q en es H locs ls hF _ _ _ _ hP hS _ hl kk => k D p l e R s m args below meth c Q H locs _ _ ls hF hl hP hS (kk H locs ls hP hS hl)⟩
/-- forgetting locals -/
theorem Ex.wk {E : PE} {d mi pc : Nat} {L L' : PL} {st : List Value} {h : PH} (hn : L'.length = L.length) (hw : ∀ (i : Nat) (v : Value), L'[i]? = some (some v) → L[i]? = some (some v)) : Ex E d (mi, pc, L, st) h (mi, pc, L', st) h :=
  ⟨rfl, hn, Nat.le_refl _, Nat.le_refl _, fun D p l e R s m args below meth c Q en es H locs ls hF _ _ _ _ hP hS _ hl kk => kk H locs ls hP hS ⟨hl.1.trans hn.symm, hl.2.1, fun i v q => hl.2.2 i v (hw i v q)⟩⟩
/-! ===== the instructions that touch the stack alone ===== -/
section XS
variable {E : PE} {d mi pc : Nat} {L : PL} {st : List Value} {h : PH}
theorem x_iconst {n : Int} (hi : pin mi pc = some (.iconst n, 1)) : Ex E d (mi, pc, L, st) h (mi, pc + 1, L, .int (Int32.ofInt n) :: st) h :=
  Ex.go (fun D p l e R s m args below meth c Q H locs cells slots ls hF hl _ _ k => lv_iconst hF.1 hF.2.1 (pin_dec hi) rfl k)
theorem x_bipush {n : Int} (hi : pin mi pc = some (.bipush n, 2)) : Ex E d (mi, pc, L, st) h (mi, pc + 2, L, .int (Int8.ofInt n).toInt32 :: st) h :=
  Ex.go (fun D p l e R s m args below meth c Q H locs cells slots ls hF hl _ _ k => lv_bipush hF.1 hF.2.1 (pin_dec hi) rfl k)
theorem x_sipush {n : Int} (hi : pin mi pc = some (.sipush n, 3)) : Ex E d (mi, pc, L, st) h (mi, pc + 3, L, .int (Int16.ofInt n).toInt32 :: st) h :=
  Ex.go (fun D p l e R s m args below meth c Q H locs cells slots ls hF hl _ _ k => lv_sipush hF.1 hF.2.1 (pin_dec hi) rfl k)
theorem x_lconst {n : Fin 2} (hi : pin mi pc = some (.lconst n, 1)) : Ex E d (mi, pc, L, st) h (mi, pc + 1, L, .long (Int64.ofNat n.val) :: st) h :=
  Ex.go (fun D p l e R s m args below meth c Q H locs cells slots ls hF hl _ _ k => lv_lconst hF.1 hF.2.1 (pin_dec hi) rfl k)
theorem x_null (hi : pin mi pc = some (.aconst_null, 1)) : Ex E d (mi, pc, L, st) h (mi, pc + 1, L, .null :: st) h :=
  Ex.go (fun D p l e R s m args below meth c Q H locs cells slots ls hF hl _ _ k => lv_null hF.1 hF.2.1 (pin_dec hi) k)
theorem x_iload {i : Nat} {x : Int32} (hi : pin mi pc = some (.iload i, 2)) (hx : L[i]? = some (some (.int x))) : Ex E d (mi, pc, L, st) h (mi, pc + 2, L, .int x :: st) h :=
  Ex.go (fun D p l e R s m args below meth c Q H locs cells slots ls hF hl _ _ k => lv_iload hF.1 hF.2.1 (pin_dec hi) (hl.2.2 i _ hx) k)
theorem x_iload_n {i : Fin 4} {x : Int32} (hi : pin mi pc = some (.iload_n i, 1)) (hx : L[i.val]? = some (some (.int x))) : Ex E d (mi, pc, L, st) h (mi, pc + 1, L, .int x :: st) h :=
  Ex.go (fun D p l e R s m args below meth c Q H locs cells slots ls hF hl _ _ k => lv_iload_n hF.1 hF.2.1 (pin_dec hi) rfl (hl.2.2 i.val _ hx) k)
theorem x_lload {i : Nat} {x : Int64} (hi : pin mi pc = some (.lload i, 2)) (hx : L[i]? = some (some (.long x))) : Ex E d (mi, pc, L, st) h (mi, pc + 2, L, .long x :: st) h :=
  Ex.go (fun D p l e R s m args below meth c Q H locs cells slots ls hF hl _ _ k => lv_lload hF.1 hF.2.1 (pin_dec hi) (hl.2.2 i _ hx) k)
theorem x_lload_n {i : Fin 4} {x : Int64} (hi : pin mi pc = some (.lload_n i, 1)) (hx : L[i.val]? = some (some (.long x))) : Ex E d (mi, pc, L, st) h (mi, pc + 1, L, .long x :: st) h :=
  Ex.go (fun D p l e R s m args below meth c Q H locs cells slots ls hF hl _ _ k => lv_lload_n hF.1 hF.2.1 (pin_dec hi) rfl (hl.2.2 i.val _ hx) k)
theorem x_aload {i : Nat} {v : Value} (hi : pin mi pc = some (.aload i, 2)) (hx : L[i]? = some (some v)) (hv : v.isRef = true) : Ex E d (mi, pc, L, st) h (mi, pc + 2, L, v :: st) h :=
  Ex.go (fun D p l e R s m args below meth c Q H locs cells slots ls hF hl _ _ k => by
    cases v with
    | null => exact lv_aloadN hF.1 hF.2.1 (pin_dec hi) (hl.2.2 i _ hx) k
    | ref a => exact lv_aload hF.1 hF.2.1 (pin_dec hi) (hl.2.2 i _ hx) k
    | _ => cases hv)
theorem x_aload_n {i : Fin 4} {v : Value} (hi : pin mi pc = some (.aload_n i, 1)) (hx : L[i.val]? = some (some v)) (hv : v.isRef = true) : Ex E d (mi, pc, L, st) h (mi, pc + 1, L, v :: st) h :=
  Ex.go (fun D p l e R s m args below meth c Q H locs cells slots ls hF hl _ _ k => by
    cases v with
    | null => exact lv_aload_nN hF.1 hF.2.1 (pin_dec hi) rfl (hl.2.2 i.val _ hx) k
    | ref a => exact lv_aload_n hF.1 hF.2.1 (pin_dec hi) rfl (hl.2.2 i.val _ hx) k
    | _ => cases hv)
theorem x_iadd {x y : Int32} (hi : pin mi pc = some (.iadd, 1)) : Ex E d (mi, pc, L, .int y :: .int x :: st) h (mi, pc + 1, L, .int (x + y) :: st) h :=
  Ex.go (fun D p l e R s m args below meth c Q H locs cells slots ls hF hl _ _ k => lv_iadd hF.1 hF.2.1 (pin_dec hi) k)
theorem x_isub {x y : Int32} (hi : pin mi pc = some (.isub, 1)) : Ex E d (mi, pc, L, .int y :: .int x :: st) h (mi, pc + 1, L, .int (x - y) :: st) h :=
  Ex.go (fun D p l e R s m args below meth c Q H locs cells slots ls hF hl _ _ k => lv_isub hF.1 hF.2.1 (pin_dec hi) k)
theorem x_imul {x y : Int32} (hi : pin mi pc = some (.imul, 1)) : Ex E d (mi, pc, L, .int y :: .int x :: st) h (mi, pc + 1, L, .int (x * y) :: st) h :=
  Ex.go (fun D p l e R s m args below meth c Q H locs cells slots ls hF hl _ _ k => lv_imul hF.1 hF.2.1 (pin_dec hi) k)
theorem x_iand {x y : Int32} (hi : pin mi pc = some (.iand, 1)) : Ex E d (mi, pc, L, .int y :: .int x :: st) h (mi, pc + 1, L, .int (x &&& y) :: st) h :=
  Ex.go (fun D p l e R s m args below meth c Q H locs cells slots ls hF hl _ _ k => lv_iand hF.1 hF.2.1 (pin_dec hi) k)
theorem x_idiv {x y : Int32} (hi : pin mi pc = some (.idiv, 1)) (hy : ¬ y = 0) : Ex E d (mi, pc, L, .int y :: .int x :: st) h (mi, pc + 1, L, .int (x / y) :: st) h :=
  Ex.go (fun D p l e R s m args below meth c Q H locs cells slots ls hF hl _ _ k => lv_idiv hF.1 hF.2.1 (pin_dec hi) hy k)
theorem x_ishr {x y : Int32} (hi : pin mi pc = some (.ishr, 1)) : Ex E d (mi, pc, L, .int y :: .int x :: st) h (mi, pc + 1, L, .int (x >>> (y &&& 31)) :: st) h :=
  Ex.go (fun D p l e R s m args below meth c Q H locs cells slots ls hF hl _ _ k => lv_ishr hF.1 hF.2.1 (pin_dec hi) k)
theorem x_ladd {x y : Int64} (hi : pin mi pc = some (.ladd, 1)) : Ex E d (mi, pc, L, .long y :: .long x :: st) h (mi, pc + 1, L, .long (x + y) :: st) h :=
  Ex.go (fun D p l e R s m args below meth c Q H locs cells slots ls hF hl _ _ k => lv_ladd hF.1 hF.2.1 (pin_dec hi) k)
theorem x_lsub {x y : Int64} (hi : pin mi pc = some (.lsub, 1)) : Ex E d (mi, pc, L, .long y :: .long x :: st) h (mi, pc + 1, L, .long (x - y) :: st) h :=
  Ex.go (fun D p l e R s m args below meth c Q H locs cells slots ls hF hl _ _ k => lv_lsub hF.1 hF.2.1 (pin_dec hi) k)
theorem x_land {x y : Int64} (hi : pin mi pc = some (.land, 1)) : Ex E d (mi, pc, L, .long y :: .long x :: st) h (mi, pc + 1, L, .long (x &&& y) :: st) h :=
  Ex.go (fun D p l e R s m args below meth c Q H locs cells slots ls hF hl _ _ k => lv_land hF.1 hF.2.1 (pin_dec hi) k)
theorem x_lcmp {x y : Int64} (hi : pin mi pc = some (.lcmp, 1)) : Ex E d (mi, pc, L, .long y :: .long x :: st) h (mi, pc + 1, L, .int (lg_cmp x y) :: st) h :=
  Ex.go (fun D p l e R s m args below meth c Q H locs cells slots ls hF hl _ _ k => W.lcmp hF.1 hF.2.1 (pin_dec hi) k)
theorem x_i2l {x : Int32} (hi : pin mi pc = some (.i2l, 1)) : Ex E d (mi, pc, L, .int x :: st) h (mi, pc + 1, L, .long x.toInt64 :: st) h :=
  Ex.go (fun D p l e R s m args below meth c Q H locs cells slots ls hF hl _ _ k => lv_i2l hF.1 hF.2.1 (pin_dec hi) rfl k)
theorem x_l2i {x : Int64} (hi : pin mi pc = some (.l2i, 1)) : Ex E d (mi, pc, L, .long x :: st) h (mi, pc + 1, L, .int x.toInt32 :: st) h :=
  Ex.go (fun D p l e R s m args below meth c Q H locs cells slots ls hF hl _ _ k => lv_l2i hF.1 hF.2.1 (pin_dec hi) rfl k)
theorem x_dup {v : Value} (hi : pin mi pc = some (.dup, 1)) (hv : v.category = 1) : Ex E d (mi, pc, L, v :: st) h (mi, pc + 1, L, v :: v :: st) h :=
  Ex.go (fun D p l e R s m args below meth c Q H locs cells slots ls hF hl _ _ k => lv_dup hF.1 hF.2.1 (pin_dec hi) hv k)
theorem x_pop {v : Value} (hi : pin mi pc = some (.pop, 1)) (hv : v.category = 1) : Ex E d (mi, pc, L, v :: st) h (mi, pc + 1, L, st) h :=
  Ex.go (fun D p l e R s m args below meth c Q H locs cells slots ls hF hl _ _ k => lv_pop hF.1 hF.2.1 (pin_dec hi) hv k)
theorem x_dup_x1 {v w : Value} (hi : pin mi pc = some (.dup_x1, 1)) (hv : v.category = 1) (hw : w.category = 1) : Ex E d (mi, pc, L, v :: w :: st) h (mi, pc + 1, L, v :: w :: v :: st) h :=
  Ex.go (fun D p l e R s m args below meth c Q H locs cells slots ls hF hl _ _ k => lv_dup_x1 hF.1 hF.2.1 (pin_dec hi) hv hw k)
theorem x_dup2 {v w : Value} (hi : pin mi pc = some (.dup2, 1)) (hv : v.category = 1) (hw : w.category = 1) : Ex E d (mi, pc, L, v :: w :: st) h (mi, pc + 1, L, v :: w :: v :: w :: st) h :=
  Ex.go (fun D p l e R s m args below meth c Q H locs cells slots ls hF hl _ _ k => lv_dup2_11 hF.1 hF.2.1 (pin_dec hi) hv hw k)
theorem x_goto {off : Int} {tg : Nat} (hi : pin mi pc = some (.goto off, 3)) (ht : (pc : Int) + off = (tg : Int)) : Ex E d (mi, pc, L, st) h (mi, tg, L, st) h :=
  Ex.go (fun D p l e R s m args below meth c Q H locs cells slots ls hF hl _ _ k => lv_goto hF.1 hF.2.1 (pin_dec hi) ht k)
end XS
