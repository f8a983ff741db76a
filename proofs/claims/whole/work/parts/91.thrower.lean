/-! ===== throwing: 'throw new X("text")' where X's constructor calls its superclass's by any entry (java/util/NoSuchElementException of this JDK calls entry 13, so the rows of part 89 do not fit it). The steps are the library's (ctorThrowS), for a first constructor of one's own. ===== -/
/-- the words of such a throw, but the four that speak of the heap -/
def xw (own : String) (ic : Nat) (X Y : String) (names : List String) (j : Nat) (cc : ByteArray) : List Cond :=
  Bundle.throwableAtoms ++ Bundle.throwableSAtoms ++ (Bundle.passSAtoms X Y j cc ++ Bundle.chainSAtoms Y names) ++
  [.methodLink own ic (Bundle.initS X), .instantiable X 6, .castable X X, .selects X Bundle.tFill0 Bundle.tFill0, .selects X Bundle.tFill Bundle.tFill,
   .lays X Bundle.tN "cause" "Ljava/lang/Throwable;", .lays X Bundle.tN "stackTrace" Bundle.steD, .lays X Bundle.tN "suppressedExceptions" Bundle.listD, .lays X Bundle.tN "detailMessage" "Ljava/lang/String;",
   .fieldLink Bundle.tN 198 Bundle.tN "backtrace" "Ljava/lang/Object;", .lays Bundle.tN Bundle.tN "backtrace" "Ljava/lang/Object;", .lays X Bundle.tN "backtrace" "Ljava/lang/Object;"]
section XT1
variable {p : Program} {l : Launch} {e : Jvm.Env} {R : Room} {s : State} {m : MethodId} {args : Array Value} {below : List Frame} {meth : Method} {c : Code} {T0 : State} {locs : List Loc} {cells slots : Nat}
set_option maxHeartbeats 2000000 in
theorem xt_ctor (X : Stand p l e R s m args below meth c T0 locs cells slots) (hexec : p.tables.exec = Jvm.exec) (htr : e.platform.stackTraces = false) {own cls Y : String} {names : List String} {ic j : Nat} {cc : ByteArray}
    (hown : s.vm.findClass own = some m.cls) (hcls : Bundle.fit cls = true) (hY : Bundle.fit Y = true) (hnames : ∀ n ∈ names, Bundle.fit n = true)
    (k0 : decode cc 0 = .ok (.aload_n 0, 1)) (k1 : decode cc 1 = .ok (.aload_n 1, 1)) (k2 : decode cc 2 = .ok (.invokespecial j, 3)) (k5 : decode cc 5 = .ok (.return_, 1))
    (h : ∀ a ∈ xw own ic cls Y names j cc, a.before args s = true)
    (hU : (Cond.isRef (.static Bundle.tN "UNASSIGNED_STACK" Bundle.steD)).before args s = true) (hN : (Cond.isRef (.static Bundle.tN "SUPPRESSED_SENTINEL" Bundle.listD)).before args s = true)
    (hlocs : ∀ x ∈ locs, ∀ cell, s.heap[x.base]? = some cell → cell.vm.isStatics = false)
    {a : Addr} {cX : ClassId} {kX : Class} (hfoundX : s.vm.findClass cls = some cX) (hkX : s.vm.classes[cX]? = some kX) (hcell : T0.heap[a]? = some (freshCell cX kX)) (hnew : s.heap.size ≤ a)
    {msg : Value} (hmsg : msg.isRef = true)
    {g : JFrame} (hg : g.method = m) (hsize : g.locals.size = c.maxLocals) (hlocked : g.locked = none) (hentered : g.entered = []) {rest : List Value} (hstack : g.stack = msg :: .ref a :: .ref a :: rest)
    (hd6 : decode c.code g.pc = .ok (.invokespecial ic, 3)) (hd9 : decode c.code (g.pc + 3) = .ok (.athrow, 1)) (hout : ∀ x ∈ c.exceptionTable.toList, covers x (g.pc + 3) = false)
    (hRframes : names.length + 4 < R.frames) (hRlocals : 2 * g.monitorRoom + ((Value.ref a :: rest).map fun v => v.category).sum + (13 * (names.length + 2) + 42) ≤ R.locals) (hlocks : meth.locks = false) :
    ∃ U : State, Steps p.tables e below (T0.setTop g) U ∧ U.status = .running ∧ Ended U below (.threw a) ∧ s.WarmedH U.vm ∧ s.sameButNew ({ U with vm := s.vm } : State) locs cells slots ∧
      ∃ ce, U.heap[a]? = some ce ∧ ce.vm = .none ∧ s.vm.findClass cls = some ce.cls := by
  have howns : e.platform.frameOwnsMonitors = true := by rw [X.admits.platform]
  have hfin : e.platform.finalization = false := by rw [X.admits.platform]
  have hpl : e.platform.magicAccessors = ({} : Platform).magicAccessors := by rw [X.admits.platform]
  have h1 : ∀ x ∈ Bundle.throwableAtoms, x.before args s = true := fun x hx => h x (by unfold xw; exact List.mem_append_left _ (List.mem_append_left _ (List.mem_append_left _ hx)))
  have h2 : ∀ x ∈ Bundle.throwableSAtoms, x.before args s = true := fun x hx => h x (by unfold xw; exact List.mem_append_left _ (List.mem_append_left _ (List.mem_append_right _ hx)))
  have h3 : ∀ x ∈ Bundle.passSAtoms cls Y j cc, x.before args s = true := fun x hx => h x (by unfold xw; exact List.mem_append_left _ (List.mem_append_right _ (List.mem_append_left _ hx)))
  have h4 : ∀ x ∈ Bundle.chainSAtoms Y names, x.before args s = true := fun x hx => h x (by unfold xw; exact List.mem_append_left _ (List.mem_append_right _ (List.mem_append_right _ hx)))
  have h5 : ∀ x ∈ ([.methodLink own ic (Bundle.initS cls), .instantiable cls 6, .castable cls cls, .selects cls Bundle.tFill0 Bundle.tFill0, .selects cls Bundle.tFill Bundle.tFill,
   .lays cls Bundle.tN "cause" "Ljava/lang/Throwable;", .lays cls Bundle.tN "stackTrace" Bundle.steD, .lays cls Bundle.tN "suppressedExceptions" Bundle.listD, .lays cls Bundle.tN "detailMessage" "Ljava/lang/String;",
   .fieldLink Bundle.tN 198 Bundle.tN "backtrace" "Ljava/lang/Object;", .lays Bundle.tN Bundle.tN "backtrace" "Ljava/lang/Object;", .lays cls Bundle.tN "backtrace" "Ljava/lang/Object;"] : List Cond), x.holds args s none s [] = true := fun x hx => h x (by unfold xw; exact List.mem_append_right _ hx)
  obtain ⟨T, Z0, L, -, Q⟩ := ThrowableC.of_atoms (args := args) howns hfin hpl h1
  obtain ⟨Z, M, LZ, LM, hnZ⟩ := Init0T.ofS_atoms (args := args) hpl L Q h2
  obtain ⟨P1, L1, hP1m, hP1s⟩ := PassC.ofS_atoms (args := args) (s := s) hpl (X := cls) (Y := Y) (Bundle.fit_spec hcls).1 (Bundle.fit_spec hY).2 k0 k1 k2 k5 h3
  obtain ⟨P2, Ps, hlen, L2, hL, hP2m, hlink2, hlink⟩ := Bundle.chainS (args := args) hpl hnZ names Y hY hnames h4
  have hP12 : P1.sup = P2.m := Option.some.inj (hP1s.symm.trans hP2m)
  have hfound : s.vm.findClass cls = some P1.m.cls := findClass_of_methodNamed hP1m
  cases Option.some.inj (hfoundX.symm.trans hfound)
  obtain ⟨c1, kX', hc1, hk, hord, -, -, hn6⟩ := Cond.instantiable_spec (h5 (.instantiable cls 6) (by simp))
  cases Option.some.inj (hc1.symm.trans hfound)
  cases Option.some.inj (hkX.symm.trans hk)
  have hsel0 : selectMethod e.platform s.vm P1.m.cls T.fill0 = .method T.fill0 := by
    obtain ⟨c2, r2, m2, q1, q2, q3, q4, -⟩ := Cond.selects_spec (h5 (.selects cls Bundle.tFill0 Bundle.tFill0) (by simp))
    cases Option.some.inj (q1.symm.trans hfound)
    cases Option.some.inj (q2.symm.trans (State.methodFound?_of_named Q.fill0 (by decide)))
    cases Option.some.inj (q3.symm.trans Q.fill0)
    rw [Launch.admits_selectMethod X.admits]; exact q4
  have hselF : selectMethod e.platform s.vm P1.m.cls T.fill = .method T.fill := by
    obtain ⟨c2, r2, m2, q1, q2, q3, q4, -⟩ := Cond.selects_spec (h5 (.selects cls Bundle.tFill Bundle.tFill) (by simp))
    cases Option.some.inj (q1.symm.trans hfound)
    cases Option.some.inj (q2.symm.trans (State.methodFound?_of_named Q.fill (by decide)))
    cases Option.some.inj (q3.symm.trans Q.fill)
    rw [Launch.admits_selectMethod X.admits]; exact q4
  obtain ⟨cellS0, hcS0, hiss⟩ := Q.statics
  obtain ⟨u0, hu0⟩ := Cond.staticRefV Q.unassigned L.unassignedStatic L.statics hcS0 hiss hU
  obtain ⟨sen, hsen⟩ := Cond.staticRefV Q.sentinel L.sentinelStatic L.statics hcS0 hiss hN
  obtain ⟨ci198, i198, fB, hk198, hg198, ha198, hsB, -, hnB, htB, hffB⟩ := Cond.ownField (t := .object "java/lang/Object") Q.found L.cls (by decide +kernel) (h5 (.fieldLink Bundle.tN 198 Bundle.tN "backtrace" "Ljava/lang/Object;") (by simp)) (h5 (.lays Bundle.tN Bundle.tN "backtrace" "Ljava/lang/Object;") (by simp)) e.platform hpl
  obtain ⟨cellS, hcS', heS, -, hkeep⟩ := X.same.2.2.2.2.2 T.aS cellS0 hcS0
  have hcellS : T0.heap[T.aS]? = some cellS := hcS'
  have hout' : ∀ i, (⟨T.aS, i⟩ : Loc) ∉ locs := fun i hmem => by
    have := hlocs _ hmem cellS0 hcS0
    rw [hiss] at this; cases this
  have hknownS : cellS.vm ≠ .unknown := by
    rw [heS]; intro hu
    rw [show cellS0.vm = .unknown from hu] at hiss
    cases hiss
  have hneS : T.aS ≠ a := Nat.ne_of_lt (Nat.lt_of_lt_of_le (Array.getElem?_eq_some_iff.mp hcS0).1 hnew)
  obtain ⟨iM, hffM⟩ := Q.msg
  obtain ⟨tyC, dC, hdC, hdnC⟩ := Cond.laysAt hfound hk Q.cause (h5 (.lays cls Bundle.tN "cause" "Ljava/lang/Throwable;") (by simp))
  obtain ⟨tyS, dS, hdS, hdnS⟩ := Cond.laysAt hfound hk Q.stack (h5 (.lays cls Bundle.tN "stackTrace" Bundle.steD) (by simp))
  obtain ⟨tyP, dP, hdP, hdnP⟩ := Cond.laysAt hfound hk Q.supp (h5 (.lays cls Bundle.tN "suppressedExceptions" Bundle.listD) (by simp))
  obtain ⟨tyM, -, -, -⟩ := Cond.laysAt hfound hk hffM (h5 (.lays cls Bundle.tN "detailMessage" "Ljava/lang/String;") (by simp))
  obtain ⟨tyB, dB, hdB, hdnB⟩ := Cond.laysAt hfound hk hffB (h5 (.lays cls Bundle.tN "backtrace" "Ljava/lang/Object;") (by simp))
  have bC := Cond.laysApart hdB hdC hdnB hdnC (by rw [hnB, Q.causeName]; decide)
  have bS := Cond.laysApart hdB hdS hdnB hdnS (by rw [hnB, Q.stackName]; decide)
  have bP := Cond.laysApart hdB hdP hdnB hdnP (by rw [hnB, Q.suppName]; decide)
  have hskip : SkipFacts T e.platform s (fun u => u) u0 ((preparedCellV T.toThrowableT (freshCell P1.m.cls kX) a u0 sen).withEntry T0.cur) :=
    ⟨{ ci198 := ci198, i198 := i198, fBack := fB }, ⟨hk198, hg198, ha198, hsB⟩, by
      have := fresh_default (c := P1.m.cls) tyB
      rw [htB] at this
      simpa [preparedCellV, Cell.setSlot, Cell.withEntry, Array.getElem?_setIfInBounds, bC, bS, bP, bC.symm, bS.symm, bP.symm, defaultValue] using this, fun _ _ => rfl⟩
  obtain ⟨tm, methC, cdC, kC, vm₁, hnC, -, -, -, -, -, -, -, hW₁, st1⟩ := Steps.initColdS (tb := p.tables) (e := e) (below := below) (s := s) (U := T0) X.here hexec X.warmed hpl hown (t := Bundle.initS cls) rfl rfl (Bundle.fit_spec hcls).2
    (h5 (.methodLink own ic (Bundle.initS cls)) (by simp)) (h3 (.instanceMethod (Bundle.initS cls)) (by simp [Bundle.passSAtoms])) (bytes := cc) (maxL := 2) (h3 (.code (Bundle.initS cls) cc 2 none) (by simp [Bundle.passSAtoms]))
    (f := g) hg (a := a) (msg := msg) (rest := .ref a :: rest) hstack hd6
  cases Option.some.inj (hnC.symm.trans hP1m)
  have X₁ := X.noted hW₁
  obtain ⟨vm₂, X₂, st2⟩ := X₁.ctorMessageOffV hexec (g := { g with stack := .ref a :: rest }) hg hsize T L Z LZ M LM (P1 :: P2 :: Ps)
    (fun P hP => by
      rcases List.mem_cons.mp hP with rfl | hP
      · exact L1
      · rcases List.mem_cons.mp hP with rfl | hP
        · exact L2
        · exact hL P hP) ⟨hP12, hlink2, hlink⟩ (u0 := u0) (sen := sen) (self := a) hmsg (cell := freshCell P1.m.cls kX) (cellS := cellS)
    hcell (fun _ => by simp) (by simp) rfl rfl hsel0 hselF hcellS hneS hknownS (by rw [hkeep _ (hout' _)]; exact hu0) (by rw [hkeep _ (hout' _)]; exact hsen)
    (Takes.of_laid hk hord tyC (by rw [Q.causeType]; rfl)) (Takes.of_laid hk hord tyS (by rw [Q.stackType]; exact fits_refV_array _ u0)) (Takes.of_laid hk hord tyP (by rw [Q.suppType]; exact fits_refV_object _ sen))
    (Takes.of_laid hk hord tyM (by rw [Q.msgType]; exact fits_refV_object _ ⟨msg, hmsg⟩)) Q.objLocals hskip htr [] hd6
    (by simp only [List.length_cons, hlen]; omega) (by simp only [List.length_cons, hlen]; exact hRlocals)
  obtain ⟨hwalk, hrun, hended, hWU, hsame⟩ := X₂.athrowLeaves hexec (g := { g with stack := .ref a :: rest, pc := g.pc + 3 }) hg hlocked hentered hout (a := a) (rest := rest) rfl hd9
  have hlt : a < ((T0.setVm vm₁).setVm vm₂).heap.size := (Array.getElem?_eq_some_iff.mp hcell).1
  have hH := heapAt_setCell_self (s := (T0.setVm vm₁).setVm vm₂) (plainBareV T.toThrowableT (freshCell P1.m.cls kX) a u0 sen msg) hlt
  refine ⟨_, st1 _ (fun acts => ?_), hrun, hended, hWU, hsame.weaken (fun y hy hlt' => ?_) (Nat.le_refl _) (Nat.le_refl _), _, hH, rfl, hfound⟩
  · rw [doInvoke_state]
    exact st2 _ hwalk
  · rcases List.mem_append.mp hy with h1 | h1
    · exact h1
    · exfalso
      have hb : y.base = a := by
        simp only [List.mem_cons, List.not_mem_nil, or_false] at h1
        rcases h1 with rfl | rfl | rfl | rfl | rfl <;> rfl
      rw [hb] at hlt'
      exact Nat.not_lt.mpr hnew hlt'
end XT1
/-! ===== what a throw stands on: two statics of Throwable, the texts, words that the tables' good ones leave out ===== -/
def xRT : String := "java/lang/RuntimeException"
def xEX : String := "java/lang/Exception"
/-- the four classes: name, the entry by which the constructor calls its superclass's, its code -/
def xcl (x : Nat) : String × Nat × ByteArray := match x with
  | 0 => ("java/lang/IllegalArgumentException", 7, Bundle.six)
  | 1 => ("java/lang/UnsupportedOperationException", 7, Bundle.six)
  | 2 => ("java/lang/IllegalStateException", 7, Bundle.six)
  | _ => ("java/util/NoSuchElementException", 13, prog_30_method_4_code)
def xbad : List Cond := [.declares (Bundle.initS xRT), .declares (Bundle.initS xEX), .declares (Bundle.initS Bundle.tN), .castable (xcl 0).1 (xcl 0).1, .castable (xcl 1).1 (xcl 1).1, .castable (xcl 2).1 (xcl 2).1, .castable (xcl 3).1 (xcl 3).1]
def xstr : List (Nat × String) := [(51, "the code is no term"), (62, "the rows lie too deep"), (79, "no program"), (89, "no such count"), (106, "no such number"), (127, "nothing such of a run")]
def XK (E : PE) (U : State) : Prop :=
  vx_Zq Bundle.tN "UNASSIGNED_STACK" Bundle.steD (fun q => E.1 ≤ q) U U.heap ∧ vx_Zq Bundle.tN "SUPPRESSED_SENTINEL" Bundle.listD (fun q => E.1 ≤ q) U U.heap ∧
  (∀ w ∈ xbad, va_Nw w U) ∧ (∀ q ∈ xstr, ∃ sa, vk_R "TermSimplifier" q.1 q.2 sa U) ∧ va_Nc (xcl 1).1 (xcl 0).1 U
theorem xbad_warm {u U : State} (hW : u.WarmedH U.vm) : ∀ w ∈ xbad, va_Nw w u → va_Nw w U := by
  unfold xbad
  intro w hw
  simp only [List.mem_cons, List.not_mem_nil, or_false] at hw
  rcases hw with rfl | rfl | rfl | rfl | rfl | rfl | rfl
  · exact va_Nw.warmD hW
  · exact va_Nw.warmD hW
  · exact va_Nw.warmD hW
  · exact va_Nw.warmC hW
  · exact va_Nw.warmC hW
  · exact va_Nw.warmC hW
  · exact va_Nw.warmC hW
theorem xNc_moved {C T : String} {u U : State} (hvm : u.vm.Alike U.vm) (h : va_Nc C T u) : va_Nc C T U := by
  obtain ⟨c, t, h1, h2, h3⟩ := h
  exact ⟨c, t, by rw [hvm.findClass]; exact h1, by rw [hvm.findClass]; exact h2, by rw [hvm.assignable]; exact h3⟩
theorem XK.moved {E : PE} {u U : State} (hW : u.WarmedH U.vm) (hk : ∀ q : Nat, q < u.heap.size → ¬ E.1 ≤ q → U.heap[q]? = u.heap[q]?) (h : XK E u) : XK E U := by
  obtain ⟨h1, h2, h3, h4, h5⟩ := h
  refine ⟨(h1.moved hW.alike).kept hk, (h2.moved hW.alike).kept hk, fun w hw => xbad_warm hW w hw (h3 w hw), fun q hq => ?_, xNc_moved hW.alike h5⟩
  obtain ⟨sa, h⟩ := h4 q hq
  exact ⟨sa, vk_R.warm hW h⟩
/-- a place where a method throws: method, pc, the class's number, the three entries, the text -/
abbrev XS : Type := Nat × Nat × Nat × Nat × Nat × Nat × String
def xsite : List XS := [(55, 12, 0, 49, 51, 53, "the code is no term"), (55, 34, 1, 60, 62, 64, "the rows lie too deep"), (56, 7, 2, 77, 79, 81, "no program"), (59, 7, 2, 77, 79, 81, "no program"), (62, 7, 2, 77, 79, 81, "no program"), (60, 9, 3, 87, 89, 91, "no such count"), (61, 40, 3, 87, 106, 91, "no such number"), (63, 72, 3, 87, 127, 91, "nothing such of a run")]
def xwa (x ic : Nat) : List Cond := xw "TermSimplifier" ic (xcl x).1 xRT [xEX] (xcl x).2.1 (xcl x).2.2
def xws (x ic : Nat) : List Cond := (xwa x ic).filter vx_no
def xok (q : XS) : Prop :=
  pin q.1 q.2.1 = some (.new q.2.2.2.1, 3) ∧ pin q.1 (q.2.1 + 3) = some (.dup, 1) ∧ pin q.1 (q.2.1 + 4) = some (.ldc q.2.2.2.2.1, 2) ∧ pin q.1 (q.2.1 + 6) = some (.invokespecial q.2.2.2.2.2.1, 3) ∧ pin q.1 (q.2.1 + 9) = some (.athrow, 1) ∧
  mown q.1 = "TermSimplifier" ∧ mkp q.1 = true ∧ (q.2.2.2.2.1, q.2.2.2.2.2.2) ∈ xstr ∧ Bundle.fit (xcl q.2.2.1).1 = true ∧
  (∀ w ∈ Cond.classLink "TermSimplifier" q.2.2.2.1 (xcl q.2.2.1).1 :: Cond.initialized (xcl q.2.2.1).1 :: (xws q.2.2.1 q.2.2.2.2.2.1).filter goodWord, w ∈ gtbl) ∧ (∀ w ∈ (xws q.2.2.1 q.2.2.2.2.2.1).filter (fun w => !goodWord w), w ∈ xbad) ∧ ((xws q.2.2.1 q.2.2.2.2.2.1).all fun w => w.onTables) = true ∧
  decode (xcl q.2.2.1).2.2 0 = .ok (.aload_n 0, 1) ∧ decode (xcl q.2.2.1).2.2 1 = .ok (.aload_n 1, 1) ∧ decode (xcl q.2.2.1).2.2 2 = .ok (.invokespecial (xcl q.2.2.1).2.1, 3) ∧ decode (xcl q.2.2.1).2.2 5 = .ok (.return_, 1)
theorem x_dec6 : decode Bundle.six 0 = .ok (.aload_n 0, 1) ∧ decode Bundle.six 1 = .ok (.aload_n 1, 1) ∧ decode Bundle.six 2 = .ok (.invokespecial 7, 3) ∧ decode Bundle.six 5 = .ok (.return_, 1) := ⟨by decide +kernel, by decide +kernel, by decide +kernel, by decide +kernel⟩
theorem x_dec13 : decode prog_30_method_4_code 0 = .ok (.aload_n 0, 1) ∧ decode prog_30_method_4_code 1 = .ok (.aload_n 1, 1) ∧ decode prog_30_method_4_code 2 = .ok (.invokespecial 13, 3) ∧ decode prog_30_method_4_code 5 = .ok (.return_, 1) := ⟨by decide +kernel, by decide +kernel, by decide +kernel, by decide +kernel⟩
def xwin (x ik ic : Nat) : Bool := ((Cond.classLink "TermSimplifier" ik (xcl x).1 :: Cond.initialized (xcl x).1 :: (xws x ic).filter goodWord).all fun w => decide (w ∈ lw_tbl)) && ((Cond.classLink "TermSimplifier" ik (xcl x).1 :: Cond.initialized (xcl x).1 :: (xws x ic).filter goodWord).all goodWord) && (((xws x ic).filter fun w => !goodWord w).all fun w => decide (w ∈ xbad)) && ((xws x ic).all fun w => w.onTables)
theorem xwin_ok {x ik ic : Nat} (h : xwin x ik ic = true) : (∀ w ∈ Cond.classLink "TermSimplifier" ik (xcl x).1 :: Cond.initialized (xcl x).1 :: (xws x ic).filter goodWord, w ∈ gtbl) ∧ (∀ w ∈ (xws x ic).filter (fun w => !goodWord w), w ∈ xbad) ∧ ((xws x ic).all fun w => w.onTables) = true := by
  unfold xwin at h
  simp only [Bool.and_eq_true] at h
  obtain ⟨⟨⟨h1, h2⟩, h3⟩, h4⟩ := h
  exact ⟨fun w hw => List.mem_filter.mpr ⟨of_decide_eq_true (List.all_eq_true.mp h1 w hw), List.all_eq_true.mp h2 w hw⟩, fun w hw => of_decide_eq_true (List.all_eq_true.mp h3 w hw), h4⟩
theorem xw0 : xwin 0 49 53 = true := by decide +kernel
theorem xw1 : xwin 1 60 64 = true := by decide +kernel
theorem xw2 : xwin 2 77 81 = true := by decide +kernel
theorem xw3 : xwin 3 87 91 = true := by decide +kernel
