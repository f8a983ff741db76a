/-! ===== a method that throws; the law's methods that catch ===== -/
theorem xok_all : ∀ q ∈ xsite, xok q := by
  have a0 := xwin_ok xw0
  have a1 := xwin_ok xw1
  have a2 := xwin_ok xw2
  have a3 := xwin_ok xw3
  unfold xsite
  simp only [List.forall_mem_cons]
  refine ⟨?_, ?_, ?_, ?_, ?_, ?_, ?_, ?_, fun _ h => nomatch h⟩
  · exact ⟨rfl, rfl, rfl, rfl, rfl, rfl, rfl, by decide +kernel, by decide +kernel, a0.1, a0.2.1, a0.2.2, x_dec6⟩
  · exact ⟨rfl, rfl, rfl, rfl, rfl, rfl, rfl, by decide +kernel, by decide +kernel, a1.1, a1.2.1, a1.2.2, x_dec6⟩
  · exact ⟨rfl, rfl, rfl, rfl, rfl, rfl, rfl, by decide +kernel, by decide +kernel, a2.1, a2.2.1, a2.2.2, x_dec6⟩
  · exact ⟨rfl, rfl, rfl, rfl, rfl, rfl, rfl, by decide +kernel, by decide +kernel, a2.1, a2.2.1, a2.2.2, x_dec6⟩
  · exact ⟨rfl, rfl, rfl, rfl, rfl, rfl, rfl, by decide +kernel, by decide +kernel, a2.1, a2.2.1, a2.2.2, x_dec6⟩
  · exact ⟨rfl, rfl, rfl, rfl, rfl, rfl, rfl, by decide +kernel, by decide +kernel, a3.1, a3.2.1, a3.2.2, x_dec13⟩
  · exact ⟨rfl, rfl, rfl, rfl, rfl, rfl, rfl, by decide +kernel, by decide +kernel, a3.1, a3.2.1, a3.2.2, x_dec13⟩
  · exact ⟨rfl, rfl, rfl, rfl, rfl, rfl, rfl, by decide +kernel, by decide +kernel, a3.1, a3.2.1, a3.2.2, x_dec13⟩
theorem x_fitRT : Bundle.fit xRT = true := by decide +kernel
theorem x_fitEX : ∀ n ∈ [xEX], Bundle.fit n = true := by decide +kernel
section XT2
variable {E : PE} {D : PD} {p : Program} {l : Launch} {e : Jvm.Env} {R : Room} {s : State} {m : MethodId} {args : Array Value} {below : List Frame} {meth : Method} {c : Code} {H : Heap} {locs : List Loc} {cells slots d mc ms : Nat} {ls : Array Slot} {free : Addr → Prop} {Qc : Array Value → State → Outcome → State → Prop} {XC : String → State → State → Prop}
theorem xt_throw {q : XS} (hq : xok q) (hl : l.stackTraces = false) (hF : PFit E D p R s m args meth c q.1 d) (hX : XK E s) (hS : va_S (fun z => E.1 ≤ z) s.heap H locs) (hsz : ls.size = c.maxLocals)
    (hout : ∀ x ∈ c.exceptionTable.toList, covers x (q.2.1 + 9) = false) (hlocks : meth.locks = false) (hRc : cells + 1 ≤ R.cells) (hRs : slots + 6 ≤ R.slots)
    (hx : ∀ t : State, s.vm.Alike t.vm → t.heap.size = H.size + 1 → (∀ z : Nat, z < H.size → t.heap[z]? = H[z]?) → XC (xcl q.2.2.1).1 s t) (hf : ∀ z ∈ locs, free z.base) (hc : cells + 1 ≤ mc) (hs : slots + 6 ≤ ms) :
    W p l e R s m args below meth c H locs cells slots (vx_MQ below Qc XC args s mc ms free) (F0 m q.2.1 ls []) := by
  obtain ⟨mi, pc, x, ik, is, ic, text⟩ := q
  obtain ⟨d0, d3, d4, d6, d9, ho, hk, hstr, hfit, hin, hbd, hon, k0, k1, k2, k5⟩ := hq
  dsimp only at hF hout hx d0 d3 d4 d6 d9 ho hk hstr hfit hin hbd hon k0 k1 k2 k5 ⊢
  obtain ⟨hexec, hb, hml, hown, hts, -, hfr, hlo, -, -⟩ := hF
  rw [ho] at hown
  obtain ⟨hU, hN, hxb, hxs, -⟩ := hX
  obtain ⟨sa, hsa⟩ := hxs _ hstr
  intro T hT X
  have htr : e.platform.stackTraces = false := (show e.platform.stackTraces = l.stackTraces by rw [X.admits.platform]).trans hl
  have Y := vx_rebase X (R' := { frames := R.frames, locals := R.locals, cells := 1, slots := 6 }) (Nat.le_refl _) (Nat.le_refl _) hRc hRs
  obtain ⟨s', hA⟩ : ∃ z, z = (T.setVm s.vm).setFrames (.invoking m args :: below) := ⟨_, rfl⟩
  rw [← hA] at Y
  have hvm : s'.vm = s.vm := by rw [hA]; rfl
  have hhp : s'.heap = H := by rw [hA]; exact hT
  have hW0 : s.WarmedH s'.vm := by rw [hvm]; exact State.WarmedH.refl s
  have hgood : ∀ w ∈ gtbl, w.before args s' = true := fun w hw => word_at hW0 (good_of_word (gt_good hw)) (hts w hw)
  have hk' : (Cond.classLink "TermSimplifier" ik (xcl x).1).before args s' = true := hgood _ (hin _ List.mem_cons_self)
  have hini' : (Cond.initialized (xcl x).1).before args s' = true := hgood _ (hin _ (List.mem_cons_of_mem _ List.mem_cons_self))
  have hat' : ∀ w ∈ (xwa x ic).filter vx_no, w.before args s' = true := fun w hw => by
    by_cases g : goodWord w = true
    · exact hgood w (hin w (List.mem_cons_of_mem _ (List.mem_cons_of_mem _ (List.mem_filter.mpr ⟨hw, g⟩))))
    · have g' : goodWord w = false := by cases hg : goodWord w with
        | true => exact absurd hg g
        | false => rfl
      have hwb := hbd w (List.mem_filter.mpr ⟨hw, by rw [g']; rfl⟩)
      exact va_Nw.use (List.all_eq_true.mp hon w hw) (xbad_warm hW0 w hwb (hxb w hwb))
  have hU' : vx_Zq Bundle.tN "UNASSIGNED_STACK" Bundle.steD (fun z => E.1 ≤ z) s' s'.heap := by rw [hhp]; exact vx_Zq.moved hW0.alike (hU.kept hS.2.1)
  have hN' : vx_Zq Bundle.tN "SUPPRESSED_SENTINEL" Bundle.listD (fun z => E.1 ≤ z) s' s'.heap := by rw [hhp]; exact vx_Zq.moved hW0.alike (hN.kept hS.2.1)
  have h : ∀ w ∈ xwa x ic, w.before args s' = true := vx_own hat' (vx_isRefq hU'.1) (vx_isRefq hN'.1) hU'.2.word hN'.2.word
  have hown' : s'.vm.findClass "TermSimplifier" = some m.cls := by rw [hvm]; exact hown
  have hins : (Cond.instantiable (xcl x).1 6).before args s' = true := h _ (by unfold xwa xw; simp)
  obtain ⟨vm₁, cX, kX, hfX, hkX, -, -, X₁, st1⟩ := Y.newCold hexec (own := "TermSimplifier") (C := (xcl x).1) (index := ik) (n := 6) hown' hk' hins hini'
    (g := F0 m pc ls []) rfl (by rw [hb]; exact pin_dec d0) (Nat.le_refl _) (Nat.le_refl _)
  generalize hT1 : (T.setVm vm₁).pushCell { cls := cX, slots := kX.instanceTypes.map defaultValue, vm := .none } = T1 at X₁ st1
  have hcat : (Value.ref T.heap.size).category = 1 := rfl
  have hcellA : T1.heap[T.heap.size]? = some (freshCell cX kX) := by rw [← hT1]; exact State.heap_pushCell_size _ _
  have d3' : decode c.code (pc + 3) = .ok (.dup, 1) := by rw [hb]; exact pin_dec d3
  have d4' : decode c.code (pc + 4) = .ok (.ldc is, 2) := by rw [hb]; exact pin_dec d4
  have hstr' : vk_R "TermSimplifier" is text sa s' := vk_R.warm hW0 hsa
  obtain ⟨U, hsteps, hrun, hend, hW, hsame, ce, hce, hcv, hcl⟩ := xt_ctor X₁ hexec htr (own := "TermSimplifier") (cls := (xcl x).1) (Y := xRT) (names := [xEX]) (ic := ic) (j := (xcl x).2.1) (cc := (xcl x).2.2) hown' hfit x_fitRT x_fitEX k0 k1 k2 k5 h (vx_isRefq hU'.1) (vx_isRefq hN'.1) (fun x hx => nomatch hx) hfX hkX hcellA (by rw [hhp, hT]; exact Nat.le_refl _) (msg := .ref sa) rfl
    (g := { method := m, pc := pc + 6, locals := ls, stack := .ref sa :: .ref T.heap.size :: .ref T.heap.size :: [], locked := none }) rfl hsz rfl rfl (rest := []) rfl
    (by rw [hb]; exact pin_dec d6) (by rw [hb]; exact pin_dec d9) hout (by show 1 + 4 < R.frames; omega) (by simp only [List.map_cons, List.map_nil, List.sum_cons, List.sum_nil, hcat]; show 2 * 0 + (1 + 0) + (13 * (1 + 2) + 42) ≤ R.locals; omega) hlocks
  obtain ⟨f1, f2⟩ := vx_frame hsame
  rw [hhp] at f1 f2
  have hWs : s.WarmedH U.vm := State.WarmedH.trans hW0 hW
  have hall : s.sameButNew ({ U with vm := s.vm } : State) locs mc ms := by
    subst hA
    obtain ⟨e1, e2⟩ := hsame
    rw [State.setFrames_setFrames] at e1
    have h2 : (T.setVm s.vm).sameButNew ({ U with vm := s.vm } : State) [] (0 + 1) (0 + 6) := ⟨e1, e2⟩
    have h3 := X.same.trans h2
    rw [List.append_nil] at h3
    exact h3.mono hc hs
  have hsz1 : U.heap.size = H.size + 1 := by
    have g1 : U.heap.size ≤ s'.heap.size + (0 + 1) := hsame.2.2.1
    have g2 : T.heap.size < U.heap.size := (Array.getElem?_eq_some_iff.mp hce).1
    rw [hhp] at g1
    rw [hT] at g2
    omega
  rw [hvm] at hcl
  refine ⟨U, ?_, .threw T.heap.size, hrun, hend, Or.inr ⟨T.heap.size, rfl, (xcl x).1, ce, locs, hx U hWs.alike hsz1 (fun z hz => f2 z hz (fun z hz => nomatch hz)), hce, hcv, hcl, hWs, hall, hf⟩⟩
  refine st1 _ ?_
  show Steps p.tables e below (T1.setTop { method := m, pc := pc + 3, locals := ls, stack := .ref T.heap.size :: [], locked := none }) _
  jvm_step X₁.here [X₁.here.top, hexec, d3', Value.category]
  exact X₁.ldcString hexec (own := "TermSimplifier") (text := text) (index := is) (a := sa) hown' hstr'.1 hstr'.2
    (g := { method := m, pc := pc + 4, locals := ls, stack := .ref T.heap.size :: .ref T.heap.size :: [], locked := none }) rfl d4' _ hsteps
end XT2
