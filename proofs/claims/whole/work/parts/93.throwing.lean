/-! ===== a method that throws, as a contract ===== -/
def xPre (E : PE) (D : PD) (As : List Value) (h : PH) : Array Value → State → Prop := va_Pc As (fun U => prep E D h U.heap ∧ PK E D U ∧ E.1 ≤ U.heap.size ∧ XK E U)
theorem xPre.blind {E : PE} {D : PD} {As : List Value} {h : PH} : FrameBlind (xPre E D As h) := fun a U g mk q => by
  obtain ⟨q0, q1, q2, q3, q4⟩ := q
  exact ⟨q0, q1, PK.moved (u := U) (U := U.calling g mk a) (State.WarmedH.refl U) (fun _ _ _ => rfl) q2, q3, XK.moved (u := U) (U := U.calling g mk a) (State.WarmedH.refl U) (fun _ _ _ => rfl) q4⟩
/-- the heap after a throw: one cell more, of which nothing is known -/
def hthr (h : PH) : PH := (h.1, h.2.1 + 1, h.2.2 + 6)
/-- the method m, called with As over h, throws the class x over h' -/
def Rt (E : PE) (d m : Nat) (As : List Value) (h : PH) (x : Nat) (h' : PH) : Prop :=
  (pent0 As).length ≤ mmax m ∧ ∃ (q : XS) (L : PL) (h1 : PH), q ∈ xsite ∧ q.1 = m ∧ q.2.2.1 = x ∧ Ex E d (m, 0, pent As (mmax m), []) h (m, q.2.1, L, []) h1 ∧ h' = hthr h1
def xPost (E : PE) (D : PD) (x : Nat) (h' : PH) : String → State → State → Prop := fun C st t => C = (xcl x).1 ∧ prep E D h' t.heap ∧ va_F (fun q => E.1 ≤ q) st t
theorem prep.thr {E : PE} {D : PD} {h : PH} {H H' : Heap} (hP : prep E D h H) (hs : H'.size = H.size + 1) (hk : ∀ z : Nat, z < H.size → H'[z]? = H[z]?) : prep E D (hthr h) H' := by
  refine ⟨by rw [hs, hP.1]; rfl, fun a t fs ha => ?_⟩
  obtain ⟨⟨cell, h1, h2⟩, h3⟩ := hP.2 a t fs ha
  exact ⟨⟨cell, by rw [hk a (Array.getElem?_eq_some_iff.mp h1).1]; exact h1, h2⟩, h3⟩
set_option maxHeartbeats 1000000 in
theorem Rt.met {E : PE} {d k x : Nat} {As : List Value} {h h' : PH} (l : Launch) (hl : l.stackTraces = false) (D : PD) (hr : Rt E d k As h x h') :
    vx_Met l (mnam k) (mwd k :: gtbl) (rmd d (h'.2.1 - h.2.1) (h'.2.2 - h.2.2)) (xPre E D As h) (fun _ _ _ _ => False) (xPost E D x h') (h'.2.1 - h.2.1) (h'.2.2 - h.2.2) (fun q => E.1 ≤ q) := by
  obtain ⟨hlen, q, L, h1, hq, rfl, rfl, hex, rfl⟩ := hr
  have hok := xok_all q hq
  have hk : mkp q.1 = true := hok.2.2.2.2.2.2.1
  obtain ⟨hX1, hX2, hX3, hX4, hX5⟩ := hex
  have hX3 : h.2.1 ≤ h1.2.1 := hX3
  have hX4 : h.2.2 ≤ h1.2.2 := hX4
  have e1 : (hthr h1).2.1 = h1.2.1 + 1 := rfl
  have e2 : (hthr h1).2.2 = h1.2.2 + 6 := rfl
  refine vx_ofW (cc := mbyt q.1) (maxL := mmax q.1) (ret := mret q.1) (mk_ok hk).2.2.2.1 rfl ?_
  intro p e s m args below meth c s₁ B hml hno hv
  obtain ⟨rfl, hP, hK, hE, hXK⟩ := hv
  have hx := B.exec
  have hb := B.bytes
  have hlocks := B.notSynchronized
  have hts := atoms_spec (ws := mwd q.1 :: gtbl) B.pre
  have hown : s.vm.findClass (mnam q.1).cls = some m.cls := findClass_of_methodNamed B.named
  rw [lg_entry_eq]
  have hF : PFit E D p (headSpec (mwd q.1 :: gtbl) (rmd d ((hthr h1).2.1 - h.2.1) ((hthr h1).2.2 - h.2.2))).room s m As.toArray meth c q.1 d :=
    ⟨hx, hb, hml, by rw [← (mk_ok hk).2.2.1]; exact hown, fun w hw => hts w (List.mem_cons_of_mem _ hw), (name_of_methodNamed B.named B.method).1, Nat.le_refl _, Nat.le_refl _, hK, hE⟩
  have hRc : (headSpec (mwd q.1 :: gtbl) (rmd d ((hthr h1).2.1 - h.2.1) ((hthr h1).2.2 - h.2.2))).room.cells = h1.2.1 + 1 - h.2.1 := rfl
  have hRs : (headSpec (mwd q.1 :: gtbl) (rmd d ((hthr h1).2.1 - h.2.1) ((hthr h1).2.2 - h.2.2))).room.slots = h1.2.2 + 6 - h.2.2 := rfl
  have key := hX5 D p l e (headSpec (mwd q.1 :: gtbl) (rmd d ((hthr h1).2.1 - h.2.1) ((hthr h1).2.2 - h.2.2))).room s m As.toArray below meth c (vx_MQ below (fun _ _ _ _ => False) (xPost E D q.2.2.1 (hthr h1)) As.toArray s ((hthr h1).2.1 - h.2.1) ((hthr h1).2.2 - h.2.2) (fun q => E.1 ≤ q)) h.2.1 h.2.2 s.heap [] _ hF (Nat.le_refl _) (Nat.le_refl _) (by rw [hRc]; show h1.2.1 - h.2.1 ≤ _; omega) (by rw [hRs]; show h1.2.2 - h.2.2 ≤ _; omega) hP va_S.rf (by
      show (pent As (mmax q.1)).length = mmax q.1
      unfold pent
      rw [List.length_append, List.length_replicate]
      omega) (pent_rel As hlen) (fun H' locs' ls' hP' hS' hl' => ?_)
  · rw [Nat.sub_self, Nat.sub_self] at key
    exact key
  · have hsz : ls'.size = c.maxLocals := by
      rw [hl'.1, hml]
      refine hX2.trans ?_
      show (pent As (mmax q.1)).length = mmax q.1
      unfold pent
      rw [List.length_append, List.length_replicate]
      omega
    refine xt_throw (q := q) hok hl hF hXK hS' hsz (fun x hx => (hno x hx).elim) hlocks (by rw [hRc]; show h1.2.1 - h.2.1 + 1 ≤ _; omega) (by rw [hRs]; show h1.2.2 - h.2.2 + 6 ≤ _; omega) (fun t _ ht1 ht2 => ?_) hS'.2.2 (by rw [e1]; show h1.2.1 - h.2.1 + 1 ≤ _; omega) (by rw [e2]; show h1.2.2 - h.2.2 + 6 ≤ _; omega)
    refine ⟨rfl, hP'.thr ht1 ht2, ?_, ?_⟩
    · rw [ht1]; have := hS'.1; omega
    · intro z h1 h2
      rw [ht2 z (Nat.lt_of_lt_of_le h1 hS'.1)]
      exact hS'.2.1 z h1 h2
/-! ===== the law's methods that catch ===== -/
/-- the law's methods of their own: the table of handlers -/
def xhh (k : Nat) : List (Nat × Nat × Nat × Nat) := match k with
  | 144 => [(0, 8, 11, 13), (0, 8, 14, 15)]
  | 145 => [(0, 8, 11, 20)]
  | 146 => [(0, 8, 11, 20)]
  | 149 => [(0, 8, 11, 20)]
  | _ => [(0, 9, 12, 29)]
def xcw (k : Nat) : Cond := Cond.codeWith (mnam k) (mbyt k) (mmax k) (mret k) (xhh k)
def wrn (k : Nat) : Prop := xcw k ∈ gtbl ∧ Jvm.Cond.initialized (mnam k).cls ∈ gtbl ∧ (mnam k).cls = mown k ∧ Jvm.plainName (mnam k).cls = true ∧ mmax k ≤ 15 ∧ ((mnam k).cls ≠ "java/lang/invoke/MethodHandle" ∧ (mnam k).cls ≠ "java/lang/invoke/VarHandle") ∧
    (parseMethodDescriptor (mnam k).desc).map (fun d => d.parameters.length) = some (marg k) ∧ Jvm.Cond.static (mnam k) ∈ gtbl ∧ mret k = some .int
def wrb (k : Nat) : Bool := decide (xcw k ∈ lw_tbl) && goodWord (xcw k) && decide (Jvm.Cond.initialized (mnam k).cls ∈ lw_tbl) && decide ((mnam k).cls = mown k) && Jvm.plainName (mnam k).cls && decide (mmax k ≤ 15) && decide ((mnam k).cls ≠ "java/lang/invoke/MethodHandle" ∧ (mnam k).cls ≠ "java/lang/invoke/VarHandle") && decide ((parseMethodDescriptor (mnam k).desc).map (fun d => d.parameters.length) = some (marg k)) && decide (Jvm.Cond.static (mnam k) ∈ lw_tbl) && decide (mret k = some .int)
theorem wrb_ok {k : Nat} (h : wrb k = true) : wrn k := by
  unfold wrb at h
  simp only [Bool.and_eq_true, decide_eq_true_eq] at h
  obtain ⟨⟨⟨⟨⟨⟨⟨⟨⟨h1, h2⟩, h3⟩, h4⟩, h5⟩, h6⟩, h7⟩, h8⟩, h9⟩, h10⟩ := h
  exact ⟨List.mem_filter.mpr ⟨h1, h2⟩, List.mem_filter.mpr ⟨h3, rfl⟩, h4, h5, h6, h7, h8, List.mem_filter.mpr ⟨h9, rfl⟩, h10⟩
theorem wr144 : wrn 144 := wrb_ok (by decide +kernel)
theorem wr145 : wrn 145 := wrb_ok (by decide +kernel)
theorem wr146 : wrn 146 := wrb_ok (by decide +kernel)
theorem wr147 : wrn 147 := wrb_ok (by decide +kernel)
theorem wr148 : wrn 148 := wrb_ok (by decide +kernel)
theorem wr149 : wrn 149 := wrb_ok (by decide +kernel)
theorem wr150 : wrn 150 := wrb_ok (by decide +kernel)
