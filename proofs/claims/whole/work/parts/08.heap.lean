/-! ===== arrays, new objects, statics, casts ===== -/
/-- the element type of an array's tag -/
def ptag (t : Nat) : Option FieldType := if 100 ≤ t then pat[t - 100]? else none
theorem pcel.arr {E : PE} {D : PD} {a t : Nat} {fs : List Value} {H : Heap} {s : State} {ty : FieldType} (h : pcel D a t fs H) (ht : ptag t = some ty) (hK : PK E D s) : ∃ cell : Cell, H[a]? = some cell ∧ s.isArrayOf cell ty ∧ cell.vm ≠ .unknown ∧ cell.slots.toList = fs ∧ cell.cls = D.2 (t - 100) := by
  unfold ptag at ht
  split at ht
  next h100 =>
    obtain ⟨cell, h1, h2⟩ := h
    rcases h2 with ⟨g, -⟩ | ⟨-, g1, g2, g3, g4, -⟩
    · omega
    · obtain ⟨kA, comp, k1, k2, -⟩ := hK.2.1 _ ty ht
      exact ⟨cell, h1, ⟨g3, kA, by rw [g1]; exact k1, comp, k2⟩, g2, g4, g1⟩
  next => cases ht
theorem pidx {i : Int32} {n : Nat} {cell : Cell} {fs : List Value} {v : Value} (he : i = nI n) (hb : n < 2 ^ 31) (hs : cell.slots.toList = fs) (hv : fs[n]? = some v) : ¬ (i < 0 ∨ cell.slots.size ≤ i.toNatClampNeg) ∧ cell.slots[i.toNatClampNeg]? = some v ∧ i.toNatClampNeg = n := by
  subst he
  have hl : n < fs.length := (List.getElem?_eq_some_iff.mp hv).1
  have hz : cell.slots.size = fs.length := by rw [← hs, Array.length_toList]
  rw [nI_clamp hb]
  refine ⟨fun q => ?_, by rw [← Array.getElem?_toList, hs]; exact hv, rfl⟩
  rcases q with q | q
  · exact nI_pos hb q
  · omega
theorem prep.setA {E : PE} {D : PD} {h : PH} {H H' : Heap} {a t n : Nat} {fs : List Value} {v : Value} {cell : Cell} {ty : FieldType} (hP : prep E D h H) (ha : h.1 a = some (t, fs)) (ht : ptag t = some ty) (hc : H[a]? = some cell) (h1 : H'[a]? = some (cell.setSlot n v)) (hz : H'.size = H.size) (ho : ∀ q, q ≠ a → H'[q]? = H[q]?) : prep E D (pset h a (t, fs.set n v)) H' := by
  refine hP.setO ha hz ho ?_
  obtain ⟨⟨cell', g0, g⟩, -⟩ := hP.2 a t fs ha
  cases hc.symm.trans g0
  have h100 : 100 ≤ t := by
    unfold ptag at ht
    split at ht
    next q => exact q
    next => cases ht
  rcases g with ⟨q, -⟩ | ⟨-, g1, g2, g3, g4, g5⟩
  · omega
  · refine ⟨_, h1, Or.inr ⟨h100, g1, g2, g3, ?_, fun q => by rw [g5 q]; rfl⟩⟩
    show (cell.slots.setIfInBounds n v).toList = fs.set n v
    rw [Array.toList_setIfInBounds, g4]
section XA
variable {E : PE} {d mi pc : Nat} {L : PL} {st : List Value} {h : PH}
theorem x_iald {i : Int32} {a t n : Nat} {fs : List Value} {v : Value} (hi : pin mi pc = some (.iaload, 1)) (ha : h.1 a = some (t, fs)) (ht : ptag t = some .int) (he : i = nI n) (hb : n < 2 ^ 31) (hv : fs[n]? = some v) : Ex E d (mi, pc, L, .int i :: .ref a :: st) h (mi, pc + 1, L, v :: st) h :=
  Ex.go (fun D p l e R s m args below meth c Q H locs cells slots ls hF _ hP hS kk => by
    obtain ⟨cell, c1, c2, c3, c4, -⟩ := (hP.2 a t fs ha).1.arr ht hF.2.2.2.2.2.2.2.2.1
    obtain ⟨q1, q2, -⟩ := pidx he hb c4 hv
    exact W.iald hF.1 hF.2.1 c1 c2 c3 q1 q2 rfl rfl (pin_dec hi) kk)
theorem x_lald {i : Int32} {a t n : Nat} {fs : List Value} {v : Value} (hi : pin mi pc = some (.laload, 1)) (ha : h.1 a = some (t, fs)) (ht : ptag t = some .long) (he : i = nI n) (hb : n < 2 ^ 31) (hv : fs[n]? = some v) : Ex E d (mi, pc, L, .int i :: .ref a :: st) h (mi, pc + 1, L, v :: st) h :=
  Ex.go (fun D p l e R s m args below meth c Q H locs cells slots ls hF _ hP hS kk => by
    obtain ⟨cell, c1, c2, c3, c4, -⟩ := (hP.2 a t fs ha).1.arr ht hF.2.2.2.2.2.2.2.2.1
    obtain ⟨q1, q2, -⟩ := pidx he hb c4 hv
    exact W.lald hF.1 hF.2.1 c1 c2 c3 q1 q2 rfl rfl (pin_dec hi) kk)
theorem x_zald {i : Int32} {a t n : Nat} {fs : List Value} {v : Value} (hi : pin mi pc = some (.baload, 1)) (ha : h.1 a = some (t, fs)) (ht : ptag t = some .boolean) (he : i = nI n) (hb : n < 2 ^ 31) (hv : fs[n]? = some v) : Ex E d (mi, pc, L, .int i :: .ref a :: st) h (mi, pc + 1, L, v :: st) h :=
  Ex.go (fun D p l e R s m args below meth c Q H locs cells slots ls hF _ hP hS kk => by
    obtain ⟨cell, c1, c2, c3, c4, -⟩ := (hP.2 a t fs ha).1.arr ht hF.2.2.2.2.2.2.2.2.1
    obtain ⟨q1, q2, -⟩ := pidx he hb c4 hv
    exact W.zald hF.1 hF.2.1 c1 c2 c3 q1 q2 rfl rfl (pin_dec hi) kk)
theorem x_aald {i : Int32} {a t n : Nat} {fs : List Value} {v : Value} {ty : FieldType} (hi : pin mi pc = some (.aaload, 1)) (ha : h.1 a = some (t, fs)) (ht : ptag t = some ty) (hr : ty.isReference = true) (he : i = nI n) (hb : n < 2 ^ 31) (hv : fs[n]? = some v) : Ex E d (mi, pc, L, .int i :: .ref a :: st) h (mi, pc + 1, L, v :: st) h :=
  Ex.go (fun D p l e R s m args below meth c Q H locs cells slots ls hF _ hP hS kk => by
    obtain ⟨cell, c1, c2, c3, c4, -⟩ := (hP.2 a t fs ha).1.arr ht hF.2.2.2.2.2.2.2.2.1
    obtain ⟨q1, q2, -⟩ := pidx he hb c4 hv
    exact W.aald hF.1 hF.2.1 c1 c2 hr c3 q1 q2 rfl rfl (pin_dec hi) kk)
theorem x_alen {a t : Nat} {fs : List Value} {ty : FieldType} (hi : pin mi pc = some (.arraylength, 1)) (ha : h.1 a = some (t, fs)) (ht : ptag t = some ty) : Ex E d (mi, pc, L, .ref a :: st) h (mi, pc + 1, L, .int (nI fs.length) :: st) h :=
  Ex.go (fun D p l e R s m args below meth c Q H locs cells slots ls hF _ hP hS kk => by
    obtain ⟨cell, c1, c2, c3, c4, -⟩ := (hP.2 a t fs ha).1.arr ht hF.2.2.2.2.2.2.2.2.1
    exact W.alen (n := nI fs.length) hF.1 hF.2.1 c1 c2 (by rw [← c4, Array.length_toList]; rfl) rfl rfl (pin_dec hi) kk)
theorem x_iast {i x : Int32} {a t n : Nat} {fs : List Value} (hi : pin mi pc = some (.iastore, 1)) (ha : h.1 a = some (t, fs)) (ht : ptag t = some .int) (ht7 : t < 107) (he : i = nI n) (hb : n < 2 ^ 31) (hv : n < fs.length) : Ex E d (mi, pc, L, .int x :: .int i :: .ref a :: st) h (mi, pc + 1, L, st) (pset h a (t, fs.set n (.int x))) :=
  Ex.put rfl (fun D p l e R s m args below meth c Q H locs cells slots ls hF _ hP hS kk => by
    obtain ⟨cell, c1, c2, c3, c4, -⟩ := (hP.2 a t fs ha).1.arr ht hF.2.2.2.2.2.2.2.2.1
    obtain ⟨q1, -, q3⟩ := pidx he hb c4 (List.getElem?_eq_getElem hv)
    refine W.iast hF.1 hF.2.1 c1 c2 c3 q1 rfl rfl (pin_dec hi) fun H' e1 e2 e3 => ?_
    rw [q3] at e1
    exact kk H' _ (hP.setA ha ht c1 e1 e2 e3) (hS.put e2 e3 ((hP.2 a t fs ha).2 ht7)))
theorem x_last {i : Int32} {x : Int64} {a t n : Nat} {fs : List Value} (hi : pin mi pc = some (.lastore, 1)) (ha : h.1 a = some (t, fs)) (ht : ptag t = some .long) (ht7 : t < 107) (he : i = nI n) (hb : n < 2 ^ 31) (hv : n < fs.length) : Ex E d (mi, pc, L, .long x :: .int i :: .ref a :: st) h (mi, pc + 1, L, st) (pset h a (t, fs.set n (.long x))) :=
  Ex.put rfl (fun D p l e R s m args below meth c Q H locs cells slots ls hF _ hP hS kk => by
    obtain ⟨cell, c1, c2, c3, c4, -⟩ := (hP.2 a t fs ha).1.arr ht hF.2.2.2.2.2.2.2.2.1
    obtain ⟨q1, -, q3⟩ := pidx he hb c4 (List.getElem?_eq_getElem hv)
    refine W.last hF.1 hF.2.1 c1 c2 c3 q1 rfl rfl (pin_dec hi) fun H' e1 e2 e3 => ?_
    rw [q3] at e1
    exact kk H' _ (hP.setA ha ht c1 e1 e2 e3) (hS.put e2 e3 ((hP.2 a t fs ha).2 ht7)))
theorem x_zast {i x : Int32} {a t n : Nat} {fs : List Value} (hi : pin mi pc = some (.bastore, 1)) (ha : h.1 a = some (t, fs)) (ht : ptag t = some .boolean) (ht7 : t < 107) (he : i = nI n) (hb : n < 2 ^ 31) (hv : n < fs.length) : Ex E d (mi, pc, L, .int x :: .int i :: .ref a :: st) h (mi, pc + 1, L, st) (pset h a (t, fs.set n (narrow .boolean (.int x)))) :=
  Ex.put rfl (fun D p l e R s m args below meth c Q H locs cells slots ls hF _ hP hS kk => by
    obtain ⟨cell, c1, c2, c3, c4, -⟩ := (hP.2 a t fs ha).1.arr ht hF.2.2.2.2.2.2.2.2.1
    obtain ⟨q1, -, q3⟩ := pidx he hb c4 (List.getElem?_eq_getElem hv)
    refine W.zast hF.1 hF.2.1 c1 c2 c3 q1 rfl rfl (pin_dec hi) fun H' e1 e2 e3 => ?_
    rw [q3] at e1
    exact kk H' _ (hP.setA ha ht c1 e1 e2 e3) (hS.put e2 e3 ((hP.2 a t fs ha).2 ht7)))
end XA
theorem prep.new {E : PE} {D : PD} {h : PH} {H H' : Heap} {t : Nat} {fs : List Value} (hP : prep E D h H) (hz : H'.size = H.size + 1) (ho : ∀ q, q < H.size → H'[q]? = H[q]?) (hE : E.1 ≤ H.size) (hc : pcel D H.size t fs H') : prep E D (pnew h (t, fs)) H' := by
  refine ⟨by rw [hz, hP.1]; rfl, fun b u gs hb => ?_⟩
  have hb' : (if b = h.2.1 then some (t, fs) else h.1 b) = some (u, gs) := hb
  by_cases e : b = h.2.1
  · rw [if_pos e] at hb'
    cases hb'
    subst e
    rw [← hP.1]
    exact ⟨hc, fun _ => hE⟩
  · rw [if_neg e] at hb'
    obtain ⟨⟨cell, g1, g2⟩, g3⟩ := hP.2 b u gs hb'
    exact ⟨⟨cell, by rw [ho b (Array.getElem?_eq_some_iff.mp g1).1]; exact g1, g2⟩, g3⟩
/-- a step that makes one cell -/
theorem Ex.mk {E : PE} {d mi pc pc' : Nat} {L : PL} {st st' : List Value} {h : PH} {c0 : PC}
    (k : ∀ (D : PD) (p : Program) (l : Launch) (e : Env) (R : Room) (s : State) (m : MethodId) (args : Array Value) (below : List Frame) (meth : Method) (c : Code) (Q : State → Prop) (H : Heap) (locs : List Loc) (cells slots : Nat) (ls : Array Slot),
      PFit E D p R s m args meth c mi d → lrel ls L → prep E D h H → va_S (fun q => E.1 ≤ q) s.heap H locs → cells + 1 ≤ R.cells → slots + c0.2.length ≤ R.slots →
      (∀ H' : Heap, prep E D (pnew h c0) H' → va_S (fun q => E.1 ≤ q) s.heap H' locs → W p l e R s m args below meth c H' locs (cells + 1) (slots + c0.2.length) Q (F0 m pc' ls st')) → W p l e R s m args below meth c H locs cells slots Q (F0 m pc ls st)) :
    Ex E d (mi, pc, L, st) h (mi, pc', L, st') (pnew h c0) :=
  ⟨rfl, rfl, Nat.le_succ _, Nat.le_add_right _ _, fun D p l e R s m args below meth c Q en es H locs ls hF he1 he2 hc hs hP hS _ hl kk => by
    have hc : h.2.1 + 1 - en ≤ R.cells := hc
    have hs : h.2.2 + c0.2.length - es ≤ R.slots := hs
    refine k D p l e R s m args below meth c Q H locs _ _ ls hF hl hP hS (by omega) (by omega) (fun H' hP' hS' => ?_)
    have e1 : h.2.1 - en + 1 = (pnew h c0).2.1 - en := by show _ = h.2.1 + 1 - en; omega
    have e2 : h.2.2 - es + c0.2.length = (pnew h c0).2.2 - es := by show _ = h.2.2 + c0.2.length - es; omega
    rw [e1, e2]
    exact kk H' locs ls hP' hS' hl⟩
theorem va_S.grow {A : Nat → Prop} {H0 H H' : Heap} {locs : List Loc} (hS : va_S A H0 H locs) (hz : H'.size = H.size + 1) (ho : ∀ q, q < H.size → H'[q]? = H[q]?) : va_S A H0 H' locs :=
  ⟨Nat.le_trans hS.1 (by omega), fun q h1 h2 => (ho q (Nat.lt_of_lt_of_le h1 hS.1)).trans (hS.2.1 q h1 h2), hS.2.2⟩
theorem pcn_ok {o j t u : Nat} (h : pcn o j = some (t, u)) : (t = 99 ∨ (t < 11 ∧ Jvm.Cond.classLink (cnm.getD o "") j (pcls t).1 ∈ gtbl)) ∧ (u = 99 ∨ ((3 ≤ u ∧ u < 7) ∧ Jvm.Cond.classLink (cnm.getD o "") j (parn.getD u "") ∈ gtbl)) := by
  unfold pcn at h
  cases hf : clk.find? (fun q => q.1 == o && q.2.1 == j) with
  | none => rw [hf] at h; cases h
  | some q =>
    rw [hf] at h
    obtain ⟨h1, h2⟩ := pfind hf
    have h3 := List.all_eq_true.mp clk_ok q h1
    obtain ⟨q1, q2, q3, q4, q5⟩ := q
    cases h
    simp only [Bool.and_eq_true, beq_iff_eq] at h2
    obtain ⟨rfl, rfl⟩ := h2
    simp only [Bool.and_eq_true, decide_eq_true_eq, Bool.or_eq_true] at h3
    obtain ⟨g1, g2⟩ := h3
    refine ⟨?_, ?_⟩
    · rcases g1 with g1 | ⟨g1, g3⟩
      · exact Or.inl g1
      · exact Or.inr ⟨g1, gt_tab _ g3 rfl⟩
    · rcases g2 with g2 | ⟨g2, g3⟩
      · exact Or.inl g2
      · exact Or.inr ⟨g2, gt_tab _ g3 rfl⟩
theorem pinst_ok {t : Nat} (h : t < 11) : Jvm.Cond.instantiable (pcls t).1 (pcls t).2.2 ∈ gtbl ∧ Jvm.Cond.initialized (pcls t).1 ∈ gtbl := by
  have h1 := List.all_eq_true.mp pin_inst_ok t (List.mem_range.mpr h)
  simp only [Bool.and_eq_true, decide_eq_true_eq] at h1
  exact ⟨gt_tab _ h1.1 rfl, gt_tab _ h1.2 rfl⟩
def pdef (t : Nat) : List Value := (List.range (pcls t).2.2).map (fun k => defaultValue (pty t k))
section XN
variable {E : PE} {d mi pc : Nat} {L : PL} {st : List Value} {h : PH}
theorem x_new {j t u : Nat} (hi : pin mi pc = some (.new j, 3)) (hl : pcn (mno mi) j = some (t, u)) (ht : t < 11) : Ex E d (mi, pc, L, st) h (mi, pc + 3, L, .ref h.2.1 :: st) (pnew h (t, pdef t)) := by
  have hlen : (pdef t).length = (pcls t).2.2 := by unfold pdef; rw [List.length_map, List.length_range]
  refine Ex.mk (fun D p l e R s m args below meth c Q H locs cells slots ls hF _ hP hS hc hs kk => ?_)
  have hts := hF.2.2.2.2.1
  have hK := hF.2.2.2.2.2.2.2.2.1.1
  have hcl : Jvm.Cond.classLink (mown mi) j (pcls t).1 ∈ gtbl := by
    rcases (pcn_ok hl).1 with q | q
    · omega
    · exact q.2
  obtain ⟨w1, w2⟩ := pinst_ok ht
  have hKn := hK.1 t _ (pcls_at ht)
  simp only [hlen] at hs kk
  refine W.newcK hF.1 hF.2.1 hF.2.2.2.1 (hts _ hcl) (hts _ w1) (hts _ w2) rfl (pin_dec hi) hc hs hKn.2.1 hP.1 fun H' kC hkC e1 z1 o1 => ?_
  rw [← hP.1] at e1 z1 o1
  refine kk H' (hP.new z1 o1 (hF.S hS) ?_) (hS.grow z1 o1)
  obtain ⟨cell, g1, g2, g3, g4⟩ := u_born (pty t) hts (pws ht) hKn hkC e1 (pty_ok ht)
  refine ⟨cell, g1, Or.inl ⟨by omega, g2, g3, by rw [hlen, pN_at ht], fun k hk => ?_⟩⟩
  rw [pN_at ht] at hk
  rw [g4 k hk]
  unfold pdef
  rw [List.getElem?_map, List.getElem?_range hk]
  rfl
theorem x_newa {at0 : ArrayType} {i : Int32} {j n : Nat} {ty : FieldType} (hi : pin mi pc = some (.newarray at0, 2)) (hty : newarray.typeOf at0 = ty) (hp : pat[j]? = some ty) (hj : j < 7) (hw : Jvm.Cond.arrayClass ty ∈ gtbl) (he : i = nI n) (hb : n ≤ 60000) (h8 : componentBytes ty ≤ 8) :
    Ex E d (mi, pc, L, .int i :: st) h (mi, pc + 2, L, .ref h.2.1 :: st) (pnew h (100 + j, List.replicate n (defaultValue ty))) := by
  subst hty
  subst he
  have hb31 : n < 2 ^ 31 := by omega
  refine Ex.mk (fun D p l e R s m args below meth c Q H locs cells slots ls hF _ hP hS hc hs kk => ?_)
  have hts := hF.2.2.2.2.1
  have hK := hF.2.2.2.2.2.2.2.2.1
  simp only [List.length_replicate] at hs kk
  have ec : (nI n).toNatClampNeg = n := nI_clamp hb31
  refine W.newa hF.1 hF.2.1 (hts _ hw) rfl (pin_dec hi) rfl (nI_pos hb31) (by rw [ec]; exact Nat.le_trans (Nat.mul_le_mul hb h8) (by decide)) hc (by rw [ec]; exact hs) (fun cA kA comp h1 h2 h3 => ?_)
  rw [ec]
  have hcA : cA = D.2 j := Option.some.inj (h1.symm.trans (hK.2.2.1 j _ hp hj))
  rw [show (Value.ref H.size) = Value.ref h.2.1 by rw [hP.1]]
  have z1 : (H.push ({ cls := cA, slots := Array.replicate n (defaultValue (newarray.typeOf at0)), vm := .none } : Cell)).size = H.size + 1 := Array.size_push _
  have o1 : ∀ q, q < H.size → (H.push ({ cls := cA, slots := Array.replicate n (defaultValue (newarray.typeOf at0)), vm := .none } : Cell))[q]? = H[q]? := fun q hq => by rw [Array.getElem?_push, if_neg (by omega)]
  refine kk _ (hP.new z1 o1 (hF.S hS) ⟨_, by rw [Array.getElem?_push, if_pos rfl], Or.inr ⟨by omega, ?_, (fun q => by cases q), (fun q z => by cases z), ?_, fun _ => rfl⟩⟩) (hS.grow z1 o1)
  · show cA = D.2 (100 + j - 100)
    rw [hcA, Nat.add_sub_cancel_left]
  · show (Array.replicate n (defaultValue (newarray.typeOf at0))).toList = _
    rw [Array.toList_replicate]
theorem x_anew {i : Int32} {j t u n : Nat} (hi : pin mi pc = some (.anewarray j, 3)) (hl : pcn (mno mi) j = some (t, u)) (hu : u < 7) (he : i = nI n) (hb : n ≤ 60000) :
    Ex E d (mi, pc, L, .int i :: st) h (mi, pc + 3, L, .ref h.2.1 :: st) (pnew h (100 + u, List.replicate n .null)) := by
  subst he
  have hb31 : n < 2 ^ 31 := by omega
  obtain ⟨⟨u3, u7⟩, hw⟩ : (3 ≤ u ∧ u < 7) ∧ Jvm.Cond.classLink (mown mi) j (parn.getD u "") ∈ gtbl := by
    rcases (pcn_ok hl).2 with q | q
    · omega
    · exact q
  have hov := List.all_eq_true.mp aov_ok u (List.mem_map.mpr ⟨u - 3, List.mem_range.mpr (by omega), by omega⟩)
  simp only [Bool.and_eq_true, decide_eq_true_eq] at hov
  refine Ex.mk (fun D p l e R s m args below meth c Q H locs cells slots ls hF _ hP hS hc hs kk => ?_)
  have hts := hF.2.2.2.2.1
  have hK := hF.2.2.2.2.2.2.2.2.1
  simp only [List.length_replicate] at hs kk
  have ec : (nI n).toNatClampNeg = n := nI_clamp hb31
  refine W.anew hF.1 hF.2.1 hF.2.2.2.1 (hts _ hw) (va_AO.use (hK.2.2.2.2.2.2.2.2.2.1 u _ hov.2 u7)) rfl (pin_dec hi) rfl (nI_pos hb31) (by rw [ec]; omega) hc (by rw [ec]; exact hs) (fun cA kA comp h1 h2 h3 h4 => ?_)
  rw [ec]
  have hcA : cA = D.2 u := Option.some.inj (h1.symm.trans (hK.2.2.1 u _ hov.2 u7))
  rw [show (Value.ref H.size) = Value.ref h.2.1 by rw [hP.1]]
  have z1 : (H.push ({ cls := cA, slots := Array.replicate n .null, vm := .none } : Cell)).size = H.size + 1 := Array.size_push _
  have o1 : ∀ q, q < H.size → (H.push ({ cls := cA, slots := Array.replicate n .null, vm := .none } : Cell))[q]? = H[q]? := fun q hq => by rw [Array.getElem?_push, if_neg (by omega)]
  refine kk _ (hP.new z1 o1 (hF.S hS) ⟨_, by rw [Array.getElem?_push, if_pos rfl], Or.inr ⟨by omega, ?_, (fun q => by cases q), (fun q z => by cases z), ?_, fun _ => rfl⟩⟩) (hS.grow z1 o1)
  · show cA = D.2 (100 + u - 100)
    rw [hcA, Nat.add_sub_cancel_left]
  · show (Array.replicate n Value.null).toList = _
    rw [Array.toList_replicate]
end XN
