/-! ===== stores of references, the library's natives ===== -/
/-- which objects an array of references takes -/
def passn (t tv : Nat) : Bool := decide ((t = 103 ∧ tv = 1) ∨ (t = 104 ∧ tv = 7) ∨ (t = 105 ∧ tv = 2) ∨ (t = 106 ∧ tv = 2))
theorem passn_ok {E : PE} {D : PD} {s : State} {t tv : Nat} (h : passn t tv = true) (hK : PK E D s) : ∃ (C : String) (kA kcomp kv : Class) (comp : ClassId), ptag t = some (.object C) ∧ t < 107 ∧ tv < 11 ∧ s.vm.classes[D.2 (t - 100)]? = some kA ∧ kA.kind = .array comp (.object C) ∧ s.vm.classes[comp]? = some kcomp ∧ s.vm.classes[D.1.1 tv]? = some kv ∧ s.vm.assignable (D.1.1 tv) comp = true := by
  obtain ⟨h1, h2, h3, h4, h5, h6, h7, h8, h9, h10, h11, h12, h13, h14⟩ := hK
  have same : ∀ (j u : Nat) (C : String), pat[j]? = some (.object C) → u < 11 → (pcls u).1 = C → ∃ (kA kcomp kv : Class) (comp : ClassId), s.vm.classes[D.2 j]? = some kA ∧ kA.kind = .array comp (.object C) ∧ s.vm.classes[comp]? = some kcomp ∧ s.vm.classes[D.1.1 u]? = some kv ∧ s.vm.assignable (D.1.1 u) comp = true := by
    intro j u C hj hu hC
    obtain ⟨kA, comp, k1, k2, k3⟩ := h2 j _ hj
    have hcl := (h1.1 u _ (pcls_at hu)).2
    have k4 := k3 C rfl
    rw [← hC] at k4
    cases hcl.1.symm.trans k4
    obtain ⟨kC, hkC, -⟩ := hcl.2
    exact ⟨kA, kC, kC, _, k1, k2, hkC, hkC, va_assign hcl⟩
  rcases of_decide_eq_true h with ⟨rfl, rfl⟩ | ⟨rfl, rfl⟩ | ⟨rfl, rfl⟩ | ⟨rfl, rfl⟩
  · obtain ⟨a, b, c, d, e⟩ := same 3 1 _ rfl (by decide) rfl
    exact ⟨_, a, b, c, d, rfl, by decide, by decide, e⟩
  · obtain ⟨a, b, c, d, e⟩ := same 4 7 _ rfl (by decide) rfl
    exact ⟨_, a, b, c, d, rfl, by decide, by decide, e⟩
  · obtain ⟨a, b, c, d, e⟩ := same 5 2 _ rfl (by decide) rfl
    exact ⟨_, a, b, c, d, rfl, by decide, by decide, e⟩
  · obtain ⟨kA, comp, k1, k2, k3⟩ := h2 6 _ rfl
    have k4 := k3 _ rfl
    obtain ⟨kE, hkE, -⟩ := Vm.findClass_spec k4
    obtain ⟨c0, t1, f1, f2, f3⟩ := Cond.castable_spec (va_Nw.use (A := #[]) rfl h14)
    have hcl := (h1.1 2 _ (pcls_at (by decide))).2
    cases (show s.vm.findClass "TermSimplifier$Binding" = some (D.1.1 2) from hcl.1).symm.trans f1
    cases k4.symm.trans f2
    obtain ⟨kC, hkC, -⟩ := hcl.2
    exact ⟨_, kA, kE, kC, comp, rfl, by decide, by decide, k1, k2, hkE, hkC, f3⟩
def pcpy (fs gs : List Value) (sp dp n : Nat) : List Value := (List.range gs.length).map (va_cpy (fun j => fs.getD j .null) (fun j => gs.getD j .null) sp dp n)
theorem arrV_list (cA : ClassId) (N : Nat) (f : Nat → Value) : (arrV cA N f).slots.toList = (List.range N).map f := by
  apply List.ext_getElem?
  intro i
  rw [Array.getElem?_toList]
  by_cases h : i < N
  · rw [arrV_read _ _ h, List.getElem?_map, List.getElem?_range h]
    rfl
  · rw [Array.getElem?_eq_none (by rw [arrV_size]; omega), List.getElem?_eq_none (by rw [List.length_map, List.length_range]; omega)]
theorem arrV_of {cell : Cell} {fs : List Value} {cA : ClassId} (hc : cell.cls = cA) (hv : cell = ({ cls := cell.cls, slots := cell.slots, vm := .none } : Cell)) (hs : cell.slots.toList = fs) : cell = arrV cA fs.length (fun j => fs.getD j .null) := by
  rw [hv]
  generalize cell.slots = sl at hs ⊢
  rw [hc]
  have e : sl = (arrV cA fs.length (fun j => fs.getD j .null)).slots := by
    apply Array.toList_inj.mp
    rw [arrV_list]
    apply List.ext_getElem?
    intro i
    rw [show sl.toList = fs from hs]
    by_cases h : i < fs.length
    · rw [List.getElem?_map, List.getElem?_range h, List.getElem?_eq_getElem h]
      simp [h]
    · rw [List.getElem?_eq_none (by omega), List.getElem?_eq_none (by rw [List.length_map, List.length_range]; omega)]
  rw [e]
  rfl
section XR
variable {E : PE} {d mi pc : Nat} {L : PL} {st : List Value} {h : PH}
theorem x_aast {i : Int32} {a t n v tv : Nat} {fs gs : List Value} (hi : pin mi pc = some (.aastore, 1)) (ha : h.1 a = some (t, fs)) (hv : h.1 v = some (tv, gs)) (hok : passn t tv = true) (he : i = nI n) (hb : n < 2 ^ 31) (hn : n < fs.length) : Ex E d (mi, pc, L, .ref v :: .int i :: .ref a :: st) h (mi, pc + 1, L, st) (pset h a (t, fs.set n (.ref v))) :=
  Ex.put rfl (fun D p l e R s m args below meth c Q H locs cells slots ls hF _ hP hS kk => by
    have hK := hF.2.2.2.2.2.2.2.2.1
    obtain ⟨C, kA, kcomp, kv, comp, ht, ht7, htv, k1, k2, k3, k4, k5⟩ := passn_ok hok hK
    obtain ⟨cell, c1, c2, c3, c4, c5⟩ := (hP.2 a t fs ha).1.arr ht hK
    obtain ⟨q1, -, q3⟩ := pidx he hb c4 (List.getElem?_eq_getElem hn)
    obtain ⟨⟨cv, v1, v2⟩, -⟩ := hP.2 v tv gs hv
    rcases v2 with ⟨-, g1, g2, -⟩ | ⟨g, -⟩
    · refine W.aast hF.1 hF.2.1 c1 c2.1 c3 (by rw [c5]; exact k1) k2 rfl k3 ⟨fun z => q1 (Or.inl z), Nat.not_le.mp fun z => q1 (Or.inr z)⟩ v1 (fun q z => by rw [g2] at z; cases z) (by rw [g1]; exact k4) (by rw [g1]; exact k5) rfl rfl (pin_dec hi) fun H' e1 e2 e3 => ?_
      rw [q3] at e1
      exact kk H' _ (hP.setA ha ht c1 e1 e2 e3) (hS.put e2 e3 ((hP.2 a t fs ha).2 ht7))
    · omega)
theorem x_aastN {i : Int32} {a t n : Nat} {fs : List Value} {C : String} (hi : pin mi pc = some (.aastore, 1)) (ha : h.1 a = some (t, fs)) (ht : ptag t = some (.object C)) (ht7 : t < 107) (he : i = nI n) (hb : n < 2 ^ 31) (hn : n < fs.length) : Ex E d (mi, pc, L, .null :: .int i :: .ref a :: st) h (mi, pc + 1, L, st) (pset h a (t, fs.set n .null)) :=
  Ex.put rfl (fun D p l e R s m args below meth c Q H locs cells slots ls hF _ hP hS kk => by
    obtain ⟨cell, c1, c2, c3, c4, c5⟩ := (hP.2 a t fs ha).1.arr ht hF.2.2.2.2.2.2.2.2.1
    obtain ⟨q1, -, q3⟩ := pidx he hb c4 (List.getElem?_eq_getElem hn)
    refine va_WaastN (C := C) hF.1 hF.2.1 c1 c2 c3 q1 rfl rfl (pin_dec hi) fun H' e1 e2 e3 => ?_
    rw [q3] at e1
    exact kk H' _ (hP.setA ha ht c1 e1 e2 e3) (hS.put e2 e3 ((hP.2 a t fs ha).2 ht7)))
theorem acl_at {o j : Nat} (h : acl0.any (fun q => q.1 == o && q.2.1 == j) = true) : Jvm.Cond.methodLink (cnm.getD o "") j arraycopyName ∈ gtbl := by
  obtain ⟨q, h1, h2⟩ := List.any_eq_true.mp h
  have h3 := List.all_eq_true.mp acl0_ok q h1
  simp only [Bool.and_eq_true, beq_iff_eq] at h2
  obtain ⟨rfl, rfl⟩ := h2
  exact gt_tab _ (of_decide_eq_true h3) rfl
set_option maxHeartbeats 1000000 in
/-- System.arraycopy between two arrays Object[] whose elements are Bindings or null -/
theorem x_copy {isp idp ic : Int32} {j a b sp dp n : Nat} {fs gs : List Value} (hi : pin mi pc = some (.invokestatic j, 3)) (hl : acl0.any (fun q => q.1 == mno mi && q.2.1 == j) = true) (hL : L.length = mmax mi) (hw : (st.map fun v => v.category).sum ≤ 8)
    (ha : h.1 a = some (106, fs)) (hb : h.1 b = some (106, gs)) (h1 : isp = nI sp) (h2 : idp = nI dp) (h3 : ic = nI n) (h4 : sp + n ≤ fs.length) (h5 : dp + n ≤ gs.length) (hz : fs.length < 2 ^ 31 ∧ gs.length < 2 ^ 31)
    (hel : ∀ i : Nat, i < n → fs.getD (sp + i) .null = .null ∨ ∃ (y : Nat) (ys : List Value), fs.getD (sp + i) .null = .ref y ∧ h.1 y = some (2, ys)) :
    Ex E d (mi, pc, L, .int ic :: .int idp :: .ref b :: .int isp :: .ref a :: st) h (mi, pc + 3, L, st) (pset h b (106, pcpy fs gs sp dp n)) :=
  Ex.put rfl (fun D p l e R s m args below meth c Q H locs cells slots ls hF hlr hP hS kk => by
    have hts := hF.2.2.2.2.1
    have hK := hF.2.2.2.2.2.2.2.2.1
    subst h1 h2 h3
    have csp : (nI sp).toNatClampNeg = sp := nI_clamp (by omega)
    have cdp : (nI dp).toNatClampNeg = dp := nI_clamp (by omega)
    have cn : (nI n).toNatClampNeg = n := nI_clamp (by omega)
    have fr : d + 8 ≤ R.frames := hF.2.2.2.2.2.2.1
    have lo : 40 * d + 200 ≤ R.locals := hF.2.2.2.2.2.2.2.1
    have hnw : nativeFrameWords "java/lang/System" "arraycopy" 5 + 11 ≤ 100 := by decide
    obtain ⟨ca, a1, a2, a3, a4, a5⟩ := (hP.2 a 106 fs ha).1.arr (ty := .object "java/lang/Object") rfl hK
    obtain ⟨cb, b1, b2, b3, b4, b5⟩ := (hP.2 b 106 gs hb).1.arr (ty := .object "java/lang/Object") rfl hK
    have va : ca = ({ cls := ca.cls, slots := ca.slots, vm := .none } : Cell) := by
      obtain ⟨⟨c', g0, g⟩, -⟩ := hP.2 a 106 fs ha
      cases a1.symm.trans g0
      rcases g with ⟨q, -⟩ | ⟨-, -, -, -, -, g5⟩
      · omega
      · exact g5 (by decide)
    have vb : cb = ({ cls := cb.cls, slots := cb.slots, vm := .none } : Cell) := by
      obtain ⟨⟨c', g0, g⟩, -⟩ := hP.2 b 106 gs hb
      cases b1.symm.trans g0
      rcases g with ⟨q, -⟩ | ⟨-, -, -, -, -, g5⟩
      · omega
      · exact g5 (by decide)
    obtain ⟨C, kA, kcomp, kv, comp, -, -, -, k1, k2, k3, k4, k5⟩ := passn_ok (t := 106) (tv := 2) rfl hK
    obtain ⟨-, kb, hkb, cmb, hkkb⟩ := b2
    obtain ⟨-, ka, hka, cma, hkka⟩ := a2
    have ek : kb = kA := by
      rw [b5] at hkb
      exact Option.some.inj (hkb.symm.trans k1)
    subst ek
    have ec : cmb = comp := by
      have := hkkb.symm.trans k2
      cases this
      rfl
    subst ec
    have za : ca.slots.size = fs.length := by rw [← a4, Array.length_toList]
    have zb : cb.slots.size = gs.length := by rw [← b4, Array.length_toList]
    intro T hT X
    obtain ⟨vm', X', step⟩ := X.arraycopy hF.1 hF.2.2.2.1 (hts _ (acl_at hl)) (hts _ (gt_tab _ acn_ok rfl)) (hts _ (gt_tab _ acs_ok rfl)) (hts _ (gt_tab _ aci_ok rfl)) (src := a) (dst := b) (cs := ca) (cd := cb) (srcPos := nI sp) (destPos := nI dp) (n := nI n) (by rw [hT]; exact a1) (by rw [hT]; exact b1)
      (fun _ z => by rw [va] at z; cases z) (fun _ z => by rw [vb] at z; cases z) a3 b3 hka hkb hkka hkkb rfl (nI_pos (by omega)) (nI_pos (by omega)) (nI_pos (by omega))
      (by rw [nI_toInt (by omega), nI_toInt (by omega), za]; omega)
      (by rw [nI_toInt (by omega), nI_toInt (by omega), zb]; omega)
      (fun vm₁ hal i hi9 => by
        rw [cn] at hi9
        have e : ca.slots.getD ((nI sp).toNatClampNeg + i) .null = fs.getD (sp + i) .null := by
          rw [csp, Array.getD_eq_getD_getElem?, ← Array.getElem?_toList, a4, List.getD_eq_getElem?_getD]
        rw [e]
        rcases hel i hi9 with q | ⟨y, ys, q, hy⟩
        · rw [q]
          exact ⟨rfl, trivial⟩
        · rw [q]
          obtain ⟨⟨cv, v1, v2⟩, -⟩ := hP.2 y 2 ys hy
          rcases v2 with ⟨-, g1, g2, -⟩ | ⟨g, -⟩
          · obtain ⟨kC', hkC', -⟩ := hal.2.2 _ _ k4
            obtain ⟨kE', hkE', -⟩ := hal.2.2 _ _ k3
            refine ⟨rfl, cv, (show T.heap[y]? = some cv by rw [hT]; exact v1), (fun q z => by rw [g2] at z; cases z), ⟨kC', by rw [g1]; exact hkC'⟩, ⟨kE', hkE'⟩, ?_⟩
            show vm₁.assignable _ _ = true
            rw [hal.assignable, g1]
            exact k5
          · omega)
      (g := F0 m pc ls (.int (nI n) :: .int (nI dp) :: .ref b :: .int (nI sp) :: .ref a :: st)) rfl (by show ls.size = c.maxLocals; rw [hF.2.2.1, hlr.1, hL]) (rest := st) rfl (by rw [hF.2.1]; exact pin_dec hi) (by omega) (by show 2 * 0 + _ + _ ≤ _; omega)
    have e1 : copied ca cb (nI sp) (nI dp) (nI n) = arrV (D.2 6) gs.length (va_cpy (fun j => fs.getD j .null) (fun j => gs.getD j .null) sp dp n) := by
      rw [arrV_of a5 va a4, arrV_of b5 vb b4]
      show (arrV _ _ _).storeRun (nI dp).toNatClampNeg ((arrV _ _ _).stretch (nI sp).toNatClampNeg (nI n).toNatClampNeg) = _
      rw [csp, cdp, cn]
      exact va_copied (fun z => z) _ _ _ _ h4
    rw [e1] at X' step
    have hlb : b < H.size := (Array.getElem?_eq_some_iff.mp b1).1
    have hheap : ((T.setVm vm').setCell b (arrV (D.2 6) gs.length (va_cpy (fun j => fs.getD j .null) (fun j => gs.getD j .null) sp dp n))).heap = H.setIfInBounds b (arrV (D.2 6) gs.length (va_cpy (fun j => fs.getD j .null) (fun j => gs.getD j .null) sp dp n)) := by rw [← hT]; rfl
    have oq : ∀ q : Nat, q ≠ b → (H.setIfInBounds b (arrV (D.2 6) gs.length (va_cpy (fun j => fs.getD j .null) (fun j => gs.getD j .null) sp dp n)))[q]? = H[q]? := fun q hq => by simp [Array.getElem?_setIfInBounds, Ne.symm hq]
    have z1 : (H.setIfInBounds b (arrV (D.2 6) gs.length (va_cpy (fun j => fs.getD j .null) (fun j => gs.getD j .null) sp dp n))).size = H.size := by simp
    have hA : E.1 ≤ b := (hP.2 b 106 gs hb).2 (by decide)
    obtain ⟨t, r1, r2⟩ := kk _ _ (hP.setO hb z1 oq ⟨_, by simp [Array.getElem?_setIfInBounds, hlb], Or.inr ⟨by decide, rfl, (fun q => by cases q), (fun q z => by cases z), arrV_list _ _ _, fun _ => rfl⟩⟩) ⟨by rw [z1]; exact hS.1, fun q g1 g2 => by
        rw [oq q (fun e => g2 (by rw [e]; exact hA))]
        exact hS.2.1 q g1 g2, fun q hq => by
        rcases List.mem_append.mp hq with g | g
        · exact hS.2.2 q g
        · obtain ⟨z, -, hz9⟩ := List.mem_map.mp g
          rw [← hz9]
          exact hA⟩ _ hheap X'
    exact ⟨t, step t r1, r2⟩)
end XR
