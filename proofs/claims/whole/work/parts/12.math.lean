/-! ===== Math.max, Math.min, the Class object of Object[] ===== -/
def mxl : List (Nat × Nat × Nat) := [(7, 61, 200), (16, 194, 354), (13, 79, 393), (9, 72, 743)]
theorem mxl_ok : mxl.all (fun q => decide (tables_1[q.2.2]? = some (Jvm.Cond.methodLink (cnm.getD q.1 "") q.2.1 Lib.Math.max.name))) = true := by decide +kernel
theorem mxs_ok : tables_1[201]? = some (Jvm.Cond.static Lib.Math.max.name) := by decide +kernel
theorem mxc_ok : tables_1[202]? = some (Jvm.Cond.code Lib.Math.max.name Lib.Math.max.code 2 (some .int)) := by decide +kernel
def mnl : List (Nat × Nat × Nat) := [(14, 304, 387)]
theorem mnl_ok : mnl.all (fun q => decide (tables_1[q.2.2]? = some (Jvm.Cond.methodLink (cnm.getD q.1 "") q.2.1 Lib.Math.min.name))) = true := by decide +kernel
theorem mns_ok : tables_1[388]? = some (Jvm.Cond.static Lib.Math.min.name) := by decide +kernel
theorem mnc_ok : tables_1[389]? = some (Jvm.Cond.code Lib.Math.min.name Lib.Math.min.code 2 (some .int)) := by decide +kernel
theorem mxi_ok : tables_1[7]? = some (Jvm.Cond.initialized "java/lang/Math") := by decide +kernel
theorem gcs_ok : tables_1[1139]? = some (Jvm.Cond.selects "[Ljava/lang/Object;" (⟨"java/lang/Object", "getClass", "()Ljava/lang/Class;"⟩ : MethodName) (⟨"java/lang/Object", "getClass", "()Ljava/lang/Class;"⟩ : MethodName)) := by decide +kernel
theorem gci_ok : tables_1[363]? = some (Jvm.Cond.instanceMethod (⟨"java/lang/Object", "getClass", "()Ljava/lang/Class;"⟩ : MethodName)) := by decide +kernel
theorem gcn_ok : tables_1[380]? = some (Jvm.Cond.native (⟨"java/lang/Object", "getClass", "()Ljava/lang/Class;"⟩ : MethodName)) := by decide +kernel
theorem any_at {l : List (Nat × Nat × Nat)} {f : Nat → Nat → Jvm.Cond} {o j : Nat} (hok : l.all (fun q => decide (tables_1[q.2.2]? = some (f q.1 q.2.1))) = true) (hg : ∀ a b, goodWord (f a b) = true) (h : l.any (fun q => q.1 == o && q.2.1 == j) = true) : f o j ∈ gtbl := by
  obtain ⟨q, h1, h2⟩ := List.any_eq_true.mp h
  have h3 := List.all_eq_true.mp hok q h1
  simp only [Bool.and_eq_true, beq_iff_eq] at h2
  obtain ⟨rfl, rfl⟩ := h2
  exact gt_tab _ (of_decide_eq_true h3) (hg _ _)
section XM
variable {E : PE} {d mi pc : Nat} {L : PL} {st : List Value} {h : PH}
theorem x_max {j : Nat} {x y : Int32} (hi : pin mi pc = some (.invokestatic j, 3)) (hl : mxl.any (fun q => q.1 == mno mi && q.2.1 == j) = true) (hw : (st.map fun v => v.category).sum ≤ 8) : Ex E d (mi, pc, L, .int y :: .int x :: st) h (mi, pc + 3, L, .int (if x < y then y else x) :: st) h :=
  ⟨rfl, rfl, Nat.le_refl _, Nat.le_refl _, fun D p l e R s m args below meth c Q en es H locs ls hF _ _ hc hs hP hS hm hlr kk => by
    have hts := hF.2.2.2.2.1
    have fr : d + 8 ≤ R.frames := hF.2.2.2.2.2.2.1
    have lo : 40 * d + 200 ≤ R.locals := hF.2.2.2.2.2.2.2.1
    have hlk : Jvm.Cond.methodLink (mown mi) j Lib.Math.max.name ∈ gtbl := any_at (f := fun o j => Jvm.Cond.methodLink (cnm.getD o "") j Lib.Math.max.name) mxl_ok (fun _ _ => rfl) hl
    exact va_mmax hF.1 hF.2.1 (by rw [hF.2.2.1, hlr.1]; exact hm.symm) hF.2.2.2.1 (hts _ hlk) (hts _ (gt_tab _ mxs_ok rfl)) (hts _ (gt_tab _ mxi_ok rfl)) (hts _ (gt_tab _ mxc_ok rfl)) (by omega) (by omega) hc hs (pin_dec hi) (kk H locs ls hP hS hlr)⟩
theorem x_min {j : Nat} {x y : Int32} (hi : pin mi pc = some (.invokestatic j, 3)) (hl : mnl.any (fun q => q.1 == mno mi && q.2.1 == j) = true) (hw : (st.map fun v => v.category).sum ≤ 8) : Ex E d (mi, pc, L, .int y :: .int x :: st) h (mi, pc + 3, L, .int (if y < x then y else x) :: st) h :=
  ⟨rfl, rfl, Nat.le_refl _, Nat.le_refl _, fun D p l e R s m args below meth c Q en es H locs ls hF _ _ hc hs hP hS hm hlr kk => by
    have hts := hF.2.2.2.2.1
    have fr : d + 8 ≤ R.frames := hF.2.2.2.2.2.2.1
    have lo : 40 * d + 200 ≤ R.locals := hF.2.2.2.2.2.2.2.1
    have hlk : Jvm.Cond.methodLink (mown mi) j Lib.Math.min.name ∈ gtbl := any_at (f := fun o j => Jvm.Cond.methodLink (cnm.getD o "") j Lib.Math.min.name) mnl_ok (fun _ _ => rfl) hl
    exact va_mmin hF.1 hF.2.1 (by rw [hF.2.2.1, hlr.1]; exact hm.symm) hF.2.2.2.1 (hts _ hlk) (hts _ (gt_tab _ mns_ok rfl)) (hts _ (gt_tab _ mxi_ok rfl)) (hts _ (gt_tab _ mnc_ok rfl)) (by omega) (by omega) hc hs (pin_dec hi) (kk H locs ls hP hS hlr)⟩
theorem pobj {E : PE} {D : PD} {a : Nat} {fs : List Value} {s : State} {H : Heap} (hK : PK E D s) (h : pcel D a 106 fs H) : ∃ cell : Cell, H[a]? = some cell ∧ cell.vm.isStatics = false ∧ s.vm.findClass "[Ljava/lang/Object;" = some cell.cls := by
  have hf := hK.2.2.1 6 _ rfl (by decide)
  obtain ⟨cell, h1, h2⟩ := h
  rcases h2 with ⟨g, -⟩ | ⟨-, g1, -, -, -, g5⟩
  · omega
  · exact ⟨cell, h1, by rw [g5 (by decide)]; rfl, by rw [g1]; exact hf⟩
theorem x_getc {j a : Nat} {fs : List Value} (hi : pin mi pc = some (.invokevirtual j, 3)) (hl : gcl0.any (fun q => q.1 == mno mi && q.2.1 == j) = true) (ha : h.1 a = some (106, fs)) (hw : (st.map fun v => v.category).sum ≤ 8) : Ex E d (mi, pc, L, .ref a :: st) h (mi, pc + 3, L, .ref E.2.2 :: st) h :=
  ⟨rfl, rfl, Nat.le_refl _, Nat.le_refl _, fun D p l e R s m args below meth c Q en es H locs ls hF _ _ hc hs hP hS hm hlr kk => by
    have hts := hF.2.2.2.2.1
    have hK := hF.2.2.2.2.2.2.2.2.1
    have fr : d + 8 ≤ R.frames := hF.2.2.2.2.2.2.1
    have lo : 40 * d + 200 ≤ R.locals := hF.2.2.2.2.2.2.2.1
    have hlk : Jvm.Cond.methodLink (mown mi) j ⟨"java/lang/Object", "getClass", "()Ljava/lang/Class;"⟩ ∈ gtbl := any_at (f := fun o j => Jvm.Cond.methodLink (cnm.getD o "") j ⟨"java/lang/Object", "getClass", "()Ljava/lang/Class;"⟩) gcl0_ok (fun _ _ => rfl) hl
    exact va_getC hF.1 hF.2.1 (by rw [hF.2.2.1, hlr.1]; exact hm.symm) hF.2.2.2.1 (hts _ hlk) (va_Dc.use hK.2.2.2.2.2.2.2.2.1) (hts _ (gt_tab _ gcs_ok rfl)) (hts _ (gt_tab _ gci_ok rfl)) (hts _ (gt_tab _ gcn_ok rfl)) hK.2.2.2.2.2.2.1 (pobj hK (hP.2 a 106 fs ha).1) (by omega) (by omega) (pin_dec hi) (kk H locs ls hP hS hlr)⟩
theorem ocl_at {o j : Nat} (hl : ocl0.any (fun q => q.1 == o && q.2.1 == j) = true) : Jvm.Cond.classLink (cnm.getD o "") j "[Ljava/lang/Object;" ∈ gtbl := any_at (f := fun o j => Jvm.Cond.classLink (cnm.getD o "") j "[Ljava/lang/Object;") ocl0_ok (fun _ _ => rfl) hl
theorem x_ldcM {j : Nat} (hi : pin mi pc = some (.ldc j, 2)) (hl : ocl0.any (fun q => q.1 == mno mi && q.2.1 == j) = true) : Ex E d (mi, pc, L, st) h (mi, pc + 2, L, .ref E.2.2 :: st) h :=
  Ex.go (fun D p l e R s m args below meth c Q H locs cells slots ls hF hlr _ _ k => va_ldcM hF.1 hF.2.1 hF.2.2.2.1 (hF.2.2.2.2.1 _ (ocl_at hl)) hF.2.2.2.2.2.2.2.2.1.2.2.2.2.2.2.1 (pin_dec hi) k)
theorem x_castA {j a : Nat} {fs : List Value} (hi : pin mi pc = some (.checkcast j, 3)) (hl : ocl0.any (fun q => q.1 == mno mi && q.2.1 == j) = true) (ha : h.1 a = some (106, fs)) : Ex E d (mi, pc, L, .ref a :: st) h (mi, pc + 3, L, .ref a :: st) h :=
  Ex.go (fun D p l e R s m args below meth c Q H locs cells slots ls hF hlr hP _ k => by
    obtain ⟨cell, g1, g2, g3⟩ := pobj hF.2.2.2.2.2.2.2.2.1 (hP.2 a 106 fs ha).1
    intro T hT X
    obtain ⟨vm', X', st⟩ := X.checkcastYes hF.1 hF.2.2.2.1 (hF.2.2.2.2.1 _ (ocl_at hl)) (by rw [hT]; exact g1) g2 g3 (va_asg _ _) (g := F0 m pc ls (.ref a :: st)) rfl rfl (by rw [hF.2.1]; exact pin_dec hi)
    obtain ⟨t, a1, b1⟩ := k (T.setVm vm') hT X'
    exact ⟨t, st t a1, b1⟩)
end XM
