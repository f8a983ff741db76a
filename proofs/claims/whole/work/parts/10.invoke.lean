/-! ===== the invoking instructions ===== -/
theorem pml_ok {o j k : Nat} (h : pml o j = some k) : Jvm.Cond.methodLink (cnm.getD o "") j (mnam k) ∈ gtbl := by
  unfold pml at h
  cases hf : mlk.find? (fun q => q.1 == o && q.2.1 == j) with
  | none => rw [hf] at h; cases h
  | some q =>
    rw [hf] at h
    obtain ⟨h1, h2⟩ := pfind hf
    have h3 := List.all_eq_true.mp mlk_ok q h1
    obtain ⟨q1, q2, q3, q4⟩ := q
    cases h
    simp only [Bool.and_eq_true, beq_iff_eq] at h2
    obtain ⟨rfl, rfl⟩ := h2
    exact gt_tab _ (of_decide_eq_true h3) rfl
theorem pmn_ok {o j k : Nat} (h : pmn o j = some k) : ∃ q ∈ mln, q.1 = o ∧ q.2.1 = j ∧ q.2.2.1 = k := by
  unfold pmn at h
  cases hf : mln.find? (fun q => q.1 == o && q.2.1 == j) with
  | none => rw [hf] at h; cases h
  | some q =>
    rw [hf] at h
    obtain ⟨h1, h2⟩ := pfind hf
    simp only [Bool.and_eq_true, beq_iff_eq] at h2
    exact ⟨q, h1, h2.1, h2.2, Option.some.inj h⟩
theorem hroom {d mi : Nat} {E : PE} {D : PD} {p : Program} {R : Room} {s : State} {m : MethodId} {args : Array Value} {meth : Method} {c : Code} (hF : PFit E D p R s m args meth c mi (d + 1)) {k : Nat} (hk : mkp k = true) (mc ms : Nat) : (rmd d mc ms).frames + 1 ≤ R.frames ∧ 8 + (mmax k + 11) + (rmd d mc ms).locals ≤ R.locals := by
  have h1 : d + 1 + 8 ≤ R.frames := hF.2.2.2.2.2.2.1
  have h2 : 40 * (d + 1) + 200 ≤ R.locals := hF.2.2.2.2.2.2.2.1
  have h3 := (mk_ok hk).2.2.2.2.1
  refine ⟨?_, ?_⟩
  · show d + 8 + 1 ≤ _
    omega
  · show 8 + (mmax k + 11) + (40 * d + 200) ≤ _
    omega
section XI
variable {E : PE} {d mi pc : Nat} {L : PL} {h h1 : PH} {rest As : List Value} {v : Option Value}
theorem x_calls {j k : Nat} {st st1 : List Value} (hi : pin mi pc = some (.invokestatic j, 3)) (hl : pml (mno mi) j = some k) (hk : mkp k = true) (hs : (mkd k).1 = 0) (hst : st = As.reverse ++ rest) (ha : As.length = marg k) (hw : (rest.map fun v => v.category).sum ≤ 8) (hr : Rn E d k As h v h1) (hst1 : st1 = v.toList ++ rest) :
    Ex E (d + 1) (mi, pc, L, st) h (mi, pc + 3, L, st1) h1 := by
  subst hst
  refine Ex.call hst1 hk hr (fun D p l e R s m args below meth c H locs cells slots ls hF hP hS hz hf hM hpre => ?_)
  obtain ⟨w1, w2, w3, w4, w5, w6, w7, w8, w9, w10, w11, w12⟩ := mk_ok hk
  have hts := hF.2.2.2.2.1
  rw [if_pos hs] at w7
  exact va_runS (As := As) (rest := rest) (Ts := gtbl) (own := mown mi) ⟨hF.1, hF.2.1, hF.2.2.1, hF.2.2.2.1, hts⟩ hM ⟨callB_of (marg k) hts (gt_in hk) rfl rfl rfl (hts _ w2) (hts _ (pml_ok hl)) ⟨w6.1, w6.2, w7⟩ (hroom hF hk _ _), hts _ (w9 hs)⟩ ⟨pPre.blind, hpre⟩ rfl ha hz rfl (lv_room hw) (pin_dec hi) hf
theorem x_calln {j k : Nat} {st st1 : List Value} (hi : pin mi pc = some (.invokestatic j, 3)) (hl : pmn (mno mi) j = some k) (hk : mkp k = true) (hs : (mkd k).1 = 0) (hst : st = As.reverse ++ rest) (ha : As.length = marg k) (hw : (rest.map fun v => v.category).sum ≤ 8) (hr : Rn E d k As h v h1) (hst1 : st1 = v.toList ++ rest) :
    Ex E (d + 1) (mi, pc, L, st) h (mi, pc + 3, L, st1) h1 := by
  subst hst
  refine Ex.call hst1 hk hr (fun D p l e R s m args below meth c H locs cells slots ls hF hP hS hz hf hM hpre => ?_)
  obtain ⟨w1, w2, w3, w4, w5, w6, w7, w8, w9, w10, w11, w12⟩ := mk_ok hk
  have hts := hF.2.2.2.2.1
  rw [if_pos hs] at w7
  obtain ⟨q, q1, q2, q3, q4⟩ := pmn_ok hl
  have hn := hF.2.2.2.2.2.2.2.2.1.2.2.2.2.2.2.2.2.2.2.1 q q1
  rw [q2, q3, q4] at hn
  exact va_runSN (As := As) (rest := rest) (Ts := gtbl) (own := mown mi) ⟨hF.1, hF.2.1, hF.2.2.1, hF.2.2.2.1, hts⟩ hM ⟨va_cnB (marg k) hts (gt_in hk) rfl rfl rfl hn (hts _ w2) ⟨w6.1, w6.2, w7⟩ (hroom hF hk _ _), hts _ (w9 hs), trivial⟩ ⟨pPre.blind, hpre⟩ rfl ha hz rfl (lv_room hw) (pin_dec hi) hf
theorem x_callv {j k b t : Nat} {fs : List Value} {st st1 : List Value} (hi : pin mi pc = some (.invokevirtual j, 3)) (hl : pml (mno mi) j = some k) (hk : mkp k = true) (hs : (mkd k).1 = 1 ∨ (mkd k).1 = 3) (hst : st = As.reverse ++ .ref b :: rest) (ha : As.length + 1 = marg k) (hb : h.1 b = some (t, fs)) (ht : t < 11) (hc : (pcls t).1 = (mnam k).cls) (hw : (rest.map fun v => v.category).sum ≤ 8) (hr : Rn E d k (.ref b :: As) h v h1) (hst1 : st1 = v.toList ++ rest) :
    Ex E (d + 1) (mi, pc, L, st) h (mi, pc + 3, L, st1) h1 := by
  subst hst
  refine Ex.call hst1 hk hr (fun D p l e R s m args below meth c H locs cells slots ls hF hP hS hz hf hM hpre => ?_)
  obtain ⟨w1, w2, w3, w4, w5, w6, w7, w8, w9, w10, w11, w12⟩ := mk_ok hk
  have hts := hF.2.2.2.2.1
  have hs0 : (mkd k).1 ≠ 0 := by omega
  rw [if_neg hs0] at w7
  have hrecv := va_recv (tys := []) hF.2.2.2.2.2.2.2.2.1.1 ((hP.2 b t fs hb).1.ob ht) (pcls_at ht) (q0 := 0) rfl
  rw [hc] at hrecv
  exact va_runV (As := As) (rest := rest) (Ts := gtbl) (own := mown mi) (C := (mnam k).cls) ⟨hF.1, hF.2.1, hF.2.2.1, hF.2.2.2.1, hts⟩ hM ⟨callB_of (marg k - 1) hts (gt_in hk) rfl rfl rfl (hts _ w2) (hts _ (pml_ok hl)) ⟨w6.1, w6.2, w7⟩ (hroom hF hk _ _), hts _ (w10 hs0), hts _ (w11 hs)⟩ ⟨pPre.blind, hrecv, hpre⟩ rfl (by omega) hz rfl (lv_room hw) (pin_dec hi) hf
theorem x_calli {j k b : Nat} {st st1 : List Value} (hi : pin mi pc = some (.invokespecial j, 3)) (hl : pml (mno mi) j = some k) (hk : mkp k = true) (hs : (mkd k).1 = 2) (hst : st = As.reverse ++ .ref b :: rest) (ha : As.length + 1 = marg k) (hw : (rest.map fun v => v.category).sum ≤ 8) (hr : Rn E d k (.ref b :: As) h v h1) (hst1 : st1 = v.toList ++ rest) :
    Ex E (d + 1) (mi, pc, L, st) h (mi, pc + 3, L, st1) h1 := by
  subst hst
  refine Ex.call hst1 hk hr (fun D p l e R s m args below meth c H locs cells slots ls hF hP hS hz hf hM hpre => ?_)
  obtain ⟨w1, w2, w3, w4, w5, w6, w7, w8, w9, w10, w11, w12⟩ := mk_ok hk
  have hts := hF.2.2.2.2.1
  have hs0 : (mkd k).1 ≠ 0 := by omega
  rw [if_neg hs0] at w7
  obtain ⟨n1, n2⟩ := w12 hs
  have hw0 : mwd k :: gtbl = Jvm.Cond.code (mnam k) (mbyt k) (mmax k) none :: gtbl := by unfold mwd; rw [n2]
  exact va_runI (As := As) (rest := rest) (Ts := gtbl) (own := mown mi) (maxL := mmax k) (bytes := mbyt k) ⟨hF.1, hF.2.1, hF.2.2.1, hF.2.2.2.1, hts⟩ hM ⟨callB_of (marg k - 1) hts (gt_in hk) hw0 rfl rfl (hts _ w2) (hts _ (pml_ok hl)) ⟨w6.1, w6.2, w7⟩ (hroom hF hk _ _), n1, hts _ (w10 hs0)⟩ ⟨pPre.blind, hpre⟩ rfl (by omega) hz rfl (lv_room hw) (pin_dec hi) hf
end XI
theorem pol_ok {o j : Nat} (h : pol o j = true) : Jvm.Cond.methodLink (cnm.getD o "") j objectInit ∈ gtbl := by
  unfold pol at h
  obtain ⟨q, h1, h2⟩ := List.any_eq_true.mp h
  have h3 := List.all_eq_true.mp olk_ok q h1
  simp only [Bool.and_eq_true, beq_iff_eq] at h2
  obtain ⟨rfl, rfl⟩ := h2
  exact gt_tab _ (of_decide_eq_true h3) rfl
theorem pci_ok {o j : Nat} {z : Int} (h : pci o j = some z) : Jvm.Cond.constant (cnm.getD o "") j (Int32.ofInt z) ∈ gtbl := by
  unfold pci at h
  cases hf : cin.find? (fun q => q.1 == o && q.2.1 == j) with
  | none => rw [hf] at h; cases h
  | some q =>
    rw [hf] at h
    obtain ⟨h1, h2⟩ := pfind hf
    have h3 := List.all_eq_true.mp cin_ok q h1
    obtain ⟨q1, q2, q3, q4⟩ := q
    cases h
    simp only [Bool.and_eq_true, beq_iff_eq] at h2
    obtain ⟨rfl, rfl⟩ := h2
    exact gt_tab _ (of_decide_eq_true h3) rfl
theorem pcj_ok {o j : Nat} {z : Int} (h : pcj o j = some z) : Jvm.Cond.constantLong (cnm.getD o "") j (Int64.ofInt z) ∈ gtbl := by
  unfold pcj at h
  cases hf : cjn.find? (fun q => q.1 == o && q.2.1 == j) with
  | none => rw [hf] at h; cases h
  | some q =>
    rw [hf] at h
    obtain ⟨h1, h2⟩ := pfind hf
    have h3 := List.all_eq_true.mp cjn_ok q h1
    obtain ⟨q1, q2, q3, q4⟩ := q
    cases h
    simp only [Bool.and_eq_true, beq_iff_eq] at h2
    obtain ⟨rfl, rfl⟩ := h2
    exact gt_tab _ (of_decide_eq_true h3) rfl
theorem pgl_ok {o j w : Nat} (h : pgl o j = some w) : (w = 0 ∧ cnm.getD o "" = "TermSimplifier$Converter" ∧ j = jHL) ∨ (w = 1 ∧ cnm.getD o "" = "TermSimplifier$Converter" ∧ j = jPA) ∨ (w = 2 ∧ Jvm.Cond.fieldLink (cnm.getD o "") j "java/util/ArrayList" "DEFAULTCAPACITY_EMPTY_ELEMENTDATA" "[Ljava/lang/Object;" ∈ gtbl) := by
  unfold pgl at h
  cases hf : pgs.find? (fun q => q.1 == o && q.2.1 == j) with
  | none => rw [hf] at h; cases h
  | some q =>
    rw [hf] at h
    obtain ⟨h1, h2⟩ := pfind hf
    have h3 := List.all_eq_true.mp pgs_ok q h1
    obtain ⟨q1, q2, q3, q4⟩ := q
    cases h
    simp only [Bool.and_eq_true, beq_iff_eq] at h2
    obtain ⟨rfl, rfl⟩ := h2
    simp only [Bool.and_eq_true, Bool.or_eq_true, decide_eq_true_eq] at h3
    rcases h3 with (h3 | h3) | ⟨h3, h4⟩
    · exact Or.inl h3
    · exact Or.inr (Or.inl h3)
    · exact Or.inr (Or.inr ⟨h3, gt_tab _ h4 rfl⟩)
section XO
variable {E : PE} {d mi pc : Nat} {L : PL} {st : List Value} {h : PH}
theorem x_obj {j a : Nat} (hi : pin mi pc = some (.invokespecial j, 3)) (hl : pol (mno mi) j = true) (hn : L.length = mmax mi) (hw : (st.map fun v => v.category).sum ≤ 8) : Ex E d (mi, pc, L, .ref a :: st) h (mi, pc + 3, L, st) h :=
  Ex.go (fun D p l e R s m args below meth c Q H locs cells slots ls hF hlr _ _ k => by
    have hts := hF.2.2.2.2.1
    have h1 : d + 8 ≤ R.frames := hF.2.2.2.2.2.2.1
    have h2 : 40 * d + 200 ≤ R.locals := hF.2.2.2.2.2.2.2.1
    exact W.objInit hF.1 hF.2.1 hF.2.2.2.1 (hts _ (pol_ok hl)) (hts _ (gt_tab _ oin_ok rfl)) (hts _ (gt_tab _ oco_ok rfl)) rfl (hlr.1.trans (hn.trans hF.2.2.1.symm)) rfl (pin_dec hi) (by omega) (by
      show 2 * 0 + (st.map fun v => v.category).sum + 12 ≤ _
      omega) k)
theorem x_ldc {j : Nat} {z : Int} (hi : pin mi pc = some (.ldc j, 2)) (hl : pci (mno mi) j = some z) : Ex E d (mi, pc, L, st) h (mi, pc + 2, L, .int (Int32.ofInt z) :: st) h :=
  Ex.go (fun D p l e R s m args below meth c Q H locs cells slots ls hF hlr _ _ k => lv_ldc hF.1 hF.2.1 hF.2.2.2.1 (hF.2.2.2.2.1 _ (pci_ok hl)) (pin_dec hi) k)
theorem x_ldc2 {j : Nat} {z : Int} (hi : pin mi pc = some (.ldc2_w j, 3)) (hl : pcj (mno mi) j = some z) : Ex E d (mi, pc, L, st) h (mi, pc + 3, L, .long (Int64.ofInt z) :: st) h :=
  Ex.go (fun D p l e R s m args below meth c Q H locs cells slots ls hF hlr _ _ k => lv_ldc2 hF.1 hF.2.1 hF.2.2.2.1 (hF.2.2.2.2.1 _ (pcj_ok hl)) (pin_dec hi) k)
theorem x_gets {j w : Nat} (hi : pin mi pc = some (.getstatic j, 3)) (hl : pgl (mno mi) j = some w) : Ex E d (mi, pc, L, st) h (mi, pc + 3, L, .ref (E.2.1 w) :: st) h :=
  Ex.go (fun D p l e R s m args below meth c Q H locs cells slots ls hF hlr hP hS k => by
    obtain ⟨h1, h2, h3, h4, h5, h6, h7, h8, h9, h10, h11, h12, h13, h14⟩ := hF.2.2.2.2.2.2.2.2.1
    have hown : s.vm.findClass (mown mi) = some m.cls := hF.2.2.2.1
    rcases pgl_ok hl with ⟨rfl, g1, rfl⟩ | ⟨rfl, g1, rfl⟩ | ⟨rfl, g1⟩
    · have g2 : mown mi = "TermSimplifier$Converter" := g1
      rw [g2] at hown
      exact va_getsN hF.1 hF.2.1 h4 hS hown (va_Nw.use rfl h12) (fun _ q => q) (pin_dec hi) k
    · have g2 : mown mi = "TermSimplifier$Converter" := g1
      rw [g2] at hown
      exact va_getsN hF.1 hF.2.1 h5 hS hown (va_Nw.use rfl h13) (fun _ q => q) (pin_dec hi) k
    · exact va_gets hF.1 hF.2.1 h6 hS hown (hF.2.2.2.2.1 _ g1) (fun _ q => q) (pin_dec hi) k)
theorem x_castN {j : Nat} (hi : pin mi pc = some (.checkcast j, 3)) : Ex E d (mi, pc, L, .null :: st) h (mi, pc + 3, L, .null :: st) h :=
  Ex.go (fun D p l e R s m args below meth c Q H locs cells slots ls hF hlr _ _ k => lv_castN hF.1 hF.2.1 (pin_dec hi) k)
theorem x_cast {j t u a : Nat} {fs : List Value} (hi : pin mi pc = some (.checkcast j, 3)) (hl : pcn (mno mi) j = some (t, u)) (ht : t < 11) (ha : h.1 a = some (t, fs)) : Ex E d (mi, pc, L, .ref a :: st) h (mi, pc + 3, L, .ref a :: st) h :=
  Ex.go (fun D p l e R s m args below meth c Q H locs cells slots ls hF hlr hP hS k => by
    have hts := hF.2.2.2.2.1
    have hK := hF.2.2.2.2.2.2.2.2.1.1
    have hcl : Jvm.Cond.classLink (mown mi) j (pcls t).1 ∈ gtbl := by
      rcases (pcn_ok hl).1 with q | q
      · omega
      · exact q.2
    exact va_castS hF.1 hF.2.1 hF.2.2.2.1 (hts _ hcl) (hK.1 t _ (pcls_at ht)).2 (va_recv (tys := []) hK ((hP.2 a t fs ha).1.ob ht) (pcls_at ht) (q0 := 0) rfl) (pin_dec hi) k)
end XO
