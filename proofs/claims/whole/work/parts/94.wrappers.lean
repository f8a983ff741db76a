/-! ===== the law's own methods: they return what was returned, or a number for what was thrown ===== -/
theorem xm_met {l : Launch} {y : MethodName} {ws : List Cond} {rm : Room} {Pc : Array Value → State → Prop} {Qc : Array Value → State → Outcome → State → Prop} {mc ms : Nat} {free : Addr → Prop} (h : vx_Met l y ws rm Pc Qc (fun _ _ _ => False) mc ms free) : Met l y ws rm Pc Qc mc ms free := by
  intro p e h1 h2 h3 s m args below h4 h5 h6 h7
  obtain ⟨n, o, a1, a2, a3, a4⟩ := h p e h1 h2 h3 s m args below h4 h5 h6 h7
  refine ⟨n, o, a1, a2, a3, ?_⟩
  rcases a4 with a4 | ⟨q, -, C, ce, L, hx, -⟩
  · exact a4
  · exact hx.elim
/-- the law's method mi, called with As over h, answers r over h' -/
def Wn (E : PE) (d mi : Nat) (As : List Value) (h : PH) (r : Int32) (h' : PH) : Prop :=
  h.2.1 ≤ h'.2.1 ∧ h.2.2 ≤ h'.2.2 ∧ ∀ l : Launch, l.stackTraces = false → ∀ D : PD, Met l (mnam mi) (xcw mi :: gtbl) (rmd d (h'.2.1 - h.2.1) (h'.2.2 - h.2.2)) (xPre E D As h) (pPost E D (some (.int r)) h') (h'.2.1 - h.2.1) (h'.2.2 - h.2.2) (fun q => E.1 ≤ q)
set_option maxHeartbeats 1000000 in
theorem Wn.ret {E : PE} {d mi pc : Nat} {As : List Value} {h h' : PH} {L : PL} {r : Int32} (hk : wrn mi) (hlen : (pent0 As).length ≤ mmax mi) (hex : Ex E d (mi, 0, pent As (mmax mi), []) h (mi, pc, L, [.int r]) h') (hi : pin mi pc = some (.ireturn, 1)) : Wn E d mi As h r h' := by
  obtain ⟨hX1, hX2, hX3, hX4, hX5⟩ := hex
  refine ⟨hX3, hX4, fun l hl D => xm_met ?_⟩
  refine vx_ofWH (cc := mbyt mi) (maxL := mmax mi) (ret := mret mi) (hh := xhh mi) hk.2.2.2.1 rfl ?_
  intro p e s m args below meth c s₁ B hml hv
  obtain ⟨rfl, hP, hK, hE, hXK⟩ := hv
  have hx := B.exec
  have hb := B.bytes
  have hr := B.returns
  have hlocks := B.notSynchronized
  have hts := atoms_spec (ws := xcw mi :: gtbl) B.pre
  have hown : s.vm.findClass (mnam mi).cls = some m.cls := findClass_of_methodNamed B.named
  rw [lg_entry_eq]
  have hF : PFit E D p (headSpec (xcw mi :: gtbl) (rmd d (h'.2.1 - h.2.1) (h'.2.2 - h.2.2))).room s m As.toArray meth c mi d :=
    ⟨hx, hb, hml, by rw [← hk.2.2.1]; exact hown, fun w hw => hts w (List.mem_cons_of_mem _ hw), (name_of_methodNamed B.named B.method).1, Nat.le_refl _, Nat.le_refl _, hK, hE⟩
  have key := hX5 D p l e (headSpec (xcw mi :: gtbl) (rmd d (h'.2.1 - h.2.1) (h'.2.2 - h.2.2))).room s m As.toArray below meth c (vx_MQ below (pPost E D (some (.int r)) h') (fun _ _ _ => False) As.toArray s (h'.2.1 - h.2.1) (h'.2.2 - h.2.2) (fun q => E.1 ≤ q)) h.2.1 h.2.2 s.heap [] _ hF (Nat.le_refl _) (Nat.le_refl _) (Nat.le_refl _) (Nat.le_refl _) hP va_S.rf (by
      show (pent As (mmax mi)).length = mmax mi
      unfold pent
      rw [List.length_append, List.length_replicate]
      omega) (pent_rel As hlen) (fun H' locs' ls' hP' hS' _ => ?_)
  · rw [Nat.sub_self, Nat.sub_self] at key
    exact key
  · exact vx_ret (W.zret hx hb (hr.trans hk.2.2.2.2.2.2.2.2) rfl (fun t ht _ => ⟨rfl, by rw [ht]; exact hP', hS'.F ht⟩) hS'.2.2 (pin_dec hi))
set_option maxHeartbeats 1000000 in
theorem Wn.thr {E : PE} {d mi pc pc2 j k b t x : Nat} {As Bs rest fs : List Value} {h h' : PH} {L : PL} {r : Int32} (hk : wrn mi) (hlen : (pent0 As).length ≤ mmax mi) (hpre : Ex E (d + 1) (mi, 0, pent As (mmax mi), []) h (mi, pc, L, Bs.reverse ++ .ref b :: rest) h)
    (hi : pin mi pc = some (.invokevirtual j, 3)) (hl : pml (mno mi) j = some k) (hk' : mkp k = true) (hs : (mkd k).1 = 1 ∨ (mkd k).1 = 3) (ha : Bs.length + 1 = marg k) (hb : h.1 b = some (t, fs)) (ht : t < 11) (hc : (pcls t).1 = (mnam k).cls) (hw : (rest.map fun v => v.category).sum ≤ 8) (hr : Rt E d k (.ref b :: Bs) h x h')
    (pre : List ExceptionTableEntry) (z : ExceptionTableEntry) (suf : List ExceptionTableEntry) (hsp : tableOf (xhh mi) = pre ++ z :: suf) (hpass : ∀ y ∈ pre, y.catchType ≠ 0 ∧ ∃ nm, Cond.classLink (mown mi) y.catchType nm ∈ gtbl ∧ ∀ s : State, XK E s → va_Nc (xcl x).1 nm s)
    (hx : covers z pc = true) (h0 : z.catchType ≠ 0) (hz : Cond.classLink (mown mi) z.catchType (xcl x).1 ∈ gtbl) (hcb : Cond.castable (xcl x).1 (xcl x).1 ∈ xbad)
    (hsuf : ∀ q : Nat, ∃ L2 : PL, Ex E (d + 1) (mi, z.handlerPc, L, [.ref q]) h' (mi, pc2, L2, [.int r]) h') (hi2 : pin mi pc2 = some (.ireturn, 1)) : Wn E (d + 1) mi As h r h' := by
  obtain ⟨hX1, hX2, hX3, hX4, hX5⟩ := hpre
  have hm1 : h.2.1 ≤ h'.2.1 ∧ h.2.2 ≤ h'.2.2 := by
    obtain ⟨-, q, L0, h1, -, -, -, ⟨-, -, g3, g4, -⟩, rfl⟩ := hr
    exact ⟨Nat.le_trans g3 (Nat.le_add_right _ 1), Nat.le_trans g4 (Nat.le_add_right _ 6)⟩
  refine ⟨hm1.1, hm1.2, fun l hl0 D => xm_met ?_⟩
  refine vx_ofWH (cc := mbyt mi) (maxL := mmax mi) (ret := mret mi) (hh := xhh mi) hk.2.2.2.1 rfl ?_
  intro p e s m args below meth c s₁ B hml hv
  obtain ⟨rfl, hP, hK, hE, hXK⟩ := hv
  have hxx := B.exec
  have hbb := B.bytes
  have hrr := B.returns
  have hlocks := B.notSynchronized
  have hts := atoms_spec (ws := xcw mi :: gtbl) B.pre
  have htbl := vx_table (x := mnam mi) B (hts _ List.mem_cons_self)
  have hown : s.vm.findClass (mown mi) = some m.cls := by rw [← hk.2.2.1]; exact findClass_of_methodNamed B.named
  rw [lg_entry_eq]
  have hF : PFit E D p (headSpec (xcw mi :: gtbl) (rmd (d + 1) (h'.2.1 - h.2.1) (h'.2.2 - h.2.2))).room s m As.toArray meth c mi (d + 1) :=
    ⟨hxx, hbb, hml, hown, fun w hw => hts w (List.mem_cons_of_mem _ hw), (name_of_methodNamed B.named B.method).1, Nat.le_refl _, Nat.le_refl _, hK, hE⟩
  have hpl : (pent As (mmax mi)).length = mmax mi := by
    unfold pent
    rw [List.length_append, List.length_replicate]
    omega
  have key := hX5 D p l e (headSpec (xcw mi :: gtbl) (rmd (d + 1) (h'.2.1 - h.2.1) (h'.2.2 - h.2.2))).room s m As.toArray below meth c (vx_MQ below (pPost E D (some (.int r)) h') (fun _ _ _ => False) As.toArray s (h'.2.1 - h.2.1) (h'.2.2 - h.2.2) (fun q => E.1 ≤ q)) h.2.1 h.2.2 s.heap [] _ hF (Nat.le_refl _) (Nat.le_refl _) (by rw [Nat.sub_self]; exact Nat.zero_le _) (by rw [Nat.sub_self]; exact Nat.zero_le _) hP va_S.rf hpl (pent_rel As hlen) (fun H' locs' ls' hP' hS' hl' => ?_)
  · rw [Nat.sub_self, Nat.sub_self] at key
    exact key
  · rw [Nat.sub_self, Nat.sub_self]
    have hz' : ls'.size = mmax mi := hl'.1.trans (hX2.trans hpl)
    obtain ⟨w1, w2, w3, w4, w5, w6, w7, w8, w9, w10, w11, w12⟩ := mk_ok hk'
    have hts' := hF.2.2.2.2.1
    have hs0 : (mkd k).1 ≠ 0 := by omega
    rw [if_neg hs0] at w7
    have hrecv := va_recv (tys := []) hF.2.2.2.2.2.2.2.2.1.1 ((hP'.2 b t fs hb).1.ob ht) (pcls_at ht) (q0 := 0) rfl
    rw [hc] at hrecv
    have hrun := vx_runV (e := e) (below := below) (meth := meth) (locs := locs') (cells := 0) (slots := 0) (As := Bs) (rest := rest) (Ts := gtbl) (own := mown mi) (C := (mnam k).cls) (g := F0 m pc ls' (Bs.reverse ++ .ref b :: rest)) ⟨hF.1, hF.2.1, hF.2.2.1, hF.2.2.2.1, hts'⟩ (hr.met l hl0 D) ⟨callB_of (marg k - 1) hts' (gt_in hk') rfl rfl rfl (hts' _ w2) (hts' _ (pml_ok hl)) ⟨w6.1, w6.2, w7⟩ (hroom hF hk' _ _), hts' _ (w10 hs0), hts' _ (w11 hs)⟩
      ⟨xPre.blind, hrecv, fun U hU hW => ⟨rfl, by rw [hU]; exact hP', PK.moved hW (fun q h1 h2 => by rw [hU]; exact hS'.2.1 q h1 h2) hK, by rw [hU]; exact Nat.le_trans hE hS'.1, XK.moved hW (fun q h1 h2 => by rw [hU]; exact hS'.2.1 q h1 h2) hXK⟩⟩ rfl (by omega) hz' rfl (lv_room hw) (pin_dec hi) ⟨by rw [Nat.zero_add]; exact Nat.le_refl _, by rw [Nat.zero_add]; exact Nat.le_refl _⟩
    intro T hT X
    rcases hrun T hT X with ⟨v, st₀, t, T', Ls, h0', X', hL, e1, e2, hq, st⟩ | ⟨q, st₀, t, T', Ls, C, ce, h0', X', hL, e1, e2, ⟨rfl, hP2, hF2⟩, hce, hcv, hcl, st⟩
    · exact hq.elim
    · obtain ⟨k1, k2, k3⟩ := vx_keep (A0 := fun q => E.1 ≤ q) (A1 := fun q => E.1 ≤ q) (free := fun q => E.1 ≤ q) h0' e1 hS' (fun _ _ g => g) (fun _ g => g) hL hF2
      obtain ⟨L2, hsx⟩ := hsuf q
      obtain ⟨-, -, -, -, hS5⟩ := hsx
      have kk := hS5 D p l e (headSpec (xcw mi :: gtbl) (rmd (d + 1) (h'.2.1 - h.2.1) (h'.2.2 - h.2.2))).room s m As.toArray below meth c (vx_MQ below (pPost E D (some (.int r)) h') (fun _ _ _ => False) As.toArray s (h'.2.1 - h.2.1) (h'.2.2 - h.2.2) (fun q => E.1 ≤ q)) h.2.1 h.2.2 T'.heap (locs' ++ Ls) ls' hF hm1.1 hm1.2 (Nat.le_refl _) (Nat.le_refl _) (by rw [e1]; exact hP2) k3 (hX2.trans hpl) hl' (fun H3 locs3 ls3 hP3 hS3 _ => vx_ret (W.zret hxx hbb (hrr.trans hk.2.2.2.2.2.2.2.2) rfl (fun t ht _ => ⟨rfl, by rw [ht]; exact hP3, hS3.F ht⟩) hS3.2.2 (pin_dec hi2)))
      have hct := vx_catch (rest := rest) (own := mown mi) (name := (xcl x).1) (E := (xcl x).1) (pc := pc) (ls := ls') (H := T'.heap) hown pre z suf (htbl.trans hsp) (fun y hy => Or.inr (by
          obtain ⟨g1, nm, g2, g3⟩ := hpass y hy
          exact ⟨g1, nm, hts' _ g2, g3 s hXK⟩)) hx h0 (hts' _ hz) (va_Nw.use (by rfl) (hXK.2.2.1 _ hcb)) (by rw [e1]; exact hce) hcv hcl kk
      rw [Nat.zero_add, Nat.zero_add] at X'
      obtain ⟨t2, a1, b1⟩ := hct T' rfl X'
      exact ⟨t2, st.trans a1, b1⟩
