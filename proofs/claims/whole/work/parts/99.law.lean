/-! ===== the law's own method: nothing traces, and what is thrown is known ===== -/
def Ey (E : PE) (d : Nat) (F : PF) (h : PH) (F' : PF) (h' : PH) : Prop :=
  F'.1 = F.1 ∧ F'.2.2.1.length = F.2.2.1.length ∧ h.2.1 ≤ h'.2.1 ∧ h.2.2 ≤ h'.2.2 ∧
  ∀ (D : PD) (p : Program) (l : Launch) (e : Jvm.Env) (R : Room) (s : State) (m : MethodId) (args : Array Value) (below : List Frame) (meth : Method) (c : Code) (Q : State → Prop) (en es : Nat) (H : Heap) (locs : List Loc) (ls : Array Slot),
    l.stackTraces = false → XK E s → PFit E D p R s m args meth c F.1 d → en ≤ h.2.1 → es ≤ h.2.2 → h'.2.1 - en ≤ R.cells → h'.2.2 - es ≤ R.slots →
    prep E D h H → va_S (fun q => E.1 ≤ q) s.heap H locs → F.2.2.1.length = mmax F.1 → lrel ls F.2.2.1 →
    (∀ (H' : Heap) (locs' : List Loc) (ls' : Array Slot), prep E D h' H' → va_S (fun q => E.1 ≤ q) s.heap H' locs' → lrel ls' F'.2.2.1 →
      W p l e R s m args below meth c H' locs' (h'.2.1 - en) (h'.2.2 - es) Q (F0 m F'.2.1 ls' F'.2.2.2)) →
    W p l e R s m args below meth c H locs (h.2.1 - en) (h.2.2 - es) Q (F0 m F.2.1 ls F.2.2.2)
theorem Ey.of {E : PE} {d : Nat} {F F' : PF} {h h' : PH} (x : Ex E d F h F' h') : Ey E d F h F' h' :=
  ⟨x.1, x.2.1, x.2.2.1, x.2.2.2.1, fun D p l e R s m args below meth c Q en es H locs ls _ _ => x.2.2.2.2 D p l e R s m args below meth c Q en es H locs ls⟩
theorem Ey.tr {E : PE} {d : Nat} {F F1 F2 : PF} {h h1 h2 : PH} (x : Ey E d F h F1 h1) (y : Ey E d F1 h1 F2 h2) : Ey E d F h F2 h2 := by
  obtain ⟨a1, b1, c1, d1, k1⟩ := x
  obtain ⟨a2, b2, c2, d2, k2⟩ := y
  refine ⟨a2.trans a1, b2.trans b1, Nat.le_trans c1 c2, Nat.le_trans d1 d2, ?_⟩
  intro D p l e R s m args below meth c Q en es H locs ls hl0 hx0 hF he1 he2 hc hs hP hS hm hl k
  refine k1 D p l e R s m args below meth c Q en es H locs ls hl0 hx0 hF he1 he2 (by omega) (by omega) hP hS hm hl (fun H' locs' ls' hP' hS' hl' => ?_)
  refine k2 D p l e R s m args below meth c Q en es H' locs' ls' hl0 hx0 (by rw [a1]; exact hF) (by omega) (by omega) hc hs hP' hS' (by rw [b1, a1]; exact hm) hl' k
theorem Ey.tx {E : PE} {d : Nat} {F F1 F2 : PF} {h h1 h2 : PH} (x : Ex E d F h F1 h1) (y : Ey E d F1 h1 F2 h2) : Ey E d F h F2 h2 := (Ey.of x).tr y
theorem wrn_in {k : Nat} (hk : wrn k) : GoodIn gtbl (xcw k :: gtbl) := by
  intro w hw
  rcases List.mem_cons.mp hw with rfl | h
  · exact ⟨hk.1, good_of_word (gt_good hk.1)⟩
  · exact ⟨h, good_of_word (gt_good h)⟩
/-- a call of the law's own methods -/
theorem y_callw {E : PE} {d mi pc j k : Nat} {L : PL} {st rest As : List Value} {h h1 : PH} {r : Int32} (hk : wrn k) (hi : pin mi pc = some (.invokestatic j, 3)) (hl : pml (mno mi) j = some k) (hst : st = As.reverse ++ rest) (ha : As.length = marg k) (hw : (rest.map fun v => v.category).sum ≤ 8) (hr : Wn E d k As h r h1) :
    Ey E (d + 1) (mi, pc, L, st) h (mi, pc + 3, L, .int r :: rest) h1 := by
  subst hst
  obtain ⟨hn1, hn2, hM⟩ := hr
  refine ⟨rfl, rfl, hn1, hn2, ?_⟩
  intro D p l e R s m args below meth c Q en es H locs ls hl0 hx0 hF he1 he2 hc hs hP hS hm hlr kk
  have hc : h1.2.1 - en ≤ R.cells := hc
  have hs : h1.2.2 - es ≤ R.slots := hs
  have hts := hF.2.2.2.2.1
  have hf1 : d + 1 + 8 ≤ R.frames := hF.2.2.2.2.2.2.1
  have hf2 : 40 * (d + 1) + 200 ≤ R.locals := hF.2.2.2.2.2.2.2.1
  obtain ⟨w1, w2, w3, w4, w5, w6, w7, w8, w9⟩ := hk
  have hcw : vx_CSW R s args (mown mi) j (mnam k) (mbyt k) (mmax k) (mret k) (xhh k) (xcw k :: gtbl) (rmd d (h1.2.1 - h.2.1) (h1.2.2 - h.2.2)) (h1.2.1 - h.2.1) (h1.2.2 - h.2.2) (marg k) := by
    refine ⟨⟨rfl, rfl, ?_, ?_, pay_in hts (wrn_in ⟨w1, w2, w3, w4, w5, w6, w7, w8, w9⟩), List.mem_cons_self⟩, hts _ w1, hts _ w2, w6, fun sig hsig => ?_, hts _ (pml_ok hl), hts _ w8⟩
    · show d + 8 + 1 ≤ _
      omega
    · show 8 + (mmax k + 11) + (40 * d + 200) ≤ _
      omega
    · rw [hsig] at w7
      exact (Option.some.inj w7).symm
  have hr0 := vx_runSW (p := p) (l := l) (e := e) (R := R) (s := s) (m := m) (args := args) (below := below) (meth := meth) (c := c) (H := H) (locs := locs) (cells := h.2.1 - en) (slots := h.2.2 - es) (As := As) (rest := rest) (Ts := gtbl) (own := mown mi) (g := F0 m pc ls (As.reverse ++ rest)) ⟨hF.1, hF.2.1, hF.2.2.1, hF.2.2.2.1, hts⟩ (hM l hl0 D) hcw
    ⟨xPre.blind, fun U hU hW => ⟨rfl, by rw [hU]; exact hP, PK.moved hW (fun q h1 h2 => by rw [hU]; exact hS.2.1 q h1 h2) hF.2.2.2.2.2.2.2.2.1, by rw [hU]; exact hF.S hS, XK.moved hW (fun q h1 h2 => by rw [hU]; exact hS.2.1 q h1 h2) hx0⟩⟩ rfl ha (hlr.1.trans hm) rfl (lv_room hw) (pin_dec hi) ⟨by omega, by omega⟩
  intro T hT X
  obtain ⟨v', st₀, t, T', Ls, h0, X', hL, e1, e2, ⟨hv, hP', hz, hkp⟩, stp⟩ := hr0 T hT X
  have hv : v' = some (.int r) := Outcome.returned.inj hv
  subst hv
  rw [h0] at hz hkp
  have e3 : h.2.1 - en + (h1.2.1 - h.2.1) = h1.2.1 - en := by omega
  have e4 : h.2.2 - es + (h1.2.2 - h.2.2) = h1.2.2 - es := by omega
  rw [e3, e4] at X'
  obtain ⟨t2, a1, b1⟩ := kk T'.heap (locs ++ Ls) ls (by rw [e1]; exact hP') ⟨Nat.le_trans hS.1 (by rw [e1]; exact hz), fun q g1 g2 => by rw [e1, hkp q (Nat.lt_of_lt_of_le g1 hS.1) g2]; exact hS.2.1 q g1 g2, fun q hq => by
      rcases List.mem_append.mp hq with g | g
      · exact hS.2.2 q g
      · exact hL q g⟩ hlr T' rfl X'
  exact ⟨t2, stp t2 a1, b1⟩
theorem lg_self (v : Int64) : lg_cmp v v = 0 := by simp [lg_cmp]
abbrev LL (b x i : Nat) (o5 o6 : Option Value) : PL := [some (.ref b), some (.ref x), some (.ref (x + 15)), some (.ref (x + 41)), some (.int (nI i)), o5, o6]
section M99
variable {E : PE} {h h0 h1 h2 : PH} {x b i : Nat} {p5 p6 : Option Value} {fs : List Value} {v : Int32} {tb : Nat}
theorem y_109 (hJ : Jt E h0 x 144 3 [] h h2) : ∃ o5 o6, Ey E 200 (151, 109, LL b x i p5 p6, []) h (151, 453, LL b x i o5 o6, []) h2 := by
  obtain ⟨k, r, h1, u, hW, hR, hT, hv, hk, ⟨f1, e1⟩, ⟨f2, e2⟩, hs⟩ := hJ
  refine ⟨some (.int k), some (.int r), ?_⟩
  refine Ey.tx (F1 := (151, 110, _, _)) (x_aload_n rfl rfl rfl) ?_
  refine Ey.tx (F1 := (151, 111, _, _)) (x_aload_n rfl rfl rfl) ?_
  refine Ey.tr (F1 := (151, 114, _, _)) (y_callw (As := [.ref x, .ref (x + 41)]) (rest := []) wr144 rfl rfl rfl rfl (Nat.le_of_ble_eq_true rfl) hW) ?_
  refine Ey.tx (F1 := (151, 116, LL b x i (some (.int k)) p6, _)) (x_istore (i := 5) rfl (Nat.le_of_ble_eq_true rfl)) ?_
  refine Ey.tx (F1 := (151, 117, _, _)) (x_aload_n rfl rfl rfl) ?_
  refine Ey.tx (F1 := (151, 120, _, _)) (x_callv (As := []) rfl rfl rfl (Or.inl rfl) rfl rfl e1 (by decide) rfl (Nat.le_of_ble_eq_true rfl) hR rfl) ?_
  refine Ey.tx (F1 := (151, 122, LL b x i (some (.int k)) (some (.int r)), _)) (x_istore (i := 6) rfl (Nat.le_of_ble_eq_true rfl)) ?_
  refine Ey.tx (F1 := (151, 123, _, _)) (x_aload_n rfl rfl rfl) ?_
  refine Ey.tx (F1 := (151, 126, _, _)) (x_callv (As := []) rfl rfl rfl (Or.inl rfl) rfl rfl e2 (by decide) rfl (Nat.le_of_ble_eq_true rfl) hT rfl) ?_
  refine Ey.tx (F1 := (151, 128, _, _)) (x_iload (i := 5) rfl rfl) ?_
  refine Ey.tx (F1 := (151, 133, _, _)) (x_icT rfl (tg := 133) rfl rfl) ?_
  by_cases hk0 : k = 0
  · refine Ey.tx (F1 := (151, 135, _, _)) (x_iload (i := 5) rfl rfl) ?_
    refine Ey.tx (F1 := (151, 138, _, _)) (x_ifF rfl (tg := 150) rfl (fun z => z hk0)) ?_
    refine Ey.tx (F1 := (151, 139, _, _)) (x_aload_n rfl rfl rfl) ?_
    refine Ey.tx (F1 := (151, 140, _, _)) (x_iconst rfl) ?_
    refine Ey.tx (F1 := (151, 141, _, _)) (x_lald (n := 0) rfl hv rfl rfl (by decide) rfl) ?_
    refine Ey.tx (F1 := (151, 143, _, _)) (x_iload (i := 6) rfl rfl) ?_
    refine Ey.tx (F1 := (151, 144, _, _)) (x_i2l rfl) ?_
    refine Ey.tx (F1 := (151, 145, _, _)) (x_lcmp rfl) ?_
    refine Ey.tx (F1 := (151, 150, _, _)) (x_ifT rfl (tg := 150) rfl (by rw [hk hk0]; exact lg_self _)) ?_
    exact Ey.of (x_goto rfl rfl)
  · refine Ey.tx (F1 := (151, 135, _, _)) (x_iload (i := 5) rfl rfl) ?_
    refine Ey.tx (F1 := (151, 150, _, _)) (x_ifT rfl (tg := 150) rfl hk0) ?_
    exact Ey.of (x_goto rfl rfl)
theorem y_153 (hJ : Jt E h0 x 145 23 [] h h2) : ∃ o5 o6, Ey E 200 (151, 153, LL b x i p5 p6, []) h (151, 453, LL b x i o5 o6, []) h2 := by
  obtain ⟨k, r, h1, u, hW, hR, hT, hv, hk, ⟨f1, e1⟩, ⟨f2, e2⟩, hs⟩ := hJ
  refine ⟨some (.int k), some (.int r), ?_⟩
  refine Ey.tx (F1 := (151, 154, _, _)) (x_aload_n rfl rfl rfl) ?_
  refine Ey.tx (F1 := (151, 155, _, _)) (x_aload_n rfl rfl rfl) ?_
  refine Ey.tr (F1 := (151, 158, _, _)) (y_callw (As := [.ref x, .ref (x + 41)]) (rest := []) wr145 rfl rfl rfl rfl (Nat.le_of_ble_eq_true rfl) hW) ?_
  refine Ey.tx (F1 := (151, 160, LL b x i (some (.int k)) p6, _)) (x_istore (i := 5) rfl (Nat.le_of_ble_eq_true rfl)) ?_
  refine Ey.tx (F1 := (151, 161, _, _)) (x_aload_n rfl rfl rfl) ?_
  refine Ey.tx (F1 := (151, 164, _, _)) (x_callv (As := []) rfl rfl rfl (Or.inl rfl) rfl rfl e1 (by decide) rfl (Nat.le_of_ble_eq_true rfl) hR rfl) ?_
  refine Ey.tx (F1 := (151, 166, LL b x i (some (.int k)) (some (.int r)), _)) (x_istore (i := 6) rfl (Nat.le_of_ble_eq_true rfl)) ?_
  refine Ey.tx (F1 := (151, 167, _, _)) (x_aload_n rfl rfl rfl) ?_
  refine Ey.tx (F1 := (151, 170, _, _)) (x_callv (As := []) rfl rfl rfl (Or.inl rfl) rfl rfl e2 (by decide) rfl (Nat.le_of_ble_eq_true rfl) hT rfl) ?_
  refine Ey.tx (F1 := (151, 172, _, _)) (x_iload (i := 5) rfl rfl) ?_
  refine Ey.tx (F1 := (151, 177, _, _)) (x_icT rfl (tg := 177) rfl rfl) ?_
  by_cases hk0 : k = 0
  · refine Ey.tx (F1 := (151, 179, _, _)) (x_iload (i := 5) rfl rfl) ?_
    refine Ey.tx (F1 := (151, 182, _, _)) (x_ifF rfl (tg := 194) rfl (fun z => z hk0)) ?_
    refine Ey.tx (F1 := (151, 183, _, _)) (x_aload_n rfl rfl rfl) ?_
    refine Ey.tx (F1 := (151, 184, _, _)) (x_iconst rfl) ?_
    refine Ey.tx (F1 := (151, 185, _, _)) (x_lald (n := 0) rfl hv rfl rfl (by decide) rfl) ?_
    refine Ey.tx (F1 := (151, 187, _, _)) (x_iload (i := 6) rfl rfl) ?_
    refine Ey.tx (F1 := (151, 188, _, _)) (x_i2l rfl) ?_
    refine Ey.tx (F1 := (151, 189, _, _)) (x_lcmp rfl) ?_
    refine Ey.tx (F1 := (151, 194, _, _)) (x_ifT rfl (tg := 194) rfl (by rw [hk hk0]; exact lg_self _)) ?_
    exact Ey.of (x_goto rfl rfl)
  · refine Ey.tx (F1 := (151, 179, _, _)) (x_iload (i := 5) rfl rfl) ?_
    refine Ey.tx (F1 := (151, 194, _, _)) (x_ifT rfl (tg := 194) rfl hk0) ?_
    exact Ey.of (x_goto rfl rfl)
theorem y_197 (hJ : Jt E h0 x 146 39 [] h h2) : ∃ o5 o6, Ey E 200 (151, 197, LL b x i p5 p6, []) h (151, 453, LL b x i o5 o6, []) h2 := by
  obtain ⟨k, r, h1, u, hW, hR, hT, hv, hk, ⟨f1, e1⟩, ⟨f2, e2⟩, hs⟩ := hJ
  refine ⟨some (.int k), some (.int r), ?_⟩
  refine Ey.tx (F1 := (151, 198, _, _)) (x_aload_n rfl rfl rfl) ?_
  refine Ey.tx (F1 := (151, 199, _, _)) (x_aload_n rfl rfl rfl) ?_
  refine Ey.tr (F1 := (151, 202, _, _)) (y_callw (As := [.ref x, .ref (x + 41)]) (rest := []) wr146 rfl rfl rfl rfl (Nat.le_of_ble_eq_true rfl) hW) ?_
  refine Ey.tx (F1 := (151, 204, LL b x i (some (.int k)) p6, _)) (x_istore (i := 5) rfl (Nat.le_of_ble_eq_true rfl)) ?_
  refine Ey.tx (F1 := (151, 205, _, _)) (x_aload_n rfl rfl rfl) ?_
  refine Ey.tx (F1 := (151, 208, _, _)) (x_callv (As := []) rfl rfl rfl (Or.inl rfl) rfl rfl e1 (by decide) rfl (Nat.le_of_ble_eq_true rfl) hR rfl) ?_
  refine Ey.tx (F1 := (151, 210, LL b x i (some (.int k)) (some (.int r)), _)) (x_istore (i := 6) rfl (Nat.le_of_ble_eq_true rfl)) ?_
  refine Ey.tx (F1 := (151, 211, _, _)) (x_aload_n rfl rfl rfl) ?_
  refine Ey.tx (F1 := (151, 214, _, _)) (x_callv (As := []) rfl rfl rfl (Or.inl rfl) rfl rfl e2 (by decide) rfl (Nat.le_of_ble_eq_true rfl) hT rfl) ?_
  refine Ey.tx (F1 := (151, 216, _, _)) (x_iload (i := 5) rfl rfl) ?_
  refine Ey.tx (F1 := (151, 221, _, _)) (x_icT rfl (tg := 221) rfl rfl) ?_
  by_cases hk0 : k = 0
  · refine Ey.tx (F1 := (151, 223, _, _)) (x_iload (i := 5) rfl rfl) ?_
    refine Ey.tx (F1 := (151, 226, _, _)) (x_ifF rfl (tg := 238) rfl (fun z => z hk0)) ?_
    refine Ey.tx (F1 := (151, 227, _, _)) (x_aload_n rfl rfl rfl) ?_
    refine Ey.tx (F1 := (151, 228, _, _)) (x_iconst rfl) ?_
    refine Ey.tx (F1 := (151, 229, _, _)) (x_lald (n := 0) rfl hv rfl rfl (by decide) rfl) ?_
    refine Ey.tx (F1 := (151, 231, _, _)) (x_iload (i := 6) rfl rfl) ?_
    refine Ey.tx (F1 := (151, 232, _, _)) (x_i2l rfl) ?_
    refine Ey.tx (F1 := (151, 233, _, _)) (x_lcmp rfl) ?_
    refine Ey.tx (F1 := (151, 238, _, _)) (x_ifT rfl (tg := 238) rfl (by rw [hk hk0]; exact lg_self _)) ?_
    exact Ey.of (x_goto rfl rfl)
  · refine Ey.tx (F1 := (151, 223, _, _)) (x_iload (i := 5) rfl rfl) ?_
    refine Ey.tx (F1 := (151, 238, _, _)) (x_ifT rfl (tg := 238) rfl hk0) ?_
    exact Ey.of (x_goto rfl rfl)
theorem y_353 (hJ : Jt E h0 x 149 42 [] h h2) : ∃ o5 o6, Ey E 200 (151, 353, LL b x i p5 p6, []) h (151, 453, LL b x i o5 o6, []) h2 := by
  obtain ⟨k, r, h1, u, hW, hR, hT, hv, hk, ⟨f1, e1⟩, ⟨f2, e2⟩, hs⟩ := hJ
  refine ⟨some (.int k), some (.int r), ?_⟩
  refine Ey.tx (F1 := (151, 354, _, _)) (x_aload_n rfl rfl rfl) ?_
  refine Ey.tx (F1 := (151, 355, _, _)) (x_aload_n rfl rfl rfl) ?_
  refine Ey.tr (F1 := (151, 358, _, _)) (y_callw (As := [.ref x, .ref (x + 41)]) (rest := []) wr149 rfl rfl rfl rfl (Nat.le_of_ble_eq_true rfl) hW) ?_
  refine Ey.tx (F1 := (151, 360, LL b x i (some (.int k)) p6, _)) (x_istore (i := 5) rfl (Nat.le_of_ble_eq_true rfl)) ?_
  refine Ey.tx (F1 := (151, 361, _, _)) (x_aload_n rfl rfl rfl) ?_
  refine Ey.tx (F1 := (151, 364, _, _)) (x_callv (As := []) rfl rfl rfl (Or.inl rfl) rfl rfl e1 (by decide) rfl (Nat.le_of_ble_eq_true rfl) hR rfl) ?_
  refine Ey.tx (F1 := (151, 366, LL b x i (some (.int k)) (some (.int r)), _)) (x_istore (i := 6) rfl (Nat.le_of_ble_eq_true rfl)) ?_
  refine Ey.tx (F1 := (151, 367, _, _)) (x_aload_n rfl rfl rfl) ?_
  refine Ey.tx (F1 := (151, 370, _, _)) (x_callv (As := []) rfl rfl rfl (Or.inl rfl) rfl rfl e2 (by decide) rfl (Nat.le_of_ble_eq_true rfl) hT rfl) ?_
  refine Ey.tx (F1 := (151, 372, _, _)) (x_iload (i := 5) rfl rfl) ?_
  refine Ey.tx (F1 := (151, 377, _, _)) (x_icT rfl (tg := 377) rfl rfl) ?_
  by_cases hk0 : k = 0
  · refine Ey.tx (F1 := (151, 379, _, _)) (x_iload (i := 5) rfl rfl) ?_
    refine Ey.tx (F1 := (151, 382, _, _)) (x_ifF rfl (tg := 394) rfl (fun z => z hk0)) ?_
    refine Ey.tx (F1 := (151, 383, _, _)) (x_aload_n rfl rfl rfl) ?_
    refine Ey.tx (F1 := (151, 384, _, _)) (x_iconst rfl) ?_
    refine Ey.tx (F1 := (151, 385, _, _)) (x_lald (n := 0) rfl hv rfl rfl (by decide) rfl) ?_
    refine Ey.tx (F1 := (151, 387, _, _)) (x_iload (i := 6) rfl rfl) ?_
    refine Ey.tx (F1 := (151, 388, _, _)) (x_i2l rfl) ?_
    refine Ey.tx (F1 := (151, 389, _, _)) (x_lcmp rfl) ?_
    refine Ey.tx (F1 := (151, 394, _, _)) (x_ifT rfl (tg := 394) rfl (by rw [hk hk0]; exact lg_self _)) ?_
    exact Ey.of (x_goto rfl rfl)
  · refine Ey.tx (F1 := (151, 379, _, _)) (x_iload (i := 5) rfl rfl) ?_
    refine Ey.tx (F1 := (151, 394, _, _)) (x_ifT rfl (tg := 394) rfl hk0) ?_
    exact Ey.of (x_goto rfl rfl)
theorem y_241 (ht : 107 ≤ tb) (hpt : ptag tb = some .int) (hb : h.1 b = some (tb, fs)) (hb0 : h0.1 b = some (tb, fs)) (hi : i < 60000) (hf : fs[i + 1]? = some (.int v)) (hJ : Jt E h0 x 147 40 [.int v] h h2) : ∃ o5 o6, Ey E 200 (151, 241, LL b x i p5 p6, []) h (151, 453, LL b x i o5 o6, []) h2 := by
  obtain ⟨k, r, h1, u, hW, hR, hT, hv, hk, ⟨f1, e1⟩, ⟨f2, e2⟩, hs⟩ := hJ
  have hb1 := hs b tb fs hb0 ht
  refine ⟨some (.int k), some (.int r), ?_⟩
  refine Ey.tx (F1 := (151, 242, _, _)) (x_aload_n rfl rfl rfl) ?_
  refine Ey.tx (F1 := (151, 243, _, _)) (x_aload_n rfl rfl rfl) ?_
  refine Ey.tx (F1 := (151, 245, _, _)) (x_iload (i := 4) rfl rfl) ?_
  refine Ey.tx (F1 := (151, 246, _, _)) (x_iconst rfl) ?_
  refine Ey.tx (F1 := (151, 247, _, _)) (x_iadd rfl) ?_
  refine Ey.tx (F1 := (151, 248, _, _)) (x_iald (n := i + 1) rfl hb hpt (nI_1 i) (by omega) hf) ?_
  refine Ey.tx (F1 := (151, 249, _, _)) (x_aload_n rfl rfl rfl) ?_
  refine Ey.tr (F1 := (151, 252, _, _)) (y_callw (As := [.ref x, .int v, .ref (x + 41)]) (rest := []) wr147 rfl rfl rfl rfl (Nat.le_of_ble_eq_true rfl) hW) ?_
  refine Ey.tx (F1 := (151, 254, LL b x i (some (.int k)) p6, _)) (x_istore (i := 5) rfl (Nat.le_of_ble_eq_true rfl)) ?_
  refine Ey.tx (F1 := (151, 255, _, _)) (x_aload_n rfl rfl rfl) ?_
  refine Ey.tx (F1 := (151, 256, _, _)) (x_aload_n rfl rfl rfl) ?_
  refine Ey.tx (F1 := (151, 258, _, _)) (x_iload (i := 4) rfl rfl) ?_
  refine Ey.tx (F1 := (151, 259, _, _)) (x_iconst rfl) ?_
  refine Ey.tx (F1 := (151, 260, _, _)) (x_iadd rfl) ?_
  refine Ey.tx (F1 := (151, 261, _, _)) (x_iald (n := i + 1) rfl hb1 hpt (nI_1 i) (by omega) hf) ?_
  refine Ey.tx (F1 := (151, 264, _, _)) (x_callv (As := [.int v]) rfl rfl rfl (Or.inl rfl) rfl rfl e1 (by decide) rfl (Nat.le_of_ble_eq_true rfl) hR rfl) ?_
  refine Ey.tx (F1 := (151, 266, LL b x i (some (.int k)) (some (.int r)), _)) (x_istore (i := 6) rfl (Nat.le_of_ble_eq_true rfl)) ?_
  refine Ey.tx (F1 := (151, 267, _, _)) (x_aload_n rfl rfl rfl) ?_
  refine Ey.tx (F1 := (151, 270, _, _)) (x_callv (As := []) rfl rfl rfl (Or.inl rfl) rfl rfl e2 (by decide) rfl (Nat.le_of_ble_eq_true rfl) hT rfl) ?_
  refine Ey.tx (F1 := (151, 272, _, _)) (x_iload (i := 5) rfl rfl) ?_
  refine Ey.tx (F1 := (151, 277, _, _)) (x_icT rfl (tg := 277) rfl rfl) ?_
  by_cases hk0 : k = 0
  · refine Ey.tx (F1 := (151, 279, _, _)) (x_iload (i := 5) rfl rfl) ?_
    refine Ey.tx (F1 := (151, 282, _, _)) (x_ifF rfl (tg := 294) rfl (fun z => z hk0)) ?_
    refine Ey.tx (F1 := (151, 283, _, _)) (x_aload_n rfl rfl rfl) ?_
    refine Ey.tx (F1 := (151, 284, _, _)) (x_iconst rfl) ?_
    refine Ey.tx (F1 := (151, 285, _, _)) (x_lald (n := 0) rfl hv rfl rfl (by decide) rfl) ?_
    refine Ey.tx (F1 := (151, 287, _, _)) (x_iload (i := 6) rfl rfl) ?_
    refine Ey.tx (F1 := (151, 288, _, _)) (x_i2l rfl) ?_
    refine Ey.tx (F1 := (151, 289, _, _)) (x_lcmp rfl) ?_
    refine Ey.tx (F1 := (151, 294, _, _)) (x_ifT rfl (tg := 294) rfl (by rw [hk hk0]; exact lg_self _)) ?_
    exact Ey.of (x_goto rfl rfl)
  · refine Ey.tx (F1 := (151, 279, _, _)) (x_iload (i := 5) rfl rfl) ?_
    refine Ey.tx (F1 := (151, 294, _, _)) (x_ifT rfl (tg := 294) rfl hk0) ?_
    exact Ey.of (x_goto rfl rfl)
theorem y_297 (ht : 107 ≤ tb) (hpt : ptag tb = some .int) (hb : h.1 b = some (tb, fs)) (hb0 : h0.1 b = some (tb, fs)) (hi : i < 60000) (hf : fs[i + 1]? = some (.int v)) (hJ : Jt E h0 x 148 41 [.int v] h h2) : ∃ o5 o6, Ey E 200 (151, 297, LL b x i p5 p6, []) h (151, 453, LL b x i o5 o6, []) h2 := by
  obtain ⟨k, r, h1, u, hW, hR, hT, hv, hk, ⟨f1, e1⟩, ⟨f2, e2⟩, hs⟩ := hJ
  have hb1 := hs b tb fs hb0 ht
  refine ⟨some (.int k), some (.int r), ?_⟩
  refine Ey.tx (F1 := (151, 298, _, _)) (x_aload_n rfl rfl rfl) ?_
  refine Ey.tx (F1 := (151, 299, _, _)) (x_aload_n rfl rfl rfl) ?_
  refine Ey.tx (F1 := (151, 301, _, _)) (x_iload (i := 4) rfl rfl) ?_
  refine Ey.tx (F1 := (151, 302, _, _)) (x_iconst rfl) ?_
  refine Ey.tx (F1 := (151, 303, _, _)) (x_iadd rfl) ?_
  refine Ey.tx (F1 := (151, 304, _, _)) (x_iald (n := i + 1) rfl hb hpt (nI_1 i) (by omega) hf) ?_
  refine Ey.tx (F1 := (151, 305, _, _)) (x_aload_n rfl rfl rfl) ?_
  refine Ey.tr (F1 := (151, 308, _, _)) (y_callw (As := [.ref x, .int v, .ref (x + 41)]) (rest := []) wr148 rfl rfl rfl rfl (Nat.le_of_ble_eq_true rfl) hW) ?_
  refine Ey.tx (F1 := (151, 310, LL b x i (some (.int k)) p6, _)) (x_istore (i := 5) rfl (Nat.le_of_ble_eq_true rfl)) ?_
  refine Ey.tx (F1 := (151, 311, _, _)) (x_aload_n rfl rfl rfl) ?_
  refine Ey.tx (F1 := (151, 312, _, _)) (x_aload_n rfl rfl rfl) ?_
  refine Ey.tx (F1 := (151, 314, _, _)) (x_iload (i := 4) rfl rfl) ?_
  refine Ey.tx (F1 := (151, 315, _, _)) (x_iconst rfl) ?_
  refine Ey.tx (F1 := (151, 316, _, _)) (x_iadd rfl) ?_
  refine Ey.tx (F1 := (151, 317, _, _)) (x_iald (n := i + 1) rfl hb1 hpt (nI_1 i) (by omega) hf) ?_
  refine Ey.tx (F1 := (151, 320, _, _)) (x_callv (As := [.int v]) rfl rfl rfl (Or.inl rfl) rfl rfl e1 (by decide) rfl (Nat.le_of_ble_eq_true rfl) hR rfl) ?_
  refine Ey.tx (F1 := (151, 322, LL b x i (some (.int k)) (some (.int r)), _)) (x_istore (i := 6) rfl (Nat.le_of_ble_eq_true rfl)) ?_
  refine Ey.tx (F1 := (151, 323, _, _)) (x_aload_n rfl rfl rfl) ?_
  refine Ey.tx (F1 := (151, 326, _, _)) (x_callv (As := []) rfl rfl rfl (Or.inl rfl) rfl rfl e2 (by decide) rfl (Nat.le_of_ble_eq_true rfl) hT rfl) ?_
  refine Ey.tx (F1 := (151, 328, _, _)) (x_iload (i := 5) rfl rfl) ?_
  refine Ey.tx (F1 := (151, 333, _, _)) (x_icT rfl (tg := 333) rfl rfl) ?_
  by_cases hk0 : k = 0
  · refine Ey.tx (F1 := (151, 335, _, _)) (x_iload (i := 5) rfl rfl) ?_
    refine Ey.tx (F1 := (151, 338, _, _)) (x_ifF rfl (tg := 350) rfl (fun z => z hk0)) ?_
    refine Ey.tx (F1 := (151, 339, _, _)) (x_aload_n rfl rfl rfl) ?_
    refine Ey.tx (F1 := (151, 340, _, _)) (x_iconst rfl) ?_
    refine Ey.tx (F1 := (151, 341, _, _)) (x_lald (n := 0) rfl hv rfl rfl (by decide) rfl) ?_
    refine Ey.tx (F1 := (151, 343, _, _)) (x_iload (i := 6) rfl rfl) ?_
    refine Ey.tx (F1 := (151, 344, _, _)) (x_i2l rfl) ?_
    refine Ey.tx (F1 := (151, 345, _, _)) (x_lcmp rfl) ?_
    refine Ey.tx (F1 := (151, 350, _, _)) (x_ifT rfl (tg := 350) rfl (by rw [hk hk0]; exact lg_self _)) ?_
    exact Ey.of (x_goto rfl rfl)
  · refine Ey.tx (F1 := (151, 335, _, _)) (x_iload (i := 5) rfl rfl) ?_
    refine Ey.tx (F1 := (151, 350, _, _)) (x_ifT rfl (tg := 350) rfl hk0) ?_
    exact Ey.of (x_goto rfl rfl)
theorem y_397 (ht : 107 ≤ tb) (hpt : ptag tb = some .int) (hb : h.1 b = some (tb, fs)) (hb0 : h0.1 b = some (tb, fs)) (hi : i < 60000) (hf : fs[i + 1]? = some (.int v)) (hJ : Jt E h0 x 150 52 [.int v] h h2) : ∃ o5 o6, Ey E 200 (151, 397, LL b x i p5 p6, []) h (151, 453, LL b x i o5 o6, []) h2 := by
  obtain ⟨k, r, h1, u, hW, hR, hT, hv, hk, ⟨f1, e1⟩, ⟨f2, e2⟩, hs⟩ := hJ
  have hb1 := hs b tb fs hb0 ht
  refine ⟨some (.int k), some (.int r), ?_⟩
  refine Ey.tx (F1 := (151, 398, _, _)) (x_aload_n rfl rfl rfl) ?_
  refine Ey.tx (F1 := (151, 399, _, _)) (x_aload_n rfl rfl rfl) ?_
  refine Ey.tx (F1 := (151, 401, _, _)) (x_iload (i := 4) rfl rfl) ?_
  refine Ey.tx (F1 := (151, 402, _, _)) (x_iconst rfl) ?_
  refine Ey.tx (F1 := (151, 403, _, _)) (x_iadd rfl) ?_
  refine Ey.tx (F1 := (151, 404, _, _)) (x_iald (n := i + 1) rfl hb hpt (nI_1 i) (by omega) hf) ?_
  refine Ey.tx (F1 := (151, 405, _, _)) (x_aload_n rfl rfl rfl) ?_
  refine Ey.tr (F1 := (151, 408, _, _)) (y_callw (As := [.ref x, .int v, .ref (x + 41)]) (rest := []) wr150 rfl rfl rfl rfl (Nat.le_of_ble_eq_true rfl) hW) ?_
  refine Ey.tx (F1 := (151, 410, LL b x i (some (.int k)) p6, _)) (x_istore (i := 5) rfl (Nat.le_of_ble_eq_true rfl)) ?_
  refine Ey.tx (F1 := (151, 411, _, _)) (x_aload_n rfl rfl rfl) ?_
  refine Ey.tx (F1 := (151, 412, _, _)) (x_aload_n rfl rfl rfl) ?_
  refine Ey.tx (F1 := (151, 414, _, _)) (x_iload (i := 4) rfl rfl) ?_
  refine Ey.tx (F1 := (151, 415, _, _)) (x_iconst rfl) ?_
  refine Ey.tx (F1 := (151, 416, _, _)) (x_iadd rfl) ?_
  refine Ey.tx (F1 := (151, 417, _, _)) (x_iald (n := i + 1) rfl hb1 hpt (nI_1 i) (by omega) hf) ?_
  refine Ey.tx (F1 := (151, 420, _, _)) (x_callv (As := [.int v]) rfl rfl rfl (Or.inl rfl) rfl rfl e1 (by decide) rfl (Nat.le_of_ble_eq_true rfl) hR rfl) ?_
  refine Ey.tx (F1 := (151, 422, LL b x i (some (.int k)) (some (.int r)), _)) (x_istore (i := 6) rfl (Nat.le_of_ble_eq_true rfl)) ?_
  refine Ey.tx (F1 := (151, 423, _, _)) (x_aload_n rfl rfl rfl) ?_
  refine Ey.tx (F1 := (151, 426, _, _)) (x_callv (As := []) rfl rfl rfl (Or.inl rfl) rfl rfl e2 (by decide) rfl (Nat.le_of_ble_eq_true rfl) hT rfl) ?_
  refine Ey.tx (F1 := (151, 428, _, _)) (x_iload (i := 5) rfl rfl) ?_
  refine Ey.tx (F1 := (151, 433, _, _)) (x_icT rfl (tg := 433) rfl rfl) ?_
  by_cases hk0 : k = 0
  · refine Ey.tx (F1 := (151, 435, _, _)) (x_iload (i := 5) rfl rfl) ?_
    refine Ey.tx (F1 := (151, 438, _, _)) (x_ifF rfl (tg := 450) rfl (fun z => z hk0)) ?_
    refine Ey.tx (F1 := (151, 439, _, _)) (x_aload_n rfl rfl rfl) ?_
    refine Ey.tx (F1 := (151, 440, _, _)) (x_iconst rfl) ?_
    refine Ey.tx (F1 := (151, 441, _, _)) (x_lald (n := 0) rfl hv rfl rfl (by decide) rfl) ?_
    refine Ey.tx (F1 := (151, 443, _, _)) (x_iload (i := 6) rfl rfl) ?_
    refine Ey.tx (F1 := (151, 444, _, _)) (x_i2l rfl) ?_
    refine Ey.tx (F1 := (151, 445, _, _)) (x_lcmp rfl) ?_
    refine Ey.tx (F1 := (151, 450, _, _)) (x_ifT rfl (tg := 450) rfl (by rw [hk hk0]; exact lg_self _)) ?_
    exact Ey.of (x_goto rfl rfl)
  · refine Ey.tx (F1 := (151, 435, _, _)) (x_iload (i := 5) rfl rfl) ?_
    refine Ey.tx (F1 := (151, 450, _, _)) (x_ifT rfl (tg := 450) rfl hk0) ?_
    exact Ey.of (x_goto rfl rfl)
theorem y_84 {r : Int32} {f1 f2 : List Value} (hpt : ptag tb = some .int) (hb : h.1 b = some (tb, fs)) (hb1 : h1.1 b = some (tb, fs)) (hi : i < 60000) (hf : fs[i + 1]? = some (.int v)) (e0 : h.1 x = some (9, f1)) (e1 : h1.1 (x + 15) = some (10, f2)) (hC : Rn E 199 54 [.ref x, .int v] h (some (.int r)) h1) (hR : Rn E 199 2 [.ref (x + 15), .int v] h1 (some (.int r)) h2) : Ey E 200 (151, 84, LL b x i p5 p6, []) h (151, 453, LL b x i p5 p6, []) h2 := by
  refine Ey.tx (F1 := (151, 85, _, _)) (x_aload_n rfl rfl rfl) ?_
  refine Ey.tx (F1 := (151, 86, _, _)) (x_aload_n rfl rfl rfl) ?_
  refine Ey.tx (F1 := (151, 88, _, _)) (x_iload (i := 4) rfl rfl) ?_
  refine Ey.tx (F1 := (151, 89, _, _)) (x_iconst rfl) ?_
  refine Ey.tx (F1 := (151, 90, _, _)) (x_iadd rfl) ?_
  refine Ey.tx (F1 := (151, 91, _, _)) (x_iald (n := i + 1) rfl hb hpt (nI_1 i) (by omega) hf) ?_
  refine Ey.tx (F1 := (151, 94, _, _)) (x_callv (As := [.int v]) rfl rfl rfl (Or.inl rfl) rfl rfl e0 (by decide) rfl (Nat.le_of_ble_eq_true rfl) hC rfl) ?_
  refine Ey.tx (F1 := (151, 95, _, _)) (x_aload_n rfl rfl rfl) ?_
  refine Ey.tx (F1 := (151, 96, _, _)) (x_aload_n rfl rfl rfl) ?_
  refine Ey.tx (F1 := (151, 98, _, _)) (x_iload (i := 4) rfl rfl) ?_
  refine Ey.tx (F1 := (151, 99, _, _)) (x_iconst rfl) ?_
  refine Ey.tx (F1 := (151, 100, _, _)) (x_iadd rfl) ?_
  refine Ey.tx (F1 := (151, 101, _, _)) (x_iald (n := i + 1) rfl hb1 hpt (nI_1 i) (by omega) hf) ?_
  refine Ey.tx (F1 := (151, 104, _, _)) (x_callv (As := [.int v]) (rest := [.int r]) rfl rfl rfl (Or.inl rfl) rfl rfl e1 (by decide) rfl (Nat.le_of_ble_eq_true rfl) hR rfl) ?_
  exact Ey.of (x_icT rfl (tg := 453) rfl rfl)
end M99
