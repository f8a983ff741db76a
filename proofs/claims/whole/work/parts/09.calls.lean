/-! ===== calls: a method's run ===== -/
theorem parr.moved {u U : State} {cA : ClassId} {ty : FieldType} (hvm : u.vm.Alike U.vm) (h : parr u cA ty) : parr U cA ty := by
  obtain ⟨kA, comp, h1, h2, h3⟩ := h
  obtain ⟨k', hk', he⟩ := hvm.2.2 _ _ h1
  exact ⟨k', comp, hk', by rw [he]; exact h2, fun C hC => by rw [hvm.findClass]; exact h3 C hC⟩
theorem PK.moved {E : PE} {D : PD} {u U : State} (hW : u.WarmedH U.vm) (hk : ∀ q : Nat, q < u.heap.size → ¬ E.1 ≤ q → U.heap[q]? = u.heap[q]?) (h : PK E D u) : PK E D U := by
  have hvm := hW.alike
  obtain ⟨h1, h2, h3, h4, h5, h6, h7, h8, h9, h10, h11, h12, h13, h14⟩ := h
  exact ⟨va_K.moved hvm h1, fun j ty hj => (h2 j ty hj).moved hvm, fun j ty hj hj7 => by rw [hvm.findClass]; exact h3 j ty hj hj7,
    (h4.moved hvm).kept hk, (h5.moved hvm).kept hk, (h6.moved hvm).kept hk, h7.moved hvm, h8, h9.moved hvm, fun j C hj hj7 => (h10 j C hj hj7).moved hvm,
    fun q hq => (h11 q hq).warmM hW, h12.warmF hW, h13.warmF hW, h14.warmC hW⟩
/-- the word of a method's code, its room -/
def mwd (k : Nat) : Jvm.Cond := Jvm.Cond.code (mnam k) (mbyt k) (mmax k) (mret k)
def rmd (d mc ms : Nat) : Room := { frames := d + 8, cells := mc, slots := ms, locals := 40 * d + 200 }
/-- the locals with which a method begins -/
def pent0 : List Value → PL
  | [] => []
  | v :: vs => if v.category = 2 then some v :: none :: pent0 vs else some v :: pent0 vs
def pent (vs : List Value) (n : Nat) : PL := pent0 vs ++ List.replicate (n - (pent0 vs).length) none
theorem pent0_len (vs : List Value) : (pent0 vs).length = (lg_sl vs).length := by
  induction vs with
  | nil => rfl
  | cons v vs ih =>
    unfold pent0
    split
    next hc =>
      rw [List.length_cons, List.length_cons, ih]
      simp [lg_sl, hc]
    next hc =>
      rw [List.length_cons, ih]
      simp [lg_sl, hc]
theorem pent0_args (vs : List Value) : ∀ (i0 i : Nat) (v : Value), (pent0 vs)[i]? = some (some v) → (i0 + i, v) ∈ lv_args i0 vs := by
  induction vs with
  | nil => intro i0 i v h; simp [pent0] at h
  | cons w vs ih =>
    intro i0 i v h
    unfold pent0 at h
    unfold lv_args
    split at h
    next hc =>
      cases i with
      | zero => simp at h; subst h; exact List.mem_cons_self
      | succ i =>
        cases i with
        | zero => simp at h
        | succ i =>
          simp only [List.getElem?_cons_succ] at h
          rw [if_pos hc]
          have := ih (i0 + 2) i v h
          rw [show i0 + (i + 1 + 1) = i0 + 2 + i by omega]
          exact List.mem_cons_of_mem _ this
    next hc =>
      cases i with
      | zero => simp at h; subst h; exact List.mem_cons_self
      | succ i =>
        simp only [List.getElem?_cons_succ] at h
        rw [if_neg hc]
        have := ih (i0 + 1) i v h
        rw [show i0 + (i + 1) = i0 + 1 + i by omega]
        exact List.mem_cons_of_mem _ this
theorem pent_rel (vs : List Value) {n : Nat} (h : (pent0 vs).length ≤ n) : lrel ((lg_sl vs ++ List.replicate (n - (lg_sl vs).length) Slot.unset).toArray) (pent vs n) := by
  have hE := lv_entry vs (n := n) (by rw [← pent0_len]; exact h)
  refine ⟨?_, hE.2.1, fun i v hi => ?_⟩
  · rw [hE.1]
    unfold pent
    rw [List.length_append, List.length_replicate]
    omega
  · unfold pent at hi
    have hi2 : (pent0 vs)[i]? = some (some v) := by
      by_cases hl : i < (pent0 vs).length
      · rw [List.getElem?_append_left hl] at hi
        exact hi
      · rw [List.getElem?_append_right (by omega)] at hi
        have := List.mem_of_getElem? hi
        rw [List.mem_replicate] at this
        cases this.2
    have := pent0_args vs 0 i v hi2
    rw [Nat.zero_add] at this
    exact hE.2.2 _ this
/-- a method's end -/
def pret (m : Nat) (i : Instr) (st : List Value) (v : Option Value) : Prop :=
  (i = .return_ ∧ mret m = none ∧ st = [] ∧ v = none) ∨
  (i = .ireturn ∧ ∃ (x : Int32) (ty : FieldType), mret m = some ty ∧ narrow ty (.int x) = .int x ∧ st = [.int x] ∧ v = some (.int x)) ∨
  (i = .lreturn ∧ mret m = some .long ∧ ∃ x : Int64, st = [.long x] ∧ v = some (.long x)) ∨
  (i = .areturn ∧ ∃ (rt : FieldType) (w : Value), mret m = some rt ∧ ((∃ n, rt = .object n) ∨ ∃ t, rt = .array t) ∧ (w = .null ∨ ∃ a, w = .ref a) ∧ st = [w] ∧ v = some w)
/-- the method m, called with As over h, answers v over h' -/
def Rn (E : PE) (d m : Nat) (As : List Value) (h : PH) (v : Option Value) (h' : PH) : Prop :=
  (pent0 As).length ≤ mmax m ∧ ∃ (pc : Nat) (L : PL) (st : List Value) (i : Instr), Ex E d (m, 0, pent As (mmax m), []) h (m, pc, L, st) h' ∧ pin m pc = some (i, 1) ∧ pret m i st v
def pPre (E : PE) (D : PD) (As : List Value) (h : PH) : Array Value → State → Prop := va_Pc As (fun U => prep E D h U.heap ∧ PK E D U ∧ E.1 ≤ U.heap.size)
def pPost (E : PE) (D : PD) (v : Option Value) (h' : PH) : Array Value → State → Outcome → State → Prop := fun _ st oc t => oc = .returned v ∧ prep E D h' t.heap ∧ va_F (fun q => E.1 ≤ q) st t
def mkp (k : Nat) : Bool := decide (k < 144 ∧ k ≠ 122 ∧ k ≠ 123)
theorem gt_good {w : Jvm.Cond} (h : w ∈ gtbl) : goodWord w = true := (List.mem_filter.mp h).2
theorem mk_ok {k : Nat} (hk : mkp k = true) : mwd k ∈ gtbl ∧ Jvm.Cond.initialized (mnam k).cls ∈ gtbl ∧ (mnam k).cls = mown k ∧ Jvm.plainName (mnam k).cls = true ∧ mmax k ≤ 15 ∧ ((mnam k).cls ≠ "java/lang/invoke/MethodHandle" ∧ (mnam k).cls ≠ "java/lang/invoke/VarHandle") ∧
    (parseMethodDescriptor (mnam k).desc).map (fun d => d.parameters.length) = some (if (mkd k).1 = 0 then marg k else marg k - 1) ∧ ((mkd k).1 = 0 ∨ 0 < marg k) ∧
    ((mkd k).1 = 0 → Jvm.Cond.static (mnam k) ∈ gtbl) ∧ ((mkd k).1 ≠ 0 → Jvm.Cond.instanceMethod (mnam k) ∈ gtbl) ∧ ((mkd k).1 = 1 ∨ (mkd k).1 = 3 → Jvm.Cond.selects (mnam k).cls (mnam k) (mnam k) ∈ gtbl) ∧ ((mkd k).1 = 2 → (mnam k).name = "<init>" ∧ mret k = none) := by
  unfold mkp at hk
  obtain ⟨h1, h2, h3⟩ := of_decide_eq_true hk
  have h := mkc_all h1
  unfold mkc at h
  have h0 : decide (k = 122 ∨ k = 123) = false := decide_eq_false (fun q => q.elim h2 h3)
  rw [h0, Bool.false_or] at h
  simp only [Bool.and_eq_true, decide_eq_true_eq] at h
  obtain ⟨⟨⟨⟨⟨⟨⟨⟨⟨g1, g2⟩, g3⟩, g4⟩, g5⟩, g6⟩, g7⟩, g8⟩, g9⟩, g10⟩ := h
  refine ⟨gt_tab _ g1 rfl, gt_tab _ g2 rfl, g3, g4, g5, g6, g7, g8, fun q => ?_, fun q => ?_, fun q => ?_, fun q => ?_⟩
  · rw [if_pos q] at g9
    exact gt_tab _ (of_decide_eq_true g9) rfl
  · rw [if_neg q] at g9
    exact gt_tab _ (of_decide_eq_true g9) rfl
  · rcases q with q | q
    · rw [if_pos q] at g10
      exact gt_tab _ (of_decide_eq_true g10) rfl
    · rw [if_neg (by omega), if_pos q] at g10
      exact gt_sel _ (of_decide_eq_true g10) rfl
  · rw [if_neg (by omega), if_neg (by omega), if_pos q] at g10
    exact of_decide_eq_true g10
theorem gt_in {k : Nat} (hk : mkp k = true) : GoodIn gtbl (mwd k :: gtbl) := by
  intro w hw
  rcases List.mem_cons.mp hw with rfl | h
  · exact ⟨(mk_ok hk).1, good_of_word (gt_good (mk_ok hk).1)⟩
  · exact ⟨h, good_of_word (gt_good h)⟩
theorem pPre.blind {E : PE} {D : PD} {As : List Value} {h : PH} : FrameBlind (pPre E D As h) := fun a U g mk q => by
  obtain ⟨q0, q1, q2, q3⟩ := q
  exact ⟨q0, q1, PK.moved (u := U) (U := U.calling g mk a) (State.WarmedH.refl U) (fun _ _ _ => rfl) q2, q3⟩
set_option maxHeartbeats 1000000 in
theorem Rn.met {E : PE} {d k : Nat} {As : List Value} {h h' : PH} {v : Option Value} (l : Launch) (D : PD) (hk : mkp k = true) (hr : Rn E d k As h v h') :
    Met l (mnam k) (mwd k :: gtbl) (rmd d (h'.2.1 - h.2.1) (h'.2.2 - h.2.2)) (pPre E D As h) (pPost E D v h') (h'.2.1 - h.2.1) (h'.2.2 - h.2.2) (fun q => E.1 ≤ q) := by
  obtain ⟨hlen, pc, L, st, i, hex, hpin, hret⟩ := hr
  obtain ⟨hX1, hX2, hX3, hX4, hX5⟩ := hex
  refine Met.ofW (cc := mbyt k) (maxL := mmax k) (ret := mret k) (mk_ok hk).2.2.2.1 rfl ?_
  intro p e s m args below meth c s₁ B hml hv
  obtain ⟨rfl, hP, hK, hE⟩ := hv
  have hx := B.exec
  have hb := B.bytes
  have hr := B.returns
  have hlocks := B.notSynchronized
  have hts := atoms_spec (ws := mwd k :: gtbl) B.pre
  have hown : s.vm.findClass (mnam k).cls = some m.cls := findClass_of_methodNamed B.named
  rw [lg_entry_eq]
  have hF : PFit E D p (headSpec (mwd k :: gtbl) (rmd d (h'.2.1 - h.2.1) (h'.2.2 - h.2.2))).room s m As.toArray meth c k d :=
    ⟨hx, hb, hml, by rw [← (mk_ok hk).2.2.1]; exact hown, fun w hw => hts w (List.mem_cons_of_mem _ hw), (name_of_methodNamed B.named B.method).1, Nat.le_refl _, Nat.le_refl _, hK, hE⟩
  have key := hX5 D p l e (headSpec (mwd k :: gtbl) (rmd d (h'.2.1 - h.2.1) (h'.2.2 - h.2.2))).room s m As.toArray below meth c (MQ below (pPost E D v h') As.toArray s (h'.2.1 - h.2.1) (h'.2.2 - h.2.2) (fun q => E.1 ≤ q)) h.2.1 h.2.2 s.heap [] _ hF (Nat.le_refl _) (Nat.le_refl _) (Nat.le_refl _) (Nat.le_refl _) hP va_S.rf (by
      show (pent As (mmax k)).length = mmax k
      unfold pent
      rw [List.length_append, List.length_replicate]
      omega) (pent_rel As hlen) (fun H' locs' ls' hP' hS' _ => ?_)
  · rw [Nat.sub_self, Nat.sub_self] at key
    exact key
  · have hq : ∀ w, w = v → ∀ t : State, t.heap = H' → s.WarmedH t.vm → pPost E D v h' As.toArray s (.returned w) t := fun w hw t ht _ => ⟨by rw [hw], by rw [ht]; exact hP', hS'.F ht⟩
    rcases hret with ⟨rfl, h1, rfl, rfl⟩ | ⟨rfl, x, ty, h1, h2, rfl, rfl⟩ | ⟨rfl, h1, x, rfl, rfl⟩ | ⟨rfl, rt, w, h1, h2, h3, rfl, rfl⟩
    · exact W.vret hx hb (hr.trans h1) (hq _ rfl) hS'.2.2 (pin_dec hpin)
    · exact W.zret hx hb (hr.trans h1) h2 (hq _ rfl) hS'.2.2 (pin_dec hpin)
    · exact W.lret hx hb (hr.trans h1) (hq _ rfl) hS'.2.2 (pin_dec hpin)
    · exact W.aret hx hb (hr.trans h1) h2 h3 (hq _ rfl) hS'.2.2 (pin_dec hpin)
/-- a call whose run the kit gives -/
theorem Ex.call {E : PE} {d mi pc k : Nat} {L : PL} {st st1 rest As : List Value} {h h1 : PH} {v : Option Value} (hst : st1 = v.toList ++ rest) (hk : mkp k = true) (hr : Rn E d k As h v h1)
    (run : ∀ (D : PD) (p : Program) (l : Launch) (e : Env) (R : Room) (s : State) (m : MethodId) (args : Array Value) (below : List Frame) (meth : Method) (c : Code) (H : Heap) (locs : List Loc) (cells slots : Nat) (ls : Array Slot),
      PFit E D p R s m args meth c mi (d + 1) → prep E D h H → va_S (fun q => E.1 ≤ q) s.heap H locs → ls.size = mmax mi → cells + (h1.2.1 - h.2.1) ≤ R.cells ∧ slots + (h1.2.2 - h.2.2) ≤ R.slots →
      Met l (mnam k) (mwd k :: gtbl) (rmd d (h1.2.1 - h.2.1) (h1.2.2 - h.2.2)) (pPre E D As h) (pPost E D v h1) (h1.2.1 - h.2.1) (h1.2.2 - h.2.2) (fun q => E.1 ≤ q) →
      (∀ U : State, U.heap = H → s.WarmedH U.vm → pPre E D As h As.toArray U) →
      va_Run p l e R s m args below meth c H locs cells slots (h1.2.1 - h.2.1) (h1.2.2 - h.2.2) (F0 m pc ls st) rest (pPost E D v h1 As.toArray) (fun q => E.1 ≤ q)) :
    Ex E (d + 1) (mi, pc, L, st) h (mi, pc + 3, L, st1) h1 := by
  have hmono := hr.2
  obtain ⟨pc0, L0, st0, i0, ⟨-, -, hn1, hn2, -⟩, -, -⟩ := hmono
  refine ⟨rfl, rfl, hn1, hn2, ?_⟩
  intro D p l e R s m args below meth c Q en es H locs ls hF he1 he2 hc hs hP hS hm hl kk
  have hc : h1.2.1 - en ≤ R.cells := hc
  have hs : h1.2.2 - es ≤ R.slots := hs
  have hn1 : h.2.1 ≤ h1.2.1 := hn1
  have hn2 : h.2.2 ≤ h1.2.2 := hn2
  have hr0 := run D p l e R s m args below meth c H locs (h.2.1 - en) (h.2.2 - es) ls hF hP hS (hl.1.trans hm) ⟨by omega, by omega⟩ (hr.met l D hk)
    (fun U hU hW => ⟨rfl, by rw [hU]; exact hP, PK.moved hW (fun q h1 h2 => by rw [hU]; exact hS.2.1 q h1 h2) hF.2.2.2.2.2.2.2.2.1, by rw [hU]; exact hF.S hS⟩)
  intro T hT X
  obtain ⟨v', st₀, t, T', Ls, h0, X', hL, e1, e2, ⟨hv, hP', hz, hkp⟩, stp⟩ := hr0 T hT X
  have hv : v' = v := Outcome.returned.inj hv
  subst hv
  rw [h0] at hz hkp
  have e3 : h.2.1 - en + (h1.2.1 - h.2.1) = h1.2.1 - en := by omega
  have e4 : h.2.2 - es + (h1.2.2 - h.2.2) = h1.2.2 - es := by omega
  rw [e3, e4] at X'
  obtain ⟨t2, a1, b1⟩ := kk T'.heap (locs ++ Ls) ls (by rw [e1]; exact hP') ⟨Nat.le_trans hS.1 (by rw [e1]; exact hz), fun q g1 g2 => by rw [e1, hkp q (Nat.lt_of_lt_of_le g1 hS.1) g2]; exact hS.2.1 q g1 g2, fun q hq => by
      rcases List.mem_append.mp hq with g | g
      · exact hS.2.2 q g
      · exact hL q g⟩ hl T' rfl X'
  refine ⟨t2, stp t2 ?_, b1⟩
  rw [← hst]
  exact a1
