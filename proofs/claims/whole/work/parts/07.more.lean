/-! ===== branches, stores to locals ===== -/
def pcc : Jvm.ClassFile.Cond → Int32 → Int32 → Prop
  | .eq, x, y => x = y
  | .ne, x, y => ¬ x = y
  | .lt, x, y => x < y
  | .ge, x, y => y ≤ x
  | .gt, x, y => y < x
  | .le, x, y => x ≤ y
section XB
variable {E : PE} {d mi pc : Nat} {L : PL} {st : List Value} {h : PH}
theorem x_ifT {cn : Jvm.ClassFile.Cond} {off : Int} {tg : Nat} {x : Int32} (hi : pin mi pc = some (.ifCond cn off, 3)) (ht : (pc : Int) + off = (tg : Int)) (hc : pcc cn x 0) : Ex E d (mi, pc, L, .int x :: st) h (mi, tg, L, st) h :=
  Ex.go (fun D p l e R s m args below meth c Q H locs cells slots ls hF hl _ _ k => by
    cases cn
    · exact lv_if_eq hF.1 hF.2.1 (pin_dec hi) ht (fun _ => k) (fun q => absurd hc q)
    · exact lv_if_ne hF.1 hF.2.1 (pin_dec hi) ht (fun _ => k) (fun q => absurd q hc)
    · exact lv_if_lt hF.1 hF.2.1 (pin_dec hi) ht (fun _ => k) (fun q => absurd hc q)
    · exact lv_if_ge hF.1 hF.2.1 (pin_dec hi) ht (fun _ => k) (fun q => absurd hc q)
    · exact lv_if_gt hF.1 hF.2.1 (pin_dec hi) ht (fun _ => k) (fun q => absurd hc q)
    · exact lv_if_le hF.1 hF.2.1 (pin_dec hi) ht (fun _ => k) (fun q => absurd hc q))
theorem x_ifF {cn : Jvm.ClassFile.Cond} {off : Int} {tg : Nat} {x : Int32} (hi : pin mi pc = some (.ifCond cn off, 3)) (ht : (pc : Int) + off = (tg : Int)) (hc : ¬ pcc cn x 0) : Ex E d (mi, pc, L, .int x :: st) h (mi, pc + 3, L, st) h :=
  Ex.go (fun D p l e R s m args below meth c Q H locs cells slots ls hF hl _ _ k => by
    cases cn
    · exact lv_if_eq hF.1 hF.2.1 (pin_dec hi) ht (fun q => absurd q hc) (fun _ => k)
    · exact lv_if_ne hF.1 hF.2.1 (pin_dec hi) ht (fun q => absurd q hc) (fun _ => k)
    · exact lv_if_lt hF.1 hF.2.1 (pin_dec hi) ht (fun q => absurd q hc) (fun _ => k)
    · exact lv_if_ge hF.1 hF.2.1 (pin_dec hi) ht (fun q => absurd q hc) (fun _ => k)
    · exact lv_if_gt hF.1 hF.2.1 (pin_dec hi) ht (fun q => absurd q hc) (fun _ => k)
    · exact lv_if_le hF.1 hF.2.1 (pin_dec hi) ht (fun q => absurd q hc) (fun _ => k))
theorem x_icT {cn : Jvm.ClassFile.Cond} {off : Int} {tg : Nat} {x y : Int32} (hi : pin mi pc = some (.if_icmp cn off, 3)) (ht : (pc : Int) + off = (tg : Int)) (hc : pcc cn x y) : Ex E d (mi, pc, L, .int y :: .int x :: st) h (mi, tg, L, st) h :=
  Ex.go (fun D p l e R s m args below meth c Q H locs cells slots ls hF hl _ _ k => by
    cases cn
    · exact lv_icmp_eq hF.1 hF.2.1 (pin_dec hi) ht (fun _ => k) (fun q => absurd hc q)
    · exact lv_icmp_ne hF.1 hF.2.1 (pin_dec hi) ht (fun _ => k) (fun q => absurd q hc)
    · exact lv_icmp_lt hF.1 hF.2.1 (pin_dec hi) ht (fun _ => k) (fun q => absurd hc q)
    · exact lv_icmp_ge hF.1 hF.2.1 (pin_dec hi) ht (fun _ => k) (fun q => absurd hc q)
    · exact lv_icmp_gt hF.1 hF.2.1 (pin_dec hi) ht (fun _ => k) (fun q => absurd hc q)
    · exact lv_icmp_le hF.1 hF.2.1 (pin_dec hi) ht (fun _ => k) (fun q => absurd hc q))
theorem x_icF {cn : Jvm.ClassFile.Cond} {off : Int} {tg : Nat} {x y : Int32} (hi : pin mi pc = some (.if_icmp cn off, 3)) (ht : (pc : Int) + off = (tg : Int)) (hc : ¬ pcc cn x y) : Ex E d (mi, pc, L, .int y :: .int x :: st) h (mi, pc + 3, L, st) h :=
  Ex.go (fun D p l e R s m args below meth c Q H locs cells slots ls hF hl _ _ k => by
    cases cn
    · exact lv_icmp_eq hF.1 hF.2.1 (pin_dec hi) ht (fun q => absurd q hc) (fun _ => k)
    · exact lv_icmp_ne hF.1 hF.2.1 (pin_dec hi) ht (fun q => absurd q hc) (fun _ => k)
    · exact lv_icmp_lt hF.1 hF.2.1 (pin_dec hi) ht (fun q => absurd q hc) (fun _ => k)
    · exact lv_icmp_ge hF.1 hF.2.1 (pin_dec hi) ht (fun q => absurd q hc) (fun _ => k)
    · exact lv_icmp_gt hF.1 hF.2.1 (pin_dec hi) ht (fun q => absurd q hc) (fun _ => k)
    · exact lv_icmp_le hF.1 hF.2.1 (pin_dec hi) ht (fun q => absurd q hc) (fun _ => k))
theorem x_nullT {off : Int} {tg : Nat} (hi : pin mi pc = some (.ifnull off, 3)) (ht : (pc : Int) + off = (tg : Int)) : Ex E d (mi, pc, L, .null :: st) h (mi, tg, L, st) h :=
  Ex.go (fun D p l e R s m args below meth c Q H locs cells slots ls hF hl _ _ k => lv_ifnullN hF.1 hF.2.1 (pin_dec hi) ht k)
theorem x_nullF {off : Int} {a : Nat} (hi : pin mi pc = some (.ifnull off, 3)) : Ex E d (mi, pc, L, .ref a :: st) h (mi, pc + 3, L, st) h :=
  Ex.go (fun D p l e R s m args below meth c Q H locs cells slots ls hF hl _ _ k => lv_ifnull hF.1 hF.2.1 (pin_dec hi) k)
theorem x_nnullT {off : Int} {tg a : Nat} (hi : pin mi pc = some (.ifnonnull off, 3)) (ht : (pc : Int) + off = (tg : Int)) : Ex E d (mi, pc, L, .ref a :: st) h (mi, tg, L, st) h :=
  Ex.go (fun D p l e R s m args below meth c Q H locs cells slots ls hF hl _ _ k => lv_ifnonnull hF.1 hF.2.1 (pin_dec hi) ht k)
theorem x_nnullF {off : Int} (hi : pin mi pc = some (.ifnonnull off, 3)) : Ex E d (mi, pc, L, .null :: st) h (mi, pc + 3, L, st) h :=
  Ex.go (fun D p l e R s m args below meth c Q H locs cells slots ls hF hl _ _ k => lv_ifnonnullN hF.1 hF.2.1 (pin_dec hi) k)
theorem x_acmpT {cn : Jvm.ClassFile.ACond} {off : Int} {tg : Nat} {x y : Option Nat} (hi : pin mi pc = some (.if_acmp cn off, 3)) (ht : (pc : Int) + off = (tg : Int)) (hc : (x = y) = (cn = .eq)) : Ex E d (mi, pc, L, va_rf y :: va_rf x :: st) h (mi, tg, L, st) h :=
  Ex.go (fun D p l e R s m args below meth c Q H locs cells slots ls hF hl _ _ k => by
    cases cn
    · exact lv_acmp_eq hF.1 hF.2.1 (pin_dec hi) ht (fun _ => k) (fun q => absurd (hc.mpr rfl) q)
    · exact lv_acmp_ne hF.1 hF.2.1 (pin_dec hi) ht (fun _ => k) (fun q => by
        first
          | exact absurd (fun z => by cases hc.mp z) q
          | (have q2 := Classical.byContradiction q; cases hc.mp q2)
          | (cases hc.mp q)))
theorem x_tswIn {df lo hi0 off : Int} {offs : Array Int} {len tg : Nat} {x : Int32} (hi : pin mi pc = some (.tableswitch df lo hi0 offs, len)) (h1 : ¬ x.toInt < lo) (h2 : ¬ hi0 < x.toInt) (ho : offs[(x.toInt - lo).toNat]? = some off) (ht : (pc : Int) + off = (tg : Int)) : Ex E d (mi, pc, L, .int x :: st) h (mi, tg, L, st) h :=
  Ex.go (fun D p l e R s m args below meth c Q H locs cells slots ls hF hl _ _ k => lv_tableIn hF.1 hF.2.1 (pin_dec hi) h1 h2 ho ht k)
theorem x_tswOut {df lo hi0 : Int} {offs : Array Int} {len tg : Nat} {x : Int32} (hi : pin mi pc = some (.tableswitch df lo hi0 offs, len)) (h1 : x.toInt < lo ∨ hi0 < x.toInt) (ht : (pc : Int) + df = (tg : Int)) : Ex E d (mi, pc, L, .int x :: st) h (mi, tg, L, st) h :=
  Ex.go (fun D p l e R s m args below meth c Q H locs cells slots ls hF hl _ _ k => lv_tableOut hF.1 hF.2.1 (pin_dec hi) h1 ht k)
end XB
/-- the known locals as the kit's rows take them -/
def pal (L : PL) : List (Nat × Value) := (List.range L.length).filterMap (fun i => match L[i]? with
  | some (some v) => some (i, v)
  | _ => none)
theorem pal_mem {L : PL} {i : Nat} {v : Value} : (i, v) ∈ pal L ↔ L[i]? = some (some v) := by
  unfold pal
  rw [List.mem_filterMap]
  constructor
  · rintro ⟨j, -, hj⟩
    split at hj
    next w hw => cases hj; exact hw
    next => cases hj
  · intro hv
    refine ⟨i, List.mem_range.mpr (List.getElem?_eq_some_iff.mp hv).1, ?_⟩
    rw [hv]
theorem lrel.al {ls : Array Slot} {L : PL} (h : lrel ls L) : lv_has ls L.length (pal L) := ⟨h.1, h.2.1, fun q hq => h.2.2 q.1 q.2 (pal_mem.mp hq)⟩
def pclr (L : PL) (i : Nat) : PL := match i with
  | 0 => L
  | j + 1 => match L[j]? with
    | some (some (.long _)) => L.set j none
    | some (some (.double _)) => L.set j none
    | _ => L
def pst1 (L : PL) (i : Nat) (v : Value) : PL := (pclr L i).set i (some v)
def pst2 (L : PL) (i : Nat) (v : Value) : PL := ((pclr L i).set i (some v)).set (i + 1) none
theorem pclr_len (L : PL) (i : Nat) : (pclr L i).length = L.length := by
  unfold pclr
  split
  · rfl
  · split <;> simp
theorem pclr_at {L : PL} {i j : Nat} {v : Value} (h : (pclr L i)[j]? = some (some v)) : L[j]? = some (some v) ∧ ¬ (j + 1 = i ∧ v.category = 2) := by
  unfold pclr at h
  split at h
  · exact ⟨h, fun q => by omega⟩
  · rename_i j0
    split at h
    next x hx =>
      by_cases e : j = j0
      · subst e
        rw [List.getElem?_set_self (List.getElem?_eq_some_iff.mp hx).1] at h
        cases h
      · rw [List.getElem?_set_ne (Ne.symm e)] at h
        exact ⟨h, fun q => e (by omega)⟩
    next x hx =>
      by_cases e : j = j0
      · subst e
        rw [List.getElem?_set_self (List.getElem?_eq_some_iff.mp hx).1] at h
        cases h
      · rw [List.getElem?_set_ne (Ne.symm e)] at h
        exact ⟨h, fun q => e (by omega)⟩
    next h1 h2 =>
      refine ⟨h, fun q => ?_⟩
      have e : j = j0 := by omega
      subst e
      cases v with
      | long x => exact h1 x h
      | double x => exact h2 x h
      | _ => cases q.2
theorem lrel.st1 {ls' : Array Slot} {L : PL} {i : Nat} {v : Value} (hi : i < L.length) (h : lv_has ls' L.length ((i, v) :: (pal L).filter (fun q => !(q.1 == i) && !(q.1 + 1 == i && q.2.category == 2)))) : lrel ls' (pst1 L i v) := by
  refine ⟨by unfold pst1; rw [List.length_set, pclr_len]; exact h.1, h.2.1, fun j w hj => ?_⟩
  unfold pst1 at hj
  by_cases e : j = i
  · subst e
    rw [List.getElem?_set_self (by rw [pclr_len]; exact hi)] at hj
    cases hj
    exact h.2.2 _ List.mem_cons_self
  · rw [List.getElem?_set_ne (Ne.symm e)] at hj
    obtain ⟨h1, h2⟩ := pclr_at hj
    refine h.2.2 (j, w) (List.mem_cons_of_mem _ (List.mem_filter.mpr ⟨pal_mem.mpr h1, ?_⟩))
    by_cases e2 : j + 1 = i
    · have e3 : ¬ w.category = 2 := fun q => h2 ⟨e2, q⟩
      simp [e, e3]
    · simp [e, e2]
theorem lrel.st2 {ls' : Array Slot} {L : PL} {i : Nat} {v : Value} (hi : i + 1 < L.length) (h : lv_has ls' L.length ((i, v) :: (pal L).filter (fun q => !(q.1 == i) && (!(q.1 == i + 1) && !(q.1 + 1 == i && q.2.category == 2))))) : lrel ls' (pst2 L i v) := by
  refine ⟨by unfold pst2; rw [List.length_set, List.length_set, pclr_len]; exact h.1, h.2.1, fun j w hj => ?_⟩
  unfold pst2 at hj
  by_cases e1 : j = i + 1
  · subst e1
    rw [List.getElem?_set_self (by rw [List.length_set, pclr_len]; exact hi)] at hj
    cases hj
  · rw [List.getElem?_set_ne (Ne.symm e1)] at hj
    by_cases e : j = i
    · subst e
      rw [List.getElem?_set_self (by rw [pclr_len]; omega)] at hj
      cases hj
      exact h.2.2 _ List.mem_cons_self
    · rw [List.getElem?_set_ne (Ne.symm e)] at hj
      obtain ⟨h1, h2⟩ := pclr_at hj
      refine h.2.2 (j, w) (List.mem_cons_of_mem _ (List.mem_filter.mpr ⟨pal_mem.mpr h1, ?_⟩))
      by_cases e2 : j + 1 = i
      · have e3 : ¬ w.category = 2 := fun q => h2 ⟨e2, q⟩
        simp [e, e1, e3]
      · simp [e, e1, e2]
theorem Ex.goL {E : PE} {d mi pc pc' : Nat} {L L' : PL} {st st' : List Value} {h : PH} (hn : L'.length = L.length)
    (k : ∀ (D : PD) (p : Program) (l : Launch) (e : Env) (R : Room) (s : State) (m : MethodId) (args : Array Value) (below : List Frame) (meth : Method) (c : Code) (Q : State → Prop) (H : Heap) (locs : List Loc) (cells slots : Nat) (ls : Array Slot),
      PFit E D p R s m args meth c mi d → lrel ls L → (∀ ls' : Array Slot, lrel ls' L' → W p l e R s m args below meth c H locs cells slots Q (F0 m pc' ls' st')) → W p l e R s m args below meth c H locs cells slots Q (F0 m pc ls st)) :
    Ex E d (mi, pc, L, st) h (mi, pc', L', st') h :=
  ⟨rfl, hn, Nat.le_refl _, Nat.le_refl _, fun D p l e R s m args below meth c Q en es H locs ls hF _ _ _ _ hP hS _ hl kk => k D p l e R s m args below meth c Q H locs _ _ ls hF hl (fun ls' hl' => kk H locs ls' hP hS hl')⟩
theorem pst1_len (L : PL) (i : Nat) (v : Value) : (pst1 L i v).length = L.length := by unfold pst1; rw [List.length_set, pclr_len]
theorem pst2_len (L : PL) (i : Nat) (v : Value) : (pst2 L i v).length = L.length := by unfold pst2; rw [List.length_set, List.length_set, pclr_len]
section XL
variable {E : PE} {d mi pc : Nat} {L : PL} {st : List Value} {h : PH}
theorem x_istore {i : Nat} {x : Int32} (hi : pin mi pc = some (.istore i, 2)) (hn : i < L.length) : Ex E d (mi, pc, L, .int x :: st) h (mi, pc + 2, pst1 L i (.int x), st) h :=
  Ex.goL (pst1_len _ _ _) (fun D p l e R s m args below meth c Q H locs cells slots ls hF hl k => lv_istore hF.1 hF.2.1 (pin_dec hi) hl.al hn rfl (fun ls' h' => k ls' (lrel.st1 hn h')))
theorem x_istore_n {i : Fin 4} {x : Int32} (hi : pin mi pc = some (.istore_n i, 1)) (hn : i.val < L.length) : Ex E d (mi, pc, L, .int x :: st) h (mi, pc + 1, pst1 L i.val (.int x), st) h :=
  Ex.goL (pst1_len _ _ _) (fun D p l e R s m args below meth c Q H locs cells slots ls hF hl k => lv_istore_n hF.1 hF.2.1 (pin_dec hi) rfl hl.al hn rfl (fun ls' h' => k ls' (lrel.st1 hn h')))
theorem x_lstore {i : Nat} {x : Int64} (hi : pin mi pc = some (.lstore i, 2)) (hn : i + 1 < L.length) : Ex E d (mi, pc, L, .long x :: st) h (mi, pc + 2, pst2 L i (.long x), st) h :=
  Ex.goL (pst2_len _ _ _) (fun D p l e R s m args below meth c Q H locs cells slots ls hF hl k => lv_lstore hF.1 hF.2.1 (pin_dec hi) hl.al hn rfl (fun ls' h' => k ls' (lrel.st2 hn h')))
theorem x_lstore_n {i : Fin 4} {x : Int64} (hi : pin mi pc = some (.lstore_n i, 1)) (hn : i.val + 1 < L.length) : Ex E d (mi, pc, L, .long x :: st) h (mi, pc + 1, pst2 L i.val (.long x), st) h :=
  Ex.goL (pst2_len _ _ _) (fun D p l e R s m args below meth c Q H locs cells slots ls hF hl k => lv_lstore_n hF.1 hF.2.1 (pin_dec hi) rfl hl.al hn rfl (fun ls' h' => k ls' (lrel.st2 hn h')))
theorem x_astore {i a : Nat} (hi : pin mi pc = some (.astore i, 2)) (hn : i < L.length) : Ex E d (mi, pc, L, .ref a :: st) h (mi, pc + 2, pst1 L i (.ref a), st) h :=
  Ex.goL (pst1_len _ _ _) (fun D p l e R s m args below meth c Q H locs cells slots ls hF hl k => lv_astore hF.1 hF.2.1 (pin_dec hi) hl.al hn rfl (fun ls' h' => k ls' (lrel.st1 hn h')))
theorem x_astore_n {i : Fin 4} {a : Nat} (hi : pin mi pc = some (.astore_n i, 1)) (hn : i.val < L.length) : Ex E d (mi, pc, L, .ref a :: st) h (mi, pc + 1, pst1 L i.val (.ref a), st) h :=
  Ex.goL (pst1_len _ _ _) (fun D p l e R s m args below meth c Q H locs cells slots ls hF hl k => lv_astore_n hF.1 hF.2.1 (pin_dec hi) rfl hl.al hn rfl (fun ls' h' => k ls' (lrel.st1 hn h')))
theorem x_astoreN {i : Nat} (hi : pin mi pc = some (.astore i, 2)) (hn : i < L.length) : Ex E d (mi, pc, L, .null :: st) h (mi, pc + 2, pst1 L i .null, st) h :=
  Ex.goL (pst1_len _ _ _) (fun D p l e R s m args below meth c Q H locs cells slots ls hF hl k => lv_astoreN hF.1 hF.2.1 (pin_dec hi) hl.al hn rfl (fun ls' h' => k ls' (lrel.st1 hn h')))
theorem x_astore_nN {i : Fin 4} (hi : pin mi pc = some (.astore_n i, 1)) (hn : i.val < L.length) : Ex E d (mi, pc, L, .null :: st) h (mi, pc + 1, pst1 L i.val .null, st) h :=
  Ex.goL (pst1_len _ _ _) (fun D p l e R s m args below meth c Q H locs cells slots ls hF hl k => lv_astore_nN hF.1 hF.2.1 (pin_dec hi) rfl hl.al hn rfl (fun ls' h' => k ls' (lrel.st1 hn h')))
theorem x_iinc {i : Nat} {n : Int} {x : Int32} (hi : pin mi pc = some (.iinc i n, 3)) (hx : L[i]? = some (some (.int x))) : Ex E d (mi, pc, L, st) h (mi, pc + 3, pst1 L i (.int (x + Int32.ofInt n)), st) h := by
  have hn : i < L.length := (List.getElem?_eq_some_iff.mp hx).1
  obtain ⟨k0, hk0⟩ := List.getElem?_of_mem (pal_mem.mpr hx)
  exact Ex.goL (pst1_len _ _ _) (fun D p l e R s m args below meth c Q H locs cells slots ls hF hl k => lv_iinc hF.1 hF.2.1 (pin_dec hi) hl.al hk0 rfl hn rfl (fun ls' h' => k ls' (lrel.st1 hn h')))
end XL
