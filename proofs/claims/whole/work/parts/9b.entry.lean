/-! ===== the law's entry: what the tables and the start say ===== -/
theorem z_arr {args : Array Value} {s : State} {tm : Term} {ty : FieldType} {N : Nat} {f : Nat → Value} (hN : N < 2 ^ 31) (harr : (Jvm.Cond.arrayOf tm ty).before args s = true) (hlen : (Term.length tm).eval args s none [] s = some (.int (Int32.ofNat N))) (hel : ∀ j : Nat, j < N → (Term.elem tm (.int (Int32.ofNat j))).eval args s none [] s = some (f j)) :
    ∃ (a : Nat) (cell : Cell), tm.eval args s none [] s = some (.ref a) ∧ s.heap[a]? = some cell ∧ s.isArrayOf cell ty ∧ cell.vm ≠ .unknown ∧ cell.slots.toList = (List.range N).map f := by
  obtain ⟨a, ha, cell, h1, h2, h3, h4, h5, h6, h7⟩ := va_Tof (A := fun _ => False) hN harr hlen hel (fun _ _ h => h)
  obtain ⟨a', cell', e1, e2, e3⟩ := Term.length_spec hlen
  cases ha.symm.trans e1
  have hsz : cell'.slots.size < 2 ^ 31 := by
    simp only [Term.eval, ha, e2, Option.bind_eq_bind, Option.bind_some] at hlen
    by_cases hlt : cell'.slots.size < 2147483648
    · exact hlt
    · simp [hlt] at hlen
  cases h1.symm.trans (State.arrayAt?_spec e2).1
  have hs : cell.slots.size = N := by
    have h8 : (Int32.ofNat cell.slots.size).toNatClampNeg = (Int32.ofNat N).toNatClampNeg := congrArg Int32.toNatClampNeg h5
    rw [Int32.toNatClampNeg_ofNat_of_lt hsz, Int32.toNatClampNeg_ofNat_of_lt hN] at h8
    exact h8
  refine ⟨a, cell, ha, h1, h2, h3, List.ext_getElem? (fun j => ?_)⟩
  by_cases hj : j < N
  · rw [Array.getElem?_toList, h6 j hj, List.getElem?_map, List.getElem?_range hj]
    rfl
  · rw [List.getElem?_eq_none (by rw [Array.length_toList]; omega), List.getElem?_eq_none (by rw [List.length_map, List.length_range]; omega)]
theorem ints_map (l : List Int32) : ∀ j, j < (l.map Value.int).length → ∃ v : Int32, (l.map Value.int)[j]? = some (.int v) := by
  intro j hj
  rw [List.length_map] at hj
  exact ⟨l[j], by rw [List.getElem?_map, List.getElem?_eq_getElem hj]; rfl⟩
def HL : List Int32 := [2, 2, 2, 1, 2, 2, 1]
def PA : List Int32 := [0, 0, 1, 2, 2, 2, 3]
theorem z_nums {args : Array Value} {s : State} {C n d : String} {l : List Int32} (hN : l.length < 2 ^ 31) (harr : (Jvm.Cond.arrayOf (.static C n d) .int).before args s = true) (hlen : (Jvm.Cond.eq (.length (.static C n d)) (.int (Int32.ofNat l.length))).before args s = true) (hel : ∀ j : Nat, j < l.length → (Jvm.Cond.eq (.elem (.static C n d) (.int (Int32.ofNat j))) (.int (l.getD j 0))).before args s = true) :
    ∃ (a : Nat) (cell : Cell), (Term.static C n d).eval args s none [] s = some (.ref a) ∧ s.heap[a]? = some cell ∧ s.isArrayOf cell .int ∧ cell.vm ≠ .unknown ∧ cell.slots.toList = l.map Value.int := by
  obtain ⟨a, cell, h1, h2, h3, h4, h5⟩ := z_arr (f := fun j => .int (l.getD j 0)) hN harr (va_eqt hlen) (fun j hj => va_eqt (hel j hj))
  refine ⟨a, cell, h1, h2, h3, h4, h5.trans (List.ext_getElem? (fun j => ?_))⟩
  by_cases hj : j < l.length
  · rw [List.getElem?_map, List.getElem?_range hj, List.getElem?_map, List.getElem?_eq_getElem hj]
    show some (Value.int (l.getD j 0)) = some (Value.int l[j])
    rw [List.getD_eq_getElem?_getD, List.getElem?_eq_getElem hj]
    rfl
  · rw [List.getElem?_eq_none (by rw [List.length_map, List.length_range]; omega), List.getElem?_eq_none (by rw [List.length_map]; omega)]
theorem tb_in {w : Jvm.Cond} {i : Nat} (h : tables_1[i]? = some w) : w ∈ lw_tbl := List.mem_append_right _ (List.mem_of_getElem? h)
theorem aov_in {j : Nat} {C : String} (hj : pat[j]? = some (.object C)) (h7 : j < 7) : Jvm.Cond.arrayOver (.object C) ∈ lw_tbl := by
  have hov : ∀ u, 3 ≤ u → u < 7 → tables_1[aovl.getD u 0]? = some (Jvm.Cond.arrayOver (.object (parn.getD u ""))) ∧ pat[u]? = some (.object (parn.getD u "")) := fun u h1 h2 => by
    have := List.all_eq_true.mp aov_ok u (List.mem_map.mpr ⟨u - 3, List.mem_range.mpr (by omega), by omega⟩)
    simp only [Bool.and_eq_true, decide_eq_true_eq] at this
    exact this
  by_cases h3 : 3 ≤ j
  · obtain ⟨g1, g2⟩ := hov j h3 h7
    rw [g2] at hj
    cases hj
    exact tb_in g1
  · match j, h3, hj with
    | 0, _, hj => cases hj
    | 1, _, hj => cases hj
    | 2, _, hj => cases hj
    | j + 3, h3, _ => omega
/-- the array classes -/
theorem z_cls {s : State} {b : Nat} (hts : ∀ w ∈ lw_tbl, w.before #[Value.ref b] s = true) : ∃ cA : Nat → ClassId, ∀ (j : Nat) (ty : FieldType), pat[j]? = some ty → j < 7 → s.vm.findClass ("[" ++ ty.toString) = some (cA j) ∧ parr s (cA j) ty := by
  have hg : ∀ w ∈ gtbl, w.before #[Value.ref b] s = true := fun w hw => hts w (List.mem_filter.mp hw).1
  have prim : ∀ ty : FieldType, (∀ C, ty ≠ .object C) → (Jvm.Cond.arrayClass ty).before #[Value.ref b] s = true → ∃ c : ClassId, s.vm.findClass ("[" ++ ty.toString) = some c ∧ parr s c ty := fun ty hn hw => by
    obtain ⟨c, k, comp, h1, h2, h3⟩ := Cond.arrayClass_spec hw
    exact ⟨c, h1, k, comp, h2, h3, fun C hC => absurd hC (hn C)⟩
  have key : ∀ j : Nat, ∃ c : ClassId, ∀ ty : FieldType, pat[j]? = some ty → j < 7 → s.vm.findClass ("[" ++ ty.toString) = some c ∧ parr s c ty := by
    intro j
    by_cases h7 : j < 7
    · by_cases h3 : 3 ≤ j
      · have hp : ∃ C, pat[j]? = some (.object C) := by
          match j, h3, h7 with
          | 3, _, _ => exact ⟨_, rfl⟩
          | 4, _, _ => exact ⟨_, rfl⟩
          | 5, _, _ => exact ⟨_, rfl⟩
          | 6, _, _ => exact ⟨_, rfl⟩
        obtain ⟨C, hC⟩ := hp
        obtain ⟨comp, c, k, g1, g2, g3, g4, g5⟩ := Cond.arrayOver_spec (hts _ (aov_in hC h7))
        refine ⟨c, fun ty hty _ => ?_⟩
        rw [hC] at hty
        cases hty
        exact ⟨g5, k, comp, g3, g4, fun C' hC' => by cases hC'; exact g1⟩
      · match j, h3 with
        | 0, _ =>
          obtain ⟨c, hc⟩ := prim .int (fun _ h => nomatch h) (hg _ ac_int)
          exact ⟨c, fun ty hty _ => by cases hty; exact hc⟩
        | 1, _ =>
          obtain ⟨c, hc⟩ := prim .long (fun _ h => nomatch h) (hg _ ac_long)
          exact ⟨c, fun ty hty _ => by cases hty; exact hc⟩
        | 2, _ =>
          obtain ⟨c, hc⟩ := prim .boolean (fun _ h => nomatch h) (hg _ ac_bool)
          exact ⟨c, fun ty hty _ => by cases hty; exact hc⟩
        | j + 3, h3 => omega
    · obtain ⟨c, hc⟩ := prim .int (fun _ h => nomatch h) (hg _ ac_int)
      exact ⟨c, fun ty _ h => absurd h h7⟩
  obtain ⟨f, hf⟩ := Classical.axiomOfChoice key
  exact ⟨f, hf⟩
theorem z_own {s : State} {b : Nat} (hts : ∀ w ∈ lw_tbl, w.before #[Value.ref b] s = true) : ∃ G : va_G, va_K G vwCl [] s := by
  have hg : ∀ w ∈ gtbl, w.before #[Value.ref b] s = true := fun w hw => hts w (List.mem_filter.mp hw).1
  have hcl : ∀ t, t < 11 → ∃ q : ClassId × (Nat → Nat), u_Kn s (pcls t).1 (pcls t).2.1 (pcls t).2.2 q.1 q.2 := fun t ht => by
    obtain ⟨cC, iS, h⟩ := u_known hg (pws ht) (hg _ (pinst_ok ht).1)
    exact ⟨(cC, iS), h⟩
  have key : ∀ t : Nat, ∃ q : ClassId × (Nat → Nat), t < 11 → u_Kn s (pcls t).1 (pcls t).2.1 (pcls t).2.2 q.1 q.2 := fun t => by
    by_cases ht : t < 11
    · obtain ⟨q, hq⟩ := hcl t ht
      exact ⟨q, fun _ => hq⟩
    · obtain ⟨q, hq⟩ := hcl 0 (by omega)
      exact ⟨q, fun h => absurd h ht⟩
  obtain ⟨f, hf⟩ := Classical.axiomOfChoice key
  refine ⟨(fun t => (f t).1, fun t => (f t).2), fun c q hq => ?_, fun k q h => by simp at h⟩
  have hc : c < 11 := by
    have := (List.getElem?_eq_some_iff.mp hq).1
    exact this
  rw [pcls_at hc] at hq
  cases hq
  exact hf c hc
