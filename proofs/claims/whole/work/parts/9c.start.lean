/-! ===== the law's entry: the heap it finds ===== -/
def Z0 (a0 a1 a2 b n : Nat) (sl : List Value) : PH := (fun q => if q = a0 then some (107, HL.map Value.int) else if q = a1 then some (108, PA.map Value.int) else if q = a2 then some (109, []) else if q = b then some (110, sl) else none, n, 0)
def zI (k : Nat) (C n d : String) (v : Int32) : Jvm.Cond := .eq (.elem (.static C n d) (.int (Int32.ofNat k))) (.int v)
theorem z_PK {s : State} {b a0 a1 a2 mi : Nat} {G : va_G} {cA : Nat → ClassId} {k0 k1 k2 : Cell} (hts : ∀ w ∈ lw_tbl, w.before #[Value.ref b] s = true) (hG : va_K G vwCl [] s) (hA : ∀ (j : Nat) (ty : FieldType), pat[j]? = some ty → j < 7 → s.vm.findClass ("[" ++ ty.toString) = some (cA j) ∧ parr s (cA j) ty)
    (e0 : (Term.static "TermSimplifier" "HEAD_LENGTHS" "[I").eval #[Value.ref b] s none [] s = some (.ref a0)) (e1 : (Term.static "TermSimplifier" "PARTS" "[I").eval #[Value.ref b] s none [] s = some (.ref a1)) (e2 : (Term.static "java/util/ArrayList" "DEFAULTCAPACITY_EMPTY_ELEMENTDATA" "[Ljava/lang/Object;").eval #[Value.ref b] s none [] s = some (.ref a2))
    (q0 : s.isArrayOf k0 .int) (q1 : s.isArrayOf k1 .int) (q2 : s.isArrayOf k2 .int) (hmi : va_Mi "[Ljava/lang/Object;" mi s) :
    PK (s.heap.size, fun k => if k = 0 then a0 else if k = 1 then a1 else a2, mi) (G, fun j => if j = 7 then k0.cls else if j = 8 then k1.cls else if j = 10 then k2.cls else if j = 9 then cA 6 else cA j) s := by
  have fresh : ∀ a : Nat, a < s.heap.size → ¬ (fun q : Nat => s.heap.size ≤ q) a := fun a ha => Nat.not_le.mpr ha
  have arr : ∀ k : Cell, s.isArrayOf k .int → parr s k.cls .int := fun k hk => by
    obtain ⟨-, kk, h1, comp, h2⟩ := hk
    exact ⟨kk, comp, h1, h2, fun C hC => nomatch hC⟩
  have low : ∀ j, j < 7 → (if j = 7 then k0.cls else if j = 8 then k1.cls else if j = 10 then k2.cls else if j = 9 then cA 6 else cA j) = cA j := fun j hj => by
    rw [if_neg (by omega), if_neg (by omega), if_neg (by omega), if_neg (by omega)]
  refine ⟨hG, fun j ty hj => ?_, fun j ty hj h7 => ?_, ?_, ?_, ?_, hmi, rfl, ?_, fun j C hj h7 => ?_, fun q hq => ?_, ?_, ?_, ?_⟩
  · by_cases h7 : j < 7
    · show parr s (if j = 7 then k0.cls else if j = 8 then k1.cls else if j = 10 then k2.cls else if j = 9 then cA 6 else cA j) ty
      rw [low j h7]
      exact (hA j ty hj h7).2
    · have hl : j < 11 := (List.getElem?_eq_some_iff.mp hj).1
      rcases (show j = 7 ∨ j = 8 ∨ j = 9 ∨ j = 10 by omega) with rfl | rfl | rfl | rfl
      · cases hj; exact arr k0 q0
      · cases hj; exact arr k1 q1
      · cases hj; exact (hA 6 _ rfl (by omega)).2
      · cases hj; exact arr k2 q2
  · show s.vm.findClass _ = some (if j = 7 then k0.cls else if j = 8 then k1.cls else if j = 10 then k2.cls else if j = 9 then cA 6 else cA j)
    rw [low j h7]
    exact (hA j ty hj h7).1
  · exact va_Zof (hts _ (by decide +kernel)) (hts _ (by decide +kernel)) e0 fresh
  · exact va_Zof (hts _ (by decide +kernel)) (hts _ (by decide +kernel)) e1 fresh
  · exact va_Zof (hts _ (by decide +kernel)) (hts _ (by decide +kernel)) e2 fresh
  · exact va_Dc.of (hts _ (by decide +kernel))
  · exact va_AO.of (hts _ (aov_in hj h7))
  · have := List.all_eq_true.mp mln_ok q hq
    exact va_Nw.of rfl (hts _ (tb_in (of_decide_eq_true this)))
  · exact va_Nw.of rfl (hts _ (by decide +kernel))
  · exact va_Nw.of rfl (hts _ (by decide +kernel))
  · exact va_Nw.of rfl (hts _ (by decide +kernel))
theorem xbad_in : ∀ w ∈ xbad, w ∈ lw_tbl ∧ w.onTables = true := by decide +kernel
theorem z_XK {s : State} {b : Nat} {E : PE} (hE : E.1 = s.heap.size) (hts : ∀ w ∈ lw_tbl, w.before #[Value.ref b] s = true) (hgv : (Jvm.Cond.and given_1 narrow_1).before #[Value.ref b] s = true) : XK E s := by
  have hs := flat_of_before _ hgv
  have fresh : ∀ a : Nat, a < s.heap.size → ¬ (fun q : Nat => E.1 ≤ q) a := fun a ha => by rw [hE]; exact Nat.not_le.mpr ha
  have str : ∀ (k : Nat) (tx : String), (Jvm.Cond.stringRef "TermSimplifier" k tx).before #[Value.ref b] s = true → (Jvm.Cond.exactly (.string "TermSimplifier" k) "java/lang/String").before #[Value.ref b] s = true → ∃ sa, vk_R "TermSimplifier" k tx sa s := fun k tx h1 h2 => by
    obtain ⟨a, c, cell, kk, g1, -⟩ := Cond.exactly_spec h2
    exact ⟨a, vk_R.of h1 g1⟩
  refine ⟨vx_Zqof (hts _ (by decide +kernel)) (hts _ (by decide +kernel)) (hs _ (by decide +kernel)) fresh, vx_Zqof (hts _ (by decide +kernel)) (hts _ (by decide +kernel)) (hs _ (by decide +kernel)) fresh, fun w hw => va_Nw.of (xbad_in w hw).2 (hts w (xbad_in w hw).1), ?_, va_Nc.of (hs _ (by decide +kernel))⟩
  unfold xstr
  refine List.forall_mem_cons.mpr ⟨str 51 _ (hts _ (by decide +kernel)) (hs _ (by decide +kernel)), ?_⟩
  refine List.forall_mem_cons.mpr ⟨str 62 _ (hts _ (by decide +kernel)) (hs _ (by decide +kernel)), ?_⟩
  refine List.forall_mem_cons.mpr ⟨str 79 _ (hts _ (by decide +kernel)) (hs _ (by decide +kernel)), ?_⟩
  refine List.forall_mem_cons.mpr ⟨str 89 _ (hts _ (by decide +kernel)) (hs _ (by decide +kernel)), ?_⟩
  refine List.forall_mem_cons.mpr ⟨str 106 _ (hts _ (by decide +kernel)) (hs _ (by decide +kernel)), ?_⟩
  refine List.forall_mem_cons.mpr ⟨str 127 _ (hts _ (by decide +kernel)) (hs _ (by decide +kernel)), ?_⟩
  exact fun _ h => absurd h List.not_mem_nil
theorem z_start {s : State} {b L : Nat} {xs : Nat → Int32} (hL : L ≤ 1024) (hts : ∀ w ∈ lw_tbl, w.before #[Value.ref b] s = true) (hX : va_X b L xs s s.heap) (hgv : (Jvm.Cond.and given_1 narrow_1).before #[Value.ref b] s = true) :
    ∃ (E : PE) (D : PD) (h0 : PH), E.1 = s.heap.size ∧ PK E D s ∧ XK E s ∧ prep E D h0 s.heap ∧ Wf h0 ∧ stH E h0 ∧ h0.1 (E.2.1 2) = some (109, []) ∧ h0.2 = (s.heap.size, 0) ∧
      ∃ (tb : Nat) (fs : List Value), 107 ≤ tb ∧ ptag tb = some .int ∧ h0.1 b = some (tb, fs) ∧ (∀ j, j < fs.length → ∃ v : Int32, fs[j]? = some (.int v)) ∧ fs.length ≤ 1024 := by
  have hs := flat_of_before _ hgv
  obtain ⟨G, hG⟩ := z_own hts
  obtain ⟨cA, hA⟩ := z_cls hts
  obtain ⟨mi, hmi⟩ := va_Mi.of (C := "[Ljava/lang/Object;") (hs _ (by decide +kernel))
  obtain ⟨a0, cell0, e0, p0, q0, r0, l0⟩ := z_nums (C := "TermSimplifier") (n := "HEAD_LENGTHS") (d := "[I") (l := HL) (by decide) (hs _ (by decide +kernel)) (hs _ (by decide +kernel)) (fun j hj => by
    match j, hj with
    | 0, _ => exact hs _ (by decide +kernel)
    | 1, _ => exact hs _ (by decide +kernel)
    | 2, _ => exact hs _ (by decide +kernel)
    | 3, _ => exact hs _ (by decide +kernel)
    | 4, _ => exact hs _ (by decide +kernel)
    | 5, _ => exact hs _ (by decide +kernel)
    | 6, _ => exact hs _ (by decide +kernel))
  obtain ⟨a1, cell1, e1, p1, q1, r1, l1⟩ := z_nums (C := "TermSimplifier") (n := "PARTS") (d := "[I") (l := PA) (by decide) (hs _ (by decide +kernel)) (hs _ (by decide +kernel)) (fun j hj => by
    match j, hj with
    | 0, _ => exact hs _ (by decide +kernel)
    | 1, _ => exact hs _ (by decide +kernel)
    | 2, _ => exact hs _ (by decide +kernel)
    | 3, _ => exact hs _ (by decide +kernel)
    | 4, _ => exact hs _ (by decide +kernel)
    | 5, _ => exact hs _ (by decide +kernel)
    | 6, _ => exact hs _ (by decide +kernel))
  obtain ⟨a2, cell2, e2, p2, q2, r2, l2⟩ := z_arr (tm := .static "java/util/ArrayList" "DEFAULTCAPACITY_EMPTY_ELEMENTDATA" "[Ljava/lang/Object;") (ty := .object "java/lang/Object") (N := 0) (f := fun _ => .null) (by decide) (hs _ (by decide +kernel)) (va_eqt (hs (.eq (.length (.static "java/util/ArrayList" "DEFAULTCAPACITY_EMPTY_ELEMENTDATA" "[Ljava/lang/Object;")) (.int 0)) (by decide +kernel))) (fun j hj => absurd hj (Nat.not_lt_zero _))
  have l2 : cell2.slots.toList = [] := l2
  obtain ⟨a2', c2, cell2', k2, x1, x2, x3, x4, x5, x6, x7⟩ := Cond.exactly_spec (hs (.exactly (.static "java/util/ArrayList" "DEFAULTCAPACITY_EMPTY_ELEMENTDATA" "[Ljava/lang/Object;") "[Ljava/lang/Object;") (by decide +kernel))
  cases e2.symm.trans x1
  cases p2.symm.trans x3
  have hc2 : cell2.cls = cA 6 := by
    have h6 := (hA 6 _ rfl (by omega)).1
    have h7 : s.vm.findClass "[Ljava/lang/Object;" = some (cA 6) := h6
    rw [x2] at h7
    rw [x6]
    exact Option.some.inj h7
  obtain ⟨scr, y1, y2, y3, y4, y5⟩ := hX
  have d01 : a0 ≠ a1 := fun e => by
    rw [e, p1] at p0
    cases p0
    rw [l0] at l1
    exact absurd l1 (by decide)
  have d02 : a0 ≠ a2 := fun e => by
    rw [e, p2] at p0
    cases p0
    rw [l0] at l2
    exact absurd l2 (by decide)
  have d12 : a1 ≠ a2 := fun e => by
    rw [e, p2] at p1
    cases p1
    rw [l1] at l2
    exact absurd l2 (by decide)
  have d2b : b ≠ a2 := fun e => by
    rw [e, p2] at y1
    cases y1
    obtain ⟨-, ka, u1, ca, u2⟩ := y2
    obtain ⟨-, kb, v1, cb, v2⟩ := q2
    rw [u1] at v1
    cases v1
    rw [u2] at v2
    cases v2
  have lt : ∀ {a : Nat} {c : Cell}, s.heap[a]? = some c → a < s.heap.size := fun h => (Array.getElem?_eq_some_iff.mp h).1
  have z0 : (Z0 a0 a1 a2 b s.heap.size scr.slots.toList).1 a0 = some (107, HL.map Value.int) := if_pos rfl
  have z1 : (Z0 a0 a1 a2 b s.heap.size scr.slots.toList).1 a1 = some (108, PA.map Value.int) := (if_neg (fun e => d01 e.symm)).trans (if_pos rfl)
  have z2 : (Z0 a0 a1 a2 b s.heap.size scr.slots.toList).1 a2 = some (109, []) := (if_neg (fun e => d02 e.symm)).trans ((if_neg (fun e => d12 e.symm)).trans (if_pos rfl))
  have cases4 : ∀ {q t : Nat} {fs : List Value}, (Z0 a0 a1 a2 b s.heap.size scr.slots.toList).1 q = some (t, fs) → (q = a0 ∧ t = 107 ∧ fs = HL.map Value.int) ∨ (q = a1 ∧ t = 108 ∧ fs = PA.map Value.int) ∨ (q = a2 ∧ t = 109 ∧ fs = []) ∨ (q = b ∧ t = 110 ∧ fs = scr.slots.toList) := by
    intro q t fs hq
    by_cases g0 : q = a0
    · rw [g0, z0] at hq; cases hq; exact Or.inl ⟨g0, rfl, rfl⟩
    by_cases g1 : q = a1
    · rw [g1, z1] at hq; cases hq; exact Or.inr (Or.inl ⟨g1, rfl, rfl⟩)
    by_cases g2 : q = a2
    · rw [g2, z2] at hq; cases hq; exact Or.inr (Or.inr (Or.inl ⟨g2, rfl, rfl⟩))
    by_cases g3 : q = b
    · have hq : (if q = a0 then some (107, HL.map Value.int) else if q = a1 then some (108, PA.map Value.int) else if q = a2 then some (109, []) else if q = b then some (110, scr.slots.toList) else none) = some (t, fs) := hq
      rw [if_neg g0, if_neg g1, if_neg g2, if_pos g3] at hq
      cases hq
      exact Or.inr (Or.inr (Or.inr ⟨g3, rfl, rfl⟩))
    · have hq : (if q = a0 then some (107, HL.map Value.int) else if q = a1 then some (108, PA.map Value.int) else if q = a2 then some (109, []) else if q = b then some (110, scr.slots.toList) else none) = some (t, fs) := hq
      rw [if_neg g0, if_neg g1, if_neg g2, if_neg g3] at hq
      cases hq
  refine ⟨_, _, Z0 a0 a1 a2 b s.heap.size scr.slots.toList, ?_, z_PK (k0 := cell0) (k1 := cell1) (k2 := scr) hts hG hA e0 e1 e2 q0 q1 y2 hmi, z_XK rfl hts hgv, ⟨rfl, fun a t fs ha => ?_⟩, fun q c hq => ?_, ⟨z0, z1⟩, z2, rfl, ?_⟩
  · rfl
  · rcases cases4 ha with ⟨rfl, rfl, rfl⟩ | ⟨rfl, rfl, rfl⟩ | ⟨rfl, rfl, rfl⟩ | ⟨rfl, rfl, rfl⟩
    · exact ⟨⟨cell0, p0, Or.inr ⟨by decide, rfl, r0, q0.1, l0, fun z => absurd z (by decide)⟩⟩, fun z => absurd z (by decide)⟩
    · exact ⟨⟨cell1, p1, Or.inr ⟨by decide, rfl, r1, q1.1, l1, fun z => absurd z (by decide)⟩⟩, fun z => absurd z (by decide)⟩
    · exact ⟨⟨cell2, p2, Or.inr ⟨by decide, hc2, r2, q2.1, l2, fun z => absurd z (by decide)⟩⟩, fun z => absurd z (by decide)⟩
    · exact ⟨⟨scr, y1, Or.inr ⟨by decide, rfl, y3, y2.1, rfl, fun z => absurd z (by decide)⟩⟩, fun z => absurd z (by decide)⟩
  · obtain ⟨t, fs⟩ := c
    show q < s.heap.size
    rcases cases4 hq with ⟨rfl, -⟩ | ⟨rfl, -⟩ | ⟨rfl, -⟩ | ⟨rfl, -⟩
    · exact lt p0
    · exact lt p1
    · exact lt p2
    · exact lt y1
  · by_cases g0 : b = a0
    · exact ⟨107, HL.map Value.int, by decide, rfl, by rw [g0]; exact g0 ▸ z0, ints_map HL, by decide⟩
    by_cases g1 : b = a1
    · exact ⟨108, PA.map Value.int, by decide, rfl, by rw [g1]; exact g1 ▸ z1, ints_map PA, by decide⟩
    refine ⟨110, scr.slots.toList, by decide, rfl, (if_neg g0).trans ((if_neg g1).trans ((if_neg d2b).trans (if_pos rfl))), fun j hj => ⟨xs j, ?_⟩, by rw [Array.length_toList, y4]; exact hL⟩
    rw [Array.length_toList, y4] at hj
    rw [Array.getElem?_toList]
    exact y5 j hj
