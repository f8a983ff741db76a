/-! ===== the class: passes, their state; drop, fold, choose ===== -/
def iar (n : Nat) (f : Nat → Int32) : List Value := (List.range n).map (fun k => .int (f k))
theorem iar_len {n : Nat} {f : Nat → Int32} : (iar n f).length = n := by unfold iar; rw [List.length_map, List.length_range]
theorem iar_at {n k : Nat} {f : Nat → Int32} (h : k < n) : (iar n f)[k]? = some (.int (f k)) := by
  unfold iar
  rw [List.getElem?_map, List.getElem?_range h]; rfl
theorem iar_set {m n : Nat} {T : Nat → Int32} {x : Int32} : (iar m T).set n (.int x) = iar m (rup T n x) := by
  apply List.ext_getElem?
  intro i
  rw [List.getElem?_set]
  by_cases hi : i < m
  · rw [iar_at hi, iar_at hi]
    by_cases e : n = i
    · rw [if_pos e, iar_len, if_pos (by omega), e]
      unfold rup
      rw [if_pos rfl]
    · rw [if_neg e]
      unfold rup
      rw [if_neg (fun z => e z.symm)]
  · have l1 : (iar m T)[i]? = none := List.getElem?_eq_none (by rw [iar_len]; omega)
    have l2 : (iar m (rup T n x))[i]? = none := List.getElem?_eq_none (by rw [iar_len]; omega)
    rw [l1, l2]
    by_cases e : n = i
    · rw [if_pos e, if_neg (by rw [iar_len]; omega)]
    · rw [if_neg e]
def par (pf : Nat → Value) : List Value := (List.range 40).map pf
theorem par_len {pf : Nat → Value} : (par pf).length = 40 := by unfold par; rw [List.length_map, List.length_range]
theorem par_at {k : Nat} {pf : Nat → Value} (h : k < 40) : (par pf)[k]? = some (pf k) := by
  unfold par
  rw [List.getElem?_map, List.getElem?_range h]; rfl
def vup (pf : Nat → Value) (k : Nat) (v : Value) : Nat → Value := fun q => if q = k then v else pf q
theorem par_set {n : Nat} {pf : Nat → Value} {v : Value} : (par pf).set n v = par (vup pf n v) := by
  apply List.ext_getElem?
  intro i
  rw [List.getElem?_set]
  by_cases hi : i < 40
  · rw [par_at hi, par_at hi]
    by_cases e : n = i
    · rw [if_pos e, par_len, if_pos (by omega), e]
      unfold vup
      rw [if_pos rfl]
    · rw [if_neg e]
      unfold vup
      rw [if_neg (fun z => e z.symm)]
  · have l1 : (par pf)[i]? = none := List.getElem?_eq_none (by rw [par_len]; omega)
    have l2 : (par (vup pf n v))[i]? = none := List.getElem?_eq_none (by rw [par_len]; omega)
    rw [l1, l2]
    by_cases e : n = i
    · rw [if_pos e, if_neg (by rw [par_len]; omega)]
    · rw [if_neg e]
/-- the objects of a pass: Passes, its path and places; the program, its row and steps -/
def PsH (pz pa pl y root st : Nat) (nn : Int32) (h : PH) (O : Nat → Nat × Nat) (pf : Nat → Value) (lf c : Nat → Int32) : Prop :=
  h.1 pz = some (5, [.ref pa, .ref pl]) ∧ h.1 pa = some (104, par pf) ∧ (O pa).2 = 9 ∧ h.1 pl = some (100, iar 40 lf) ∧ h.1 y = some (6, [.ref root, .int nn, .ref st]) ∧ h.1 st = some (100, iar 4 c) ∧ pl ≠ st
def ChP (pa pl st : Nat) (O : Nat → Nat × Nat) (h : PH) (O' : Nat → Nat × Nat) (h' : PH) : Prop := (∀ q, q < h.2.1 → O' q = O q) ∧ h.2.1 ≤ h'.2.1 ∧ h.2.2 ≤ h'.2.2 ∧ ∀ q t fs, h.1 q = some (t, fs) → t ≠ 7 → t ≠ 0 → t ≠ 106 → ¬ (t = 103 ∧ (O q).2 < 9) → q ≠ pa → q ≠ pl → q ≠ st → h'.1 q = some (t, fs)
theorem Ch.p {pa pl st : Nat} {O O' : Nat → Nat × Nat} {h h' : PH} (x : Ch O h O' h') : ChP pa pl st O h O' h' := ⟨x.1, x.2.1, x.2.2.1, fun q t fs hq a b c d _ _ _ => x.2.2.2 q t fs hq a b c d⟩
theorem ChP.tr {pa pl st : Nat} {O O1 O2 : Nat → Nat × Nat} {h h1 h2 : PH} (hw : Wf h) (x : ChP pa pl st O h O1 h1) (y : ChP pa pl st O1 h1 O2 h2) : ChP pa pl st O h O2 h2 :=
  ⟨fun q hq => (y.1 q (Nat.lt_of_lt_of_le hq x.2.1)).trans (x.1 q hq), Nat.le_trans x.2.1 y.2.1, Nat.le_trans x.2.2.1 y.2.2.1, fun q t fs hq a b c d e f g => y.2.2.2 q t fs (x.2.2.2 q t fs hq a b c d e f g) a b c (by rw [x.1 q (hw _ _ hq)]; exact d) e f g⟩
theorem ChP.set {pa pl st q0 : Nat} {O : Nat → Nat × Nat} {h : PH} {c : PC} (hq : q0 = pa ∨ q0 = pl ∨ q0 = st) : ChP pa pl st O h O (pset h q0 c) :=
  ⟨fun _ _ => rfl, Nat.le_refl _, Nat.le_refl _, fun q t fs hh _ _ _ _ e f g => by
    rw [pset_ne]; exact hh
    intro z
    rcases hq with hq | hq | hq
    · exact e (z.trans hq)
    · exact f (z.trans hq)
    · exact g (z.trans hq)⟩
theorem PsH.ch {pz pa pl y root st : Nat} {nn : Int32} {h h' : PH} {O O' : Nat → Nat × Nat} {pf : Nat → Value} {lf c : Nat → Int32} (hw : Wf h) (x : PsH pz pa pl y root st nn h O pf lf c) (k : Ch O h O' h') : PsH pz pa pl y root st nn h' O' pf lf c := by
  obtain ⟨x1, x2, x3, x4, x5, x6, x7⟩ := x
  have f := k.2.2.2
  exact ⟨f _ _ _ x1 (by decide) (by decide) (by decide) (by omega), f _ _ _ x2 (by decide) (by decide) (by decide) (by omega), by rw [k.1 _ (hw _ _ x2)]; exact x3, f _ _ _ x4 (by decide) (by decide) (by decide) (by omega), f _ _ _ x5 (by decide) (by decide) (by decide) (by omega), f _ _ _ x6 (by decide) (by decide) (by decide) (by omega), x7⟩
theorem GH.setn {E : PE} {h : PH} {O : Nat → Nat × Nat} {G : PG} {q0 t0 : Nat} {fs0 : List Value} {c : PC} (hG : GH E h O G) (hq : h.1 q0 = some (t0, fs0)) (hn : ¬ gcl O q0 t0) : GH E (pset h q0 c) O G :=
  hG.mono (hG.1.set (hG.1 _ _ hq)) (fun _ _ => rfl) (fun q t fs hh hg => by
    rw [pset_ne]; exact hh
    intro z
    rw [z, hq] at hh; cases hh
    rw [z] at hg
    exact hn hg)
/-- a step is counted -/
theorem PsH.step {E : PE} {pz pa pl y root st : Nat} {nn : Int32} {h : PH} {O : Nat → Nat × Nat} {G : PG} {pf : Nat → Value} {lf c : Nat → Int32} (hG : GH E h O G) (x : PsH pz pa pl y root st nn h O pf lf c) (w : Nat) (v : Int32) : GH E (pset h st (100, iar 4 (rup c w v))) O G ∧ PsH pz pa pl y root st nn (pset h st (100, iar 4 (rup c w v))) O pf lf (rup c w v) := by
  obtain ⟨x1, x2, x3, x4, x5, x6, x7⟩ := x
  refine ⟨hG.setn x6 (by unfold gcl; omega), ?_⟩
  exact ⟨(pset_ne (fun z => by rw [z, x6] at x1; cases x1)).trans x1, (pset_ne (fun z => by rw [z, x6] at x2; cases x2)).trans x2, x3, (pset_ne x7).trans x4, (pset_ne (fun z => by rw [z, x6] at x5; cases x5)).trans x5, pset_at, x7⟩
theorem PsH.place {E : PE} {pz pa pl y root st : Nat} {nn : Int32} {h : PH} {O : Nat → Nat × Nat} {G : PG} {pf : Nat → Value} {lf c : Nat → Int32} (hG : GH E h O G) (x : PsH pz pa pl y root st nn h O pf lf c) (w : Nat) (v : Int32) : GH E (pset h pl (100, iar 40 (rup lf w v))) O G ∧ PsH pz pa pl y root st nn (pset h pl (100, iar 40 (rup lf w v))) O pf (rup lf w v) c := by
  obtain ⟨x1, x2, x3, x4, x5, x6, x7⟩ := x
  refine ⟨hG.setn x4 (by unfold gcl; omega), ?_⟩
  exact ⟨(pset_ne (fun z => by rw [z, x4] at x1; cases x1)).trans x1, (pset_ne (fun z => by rw [z, x4] at x2; cases x2)).trans x2, x3, pset_at, (pset_ne (fun z => by rw [z, x4] at x5; cases x5)).trans x5, (pset_ne (Ne.symm x7)).trans x6, x7⟩
theorem PsH.path {E : PE} {pz pa pl y root st : Nat} {nn : Int32} {h : PH} {O : Nat → Nat × Nat} {G : PG} {pf : Nat → Value} {lf c : Nat → Int32} (hG : GH E h O G) (x : PsH pz pa pl y root st nn h O pf lf c) (w : Nat) (v : Value) : GH E (pset h pa (104, par (vup pf w v))) O G ∧ PsH pz pa pl y root st nn (pset h pa (104, par (vup pf w v))) O (vup pf w v) lf c := by
  obtain ⟨x1, x2, x3, x4, x5, x6, x7⟩ := x
  refine ⟨hG.setn x2 (by unfold gcl; omega), ?_⟩
  exact ⟨(pset_ne (fun z => by rw [z, x2] at x1; cases x1)).trans x1, pset_at, x3, (pset_ne (fun z => by rw [z, x2] at x4; cases x4)).trans x4, (pset_ne (fun z => by rw [z, x2] at x5; cases x5)).trans x5, (pset_ne (fun z => by rw [z, x2] at x6; cases x6)).trans x6, x7⟩
/-- a new atom -/
def mkA (h : PH) (v : Int32 × Int32) : PH := pset (pnew h (1, pdef 1)) h.2.1 (1, [.int v.1, .int v.2])
theorem mkA_old {h : PH} {v : Int32 × Int32} {q : Nat} {c : PC} (hw : Wf h) (hq : h.1 q = some c) : (mkA h v).1 q = some c := by
  have : q ≠ h.2.1 := fun z => by have := hw q c hq; omega
  exact ((pset_ne this).trans (pnew_ne this)).trans hq
theorem mkA_at {h : PH} {v : Int32 × Int32} (hv : v.1 = 0 ∨ v.1 = 1) : AtH (mkA h v) h.2.1 v := ⟨pset_at, hv⟩
theorem mkA_wf {h : PH} {v : Int32 × Int32} (hw : Wf h) : Wf (mkA h v) := hw.new.set (Nat.lt_succ_self _)
theorem mkA_sz {h : PH} {v : Int32 × Int32} : (mkA h v).2 = (h.2.1 + 1, h.2.2 + 2) := rfl
theorem mkA_G {E : PE} {h : PH} {v : Int32 × Int32} {O : Nat → Nat × Nat} {G : PG} (hG : GH E h O G) : GH E (mkA h v) O G := hG.mono (mkA_wf hG.1) (fun _ _ => rfl) (fun _ _ _ hq _ => mkA_old hG.1 hq)
theorem mkA_ch {h : PH} {v : Int32 × Int32} {O : Nat → Nat × Nat} (hw : Wf h) : Ch O h O (mkA h v) := ⟨fun _ _ => rfl, Nat.le_succ _, Nat.le_add_right _ _, fun _ _ _ hq _ _ _ _ => mkA_old hw hq⟩
section M35
variable {E : PE} {d : Nat} {h : PH} {O : Nat → Nat × Nat} {G : PG}
theorem c_atom0 {n : Nat} {fs : List Value} {v1 v2 : Int32} (hn : h.1 n = some (1, fs)) (hl : fs.length = 2) (h1 : v1 = 0 ∨ v1 = 1) : Rn E d 64 [.ref n, .int v1, .int v2] h none (pset h n (1, [.int v1, .int v2])) := by
  match fs, hl with
  | [f1, f2], _ =>
    have e : pset (pset h n (1, [.int v1, f2])) n (1, [.int v1, .int v2]) = pset h n (1, [.int v1, .int v2]) := pset2
    rw [← e]
    refine Rn.of (Nat.le_of_ble_eq_true rfl) ?_
    rcases h1 with rfl | rfl
    · refine Rk.tr (F1 := (64, 1, _, _)) (x_aload_n rfl rfl rfl) ?_
      refine Rk.tr (F1 := (64, 4, _, _)) (x_obj rfl rfl rfl (by decide)) ?_
      refine Rk.tr (F1 := (64, 5, _, _)) (x_aload_n rfl rfl rfl) ?_
      refine Rk.tr (F1 := (64, 6, _, _)) (x_iload_n rfl rfl) ?_
      refine Rk.tr (F1 := (64, 9, _, _)) (x_putf rfl rfl hn rfl rfl rfl) ?_
      refine Rk.tr (F1 := (64, 10, _, _)) (x_aload_n rfl rfl rfl) ?_
      refine Rk.tr (F1 := (64, 11, _, _)) (x_iload_n rfl rfl) ?_
      refine Rk.tr (F1 := (64, 14, _, _)) (x_putf rfl rfl pset_at rfl rfl rfl) ?_
      exact Rk.end rfl (Or.inl ⟨rfl, rfl, rfl, rfl⟩)
    · refine Rk.tr (F1 := (64, 1, _, _)) (x_aload_n rfl rfl rfl) ?_
      refine Rk.tr (F1 := (64, 4, _, _)) (x_obj rfl rfl rfl (by decide)) ?_
      refine Rk.tr (F1 := (64, 5, _, _)) (x_aload_n rfl rfl rfl) ?_
      refine Rk.tr (F1 := (64, 6, _, _)) (x_iload_n rfl rfl) ?_
      refine Rk.tr (F1 := (64, 9, _, _)) (x_putf rfl rfl hn rfl rfl rfl) ?_
      refine Rk.tr (F1 := (64, 10, _, _)) (x_aload_n rfl rfl rfl) ?_
      refine Rk.tr (F1 := (64, 11, _, _)) (x_iload_n rfl rfl) ?_
      refine Rk.tr (F1 := (64, 14, _, _)) (x_putf rfl rfl pset_at rfl rfl rfl) ?_
      exact Rk.end rfl (Or.inl ⟨rfl, rfl, rfl, rfl⟩)
theorem c_divz {o b : Int32} : Rn E d 57 [.int o, .int b] h (some (.int (if o = 3 ∧ b = 0 then 1 else 0))) h := by
  refine Rn.of (Nat.le_of_ble_eq_true rfl) ?_
  by_cases h1 : o = 3
  · by_cases h2 : b = 0
    · rw [if_pos ⟨h1, h2⟩]
      refine Rk.tr (F1 := (57, 1, _, _)) (x_iload_n rfl rfl) ?_
      refine Rk.tr (F1 := (57, 2, _, _)) (x_iconst rfl) ?_
      refine Rk.tr (F1 := (57, 5, _, _)) (x_icF rfl (tg := 13) rfl (fun z => z h1)) ?_
      refine Rk.tr (F1 := (57, 6, _, _)) (x_iload_n rfl rfl) ?_
      refine Rk.tr (F1 := (57, 9, _, _)) (x_ifF rfl (tg := 13) rfl (fun z => z h2)) ?_
      refine Rk.tr (F1 := (57, 10, _, _)) (x_iconst rfl) ?_
      refine Rk.tr (F1 := (57, 14, _, _)) (x_goto rfl rfl) ?_
      exact Rk.end rfl (Or.inr (Or.inl ⟨rfl, _, .boolean, rfl, rfl, rfl, rfl⟩))
    · rw [if_neg (fun z => h2 z.2)]
      refine Rk.tr (F1 := (57, 1, _, _)) (x_iload_n rfl rfl) ?_
      refine Rk.tr (F1 := (57, 2, _, _)) (x_iconst rfl) ?_
      refine Rk.tr (F1 := (57, 5, _, _)) (x_icF rfl (tg := 13) rfl (fun z => z h1)) ?_
      refine Rk.tr (F1 := (57, 6, _, _)) (x_iload_n rfl rfl) ?_
      refine Rk.tr (F1 := (57, 13, _, _)) (x_ifT rfl (tg := 13) rfl h2) ?_
      refine Rk.tr (F1 := (57, 14, _, _)) (x_iconst rfl) ?_
      exact Rk.end rfl (Or.inr (Or.inl ⟨rfl, _, .boolean, rfl, rfl, rfl, rfl⟩))
  · rw [if_neg (fun z => h1 z.1)]
    refine Rk.tr (F1 := (57, 1, _, _)) (x_iload_n rfl rfl) ?_
    refine Rk.tr (F1 := (57, 2, _, _)) (x_iconst rfl) ?_
    refine Rk.tr (F1 := (57, 13, _, _)) (x_icT rfl (tg := 13) rfl h1) ?_
    refine Rk.tr (F1 := (57, 14, _, _)) (x_iconst rfl) ?_
    exact Rk.end rfl (Or.inr (Or.inl ⟨rfl, _, .boolean, rfl, rfl, rfl, rfl⟩))
theorem c_calc {x a b : Int32} (hb : x = 3 → ¬ b = 0) : Rn E d 58 [.int x, .int a, .int b] h (some (.int (opv x a b))) h := by
  refine Rn.of (Nat.le_of_ble_eq_true rfl) ?_
  unfold opv
  refine Rk.tr (F1 := (58, 1, _, _)) (x_iload_n rfl rfl) ?_
  by_cases k0 : x = 0
  · rw [if_pos k0]
    subst k0
    refine Rk.tr (F1 := (58, 32, _, _)) (x_tswIn rfl (by decide) (by decide) rfl rfl) ?_
    refine Rk.tr (F1 := (58, 33, _, _)) (x_iload_n rfl rfl) ?_
    refine Rk.tr (F1 := (58, 34, _, _)) (x_iload_n rfl rfl) ?_
    refine Rk.tr (F1 := (58, 35, _, _)) (x_iadd rfl) ?_
    exact Rk.end rfl (Or.inr (Or.inl ⟨rfl, _, .int, rfl, rfl, rfl, rfl⟩))
  rw [if_neg k0]
  by_cases k1 : x = 1
  · rw [if_pos k1]
    subst k1
    refine Rk.tr (F1 := (58, 36, _, _)) (x_tswIn rfl (by decide) (by decide) rfl rfl) ?_
    refine Rk.tr (F1 := (58, 37, _, _)) (x_iload_n rfl rfl) ?_
    refine Rk.tr (F1 := (58, 38, _, _)) (x_iload_n rfl rfl) ?_
    refine Rk.tr (F1 := (58, 39, _, _)) (x_isub rfl) ?_
    exact Rk.end rfl (Or.inr (Or.inl ⟨rfl, _, .int, rfl, rfl, rfl, rfl⟩))
  rw [if_neg k1]
  by_cases k2 : x = 2
  · rw [if_pos k2]
    subst k2
    refine Rk.tr (F1 := (58, 40, _, _)) (x_tswIn rfl (by decide) (by decide) rfl rfl) ?_
    refine Rk.tr (F1 := (58, 41, _, _)) (x_iload_n rfl rfl) ?_
    refine Rk.tr (F1 := (58, 42, _, _)) (x_iload_n rfl rfl) ?_
    refine Rk.tr (F1 := (58, 43, _, _)) (x_imul rfl) ?_
    exact Rk.end rfl (Or.inr (Or.inl ⟨rfl, _, .int, rfl, rfl, rfl, rfl⟩))
  rw [if_neg k2]
  by_cases k3 : x = 3
  · rw [if_pos k3]
    subst k3
    refine Rk.tr (F1 := (58, 44, _, _)) (x_tswIn rfl (by decide) (by decide) rfl rfl) ?_
    refine Rk.tr (F1 := (58, 45, _, _)) (x_iload_n rfl rfl) ?_
    refine Rk.tr (F1 := (58, 52, _, _)) (x_ifT rfl (tg := 52) rfl (hb rfl)) ?_
    refine Rk.tr (F1 := (58, 53, _, _)) (x_iload_n rfl rfl) ?_
    refine Rk.tr (F1 := (58, 54, _, _)) (x_iload_n rfl rfl) ?_
    refine Rk.tr (F1 := (58, 55, _, _)) (x_idiv rfl (hb rfl)) ?_
    exact Rk.end rfl (Or.inr (Or.inl ⟨rfl, _, .int, rfl, rfl, rfl, rfl⟩))
  rw [if_neg k3]
  refine Rk.tr (F1 := (58, 56, _, _)) (x_tswOut rfl (op_out k0 k1 k2 k3) rfl) ?_
  by_cases hc : a < b
  · rw [if_pos hc]
    refine Rk.tr (F1 := (58, 57, _, _)) (x_iload_n rfl rfl) ?_
    refine Rk.tr (F1 := (58, 58, _, _)) (x_iload_n rfl rfl) ?_
    refine Rk.tr (F1 := (58, 61, _, _)) (x_icF rfl (tg := 65) rfl (fun z => absurd hc (Int32.not_lt.mpr z))) ?_
    refine Rk.tr (F1 := (58, 62, _, _)) (x_iconst rfl) ?_
    refine Rk.tr (F1 := (58, 66, _, _)) (x_goto rfl rfl) ?_
    exact Rk.end rfl (Or.inr (Or.inl ⟨rfl, _, .int, rfl, rfl, rfl, rfl⟩))
  · rw [if_neg hc]
    refine Rk.tr (F1 := (58, 57, _, _)) (x_iload_n rfl rfl) ?_
    refine Rk.tr (F1 := (58, 58, _, _)) (x_iload_n rfl rfl) ?_
    refine Rk.tr (F1 := (58, 65, _, _)) (x_icT rfl (tg := 65) rfl (Int32.not_lt.mp hc)) ?_
    refine Rk.tr (F1 := (58, 66, _, _)) (x_iconst rfl) ?_
    exact Rk.end rfl (Or.inr (Or.inl ⟨rfl, _, .int, rfl, rfl, rfl, rfl⟩))
end M35
