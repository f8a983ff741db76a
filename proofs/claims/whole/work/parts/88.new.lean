/-! ===== the class: new TermSimplifier() ===== -/
theorem app_wf {h : PH} {cs : List PC} (hw : Wf h) : Wf (app h cs) := fun q c hq => by
  show q < h.2.1 + cs.length
  by_cases r : h.2.1 ≤ q ∧ q < h.2.1 + cs.length
  · exact r.2
  · have : (app h cs).1 q = h.1 q := if_neg r
    rw [this] at hq
    have := hw _ _ hq
    omega
theorem stg {g : PH} {x : Nat} {cs : List PC} {c : PC} (hx : x < g.2.1) : (pset (app g cs) x c).1 x = some c ∧ (pset (app g cs) x c).2.1 = g.2.1 + cs.length ∧ (pset (app g cs) x c).2.2 = g.2.2 + clen cs ∧ (∀ q, q < g.2.1 → q ≠ x → (pset (app g cs) x c).1 q = g.1 q) ∧ (∀ i, i < cs.length → (pset (app g cs) x c).1 (g.2.1 + i) = cs[i]?) ∧ (Wf g → Wf (pset (app g cs) x c)) :=
  ⟨pset_at, rfl, rfl, fun q h1 h2 => (pset_ne h2).trans (app_old h1), fun i hi => (pset_ne (by omega)).trans (app_in hi), fun hw => (app_wf hw).set (by show x < g.2.1 + cs.length; omega)⟩
theorem rep_map {α : Type} {n : Nat} {v : α} : (List.range n).map (fun _ => v) = List.replicate n v := by
  rw [List.map_const', List.length_range]
theorem iar0 {n : Nat} : iar n (fun _ => 0) = List.replicate n (.int 0) := by unfold iar; exact rep_map
theorem lar0 {n : Nat} : lar n (fun _ => 0) = List.replicate n (.long 0) := by unfold lar; exact rep_map
theorem far0 : far (fun _ => .null) = List.replicate 400 .null := by unfold far; exact rep_map
theorem par0 : par (fun _ => .null) = List.replicate 40 .null := by unfold par; exact rep_map
theorem mar0 : mar (fun _ => .null) = List.replicate 10 .null := by unfold mar; exact rep_map
theorem sarr0 : sarr (fun _ => 0) = List.replicate 400 (.int 0) := by unfold sarr; exact rep_map
def T00 : MT := (fun _ => 0, fun _ _ => 0, fun _ => 0, fun _ => .null)
theorem mcc0 {z j : Nat} (hj : j ≤ 5) : mcc z T00 j = (mN0 z)[j]? := by
  match j, hj with
  | 0, _ => rfl
  | 1, _ =>
    show some (100, iar 800 (fun _ => 0)) = some (100, List.replicate 800 (.int 0))
    rw [iar0]
  | 2, _ =>
    show some (101, lar 800 (fun _ => 0)) = some (101, List.replicate 800 (.long 0))
    rw [lar0]
  | 3, _ =>
    show some (100, iar 800 (fun _ => 0)) = some (100, List.replicate 800 (.int 0))
    rw [iar0]
  | 4, _ =>
    show some (105, far (fun _ => .null)) = some (105, List.replicate 400 .null)
    rw [far0]
  | 5, _ =>
    show some (100, iar 400 (fun _ => 0)) = some (100, List.replicate 400 (.int 0))
    rw [iar0]
section M65
variable {E : PE} {d : Nat} {h : PH}
def O00 (x : Nat) : Nat → Nat × Nat := fun q => if q = x + 3 ∨ q = x + 5 then (x, 9) else (x, 8)
theorem c_new (hw : Wf h) (hs : stH E h) (hst : h.1 (E.2.1 2) = some (109, [])) : ∃ h' : PH, Rn E (d + 1) 53 [.ref h.2.1] (pnew h (9, pdef 9)) none h' ∧ ClH E h' (O00 h.2.1) (fun _ => none, fun _ => none) h.2.1 0 (fun _ => 0) none (fun _ => 0) ∧ h'.2.1 = h.2.1 + 15 ∧ h'.2.2 = h.2.2 + 3778 ∧ ∀ q c, h.1 q = some c → h'.1 q = some c := by
  have a0 : (pnew h (9, pdef 9)).1 h.2.1 = some (9, [.null, .null, .null, .null, .null]) := pnew_at
  have z0 : (pnew h (9, pdef 9)).2.1 = h.2.1 + 1 := rfl
  have z0' : (pnew h (9, pdef 9)).2.2 = h.2.2 + 5 := rfl
  have o0 : ∀ q, q < h.2.1 → (pnew h (9, pdef 9)).1 q = h.1 q := fun q hq => pnew_ne (by omega)
  have w0 : Wf (pnew h (9, pdef 9)) := hw.new
  generalize hg0 : pnew h (9, pdef 9) = g0 at a0 z0 z0' o0 w0
  have k1 := c_conv0 (E := E) (d := d) (h := g0)
  obtain ⟨a1, z1, z1', o1, i1, w1⟩ := stg (g := g0) (x := h.2.1) (cs := kN g0.2.1) (c := (9, [.ref g0.2.1, .null, .null, .null, .null])) (by omega)
  have b1 : (app g0 (kN g0.2.1)).1 h.2.1 = some (9, [.null, .null, .null, .null, .null]) := (app_old (by omega)).trans a0
  generalize hg1 : pset (app g0 (kN g0.2.1)) h.2.1 (9, [.ref g0.2.1, .null, .null, .null, .null]) = g1 at a1 z1 z1' o1 i1 w1
  have l1 : g1.2.1 = h.2.1 + 4 := by rw [z1, z0]; rfl
  have k2 := c_pass00 (E := E) (d := d) (h := g1)
  obtain ⟨a2, z2, z2', o2, i2, w2⟩ := stg (g := g1) (x := h.2.1) (cs := pN0 g1.2.1) (c := (9, [.ref g0.2.1, .ref g1.2.1, .null, .null, .null])) (by omega)
  have b2 : (app g1 (pN0 g1.2.1)).1 h.2.1 = some (9, [.ref g0.2.1, .null, .null, .null, .null]) := (app_old (by omega)).trans a1
  generalize hg2 : pset (app g1 (pN0 g1.2.1)) h.2.1 (9, [.ref g0.2.1, .ref g1.2.1, .null, .null, .null]) = g2 at a2 z2 z2' o2 i2 w2
  have l2 : g2.2.1 = h.2.1 + 7 := by rw [z2, l1]; rfl
  have k3 := c_scr0 (E := E) (d := d) (h := g2)
  obtain ⟨a3, z3, z3', o3, i3, w3⟩ := stg (g := g2) (x := h.2.1) (cs := sN0 g2.2.1) (c := (9, [.ref g0.2.1, .ref g1.2.1, .ref g2.2.1, .null, .null])) (by omega)
  have b3 : (app g2 (sN0 g2.2.1)).1 h.2.1 = some (9, [.ref g0.2.1, .ref g1.2.1, .null, .null, .null]) := (app_old (by omega)).trans a2
  generalize hg3 : pset (app g2 (sN0 g2.2.1)) h.2.1 (9, [.ref g0.2.1, .ref g1.2.1, .ref g2.2.1, .null, .null]) = g3 at a3 z3 z3' o3 i3 w3
  have l3 : g3.2.1 = h.2.1 + 9 := by rw [z3, l2]; rfl
  have k4 := c_mach0 (E := E) (d := d) (h := g3)
  obtain ⟨a4, z4, z4', o4, i4, w4⟩ := stg (g := g3) (x := h.2.1) (cs := mN0 g3.2.1) (c := (9, [.ref g0.2.1, .ref g1.2.1, .ref g2.2.1, .ref g3.2.1, .null])) (by omega)
  have b4 : (app g3 (mN0 g3.2.1)).1 h.2.1 = some (9, [.ref g0.2.1, .ref g1.2.1, .ref g2.2.1, .null, .null]) := (app_old (by omega)).trans a3
  have ef : pset (pset (app g3 (mN0 g3.2.1)) h.2.1 (9, [.ref g0.2.1, .ref g1.2.1, .ref g2.2.1, .ref g3.2.1, .null])) h.2.1 (9, [.ref g0.2.1, .ref g1.2.1, .ref g2.2.1, .ref g3.2.1, .null]) = pset (app g3 (mN0 g3.2.1)) h.2.1 (9, [.ref g0.2.1, .ref g1.2.1, .ref g2.2.1, .ref g3.2.1, .null]) := pset2
  have hrn : Rn E (d + 1) 53 [.ref h.2.1] g0 none (pset (app g3 (mN0 g3.2.1)) h.2.1 (9, [.ref g0.2.1, .ref g1.2.1, .ref g2.2.1, .ref g3.2.1, .null])) := by
    rw [← ef]
    refine Rn.of (Nat.le_of_ble_eq_true rfl) ?_
    subst hg3
    subst hg2
    subst hg1
    refine Rk.tr (F1 := (53, 1, _, _)) (x_aload_n rfl rfl rfl) ?_
    refine Rk.tr (F1 := (53, 4, _, _)) (x_obj rfl rfl rfl (by decide)) ?_
    refine Rk.tr (F1 := (53, 5, _, _)) (x_aload_n rfl rfl rfl) ?_
    refine Rk.tr (F1 := (53, 8, _, _)) (x_new rfl rfl (by decide)) ?_
    refine Rk.tr (F1 := (53, 9, _, _)) (x_dup rfl rfl) ?_
    refine Rk.tr (F1 := (53, 12, _, _)) (x_calli (As := []) rfl rfl rfl rfl rfl rfl (Nat.le_of_ble_eq_true rfl) k1 rfl) ?_
    refine Rk.tr (F1 := (53, 15, _, _)) (x_putf rfl rfl b1 rfl rfl rfl) ?_
    refine Rk.tr (F1 := (53, 16, _, _)) (x_aload_n rfl rfl rfl) ?_
    refine Rk.tr (F1 := (53, 19, _, _)) (x_new rfl rfl (by decide)) ?_
    refine Rk.tr (F1 := (53, 20, _, _)) (x_dup rfl rfl) ?_
    refine Rk.tr (F1 := (53, 23, _, _)) (x_calli (As := []) rfl rfl rfl rfl rfl rfl (Nat.le_of_ble_eq_true rfl) k2 rfl) ?_
    refine Rk.tr (F1 := (53, 26, _, _)) (x_putf rfl rfl b2 rfl rfl rfl) ?_
    refine Rk.tr (F1 := (53, 27, _, _)) (x_aload_n rfl rfl rfl) ?_
    refine Rk.tr (F1 := (53, 30, _, _)) (x_new rfl rfl (by decide)) ?_
    refine Rk.tr (F1 := (53, 31, _, _)) (x_dup rfl rfl) ?_
    refine Rk.tr (F1 := (53, 34, _, _)) (x_calli (As := []) rfl rfl rfl rfl rfl rfl (Nat.le_of_ble_eq_true rfl) k3 rfl) ?_
    refine Rk.tr (F1 := (53, 37, _, _)) (x_putf rfl rfl b3 rfl rfl rfl) ?_
    refine Rk.tr (F1 := (53, 38, _, _)) (x_aload_n rfl rfl rfl) ?_
    refine Rk.tr (F1 := (53, 41, _, _)) (x_new rfl rfl (by decide)) ?_
    refine Rk.tr (F1 := (53, 42, _, _)) (x_dup rfl rfl) ?_
    refine Rk.tr (F1 := (53, 45, _, _)) (x_calli (As := []) rfl rfl rfl rfl rfl rfl (Nat.le_of_ble_eq_true rfl) k4 rfl) ?_
    refine Rk.tr (F1 := (53, 48, _, _)) (x_putf rfl rfl b4 rfl rfl rfl) ?_
    refine Rk.tr (F1 := (53, 49, _, _)) (x_aload_n rfl rfl rfl) ?_
    refine Rk.tr (F1 := (53, 50, _, _)) (x_null rfl) ?_
    refine Rk.tr (F1 := (53, 53, _, _)) (x_putf rfl rfl pset_at rfl rfl rfl) ?_
    exact Rk.end rfl (Or.inl ⟨rfl, rfl, rfl, rfl⟩)
  generalize hg4 : pset (app g3 (mN0 g3.2.1)) h.2.1 (9, [.ref g0.2.1, .ref g1.2.1, .ref g2.2.1, .ref g3.2.1, .null]) = g4 at a4 z4 z4' o4 i4 w4 hrn
  have l4 : g4.2.1 = h.2.1 + 15 := by rw [z4, l3]; rfl
  have old : ∀ q c, h.1 q = some c → g4.1 q = some c := fun q c hq => by
    have := hw q c hq
    rw [o4 q (by omega) (by omega), o3 q (by omega) (by omega), o2 q (by omega) (by omega), o1 q (by omega) (by omega), o0 q this]
    exact hq
  have s0 : ∀ i, i < 3 → g4.1 (h.2.1 + 1 + i) = (kN (h.2.1 + 1))[i]? := fun i hi => by
    rw [o4 _ (by omega) (by omega), o3 _ (by omega) (by omega), o2 _ (by omega) (by omega)]
    have := i1 i hi
    rw [z0] at this
    exact this
  have s1 : ∀ i, i < 3 → g4.1 (h.2.1 + 4 + i) = (pN0 (h.2.1 + 4))[i]? := fun i hi => by
    rw [o4 _ (by omega) (by omega), o3 _ (by omega) (by omega)]
    have := i2 i hi
    rw [l1] at this
    exact this
  have s2 : ∀ i, i < 2 → g4.1 (h.2.1 + 7 + i) = (sN0 (h.2.1 + 7))[i]? := fun i hi => by
    rw [o4 _ (by omega) (by omega)]
    have := i3 i hi
    rw [l2] at this
    exact this
  have s3 : ∀ i, i < 6 → g4.1 (h.2.1 + 9 + i) = (mN0 (h.2.1 + 9))[i]? := fun i hi => by
    have := i4 i hi
    rw [l3] at this
    exact this
  rw [z0, l1, l2, l3] at a4
  refine ⟨g4, hrn, ⟨⟨w4 (w3 (w2 (w1 w0))), old _ _ hst, (fun a bs r z => by cases z), (fun b it rs z => by cases z)⟩, ⟨old _ _ hs.1, old _ _ hs.2⟩, by omega, a4, ⟨0, 0, 0, false, s0 0 (by omega), (s0 1 (by omega)).trans (congrArg (fun l => some (100, l)) iar0.symm), by show (O00 h.2.1 (h.2.1 + 3)).2 = 9; unfold O00; rw [if_pos (Or.inl rfl)], fun _ => .null, (s0 2 (by omega)).trans (congrArg (fun l => some (103, l)) mar0.symm), fun v hv => Or.inl ⟨rfl, rfl⟩⟩, ⟨s1 0 (by omega), ⟨fun _ => .null, (s1 1 (by omega)).trans (congrArg (fun l => some (104, l)) par0.symm)⟩, by show (O00 h.2.1 (h.2.1 + 5)).2 = 9; unfold O00; rw [if_pos (Or.inr rfl)], fun _ => 0, (s1 2 (by omega)).trans (congrArg (fun l => some (100, l)) iar0.symm)⟩, ⟨fun _ => 0, 0, s2 0 (by omega), (s2 1 (by omega)).trans (congrArg (fun l => some (100, l)) sarr0.symm)⟩, ⟨T00, fun j hj => (s3 j (by omega)).trans (mcc0 hj).symm, rfl, rfl, rfl, rfl, Or.inl rfl⟩, (fun w z => by cases z)⟩, l4, ?_, old⟩
  rw [z4', z3', z2', z1', z0']
  have e1 : clen (kN g0.2.1) = 77 := by simp only [clen, kN, kcl, List.map_cons, List.map_nil, List.sum_cons, List.sum_nil, List.length_replicate, List.length_cons, List.length_nil]; rfl
  have e2 : clen (pN0 g1.2.1) = 82 := by simp only [clen, pN0, kcl, List.map_cons, List.map_nil, List.sum_cons, List.sum_nil, List.length_replicate, List.length_cons, List.length_nil]; rfl
  have e3 : clen (sN0 g2.2.1) = 402 := by simp only [clen, sN0, kcl, List.map_cons, List.map_nil, List.sum_cons, List.sum_nil, List.length_replicate, List.length_cons, List.length_nil]; rfl
  have e4 : clen (mN0 g3.2.1) = 3212 := by simp only [clen, mN0, kcl, List.map_cons, List.map_nil, List.sum_cons, List.sum_nil, List.length_replicate, List.length_cons, List.length_nil]; rfl
  rw [e1, e2, e3, e4]
end M65
