/-! ===== the class: the converter, small methods ===== -/
def mar (ms : Nat → Value) : List Value := (List.range 10).map ms
theorem mar_len {ms : Nat → Value} : (mar ms).length = 10 := by unfold mar; rw [List.length_map, List.length_range]
theorem mar_at {k : Nat} {ms : Nat → Value} (h : k < 10) : (mar ms)[k]? = some (ms k) := by
  unfold mar
  rw [List.getElem?_map, List.getElem?_range h]; rfl
theorem mar_set {n : Nat} {ms : Nat → Value} {v : Value} : (mar ms).set n v = mar (vup ms n v) := by
  apply List.ext_getElem?
  intro i
  rw [List.getElem?_set]
  by_cases hi : i < 10
  · rw [mar_at hi, mar_at hi]
    by_cases e : n = i
    · rw [if_pos e, mar_len, if_pos (by omega), e]
      unfold vup
      rw [if_pos rfl]
    · rw [if_neg e]
      unfold vup
      rw [if_neg (fun z => e z.symm)]
  · have l1 : (mar ms)[i]? = none := List.getElem?_eq_none (by rw [mar_len]; omega)
    have l2 : (mar (vup ms n v))[i]? = none := List.getElem?_eq_none (by rw [mar_len]; omega)
    rw [l1, l2]
    by_cases e : n = i
    · rw [if_pos e, if_neg (by rw [mar_len]; omega)]
    · rw [if_neg e]
def kcl (kz : Nat) (len : Int32) (at0 : Nat) (fr : Bool) (k dr : Nat) : List Value := [.ref (kz + 1), .int len, .int (nI at0), .ref (kz + 2), .int (bI fr), .int (nI k), .int (nI dr)]
def mnH (h : PH) (M : Mn) (ms : Nat → Value) : Prop := ∀ v, v < 10 → (M v = none ∧ ms v = .null) ∨ ∃ a xa, M v = some a ∧ ms v = .ref xa ∧ AtH h xa a
/-- the converter at kz -/
def KvH (h : PH) (O : Nat → Nat × Nat) (kz : Nat) (cs : Nat → Int32) (len : Int32) (at0 : Nat) (M : Mn) (fr : Bool) (k dr : Nat) : Prop :=
  h.1 kz = some (3, kcl kz len at0 fr k dr) ∧ h.1 (kz + 1) = some (100, iar 60 cs) ∧ (O (kz + 2)).2 = 9 ∧ ∃ ms : Nat → Value, h.1 (kz + 2) = some (103, mar ms) ∧ mnH h M ms
theorem KvH.ch {h h' : PH} {O O' : Nat → Nat × Nat} {kz at0 k dr : Nat} {cs : Nat → Int32} {len : Int32} {M : Mn} {fr : Bool} (hw : Wf h) (x : KvH h O kz cs len at0 M fr k dr) (c : Ch O h O' h') : KvH h' O' kz cs len at0 M fr k dr := by
  obtain ⟨x1, x2, x3, ms, x4, x5⟩ := x
  have f := c.2.2.2
  refine ⟨f _ _ _ x1 (by decide) (by decide) (by decide) (by omega), f _ _ _ x2 (by decide) (by decide) (by decide) (by omega), by rw [c.1 _ (hw _ _ x4)]; exact x3, ms, f _ _ _ x4 (by decide) (by decide) (by decide) (by omega), fun v hv => ?_⟩
  rcases x5 v hv with z | ⟨a, xa, z1, z2, z3⟩
  · exact Or.inl z
  · exact Or.inr ⟨a, xa, z1, z2, z3.fr f⟩
section M51
variable {E : PE} {d : Nat} {h : PH} {O : Nat → Nat × Nat} {G : PG} {kz at0 k dr : Nat} {cs : Nat → Int32} {len : Int32} {M : Mn} {fr : Bool}
/-- a field of the converter is set -/
theorem KvH.put {len' : Int32} {at' k' dr' : Nat} {fr' : Bool} (hG : GH E h O G) (x : KvH h O kz cs len at0 M fr k dr) : KvH (pset h kz (3, kcl kz len' at' fr' k' dr')) O kz cs len' at' M fr' k' dr' ∧ GH E (pset h kz (3, kcl kz len' at' fr' k' dr')) O G ∧ ChP kz (kz + 2) (kz + 2) O h O (pset h kz (3, kcl kz len' at' fr' k' dr')) := by
  obtain ⟨x1, x2, x3, ms, x4, x5⟩ := x
  have ne : ∀ q t fs, h.1 q = some (t, fs) → t ≠ 3 → (pset h kz (3, kcl kz len' at' fr' k' dr')).1 q = some (t, fs) := fun q t fs hq ht => by
    rw [pset_ne]; exact hq
    intro z
    rw [z, x1] at hq; cases hq; exact ht rfl
  refine ⟨⟨pset_at, ne _ _ _ x2 (by decide), x3, ms, ne _ _ _ x4 (by decide), fun v hv => ?_⟩, hG.setn x1 (by unfold gcl; omega), ChP.set (Or.inl rfl)⟩
  rcases x5 v hv with z | ⟨a, xa, z1, z2, z3⟩
  · exact Or.inl z
  · exact Or.inr ⟨a, xa, z1, z2, ne _ _ _ z3.1 (by decide), z3.2⟩
/-- an atom stays -/
theorem KvH.at {q : Nat} {h' : PH} {O' : Nat → Nat × Nat} {v : Int32 × Int32} (x : KvH h O kz cs len at0 M fr k dr) (c : ChP kz (kz + 2) (kz + 2) O h O' h') (hv : AtH h q v) : AtH h' q v := by
  obtain ⟨x1, x2, x3, ms, x4, x5⟩ := x
  obtain ⟨v1, v2⟩ := hv
  exact ⟨c.2.2.2 _ _ _ v1 (by decide) (by decide) (by decide) (by omega) (fun z => by rw [z, x1] at v1; cases v1) (fun z => by rw [z, x4] at v1; cases v1) (fun z => by rw [z, x4] at v1; cases v1), v2⟩
theorem c_nexti (hG : GH E h O G) (x : KvH h O kz cs len at0 M fr k dr) (ha : at0 < 60) : Rn E d 92 [.ref kz] h (some (.int (cs at0))) (pset h kz (3, kcl kz len (at0 + 1) fr k dr)) := by
  obtain ⟨y1, y2, y3, -⟩ := KvH.put (len' := len) (at' := at0 + 1) (fr' := fr) (k' := k) (dr' := dr) hG x
  obtain ⟨⟨z1, z2, z3, ms', z4, z5⟩, -⟩ := KvH.put (len' := len) (at' := at0 + 1) (fr' := fr) (k' := k) (dr' := dr) hG x
  obtain ⟨x1, x2, x3, ms, x4, x5⟩ := x
  refine Rn.of (Nat.le_of_ble_eq_true rfl) ?_
  refine Rk.tr (F1 := (92, 1, _, _)) (x_aload_n rfl rfl rfl) ?_
  refine Rk.tr (F1 := (92, 4, _, _)) (x_getf rfl rfl x1 rfl) ?_
  refine Rk.tr (F1 := (92, 5, _, _)) (x_aload_n rfl rfl rfl) ?_
  refine Rk.tr (F1 := (92, 8, _, _)) (x_getf rfl rfl x1 rfl) ?_
  refine Rk.tr (F1 := (92, 9, _, _)) (x_alen rfl x2 rfl) ?_
  refine Rk.tr (F1 := (92, 9, _, _)) (x_top (congrArg nI iar_len)) ?_
  refine Rk.tr (F1 := (92, 14, _, _)) (x_icT rfl (tg := 14) rfl (show nI at0 < nI 60 from Int32.not_le.mp (nI_ge (by omega) (by omega)))) ?_
  refine Rk.tr (F1 := (92, 15, _, _)) (x_aload_n rfl rfl rfl) ?_
  refine Rk.tr (F1 := (92, 16, _, _)) (x_dup rfl rfl) ?_
  refine Rk.tr (F1 := (92, 19, _, _)) (x_getf rfl rfl x1 rfl) ?_
  refine Rk.tr (F1 := (92, 20, _, _)) (x_iconst rfl) ?_
  refine Rk.tr (F1 := (92, 21, _, _)) (x_iadd rfl) ?_
  refine Rk.tr (F1 := (92, 21, _, _)) (x_top (nI_1 at0)) ?_
  refine Rk.tr (F1 := (92, 24, _, _)) (x_putf rfl rfl x1 rfl rfl rfl) ?_
  refine Rk.tr (F1 := (92, 25, _, _)) (x_aload_n rfl rfl rfl) ?_
  refine Rk.tr (F1 := (92, 28, _, _)) (x_getf rfl rfl z1 rfl) ?_
  refine Rk.tr (F1 := (92, 29, _, _)) (x_aload_n rfl rfl rfl) ?_
  refine Rk.tr (F1 := (92, 32, _, _)) (x_getf rfl rfl z1 rfl) ?_
  refine Rk.tr (F1 := (92, 33, _, _)) (x_iconst rfl) ?_
  refine Rk.tr (F1 := (92, 34, _, _)) (x_isub rfl) ?_
  refine Rk.tr (F1 := (92, 34, _, _)) (x_top (show nI (at0 + 1) - 1 = nI at0 by rw [nI_m1 (by omega)]; rfl)) ?_
  refine Rk.tr (F1 := (92, 35, _, _)) (x_iald (n := at0) rfl z2 rfl rfl (by omega) (iar_at ha)) ?_
  exact Rk.end rfl (Or.inr (Or.inl ⟨rfl, _, .int, rfl, rfl, rfl, rfl⟩))
theorem c_name (hG : GH E h O G) (x : KvH h O kz cs len at0 M fr k dr) : Rn E (d + 1) 95 [.ref kz] h (some (.ref h.2.1)) (pset (mkA h (1, nI k)) kz (3, kcl kz len at0 fr (k + 1) dr)) := by
  have x1n := pnew_old hG.1 (c := (1, pdef 1)) x.1
  have x1m := mkA_old (v := (1, nI k)) hG.1 x.1
  have hat := c_atom0 (E := E) (d := d) (h := pnew h (1, pdef 1)) (n := h.2.1) (fs := pdef 1) (v1 := 1) (v2 := nI k) pnew_at rfl (Or.inr rfl)
  refine Rn.of (Nat.le_of_ble_eq_true rfl) ?_
  refine Rk.tr (F1 := (95, 3, _, _)) (x_new rfl rfl (by decide)) ?_
  refine Rk.tr (F1 := (95, 4, _, _)) (x_dup rfl rfl) ?_
  refine Rk.tr (F1 := (95, 5, _, _)) (x_iconst rfl) ?_
  refine Rk.tr (F1 := (95, 6, _, _)) (x_aload_n rfl rfl rfl) ?_
  refine Rk.tr (F1 := (95, 9, _, _)) (x_getf rfl rfl x1n rfl) ?_
  refine Rk.tr (F1 := (95, 12, _, _)) (x_calli (As := [_, _]) rfl rfl rfl rfl rfl rfl (Nat.le_of_ble_eq_true rfl) hat rfl) ?_
  refine Rk.tr (F1 := (95, 13, [_, _], _)) (x_astore_n (i := 1) rfl (Nat.le_of_ble_eq_true rfl)) ?_
  refine Rk.tr (F1 := (95, 14, _, _)) (x_aload_n rfl rfl rfl) ?_
  refine Rk.tr (F1 := (95, 15, _, _)) (x_dup rfl rfl) ?_
  refine Rk.tr (F1 := (95, 18, _, _)) (x_getf rfl rfl x1m rfl) ?_
  refine Rk.tr (F1 := (95, 19, _, _)) (x_iconst rfl) ?_
  refine Rk.tr (F1 := (95, 20, _, _)) (x_iadd rfl) ?_
  refine Rk.tr (F1 := (95, 20, _, _)) (x_top (nI_1 k)) ?_
  refine Rk.tr (F1 := (95, 23, _, _)) (x_putf rfl rfl x1m rfl rfl rfl) ?_
  refine Rk.tr (F1 := (95, 24, _, _)) (x_aload_n rfl rfl rfl) ?_
  exact Rk.end rfl (Or.inr (Or.inr (Or.inr ⟨rfl, _, _, rfl, Or.inl ⟨_, rfl⟩, Or.inr ⟨_, rfl⟩, rfl, rfl⟩)))
theorem c_mean (hG : GH E h O G) (x : KvH h O kz cs len at0 M fr k dr) {v : Nat} (hv : v < 10) : (∃ a xa, M v = some a ∧ AtH h xa a ∧ Rn E (d + 1) 93 [.ref kz, .int (nI v)] h (some (.ref xa)) h) ∨ (M v = none ∧ Rn E (d + 1) 93 [.ref kz, .int (nI v)] h (some (.ref h.2.1)) (mkA (pset h kz (3, kcl kz len at0 true k dr)) (0, 0))) := by
  obtain ⟨x1, x2, x3, ms, x4, x5⟩ := id x
  rcases x5 v hv with ⟨z1, z2⟩ | ⟨a, xa, z1, z2, z3⟩
  · right
    refine ⟨z1, Rn.of (Nat.le_of_ble_eq_true rfl) ?_⟩
    have hm : (mar ms)[v]? = some .null := (mar_at hv).trans (by rw [z2])
    have hat := c_atom0 (E := E) (d := d) (h := pnew (pset h kz (3, kcl kz len at0 true k dr)) (1, pdef 1)) (n := h.2.1) (fs := pdef 1) (v1 := 0) (v2 := 0) pnew_at rfl (Or.inl rfl)
    refine Rk.tr (F1 := (93, 1, _, _)) (x_aload_n rfl rfl rfl) ?_
    refine Rk.tr (F1 := (93, 4, _, _)) (x_getf rfl rfl x1 rfl) ?_
    refine Rk.tr (F1 := (93, 5, _, _)) (x_iload_n rfl rfl) ?_
    refine Rk.tr (F1 := (93, 6, _, _)) (x_aald (n := v) rfl x4 rfl rfl rfl (by omega) hm) ?_
    refine Rk.tr (F1 := (93, 7, [_, _, _], _)) (x_astore_nN (i := 2) rfl (Nat.le_of_ble_eq_true rfl)) ?_
    refine Rk.tr (F1 := (93, 8, _, _)) (x_aload_n rfl rfl rfl) ?_
    refine Rk.tr (F1 := (93, 11, _, _)) (x_nnullF rfl) ?_
    refine Rk.tr (F1 := (93, 12, _, _)) (x_aload_n rfl rfl rfl) ?_
    refine Rk.tr (F1 := (93, 13, _, _)) (x_iconst rfl) ?_
    refine Rk.tr (F1 := (93, 16, _, _)) (x_putf rfl rfl x1 rfl rfl rfl) ?_
    refine Rk.tr (F1 := (93, 19, _, _)) (x_new rfl rfl (by decide)) ?_
    refine Rk.tr (F1 := (93, 20, _, _)) (x_dup rfl rfl) ?_
    refine Rk.tr (F1 := (93, 21, _, _)) (x_iconst rfl) ?_
    refine Rk.tr (F1 := (93, 22, _, _)) (x_iconst rfl) ?_
    refine Rk.tr (F1 := (93, 25, _, _)) (x_calli (As := [_, _]) rfl rfl rfl rfl rfl rfl (Nat.le_of_ble_eq_true rfl) hat rfl) ?_
    exact Rk.end rfl (Or.inr (Or.inr (Or.inr ⟨rfl, _, _, rfl, Or.inl ⟨_, rfl⟩, Or.inr ⟨_, rfl⟩, rfl, rfl⟩)))
  · left
    refine ⟨a, xa, z1, z3, Rn.of (Nat.le_of_ble_eq_true rfl) ?_⟩
    have hm : (mar ms)[v]? = some (.ref xa) := (mar_at hv).trans (by rw [z2])
    refine Rk.tr (F1 := (93, 1, _, _)) (x_aload_n rfl rfl rfl) ?_
    refine Rk.tr (F1 := (93, 4, _, _)) (x_getf rfl rfl x1 rfl) ?_
    refine Rk.tr (F1 := (93, 5, _, _)) (x_iload_n rfl rfl) ?_
    refine Rk.tr (F1 := (93, 6, _, _)) (x_aald (n := v) rfl x4 rfl rfl rfl (by omega) hm) ?_
    refine Rk.tr (F1 := (93, 7, [_, _, _], _)) (x_astore_n (i := 2) rfl (Nat.le_of_ble_eq_true rfl)) ?_
    refine Rk.tr (F1 := (93, 8, _, _)) (x_aload_n rfl rfl rfl) ?_
    refine Rk.tr (F1 := (93, 26, _, _)) (x_nnullT rfl (tg := 26) rfl) ?_
    refine Rk.tr (F1 := (93, 27, _, _)) (x_aload_n rfl rfl rfl) ?_
    exact Rk.end rfl (Or.inr (Or.inr (Or.inr ⟨rfl, _, _, rfl, Or.inl ⟨_, rfl⟩, Or.inr ⟨_, rfl⟩, rfl, rfl⟩)))
theorem c_typeY (hG : GH E h O G) {n : Nat} (x : KvH h O kz cs (nI n) at0 M fr k dr) {v : Int32} (hn : n < 60) : Rn E d 86 [.ref kz, .int v] h (some (.int 1)) (pset (pset h (kz + 1) (100, iar 60 (rup cs n v))) kz (3, kcl kz (nI (n + 1)) at0 fr k dr)) := by
  obtain ⟨x1, x2, x3, ms, x4, x5⟩ := id x
  have x1' : (pset h (kz + 1) (100, iar 60 (rup cs n v))).1 kz = some (3, kcl kz (nI n) at0 fr k dr) := (pset_ne (by omega)).trans x1
  refine Rn.of (Nat.le_of_ble_eq_true rfl) ?_
  refine Rk.tr (F1 := (86, 1, _, _)) (x_aload_n rfl rfl rfl) ?_
  refine Rk.tr (F1 := (86, 4, _, _)) (x_getf rfl rfl x1 rfl) ?_
  refine Rk.tr (F1 := (86, 6, _, _)) (x_bipush rfl) ?_
  refine Rk.tr (F1 := (86, 11, _, _)) (x_icT rfl (tg := 11) rfl (show nI n < nI 60 from Int32.not_le.mp (nI_ge (by omega) (by omega)))) ?_
  refine Rk.tr (F1 := (86, 12, _, _)) (x_aload_n rfl rfl rfl) ?_
  refine Rk.tr (F1 := (86, 15, _, _)) (x_getf rfl rfl x1 rfl) ?_
  refine Rk.tr (F1 := (86, 16, _, _)) (x_aload_n rfl rfl rfl) ?_
  refine Rk.tr (F1 := (86, 19, _, _)) (x_getf rfl rfl x1 rfl) ?_
  refine Rk.tr (F1 := (86, 20, _, _)) (x_iload_n rfl rfl) ?_
  refine Rk.tr (F1 := (86, 21, _, _)) (x_iasti (n := n) rfl x2 rfl (by omega) hn) ?_
  refine Rk.tr (F1 := (86, 22, _, _)) (x_aload_n rfl rfl rfl) ?_
  refine Rk.tr (F1 := (86, 23, _, _)) (x_dup rfl rfl) ?_
  refine Rk.tr (F1 := (86, 26, _, _)) (x_getf rfl rfl x1' rfl) ?_
  refine Rk.tr (F1 := (86, 27, _, _)) (x_iconst rfl) ?_
  refine Rk.tr (F1 := (86, 28, _, _)) (x_iadd rfl) ?_
  refine Rk.tr (F1 := (86, 28, _, _)) (x_top (nI_1 n)) ?_
  refine Rk.tr (F1 := (86, 31, _, _)) (x_putf rfl rfl x1' rfl rfl rfl) ?_
  refine Rk.tr (F1 := (86, 32, _, _)) (x_iconst rfl) ?_
  exact Rk.end rfl (Or.inr (Or.inl ⟨rfl, _, .boolean, rfl, rfl, rfl, rfl⟩))
theorem c_typeN (x : KvH h O kz cs (nI 60) at0 M fr k dr) {v : Int32} : Rn E d 86 [.ref kz, .int v] h (some (.int 0)) h := by
  obtain ⟨x1, x2, x3, ms, x4, x5⟩ := id x
  refine Rn.of (Nat.le_of_ble_eq_true rfl) ?_
  refine Rk.tr (F1 := (86, 1, _, _)) (x_aload_n rfl rfl rfl) ?_
  refine Rk.tr (F1 := (86, 4, _, _)) (x_getf rfl rfl x1 rfl) ?_
  refine Rk.tr (F1 := (86, 6, _, _)) (x_bipush rfl) ?_
  refine Rk.tr (F1 := (86, 9, _, _)) (x_icF rfl (tg := 11) rfl (show ¬ nI 60 < nI 60 from Int32.not_lt.mpr (nI_le (by omega) (by omega)))) ?_
  refine Rk.tr (F1 := (86, 10, _, _)) (x_iconst rfl) ?_
  exact Rk.end rfl (Or.inr (Or.inl ⟨rfl, _, .boolean, rfl, rfl, rfl, rfl⟩))
theorem c_bnd0 {n : Nat} {fs : List Value} {i1 i2 i3 : Int32} {a b : Nat} (hn : h.1 n = some (2, fs)) (hl : fs.length = 5) : Rn E d 66 [.ref n, .int i1, .int i2, .int i3, .ref a, .ref b] h none (pset h n (2, [.int i1, .int i2, .int i3, .ref a, .ref b])) := by
  match fs, hl with
  | [f1, f2, f3, f4, f5], _ =>
    have e : pset (pset (pset (pset (pset h n (2, [.int i1, f2, f3, f4, f5])) n (2, [.int i1, .int i2, f3, f4, f5])) n (2, [.int i1, .int i2, .int i3, f4, f5])) n (2, [.int i1, .int i2, .int i3, .ref a, f5])) n (2, [.int i1, .int i2, .int i3, .ref a, .ref b]) = pset h n (2, [.int i1, .int i2, .int i3, .ref a, .ref b]) := by simp only [pset2]
    rw [← e]
    refine Rn.of (Nat.le_of_ble_eq_true rfl) ?_
    refine Rk.tr (F1 := (66, 1, _, _)) (x_aload_n rfl rfl rfl) ?_
    refine Rk.tr (F1 := (66, 4, _, _)) (x_obj rfl rfl rfl (by decide)) ?_
    refine Rk.tr (F1 := (66, 5, _, _)) (x_aload_n rfl rfl rfl) ?_
    refine Rk.tr (F1 := (66, 6, _, _)) (x_iload_n rfl rfl) ?_
    refine Rk.tr (F1 := (66, 9, _, _)) (x_putf rfl rfl hn rfl rfl rfl) ?_
    refine Rk.tr (F1 := (66, 10, _, _)) (x_aload_n rfl rfl rfl) ?_
    refine Rk.tr (F1 := (66, 11, _, _)) (x_iload_n rfl rfl) ?_
    refine Rk.tr (F1 := (66, 14, _, _)) (x_putf rfl rfl pset_at rfl rfl rfl) ?_
    refine Rk.tr (F1 := (66, 15, _, _)) (x_aload_n rfl rfl rfl) ?_
    refine Rk.tr (F1 := (66, 16, _, _)) (x_iload_n rfl rfl) ?_
    refine Rk.tr (F1 := (66, 19, _, _)) (x_putf rfl rfl pset_at rfl rfl rfl) ?_
    refine Rk.tr (F1 := (66, 20, _, _)) (x_aload_n rfl rfl rfl) ?_
    refine Rk.tr (F1 := (66, 22, _, _)) (x_aload rfl rfl rfl) ?_
    refine Rk.tr (F1 := (66, 25, _, _)) (x_putf rfl rfl pset_at rfl rfl rfl) ?_
    refine Rk.tr (F1 := (66, 26, _, _)) (x_aload_n rfl rfl rfl) ?_
    refine Rk.tr (F1 := (66, 28, _, _)) (x_aload rfl rfl rfl) ?_
    refine Rk.tr (F1 := (66, 31, _, _)) (x_putf rfl rfl pset_at rfl rfl rfl) ?_
    exact Rk.end rfl (Or.inl ⟨rfl, rfl, rfl, rfl⟩)
theorem c_coll {n : Nat} : Rn E d 124 [.ref n] h none h := by
  refine Rn.of (Nat.le_of_ble_eq_true rfl) ?_
  refine Rk.tr (F1 := (124, 1, _, _)) (x_aload_n rfl rfl rfl) ?_
  refine Rk.tr (F1 := (124, 4, _, _)) (x_obj rfl rfl rfl (by decide)) ?_
  exact Rk.end rfl (Or.inl ⟨rfl, rfl, rfl, rfl⟩)
theorem c_alist {n : Nat} {v2 v3 v1 : Value} (hn : h.1 n = some (0, [v1, v2, v3])) : Rn E (d + 1) 125 [.ref n] h none (pset h n (0, [.int 0, v2, v3])) := by
  refine Rn.of (Nat.le_of_ble_eq_true rfl) ?_
  refine Rk.tr (F1 := (125, 1, _, _)) (x_aload_n rfl rfl rfl) ?_
  refine Rk.tr (F1 := (125, 4, _, _)) (x_calli (As := []) rfl rfl rfl rfl rfl rfl (Nat.le_of_ble_eq_true rfl) c_coll rfl) ?_
  refine Rk.tr (F1 := (125, 5, _, _)) (x_aload_n rfl rfl rfl) ?_
  refine Rk.tr (F1 := (125, 6, _, _)) (x_iconst rfl) ?_
  refine Rk.tr (F1 := (125, 9, _, _)) (x_putf rfl rfl hn rfl rfl rfl) ?_
  exact Rk.end rfl (Or.inl ⟨rfl, rfl, rfl, rfl⟩)
theorem c_list {n : Nat} {v2 v3 v1 : Value} (hn : h.1 n = some (0, [v1, v2, v3])) : Rn E (d + 2) 126 [.ref n] h none (pset h n (0, [.int 0, .ref (E.2.1 2), v3])) := by
  have e : pset (pset h n (0, [.int 0, v2, v3])) n (0, [.int 0, .ref (E.2.1 2), v3]) = pset h n (0, [.int 0, .ref (E.2.1 2), v3]) := pset2
  rw [← e]
  have ca := c_alist (E := E) (d := d) hn
  refine Rn.of (Nat.le_of_ble_eq_true rfl) ?_
  refine Rk.tr (F1 := (126, 1, _, _)) (x_aload_n rfl rfl rfl) ?_
  refine Rk.tr (F1 := (126, 4, _, _)) (x_calli (As := []) rfl rfl rfl rfl rfl rfl (Nat.le_of_ble_eq_true rfl) ca rfl) ?_
  refine Rk.tr (F1 := (126, 5, _, _)) (x_aload_n rfl rfl rfl) ?_
  refine Rk.tr (F1 := (126, 8, _, _)) (x_gets rfl rfl) ?_
  refine Rk.tr (F1 := (126, 11, _, _)) (x_putf rfl rfl pset_at rfl rfl rfl) ?_
  exact Rk.end rfl (Or.inl ⟨rfl, rfl, rfl, rfl⟩)
/-- a new row -/
def mkR (h : PH) (s : Nat) : PH := (fun q => if q = h.2.1 then some (7, [.ref (h.2.1 + 1), .ref (h.2.1 + 2)]) else if q = h.2.1 + 1 then some (0, [.int 0, .ref s, .int 0]) else if q = h.2.1 + 2 then some (1, [.int 0, .int 0]) else h.1 q, h.2.1 + 3, h.2.2 + 7)
theorem c_row0 : Rn E (d + 3) 75 [.ref h.2.1] (pnew h (7, pdef 7)) none (mkR h (E.2.1 2)) := by
  have n1 : (pnew h (7, pdef 7)).2.1 = h.2.1 + 1 := rfl
  have a0 : (pnew (pnew h (7, pdef 7)) (0, pdef 0)).1 (h.2.1 + 1) = some (0, [.int 0, .null, .int 0]) := pnew_at
  have cl := c_list (E := E) (d := d) a0
  have r0 : (pset (pnew (pnew h (7, pdef 7)) (0, pdef 0)) (h.2.1 + 1) (0, [.int 0, .ref (E.2.1 2), .int 0])).1 h.2.1 = some (7, [.null, .null]) := ((pset_ne (by omega)).trans (pnew_ne (by show h.2.1 ≠ h.2.1 + 1; omega))).trans pnew_at
  generalize hg : pset (pset (pnew (pnew h (7, pdef 7)) (0, pdef 0)) (h.2.1 + 1) (0, [.int 0, .ref (E.2.1 2), .int 0])) h.2.1 (7, [.ref (h.2.1 + 1), .null]) = g
  have gs : g.2.1 = h.2.1 + 2 := by rw [← hg]; rfl
  have r1 : g.1 h.2.1 = some (7, [.ref (h.2.1 + 1), .null]) := by rw [← hg]; exact pset_at
  have hat := c_atom0 (E := E) (d := d + 2) (h := pnew g (1, pdef 1)) (n := g.2.1) (fs := pdef 1) (v1 := 0) (v2 := 0) pnew_at rfl (Or.inl rfl)
  have r2 : (pset (pnew g (1, pdef 1)) g.2.1 (1, [.int 0, .int 0])).1 h.2.1 = some (7, [.ref (h.2.1 + 1), .null]) := ((pset_ne (by omega)).trans (pnew_ne (by omega))).trans r1
  have ef : pset (pset (pnew g (1, pdef 1)) g.2.1 (1, [.int 0, .int 0])) h.2.1 (7, [.ref (h.2.1 + 1), .ref g.2.1]) = mkR h (E.2.1 2) := by
    refine Prod.ext (funext fun q => ?_) (Prod.ext ?_ ?_)
    · show (if q = h.2.1 then _ else if q = g.2.1 then _ else if q = g.2.1 then _ else g.1 q) = _
      rw [gs, ← hg]
      show (if q = h.2.1 then some (7, [.ref (h.2.1 + 1), .ref (h.2.1 + 2)]) else if q = h.2.1 + 2 then some (1, [.int 0, .int 0]) else if q = h.2.1 + 2 then some (1, pdef 1) else if q = h.2.1 then some (7, [.ref (h.2.1 + 1), .null]) else if q = h.2.1 + 1 then some (0, [.int 0, .ref (E.2.1 2), .int 0]) else if q = h.2.1 + 1 then some (0, pdef 0) else if q = h.2.1 then some (7, pdef 7) else h.1 q) = (if q = h.2.1 then some (7, [.ref (h.2.1 + 1), .ref (h.2.1 + 2)]) else if q = h.2.1 + 1 then some (0, [.int 0, .ref (E.2.1 2), .int 0]) else if q = h.2.1 + 2 then some (1, [.int 0, .int 0]) else h.1 q)
      by_cases q0 : q = h.2.1
      · simp only [if_pos q0]
      · by_cases q1 : q = h.2.1 + 1
        · have q2 : ¬ q = h.2.1 + 2 := by omega
          simp only [if_neg q0, if_pos q1, if_neg q2]
        · by_cases q2 : q = h.2.1 + 2
          · simp only [if_neg q0, if_neg q1, if_pos q2]
          · simp only [if_neg q0, if_neg q1, if_neg q2]
    · show g.2.1 + 1 = h.2.1 + 3
      omega
    · show g.2.2 + (pdef 1).length = h.2.2 + 7
      rw [← hg]
      rfl
  rw [← ef]
  subst hg
  refine Rn.of (Nat.le_of_ble_eq_true rfl) ?_
  refine Rk.tr (F1 := (75, 1, _, _)) (x_aload_n rfl rfl rfl) ?_
  refine Rk.tr (F1 := (75, 4, _, _)) (x_obj rfl rfl rfl (by decide)) ?_
  refine Rk.tr (F1 := (75, 5, _, _)) (x_aload_n rfl rfl rfl) ?_
  refine Rk.tr (F1 := (75, 8, _, _)) (x_new rfl rfl (by decide)) ?_
  refine Rk.tr (F1 := (75, 9, _, _)) (x_dup rfl rfl) ?_
  refine Rk.tr (F1 := (75, 12, _, _)) (x_calli (As := []) rfl rfl rfl rfl rfl rfl (Nat.le_of_ble_eq_true rfl) cl rfl) ?_
  refine Rk.tr (F1 := (75, 15, _, _)) (x_putf rfl rfl r0 rfl rfl rfl) ?_
  refine Rk.tr (F1 := (75, 16, _, _)) (x_aload_n rfl rfl rfl) ?_
  refine Rk.tr (F1 := (75, 19, _, _)) (x_new rfl rfl (by decide)) ?_
  refine Rk.tr (F1 := (75, 20, _, _)) (x_dup rfl rfl) ?_
  refine Rk.tr (F1 := (75, 21, _, _)) (x_iconst rfl) ?_
  refine Rk.tr (F1 := (75, 22, _, _)) (x_iconst rfl) ?_
  refine Rk.tr (F1 := (75, 25, _, _)) (x_calli (As := [_, _]) rfl rfl rfl rfl rfl rfl (Nat.le_of_ble_eq_true rfl) hat rfl) ?_
  refine Rk.tr (F1 := (75, 28, _, _)) (x_putf rfl rfl r2 rfl rfl rfl) ?_
  exact Rk.end rfl (Or.inl ⟨rfl, rfl, rfl, rfl⟩)
end M51
