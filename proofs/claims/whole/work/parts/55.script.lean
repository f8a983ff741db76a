/-! ===== the class: a program written as numbers ===== -/
def sarr (T : Nat → Int32) : List Value := (List.range 400).map (fun k => .int (T k))
/-- the script at z, its numbers at nu -/
def sch (g : PH) (z nu : Nat) (T : Nat → Int32) (n : Nat) : PH := pset (pset g nu (100, sarr T)) z (8, [.ref nu, .int (nI n)])
theorem sarr_len (T : Nat → Int32) : (sarr T).length = 400 := by unfold sarr; rw [List.length_map, List.length_range]
theorem sarr_at {T : Nat → Int32} {k : Nat} (h : k < 400) : (sarr T)[k]? = some (.int (T k)) := by
  unfold sarr
  rw [List.getElem?_map, List.getElem?_range h]; rfl
theorem sarr_set (T : Nat → Int32) (n : Nat) (x : Int32) : (sarr T).set n (.int x) = sarr (rup T n x) := by
  apply List.ext_getElem?
  intro i
  rw [List.getElem?_set]
  by_cases hi : i < 400
  · rw [sarr_at hi, sarr_at hi]
    by_cases e : n = i
    · rw [if_pos e, sarr_len, if_pos (by omega), e]
      unfold rup
      rw [if_pos rfl]
    · rw [if_neg e]
      unfold rup
      rw [if_neg (fun z => e z.symm)]
  · have l1 : (sarr T)[i]? = none := List.getElem?_eq_none (by rw [sarr_len]; omega)
    have l2 : (sarr (rup T n x))[i]? = none := List.getElem?_eq_none (by rw [sarr_len]; omega)
    rw [l1, l2]
    by_cases e : n = i
    · rw [if_pos e, if_neg (by rw [sarr_len]; omega)]
    · rw [if_neg e]
section M32
variable {E : PE} {d : Nat} {g : PH} {z nu : Nat} {O : Nat → Nat × Nat} {G : PG}
theorem sch_z {T : Nat → Int32} {n : Nat} : (sch g z nu T n).1 z = some (8, [.ref nu, .int (nI n)]) := pset_at
theorem sch_n (hz : z ≠ nu) {T : Nat → Int32} {n : Nat} : (sch g z nu T n).1 nu = some (100, sarr T) := (pset_ne (Ne.symm hz)).trans pset_at
theorem sch_next (hz : z ≠ nu) {T : Nat → Int32} {n : Nat} {x : Int32} : pset (pset (sch g z nu T n) nu (100, (sarr T).set n (.int x))) z (8, [.ref nu, .int (nI (n + 1))]) = sch g z nu (rup T n x) (n + 1) := by
  rw [sarr_set]
  unfold sch pset
  refine Prod.ext (funext fun q => ?_) rfl
  show (if q = z then _ else if q = nu then _ else if q = z then _ else if q = nu then _ else g.1 q) = (if q = z then _ else if q = nu then _ else g.1 q)
  by_cases q1 : q = z
  · rw [if_pos q1, if_pos q1]
  · by_cases q2 : q = nu
    · rw [if_neg q1, if_pos q2, if_neg q1, if_pos q2]
    · rw [if_neg q1, if_neg q2, if_neg q1, if_neg q2, if_neg q1, if_neg q2]
theorem c_sput (hz : z ≠ nu) {T : Nat → Int32} {n : Nat} {x : Int32} (hn : n < 400) : Rn E d 73 [.ref z, .int x] (sch g z nu T n) none (sch g z nu (rup T n x) (n + 1)) := by
  rw [← sch_next hz]
  refine Rn.of (Nat.le_of_ble_eq_true rfl) ?_
  refine Rk.tr (F1 := (73, 1, _, _)) (x_aload_n rfl rfl rfl) ?_
  refine Rk.tr (F1 := (73, 4, _, _)) (x_getf rfl rfl sch_z rfl) ?_
  refine Rk.tr (F1 := (73, 7, _, _)) (x_sipush rfl) ?_
  refine Rk.tr (F1 := (73, 10, _, _)) (x_icF rfl (tg := 30) rfl (show ¬ nI 400 ≤ nI n from nI_ge (by omega) (by omega))) ?_
  refine Rk.tr (F1 := (73, 11, _, _)) (x_aload_n rfl rfl rfl) ?_
  refine Rk.tr (F1 := (73, 14, _, _)) (x_getf rfl rfl sch_z rfl) ?_
  refine Rk.tr (F1 := (73, 15, _, _)) (x_aload_n rfl rfl rfl) ?_
  refine Rk.tr (F1 := (73, 18, _, _)) (x_getf rfl rfl sch_z rfl) ?_
  refine Rk.tr (F1 := (73, 19, _, _)) (x_iload_n rfl rfl) ?_
  refine Rk.tr (F1 := (73, 20, _, _)) (x_iast (n := n) rfl (sch_n hz) rfl (by decide) rfl (by omega) (by rw [sarr_len]; exact hn)) ?_
  refine Rk.tr (F1 := (73, 21, _, _)) (x_aload_n rfl rfl rfl) ?_
  refine Rk.tr (F1 := (73, 22, _, _)) (x_dup rfl rfl) ?_
  refine Rk.tr (F1 := (73, 25, _, _)) (x_getf rfl rfl ((pset_ne hz).trans sch_z) rfl) ?_
  refine Rk.tr (F1 := (73, 26, _, _)) (x_iconst rfl) ?_
  refine Rk.tr (F1 := (73, 27, _, _)) (x_iadd rfl) ?_
  refine Rk.tr (F1 := (73, 27, _, _)) (x_top (nI_1 n)) ?_
  refine Rk.tr (F1 := (73, 30, _, _)) (x_putf rfl rfl ((pset_ne hz).trans sch_z) rfl rfl rfl) ?_
  exact Rk.end rfl (Or.inl ⟨rfl, rfl, rfl, rfl⟩)
theorem c_satom (hz : z ≠ nu) {T : Nat → Int32} {n y : Nat} {v : Int32 × Int32} (hn : n + 1 < 400) (hy : ∀ T k, AtH (sch g z nu T k) y v) : Rn E (d + 1) 74 [.ref z, .ref y] (sch g z nu T n) none (sch g z nu (rup (rup T n v.1) (n + 1) v.2) (n + 2)) := by
  obtain ⟨v1, v2⟩ := v
  have p1 := c_sput (E := E) (d := d) (g := g) hz (T := T) (n := n) (x := v1) (by omega)
  have p2 := c_sput (E := E) (d := d) (g := g) hz (T := rup T n v1) (n := n + 1) (x := v2) (by omega)
  have y0 := (hy T n).1
  have y1 := (hy (rup T n v1) (n + 1)).1
  refine Rn.of (Nat.le_of_ble_eq_true rfl) ?_
  rcases (hy T n).2 with h0 | h0
  · simp only at h0
    subst h0
    refine Rk.tr (F1 := (74, 1, _, _)) (x_aload_n rfl rfl rfl) ?_
    refine Rk.tr (F1 := (74, 2, _, _)) (x_aload_n rfl rfl rfl) ?_
    refine Rk.tr (F1 := (74, 5, _, _)) (x_getf rfl rfl y0 rfl) ?_
    refine Rk.tr (F1 := (74, 12, _, _)) (x_ifT rfl (tg := 12) rfl rfl) ?_
    refine Rk.tr (F1 := (74, 13, _, _)) (x_iconst rfl) ?_
    refine Rk.tr (F1 := (74, 16, _, _)) (x_callv (As := [_]) rfl rfl rfl (Or.inr rfl) rfl rfl sch_z (by decide) rfl (Nat.le_of_ble_eq_true rfl) p1 rfl) ?_
    refine Rk.tr (F1 := (74, 17, _, _)) (x_aload_n rfl rfl rfl) ?_
    refine Rk.tr (F1 := (74, 18, _, _)) (x_aload_n rfl rfl rfl) ?_
    refine Rk.tr (F1 := (74, 21, _, _)) (x_getf rfl rfl y1 rfl) ?_
    refine Rk.tr (F1 := (74, 24, _, _)) (x_callv (As := [_]) rfl rfl rfl (Or.inr rfl) rfl rfl sch_z (by decide) rfl (Nat.le_of_ble_eq_true rfl) p2 rfl) ?_
    exact Rk.end rfl (Or.inl ⟨rfl, rfl, rfl, rfl⟩)
  · simp only at h0
    subst h0
    refine Rk.tr (F1 := (74, 1, _, _)) (x_aload_n rfl rfl rfl) ?_
    refine Rk.tr (F1 := (74, 2, _, _)) (x_aload_n rfl rfl rfl) ?_
    refine Rk.tr (F1 := (74, 5, _, _)) (x_getf rfl rfl y0 rfl) ?_
    refine Rk.tr (F1 := (74, 8, _, _)) (x_ifF rfl (tg := 12) rfl (show ¬ (1 : Int32) = 0 by decide)) ?_
    refine Rk.tr (F1 := (74, 9, _, _)) (x_iconst rfl) ?_
    refine Rk.tr (F1 := (74, 13, _, _)) (x_goto rfl rfl) ?_
    refine Rk.tr (F1 := (74, 16, _, _)) (x_callv (As := [_]) rfl rfl rfl (Or.inr rfl) rfl rfl sch_z (by decide) rfl (Nat.le_of_ble_eq_true rfl) p1 rfl) ?_
    refine Rk.tr (F1 := (74, 17, _, _)) (x_aload_n rfl rfl rfl) ?_
    refine Rk.tr (F1 := (74, 18, _, _)) (x_aload_n rfl rfl rfl) ?_
    refine Rk.tr (F1 := (74, 21, _, _)) (x_getf rfl rfl y1 rfl) ?_
    refine Rk.tr (F1 := (74, 24, _, _)) (x_callv (As := [_]) rfl rfl rfl (Or.inr rfl) rfl rfl sch_z (by decide) rfl (Nat.le_of_ble_eq_true rfl) p2 rfl) ?_
    exact Rk.end rfl (Or.inl ⟨rfl, rfl, rfl, rfl⟩)
/-- a binding's own numbers -/
theorem t_bhead (hz : z ≠ nu) (hG : ∀ T k, GH E (sch g z nu T k) O G) {b : Nat} {it : It} {rs : List Nat} {dp : Int32} (hb : G.2 b = some (it, rs)) (h9 : it.1 ≠ 9) {T : Nat → Int32} {n : Nat} (hn : n + isz it ≤ 400) :
    ∃ T', Ex E (d + 2) (72, 0, [some (.ref z), some (.ref b), some (.int dp), none, none, none, none], []) (sch g z nu T n) (72, 83, [some (.ref z), some (.ref b), some (.int dp), none, none, none, none], []) (sch g z nu T' (n + isz it)) ∧ Tok1 T' n it ∧ ∀ j, j < n → T' j = T j := by
  obtain ⟨k, nm, dt0, v1, v2⟩ := it
  have cell : ∃ (at0 ar : Nat) (xs : List Nat) (dt : Int32), (∀ T k0, (sch g z nu T k0).1 b = some (2, [.int nm, .int (ikd (k, nm, dt0, v1, v2)), .int dt, .ref at0, .ref ar])) ∧ (k = 2 ∨ k = 5 → dt = dt0) ∧ (∀ T k0, (sch g z nu T k0).1 at0 = some (103, refs xs)) ∧ xs.length = iat (k, nm, dt0, v1, v2) ∧ (∀ j x, xs[j]? = some x → ∀ T k0, AtH (sch g z nu T k0) x (iatm (k, nm, dt0, v1, v2) j)) := by
    obtain ⟨at0, ar, xs, dt, b1, b2, b3, b4, b5, b6, b7, b8⟩ := (hG T n).2.2.2 b _ rs hb
    have same : ∀ q t fs, (sch g z nu T n).1 q = some (t, fs) → t ≠ 8 → t ≠ 100 → ∀ T' k', (sch g z nu T' k').1 q = some (t, fs) := fun q t fs hq e1 e2 T' k' => by
      have q1 : q ≠ z := fun e => by rw [e, sch_z] at hq; cases hq; exact e1 rfl
      have q2 : q ≠ nu := fun e => by rw [e, sch_n hz] at hq; cases hq; exact e2 rfl
      have a1 : (sch g z nu T n).1 q = g.1 q := (pset_ne q1).trans (pset_ne q2)
      have a2 : (sch g z nu T' k').1 q = g.1 q := (pset_ne q1).trans (pset_ne q2)
      rw [a2, ← a1]; exact hq
    exact ⟨at0, ar, xs, dt, same _ _ _ b1 (by decide) (by decide), b2, same _ _ _ b3 (by decide) (by decide), b4, fun j x hj T' k' => ⟨same _ _ _ (b5 j x hj).1 (by decide) (by decide) T' k', (b5 j x hj).2⟩⟩
  obtain ⟨at0, ar, xs, dt, b1, b2, b3, b4, b5⟩ := cell
  rcases kd5 k with rfl | rfl | rfl | rfl | ⟨n2, n3, n5, n9⟩
  · have e4 : isz (2, nm, dt0, v1, v2) = 4 := rfl
    rw [e4] at hn ⊢
    have ed : dt = dt0 := b2 (Or.inl rfl)
    subst ed
    have ex : xs = [] := List.length_eq_zero_iff.mp b4
    subst ex
    refine ⟨rup (rup (rup (rup T n 8) (n + 1) nm) (n + 2) 2) (n + 3) dt, ?_, ?_, ?_⟩
    · refine Ex.tr (F1 := (72, 1, _, _)) (x_aload_n rfl rfl rfl) ?_
      refine Ex.tr (F1 := (72, 3, _, _)) (x_bipush rfl) ?_
      refine Ex.tr (F1 := (72, 6, _, _)) (x_callv (As := [_]) rfl rfl rfl (Or.inr rfl) rfl rfl sch_z (by decide) rfl (Nat.le_of_ble_eq_true rfl) (c_sput (E := E) (d := d + 1) (g := g) hz (T := _) (n := n) (by omega)) rfl) ?_
      refine Ex.tr (F1 := (72, 7, _, _)) (x_aload_n rfl rfl rfl) ?_
      refine Ex.tr (F1 := (72, 8, _, _)) (x_aload_n rfl rfl rfl) ?_
      refine Ex.tr (F1 := (72, 11, _, _)) (x_getf rfl rfl (b1 _ _) rfl) ?_
      refine Ex.tr (F1 := (72, 14, _, _)) (x_callv (As := [_]) rfl rfl rfl (Or.inr rfl) rfl rfl sch_z (by decide) rfl (Nat.le_of_ble_eq_true rfl) (c_sput (E := E) (d := d + 1) (g := g) hz (T := _) (n := n + 1) (by omega)) rfl) ?_
      refine Ex.tr (F1 := (72, 15, _, _)) (x_aload_n rfl rfl rfl) ?_
      refine Ex.tr (F1 := (72, 16, _, _)) (x_aload_n rfl rfl rfl) ?_
      refine Ex.tr (F1 := (72, 19, _, _)) (x_getf rfl rfl (b1 _ _) rfl) ?_
      refine Ex.tr (F1 := (72, 22, _, _)) (x_callv (As := [_]) rfl rfl rfl (Or.inr rfl) rfl rfl sch_z (by decide) rfl (Nat.le_of_ble_eq_true rfl) (c_sput (E := E) (d := d + 1) (g := g) hz (T := _) (n := n + 2) (by omega)) rfl) ?_
      refine Ex.tr (F1 := (72, 23, _, _)) (x_aload_n rfl rfl rfl) ?_
      refine Ex.tr (F1 := (72, 26, _, _)) (x_getf rfl rfl (b1 _ _) rfl) ?_
      refine Ex.tr (F1 := (72, 27, _, _)) (x_iconst rfl) ?_
      refine Ex.tr (F1 := (72, 38, _, _)) (x_icT rfl (tg := 38) rfl rfl) ?_
      refine Ex.tr (F1 := (72, 39, _, _)) (x_aload_n rfl rfl rfl) ?_
      refine Ex.tr (F1 := (72, 40, _, _)) (x_aload_n rfl rfl rfl) ?_
      refine Ex.tr (F1 := (72, 43, _, _)) (x_getf rfl rfl (b1 _ _) rfl) ?_
      refine Ex.tr (F1 := (72, 46, _, _)) (x_callv (As := [_]) rfl rfl rfl (Or.inr rfl) rfl rfl sch_z (by decide) rfl (Nat.le_of_ble_eq_true rfl) (c_sput (E := E) (d := d + 1) (g := g) hz (T := _) (n := n + 3) (by omega)) rfl) ?_
      refine Ex.tr (F1 := (72, 47, _, _)) (x_aload_n rfl rfl rfl) ?_
      refine Ex.tr (F1 := (72, 50, _, _)) (x_getf rfl rfl (b1 _ _) rfl) ?_
      refine Ex.tr (F1 := (72, 51, [_, _, _, _, _, _, _], _)) (x_astore_n (i := 3) rfl (Nat.le_of_ble_eq_true rfl)) ?_
      refine Ex.tr (F1 := (72, 52, _, _)) (x_aload_n rfl rfl rfl) ?_
      refine Ex.tr (F1 := (72, 53, _, _)) (x_alen rfl (b3 _ _) rfl) ?_
      refine Ex.tr (F1 := (72, 55, [_, _, _, _, _, _, _], _)) (x_istore (i := 4) rfl (Nat.le_of_ble_eq_true rfl)) ?_
      refine Ex.tr (F1 := (72, 56, _, _)) (x_iconst rfl) ?_
      refine Ex.tr (F1 := (72, 58, [_, _, _, _, _, _, _], _)) (x_istore (i := 5) rfl (Nat.le_of_ble_eq_true rfl)) ?_
      refine Ex.tr (F1 := (72, 60, _, _)) (x_iload rfl rfl) ?_
      refine Ex.tr (F1 := (72, 62, _, _)) (x_iload rfl rfl) ?_
      refine Ex.tr (F1 := (72, 83, _, _)) (x_icT rfl (tg := 83) rfl (show nI 0 ≤ nI 0 from Int32.le_refl _)) ?_
      exact x_wk ⟨Or.inr rfl, Or.inr rfl, Or.inr rfl, Or.inl rfl, Or.inl rfl, Or.inl rfl, Or.inl rfl, trivial⟩
    · simp [Tok1, rup]
    · intro j hj
      simp only [rup]
      rw [if_neg (by omega), if_neg (by omega), if_neg (by omega), if_neg (by omega)]
  · have e4 : isz (3, nm, dt0, v1, v2) = 7 := rfl
    rw [e4] at hn ⊢
    obtain ⟨x1, x2, ex⟩ : ∃ x1 x2, xs = [x1, x2] := by
      match xs, b4 with
      | [x1, x2], _ => exact ⟨x1, x2, rfl⟩
    subst ex
    have y1 := fun T k => b5 0 x1 rfl T k
    have y2 := fun T k => b5 1 x2 rfl T k
    refine ⟨rup (rup (rup (rup (rup (rup (rup T n 8) (n + 1) nm) (n + 2) 3) (n + 3) v1.1) (n + 4) v1.2) (n + 5) v2.1) (n + 6) v2.2, ?_, ?_, ?_⟩
    · refine Ex.tr (F1 := (72, 1, _, _)) (x_aload_n rfl rfl rfl) ?_
      refine Ex.tr (F1 := (72, 3, _, _)) (x_bipush rfl) ?_
      refine Ex.tr (F1 := (72, 6, _, _)) (x_callv (As := [_]) rfl rfl rfl (Or.inr rfl) rfl rfl sch_z (by decide) rfl (Nat.le_of_ble_eq_true rfl) (c_sput (E := E) (d := d + 1) (g := g) hz (T := _) (n := n) (by omega)) rfl) ?_
      refine Ex.tr (F1 := (72, 7, _, _)) (x_aload_n rfl rfl rfl) ?_
      refine Ex.tr (F1 := (72, 8, _, _)) (x_aload_n rfl rfl rfl) ?_
      refine Ex.tr (F1 := (72, 11, _, _)) (x_getf rfl rfl (b1 _ _) rfl) ?_
      refine Ex.tr (F1 := (72, 14, _, _)) (x_callv (As := [_]) rfl rfl rfl (Or.inr rfl) rfl rfl sch_z (by decide) rfl (Nat.le_of_ble_eq_true rfl) (c_sput (E := E) (d := d + 1) (g := g) hz (T := _) (n := n + 1) (by omega)) rfl) ?_
      refine Ex.tr (F1 := (72, 15, _, _)) (x_aload_n rfl rfl rfl) ?_
      refine Ex.tr (F1 := (72, 16, _, _)) (x_aload_n rfl rfl rfl) ?_
      refine Ex.tr (F1 := (72, 19, _, _)) (x_getf rfl rfl (b1 _ _) rfl) ?_
      refine Ex.tr (F1 := (72, 22, _, _)) (x_callv (As := [_]) rfl rfl rfl (Or.inr rfl) rfl rfl sch_z (by decide) rfl (Nat.le_of_ble_eq_true rfl) (c_sput (E := E) (d := d + 1) (g := g) hz (T := _) (n := n + 2) (by omega)) rfl) ?_
      refine Ex.tr (F1 := (72, 23, _, _)) (x_aload_n rfl rfl rfl) ?_
      refine Ex.tr (F1 := (72, 26, _, _)) (x_getf rfl rfl (b1 _ _) rfl) ?_
      refine Ex.tr (F1 := (72, 27, _, _)) (x_iconst rfl) ?_
      refine Ex.tr (F1 := (72, 30, _, _)) (x_icF rfl (tg := 38) rfl (show ¬ (3 : Int32) = 2 by decide)) ?_
      refine Ex.tr (F1 := (72, 31, _, _)) (x_aload_n rfl rfl rfl) ?_
      refine Ex.tr (F1 := (72, 34, _, _)) (x_getf rfl rfl (b1 _ _) rfl) ?_
      refine Ex.tr (F1 := (72, 35, _, _)) (x_iconst rfl) ?_
      refine Ex.tr (F1 := (72, 46, _, _)) (x_icT rfl (tg := 46) rfl (show ¬ (3 : Int32) = 5 by decide)) ?_
      refine Ex.tr (F1 := (72, 47, _, _)) (x_aload_n rfl rfl rfl) ?_
      refine Ex.tr (F1 := (72, 50, _, _)) (x_getf rfl rfl (b1 _ _) rfl) ?_
      refine Ex.tr (F1 := (72, 51, [_, _, _, _, _, _, _], _)) (x_astore_n (i := 3) rfl (Nat.le_of_ble_eq_true rfl)) ?_
      refine Ex.tr (F1 := (72, 52, _, _)) (x_aload_n rfl rfl rfl) ?_
      refine Ex.tr (F1 := (72, 53, _, _)) (x_alen rfl (b3 _ _) rfl) ?_
      refine Ex.tr (F1 := (72, 55, [_, _, _, _, _, _, _], _)) (x_istore (i := 4) rfl (Nat.le_of_ble_eq_true rfl)) ?_
      refine Ex.tr (F1 := (72, 56, _, _)) (x_iconst rfl) ?_
      refine Ex.tr (F1 := (72, 58, [_, _, _, _, _, _, _], _)) (x_istore (i := 5) rfl (Nat.le_of_ble_eq_true rfl)) ?_
      refine Ex.tr (F1 := (72, 60, _, _)) (x_iload rfl rfl) ?_
      refine Ex.tr (F1 := (72, 62, _, _)) (x_iload rfl rfl) ?_
      refine Ex.tr (F1 := (72, 65, _, _)) (x_icF rfl (tg := 83) rfl (show ¬ nI 2 ≤ nI 0 from nI_ge (by omega) (by omega))) ?_
      refine Ex.tr (F1 := (72, 66, _, _)) (x_aload_n rfl rfl rfl) ?_
      refine Ex.tr (F1 := (72, 68, _, _)) (x_iload rfl rfl) ?_
      refine Ex.tr (F1 := (72, 69, _, _)) (x_aald (n := 0) rfl (b3 _ _) rfl rfl rfl (by omega) rfl) ?_
      refine Ex.tr (F1 := (72, 71, [_, _, _, _, _, _, _], _)) (x_astore (i := 6) rfl (Nat.le_of_ble_eq_true rfl)) ?_
      refine Ex.tr (F1 := (72, 72, _, _)) (x_aload_n rfl rfl rfl) ?_
      refine Ex.tr (F1 := (72, 74, _, _)) (x_aload rfl rfl rfl) ?_
      refine Ex.tr (F1 := (72, 77, _, _)) (x_callv (As := [_]) rfl rfl rfl (Or.inr rfl) rfl rfl sch_z (by decide) rfl (Nat.le_of_ble_eq_true rfl) (c_satom (E := E) (d := d) (g := g) hz (T := _) (n := n + 3) (by omega) y1) rfl) ?_
      refine Ex.tr (F1 := (72, 80, [_, _, _, _, _, _, _], _)) (x_iinc (i := 5) rfl rfl) ?_
      refine Ex.tr (F1 := (72, 58, _, _)) (x_goto rfl rfl) ?_
      refine Ex.tr (F1 := (72, 60, _, _)) (x_iload rfl rfl) ?_
      refine Ex.tr (F1 := (72, 62, _, _)) (x_iload rfl rfl) ?_
      refine Ex.tr (F1 := (72, 65, _, _)) (x_icF rfl (tg := 83) rfl (show ¬ nI 2 ≤ nI 1 from nI_ge (by omega) (by omega))) ?_
      refine Ex.tr (F1 := (72, 66, _, _)) (x_aload_n rfl rfl rfl) ?_
      refine Ex.tr (F1 := (72, 68, _, _)) (x_iload rfl rfl) ?_
      refine Ex.tr (F1 := (72, 69, _, _)) (x_aald (n := 1) rfl (b3 _ _) rfl rfl rfl (by omega) rfl) ?_
      refine Ex.tr (F1 := (72, 71, [_, _, _, _, _, _, _], _)) (x_astore (i := 6) rfl (Nat.le_of_ble_eq_true rfl)) ?_
      refine Ex.tr (F1 := (72, 72, _, _)) (x_aload_n rfl rfl rfl) ?_
      refine Ex.tr (F1 := (72, 74, _, _)) (x_aload rfl rfl rfl) ?_
      refine Ex.tr (F1 := (72, 77, _, _)) (x_callv (As := [_]) rfl rfl rfl (Or.inr rfl) rfl rfl sch_z (by decide) rfl (Nat.le_of_ble_eq_true rfl) (c_satom (E := E) (d := d) (g := g) hz (T := _) (n := n + 5) (by omega) y2) rfl) ?_
      refine Ex.tr (F1 := (72, 80, [_, _, _, _, _, _, _], _)) (x_iinc (i := 5) rfl rfl) ?_
      refine Ex.tr (F1 := (72, 58, _, _)) (x_goto rfl rfl) ?_
      refine Ex.tr (F1 := (72, 60, _, _)) (x_iload rfl rfl) ?_
      refine Ex.tr (F1 := (72, 62, _, _)) (x_iload rfl rfl) ?_
      refine Ex.tr (F1 := (72, 83, _, _)) (x_icT rfl (tg := 83) rfl (show nI 2 ≤ nI 2 from Int32.le_refl _)) ?_
      exact x_wk ⟨Or.inr rfl, Or.inr rfl, Or.inr rfl, Or.inl rfl, Or.inl rfl, Or.inl rfl, Or.inl rfl, trivial⟩
    · simp [Tok1, rup]
    · intro j hj
      simp only [rup]
      rw [if_neg (by omega), if_neg (by omega), if_neg (by omega), if_neg (by omega), if_neg (by omega), if_neg (by omega), if_neg (by omega)]
  · have e4 : isz (5, nm, dt0, v1, v2) = 8 := rfl
    rw [e4] at hn ⊢
    have ed : dt = dt0 := b2 (Or.inr rfl)
    subst ed
    obtain ⟨x1, x2, ex⟩ : ∃ x1 x2, xs = [x1, x2] := by
      match xs, b4 with
      | [x1, x2], _ => exact ⟨x1, x2, rfl⟩
    subst ex
    have y1 := fun T k => b5 0 x1 rfl T k
    have y2 := fun T k => b5 1 x2 rfl T k
    refine ⟨rup (rup (rup (rup (rup (rup (rup (rup T n 8) (n + 1) nm) (n + 2) 5) (n + 3) dt) (n + 4) v1.1) (n + 5) v1.2) (n + 6) v2.1) (n + 7) v2.2, ?_, ?_, ?_⟩
    · refine Ex.tr (F1 := (72, 1, _, _)) (x_aload_n rfl rfl rfl) ?_
      refine Ex.tr (F1 := (72, 3, _, _)) (x_bipush rfl) ?_
      refine Ex.tr (F1 := (72, 6, _, _)) (x_callv (As := [_]) rfl rfl rfl (Or.inr rfl) rfl rfl sch_z (by decide) rfl (Nat.le_of_ble_eq_true rfl) (c_sput (E := E) (d := d + 1) (g := g) hz (T := _) (n := n) (by omega)) rfl) ?_
      refine Ex.tr (F1 := (72, 7, _, _)) (x_aload_n rfl rfl rfl) ?_
      refine Ex.tr (F1 := (72, 8, _, _)) (x_aload_n rfl rfl rfl) ?_
      refine Ex.tr (F1 := (72, 11, _, _)) (x_getf rfl rfl (b1 _ _) rfl) ?_
      refine Ex.tr (F1 := (72, 14, _, _)) (x_callv (As := [_]) rfl rfl rfl (Or.inr rfl) rfl rfl sch_z (by decide) rfl (Nat.le_of_ble_eq_true rfl) (c_sput (E := E) (d := d + 1) (g := g) hz (T := _) (n := n + 1) (by omega)) rfl) ?_
      refine Ex.tr (F1 := (72, 15, _, _)) (x_aload_n rfl rfl rfl) ?_
      refine Ex.tr (F1 := (72, 16, _, _)) (x_aload_n rfl rfl rfl) ?_
      refine Ex.tr (F1 := (72, 19, _, _)) (x_getf rfl rfl (b1 _ _) rfl) ?_
      refine Ex.tr (F1 := (72, 22, _, _)) (x_callv (As := [_]) rfl rfl rfl (Or.inr rfl) rfl rfl sch_z (by decide) rfl (Nat.le_of_ble_eq_true rfl) (c_sput (E := E) (d := d + 1) (g := g) hz (T := _) (n := n + 2) (by omega)) rfl) ?_
      refine Ex.tr (F1 := (72, 23, _, _)) (x_aload_n rfl rfl rfl) ?_
      refine Ex.tr (F1 := (72, 26, _, _)) (x_getf rfl rfl (b1 _ _) rfl) ?_
      refine Ex.tr (F1 := (72, 27, _, _)) (x_iconst rfl) ?_
      refine Ex.tr (F1 := (72, 30, _, _)) (x_icF rfl (tg := 38) rfl (show ¬ (5 : Int32) = 2 by decide)) ?_
      refine Ex.tr (F1 := (72, 31, _, _)) (x_aload_n rfl rfl rfl) ?_
      refine Ex.tr (F1 := (72, 34, _, _)) (x_getf rfl rfl (b1 _ _) rfl) ?_
      refine Ex.tr (F1 := (72, 35, _, _)) (x_iconst rfl) ?_
      refine Ex.tr (F1 := (72, 38, _, _)) (x_icF rfl (tg := 46) rfl (fun z => z rfl)) ?_
      refine Ex.tr (F1 := (72, 39, _, _)) (x_aload_n rfl rfl rfl) ?_
      refine Ex.tr (F1 := (72, 40, _, _)) (x_aload_n rfl rfl rfl) ?_
      refine Ex.tr (F1 := (72, 43, _, _)) (x_getf rfl rfl (b1 _ _) rfl) ?_
      refine Ex.tr (F1 := (72, 46, _, _)) (x_callv (As := [_]) rfl rfl rfl (Or.inr rfl) rfl rfl sch_z (by decide) rfl (Nat.le_of_ble_eq_true rfl) (c_sput (E := E) (d := d + 1) (g := g) hz (T := _) (n := n + 3) (by omega)) rfl) ?_
      refine Ex.tr (F1 := (72, 47, _, _)) (x_aload_n rfl rfl rfl) ?_
      refine Ex.tr (F1 := (72, 50, _, _)) (x_getf rfl rfl (b1 _ _) rfl) ?_
      refine Ex.tr (F1 := (72, 51, [_, _, _, _, _, _, _], _)) (x_astore_n (i := 3) rfl (Nat.le_of_ble_eq_true rfl)) ?_
      refine Ex.tr (F1 := (72, 52, _, _)) (x_aload_n rfl rfl rfl) ?_
      refine Ex.tr (F1 := (72, 53, _, _)) (x_alen rfl (b3 _ _) rfl) ?_
      refine Ex.tr (F1 := (72, 55, [_, _, _, _, _, _, _], _)) (x_istore (i := 4) rfl (Nat.le_of_ble_eq_true rfl)) ?_
      refine Ex.tr (F1 := (72, 56, _, _)) (x_iconst rfl) ?_
      refine Ex.tr (F1 := (72, 58, [_, _, _, _, _, _, _], _)) (x_istore (i := 5) rfl (Nat.le_of_ble_eq_true rfl)) ?_
      refine Ex.tr (F1 := (72, 60, _, _)) (x_iload rfl rfl) ?_
      refine Ex.tr (F1 := (72, 62, _, _)) (x_iload rfl rfl) ?_
      refine Ex.tr (F1 := (72, 65, _, _)) (x_icF rfl (tg := 83) rfl (show ¬ nI 2 ≤ nI 0 from nI_ge (by omega) (by omega))) ?_
      refine Ex.tr (F1 := (72, 66, _, _)) (x_aload_n rfl rfl rfl) ?_
      refine Ex.tr (F1 := (72, 68, _, _)) (x_iload rfl rfl) ?_
      refine Ex.tr (F1 := (72, 69, _, _)) (x_aald (n := 0) rfl (b3 _ _) rfl rfl rfl (by omega) rfl) ?_
      refine Ex.tr (F1 := (72, 71, [_, _, _, _, _, _, _], _)) (x_astore (i := 6) rfl (Nat.le_of_ble_eq_true rfl)) ?_
      refine Ex.tr (F1 := (72, 72, _, _)) (x_aload_n rfl rfl rfl) ?_
      refine Ex.tr (F1 := (72, 74, _, _)) (x_aload rfl rfl rfl) ?_
      refine Ex.tr (F1 := (72, 77, _, _)) (x_callv (As := [_]) rfl rfl rfl (Or.inr rfl) rfl rfl sch_z (by decide) rfl (Nat.le_of_ble_eq_true rfl) (c_satom (E := E) (d := d) (g := g) hz (T := _) (n := n + 4) (by omega) y1) rfl) ?_
      refine Ex.tr (F1 := (72, 80, [_, _, _, _, _, _, _], _)) (x_iinc (i := 5) rfl rfl) ?_
      refine Ex.tr (F1 := (72, 58, _, _)) (x_goto rfl rfl) ?_
      refine Ex.tr (F1 := (72, 60, _, _)) (x_iload rfl rfl) ?_
      refine Ex.tr (F1 := (72, 62, _, _)) (x_iload rfl rfl) ?_
      refine Ex.tr (F1 := (72, 65, _, _)) (x_icF rfl (tg := 83) rfl (show ¬ nI 2 ≤ nI 1 from nI_ge (by omega) (by omega))) ?_
      refine Ex.tr (F1 := (72, 66, _, _)) (x_aload_n rfl rfl rfl) ?_
      refine Ex.tr (F1 := (72, 68, _, _)) (x_iload rfl rfl) ?_
      refine Ex.tr (F1 := (72, 69, _, _)) (x_aald (n := 1) rfl (b3 _ _) rfl rfl rfl (by omega) rfl) ?_
      refine Ex.tr (F1 := (72, 71, [_, _, _, _, _, _, _], _)) (x_astore (i := 6) rfl (Nat.le_of_ble_eq_true rfl)) ?_
      refine Ex.tr (F1 := (72, 72, _, _)) (x_aload_n rfl rfl rfl) ?_
      refine Ex.tr (F1 := (72, 74, _, _)) (x_aload rfl rfl rfl) ?_
      refine Ex.tr (F1 := (72, 77, _, _)) (x_callv (As := [_]) rfl rfl rfl (Or.inr rfl) rfl rfl sch_z (by decide) rfl (Nat.le_of_ble_eq_true rfl) (c_satom (E := E) (d := d) (g := g) hz (T := _) (n := n + 6) (by omega) y2) rfl) ?_
      refine Ex.tr (F1 := (72, 80, [_, _, _, _, _, _, _], _)) (x_iinc (i := 5) rfl rfl) ?_
      refine Ex.tr (F1 := (72, 58, _, _)) (x_goto rfl rfl) ?_
      refine Ex.tr (F1 := (72, 60, _, _)) (x_iload rfl rfl) ?_
      refine Ex.tr (F1 := (72, 62, _, _)) (x_iload rfl rfl) ?_
      refine Ex.tr (F1 := (72, 83, _, _)) (x_icT rfl (tg := 83) rfl (show nI 2 ≤ nI 2 from Int32.le_refl _)) ?_
      exact x_wk ⟨Or.inr rfl, Or.inr rfl, Or.inr rfl, Or.inl rfl, Or.inl rfl, Or.inl rfl, Or.inl rfl, trivial⟩
    · simp [Tok1, rup]
    · intro j hj
      simp only [rup]
      rw [if_neg (by omega), if_neg (by omega), if_neg (by omega), if_neg (by omega), if_neg (by omega), if_neg (by omega), if_neg (by omega), if_neg (by omega)]
  · exact absurd rfl h9
  · have e4 : isz (k, nm, dt0, v1, v2) = 5 := by
      unfold isz
      split <;> first | rfl | (rename_i z; exact absurd z (by assumption))
    have e5 : iat (k, nm, dt0, v1, v2) = 1 := by
      unfold iat
      split <;> first | rfl | (rename_i z; exact absurd z (by assumption))
    have e6 : ikd (k, nm, dt0, v1, v2) = 6 := by
      unfold ikd
      split <;> first | rfl | (rename_i z; exact absurd z (by assumption))
    rw [e4] at hn ⊢
    rw [e5] at b4
    rw [e6] at b1
    obtain ⟨x1, ex⟩ : ∃ x1, xs = [x1] := by
      match xs, b4 with
      | [x1], _ => exact ⟨x1, rfl⟩
    subst ex
    have y1 := fun T k => b5 0 x1 rfl T k
    refine ⟨rup (rup (rup (rup (rup T n 8) (n + 1) nm) (n + 2) 6) (n + 3) v1.1) (n + 4) v1.2, ?_, ?_, ?_⟩
    · refine Ex.tr (F1 := (72, 1, _, _)) (x_aload_n rfl rfl rfl) ?_
      refine Ex.tr (F1 := (72, 3, _, _)) (x_bipush rfl) ?_
      refine Ex.tr (F1 := (72, 6, _, _)) (x_callv (As := [_]) rfl rfl rfl (Or.inr rfl) rfl rfl sch_z (by decide) rfl (Nat.le_of_ble_eq_true rfl) (c_sput (E := E) (d := d + 1) (g := g) hz (T := _) (n := n) (by omega)) rfl) ?_
      refine Ex.tr (F1 := (72, 7, _, _)) (x_aload_n rfl rfl rfl) ?_
      refine Ex.tr (F1 := (72, 8, _, _)) (x_aload_n rfl rfl rfl) ?_
      refine Ex.tr (F1 := (72, 11, _, _)) (x_getf rfl rfl (b1 _ _) rfl) ?_
      refine Ex.tr (F1 := (72, 14, _, _)) (x_callv (As := [_]) rfl rfl rfl (Or.inr rfl) rfl rfl sch_z (by decide) rfl (Nat.le_of_ble_eq_true rfl) (c_sput (E := E) (d := d + 1) (g := g) hz (T := _) (n := n + 1) (by omega)) rfl) ?_
      refine Ex.tr (F1 := (72, 15, _, _)) (x_aload_n rfl rfl rfl) ?_
      refine Ex.tr (F1 := (72, 16, _, _)) (x_aload_n rfl rfl rfl) ?_
      refine Ex.tr (F1 := (72, 19, _, _)) (x_getf rfl rfl (b1 _ _) rfl) ?_
      refine Ex.tr (F1 := (72, 22, _, _)) (x_callv (As := [_]) rfl rfl rfl (Or.inr rfl) rfl rfl sch_z (by decide) rfl (Nat.le_of_ble_eq_true rfl) (c_sput (E := E) (d := d + 1) (g := g) hz (T := _) (n := n + 2) (by omega)) rfl) ?_
      refine Ex.tr (F1 := (72, 23, _, _)) (x_aload_n rfl rfl rfl) ?_
      refine Ex.tr (F1 := (72, 26, _, _)) (x_getf rfl rfl (b1 _ _) rfl) ?_
      refine Ex.tr (F1 := (72, 27, _, _)) (x_iconst rfl) ?_
      refine Ex.tr (F1 := (72, 30, _, _)) (x_icF rfl (tg := 38) rfl (show ¬ (6 : Int32) = 2 by decide)) ?_
      refine Ex.tr (F1 := (72, 31, _, _)) (x_aload_n rfl rfl rfl) ?_
      refine Ex.tr (F1 := (72, 34, _, _)) (x_getf rfl rfl (b1 _ _) rfl) ?_
      refine Ex.tr (F1 := (72, 35, _, _)) (x_iconst rfl) ?_
      refine Ex.tr (F1 := (72, 46, _, _)) (x_icT rfl (tg := 46) rfl (show ¬ (6 : Int32) = 5 by decide)) ?_
      refine Ex.tr (F1 := (72, 47, _, _)) (x_aload_n rfl rfl rfl) ?_
      refine Ex.tr (F1 := (72, 50, _, _)) (x_getf rfl rfl (b1 _ _) rfl) ?_
      refine Ex.tr (F1 := (72, 51, [_, _, _, _, _, _, _], _)) (x_astore_n (i := 3) rfl (Nat.le_of_ble_eq_true rfl)) ?_
      refine Ex.tr (F1 := (72, 52, _, _)) (x_aload_n rfl rfl rfl) ?_
      refine Ex.tr (F1 := (72, 53, _, _)) (x_alen rfl (b3 _ _) rfl) ?_
      refine Ex.tr (F1 := (72, 55, [_, _, _, _, _, _, _], _)) (x_istore (i := 4) rfl (Nat.le_of_ble_eq_true rfl)) ?_
      refine Ex.tr (F1 := (72, 56, _, _)) (x_iconst rfl) ?_
      refine Ex.tr (F1 := (72, 58, [_, _, _, _, _, _, _], _)) (x_istore (i := 5) rfl (Nat.le_of_ble_eq_true rfl)) ?_
      refine Ex.tr (F1 := (72, 60, _, _)) (x_iload rfl rfl) ?_
      refine Ex.tr (F1 := (72, 62, _, _)) (x_iload rfl rfl) ?_
      refine Ex.tr (F1 := (72, 65, _, _)) (x_icF rfl (tg := 83) rfl (show ¬ nI 1 ≤ nI 0 from nI_ge (by omega) (by omega))) ?_
      refine Ex.tr (F1 := (72, 66, _, _)) (x_aload_n rfl rfl rfl) ?_
      refine Ex.tr (F1 := (72, 68, _, _)) (x_iload rfl rfl) ?_
      refine Ex.tr (F1 := (72, 69, _, _)) (x_aald (n := 0) rfl (b3 _ _) rfl rfl rfl (by omega) rfl) ?_
      refine Ex.tr (F1 := (72, 71, [_, _, _, _, _, _, _], _)) (x_astore (i := 6) rfl (Nat.le_of_ble_eq_true rfl)) ?_
      refine Ex.tr (F1 := (72, 72, _, _)) (x_aload_n rfl rfl rfl) ?_
      refine Ex.tr (F1 := (72, 74, _, _)) (x_aload rfl rfl rfl) ?_
      refine Ex.tr (F1 := (72, 77, _, _)) (x_callv (As := [_]) rfl rfl rfl (Or.inr rfl) rfl rfl sch_z (by decide) rfl (Nat.le_of_ble_eq_true rfl) (c_satom (E := E) (d := d) (g := g) hz (T := _) (n := n + 3) (by omega) y1) rfl) ?_
      refine Ex.tr (F1 := (72, 80, [_, _, _, _, _, _, _], _)) (x_iinc (i := 5) rfl rfl) ?_
      refine Ex.tr (F1 := (72, 58, _, _)) (x_goto rfl rfl) ?_
      refine Ex.tr (F1 := (72, 60, _, _)) (x_iload rfl rfl) ?_
      refine Ex.tr (F1 := (72, 62, _, _)) (x_iload rfl rfl) ?_
      refine Ex.tr (F1 := (72, 83, _, _)) (x_icT rfl (tg := 83) rfl (show nI 1 ≤ nI 1 from Int32.le_refl _)) ?_
      exact x_wk ⟨Or.inr rfl, Or.inr rfl, Or.inr rfl, Or.inl rfl, Or.inl rfl, Or.inl rfl, Or.inl rfl, trivial⟩
    · have ht : ∀ (F : Nat → Int32) (x : Nat), (F x = 8 ∧ F (x + 1) = nm ∧ F (x + 2) = 6 ∧ F (x + 3) = v1.1 ∧ F (x + 4) = v1.2) → Tok1 F x (k, nm, dt0, v1, v2) := by
        intro F x hh
        unfold Tok1
        split <;> first | (rename_i z; exact absurd z (by assumption)) | exact hh
      refine ht _ _ ?_
      simp [rup]
    · intro j hj
      simp only [rup]
      rw [if_neg (by omega), if_neg (by omega), if_neg (by omega), if_neg (by omega), if_neg (by omega)]
end M32
