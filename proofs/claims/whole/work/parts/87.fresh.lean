/-! ===== the class: a new object ===== -/
def clen (cs : List PC) : Nat := (cs.map fun c => c.2.length).sum
/-- cells are made one behind another -/
def app (h : PH) (cs : List PC) : PH := (fun q => if h.2.1 ≤ q ∧ q < h.2.1 + cs.length then cs[q - h.2.1]? else h.1 q, h.2.1 + cs.length, h.2.2 + clen cs)
theorem app_old {h : PH} {cs : List PC} {q : Nat} (hq : q < h.2.1) : (app h cs).1 q = h.1 q := if_neg (by omega)
theorem app_in {h : PH} {cs : List PC} {i : Nat} (hi : i < cs.length) : (app h cs).1 (h.2.1 + i) = cs[i]? := by
  show (if h.2.1 ≤ h.2.1 + i ∧ h.2.1 + i < h.2.1 + cs.length then cs[h.2.1 + i - h.2.1]? else _) = _
  rw [if_pos (by omega), Nat.add_sub_cancel_left]
theorem app_one {h : PH} {c : PC} : pnew h c = app h [c] := by
  refine Prod.ext (funext fun q => ?_) rfl
  show (if q = h.2.1 then some c else h.1 q) = (if h.2.1 ≤ q ∧ q < h.2.1 + 1 then [c][q - h.2.1]? else h.1 q)
  by_cases e : q = h.2.1
  · rw [if_pos e, if_pos (by omega), e, Nat.sub_self]; rfl
  · rw [if_neg e, if_neg (by omega)]
theorem app_new {h : PH} {cs : List PC} {c : PC} : pnew (app h cs) c = app h (cs ++ [c]) := by
  refine Prod.ext (funext fun q => ?_) (Prod.ext ?_ ?_)
  · show (if q = h.2.1 + cs.length then some c else if h.2.1 ≤ q ∧ q < h.2.1 + cs.length then cs[q - h.2.1]? else h.1 q) = (if h.2.1 ≤ q ∧ q < h.2.1 + (cs ++ [c]).length then (cs ++ [c])[q - h.2.1]? else h.1 q)
    rw [List.length_append, List.length_singleton]
    by_cases e : q = h.2.1 + cs.length
    · rw [if_pos e, if_pos (by omega), e, Nat.add_sub_cancel_left, List.getElem?_append_right (Nat.le_refl _), Nat.sub_self]; rfl
    · rw [if_neg e]
      by_cases r : h.2.1 ≤ q ∧ q < h.2.1 + cs.length
      · rw [if_pos r, if_pos (by omega), List.getElem?_append_left (by omega)]
      · rw [if_neg r, if_neg (by omega)]
  · show h.2.1 + cs.length + 1 = h.2.1 + (cs ++ [c]).length
    rw [List.length_append, List.length_singleton]; omega
  · show h.2.2 + clen cs + c.2.length = h.2.2 + clen (cs ++ [c])
    unfold clen
    rw [List.map_append, List.sum_append]
    simp
    omega
theorem app_set {h : PH} {c c' : PC} {cs : List PC} (hl : c'.2.length = c.2.length) : pset (app h (c :: cs)) h.2.1 c' = app h (c' :: cs) := by
  refine Prod.ext (funext fun q => ?_) (Prod.ext rfl ?_)
  · show (if q = h.2.1 then some c' else if h.2.1 ≤ q ∧ q < h.2.1 + (cs.length + 1) then (c :: cs)[q - h.2.1]? else h.1 q) = (if h.2.1 ≤ q ∧ q < h.2.1 + (cs.length + 1) then (c' :: cs)[q - h.2.1]? else h.1 q)
    by_cases e : q = h.2.1
    · rw [if_pos e, if_pos (by omega), e, Nat.sub_self]; rfl
    · rw [if_neg e]
      by_cases r : h.2.1 ≤ q ∧ q < h.2.1 + (cs.length + 1)
      · rw [if_pos r, if_pos r]
        obtain ⟨i, hi⟩ : ∃ i, q - h.2.1 = i + 1 := ⟨q - h.2.1 - 1, by omega⟩
        rw [hi]; rfl
      · rw [if_neg r, if_neg r]
  · show h.2.2 + clen (c :: cs) = h.2.2 + clen (c' :: cs)
    unfold clen
    simp only [List.map_cons, List.sum_cons, hl]
section M64
variable {E : PE} {d : Nat} {h : PH}
def kN (kz : Nat) : List PC := [(3, kcl kz 0 0 false 0 0), (100, List.replicate 60 (.int 0)), (103, List.replicate 10 .null)]
def pN0 (pz : Nat) : List PC := [(5, [.ref (pz + 1), .ref (pz + 2)]), (104, List.replicate 40 .null), (100, List.replicate 40 (.int 0))]
def sN0 (z : Nat) : List PC := [(8, [.ref (z + 1), .int 0]), (100, List.replicate 400 (.int 0))]
def mN0 (z : Nat) : List PC := [(4, [.ref (z + 1), .ref (z + 2), .ref (z + 3), .int 0, .ref (z + 4), .ref (z + 5), .int 0, .int 0, .int 0, .int 0, .int 0, .int 0]), (100, List.replicate 800 (.int 0)), (101, List.replicate 800 (.long 0)), (100, List.replicate 800 (.int 0)), (105, List.replicate 400 .null), (100, List.replicate 400 (.int 0))]
theorem c_conv0 : Rn E d 85 [.ref h.2.1] (pnew h (3, pdef 3)) none (app h (kN h.2.1)) := by
  have e : pset (pnew (pset (pnew (pnew h (3, pdef 3)) (100, List.replicate 60 (.int 0))) h.2.1 (3, [.ref (h.2.1 + 1), .int 0, .int 0, .null, .int 0, .int 0, .int 0])) (103, List.replicate 10 .null)) h.2.1 (3, [.ref (h.2.1 + 1), .int 0, .int 0, .ref (h.2.1 + 2), .int 0, .int 0, .int 0]) = app h (kN h.2.1) := by
    rw [app_one (h := h), app_new, List.singleton_append, app_set, app_new, List.cons_append, List.singleton_append, app_set]
    all_goals rfl
  rw [← e]
  refine Rn.of (Nat.le_of_ble_eq_true rfl) ?_
  refine Rk.tr (F1 := (85, 1, _, _)) (x_aload_n rfl rfl rfl) ?_
  refine Rk.tr (F1 := (85, 4, _, _)) (x_obj rfl rfl rfl (by decide)) ?_
  refine Rk.tr (F1 := (85, 5, _, _)) (x_aload_n rfl rfl rfl) ?_
  refine Rk.tr (F1 := (85, 7, _, _)) (x_bipush rfl) ?_
  refine Rk.tr (F1 := (85, 9, _, _)) (x_newa (j := 0) (n := 60) rfl rfl rfl (by decide) ac_int rfl (by decide) (by decide)) ?_
  refine Rk.tr (F1 := (85, 12, _, _)) (x_putf rfl rfl ((pnew_ne (show h.2.1 ≠ h.2.1 + 1 by omega)).trans pnew_at) rfl rfl rfl) ?_
  refine Rk.tr (F1 := (85, 13, _, _)) (x_aload_n rfl rfl rfl) ?_
  refine Rk.tr (F1 := (85, 15, _, _)) (x_bipush rfl) ?_
  refine Rk.tr (F1 := (85, 18, _, _)) (x_anew (n := 10) rfl rfl (by decide) rfl (by decide)) ?_
  refine Rk.tr (F1 := (85, 21, _, _)) (x_putf rfl rfl ((pnew_ne (show h.2.1 ≠ h.2.1 + 2 by omega)).trans pset_at) rfl rfl rfl) ?_
  exact Rk.end rfl (Or.inl ⟨rfl, rfl, rfl, rfl⟩)
theorem c_pass00 : Rn E d 100 [.ref h.2.1] (pnew h (5, pdef 5)) none (app h (pN0 h.2.1)) := by
  have e : pset (pnew (pset (pnew (pnew h (5, pdef 5)) (104, List.replicate 40 .null)) h.2.1 (5, [.ref (h.2.1 + 1), .null])) (100, List.replicate 40 (.int 0))) h.2.1 (5, [.ref (h.2.1 + 1), .ref (h.2.1 + 2)]) = app h (pN0 h.2.1) := by
    rw [app_one (h := h), app_new, List.singleton_append, app_set, app_new, List.cons_append, List.singleton_append, app_set]
    all_goals rfl
  rw [← e]
  refine Rn.of (Nat.le_of_ble_eq_true rfl) ?_
  refine Rk.tr (F1 := (100, 1, _, _)) (x_aload_n rfl rfl rfl) ?_
  refine Rk.tr (F1 := (100, 4, _, _)) (x_obj rfl rfl rfl (by decide)) ?_
  refine Rk.tr (F1 := (100, 5, _, _)) (x_aload_n rfl rfl rfl) ?_
  refine Rk.tr (F1 := (100, 7, _, _)) (x_bipush rfl) ?_
  refine Rk.tr (F1 := (100, 10, _, _)) (x_anew (n := 40) rfl rfl (by decide) rfl (by decide)) ?_
  refine Rk.tr (F1 := (100, 13, _, _)) (x_putf rfl rfl ((pnew_ne (show h.2.1 ≠ h.2.1 + 1 by omega)).trans pnew_at) rfl rfl rfl) ?_
  refine Rk.tr (F1 := (100, 14, _, _)) (x_aload_n rfl rfl rfl) ?_
  refine Rk.tr (F1 := (100, 16, _, _)) (x_bipush rfl) ?_
  refine Rk.tr (F1 := (100, 18, _, _)) (x_newa (j := 0) (n := 40) rfl rfl rfl (by decide) ac_int rfl (by decide) (by decide)) ?_
  refine Rk.tr (F1 := (100, 21, _, _)) (x_putf rfl rfl ((pnew_ne (show h.2.1 ≠ h.2.1 + 2 by omega)).trans pset_at) rfl rfl rfl) ?_
  exact Rk.end rfl (Or.inl ⟨rfl, rfl, rfl, rfl⟩)
theorem c_scr0 : Rn E d 69 [.ref h.2.1] (pnew h (8, pdef 8)) none (app h (sN0 h.2.1)) := by
  have e : pset (pset (pnew (pnew h (8, pdef 8)) (100, List.replicate 400 (.int 0))) h.2.1 (8, [.ref (h.2.1 + 1), .int 0])) h.2.1 (8, [.ref (h.2.1 + 1), .int 0]) = app h (sN0 h.2.1) := by
    rw [pset2, app_one (h := h), app_new, List.singleton_append, app_set]
    all_goals rfl
  rw [← e]
  refine Rn.of (Nat.le_of_ble_eq_true rfl) ?_
  refine Rk.tr (F1 := (69, 1, _, _)) (x_aload_n rfl rfl rfl) ?_
  refine Rk.tr (F1 := (69, 4, _, _)) (x_obj rfl rfl rfl (by decide)) ?_
  refine Rk.tr (F1 := (69, 5, _, _)) (x_aload_n rfl rfl rfl) ?_
  refine Rk.tr (F1 := (69, 8, _, _)) (x_sipush rfl) ?_
  refine Rk.tr (F1 := (69, 10, _, _)) (x_newa (j := 0) (n := 400) rfl rfl rfl (by decide) ac_int rfl (by decide) (by decide)) ?_
  refine Rk.tr (F1 := (69, 13, _, _)) (x_putf rfl rfl ((pnew_ne (show h.2.1 ≠ h.2.1 + 1 by omega)).trans pnew_at) rfl rfl rfl) ?_
  refine Rk.tr (F1 := (69, 14, _, _)) (x_aload_n rfl rfl rfl) ?_
  refine Rk.tr (F1 := (69, 15, _, _)) (x_iconst rfl) ?_
  refine Rk.tr (F1 := (69, 18, _, _)) (x_putf rfl rfl pset_at rfl rfl rfl) ?_
  exact Rk.end rfl (Or.inl ⟨rfl, rfl, rfl, rfl⟩)
theorem c_mach0 : Rn E d 109 [.ref h.2.1] (pnew h (4, pdef 4)) none (app h (mN0 h.2.1)) := by
  have e : pset (pnew (pset (pnew (pset (pnew (pset (pnew (pset (pnew (pnew h (4, pdef 4)) (100, List.replicate 800 (.int 0))) h.2.1 (4, [.ref (h.2.1 + 1), .null, .null, .int 0, .null, .null, .int 0, .int 0, .int 0, .int 0, .int 0, .int 0])) (101, List.replicate 800 (.long 0))) h.2.1 (4, [.ref (h.2.1 + 1), .ref (h.2.1 + 2), .null, .int 0, .null, .null, .int 0, .int 0, .int 0, .int 0, .int 0, .int 0])) (100, List.replicate 800 (.int 0))) h.2.1 (4, [.ref (h.2.1 + 1), .ref (h.2.1 + 2), .ref (h.2.1 + 3), .int 0, .null, .null, .int 0, .int 0, .int 0, .int 0, .int 0, .int 0])) (105, List.replicate 400 .null)) h.2.1 (4, [.ref (h.2.1 + 1), .ref (h.2.1 + 2), .ref (h.2.1 + 3), .int 0, .ref (h.2.1 + 4), .null, .int 0, .int 0, .int 0, .int 0, .int 0, .int 0])) (100, List.replicate 400 (.int 0))) h.2.1 (4, [.ref (h.2.1 + 1), .ref (h.2.1 + 2), .ref (h.2.1 + 3), .int 0, .ref (h.2.1 + 4), .ref (h.2.1 + 5), .int 0, .int 0, .int 0, .int 0, .int 0, .int 0]) = app h (mN0 h.2.1) := by
    rw [app_one (h := h), app_new, List.singleton_append, app_set, app_new, List.cons_append, List.singleton_append, app_set, app_new, List.cons_append, List.cons_append, List.singleton_append, app_set, app_new, List.cons_append, List.cons_append, List.cons_append, List.singleton_append, app_set, app_new, List.cons_append, List.cons_append, List.cons_append, List.cons_append, List.singleton_append, app_set]
    all_goals rfl
  rw [← e]
  refine Rn.of (Nat.le_of_ble_eq_true rfl) ?_
  refine Rk.tr (F1 := (109, 1, _, _)) (x_aload_n rfl rfl rfl) ?_
  refine Rk.tr (F1 := (109, 4, _, _)) (x_obj rfl rfl rfl (by decide)) ?_
  refine Rk.tr (F1 := (109, 5, _, _)) (x_aload_n rfl rfl rfl) ?_
  refine Rk.tr (F1 := (109, 8, _, _)) (x_sipush rfl) ?_
  refine Rk.tr (F1 := (109, 10, _, _)) (x_newa (j := 0) (n := 800) rfl rfl rfl (by decide) ac_int rfl (by decide) (by decide)) ?_
  refine Rk.tr (F1 := (109, 13, _, _)) (x_putf rfl rfl ((pnew_ne (show h.2.1 ≠ h.2.1 + 1 by omega)).trans pnew_at) rfl rfl rfl) ?_
  refine Rk.tr (F1 := (109, 14, _, _)) (x_aload_n rfl rfl rfl) ?_
  refine Rk.tr (F1 := (109, 17, _, _)) (x_sipush rfl) ?_
  refine Rk.tr (F1 := (109, 19, _, _)) (x_newa (j := 1) (n := 800) rfl rfl rfl (by decide) ac_long rfl (by decide) (by decide)) ?_
  refine Rk.tr (F1 := (109, 22, _, _)) (x_putf rfl rfl ((pnew_ne (show h.2.1 ≠ h.2.1 + 2 by omega)).trans pset_at) rfl rfl rfl) ?_
  refine Rk.tr (F1 := (109, 23, _, _)) (x_aload_n rfl rfl rfl) ?_
  refine Rk.tr (F1 := (109, 26, _, _)) (x_sipush rfl) ?_
  refine Rk.tr (F1 := (109, 28, _, _)) (x_newa (j := 0) (n := 800) rfl rfl rfl (by decide) ac_int rfl (by decide) (by decide)) ?_
  refine Rk.tr (F1 := (109, 31, _, _)) (x_putf rfl rfl ((pnew_ne (show h.2.1 ≠ h.2.1 + 3 by omega)).trans pset_at) rfl rfl rfl) ?_
  refine Rk.tr (F1 := (109, 32, _, _)) (x_aload_n rfl rfl rfl) ?_
  refine Rk.tr (F1 := (109, 35, _, _)) (x_sipush rfl) ?_
  refine Rk.tr (F1 := (109, 38, _, _)) (x_anew (n := 400) rfl rfl (by decide) rfl (by decide)) ?_
  refine Rk.tr (F1 := (109, 41, _, _)) (x_putf rfl rfl ((pnew_ne (show h.2.1 ≠ h.2.1 + 4 by omega)).trans pset_at) rfl rfl rfl) ?_
  refine Rk.tr (F1 := (109, 42, _, _)) (x_aload_n rfl rfl rfl) ?_
  refine Rk.tr (F1 := (109, 45, _, _)) (x_sipush rfl) ?_
  refine Rk.tr (F1 := (109, 47, _, _)) (x_newa (j := 0) (n := 400) rfl rfl rfl (by decide) ac_int rfl (by decide) (by decide)) ?_
  refine Rk.tr (F1 := (109, 50, _, _)) (x_putf rfl rfl ((pnew_ne (show h.2.1 ≠ h.2.1 + 5 by omega)).trans pset_at) rfl rfl rfl) ?_
  exact Rk.end rfl (Or.inl ⟨rfl, rfl, rfl, rfl⟩)
end M64
