/-! ===== the class: lists that grow, shrink ===== -/
theorem shr1 : ∀ n : Nat, n < 500 → nI n >>> (1 : Int32) = nI (n / 2) := by decide +kernel
section M23
variable {E : PE} {d mi pc : Nat} {L : PL} {st : List Value} {h : PH}
theorem x_acmpF {off : Int} {tg a : Nat} (hi : pin mi pc = some (.if_acmp .ne off, 3)) (ht : (pc : Int) + off = (tg : Int)) : Ex E d (mi, pc, L, .ref a :: .ref a :: st) h (mi, pc + 3, L, st) h :=
  Ex.go (fun D p l e R s m args below meth c Q H locs cells slots ls hF hl _ _ k => lv_acmp_ne (rx := some a) (ry := some a) hF.1 hF.2.1 (pin_dec hi) ht (fun q => absurd rfl q) (fun _ => k))
end M23
section M23b
variable {E : PE} {d : Nat} {h : PH}
theorem c_newlen {n : Nat} (hn : 0 < n) (h5 : n < 500) : Rn E (d + 1) 141 [.int (nI n), .int 1, .int (nI (n / 2))] h (some (.int (nI (n + max 1 (n / 2))))) h := by
  refine Rn.of (Nat.le_of_ble_eq_true rfl) ?_
  have e : (if (1 : Int32) < nI (n / 2) then nI (n / 2) else 1) = nI (max 1 (n / 2)) := by
    by_cases hc : 1 < n / 2
    · rw [if_pos (show (1 : Int32) < nI (n / 2) from Int32.not_le.mp (show ¬ nI (n / 2) ≤ nI 1 from nI_ge (by omega) (by omega))), Nat.max_eq_right (by omega)]
    · rw [if_neg (show ¬ (1 : Int32) < nI (n / 2) from Int32.not_lt.mpr (show nI (n / 2) ≤ nI 1 from nI_le (by omega) (by omega))), Nat.max_eq_left (by omega)]
      rfl
  refine Rk.tr (F1 := (141, 1, _, _)) (x_iload_n rfl rfl) ?_
  refine Rk.tr (F1 := (141, 2, _, _)) (x_iload_n rfl rfl) ?_
  refine Rk.tr (F1 := (141, 3, _, _)) (x_iload_n rfl rfl) ?_
  refine Rk.tr (F1 := (141, 6, _, _)) (x_max rfl rfl (Nat.le_of_ble_eq_true rfl)) ?_
  refine Rk.tr (F1 := (141, 6, _, _)) (x_top e) ?_
  refine Rk.tr (F1 := (141, 7, _, _)) (x_iadd rfl) ?_
  refine Rk.tr (F1 := (141, 7, _, _)) (x_top (nI_add n _)) ?_
  refine Rk.tr (F1 := (141, 8, [_, _, _, _], _)) (x_istore_n (i := 3) rfl (Nat.le_of_ble_eq_true rfl)) ?_
  refine Rk.tr (F1 := (141, 9, _, _)) (x_iconst rfl) ?_
  refine Rk.tr (F1 := (141, 10, _, _)) (x_iload_n rfl rfl) ?_
  refine Rk.tr (F1 := (141, 13, _, _)) (x_icF rfl (tg := 21) rfl (show ¬ nI (n + max 1 (n / 2)) ≤ nI 0 from nI_ge (by omega) (by omega))) ?_
  refine Rk.tr (F1 := (141, 14, _, _)) (x_iload_n rfl rfl) ?_
  refine Rk.tr (F1 := (141, 16, _, _)) (x_ldc rfl rfl) ?_
  refine Rk.tr (F1 := (141, 19, _, _)) (x_icF rfl (tg := 21) rfl (by show ¬ Int32.ofInt _ < nI (n + max 1 (n / 2)); exact Int32.not_lt.mpr (Int32.le_trans (nI_le (b := 2000) (by omega) (by omega)) (by decide)))) ?_
  refine Rk.tr (F1 := (141, 20, _, _)) (x_iload_n rfl rfl) ?_
  exact Rk.end rfl (Or.inr (Or.inl ⟨rfl, _, .int, rfl, rfl, rfl, rfl⟩))
theorem c_copy3 {e n m : Nat} {fs : List Value} (hw : Wf h) (he : h.1 e = some (106, fs)) (hl : fs.length = n) (hnm : n ≤ m) (hm : m < 1000) (hel : ∀ i : Nat, i < n → fs.getD i .null = .null ∨ ∃ (y : Nat) (ys : List Value), fs.getD i .null = .ref y ∧ h.1 y = some (2, ys)) :
    Rn E d 139 [.ref e, .int (nI m), .ref E.2.2] h (some (.ref h.2.1)) (pset (pnew h (106, List.replicate m .null)) h.2.1 (106, pcpy fs (List.replicate m .null) 0 0 n)) := by
  refine Rn.of (Nat.le_of_ble_eq_true rfl) ?_
  have hmin : (if nI m < nI n then nI m else nI n) = nI n := if_neg (Int32.not_lt.mpr (nI_le hnm (by omega)))
  refine Rk.tr (F1 := (139, 1, _, _)) (x_aload_n rfl rfl rfl) ?_
  refine Rk.tr (F1 := (139, 3, _, _)) (x_ldcM rfl rfl) ?_
  refine Rk.tr (F1 := (139, 6, _, _)) (x_acmpF rfl (tg := 13) rfl) ?_
  refine Rk.tr (F1 := (139, 7, _, _)) (x_iload_n rfl rfl) ?_
  refine Rk.tr (F1 := (139, 10, _, _)) (x_anew rfl rfl (by decide) rfl (by omega)) ?_
  refine Rk.tr (F1 := (139, 24, _, _)) (x_goto rfl rfl) ?_
  refine Rk.tr (F1 := (139, 25, [_, _, _, _], _)) (x_astore_n (i := 3) rfl (Nat.le_of_ble_eq_true rfl)) ?_
  refine Rk.tr (F1 := (139, 26, _, _)) (x_aload_n rfl rfl rfl) ?_
  refine Rk.tr (F1 := (139, 27, _, _)) (x_iconst rfl) ?_
  refine Rk.tr (F1 := (139, 28, _, _)) (x_aload_n rfl rfl rfl) ?_
  refine Rk.tr (F1 := (139, 29, _, _)) (x_iconst rfl) ?_
  refine Rk.tr (F1 := (139, 30, _, _)) (x_aload_n rfl rfl rfl) ?_
  refine Rk.tr (F1 := (139, 31, _, _)) (x_alen (fs := fs) rfl (pnew_old hw he) rfl) ?_
  refine Rk.tr (F1 := (139, 31, _, _)) (x_top (y := nI n) (by rw [hl])) ?_
  refine Rk.tr (F1 := (139, 32, _, _)) (x_iload_n rfl rfl) ?_
  refine Rk.tr (F1 := (139, 35, _, _)) (x_min rfl rfl (Nat.le_of_ble_eq_true rfl)) ?_
  refine Rk.tr (F1 := (139, 35, _, _)) (x_top hmin) ?_
  refine Rk.tr (F1 := (139, 38, _, _)) (x_copy (sp := 0) (dp := 0) (n := n) rfl rfl rfl (Nat.le_of_ble_eq_true rfl) (pnew_old hw he) pnew_at rfl rfl rfl (by omega) (by rw [List.length_replicate]; omega) ⟨by omega, by rw [List.length_replicate]; omega⟩ (fun i hi => by rw [Nat.zero_add]; exact (hel i hi).imp id (fun ⟨y, ys, a, b⟩ => ⟨y, ys, a, pnew_old hw b⟩))) ?_
  refine Rk.tr (F1 := (139, 39, _, _)) (x_aload_n rfl rfl rfl) ?_
  exact Rk.end rfl (Or.inr (Or.inr (Or.inr ⟨rfl, _, _, rfl, Or.inr ⟨_, rfl⟩, Or.inr ⟨_, rfl⟩, rfl, rfl⟩)))
theorem c_copyOf {e n m : Nat} {fs : List Value} (hw : Wf h) (he : h.1 e = some (106, fs)) (hl : fs.length = n) (hnm : n ≤ m) (hm : m < 1000) (hel : ∀ i : Nat, i < n → fs.getD i .null = .null ∨ ∃ (y : Nat) (ys : List Value), fs.getD i .null = .ref y ∧ h.1 y = some (2, ys)) :
    Rn E (d + 1) 138 [.ref e, .int (nI m)] h (some (.ref h.2.1)) (pset (pnew h (106, List.replicate m .null)) h.2.1 (106, pcpy fs (List.replicate m .null) 0 0 n)) := by
  refine Rn.of (Nat.le_of_ble_eq_true rfl) ?_
  refine Rk.tr (F1 := (138, 1, _, _)) (x_aload_n rfl rfl rfl) ?_
  refine Rk.tr (F1 := (138, 2, _, _)) (x_iload_n rfl rfl) ?_
  refine Rk.tr (F1 := (138, 3, _, _)) (x_aload_n rfl rfl rfl) ?_
  refine Rk.tr (F1 := (138, 6, _, _)) (x_getc rfl rfl he (Nat.le_of_ble_eq_true rfl)) ?_
  refine Rk.tr (F1 := (138, 9, _, _)) (x_calls (As := [_, _, _]) rfl rfl rfl rfl rfl rfl (Nat.le_of_ble_eq_true rfl) (c_copy3 hw he hl hnm hm hel) rfl) ?_
  exact Rk.end rfl (Or.inr (Or.inr (Or.inr ⟨rfl, _, _, rfl, Or.inr ⟨_, rfl⟩, Or.inr ⟨_, rfl⟩, rfl, rfl⟩)))
theorem c_growA {l : Nat} {mc : Int32} (hw : Wf h) (hl : h.1 l = some (0, [.int mc, .ref (E.2.1 2), .int (nI 0)])) (hst : h.1 (E.2.1 2) = some (109, [])) :
    Rn E (d + 3) 130 [.ref l, .int (nI 1)] h (some (.ref h.2.1)) (pset (pnew h (106, List.replicate 10 .null)) l (0, [.int mc, .ref h.2.1, .int (nI 0)])) := by
  refine Rn.of (Nat.le_of_ble_eq_true rfl) ?_
  refine Rk.tr (F1 := (130, 1, _, _)) (x_aload_n rfl rfl rfl) ?_
  refine Rk.tr (F1 := (130, 4, _, _)) (x_getf rfl rfl hl rfl) ?_
  refine Rk.tr (F1 := (130, 5, _, _)) (x_alen rfl hst rfl) ?_
  refine Rk.tr (F1 := (130, 6, [_, _, _, _], _)) (x_istore_n (i := 2) rfl (Nat.le_of_ble_eq_true rfl)) ?_
  refine Rk.tr (F1 := (130, 7, _, _)) (x_iload_n rfl rfl) ?_
  refine Rk.tr (F1 := (130, 10, _, _)) (x_ifF rfl (tg := 20) rfl (show ¬ (0 : Int32) < nI 0 by decide)) ?_
  refine Rk.tr (F1 := (130, 11, _, _)) (x_aload_n rfl rfl rfl) ?_
  refine Rk.tr (F1 := (130, 14, _, _)) (x_getf rfl rfl hl rfl) ?_
  refine Rk.tr (F1 := (130, 17, _, _)) (x_gets rfl rfl) ?_
  refine Rk.tr (F1 := (130, 45, _, _)) (x_acmpT (x := some (E.2.1 2)) (y := some (E.2.1 2)) rfl (tg := 45) rfl (by simp)) ?_
  refine Rk.tr (F1 := (130, 46, _, _)) (x_aload_n rfl rfl rfl) ?_
  refine Rk.tr (F1 := (130, 48, _, _)) (x_bipush rfl) ?_
  refine Rk.tr (F1 := (130, 49, _, _)) (x_iload_n rfl rfl) ?_
  refine Rk.tr (F1 := (130, 52, _, _)) (x_max rfl rfl (Nat.le_of_ble_eq_true rfl)) ?_
  refine Rk.tr (F1 := (130, 55, _, _)) (x_anew (n := 10) rfl rfl (by decide) rfl (by decide)) ?_
  refine Rk.tr (F1 := (130, 56, _, _)) (x_dup_x1 rfl rfl rfl) ?_
  refine Rk.tr (F1 := (130, 59, _, _)) (x_putf rfl rfl (pnew_old hw hl) rfl rfl rfl) ?_
  exact Rk.end rfl (Or.inr (Or.inr (Or.inr ⟨rfl, _, _, rfl, Or.inr ⟨_, rfl⟩, Or.inr ⟨_, rfl⟩, rfl, rfl⟩)))
theorem c_growB {l e n : Nat} {mc : Int32} {fs : List Value} (hw : Wf h) (hl : h.1 l = some (0, [.int mc, .ref e, .int (nI n)])) (he : h.1 e = some (106, fs)) (hn : fs.length = n) (h0 : 0 < n) (h5 : n < 500) (hel : ∀ i : Nat, i < n → fs.getD i .null = .null ∨ ∃ (y : Nat) (ys : List Value), fs.getD i .null = .ref y ∧ h.1 y = some (2, ys)) :
    Rn E (d + 3) 130 [.ref l, .int (nI (n + 1))] h (some (.ref h.2.1)) (pset (pset (pnew h (106, List.replicate (n + max 1 (n / 2)) .null)) h.2.1 (106, pcpy fs (List.replicate (n + max 1 (n / 2)) .null) 0 0 n)) l (0, [.int mc, .ref h.2.1, .int (nI n)])) := by
  refine Rn.of (Nat.le_of_ble_eq_true rfl) ?_
  have hll := hw l _ hl
  refine Rk.tr (F1 := (130, 1, _, _)) (x_aload_n rfl rfl rfl) ?_
  refine Rk.tr (F1 := (130, 4, _, _)) (x_getf rfl rfl hl rfl) ?_
  refine Rk.tr (F1 := (130, 5, _, _)) (x_alen rfl he rfl) ?_
  refine Rk.tr (F1 := (130, 5, _, _)) (x_top (y := nI n) (by rw [hn])) ?_
  refine Rk.tr (F1 := (130, 6, [_, _, _, _], _)) (x_istore_n (i := 2) rfl (Nat.le_of_ble_eq_true rfl)) ?_
  refine Rk.tr (F1 := (130, 7, _, _)) (x_iload_n rfl rfl) ?_
  refine Rk.tr (F1 := (130, 20, _, _)) (x_ifT rfl (tg := 20) rfl (show nI 0 < nI n from Int32.not_le.mp (nI_ge (by omega) (by omega)))) ?_
  refine Rk.tr (F1 := (130, 21, _, _)) (x_iload_n rfl rfl) ?_
  refine Rk.tr (F1 := (130, 22, _, _)) (x_iload_n rfl rfl) ?_
  refine Rk.tr (F1 := (130, 23, _, _)) (x_iload_n rfl rfl) ?_
  refine Rk.tr (F1 := (130, 24, _, _)) (x_isub rfl) ?_
  refine Rk.tr (F1 := (130, 24, _, _)) (x_top (y := 1) (by show nI (n + 1) - nI n = 1; rw [show nI (n + 1) = nI n + 1 from (nI_1 n).symm, Int32.add_comm]; exact Int32.add_sub_cancel _ _)) ?_
  refine Rk.tr (F1 := (130, 25, _, _)) (x_iload_n rfl rfl) ?_
  refine Rk.tr (F1 := (130, 26, _, _)) (x_iconst rfl) ?_
  refine Rk.tr (F1 := (130, 27, _, _)) (x_ishr rfl) ?_
  refine Rk.tr (F1 := (130, 27, _, _)) (x_top (shr1 n h5)) ?_
  refine Rk.tr (F1 := (130, 30, _, _)) (x_calls (As := [_, _, _]) rfl rfl rfl rfl rfl rfl (Nat.le_of_ble_eq_true rfl) (c_newlen (d := d + 1) h0 h5) rfl) ?_
  refine Rk.tr (F1 := (130, 31, [_, _, _, _], _)) (x_istore_n (i := 3) rfl (Nat.le_of_ble_eq_true rfl)) ?_
  refine Rk.tr (F1 := (130, 32, _, _)) (x_aload_n rfl rfl rfl) ?_
  refine Rk.tr (F1 := (130, 33, _, _)) (x_aload_n rfl rfl rfl) ?_
  refine Rk.tr (F1 := (130, 36, _, _)) (x_getf rfl rfl hl rfl) ?_
  refine Rk.tr (F1 := (130, 37, _, _)) (x_iload_n rfl rfl) ?_
  refine Rk.tr (F1 := (130, 40, _, _)) (x_calls (As := [_, _]) rfl rfl rfl rfl rfl rfl (Nat.le_of_ble_eq_true rfl) (c_copyOf (d := d + 1) hw he hn (by omega) (by omega) hel) rfl) ?_
  refine Rk.tr (F1 := (130, 41, _, _)) (x_dup_x1 rfl rfl rfl) ?_
  refine Rk.tr (F1 := (130, 44, _, _)) (x_putf rfl rfl ((pset_ne (by omega)).trans (pnew_old hw hl)) rfl rfl rfl) ?_
  exact Rk.end rfl (Or.inr (Or.inr (Or.inr ⟨rfl, _, _, rfl, Or.inr ⟨_, rfl⟩, Or.inr ⟨_, rfl⟩, rfl, rfl⟩)))
theorem getD_at {fs : List Value} {k : Nat} {v : Value} (h : fs[k]? = some v) : fs.getD k .null = v := by rw [List.getD_eq_getElem?_getD, h]; rfl
theorem pcpy_len (fs gs : List Value) (sp dp n : Nat) : (pcpy fs gs sp dp n).length = gs.length := by unfold pcpy; rw [List.length_map, List.length_range]
theorem pcpy_at {fs gs : List Value} {sp dp n j : Nat} (hj : j < gs.length) : (pcpy fs gs sp dp n)[j]? = some (if dp ≤ j ∧ j < dp + n then fs.getD (sp + (j - dp)) .null else gs.getD j .null) := by
  unfold pcpy
  rw [List.getElem?_map, List.getElem?_range hj]
  rfl
theorem take_of {fs : List Value} {bs : List Nat} (hl : bs.length ≤ fs.length) (h : ∀ (k b : Nat), bs[k]? = some b → fs[k]? = some (Value.ref b)) : fs.take bs.length = bs.map Value.ref := by
  apply List.ext_getElem?
  intro i
  rw [List.getElem?_map]
  by_cases hi : i < bs.length
  · rw [List.getElem?_take_of_lt hi, h i bs[i] (List.getElem?_eq_getElem hi), List.getElem?_eq_getElem hi]
    rfl
  · rw [List.getElem?_eq_none (by rw [List.length_take]; omega), List.getElem?_eq_none (by omega)]
    rfl
/-- all are bindings -/
def bsH (h : PH) (bs : List Nat) : Prop := ∀ b ∈ bs, ∃ ys : List Value, h.1 b = some (2, ys)
theorem bsH.el {h : PH} {bs : List Nat} {fs : List Value} (hb : bsH h bs) (ht : fs.take bs.length = bs.map Value.ref) : ∀ i : Nat, i < bs.length → fs.getD i .null = .null ∨ ∃ (y : Nat) (ys : List Value), fs.getD i .null = .ref y ∧ h.1 y = some (2, ys) := fun i hi => by
  have h1 : bs[i]? = some bs[i] := List.getElem?_eq_getElem hi
  obtain ⟨ys, h2⟩ := hb bs[i] (List.getElem_mem hi)
  exact Or.inr ⟨bs[i], ys, getD_at (take_at ht h1), h2⟩
theorem c_grow {l e cap : Nat} {bs : List Nat} (hw : Wf h) (hst : h.1 (E.2.1 2) = some (109, [])) (hL : LH E h l e bs cap) (hb : bsH h bs) (hc : cap = bs.length) (h5 : bs.length < 400) :
    ∃ (h' : PH) (cap' : Nat), Rn E (d + 4) 129 [.ref l] h (some (.ref h.2.1)) h' ∧ LH E h' l h.2.1 bs cap' ∧ bs.length < cap' ∧ cap' ≤ 10 + 2 * bs.length ∧ (∀ q, q ≠ l → q ≠ h.2.1 → h'.1 q = h.1 q) ∧ h'.2 = (h.2.1 + 1, h.2.2 + cap') ∧ Wf h' ∧ (∀ mc e0 n0, h.1 l = some (0, [.int mc, e0, n0]) → h'.1 l = some (0, [.int mc, .ref h.2.1, n0])) := by
  obtain ⟨⟨mc, h1⟩, h2, h3⟩ := hL
  have hll := hw l _ h1
  have hsl := hw _ _ hst
  rcases h2 with ⟨-, h2, h4, -⟩ | ⟨fs, f1, f2, f3, f4, f5, f6⟩
  · subst h2 h4
    refine ⟨pset (pnew h (106, List.replicate 10 .null)) l (0, [.int mc, .ref h.2.1, .int (nI 0)]), 10, Rn.of (Nat.le_of_ble_eq_true rfl) ?_, ⟨⟨mc, pset_at⟩, Or.inr ⟨List.replicate 10 .null, ?_, rfl, rfl, by decide, by omega, by decide⟩, by decide⟩, by decide, by decide, fun q q1 q2 => by rw [pset_ne q1, pnew_ne q2], rfl, (hw.new).set (show l < h.2.1 + 1 by omega), fun mc' e0 n0 z => ?_⟩
    · refine Rk.tr (F1 := (129, 1, _, _)) (x_aload_n rfl rfl rfl) ?_
      refine Rk.tr (F1 := (129, 2, _, _)) (x_aload_n rfl rfl rfl) ?_
      refine Rk.tr (F1 := (129, 5, _, _)) (x_getf rfl rfl h1 rfl) ?_
      refine Rk.tr (F1 := (129, 6, _, _)) (x_iconst rfl) ?_
      refine Rk.tr (F1 := (129, 7, _, _)) (x_iadd rfl) ?_
      refine Rk.tr (F1 := (129, 7, _, _)) (x_top (y := nI 1) rfl) ?_
      refine Rk.tr (F1 := (129, 10, _, _)) (x_callv (As := [_]) rfl rfl rfl (Or.inr rfl) rfl rfl h1 (by decide) rfl (Nat.le_of_ble_eq_true rfl) (c_growA (d := d) hw h1 hst) rfl) ?_
      exact Rk.end rfl (Or.inr (Or.inr (Or.inr ⟨rfl, _, _, rfl, Or.inr ⟨_, rfl⟩, Or.inr ⟨_, rfl⟩, rfl, rfl⟩)))
    · rw [pset_ne (by omega), pnew_at]
    · rw [h1] at z
      cases z
      exact pset_at
  · have h0 : 0 < bs.length := by
      rcases Nat.eq_zero_or_pos bs.length with z | z
      · exfalso
        rw [z] at hc
        rw [hc] at f2
        omega
      · exact z
    have key := c_growB (E := E) (d := d) (n := bs.length) hw h1 f1 (f2.trans hc) h0 (by omega) (hb.el f3)
    generalize hm : bs.length + max 1 (bs.length / 2) = m at key
    refine ⟨pset (pset (pnew h (106, List.replicate m .null)) h.2.1 (106, pcpy fs (List.replicate m .null) 0 0 bs.length)) l (0, [.int mc, .ref h.2.1, .int (nI bs.length)]), m, Rn.of (Nat.le_of_ble_eq_true rfl) ?_, ⟨⟨mc, pset_at⟩, Or.inr ⟨pcpy fs (List.replicate m .null) 0 0 bs.length, ?_, ?_, ?_, by omega, by omega, by omega⟩, by omega⟩, by omega, by omega, fun q q1 q2 => by rw [pset_ne q1, pset_ne q2, pnew_ne q2], ?_, ((hw.new).set (show h.2.1 < h.2.1 + 1 by omega)).set (show l < h.2.1 + 1 by omega), fun mc' e0 n0 z => ?_⟩
    · refine Rk.tr (F1 := (129, 1, _, _)) (x_aload_n rfl rfl rfl) ?_
      refine Rk.tr (F1 := (129, 2, _, _)) (x_aload_n rfl rfl rfl) ?_
      refine Rk.tr (F1 := (129, 5, _, _)) (x_getf rfl rfl h1 rfl) ?_
      refine Rk.tr (F1 := (129, 6, _, _)) (x_iconst rfl) ?_
      refine Rk.tr (F1 := (129, 7, _, _)) (x_iadd rfl) ?_
      refine Rk.tr (F1 := (129, 7, _, _)) (x_top (nI_1 bs.length)) ?_
      refine Rk.tr (F1 := (129, 10, _, _)) (x_callv (As := [_]) rfl rfl rfl (Or.inr rfl) rfl rfl h1 (by decide) rfl (Nat.le_of_ble_eq_true rfl) key rfl) ?_
      exact Rk.end rfl (Or.inr (Or.inr (Or.inr ⟨rfl, _, _, rfl, Or.inr ⟨_, rfl⟩, Or.inr ⟨_, rfl⟩, rfl, rfl⟩)))
    · rw [pset_ne (by omega), pset_at]
    · rw [pcpy_len, List.length_replicate]
    · refine take_of (by rw [pcpy_len, List.length_replicate]; omega) (fun k b hk => ?_)
      have hkl : k < bs.length := (List.getElem?_eq_some_iff.mp hk).1
      rw [pcpy_at (by rw [List.length_replicate]; omega), if_pos (by omega), show 0 + (k - 0) = k by omega, getD_at (take_at f3 hk)]
    · show (h.2.1 + 1, h.2.2 + (List.replicate m Value.null).length) = _
      rw [List.length_replicate]
    · rw [h1] at z
      cases z
      exact pset_at
end M23b
