/-! ===== the class: applying, choosing, rows; the run ===== -/
theorem nI_max {m n : Nat} (hm : m < 1000) (hn : n < 1000) : (if nI m < nI n then nI n else nI m) = nI (max m n) := by
  by_cases h : m < n
  · rw [if_pos (Int32.not_le.mp (nI_ge (by omega) (by omega))), Nat.max_eq_right (by omega)]
  · rw [if_neg (Int32.not_lt.mpr (nI_le (by omega) (by omega))), Nat.max_eq_left (by omega)]
section M47
variable {E : PE} {d : Nat} {g : PH} {z : Nat} {T : MT} {O : Nat → Nat × Nat} {G : PG}
theorem c_vapp1 (hG : ∀ T, GH E (mch g z T) O G) {x nf b : Nat} {it : It} {rs : List Nat} {c dv : Int32} {L : Env} (hx : G.2 x = some (it, rs)) (h3 : it.1 = 3) (hE : En (ccl T nf) b c L) (hb : b ≤ 800) (hn : nf ≤ 400) (h1 : (lkE L it.2.2.2.1).1 = false) :
    Rn E (d + 2) 115 [.ref z, .ref x, .int c, .int dv] (mch g z T) (some (.long 0)) (mch g z (tI T 7 1)) := by
  obtain ⟨at0, ar, xs, dt, b1, b2, b3, b4, b5, b6⟩ := atoms_at hG hx
  have hi : iat it = 2 := by unfold iat; rw [h3]; rfl
  obtain ⟨z1, z2, ez⟩ := two_of (b4.trans hi)
  subst ez
  have q1 := c_voa (E := E) (d := d) (b5 0 z1 rfl T) hE hb
  have ea : iatm it 0 = it.2.2.2.1 := rfl
  rw [ea] at q1
  have o1 : VOk nf (lkE L it.2.2.2.1) := clkE hE
  have f1 := c_isf (E := E) (d := d + 1) (h := mch g z T) (o1.k4 hn)
  rw [h1] at f1
  have e1 := c_endw (E := E) (d := d + 1) (g := g) (z := z) (T := T) (k := 1)
  have b1T := b1 T
  have b3T := b3 T
  refine Rn.of (Nat.le_of_ble_eq_true rfl) ?_
  refine Rk.tr (F1 := (115, 1, _, _)) (x_aload_n rfl rfl rfl) ?_
  refine Rk.tr (F1 := (115, 2, _, _)) (x_aload_n rfl rfl rfl) ?_
  refine Rk.tr (F1 := (115, 5, _, _)) (x_getf rfl rfl b1T rfl) ?_
  refine Rk.tr (F1 := (115, 6, _, _)) (x_iconst rfl) ?_
  refine Rk.tr (F1 := (115, 7, _, _)) (x_aald (n := 0) rfl b3T rfl rfl rfl (by omega) rfl) ?_
  refine Rk.tr (F1 := (115, 8, _, _)) (x_iload_n rfl rfl) ?_
  refine Rk.tr (F1 := (115, 11, _, _)) (x_callv (As := [_, _]) rfl rfl rfl (Or.inr rfl) rfl rfl mch_z (by decide) rfl (Nat.le_of_ble_eq_true rfl) q1 rfl) ?_
  refine Rk.tr (F1 := (115, 13, [_, _, _, _, _, _, _, _, _, _, _], _)) (x_lstore (i := 4) rfl (Nat.le_of_ble_eq_true rfl)) ?_
  refine Rk.tr (F1 := (115, 15, _, _)) (x_lload rfl rfl) ?_
  refine Rk.tr (F1 := (115, 16, _, _)) (x_l2i rfl) ?_
  refine Rk.tr (F1 := (115, 18, [_, _, _, _, _, _, _, _, _, _, _], _)) (x_istore (i := 6) rfl (Nat.le_of_ble_eq_true rfl)) ?_
  refine Rk.tr (F1 := (115, 20, _, _)) (x_lload rfl rfl) ?_
  refine Rk.tr (F1 := (115, 23, _, _)) (x_calls (As := [_]) rfl rfl rfl rfl rfl rfl (Nat.le_of_ble_eq_true rfl) f1 rfl) ?_
  refine Rk.tr (F1 := (115, 40, _, _)) (x_ifT rfl (tg := 40) rfl rfl) ?_
  refine Rk.tr (F1 := (115, 41, _, _)) (x_aload_n rfl rfl rfl) ?_
  refine Rk.tr (F1 := (115, 42, _, _)) (x_iconst rfl) ?_
  refine Rk.tr (F1 := (115, 45, _, _)) (x_callv (As := [_]) rfl rfl rfl (Or.inr rfl) rfl rfl mch_z (by decide) rfl (Nat.le_of_ble_eq_true rfl) e1 rfl) ?_
  exact Rk.end rfl (Or.inr (Or.inr (Or.inl ⟨rfl, rfl, _, rfl, rfl⟩)))
theorem c_vapp (hG : ∀ T, GH E (mch g z T) O G) {x nf b k xF rb D dp nc : Nat} {it F : It} {rs : List Nat} {c fc : Int32} {L : Env} {v : Int64} {T' : MT} (hx : G.2 x = some (it, rs)) (h3 : it.1 = 3) (hE : En (ccl T nf) b c L) (hb : b ≤ 800) (hn : nf ≤ 400) (h1 : lkE L it.2.2.2.1 = (true, nI k)) (hk : k < nf) (h6 : T.1 6 = nI nf) (hF : T.2.2.2 k = .ref xF) (hgF : G.2 xF = some (F, [rb])) (hF2 : F.1 = 2) (hfc : T.2.1 5 k = fc) (h3c : T.1 3 = nI nc) (hnc : nc < 800)
    (hr : Rn E (D + 1) 111 [.ref z, .ref rb, .int (nI nc), .int (nI (dp + 1))] (mch g z (tC T nc F.2.2.1 (vL (lkE L it.2.2.2.2)) fc)) (some (.long v)) (mch g z T')) :
    Rn E (D + 2) 115 [.ref z, .ref x, .int c, .int (nI dp)] (mch g z T) (some (.long v)) (mch g z T') := by
  obtain ⟨at0, ar, xs, dt, b1, b2, b3, b4, b5, b6⟩ := atoms_at hG hx
  have hi : iat it = 2 := by unfold iat; rw [h3]; rfl
  obtain ⟨z1, z2, ez⟩ := two_of (b4.trans hi)
  subst ez
  have q1 := c_voa (E := E) (d := D) (b5 0 z1 rfl T) hE hb
  have q2 := c_voa (E := E) (d := D) (b5 1 z2 rfl T) hE hb
  have ea : iatm it 0 = it.2.2.2.1 := rfl
  have eb : iatm it 1 = it.2.2.2.2 := rfl
  rw [ea, h1] at q1
  rw [eb] at q2
  have f1 := c_isf (E := E) (d := D + 1) (h := mch g z T) (v := (true, nI k)) (fun _ => ⟨k, by omega, rfl⟩)
  have i1 : (vL (true, nI k)).toInt32 = nI k := (vL_fun k (by omega)).2.2
  obtain ⟨atF, arF, xsF, dtF, F1, F2, F3, F4, F5, F6⟩ := atoms_at hG hgF
  have ed := F2 (Or.inl hF2)
  subst ed
  have ncl := c_newc (E := E) (d := D + 1) (g := g) (z := z) (x := F.2.2.1) (c := fc) (v := vL (lkE L it.2.2.2.2)) h3c hnc
  have b1T := b1 T
  have b3T := b3 T
  have zT : (mch g z T).1 z = some (4, [.ref (z + 1), .ref (z + 2), .ref (z + 3), .int (T.1 3), .ref (z + 4), .ref (z + 5), .int (nI nf), .int (T.1 7), .int (T.1 8), .int (T.1 9), .int (T.1 10), .int (T.1 11)]) := by
    rw [mch_z]
    unfold mcf
    rw [h6]
  have hfF : (far T.2.2.2)[k]? = some (.ref xF) := (far_at (by omega)).trans (by rw [hF])
  have hfC : (iar 400 (T.2.1 5))[k]? = some (.int fc) := (iar_at (by omega)).trans (by rw [hfc])
  refine Rn.of (Nat.le_of_ble_eq_true rfl) ?_
  refine Rk.tr (F1 := (115, 1, _, _)) (x_aload_n rfl rfl rfl) ?_
  refine Rk.tr (F1 := (115, 2, _, _)) (x_aload_n rfl rfl rfl) ?_
  refine Rk.tr (F1 := (115, 5, _, _)) (x_getf rfl rfl b1T rfl) ?_
  refine Rk.tr (F1 := (115, 6, _, _)) (x_iconst rfl) ?_
  refine Rk.tr (F1 := (115, 7, _, _)) (x_aald (n := 0) rfl b3T rfl rfl rfl (by omega) rfl) ?_
  refine Rk.tr (F1 := (115, 8, _, _)) (x_iload_n rfl rfl) ?_
  refine Rk.tr (F1 := (115, 11, _, _)) (x_callv (As := [_, _]) rfl rfl rfl (Or.inr rfl) rfl rfl mch_z (by decide) rfl (Nat.le_of_ble_eq_true rfl) q1 rfl) ?_
  refine Rk.tr (F1 := (115, 13, [_, _, _, _, _, _, _, _, _, _, _], _)) (x_lstore (i := 4) rfl (Nat.le_of_ble_eq_true rfl)) ?_
  refine Rk.tr (F1 := (115, 15, _, _)) (x_lload rfl rfl) ?_
  refine Rk.tr (F1 := (115, 16, _, _)) (x_l2i rfl) ?_
  refine Rk.tr (F1 := (115, 16, _, _)) (x_top i1) ?_
  refine Rk.tr (F1 := (115, 18, [_, _, _, _, _, _, _, _, _, _, _], _)) (x_istore (i := 6) rfl (Nat.le_of_ble_eq_true rfl)) ?_
  refine Rk.tr (F1 := (115, 20, _, _)) (x_lload rfl rfl) ?_
  refine Rk.tr (F1 := (115, 23, _, _)) (x_calls (As := [_]) rfl rfl rfl rfl rfl rfl (Nat.le_of_ble_eq_true rfl) f1 rfl) ?_
  refine Rk.tr (F1 := (115, 26, _, _)) (x_ifF rfl (tg := 40) rfl (show ¬ (1 : Int32) = 0 by decide)) ?_
  refine Rk.tr (F1 := (115, 28, _, _)) (x_iload rfl rfl) ?_
  refine Rk.tr (F1 := (115, 31, _, _)) (x_ifF rfl (tg := 40) rfl (show ¬ nI k < nI 0 from Int32.not_lt.mpr (nI_le (by omega) (by omega)))) ?_
  refine Rk.tr (F1 := (115, 33, _, _)) (x_iload rfl rfl) ?_
  refine Rk.tr (F1 := (115, 34, _, _)) (x_aload_n rfl rfl rfl) ?_
  refine Rk.tr (F1 := (115, 37, _, _)) (x_getf rfl rfl zT rfl) ?_
  refine Rk.tr (F1 := (115, 46, _, _)) (x_icT rfl (tg := 46) rfl (show nI k < nI nf from Int32.not_le.mp (nI_ge (by omega) (by omega)))) ?_
  refine Rk.tr (F1 := (115, 47, _, _)) (x_aload_n rfl rfl rfl) ?_
  refine Rk.tr (F1 := (115, 50, _, _)) (x_getf rfl rfl zT rfl) ?_
  refine Rk.tr (F1 := (115, 52, _, _)) (x_iload rfl rfl) ?_
  refine Rk.tr (F1 := (115, 53, _, _)) (x_aald (n := k) rfl mch_4 rfl rfl rfl (by omega) hfF) ?_
  refine Rk.tr (F1 := (115, 55, [_, _, _, _, _, _, _, _, _, _, _], _)) (x_astore (i := 7) rfl (Nat.le_of_ble_eq_true rfl)) ?_
  refine Rk.tr (F1 := (115, 56, _, _)) (x_aload_n rfl rfl rfl) ?_
  refine Rk.tr (F1 := (115, 57, _, _)) (x_aload_n rfl rfl rfl) ?_
  refine Rk.tr (F1 := (115, 60, _, _)) (x_getf rfl rfl b1T rfl) ?_
  refine Rk.tr (F1 := (115, 61, _, _)) (x_iconst rfl) ?_
  refine Rk.tr (F1 := (115, 62, _, _)) (x_aald (n := 1) rfl b3T rfl rfl rfl (by omega) rfl) ?_
  refine Rk.tr (F1 := (115, 63, _, _)) (x_iload_n rfl rfl) ?_
  refine Rk.tr (F1 := (115, 66, _, _)) (x_callv (As := [_, _]) rfl rfl rfl (Or.inr rfl) rfl rfl mch_z (by decide) rfl (Nat.le_of_ble_eq_true rfl) q2 rfl) ?_
  refine Rk.tr (F1 := (115, 68, [_, _, _, _, _, _, _, _, _, _, _], _)) (x_lstore (i := 8) rfl (Nat.le_of_ble_eq_true rfl)) ?_
  refine Rk.tr (F1 := (115, 69, _, _)) (x_aload_n rfl rfl rfl) ?_
  refine Rk.tr (F1 := (115, 71, _, _)) (x_aload rfl rfl rfl) ?_
  refine Rk.tr (F1 := (115, 74, _, _)) (x_getf rfl rfl (F1 T) rfl) ?_
  refine Rk.tr (F1 := (115, 76, _, _)) (x_lload rfl rfl) ?_
  refine Rk.tr (F1 := (115, 77, _, _)) (x_aload_n rfl rfl rfl) ?_
  refine Rk.tr (F1 := (115, 80, _, _)) (x_getf rfl rfl zT rfl) ?_
  refine Rk.tr (F1 := (115, 82, _, _)) (x_iload rfl rfl) ?_
  refine Rk.tr (F1 := (115, 83, _, _)) (x_iald (n := k) rfl mch_5 rfl rfl (by omega) hfC) ?_
  refine Rk.tr (F1 := (115, 86, _, _)) (x_callv (As := [_, _, _]) rfl rfl rfl (Or.inr rfl) rfl rfl mch_z (by decide) rfl (Nat.le_of_ble_eq_true rfl) ncl rfl) ?_
  refine Rk.tr (F1 := (115, 88, [_, _, _, _, _, _, _, _, _, _, _], _)) (x_istore (i := 10) rfl (Nat.le_of_ble_eq_true rfl)) ?_
  refine Rk.tr (F1 := (115, 89, _, _)) (x_aload_n rfl rfl rfl) ?_
  refine Rk.tr (F1 := (115, 91, _, _)) (x_aload rfl rfl rfl) ?_
  refine Rk.tr (F1 := (115, 94, _, _)) (x_getf rfl rfl (F1 _) rfl) ?_
  refine Rk.tr (F1 := (115, 95, _, _)) (x_iconst rfl) ?_
  refine Rk.tr (F1 := (115, 96, _, _)) (x_aald (n := 0) rfl (F6 _) rfl rfl rfl (by omega) rfl) ?_
  refine Rk.tr (F1 := (115, 98, _, _)) (x_iload rfl rfl) ?_
  refine Rk.tr (F1 := (115, 99, _, _)) (x_iload_n rfl rfl) ?_
  refine Rk.tr (F1 := (115, 100, _, _)) (x_iconst rfl) ?_
  refine Rk.tr (F1 := (115, 101, _, _)) (x_iadd rfl) ?_
  refine Rk.tr (F1 := (115, 101, _, _)) (x_top (nI_1 dp)) ?_
  refine Rk.tr (F1 := (115, 104, _, _)) (x_callv (As := [_, _, _]) rfl rfl rfl (Or.inr rfl) rfl rfl mch_z (by decide) rfl (Nat.le_of_ble_eq_true rfl) hr rfl) ?_
  exact Rk.end rfl (Or.inr (Or.inr (Or.inl ⟨rfl, rfl, _, rfl, rfl⟩)))
theorem c_vif2 (hG : ∀ T, GH E (mch g z T) O G) {x nf b : Nat} {it : It} {rs : List Nat} {c dv : Int32} {L : Env} (hx : G.2 x = some (it, rs)) (hi : iat it = 1) (hE : En (ccl T nf) b c L) (hb : b ≤ 800) (hn : nf ≤ 400) (h1 : (lkE L it.2.2.2.1).1 = true) :
    Rn E (d + 2) 121 [.ref z, .ref x, .int c, .int dv] (mch g z T) (some (.long 0)) (mch g z (tI T 7 2)) := by
  obtain ⟨at0, ar, xs, dt, b1, b2, b3, b4, b5, b6⟩ := atoms_at hG hx
  obtain ⟨z1, ez⟩ := one_of (b4.trans hi)
  subst ez
  have q1 := c_voa (E := E) (d := d) (b5 0 z1 rfl T) hE hb
  have ea : iatm it 0 = it.2.2.2.1 := rfl
  rw [ea] at q1
  have o1 : VOk nf (lkE L it.2.2.2.1) := clkE hE
  have f1 := c_isf (E := E) (d := d + 1) (h := mch g z T) (o1.k4 hn)
  rw [h1] at f1
  have e1 := c_endw (E := E) (d := d + 1) (g := g) (z := z) (T := T) (k := 2)
  have b1T := b1 T
  have b3T := b3 T
  refine Rn.of (Nat.le_of_ble_eq_true rfl) ?_
  refine Rk.tr (F1 := (121, 1, _, _)) (x_aload_n rfl rfl rfl) ?_
  refine Rk.tr (F1 := (121, 2, _, _)) (x_aload_n rfl rfl rfl) ?_
  refine Rk.tr (F1 := (121, 5, _, _)) (x_getf rfl rfl b1T rfl) ?_
  refine Rk.tr (F1 := (121, 6, _, _)) (x_iconst rfl) ?_
  refine Rk.tr (F1 := (121, 7, _, _)) (x_aald (n := 0) rfl b3T rfl rfl rfl (by omega) rfl) ?_
  refine Rk.tr (F1 := (121, 8, _, _)) (x_iload_n rfl rfl) ?_
  refine Rk.tr (F1 := (121, 11, _, _)) (x_callv (As := [_, _]) rfl rfl rfl (Or.inr rfl) rfl rfl mch_z (by decide) rfl (Nat.le_of_ble_eq_true rfl) q1 rfl) ?_
  refine Rk.tr (F1 := (121, 13, [_, _, _, _, _, _, _], _)) (x_lstore (i := 4) rfl (Nat.le_of_ble_eq_true rfl)) ?_
  refine Rk.tr (F1 := (121, 15, _, _)) (x_lload rfl rfl) ?_
  refine Rk.tr (F1 := (121, 18, _, _)) (x_calls (As := [_]) rfl rfl rfl rfl rfl rfl (Nat.le_of_ble_eq_true rfl) f1 rfl) ?_
  refine Rk.tr (F1 := (121, 21, _, _)) (x_ifF rfl (tg := 27) rfl (show ¬ (1 : Int32) = 0 by decide)) ?_
  refine Rk.tr (F1 := (121, 22, _, _)) (x_aload_n rfl rfl rfl) ?_
  refine Rk.tr (F1 := (121, 23, _, _)) (x_iconst rfl) ?_
  refine Rk.tr (F1 := (121, 26, _, _)) (x_callv (As := [_]) rfl rfl rfl (Or.inr rfl) rfl rfl mch_z (by decide) rfl (Nat.le_of_ble_eq_true rfl) e1 rfl) ?_
  exact Rk.end rfl (Or.inr (Or.inr (Or.inl ⟨rfl, rfl, _, rfl, rfl⟩)))
theorem c_vif (hG : ∀ T, GH E (mch g z T) O G) {x nf b r1 r2 D dp : Nat} {it : It} {c : Int32} {L : Env} {v : Int64} {T' : MT} (hx : G.2 x = some (it, [r1, r2])) (hi : iat it = 1) (hE : En (ccl T nf) b c L) (hb : b ≤ 800) (hn : nf ≤ 400) (h1 : (lkE L it.2.2.2.1).1 = false)
    (hr : Rn E (D + 1) 111 [.ref z, .ref (if (lkE L it.2.2.2.1).2 = 0 then r2 else r1), .int c, .int (nI (dp + 1))] (mch g z T) (some (.long v)) (mch g z T')) :
    Rn E (D + 2) 121 [.ref z, .ref x, .int c, .int (nI dp)] (mch g z T) (some (.long v)) (mch g z T') := by
  obtain ⟨at0, ar, xs, dt, b1, b2, b3, b4, b5, b6⟩ := atoms_at hG hx
  obtain ⟨z1, ez⟩ := one_of (b4.trans hi)
  subst ez
  have q1 := c_voa (E := E) (d := D) (b5 0 z1 rfl T) hE hb
  have ea : iatm it 0 = it.2.2.2.1 := rfl
  rw [ea] at q1
  have o1 : VOk nf (lkE L it.2.2.2.1) := clkE hE
  have f1 := c_isf (E := E) (d := D + 1) (h := mch g z T) (o1.k4 hn)
  rw [h1] at f1
  generalize lkE L it.2.2.2.1 = w at *
  obtain ⟨wb, wx⟩ := w
  simp only at h1
  subst h1
  have eL : vL (false, wx) = wx.toInt64 &&& Int64.ofInt 4294967295 := rfl
  rw [eL] at q1 f1
  have hz := vL_zero wx
  have b1T := b1 T
  have b3T := b3 T
  have b6T := b6 T
  refine Rn.of (Nat.le_of_ble_eq_true rfl) ?_
  by_cases h0 : wx = 0
  · rw [if_pos h0] at hr
    have hz' := hz.mpr h0
    refine Rk.tr (F1 := (121, 1, _, _)) (x_aload_n rfl rfl rfl) ?_
    refine Rk.tr (F1 := (121, 2, _, _)) (x_aload_n rfl rfl rfl) ?_
    refine Rk.tr (F1 := (121, 5, _, _)) (x_getf rfl rfl b1T rfl) ?_
    refine Rk.tr (F1 := (121, 6, _, _)) (x_iconst rfl) ?_
    refine Rk.tr (F1 := (121, 7, _, _)) (x_aald (n := 0) rfl b3T rfl rfl rfl (by omega) rfl) ?_
    refine Rk.tr (F1 := (121, 8, _, _)) (x_iload_n rfl rfl) ?_
    refine Rk.tr (F1 := (121, 11, _, _)) (x_callv (As := [_, _]) rfl rfl rfl (Or.inr rfl) rfl rfl mch_z (by decide) rfl (Nat.le_of_ble_eq_true rfl) q1 rfl) ?_
    refine Rk.tr (F1 := (121, 13, [_, _, _, _, _, _, _], _)) (x_lstore (i := 4) rfl (Nat.le_of_ble_eq_true rfl)) ?_
    refine Rk.tr (F1 := (121, 15, _, _)) (x_lload rfl rfl) ?_
    refine Rk.tr (F1 := (121, 18, _, _)) (x_calls (As := [_]) rfl rfl rfl rfl rfl rfl (Nat.le_of_ble_eq_true rfl) f1 rfl) ?_
    refine Rk.tr (F1 := (121, 27, _, _)) (x_ifT rfl (tg := 27) rfl rfl) ?_
    refine Rk.tr (F1 := (121, 28, _, _)) (x_aload_n rfl rfl rfl) ?_
    refine Rk.tr (F1 := (121, 31, _, _)) (x_getf rfl rfl b1T rfl) ?_
    refine Rk.tr (F1 := (121, 33, _, _)) (x_lload rfl rfl) ?_
    refine Rk.tr (F1 := (121, 34, _, _)) (x_lconst rfl) ?_
    refine Rk.tr (F1 := (121, 35, _, _)) (x_lcmp rfl) ?_
    refine Rk.tr (F1 := (121, 38, _, _)) (x_ifF rfl (tg := 42) rfl (fun q => q hz')) ?_
    refine Rk.tr (F1 := (121, 39, _, _)) (x_iconst rfl) ?_
    refine Rk.tr (F1 := (121, 43, _, _)) (x_goto rfl rfl) ?_
    refine Rk.tr (F1 := (121, 44, _, _)) (x_aald (n := 1) rfl b6T rfl rfl rfl (by omega) rfl) ?_
    refine Rk.tr (F1 := (121, 46, [_, _, _, _, _, _, _], _)) (x_astore (i := 6) rfl (Nat.le_of_ble_eq_true rfl)) ?_
    refine Rk.tr (F1 := (121, 47, _, _)) (x_aload_n rfl rfl rfl) ?_
    refine Rk.tr (F1 := (121, 49, _, _)) (x_aload rfl rfl rfl) ?_
    refine Rk.tr (F1 := (121, 50, _, _)) (x_iload_n rfl rfl) ?_
    refine Rk.tr (F1 := (121, 51, _, _)) (x_iload_n rfl rfl) ?_
    refine Rk.tr (F1 := (121, 52, _, _)) (x_iconst rfl) ?_
    refine Rk.tr (F1 := (121, 53, _, _)) (x_iadd rfl) ?_
    refine Rk.tr (F1 := (121, 53, _, _)) (x_top (nI_1 dp)) ?_
    refine Rk.tr (F1 := (121, 56, _, _)) (x_callv (As := [_, _, _]) rfl rfl rfl (Or.inr rfl) rfl rfl mch_z (by decide) rfl (Nat.le_of_ble_eq_true rfl) hr rfl) ?_
    exact Rk.end rfl (Or.inr (Or.inr (Or.inl ⟨rfl, rfl, _, rfl, rfl⟩)))
  · rw [if_neg h0] at hr
    have hz' : ¬ lg_cmp (wx.toInt64 &&& Int64.ofInt 4294967295) (Int64.ofNat 0) = 0 := fun q => h0 (hz.mp q)
    refine Rk.tr (F1 := (121, 1, _, _)) (x_aload_n rfl rfl rfl) ?_
    refine Rk.tr (F1 := (121, 2, _, _)) (x_aload_n rfl rfl rfl) ?_
    refine Rk.tr (F1 := (121, 5, _, _)) (x_getf rfl rfl b1T rfl) ?_
    refine Rk.tr (F1 := (121, 6, _, _)) (x_iconst rfl) ?_
    refine Rk.tr (F1 := (121, 7, _, _)) (x_aald (n := 0) rfl b3T rfl rfl rfl (by omega) rfl) ?_
    refine Rk.tr (F1 := (121, 8, _, _)) (x_iload_n rfl rfl) ?_
    refine Rk.tr (F1 := (121, 11, _, _)) (x_callv (As := [_, _]) rfl rfl rfl (Or.inr rfl) rfl rfl mch_z (by decide) rfl (Nat.le_of_ble_eq_true rfl) q1 rfl) ?_
    refine Rk.tr (F1 := (121, 13, [_, _, _, _, _, _, _], _)) (x_lstore (i := 4) rfl (Nat.le_of_ble_eq_true rfl)) ?_
    refine Rk.tr (F1 := (121, 15, _, _)) (x_lload rfl rfl) ?_
    refine Rk.tr (F1 := (121, 18, _, _)) (x_calls (As := [_]) rfl rfl rfl rfl rfl rfl (Nat.le_of_ble_eq_true rfl) f1 rfl) ?_
    refine Rk.tr (F1 := (121, 27, _, _)) (x_ifT rfl (tg := 27) rfl rfl) ?_
    refine Rk.tr (F1 := (121, 28, _, _)) (x_aload_n rfl rfl rfl) ?_
    refine Rk.tr (F1 := (121, 31, _, _)) (x_getf rfl rfl b1T rfl) ?_
    refine Rk.tr (F1 := (121, 33, _, _)) (x_lload rfl rfl) ?_
    refine Rk.tr (F1 := (121, 34, _, _)) (x_lconst rfl) ?_
    refine Rk.tr (F1 := (121, 35, _, _)) (x_lcmp rfl) ?_
    refine Rk.tr (F1 := (121, 42, _, _)) (x_ifT rfl (tg := 42) rfl hz') ?_
    refine Rk.tr (F1 := (121, 43, _, _)) (x_iconst rfl) ?_
    refine Rk.tr (F1 := (121, 44, _, _)) (x_aald (n := 0) rfl b6T rfl rfl rfl (by omega) rfl) ?_
    refine Rk.tr (F1 := (121, 46, [_, _, _, _, _, _, _], _)) (x_astore (i := 6) rfl (Nat.le_of_ble_eq_true rfl)) ?_
    refine Rk.tr (F1 := (121, 47, _, _)) (x_aload_n rfl rfl rfl) ?_
    refine Rk.tr (F1 := (121, 49, _, _)) (x_aload rfl rfl rfl) ?_
    refine Rk.tr (F1 := (121, 50, _, _)) (x_iload_n rfl rfl) ?_
    refine Rk.tr (F1 := (121, 51, _, _)) (x_iload_n rfl rfl) ?_
    refine Rk.tr (F1 := (121, 52, _, _)) (x_iconst rfl) ?_
    refine Rk.tr (F1 := (121, 53, _, _)) (x_iadd rfl) ?_
    refine Rk.tr (F1 := (121, 53, _, _)) (x_top (nI_1 dp)) ?_
    refine Rk.tr (F1 := (121, 56, _, _)) (x_callv (As := [_, _, _]) rfl rfl rfl (Or.inr rfl) rfl rfl mch_z (by decide) rfl (Nat.le_of_ble_eq_true rfl) hr rfl) ?_
    exact Rk.end rfl (Or.inr (Or.inr (Or.inl ⟨rfl, rfl, _, rfl, rfl⟩)))
theorem c_vrow13 {r : Nat} {c : Int32} : Rn E (d + 1) 111 [.ref z, .ref r, .int c, .int (nI 13)] (mch g z T) (some (.long 0)) (mch g z (tI T 7 4)) := by
  have e1 := c_endw (E := E) (d := d) (g := g) (z := z) (T := T) (k := 4)
  refine Rn.of (Nat.le_of_ble_eq_true rfl) ?_
  refine Rk.tr (F1 := (111, 1, _, _)) (x_iload_n rfl rfl) ?_
  refine Rk.tr (F1 := (111, 3, _, _)) (x_bipush rfl) ?_
  refine Rk.tr (F1 := (111, 6, _, _)) (x_icF rfl (tg := 12) rfl (show ¬ nI 13 ≤ nI 12 from nI_ge (by omega) (by omega))) ?_
  refine Rk.tr (F1 := (111, 7, _, _)) (x_aload_n rfl rfl rfl) ?_
  refine Rk.tr (F1 := (111, 8, _, _)) (x_iconst rfl) ?_
  refine Rk.tr (F1 := (111, 11, _, _)) (x_callv (As := [_]) rfl rfl rfl (Or.inr rfl) rfl rfl mch_z (by decide) rfl (Nat.le_of_ble_eq_true rfl) e1 rfl) ?_
  exact Rk.end rfl (Or.inr (Or.inr (Or.inl ⟨rfl, rfl, _, rfl, rfl⟩)))
theorem c_vrow {r dp dm : Nat} {c : Int32} {v : Int64} {T' : MT} (hd : dp ≤ 12) (hm : dm ≤ 12) (h11 : T.1 11 = nI dm) (hr : Rk E (d + 1) (111, 30, [some (.ref z), some (.ref r), some (.int c), some (.int (nI dp)), some (.int c), some (.int (nI 0)), none, none, none], []) (mch g z (tI T 11 (nI (max dm dp)))) (some (.long v)) (mch g z T')) : Rn E (d + 1) 111 [.ref z, .ref r, .int c, .int (nI dp)] (mch g z T) (some (.long v)) (mch g z T') := by
  have zT : (mch g z T).1 z = some (4, [.ref (z + 1), .ref (z + 2), .ref (z + 3), .int (T.1 3), .ref (z + 4), .ref (z + 5), .int (T.1 6), .int (T.1 7), .int (T.1 8), .int (T.1 9), .int (T.1 10), .int (nI dm)]) := by
    rw [mch_z]
    unfold mcf
    rw [h11]
  refine Rn.of (Nat.le_of_ble_eq_true rfl) ?_
  refine Rk.tr (F1 := (111, 1, _, _)) (x_iload_n rfl rfl) ?_
  refine Rk.tr (F1 := (111, 3, _, _)) (x_bipush rfl) ?_
  refine Rk.tr (F1 := (111, 12, _, _)) (x_icT rfl (tg := 12) rfl (show nI dp ≤ nI 12 from nI_le (by omega) (by omega))) ?_
  refine Rk.tr (F1 := (111, 13, _, _)) (x_aload_n rfl rfl rfl) ?_
  refine Rk.tr (F1 := (111, 14, _, _)) (x_aload_n rfl rfl rfl) ?_
  refine Rk.tr (F1 := (111, 17, _, _)) (x_getf rfl rfl zT rfl) ?_
  refine Rk.tr (F1 := (111, 18, _, _)) (x_iload_n rfl rfl) ?_
  refine Rk.tr (F1 := (111, 21, _, _)) (x_max rfl rfl (Nat.le_of_ble_eq_true rfl)) ?_
  refine Rk.tr (F1 := (111, 21, _, _)) (x_top (nI_max (m := dm) (n := dp) (by omega) (by omega))) ?_
  refine Rk.tr (F1 := (111, 24, _, _)) (mc_put rfl rfl rfl rfl rfl rfl) ?_
  refine Rk.tr (F1 := (111, 25, _, _)) (x_iload_n rfl rfl) ?_
  refine Rk.tr (F1 := (111, 27, [_, _, _, _, _, _, _, _, _], _)) (x_istore (i := 4) rfl (Nat.le_of_ble_eq_true rfl)) ?_
  refine Rk.tr (F1 := (111, 28, _, _)) (x_iconst rfl) ?_
  refine Rk.tr (F1 := (111, 30, [_, _, _, _, _, _, _, _, _], _)) (x_istore (i := 5) rfl (Nat.le_of_ble_eq_true rfl)) ?_
  exact hr
end M47
