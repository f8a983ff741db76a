/-! ===== the class: a run ===== -/
section M50
variable {E : PE} {d : Nat} {g : PH} {z : Nat} {T : MT} {O : Nat → Nat × Nat} {G : PG}
theorem c_start (hG : ∀ T, GH E (mch g z T) O G) {P : List AI} {y root : Nat} {v1 v2 : Value} (hy : ∀ T, (mch g z T).1 y = some (6, [.ref root, v1, v2])) (hW : WA G [(root, [])] P []) :
    ∃ T' : MT, Rn E (d + 46) 110 [.ref z, .ref y] (mch g z T) (some (.int (nI (evP (AP P)).1))) (mch g z T') ∧ T'.1 8 = (if (evP (AP P)).1 = 0 then (if (evP (AP P)).2.1.1 = true then 0 else (evP (AP P)).2.1.2) else 0) ∧ T'.1 9 = (if (evP (AP P)).1 = 0 then bI (evP (AP P)).2.1.1 else 0) ∧ T'.1 10 = nI (evP (AP P)).2.2.2.2.1 ∧ T'.1 11 = nI (evP (AP P)).2.2.2.2.2 := by
  generalize hT0 : tI (tI (tI (tI (tI T 3 0) 6 0) 7 0) 10 0) 11 0 = T0
  have t3 : T0.1 3 = nI 0 := by rw [← hT0]; rfl
  have t6 : T0.1 6 = nI 0 := by rw [← hT0]; rfl
  have t7 : T0.1 7 = 0 := by rw [← hT0]; rfl
  have t10 : T0.1 10 = nI 0 := by rw [← hT0]; rfl
  have t11 : T0.1 11 = nI 0 := by rw [← hT0]; rfl
  have R0 : RC G T0 0 0 sg0 := ⟨t3, Nat.le_refl _, Nat.zero_le _, t6, Nat.le_refl _, t7, t10, t11, Nat.zero_le _, fun k hk => absurd hk (Nat.not_lt_zero k)⟩
  have R1 := RC_mx (m := 0) R0 (by omega)
  obtain ⟨v, T1, n1, n2⟩ := lp_row hG 401 P root [] [] [] 0 sg0 (tI T0 11 (nI (max 0 0))) 0 (-1) d (-1) none none none (Nat.le_refl _) (by omega) hW R1 rfl
  have hrow := c_vrow (E := E) (d := d + 44) (T := T0) (r := root) (dp := 0) (dm := 0) (c := -1) (by omega) (by omega) t11 n1
  have yT := hy T0
  have e0 : ev 401 (AP P) [] 0 sg0 = evP (AP P) := rfl
  rw [e0] at n2
  generalize evP (AP P) = r at n2 ⊢
  obtain ⟨-, m⟩ := n2
  rcases m with ⟨m1, m2, m3, -, nc4, -, m6, -⟩ | ⟨m1, m2, m3, m4, m5⟩
  · obtain ⟨s1, s2, s3, s4, s5, s6, s7, s8, s9, s10⟩ := m6
    rw [m1, if_pos rfl, if_pos rfl]
    subst m2
    have f1 := c_isf (E := E) (d := d + 45) (h := mch g z T1) (m3.k4 (by omega))
    have i1 := vL_i m3 (by omega)
    have zT : (mch g z T1).1 z = some (4, [.ref (z + 1), .ref (z + 2), .ref (z + 3), .int (T1.1 3), .ref (z + 4), .ref (z + 5), .int (T1.1 6), .int 0, .int (T1.1 8), .int (T1.1 9), .int (T1.1 10), .int (T1.1 11)]) := by
      rw [mch_z]
      unfold mcf
      rw [s6]
    by_cases hb : r.2.1.1 = true
    · rw [if_pos hb]
      rw [hb] at f1 ⊢
      have zT2 : (mch g z (tI T1 9 1)).1 z = some (4, [.ref (z + 1), .ref (z + 2), .ref (z + 3), .int (T1.1 3), .ref (z + 4), .ref (z + 5), .int (T1.1 6), .int 0, .int (T1.1 8), .int 1, .int (T1.1 10), .int (T1.1 11)]) := by
        rw [mch_z]
        unfold mcf
        show some (4, [_, _, _, _, _, _, _, Value.int (T1.1 7), _, _, _, _]) = _
        rw [s6]
        rfl
      have zT9 : (mch g z (tI (tI T1 9 1) 8 0)).1 z = some (4, [.ref (z + 1), .ref (z + 2), .ref (z + 3), .int (T1.1 3), .ref (z + 4), .ref (z + 5), .int (T1.1 6), .int (nI 0), .int 0, .int 1, .int (T1.1 10), .int (T1.1 11)]) := by
        rw [mch_z]
        unfold mcf
        show some (4, [_, _, _, _, _, _, _, Value.int (T1.1 7), _, _, _, _]) = _
        rw [s6]
        rfl
      refine ⟨tI (tI T1 9 1) 8 0, Rn.of (Nat.le_of_ble_eq_true rfl) ?_, rfl, rfl, s7, s8⟩
      rw [← hT0] at hrow yT
      refine Rk.tr (F1 := (110, 1, _, _)) (x_aload_n rfl rfl rfl) ?_
      refine Rk.tr (F1 := (110, 2, _, _)) (x_iconst rfl) ?_
      refine Rk.tr (F1 := (110, 5, _, _)) (mc_put rfl rfl rfl rfl rfl rfl) ?_
      refine Rk.tr (F1 := (110, 6, _, _)) (x_aload_n rfl rfl rfl) ?_
      refine Rk.tr (F1 := (110, 7, _, _)) (x_iconst rfl) ?_
      refine Rk.tr (F1 := (110, 10, _, _)) (mc_put rfl rfl rfl rfl rfl rfl) ?_
      refine Rk.tr (F1 := (110, 11, _, _)) (x_aload_n rfl rfl rfl) ?_
      refine Rk.tr (F1 := (110, 12, _, _)) (x_iconst rfl) ?_
      refine Rk.tr (F1 := (110, 15, _, _)) (mc_put rfl rfl rfl rfl rfl rfl) ?_
      refine Rk.tr (F1 := (110, 16, _, _)) (x_aload_n rfl rfl rfl) ?_
      refine Rk.tr (F1 := (110, 17, _, _)) (x_iconst rfl) ?_
      refine Rk.tr (F1 := (110, 20, _, _)) (mc_put rfl rfl rfl rfl rfl rfl) ?_
      refine Rk.tr (F1 := (110, 21, _, _)) (x_aload_n rfl rfl rfl) ?_
      refine Rk.tr (F1 := (110, 22, _, _)) (x_iconst rfl) ?_
      refine Rk.tr (F1 := (110, 25, _, _)) (mc_put rfl rfl rfl rfl rfl rfl) ?_
      refine Rk.tr (F1 := (110, 26, _, _)) (x_aload_n rfl rfl rfl) ?_
      refine Rk.tr (F1 := (110, 27, _, _)) (x_aload_n rfl rfl rfl) ?_
      refine Rk.tr (F1 := (110, 30, _, _)) (x_getf rfl rfl yT rfl) ?_
      refine Rk.tr (F1 := (110, 31, _, _)) (x_iconst rfl) ?_
      refine Rk.tr (F1 := (110, 32, _, _)) (x_iconst rfl) ?_
      refine Rk.tr (F1 := (110, 35, _, _)) (x_callv (As := [_, _, _]) rfl rfl rfl (Or.inr rfl) rfl rfl mch_z (by decide) rfl (Nat.le_of_ble_eq_true rfl) hrow rfl) ?_
      refine Rk.tr (F1 := (110, 36, [_, _, _, _], _)) (x_lstore_n (i := 2) rfl (Nat.le_of_ble_eq_true rfl)) ?_
      refine Rk.tr (F1 := (110, 37, _, _)) (x_aload_n rfl rfl rfl) ?_
      refine Rk.tr (F1 := (110, 38, _, _)) (x_aload_n rfl rfl rfl) ?_
      refine Rk.tr (F1 := (110, 41, _, _)) (x_getf rfl rfl zT rfl) ?_
      refine Rk.tr (F1 := (110, 44, _, _)) (x_ifF rfl (tg := 55) rfl (fun q => q rfl)) ?_
      refine Rk.tr (F1 := (110, 45, _, _)) (x_lload_n rfl rfl) ?_
      refine Rk.tr (F1 := (110, 48, _, _)) (x_calls (As := [_]) rfl rfl rfl rfl rfl rfl (Nat.le_of_ble_eq_true rfl) f1 rfl) ?_
      refine Rk.tr (F1 := (110, 51, _, _)) (x_ifF rfl (tg := 55) rfl (show ¬ (1 : Int32) = 0 by decide)) ?_
      refine Rk.tr (F1 := (110, 52, _, _)) (x_iconst rfl) ?_
      refine Rk.tr (F1 := (110, 56, _, _)) (x_goto rfl rfl) ?_
      refine Rk.tr (F1 := (110, 59, _, _)) (mc_put rfl rfl rfl rfl rfl rfl) ?_
      refine Rk.tr (F1 := (110, 60, _, _)) (x_aload_n rfl rfl rfl) ?_
      refine Rk.tr (F1 := (110, 61, _, _)) (x_aload_n rfl rfl rfl) ?_
      refine Rk.tr (F1 := (110, 64, _, _)) (x_getf rfl rfl zT2 rfl) ?_
      refine Rk.tr (F1 := (110, 67, _, _)) (x_ifF rfl (tg := 79) rfl (fun q => q rfl)) ?_
      refine Rk.tr (F1 := (110, 68, _, _)) (x_aload_n rfl rfl rfl) ?_
      refine Rk.tr (F1 := (110, 71, _, _)) (x_getf rfl rfl zT2 rfl) ?_
      refine Rk.tr (F1 := (110, 79, _, _)) (x_ifT rfl (tg := 79) rfl (show ¬ (1 : Int32) = 0 by decide)) ?_
      refine Rk.tr (F1 := (110, 80, _, _)) (x_iconst rfl) ?_
      refine Rk.tr (F1 := (110, 83, _, _)) (mc_put rfl rfl rfl rfl rfl rfl) ?_
      refine Rk.tr (F1 := (110, 84, _, _)) (x_aload_n rfl rfl rfl) ?_
      refine Rk.tr (F1 := (110, 87, _, _)) (x_getf rfl rfl zT9 rfl) ?_
      exact Rk.end rfl (Or.inr (Or.inl ⟨rfl, _, .int, rfl, rfl, rfl, rfl⟩))
    · have hb' : r.2.1.1 = false := by cases hh : r.2.1.1 <;> simp_all
      rw [if_neg hb]
      rw [hb'] at f1 ⊢
      have zT2 : (mch g z (tI T1 9 0)).1 z = some (4, [.ref (z + 1), .ref (z + 2), .ref (z + 3), .int (T1.1 3), .ref (z + 4), .ref (z + 5), .int (T1.1 6), .int 0, .int (T1.1 8), .int 0, .int (T1.1 10), .int (T1.1 11)]) := by
        rw [mch_z]
        unfold mcf
        show some (4, [_, _, _, _, _, _, _, Value.int (T1.1 7), _, _, _, _]) = _
        rw [s6]
        rfl
      have zT9 : (mch g z (tI (tI T1 9 0) 8 r.2.1.2)).1 z = some (4, [.ref (z + 1), .ref (z + 2), .ref (z + 3), .int (T1.1 3), .ref (z + 4), .ref (z + 5), .int (T1.1 6), .int (nI 0), .int r.2.1.2, .int 0, .int (T1.1 10), .int (T1.1 11)]) := by
        rw [mch_z]
        unfold mcf
        show some (4, [_, _, _, _, _, _, _, Value.int (T1.1 7), _, _, _, _]) = _
        rw [s6]
        rfl
      refine ⟨tI (tI T1 9 0) 8 r.2.1.2, Rn.of (Nat.le_of_ble_eq_true rfl) ?_, rfl, rfl, s7, s8⟩
      rw [← hT0] at hrow yT
      refine Rk.tr (F1 := (110, 1, _, _)) (x_aload_n rfl rfl rfl) ?_
      refine Rk.tr (F1 := (110, 2, _, _)) (x_iconst rfl) ?_
      refine Rk.tr (F1 := (110, 5, _, _)) (mc_put rfl rfl rfl rfl rfl rfl) ?_
      refine Rk.tr (F1 := (110, 6, _, _)) (x_aload_n rfl rfl rfl) ?_
      refine Rk.tr (F1 := (110, 7, _, _)) (x_iconst rfl) ?_
      refine Rk.tr (F1 := (110, 10, _, _)) (mc_put rfl rfl rfl rfl rfl rfl) ?_
      refine Rk.tr (F1 := (110, 11, _, _)) (x_aload_n rfl rfl rfl) ?_
      refine Rk.tr (F1 := (110, 12, _, _)) (x_iconst rfl) ?_
      refine Rk.tr (F1 := (110, 15, _, _)) (mc_put rfl rfl rfl rfl rfl rfl) ?_
      refine Rk.tr (F1 := (110, 16, _, _)) (x_aload_n rfl rfl rfl) ?_
      refine Rk.tr (F1 := (110, 17, _, _)) (x_iconst rfl) ?_
      refine Rk.tr (F1 := (110, 20, _, _)) (mc_put rfl rfl rfl rfl rfl rfl) ?_
      refine Rk.tr (F1 := (110, 21, _, _)) (x_aload_n rfl rfl rfl) ?_
      refine Rk.tr (F1 := (110, 22, _, _)) (x_iconst rfl) ?_
      refine Rk.tr (F1 := (110, 25, _, _)) (mc_put rfl rfl rfl rfl rfl rfl) ?_
      refine Rk.tr (F1 := (110, 26, _, _)) (x_aload_n rfl rfl rfl) ?_
      refine Rk.tr (F1 := (110, 27, _, _)) (x_aload_n rfl rfl rfl) ?_
      refine Rk.tr (F1 := (110, 30, _, _)) (x_getf rfl rfl yT rfl) ?_
      refine Rk.tr (F1 := (110, 31, _, _)) (x_iconst rfl) ?_
      refine Rk.tr (F1 := (110, 32, _, _)) (x_iconst rfl) ?_
      refine Rk.tr (F1 := (110, 35, _, _)) (x_callv (As := [_, _, _]) rfl rfl rfl (Or.inr rfl) rfl rfl mch_z (by decide) rfl (Nat.le_of_ble_eq_true rfl) hrow rfl) ?_
      refine Rk.tr (F1 := (110, 36, [_, _, _, _], _)) (x_lstore_n (i := 2) rfl (Nat.le_of_ble_eq_true rfl)) ?_
      refine Rk.tr (F1 := (110, 37, _, _)) (x_aload_n rfl rfl rfl) ?_
      refine Rk.tr (F1 := (110, 38, _, _)) (x_aload_n rfl rfl rfl) ?_
      refine Rk.tr (F1 := (110, 41, _, _)) (x_getf rfl rfl zT rfl) ?_
      refine Rk.tr (F1 := (110, 44, _, _)) (x_ifF rfl (tg := 55) rfl (fun q => q rfl)) ?_
      refine Rk.tr (F1 := (110, 45, _, _)) (x_lload_n rfl rfl) ?_
      refine Rk.tr (F1 := (110, 48, _, _)) (x_calls (As := [_]) rfl rfl rfl rfl rfl rfl (Nat.le_of_ble_eq_true rfl) f1 rfl) ?_
      refine Rk.tr (F1 := (110, 55, _, _)) (x_ifT rfl (tg := 55) rfl rfl) ?_
      refine Rk.tr (F1 := (110, 56, _, _)) (x_iconst rfl) ?_
      refine Rk.tr (F1 := (110, 59, _, _)) (mc_put rfl rfl rfl rfl rfl rfl) ?_
      refine Rk.tr (F1 := (110, 60, _, _)) (x_aload_n rfl rfl rfl) ?_
      refine Rk.tr (F1 := (110, 61, _, _)) (x_aload_n rfl rfl rfl) ?_
      refine Rk.tr (F1 := (110, 64, _, _)) (x_getf rfl rfl zT2 rfl) ?_
      refine Rk.tr (F1 := (110, 67, _, _)) (x_ifF rfl (tg := 79) rfl (fun q => q rfl)) ?_
      refine Rk.tr (F1 := (110, 68, _, _)) (x_aload_n rfl rfl rfl) ?_
      refine Rk.tr (F1 := (110, 71, _, _)) (x_getf rfl rfl zT2 rfl) ?_
      refine Rk.tr (F1 := (110, 74, _, _)) (x_ifF rfl (tg := 79) rfl (fun q => q rfl)) ?_
      refine Rk.tr (F1 := (110, 75, _, _)) (x_lload_n rfl rfl) ?_
      refine Rk.tr (F1 := (110, 76, _, _)) (x_l2i rfl) ?_
      refine Rk.tr (F1 := (110, 76, _, _)) (x_top i1) ?_
      refine Rk.tr (F1 := (110, 80, _, _)) (x_goto rfl rfl) ?_
      refine Rk.tr (F1 := (110, 83, _, _)) (mc_put rfl rfl rfl rfl rfl rfl) ?_
      refine Rk.tr (F1 := (110, 84, _, _)) (x_aload_n rfl rfl rfl) ?_
      refine Rk.tr (F1 := (110, 87, _, _)) (x_getf rfl rfl zT9 rfl) ?_
      exact Rk.end rfl (Or.inr (Or.inl ⟨rfl, _, .int, rfl, rfl, rfl, rfl⟩))
  · rw [if_neg m1, if_neg m1]
    have hne : ¬ nI r.1 = nI 0 := fun q => m1 ((nI_eq (by omega) (by omega)).mp q)
    have zT : (mch g z T1).1 z = some (4, [.ref (z + 1), .ref (z + 2), .ref (z + 3), .int (T1.1 3), .ref (z + 4), .ref (z + 5), .int (T1.1 6), .int (nI r.1), .int (T1.1 8), .int (T1.1 9), .int (T1.1 10), .int (T1.1 11)]) := by
      rw [mch_z]
      unfold mcf
      rw [m3]
    have zT2 : ∀ n : Int32, (mch g z (tI (tI T1 9 0) 8 n)).1 z = some (4, [.ref (z + 1), .ref (z + 2), .ref (z + 3), .int (T1.1 3), .ref (z + 4), .ref (z + 5), .int (T1.1 6), .int (nI r.1), .int n, .int 0, .int (T1.1 10), .int (T1.1 11)]) := fun n => by
      rw [mch_z]
      unfold mcf
      show some (4, [_, _, _, _, _, _, _, Value.int (T1.1 7), _, _, _, _]) = _
      rw [m3]
      rfl
    have zT3 : (mch g z (tI T1 9 0)).1 z = some (4, [.ref (z + 1), .ref (z + 2), .ref (z + 3), .int (T1.1 3), .ref (z + 4), .ref (z + 5), .int (T1.1 6), .int (nI r.1), .int (T1.1 8), .int 0, .int (T1.1 10), .int (T1.1 11)]) := by
      rw [mch_z]
      unfold mcf
      show some (4, [_, _, _, _, _, _, _, Value.int (T1.1 7), _, _, _, _]) = _
      rw [m3]
      rfl
    refine ⟨tI (tI T1 9 0) 8 0, Rn.of (Nat.le_of_ble_eq_true rfl) ?_, rfl, rfl, m4, m5⟩
    rw [← hT0] at hrow yT
    refine Rk.tr (F1 := (110, 1, _, _)) (x_aload_n rfl rfl rfl) ?_
    refine Rk.tr (F1 := (110, 2, _, _)) (x_iconst rfl) ?_
    refine Rk.tr (F1 := (110, 5, _, _)) (mc_put rfl rfl rfl rfl rfl rfl) ?_
    refine Rk.tr (F1 := (110, 6, _, _)) (x_aload_n rfl rfl rfl) ?_
    refine Rk.tr (F1 := (110, 7, _, _)) (x_iconst rfl) ?_
    refine Rk.tr (F1 := (110, 10, _, _)) (mc_put rfl rfl rfl rfl rfl rfl) ?_
    refine Rk.tr (F1 := (110, 11, _, _)) (x_aload_n rfl rfl rfl) ?_
    refine Rk.tr (F1 := (110, 12, _, _)) (x_iconst rfl) ?_
    refine Rk.tr (F1 := (110, 15, _, _)) (mc_put rfl rfl rfl rfl rfl rfl) ?_
    refine Rk.tr (F1 := (110, 16, _, _)) (x_aload_n rfl rfl rfl) ?_
    refine Rk.tr (F1 := (110, 17, _, _)) (x_iconst rfl) ?_
    refine Rk.tr (F1 := (110, 20, _, _)) (mc_put rfl rfl rfl rfl rfl rfl) ?_
    refine Rk.tr (F1 := (110, 21, _, _)) (x_aload_n rfl rfl rfl) ?_
    refine Rk.tr (F1 := (110, 22, _, _)) (x_iconst rfl) ?_
    refine Rk.tr (F1 := (110, 25, _, _)) (mc_put rfl rfl rfl rfl rfl rfl) ?_
    refine Rk.tr (F1 := (110, 26, _, _)) (x_aload_n rfl rfl rfl) ?_
    refine Rk.tr (F1 := (110, 27, _, _)) (x_aload_n rfl rfl rfl) ?_
    refine Rk.tr (F1 := (110, 30, _, _)) (x_getf rfl rfl yT rfl) ?_
    refine Rk.tr (F1 := (110, 31, _, _)) (x_iconst rfl) ?_
    refine Rk.tr (F1 := (110, 32, _, _)) (x_iconst rfl) ?_
    refine Rk.tr (F1 := (110, 35, _, _)) (x_callv (As := [_, _, _]) rfl rfl rfl (Or.inr rfl) rfl rfl mch_z (by decide) rfl (Nat.le_of_ble_eq_true rfl) hrow rfl) ?_
    refine Rk.tr (F1 := (110, 36, [_, _, _, _], _)) (x_lstore_n (i := 2) rfl (Nat.le_of_ble_eq_true rfl)) ?_
    refine Rk.tr (F1 := (110, 37, _, _)) (x_aload_n rfl rfl rfl) ?_
    refine Rk.tr (F1 := (110, 38, _, _)) (x_aload_n rfl rfl rfl) ?_
    refine Rk.tr (F1 := (110, 41, _, _)) (x_getf rfl rfl zT rfl) ?_
    refine Rk.tr (F1 := (110, 55, _, _)) (x_ifT rfl (tg := 55) rfl hne) ?_
    refine Rk.tr (F1 := (110, 56, _, _)) (x_iconst rfl) ?_
    refine Rk.tr (F1 := (110, 59, _, _)) (mc_put rfl rfl rfl rfl rfl rfl) ?_
    refine Rk.tr (F1 := (110, 60, _, _)) (x_aload_n rfl rfl rfl) ?_
    refine Rk.tr (F1 := (110, 61, _, _)) (x_aload_n rfl rfl rfl) ?_
    refine Rk.tr (F1 := (110, 64, _, _)) (x_getf rfl rfl zT3 rfl) ?_
    refine Rk.tr (F1 := (110, 79, _, _)) (x_ifT rfl (tg := 79) rfl hne) ?_
    refine Rk.tr (F1 := (110, 80, _, _)) (x_iconst rfl) ?_
    refine Rk.tr (F1 := (110, 83, _, _)) (mc_put rfl rfl rfl rfl rfl rfl) ?_
    refine Rk.tr (F1 := (110, 84, _, _)) (x_aload_n rfl rfl rfl) ?_
    refine Rk.tr (F1 := (110, 87, _, _)) (x_getf rfl rfl (zT2 _) rfl) ?_
    exact Rk.end rfl (Or.inr (Or.inl ⟨rfl, _, .int, rfl, rfl, rfl, rfl⟩))
end M50
