/-! ===== the class: simplify, count, written, run, ran ===== -/
theorem Tok1_det {R R' : Nat → Int32} {p p' : Nat} {it : It} (h : Tok1 R p it) (h' : Tok1 R' p' it) : ∀ j, j < isz it → R (p + j) = R' (p' + j) := by
  obtain ⟨k, nm, dt, ⟨a1, a2⟩, b1, b2⟩ := it
  rcases kd5 k with rfl | rfl | rfl | rfl | ⟨n2, n3, n5, n9⟩
  · obtain ⟨e0, e1, e2, e3⟩ := h
    obtain ⟨g0, g1, g2, g3⟩ := h'
    intro j hj
    have hj' : j < 4 := hj
    rcases (show j = 0 ∨ j = 1 ∨ j = 2 ∨ j = 3 by omega) with rfl | rfl | rfl | rfl
    · exact e0.trans g0.symm
    · exact e1.trans g1.symm
    · exact e2.trans g2.symm
    · exact e3.trans g3.symm
  · obtain ⟨e0, e1, e2, e3, e4, e5, e6⟩ := h
    obtain ⟨g0, g1, g2, g3, g4, g5, g6⟩ := h'
    intro j hj
    have hj' : j < 7 := hj
    rcases (show j = 0 ∨ j = 1 ∨ j = 2 ∨ j = 3 ∨ j = 4 ∨ j = 5 ∨ j = 6 by omega) with rfl | rfl | rfl | rfl | rfl | rfl | rfl
    · exact e0.trans g0.symm
    · exact e1.trans g1.symm
    · exact e2.trans g2.symm
    · exact e3.trans g3.symm
    · exact e4.trans g4.symm
    · exact e5.trans g5.symm
    · exact e6.trans g6.symm
  · obtain ⟨e0, e1, e2, e3, e4, e5, e6, e7⟩ := h
    obtain ⟨g0, g1, g2, g3, g4, g5, g6, g7⟩ := h'
    intro j hj
    have hj' : j < 8 := hj
    rcases (show j = 0 ∨ j = 1 ∨ j = 2 ∨ j = 3 ∨ j = 4 ∨ j = 5 ∨ j = 6 ∨ j = 7 by omega) with rfl | rfl | rfl | rfl | rfl | rfl | rfl | rfl
    · exact e0.trans g0.symm
    · exact e1.trans g1.symm
    · exact e2.trans g2.symm
    · exact e3.trans g3.symm
    · exact e4.trans g4.symm
    · exact e5.trans g5.symm
    · exact e6.trans g6.symm
    · exact e7.trans g7.symm
  · obtain ⟨e0, e1, e2⟩ := h
    obtain ⟨g0, g1, g2⟩ := h'
    intro j hj
    have hj' : j < 3 := hj
    rcases (show j = 0 ∨ j = 1 ∨ j = 2 by omega) with rfl | rfl | rfl
    · exact e0.trans g0.symm
    · exact e1.trans g1.symm
    · exact e2.trans g2.symm
  · obtain ⟨⟨e0, e1, e2, e3, e4⟩, z, -⟩ := Tok1_if n2 n3 n5 n9 h
    obtain ⟨⟨g0, g1, g2, g3, g4⟩, -⟩ := Tok1_if n2 n3 n5 n9 h'
    intro j hj
    rw [z] at hj
    rcases (show j = 0 ∨ j = 1 ∨ j = 2 ∨ j = 3 ∨ j = 4 by omega) with rfl | rfl | rfl | rfl | rfl
    · exact e0.trans g0.symm
    · exact e1.trans g1.symm
    · exact e2.trans g2.symm
    · exact e3.trans g3.symm
    · exact e4.trans g4.symm
theorem TokAt_det {R R' : Nat → Int32} : ∀ {P : List It} {p p' : Nat}, TokAt R p P → TokAt R' p' P → ∀ j, j < tsum P → R (p + j) = R' (p' + j)
  | [], p, p', _, _, j, hj => absurd hj (Nat.not_lt_zero j)
  | it :: P, p, p', h, h', j, hj => by
    by_cases c : j < isz it
    · exact Tok1_det h.1 h'.1 j c
    · have hj' : j < isz it + tsum P := hj
      have := TokAt_det h.2 h'.2 (j - isz it) (by omega)
      rw [Nat.add_assoc, Nat.add_assoc, Nat.add_sub_cancel' (by omega)] at this
      exact this
section M62
variable {E : PE} {d : Nat} {h : PH} {O : Nat → Nat × Nat} {G : PG} {x n : Nat} {cs rn : Nat → Int32} {W : Option PW}
theorem lp_simp : ∀ (k : Nat) (w : PW) (m : Nat) (h : PH) (O : Nat → Nat × Nat) (G : PG), ClH E h O G x n cs (some w) rn → (AP w.1).length < k → m + k ≤ 1000 → ∃ (h' : PH) (O' : Nat → Nat × Nat) (G' : PG) (Q' : List AI), Rk E (d + 118) (59, 19, [some (.ref x), some (.int (nI m))], []) h (some (.int (nI (sim k (AP w.1) m w.2.2.2.2.2).2.1))) h' ∧ ClH E h' O' G' x n cs (some (Q', w.2.1, w.2.2.1, w.2.2.2.1, w.2.2.2.2.1, (sim k (AP w.1) m w.2.2.2.2.2).2.2)) rn ∧ AP Q' = (sim k (AP w.1) m w.2.2.2.2.2).1 ∧ Kp h h' x ∧ (AP Q').length ≤ (AP w.1).length ∧ h'.2.1 ≤ h.2.1 + ((AP w.1).length - (AP Q').length) * 53 ∧ h'.2.2 ≤ h.2.2 + ((AP w.1).length - (AP Q').length) * 5930 := by
  intro k
  induction k with
  | zero => intro w m h O G _ hk; exact absurd hk (Nat.not_lt_zero _)
  | succ k ih =>
    intro w m h O G hC hk hm
    obtain ⟨c1, c2, c3, c4, c5, ⟨z1, ⟨pf, z2⟩, z3, lf, z4⟩, c7, c8, c9⟩ := id hC
    obtain ⟨p1, p2, p3, p4, p5, p6, p7⟩ := c9 w rfl
    have hP : PsH (x + 4) (x + 5) (x + 6) w.2.2.1 w.2.1 w.2.2.2.1 w.2.2.2.2.1 h O pf lf w.2.2.2.2.2 := ⟨z1, z2, z3, z4, p1, p2, by omega⟩
    obtain ⟨h1, O1, G1, Q1, pf', lf', m1, m2, m3, m4, m5, m6, m7, m8, m9, m10⟩ := c_makeOne (E := E) (d := d) c1 hP p5 p6 p7
    obtain ⟨k1, k2⟩ := hC.pass m2 m3 m4 m5 m7 m8
    have hcnt := paP_cnt w.2.2.2.2.2 p7
    have hil := Inv_len p7
    have c4' : h.1 x = some (9, [.ref (x + 1), .ref (x + 4), .ref (x + 7), .ref (x + 9), .ref w.2.2.1]) := c4
    rw [← m6] at hcnt
    by_cases hz : (paP (AP w.1) w.2.2.2.2.2).2.1 = 0
    · have es : sim (k + 1) (AP w.1) m w.2.2.2.2.2 = ((paP (AP w.1) w.2.2.2.2.2).1, m, (paP (AP w.1) w.2.2.2.2.2).2.2) := by show (if (paP (AP w.1) w.2.2.2.2.2).2.1 = 0 then _ else _) = _; rw [if_pos hz]
      rw [es]
      rw [hz] at m1 m9 m10
      refine ⟨h1, O1, G1, Q1, ?_, k1, m6, k2, Nat.le_trans (Nat.le_add_right _ _) hcnt, Nat.le_trans m9 (Nat.add_le_add_left (by rw [Nat.zero_mul]; exact Nat.zero_le _) _), Nat.le_trans m10 (Nat.add_le_add_left (by rw [Nat.zero_mul]; exact Nat.zero_le _) _)⟩
      refine Rk.tr (F1 := (59, 20, _, _)) (x_iload_n rfl rfl) ?_
      refine Rk.tr (F1 := (59, 22, _, _)) (x_ldc rfl rfl) ?_
      refine Rk.tr (F1 := (59, 25, _, _)) (x_icF rfl (tg := 45) rfl (show ¬ nI 100000 ≤ nI m from nI_ge (by omega) (by omega))) ?_
      refine Rk.tr (F1 := (59, 26, _, _)) (x_aload_n rfl rfl rfl) ?_
      refine Rk.tr (F1 := (59, 29, _, _)) (x_getf rfl rfl c4' rfl) ?_
      refine Rk.tr (F1 := (59, 30, _, _)) (x_aload_n rfl rfl rfl) ?_
      refine Rk.tr (F1 := (59, 33, _, _)) (x_getf rfl rfl c4' rfl) ?_
      refine Rk.tr (F1 := (59, 36, _, _)) (x_callv (As := [_]) rfl rfl rfl (Or.inl rfl) rfl rfl z1 (by decide) rfl (Nat.le_of_ble_eq_true rfl) m1 rfl) ?_
      refine Rk.tr (F1 := (59, 45, _, _)) (x_ifT rfl (tg := 45) rfl (Int32.le_refl _)) ?_
      refine Rk.tr (F1 := (59, 46, _, _)) (x_iload_n rfl rfl) ?_
      exact Rk.end rfl (Or.inr (Or.inl ⟨rfl, _, .int, rfl, rfl, rfl, rfl⟩))
    · have es : sim (k + 1) (AP w.1) m w.2.2.2.2.2 = sim k (paP (AP w.1) w.2.2.2.2.2).1 (m + 1) (paP (AP w.1) w.2.2.2.2.2).2.2 := by show (if (paP (AP w.1) w.2.2.2.2.2).2.1 = 0 then _ else _) = _; rw [if_neg hz]
      rw [es, ← m6]
      obtain ⟨h2, O2, G2, Q2, n1, n2, n3, n4, n5, n6, n7⟩ := ih (Q1, w.2.1, w.2.2.1, w.2.2.2.1, w.2.2.2.2.1, (paP (AP w.1) w.2.2.2.2.2).2.2) (m + 1) h1 O1 G1 k1 (by show (AP Q1).length < k; omega) (by omega)
      rw [← nI_1 m] at n1
      have n5' : (AP Q2).length ≤ (AP Q1).length := n5
      have n6' : h2.2.1 ≤ h1.2.1 + ((AP Q1).length - (AP Q2).length) * 53 := n6
      have n7' : h2.2.2 ≤ h1.2.2 + ((AP Q1).length - (AP Q2).length) * 5930 := n7
      refine ⟨h2, O2, G2, Q2, ?_, n2, n3, k2.tr n4, by omega, ?_, ?_⟩
      · refine Rk.tr (F1 := (59, 20, _, _)) (x_iload_n rfl rfl) ?_
        refine Rk.tr (F1 := (59, 22, _, _)) (x_ldc rfl rfl) ?_
        refine Rk.tr (F1 := (59, 25, _, _)) (x_icF rfl (tg := 45) rfl (show ¬ nI 100000 ≤ nI m from nI_ge (by omega) (by omega))) ?_
        refine Rk.tr (F1 := (59, 26, _, _)) (x_aload_n rfl rfl rfl) ?_
        refine Rk.tr (F1 := (59, 29, _, _)) (x_getf rfl rfl c4' rfl) ?_
        refine Rk.tr (F1 := (59, 30, _, _)) (x_aload_n rfl rfl rfl) ?_
        refine Rk.tr (F1 := (59, 33, _, _)) (x_getf rfl rfl c4' rfl) ?_
        refine Rk.tr (F1 := (59, 36, _, _)) (x_callv (As := [_]) rfl rfl rfl (Or.inl rfl) rfl rfl z1 (by decide) rfl (Nat.le_of_ble_eq_true rfl) m1 rfl) ?_
        refine Rk.tr (F1 := (59, 39, _, _)) (x_ifF rfl (tg := 45) rfl (show ¬ nI (paP (AP w.1) w.2.2.2.2.2).2.1 ≤ nI 0 from nI_ge (by omega) (by omega))) ?_
        refine Rk.tr (F1 := (59, 42, [_, _], _)) (x_iinc (i := 1) rfl rfl) ?_
        refine Rk.tr (F1 := (59, 19, _, _)) (x_goto rfl rfl) ?_
        exact n1
      · have : ((AP Q1).length - (AP Q2).length) * 53 + (paP (AP w.1) w.2.2.2.2.2).2.1 * 53 ≤ ((AP w.1).length - (AP Q2).length) * 53 := by rw [← Nat.add_mul]; exact Nat.mul_le_mul_right _ (by omega)
        omega
      · have : ((AP Q1).length - (AP Q2).length) * 5930 + (paP (AP w.1) w.2.2.2.2.2).2.1 * 5930 ≤ ((AP w.1).length - (AP Q2).length) * 5930 := by rw [← Nat.add_mul]; exact Nat.mul_le_mul_right _ (by omega)
        omega
theorem t_simp {w : PW} (hC : ClH E h O G x n cs (some w) rn) : ∃ (h' : PH) (O' : Nat → Nat × Nat) (G' : PG) (Q' : List AI), Rn E (d + 118) 59 [.ref x] h (some (.int (nI (sim 200 (AP w.1) 1 w.2.2.2.2.2).2.1))) h' ∧ ClH E h' O' G' x n cs (some (Q', w.2.1, w.2.2.1, w.2.2.2.1, w.2.2.2.2.1, (sim 200 (AP w.1) 1 w.2.2.2.2.2).2.2)) rn ∧ AP Q' = (sim 200 (AP w.1) 1 w.2.2.2.2.2).1 ∧ Kp h h' x ∧ (AP Q').length ≤ (AP w.1).length ∧ h'.2.1 ≤ h.2.1 + ((AP w.1).length - (AP Q').length) * 53 ∧ h'.2.2 ≤ h.2.2 + ((AP w.1).length - (AP Q').length) * 5930 := by
  have p7 := (hC.2.2.2.2.2.2.2.2 w rfl).2.2.2.2.2.2
  have hil := Inv_len p7
  obtain ⟨h', O', G', Q', n1, n2, n3, n4, n5, n6, n7⟩ := lp_simp (E := E) (d := d) 200 w 1 h O G hC (by omega) (by omega)
  refine ⟨h', O', G', Q', Rn.of (Nat.le_of_ble_eq_true rfl) ?_, n2, n3, n4, n5, n6, n7⟩
  have c4' : h.1 x = some (9, [.ref (x + 1), .ref (x + 4), .ref (x + 7), .ref (x + 9), .ref w.2.2.1]) := hC.2.2.2.1
  refine Rk.tr (F1 := (59, 1, _, _)) (x_aload_n rfl rfl rfl) ?_
  refine Rk.tr (F1 := (59, 4, _, _)) (x_getf rfl rfl c4' rfl) ?_
  refine Rk.tr (F1 := (59, 17, _, _)) (x_nnullT rfl (tg := 17) rfl) ?_
  refine Rk.tr (F1 := (59, 18, _, _)) (x_iconst rfl) ?_
  refine Rk.tr (F1 := (59, 19, [_, _], _)) (x_istore_n (i := 1) rfl (Nat.le_of_ble_eq_true rfl)) ?_
  exact n1
theorem t_cnt0 {j : Nat} (hC : ClH E h O G x n cs none rn) (hj : j < 6) : Rn E d 60 [.ref x, .int (nI j)] h (some (.int 0)) h := by
  have c4 : h.1 x = some (9, [.ref (x + 1), .ref (x + 4), .ref (x + 7), .ref (x + 9), .null]) := hC.2.2.2.1
  refine Rn.of (Nat.le_of_ble_eq_true rfl) ?_
  refine Rk.tr (F1 := (60, 1, _, _)) (x_iload_n rfl rfl) ?_
  refine Rk.tr (F1 := (60, 4, _, _)) (x_ifF rfl (tg := 9) rfl (show ¬ nI j < nI 0 from Int32.not_lt.mpr (nI_le (by omega) (by omega)))) ?_
  refine Rk.tr (F1 := (60, 5, _, _)) (x_iload_n rfl rfl) ?_
  refine Rk.tr (F1 := (60, 6, _, _)) (x_iconst rfl) ?_
  refine Rk.tr (F1 := (60, 19, _, _)) (x_icT rfl (tg := 19) rfl (show nI j ≤ nI 5 from nI_le (by omega) (by omega))) ?_
  refine Rk.tr (F1 := (60, 20, _, _)) (x_aload_n rfl rfl rfl) ?_
  refine Rk.tr (F1 := (60, 23, _, _)) (x_getf rfl rfl c4 rfl) ?_
  refine Rk.tr (F1 := (60, 26, _, _)) (x_nnullF rfl) ?_
  refine Rk.tr (F1 := (60, 27, _, _)) (x_iconst rfl) ?_
  exact Rk.end rfl (Or.inr (Or.inl ⟨rfl, _, .int, rfl, rfl, rfl, rfl⟩))
theorem t_cnt4 {w : PW} {j : Nat} (hC : ClH E h O G x n cs (some w) rn) (hj : j < 4) : Rn E d 60 [.ref x, .int (nI j)] h (some (.int (w.2.2.2.2.2 j))) h := by
  have c4 : h.1 x = some (9, [.ref (x + 1), .ref (x + 4), .ref (x + 7), .ref (x + 9), .ref w.2.2.1]) := hC.2.2.2.1
  obtain ⟨p1, p2, -⟩ := hC.2.2.2.2.2.2.2.2 w rfl
  refine Rn.of (Nat.le_of_ble_eq_true rfl) ?_
  refine Rk.tr (F1 := (60, 1, _, _)) (x_iload_n rfl rfl) ?_
  refine Rk.tr (F1 := (60, 4, _, _)) (x_ifF rfl (tg := 9) rfl (show ¬ nI j < nI 0 from Int32.not_lt.mpr (nI_le (by omega) (by omega)))) ?_
  refine Rk.tr (F1 := (60, 5, _, _)) (x_iload_n rfl rfl) ?_
  refine Rk.tr (F1 := (60, 6, _, _)) (x_iconst rfl) ?_
  refine Rk.tr (F1 := (60, 19, _, _)) (x_icT rfl (tg := 19) rfl (show nI j ≤ nI 5 from nI_le (by omega) (by omega))) ?_
  refine Rk.tr (F1 := (60, 20, _, _)) (x_aload_n rfl rfl rfl) ?_
  refine Rk.tr (F1 := (60, 23, _, _)) (x_getf rfl rfl c4 rfl) ?_
  refine Rk.tr (F1 := (60, 28, _, _)) (x_nnullT rfl (tg := 28) rfl) ?_
  refine Rk.tr (F1 := (60, 29, _, _)) (x_iload_n rfl rfl) ?_
  refine Rk.tr (F1 := (60, 30, _, _)) (x_iconst rfl) ?_
  refine Rk.tr (F1 := (60, 33, _, _)) (x_icF rfl (tg := 43) rfl (show ¬ nI 4 ≤ nI j from nI_ge (by omega) (by omega))) ?_
  refine Rk.tr (F1 := (60, 34, _, _)) (x_aload_n rfl rfl rfl) ?_
  refine Rk.tr (F1 := (60, 37, _, _)) (x_getf rfl rfl c4 rfl) ?_
  refine Rk.tr (F1 := (60, 40, _, _)) (x_getf rfl rfl p1 rfl) ?_
  refine Rk.tr (F1 := (60, 41, _, _)) (x_iload_n rfl rfl) ?_
  refine Rk.tr (F1 := (60, 42, _, _)) (x_iald (n := j) rfl p2 rfl rfl (by omega) (iar_at hj)) ?_
  exact Rk.end rfl (Or.inr (Or.inl ⟨rfl, _, .int, rfl, rfl, rfl, rfl⟩))
theorem t_cntB {w : PW} (hC : ClH E h O G x n cs (some w) rn) : Rn E (d + 74) 60 [.ref x, .int (nI 4)] h (some (.int (nI (cntB (AP w.1))))) h := by
  have c4 : h.1 x = some (9, [.ref (x + 1), .ref (x + 4), .ref (x + 7), .ref (x + 9), .ref w.2.2.1]) := hC.2.2.2.1
  obtain ⟨p1, p2, p3, p4, p5, p6, p7⟩ := hC.2.2.2.2.2.2.2.2 w rfl
  have ab := c_allB (E := E) (d := d) hC.1 p5 p7.2.2
  obtain ⟨⟨bs0, r0, hr0⟩, -⟩ := WA_mem p5 List.mem_cons_self
  obtain ⟨l0, e0, cap0, x0, q1, -⟩ := hC.1.2.2.1 w.2.1 _ r0 hr0
  refine Rn.of (Nat.le_of_ble_eq_true rfl) ?_
  refine Rk.tr (F1 := (60, 1, _, _)) (x_iload_n rfl rfl) ?_
  refine Rk.tr (F1 := (60, 4, _, _)) (x_ifF rfl (tg := 9) rfl (show ¬ nI 4 < nI 0 by decide)) ?_
  refine Rk.tr (F1 := (60, 5, _, _)) (x_iload_n rfl rfl) ?_
  refine Rk.tr (F1 := (60, 6, _, _)) (x_iconst rfl) ?_
  refine Rk.tr (F1 := (60, 19, _, _)) (x_icT rfl (tg := 19) rfl (show nI 4 ≤ nI 5 by decide)) ?_
  refine Rk.tr (F1 := (60, 20, _, _)) (x_aload_n rfl rfl rfl) ?_
  refine Rk.tr (F1 := (60, 23, _, _)) (x_getf rfl rfl c4 rfl) ?_
  refine Rk.tr (F1 := (60, 28, _, _)) (x_nnullT rfl (tg := 28) rfl) ?_
  refine Rk.tr (F1 := (60, 29, _, _)) (x_iload_n rfl rfl) ?_
  refine Rk.tr (F1 := (60, 30, _, _)) (x_iconst rfl) ?_
  refine Rk.tr (F1 := (60, 43, _, _)) (x_icT rfl (tg := 43) rfl (Int32.le_refl _)) ?_
  refine Rk.tr (F1 := (60, 44, _, _)) (x_iload_n rfl rfl) ?_
  refine Rk.tr (F1 := (60, 45, _, _)) (x_iconst rfl) ?_
  refine Rk.tr (F1 := (60, 48, _, _)) (x_icF rfl (tg := 61) rfl (fun z => z rfl)) ?_
  refine Rk.tr (F1 := (60, 49, _, _)) (x_aload_n rfl rfl rfl) ?_
  refine Rk.tr (F1 := (60, 52, _, _)) (x_getf rfl rfl c4 rfl) ?_
  refine Rk.tr (F1 := (60, 55, _, _)) (x_getf rfl rfl p1 rfl) ?_
  refine Rk.tr (F1 := (60, 58, _, _)) (x_callv (As := []) rfl rfl rfl (Or.inl rfl) rfl rfl q1 (by decide) rfl (Nat.le_of_ble_eq_true rfl) ab rfl) ?_
  refine Rk.tr (F1 := (60, 68, _, _)) (x_goto rfl rfl) ?_
  exact Rk.end rfl (Or.inr (Or.inl ⟨rfl, _, .int, rfl, rfl, rfl, rfl⟩))
theorem t_cntM {w : PW} (hC : ClH E h O G x n cs (some w) rn) : Rn E d 60 [.ref x, .int (nI 5)] h (some (.int w.2.2.2.2.1)) h := by
  have c4 : h.1 x = some (9, [.ref (x + 1), .ref (x + 4), .ref (x + 7), .ref (x + 9), .ref w.2.2.1]) := hC.2.2.2.1
  obtain ⟨p1, p2, p3, p4, p5, p6, p7⟩ := hC.2.2.2.2.2.2.2.2 w rfl
  refine Rn.of (Nat.le_of_ble_eq_true rfl) ?_
  refine Rk.tr (F1 := (60, 1, _, _)) (x_iload_n rfl rfl) ?_
  refine Rk.tr (F1 := (60, 4, _, _)) (x_ifF rfl (tg := 9) rfl (show ¬ nI 5 < nI 0 by decide)) ?_
  refine Rk.tr (F1 := (60, 5, _, _)) (x_iload_n rfl rfl) ?_
  refine Rk.tr (F1 := (60, 6, _, _)) (x_iconst rfl) ?_
  refine Rk.tr (F1 := (60, 19, _, _)) (x_icT rfl (tg := 19) rfl (show nI 5 ≤ nI 5 by decide)) ?_
  refine Rk.tr (F1 := (60, 20, _, _)) (x_aload_n rfl rfl rfl) ?_
  refine Rk.tr (F1 := (60, 23, _, _)) (x_getf rfl rfl c4 rfl) ?_
  refine Rk.tr (F1 := (60, 28, _, _)) (x_nnullT rfl (tg := 28) rfl) ?_
  refine Rk.tr (F1 := (60, 29, _, _)) (x_iload_n rfl rfl) ?_
  refine Rk.tr (F1 := (60, 30, _, _)) (x_iconst rfl) ?_
  refine Rk.tr (F1 := (60, 43, _, _)) (x_icT rfl (tg := 43) rfl (show nI 4 ≤ nI 5 by decide)) ?_
  refine Rk.tr (F1 := (60, 44, _, _)) (x_iload_n rfl rfl) ?_
  refine Rk.tr (F1 := (60, 45, _, _)) (x_iconst rfl) ?_
  refine Rk.tr (F1 := (60, 61, _, _)) (x_icT rfl (tg := 61) rfl (show ¬ nI 5 = nI 4 by decide)) ?_
  refine Rk.tr (F1 := (60, 62, _, _)) (x_aload_n rfl rfl rfl) ?_
  refine Rk.tr (F1 := (60, 65, _, _)) (x_getf rfl rfl c4 rfl) ?_
  refine Rk.tr (F1 := (60, 68, _, _)) (x_getf rfl rfl p1 rfl) ?_
  exact Rk.end rfl (Or.inr (Or.inl ⟨rfl, _, .int, rfl, rfl, rfl, rfl⟩))
theorem t_run {w : PW} (hC : ClH E h O G x n cs (some w) rn) : ∃ (h' : PH) (rn' : Nat → Int32), Rn E (d + 47) 62 [.ref x] h (some (.int (nI (evP (AP w.1)).1))) h' ∧ ClH E h' O G x n cs (some w) rn' ∧ rn' 0 = (if (evP (AP w.1)).1 = 0 then (if (evP (AP w.1)).2.1.1 = true then 0 else (evP (AP w.1)).2.1.2) else 0) ∧ rn' 1 = (if (evP (AP w.1)).1 = 0 then bI (evP (AP w.1)).2.1.1 else 0) ∧ rn' 2 = nI (evP (AP w.1)).2.2.2.2.1 ∧ rn' 3 = nI (evP (AP w.1)).2.2.2.2.2 ∧ Kp h h' x ∧ h'.2 = h.2 := by
  obtain ⟨c1, c2, c3, c4, c5, c6, c7, ⟨T, t1, t2⟩, c9⟩ := hC
  obtain ⟨p1, p2, p3, p4, p5, p6, p7⟩ := c9 w rfl
  have eh := mch_of t1
  have tg : ∀ q t fs, h.1 q = some (t, fs) → x + 9 ≤ q → q ≤ x + 14 → (t = 4 ∨ t = 100 ∨ t = 101 ∨ t = 105) := fun q t fs hq h1 h2 => by
    obtain ⟨t', fs', e, ht⟩ := mcc_some (z := x + 9) (T := T) (j := q - (x + 9)) (by omega)
    have := t1 (q - (x + 9)) (by omega)
    rw [Nat.add_sub_cancel' h1, e, hq] at this
    cases this
    exact ht
  have same : ∀ (T' : MT) q t fs, h.1 q = some (t, fs) → ¬ (x + 9 ≤ q ∧ q ≤ x + 14) → (mch h (x + 9) T').1 q = some (t, fs) := fun T' q t fs hq hr => (mch_ne (by omega)).trans hq
  have wf : ∀ T' : MT, Wf (mch h (x + 9) T') := fun T' q c hq => by
    show q < h.2.1
    by_cases r : x + 9 ≤ q ∧ q ≤ x + 14
    · obtain ⟨t', fs', e, -⟩ := mcc_some (z := x + 9) (T := T) (j := q - (x + 9)) (by omega)
      have := t1 (q - (x + 9)) (by omega)
      rw [Nat.add_sub_cancel' r.1, e] at this
      exact c1.1 _ _ this
    · rw [mch_ne (by omega)] at hq
      exact c1.1 _ _ hq
  have hG : ∀ T', GH E (mch h (x + 9) T') O G := fun T' => c1.mono (wf T') (fun _ _ => rfl) (fun q t fs hq hg => same T' q t fs hq (fun r => by
    have := tg q t fs hq r.1 r.2
    unfold gcl at hg
    omega))
  obtain ⟨T', m1, m2, m3, m4, m5⟩ := c_start (E := E) (d := d) (T := T) (v1 := .int w.2.2.2.2.1) (v2 := .ref w.2.2.2.1) hG (fun T' => same T' _ _ _ p1 (by omega)) p5
  rw [← eh] at m1
  refine ⟨mch h (x + 9) T', fun j => if j = 0 then T'.1 8 else if j = 1 then T'.1 9 else if j = 2 then T'.1 10 else T'.1 11, Rn.of (Nat.le_of_ble_eq_true rfl) ?_, ⟨hG T', c2.keep (fun q t fs ht hq => same T' q t fs hq (fun r => by have := tg q t fs hq r.1 r.2; omega)), c3, same _ _ _ _ c4 (by omega), c5.keep (fun q t fs hq h1 => same _ _ _ _ h1 (by omega)) rfl, c6.keep (fun q t fs hq h1 => same _ _ _ _ h1 (by omega)) rfl, c7.keep (fun q t fs hq h1 => same _ _ _ _ h1 (by omega)), ⟨T', fun j hj => mch_j hj, rfl, rfl, rfl, rfl, ?_⟩, fun w' hw' => ?_⟩, m2, m3, m4, m5, fun q t fs hq ht => same _ _ _ _ hq (fun r => ?_), rfl⟩
  · have c4' : h.1 x = some (9, [.ref (x + 1), .ref (x + 4), .ref (x + 7), .ref (x + 9), .ref w.2.2.1]) := c4
    have z9 := t1 0 (by omega)
    refine Rk.tr (F1 := (62, 1, _, _)) (x_aload_n rfl rfl rfl) ?_
    refine Rk.tr (F1 := (62, 4, _, _)) (x_getf rfl rfl c4' rfl) ?_
    refine Rk.tr (F1 := (62, 17, _, _)) (x_nnullT rfl (tg := 17) rfl) ?_
    refine Rk.tr (F1 := (62, 18, _, _)) (x_aload_n rfl rfl rfl) ?_
    refine Rk.tr (F1 := (62, 21, _, _)) (x_getf rfl rfl c4' rfl) ?_
    refine Rk.tr (F1 := (62, 22, _, _)) (x_aload_n rfl rfl rfl) ?_
    refine Rk.tr (F1 := (62, 25, _, _)) (x_getf rfl rfl c4' rfl) ?_
    refine Rk.tr (F1 := (62, 28, _, _)) (x_callv (As := [_]) rfl rfl rfl (Or.inl rfl) rfl rfl z9 (by decide) rfl (Nat.le_of_ble_eq_true rfl) m1 rfl) ?_
    exact Rk.end rfl (Or.inr (Or.inl ⟨rfl, _, .int, rfl, rfl, rfl, rfl⟩))
  · show T'.1 9 = 0 ∨ T'.1 9 = 1
    rw [m3]
    by_cases e : (evP (AP w.1)).1 = 0
    · rw [if_pos e]
      cases (evP (AP w.1)).2.1.1
      · exact Or.inl rfl
      · exact Or.inr rfl
    · rw [if_neg e]; exact Or.inl rfl
  · cases hw'
    exact ⟨same _ _ _ _ p1 (by omega), same _ _ _ _ p2 (by omega), p3, p4, p5, p6, p7⟩
  · have := tg q t fs hq r.1 r.2
    omega
theorem t_ran {j : Nat} (hC : ClH E h O G x n cs W rn) (hj : j < 4) : Rn E d 63 [.ref x, .int (nI j)] h (some (.int (rn j))) h := by
  obtain ⟨c1, c2, c3, c4, c5, c6, c7, ⟨T, t1, t2, t3, t4, t5, t6⟩, c9⟩ := hC
  have z9 : h.1 (x + 9) = some (4, [.ref (x + 9 + 1), .ref (x + 9 + 2), .ref (x + 9 + 3), .int (T.1 3), .ref (x + 9 + 4), .ref (x + 9 + 5), .int (T.1 6), .int (T.1 7), .int (rn 0), .int (rn 1), .int (rn 2), .int (rn 3)]) := by
    have := t1 0 (by omega)
    rw [Nat.add_zero] at this
    rw [this, ← t2, ← t3, ← t4, ← t5]
    rfl
  refine Rn.of (Nat.le_of_ble_eq_true rfl) ?_
  rcases (show j = 0 ∨ j = 1 ∨ j = 2 ∨ j = 3 by omega) with rfl | rfl | rfl | rfl
  · refine Rk.tr (F1 := (63, 1, _, _)) (x_iload_n rfl rfl) ?_
    refine Rk.tr (F1 := (63, 32, _, _)) (x_tswIn rfl (by decide) (by decide) rfl rfl) ?_
    refine Rk.tr (F1 := (63, 33, _, _)) (x_aload_n rfl rfl rfl) ?_
    refine Rk.tr (F1 := (63, 36, _, _)) (x_getf rfl rfl c4 rfl) ?_
    refine Rk.tr (F1 := (63, 39, _, _)) (x_getf rfl rfl z9 rfl) ?_
    exact Rk.end rfl (Or.inr (Or.inl ⟨rfl, _, .int, rfl, rfl, rfl, rfl⟩))
  · rcases t6 with t6 | t6
    · rw [t6] at z9 ⊢
      refine Rk.tr (F1 := (63, 1, _, _)) (x_iload_n rfl rfl) ?_
      refine Rk.tr (F1 := (63, 40, _, _)) (x_tswIn rfl (by decide) (by decide) rfl rfl) ?_
      refine Rk.tr (F1 := (63, 41, _, _)) (x_aload_n rfl rfl rfl) ?_
      refine Rk.tr (F1 := (63, 44, _, _)) (x_getf rfl rfl c4 rfl) ?_
      refine Rk.tr (F1 := (63, 47, _, _)) (x_getf rfl rfl z9 rfl) ?_
      refine Rk.tr (F1 := (63, 54, _, _)) (x_ifT rfl (tg := 54) rfl rfl) ?_
      refine Rk.tr (F1 := (63, 55, _, _)) (x_iconst rfl) ?_
      exact Rk.end rfl (Or.inr (Or.inl ⟨rfl, _, .int, rfl, rfl, rfl, rfl⟩))
    · rw [t6] at z9 ⊢
      refine Rk.tr (F1 := (63, 1, _, _)) (x_iload_n rfl rfl) ?_
      refine Rk.tr (F1 := (63, 40, _, _)) (x_tswIn rfl (by decide) (by decide) rfl rfl) ?_
      refine Rk.tr (F1 := (63, 41, _, _)) (x_aload_n rfl rfl rfl) ?_
      refine Rk.tr (F1 := (63, 44, _, _)) (x_getf rfl rfl c4 rfl) ?_
      refine Rk.tr (F1 := (63, 47, _, _)) (x_getf rfl rfl z9 rfl) ?_
      refine Rk.tr (F1 := (63, 50, _, _)) (x_ifF rfl (tg := 54) rfl (show ¬ (1 : Int32) = 0 by decide)) ?_
      refine Rk.tr (F1 := (63, 51, _, _)) (x_iconst rfl) ?_
      refine Rk.tr (F1 := (63, 55, _, _)) (x_goto rfl rfl) ?_
      exact Rk.end rfl (Or.inr (Or.inl ⟨rfl, _, .int, rfl, rfl, rfl, rfl⟩))
  · refine Rk.tr (F1 := (63, 1, _, _)) (x_iload_n rfl rfl) ?_
    refine Rk.tr (F1 := (63, 56, _, _)) (x_tswIn rfl (by decide) (by decide) rfl rfl) ?_
    refine Rk.tr (F1 := (63, 57, _, _)) (x_aload_n rfl rfl rfl) ?_
    refine Rk.tr (F1 := (63, 60, _, _)) (x_getf rfl rfl c4 rfl) ?_
    refine Rk.tr (F1 := (63, 63, _, _)) (x_getf rfl rfl z9 rfl) ?_
    exact Rk.end rfl (Or.inr (Or.inl ⟨rfl, _, .int, rfl, rfl, rfl, rfl⟩))
  · refine Rk.tr (F1 := (63, 1, _, _)) (x_iload_n rfl rfl) ?_
    refine Rk.tr (F1 := (63, 64, _, _)) (x_tswIn rfl (by decide) (by decide) rfl rfl) ?_
    refine Rk.tr (F1 := (63, 65, _, _)) (x_aload_n rfl rfl rfl) ?_
    refine Rk.tr (F1 := (63, 68, _, _)) (x_getf rfl rfl c4 rfl) ?_
    refine Rk.tr (F1 := (63, 71, _, _)) (x_getf rfl rfl z9 rfl) ?_
    exact Rk.end rfl (Or.inr (Or.inl ⟨rfl, _, .int, rfl, rfl, rfl, rfl⟩))
end M62
