/-! ===== choose, whole ===== -/
theorem Tok1_if {R : Nat → Int32} {p : Nat} {it : It} (h2 : it.1 ≠ 2) (h3 : it.1 ≠ 3) (h5 : it.1 ≠ 5) (h9 : it.1 ≠ 9) (h : Tok1 R p it) : (R p = 8 ∧ R (p + 1) = it.2.1 ∧ R (p + 2) = 6 ∧ R (p + 3) = it.2.2.2.1.1 ∧ R (p + 4) = it.2.2.2.1.2) ∧ isz it = 5 ∧ irw it = 2 ∧ iat it = 1 := by
  refine ⟨?_, ?_, ?_, ?_⟩
  · unfold Tok1 at h
    split at h <;> first | (rename_i z; exact absurd z (by assumption)) | exact h
  · unfold isz
    split <;> first | rfl | (rename_i z; exact absurd z (by assumption))
  · unfold irw
    split <;> first | rfl | (rename_i z; exact absurd z (by assumption))
  · unfold iat
    split <;> first | rfl | (rename_i z; exact absurd z (by assumption))
section M9
variable {E : PE} {d o : Nat} {g : PH} {S : MSt} {R W c : Nat → Int32} {n : Int32}
theorem c_choose_no {A B : List It} {it : It} (h2 : it.1 ≠ 2) (h3 : it.1 ≠ 3) (h5 : it.1 ≠ 5) (h9 : it.1 ≠ 9) (hM : PM R n (A ++ it :: B)) (hc : ¬ it.2.2.2.1.1 = 0) :
    Rn E d 32 [.ref o, .int (nI (tsum A))] (mh g o (mst S R W c n)) (some (.int (-1))) (mh g o (mst S R W c n)) := by
  obtain ⟨t1, h8, -⟩ := PM.it (P := []) hM
  obtain ⟨⟨q0, q1, q2, q3, q4⟩, hz, -, -⟩ := Tok1_if h2 h3 h5 h9 t1
  rw [hz] at h8
  rw [← q3] at hc
  generalize tsum A = p at h8 hc ⊢
  refine Rn.of (Nat.le_of_ble_eq_true rfl) ?_
  refine Rk.tr (F1 := (32, 1, _, _)) (x_aload_n rfl rfl rfl) ?_
  refine Rk.tr (F1 := (32, 4, _, _)) (m_get rfl rfl (Nat.le_of_ble_eq_true rfl)) ?_
  refine Rk.tr (F1 := (32, 5, _, _)) (x_iload_n rfl rfl) ?_
  refine Rk.tr (F1 := (32, 6, _, _)) (x_iconst rfl) ?_
  refine Rk.tr (F1 := (32, 7, _, _)) (x_iadd rfl) ?_
  refine Rk.tr (F1 := (32, 8, _, _)) (m_iald (k := 5) (n := p + 3) rfl rfl rfl (nI_add p 3) (show p + 3 < 800 by omega)) ?_
  refine Rk.tr (F1 := (32, 11, _, _)) (x_ifF rfl (tg := 13) rfl hc) ?_
  refine Rk.tr (F1 := (32, 12, _, _)) (x_iconst rfl) ?_
  exact Rk.end rfl (Or.inr (Or.inl ⟨rfl, _, .int, rfl, rfl, rfl, rfl⟩))
theorem c_choose_yes {A X1 X2 C : List It} {it e1 e2 : It} (h2 : it.1 ≠ 2) (h3 : it.1 ≠ 3) (h5 : it.1 ≠ 5) (h9 : it.1 ≠ 9) (g1 : e1.1 = 9) (g2 : e2.1 = 9) (hM : PM R n (A ++ it :: ((X1 ++ [e1]) ++ ((X2 ++ [e2]) ++ C)))) (k1 : closes 1 (X1 ++ [e1])) (k2 : closes 1 (X2 ++ [e2])) (hc : it.2.2.2.1.1 = 0) :
    ∃ R' W' : Nat → Int32, Rn E (d + 2) 32 [.ref o, .int (nI (tsum A))] (mh g o (mst S R W c n)) (some (.int (nI (tsum A)))) (mh g o (mst S R' W' (rup c 1 (c 1 + 1)) (nI (tsum (A ++ ((if it.2.2.2.1.2 = 0 then X2 else X1) ++ C)))))) ∧
      TokAt R' 0 ((A ++ ((if it.2.2.2.1.2 = 0 then X2 else X1) ++ C)).map (isb it.2.1 (if it.2.2.2.1.2 = 0 then e2 else e1).2.2.2.1)) := by
  obtain ⟨t1, h8, hn⟩ := PM.it (P := []) hM
  obtain ⟨⟨q0, q1, q2, q3, q4⟩, hz, -, -⟩ := Tok1_if h2 h3 h5 h9 t1
  have z1 : isz e1 = 3 := by unfold isz; rw [g1]; rfl
  have z2 : isz e2 = 3 := by unfold isz; rw [g2]; rfl
  have s1 : tsum (X1 ++ [e1]) = tsum X1 + 3 := by rw [tsum_app]; simp only [tsum]; omega
  have s2 : tsum (X2 ++ [e2]) = tsum X2 + 3 := by rw [tsum_app]; simp only [tsum]; omega
  rw [hz, tsum_app (X1 ++ [e1]) _, tsum_app (X2 ++ [e2]) _, s1, s2] at h8
  have hT := hM.1
  rw [TokAt_app] at hT
  have hT2 := hT.2.2
  rw [Nat.zero_add, hz] at hT2
  obtain ⟨ta, tb0⟩ := TokAt_app.mp hT2
  rw [s1] at tb0
  obtain ⟨tb, -⟩ := TokAt_app.mp tb0
  have ta2 := TokAt_app.mp ta
  have tb2 := TokAt_app.mp tb
  have te1 : Tok1 R (tsum A + 5 + tsum X1) e1 := ta2.2.1
  have te2 : Tok1 R (tsum A + 5 + (tsum X1 + 3) + tsum X2) e2 := tb2.2.1
  have hY : it :: ((X1 ++ [e1]) ++ ((X2 ++ [e2]) ++ C)) = (it :: ((X1 ++ [e1]) ++ (X2 ++ [e2]))) ++ C := by simp
  have hYs : tsum (it :: ((X1 ++ [e1]) ++ (X2 ++ [e2]))) = 5 + (tsum X1 + 3) + (tsum X2 + 3) := by simp only [tsum]; rw [tsum_app, s1, s2, hz]; omega
  rw [hY] at hM
  have r1 := c_rowEnd (E := E) (d := d) (o := o) (g := g) (S := mst S R W c n) (p := tsum A + 5) (Q := X1 ++ [e1]) ta (by rw [s1]; omega) k1
  have r2 := c_rowEnd (E := E) (d := d) (o := o) (g := g) (S := mst S R W c n) (p := tsum A + 5 + (tsum X1 + 3)) (Q := X2 ++ [e2]) tb (by rw [s2]; omega) k2
  rw [s1] at r1
  rw [s2] at r2
  by_cases hs : it.2.2.2.1.2 = 0
  · rw [if_pos hs, if_pos hs]
    obtain ⟨R', W', w1, w2⟩ := choose_tail (E := E) (d := d) (o := o) (g := g) (S := S) (R := R) (W := W) (c := c) (n := n) (A := A) (X := X2) (Y := it :: ((X1 ++ [e1]) ++ (X2 ++ [e2]))) (C := C) (nm := it.2.1) (e := e2) (f := tsum A + 5 + (tsum X1 + 3)) (u := tsum A + 5 + (tsum X1 + 3) + tsum X2) (s3 := some (.int (nI (tsum A + 5 + tsum X1)))) (s5 := some (.int 1)) hM tb2.1 rfl te2 g2 (by omega) (by omega)
    refine ⟨R', W', ?_, w2⟩
    rw [hYs, show tsum A + (5 + (tsum X1 + 3) + (tsum X2 + 3)) - 3 = tsum A + 5 + (tsum X1 + 3) + tsum X2 by omega] at w1
    rw [← q3] at hc
    rw [← q4] at hs
    rw [← q1] at w1
    generalize tsum A = p at h8 hc hs r1 r2 w1 ⊢
    refine Rn.of (Nat.le_of_ble_eq_true rfl) ?_
    refine Rk.tr (F1 := (32, 1, _, _)) (x_aload_n rfl rfl rfl) ?_
    refine Rk.tr (F1 := (32, 4, _, _)) (m_get rfl rfl (Nat.le_of_ble_eq_true rfl)) ?_
    refine Rk.tr (F1 := (32, 5, _, _)) (x_iload_n rfl rfl) ?_
    refine Rk.tr (F1 := (32, 6, _, _)) (x_iconst rfl) ?_
    refine Rk.tr (F1 := (32, 7, _, _)) (x_iadd rfl) ?_
    refine Rk.tr (F1 := (32, 8, _, _)) (m_iald (k := 5) (n := p + 3) rfl rfl rfl (nI_add p 3) (show p + 3 < 800 by omega)) ?_
    refine Rk.tr (F1 := (32, 13, _, _)) (x_ifT rfl (tg := 13) rfl hc) ?_
    refine Rk.tr (F1 := (32, 14, _, _)) (x_aload_n rfl rfl rfl) ?_
    refine Rk.tr (F1 := (32, 17, _, _)) (m_get rfl rfl (Nat.le_of_ble_eq_true rfl)) ?_
    refine Rk.tr (F1 := (32, 18, _, _)) (x_iload_n rfl rfl) ?_
    refine Rk.tr (F1 := (32, 19, _, _)) (x_iconst rfl) ?_
    refine Rk.tr (F1 := (32, 20, _, _)) (x_iadd rfl) ?_
    refine Rk.tr (F1 := (32, 21, _, _)) (m_iald (k := 5) (n := p + 1) rfl rfl rfl (nI_1 p) (show p + 1 < 800 by omega)) ?_
    refine Rk.tr (F1 := (32, 22, [_, _, _, _, _, _, _, _, _, _], _)) (x_istore_n (i := 2) rfl (Nat.le_of_ble_eq_true rfl)) ?_
    refine Rk.tr (F1 := (32, 23, _, _)) (x_aload_n rfl rfl rfl) ?_
    refine Rk.tr (F1 := (32, 24, _, _)) (x_iload_n rfl rfl) ?_
    refine Rk.tr (F1 := (32, 25, _, _)) (x_iconst rfl) ?_
    refine Rk.tr (F1 := (32, 26, _, _)) (x_iadd rfl) ?_
    refine Rk.tr (F1 := (32, 26, _, _)) (x_top (nI_add p 5)) ?_
    refine Rk.tr (F1 := (32, 29, _, _)) (m_call (As := [_]) rfl rfl rfl (Or.inr rfl) rfl rfl rfl (Nat.le_of_ble_eq_true rfl) r1 rfl) ?_
    refine Rk.tr (F1 := (32, 29, _, _)) (x_top (y := nI (p + 5 + tsum X1)) (by congr 1)) ?_
    refine Rk.tr (F1 := (32, 30, [_, _, _, _, _, _, _, _, _, _], _)) (x_istore_n (i := 3) rfl (Nat.le_of_ble_eq_true rfl)) ?_
    refine Rk.tr (F1 := (32, 31, _, _)) (x_aload_n rfl rfl rfl) ?_
    refine Rk.tr (F1 := (32, 32, _, _)) (x_iload_n rfl rfl) ?_
    refine Rk.tr (F1 := (32, 33, _, _)) (x_iconst rfl) ?_
    refine Rk.tr (F1 := (32, 34, _, _)) (x_iadd rfl) ?_
    refine Rk.tr (F1 := (32, 34, _, _)) (x_top (y := nI (p + 5 + (tsum X1 + 3))) (by show nI (p + 5 + tsum X1) + nI 3 = _; rw [nI_add]; congr 1)) ?_
    refine Rk.tr (F1 := (32, 37, _, _)) (m_call (As := [_]) rfl rfl rfl (Or.inr rfl) rfl rfl rfl (Nat.le_of_ble_eq_true rfl) r2 rfl) ?_
    refine Rk.tr (F1 := (32, 37, _, _)) (x_top (y := nI (p + 5 + (tsum X1 + 3) + tsum X2)) (by congr 1)) ?_
    refine Rk.tr (F1 := (32, 39, [_, _, _, _, _, _, _, _, _, _], _)) (x_istore (i := 4) rfl (Nat.le_of_ble_eq_true rfl)) ?_
    refine Rk.tr (F1 := (32, 40, _, _)) (x_aload_n rfl rfl rfl) ?_
    refine Rk.tr (F1 := (32, 43, _, _)) (m_get rfl rfl (Nat.le_of_ble_eq_true rfl)) ?_
    refine Rk.tr (F1 := (32, 44, _, _)) (x_iload_n rfl rfl) ?_
    refine Rk.tr (F1 := (32, 45, _, _)) (x_iconst rfl) ?_
    refine Rk.tr (F1 := (32, 46, _, _)) (x_iadd rfl) ?_
    refine Rk.tr (F1 := (32, 47, _, _)) (m_iald (k := 5) (n := p + 4) rfl rfl rfl (nI_add p 4) (show p + 4 < 800 by omega)) ?_
    refine Rk.tr (F1 := (32, 50, _, _)) (x_ifF rfl (tg := 54) rfl (fun z => z hs)) ?_
    refine Rk.tr (F1 := (32, 51, _, _)) (x_iconst rfl) ?_
    refine Rk.tr (F1 := (32, 55, _, _)) (x_goto rfl rfl) ?_
    refine Rk.tr (F1 := (32, 57, [_, _, _, _, _, _, _, _, _, _], _)) (x_istore (i := 5) rfl (Nat.le_of_ble_eq_true rfl)) ?_
    refine Rk.tr (F1 := (32, 59, _, _)) (x_iload rfl rfl) ?_
    refine Rk.tr (F1 := (32, 62, _, _)) (x_ifF rfl (tg := 68) rfl (show ¬ Int32.ofInt 1 = 0 by decide)) ?_
    refine Rk.tr (F1 := (32, 63, _, _)) (x_iload_n rfl rfl) ?_
    refine Rk.tr (F1 := (32, 64, _, _)) (x_iconst rfl) ?_
    refine Rk.tr (F1 := (32, 65, _, _)) (x_iadd rfl) ?_
    refine Rk.tr (F1 := (32, 71, _, _)) (x_goto rfl rfl) ?_
    refine Rk.tr (F1 := (32, 71, _, _)) (x_top (y := nI (p + 5 + (tsum X1 + 3))) (by show nI (p + 5 + tsum X1) + nI 3 = _; rw [nI_add]; congr 1)) ?_
    refine Rk.tr (F1 := (32, 73, [_, _, _, _, _, _, _, _, _, _], _)) (x_istore (i := 6) rfl (Nat.le_of_ble_eq_true rfl)) ?_
    refine Rk.tr (F1 := (32, 75, _, _)) (x_iload rfl rfl) ?_
    refine Rk.tr (F1 := (32, 78, _, _)) (x_ifF rfl (tg := 83) rfl (show ¬ Int32.ofInt 1 = 0 by decide)) ?_
    refine Rk.tr (F1 := (32, 80, _, _)) (x_iload rfl rfl) ?_
    refine Rk.tr (F1 := (32, 84, _, _)) (x_goto rfl rfl) ?_
    refine Rk.tr (F1 := (32, 86, [_, _, _, _, _, _, _, _, _, _], _)) (x_istore (i := 7) rfl (Nat.le_of_ble_eq_true rfl)) ?_
    exact w1
  · rw [if_neg hs, if_neg hs]
    obtain ⟨R', W', w1, w2⟩ := choose_tail (E := E) (d := d) (o := o) (g := g) (S := S) (R := R) (W := W) (c := c) (n := n) (A := A) (X := X1) (Y := it :: ((X1 ++ [e1]) ++ (X2 ++ [e2]))) (C := C) (nm := it.2.1) (e := e1) (f := tsum A + 5) (u := tsum A + 5 + tsum X1) (s3 := some (.int (nI (tsum A + 5 + tsum X1)))) (s5 := some (.int 0)) hM ta2.1 rfl te1 g1 (by omega) (by omega)
    refine ⟨R', W', ?_, w2⟩
    rw [hYs, show tsum A + (5 + (tsum X1 + 3) + (tsum X2 + 3)) - 3 = tsum A + 5 + (tsum X1 + 3) + tsum X2 by omega] at w1
    rw [← q3] at hc
    rw [← q4] at hs
    rw [← q1] at w1
    generalize tsum A = p at h8 hc hs r1 r2 w1 ⊢
    refine Rn.of (Nat.le_of_ble_eq_true rfl) ?_
    refine Rk.tr (F1 := (32, 1, _, _)) (x_aload_n rfl rfl rfl) ?_
    refine Rk.tr (F1 := (32, 4, _, _)) (m_get rfl rfl (Nat.le_of_ble_eq_true rfl)) ?_
    refine Rk.tr (F1 := (32, 5, _, _)) (x_iload_n rfl rfl) ?_
    refine Rk.tr (F1 := (32, 6, _, _)) (x_iconst rfl) ?_
    refine Rk.tr (F1 := (32, 7, _, _)) (x_iadd rfl) ?_
    refine Rk.tr (F1 := (32, 8, _, _)) (m_iald (k := 5) (n := p + 3) rfl rfl rfl (nI_add p 3) (show p + 3 < 800 by omega)) ?_
    refine Rk.tr (F1 := (32, 13, _, _)) (x_ifT rfl (tg := 13) rfl hc) ?_
    refine Rk.tr (F1 := (32, 14, _, _)) (x_aload_n rfl rfl rfl) ?_
    refine Rk.tr (F1 := (32, 17, _, _)) (m_get rfl rfl (Nat.le_of_ble_eq_true rfl)) ?_
    refine Rk.tr (F1 := (32, 18, _, _)) (x_iload_n rfl rfl) ?_
    refine Rk.tr (F1 := (32, 19, _, _)) (x_iconst rfl) ?_
    refine Rk.tr (F1 := (32, 20, _, _)) (x_iadd rfl) ?_
    refine Rk.tr (F1 := (32, 21, _, _)) (m_iald (k := 5) (n := p + 1) rfl rfl rfl (nI_1 p) (show p + 1 < 800 by omega)) ?_
    refine Rk.tr (F1 := (32, 22, [_, _, _, _, _, _, _, _, _, _], _)) (x_istore_n (i := 2) rfl (Nat.le_of_ble_eq_true rfl)) ?_
    refine Rk.tr (F1 := (32, 23, _, _)) (x_aload_n rfl rfl rfl) ?_
    refine Rk.tr (F1 := (32, 24, _, _)) (x_iload_n rfl rfl) ?_
    refine Rk.tr (F1 := (32, 25, _, _)) (x_iconst rfl) ?_
    refine Rk.tr (F1 := (32, 26, _, _)) (x_iadd rfl) ?_
    refine Rk.tr (F1 := (32, 26, _, _)) (x_top (nI_add p 5)) ?_
    refine Rk.tr (F1 := (32, 29, _, _)) (m_call (As := [_]) rfl rfl rfl (Or.inr rfl) rfl rfl rfl (Nat.le_of_ble_eq_true rfl) r1 rfl) ?_
    refine Rk.tr (F1 := (32, 29, _, _)) (x_top (y := nI (p + 5 + tsum X1)) (by congr 1)) ?_
    refine Rk.tr (F1 := (32, 30, [_, _, _, _, _, _, _, _, _, _], _)) (x_istore_n (i := 3) rfl (Nat.le_of_ble_eq_true rfl)) ?_
    refine Rk.tr (F1 := (32, 31, _, _)) (x_aload_n rfl rfl rfl) ?_
    refine Rk.tr (F1 := (32, 32, _, _)) (x_iload_n rfl rfl) ?_
    refine Rk.tr (F1 := (32, 33, _, _)) (x_iconst rfl) ?_
    refine Rk.tr (F1 := (32, 34, _, _)) (x_iadd rfl) ?_
    refine Rk.tr (F1 := (32, 34, _, _)) (x_top (y := nI (p + 5 + (tsum X1 + 3))) (by show nI (p + 5 + tsum X1) + nI 3 = _; rw [nI_add]; congr 1)) ?_
    refine Rk.tr (F1 := (32, 37, _, _)) (m_call (As := [_]) rfl rfl rfl (Or.inr rfl) rfl rfl rfl (Nat.le_of_ble_eq_true rfl) r2 rfl) ?_
    refine Rk.tr (F1 := (32, 37, _, _)) (x_top (y := nI (p + 5 + (tsum X1 + 3) + tsum X2)) (by congr 1)) ?_
    refine Rk.tr (F1 := (32, 39, [_, _, _, _, _, _, _, _, _, _], _)) (x_istore (i := 4) rfl (Nat.le_of_ble_eq_true rfl)) ?_
    refine Rk.tr (F1 := (32, 40, _, _)) (x_aload_n rfl rfl rfl) ?_
    refine Rk.tr (F1 := (32, 43, _, _)) (m_get rfl rfl (Nat.le_of_ble_eq_true rfl)) ?_
    refine Rk.tr (F1 := (32, 44, _, _)) (x_iload_n rfl rfl) ?_
    refine Rk.tr (F1 := (32, 45, _, _)) (x_iconst rfl) ?_
    refine Rk.tr (F1 := (32, 46, _, _)) (x_iadd rfl) ?_
    refine Rk.tr (F1 := (32, 47, _, _)) (m_iald (k := 5) (n := p + 4) rfl rfl rfl (nI_add p 4) (show p + 4 < 800 by omega)) ?_
    refine Rk.tr (F1 := (32, 54, _, _)) (x_ifT rfl (tg := 54) rfl hs) ?_
    refine Rk.tr (F1 := (32, 55, _, _)) (x_iconst rfl) ?_
    refine Rk.tr (F1 := (32, 57, [_, _, _, _, _, _, _, _, _, _], _)) (x_istore (i := 5) rfl (Nat.le_of_ble_eq_true rfl)) ?_
    refine Rk.tr (F1 := (32, 59, _, _)) (x_iload rfl rfl) ?_
    refine Rk.tr (F1 := (32, 68, _, _)) (x_ifT rfl (tg := 68) rfl rfl) ?_
    refine Rk.tr (F1 := (32, 69, _, _)) (x_iload_n rfl rfl) ?_
    refine Rk.tr (F1 := (32, 70, _, _)) (x_iconst rfl) ?_
    refine Rk.tr (F1 := (32, 71, _, _)) (x_iadd rfl) ?_
    refine Rk.tr (F1 := (32, 71, _, _)) (x_top (nI_add p 5)) ?_
    refine Rk.tr (F1 := (32, 73, [_, _, _, _, _, _, _, _, _, _], _)) (x_istore (i := 6) rfl (Nat.le_of_ble_eq_true rfl)) ?_
    refine Rk.tr (F1 := (32, 75, _, _)) (x_iload rfl rfl) ?_
    refine Rk.tr (F1 := (32, 83, _, _)) (x_ifT rfl (tg := 83) rfl rfl) ?_
    refine Rk.tr (F1 := (32, 84, _, _)) (x_iload_n rfl rfl) ?_
    refine Rk.tr (F1 := (32, 86, [_, _, _, _, _, _, _, _, _, _], _)) (x_istore (i := 7) rfl (Nat.le_of_ble_eq_true rfl)) ?_
    exact w1
end M9
