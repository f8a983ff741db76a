/-! ===== inline ===== -/
section M10
variable {E : PE} {d o : Nat} {g : PH} {S : MSt} {R W c : Nat → Int32} {n : Int32}
theorem c_inline_no {A B : List It} {it : It} (h3 : it.1 = 3) (hM : PM R n (A ++ it :: B)) (hc : ¬ (it.2.2.2.1.1 = 1 ∧ ¬ fnd it.2.2.2.1.2 (A ++ it :: B) 0 (-1) < 0 ∧ occ it.2.2.2.1.2 (A ++ it :: B) = 1)) :
    Rn E (d + 2) 35 [.ref o, .int (nI (tsum A))] (mh g o (mst S R W c n)) (some (.int (-1))) (mh g o (mst S R W c n)) := by
  obtain ⟨t1, h8, -⟩ := PM.it (P := []) hM
  have ho := occ_le it.2.2.2.1.2 (A ++ it :: B)
  have hM3 := hM.2.2
  have r1 := c_function (E := E) (d := d) (o := o) (g := g) (S := mst S R W c n) (nm := it.2.2.2.1.2) (P := A ++ it :: B) hM.2.1 (by omega) hM.1 rfl
  have r2 := c_occurs (E := E) (d := d) (o := o) (g := g) (S := mst S R W c n) (nm := it.2.2.2.1.2) (P := A ++ it :: B) hM.2.1 (by omega) hM.1 rfl
  obtain ⟨k, nm, dt, ⟨a1, a2⟩, b1, b2⟩ := it
  have h3 : k = 3 := h3
  subst h3
  have h8 : tsum A + 7 + tsum B ≤ 400 := h8
  simp only at r1 r2 hc ho
  generalize occ a2 (A ++ (3, nm, dt, (a1, a2), b1, b2) :: B) = oc at r2 hc ho
  generalize fnd a2 (A ++ (3, nm, dt, (a1, a2), b1, b2) :: B) 0 (-1) = fx at r1 hc
  generalize tsum A = p at t1 h8 ⊢
  obtain ⟨h0, rfl, h2, rfl, rfl, rfl, rfl⟩ := t1
  refine Rn.of (Nat.le_of_ble_eq_true rfl) ?_
  by_cases c1 : R (p + 3) = 1
  · by_cases c2 : fx < 0
    · skip
      refine Rk.tr (F1 := (35, 1, _, _)) (x_aload_n rfl rfl rfl) ?_
      refine Rk.tr (F1 := (35, 4, _, _)) (m_get rfl rfl (Nat.le_of_ble_eq_true rfl)) ?_
      refine Rk.tr (F1 := (35, 5, _, _)) (x_iload_n rfl rfl) ?_
      refine Rk.tr (F1 := (35, 6, _, _)) (x_iconst rfl) ?_
      refine Rk.tr (F1 := (35, 7, _, _)) (x_iadd rfl) ?_
      refine Rk.tr (F1 := (35, 8, _, _)) (m_iald (k := 5) (n := p + 3) rfl rfl rfl (nI_add p 3) (show p + 3 < 800 by omega)) ?_
      refine Rk.tr (F1 := (35, 9, _, _)) (x_iconst rfl) ?_
      refine Rk.tr (F1 := (35, 12, _, _)) (x_icF rfl (tg := 27) rfl (fun z => z c1)) ?_
      refine Rk.tr (F1 := (35, 13, _, _)) (x_aload_n rfl rfl rfl) ?_
      refine Rk.tr (F1 := (35, 14, _, _)) (x_aload_n rfl rfl rfl) ?_
      refine Rk.tr (F1 := (35, 17, _, _)) (m_get rfl rfl (Nat.le_of_ble_eq_true rfl)) ?_
      refine Rk.tr (F1 := (35, 18, _, _)) (x_iload_n rfl rfl) ?_
      refine Rk.tr (F1 := (35, 19, _, _)) (x_iconst rfl) ?_
      refine Rk.tr (F1 := (35, 20, _, _)) (x_iadd rfl) ?_
      refine Rk.tr (F1 := (35, 21, _, _)) (m_iald (k := 5) (n := p + 4) rfl rfl rfl (nI_add p 4) (show p + 4 < 800 by omega)) ?_
      refine Rk.tr (F1 := (35, 24, _, _)) (m_call (As := [_]) rfl rfl rfl (Or.inr rfl) rfl rfl rfl (Nat.le_of_ble_eq_true rfl) r1 rfl) ?_
      refine Rk.tr (F1 := (35, 28, _, _)) (x_goto rfl rfl) ?_
      refine Rk.tr (F1 := (35, 29, [_, _, _, _, _, _, _, _, _, _, _], _)) (x_istore_n (i := 2) rfl (Nat.le_of_ble_eq_true rfl)) ?_
      refine Rk.tr (F1 := (35, 30, _, _)) (x_iload_n rfl rfl) ?_
      refine Rk.tr (F1 := (35, 49, _, _)) (x_ifT rfl (tg := 49) rfl c2) ?_
      refine Rk.tr (F1 := (35, 50, _, _)) (x_iconst rfl) ?_
      exact Rk.end rfl (Or.inr (Or.inl ⟨rfl, _, .int, rfl, rfl, rfl, rfl⟩))
    · have c3 : ¬ nI oc = 1 := fun z => hc ⟨c1, c2, (nI_eq (by omega) (by decide)).mp z⟩
      refine Rk.tr (F1 := (35, 1, _, _)) (x_aload_n rfl rfl rfl) ?_
      refine Rk.tr (F1 := (35, 4, _, _)) (m_get rfl rfl (Nat.le_of_ble_eq_true rfl)) ?_
      refine Rk.tr (F1 := (35, 5, _, _)) (x_iload_n rfl rfl) ?_
      refine Rk.tr (F1 := (35, 6, _, _)) (x_iconst rfl) ?_
      refine Rk.tr (F1 := (35, 7, _, _)) (x_iadd rfl) ?_
      refine Rk.tr (F1 := (35, 8, _, _)) (m_iald (k := 5) (n := p + 3) rfl rfl rfl (nI_add p 3) (show p + 3 < 800 by omega)) ?_
      refine Rk.tr (F1 := (35, 9, _, _)) (x_iconst rfl) ?_
      refine Rk.tr (F1 := (35, 12, _, _)) (x_icF rfl (tg := 27) rfl (fun z => z c1)) ?_
      refine Rk.tr (F1 := (35, 13, _, _)) (x_aload_n rfl rfl rfl) ?_
      refine Rk.tr (F1 := (35, 14, _, _)) (x_aload_n rfl rfl rfl) ?_
      refine Rk.tr (F1 := (35, 17, _, _)) (m_get rfl rfl (Nat.le_of_ble_eq_true rfl)) ?_
      refine Rk.tr (F1 := (35, 18, _, _)) (x_iload_n rfl rfl) ?_
      refine Rk.tr (F1 := (35, 19, _, _)) (x_iconst rfl) ?_
      refine Rk.tr (F1 := (35, 20, _, _)) (x_iadd rfl) ?_
      refine Rk.tr (F1 := (35, 21, _, _)) (m_iald (k := 5) (n := p + 4) rfl rfl rfl (nI_add p 4) (show p + 4 < 800 by omega)) ?_
      refine Rk.tr (F1 := (35, 24, _, _)) (m_call (As := [_]) rfl rfl rfl (Or.inr rfl) rfl rfl rfl (Nat.le_of_ble_eq_true rfl) r1 rfl) ?_
      refine Rk.tr (F1 := (35, 28, _, _)) (x_goto rfl rfl) ?_
      refine Rk.tr (F1 := (35, 29, [_, _, _, _, _, _, _, _, _, _, _], _)) (x_istore_n (i := 2) rfl (Nat.le_of_ble_eq_true rfl)) ?_
      refine Rk.tr (F1 := (35, 30, _, _)) (x_iload_n rfl rfl) ?_
      refine Rk.tr (F1 := (35, 33, _, _)) (x_ifF rfl (tg := 49) rfl c2) ?_
      refine Rk.tr (F1 := (35, 34, _, _)) (x_aload_n rfl rfl rfl) ?_
      refine Rk.tr (F1 := (35, 35, _, _)) (x_aload_n rfl rfl rfl) ?_
      refine Rk.tr (F1 := (35, 38, _, _)) (m_get rfl rfl (Nat.le_of_ble_eq_true rfl)) ?_
      refine Rk.tr (F1 := (35, 39, _, _)) (x_iload_n rfl rfl) ?_
      refine Rk.tr (F1 := (35, 40, _, _)) (x_iconst rfl) ?_
      refine Rk.tr (F1 := (35, 41, _, _)) (x_iadd rfl) ?_
      refine Rk.tr (F1 := (35, 42, _, _)) (m_iald (k := 5) (n := p + 4) rfl rfl rfl (nI_add p 4) (show p + 4 < 800 by omega)) ?_
      refine Rk.tr (F1 := (35, 45, _, _)) (m_call (As := [_]) rfl rfl rfl (Or.inr rfl) rfl rfl rfl (Nat.le_of_ble_eq_true rfl) r2 rfl) ?_
      refine Rk.tr (F1 := (35, 46, _, _)) (x_iconst rfl) ?_
      refine Rk.tr (F1 := (35, 49, _, _)) (x_icF rfl (tg := 51) rfl c3) ?_
      refine Rk.tr (F1 := (35, 50, _, _)) (x_iconst rfl) ?_
      exact Rk.end rfl (Or.inr (Or.inl ⟨rfl, _, .int, rfl, rfl, rfl, rfl⟩))
  · skip
    refine Rk.tr (F1 := (35, 1, _, _)) (x_aload_n rfl rfl rfl) ?_
    refine Rk.tr (F1 := (35, 4, _, _)) (m_get rfl rfl (Nat.le_of_ble_eq_true rfl)) ?_
    refine Rk.tr (F1 := (35, 5, _, _)) (x_iload_n rfl rfl) ?_
    refine Rk.tr (F1 := (35, 6, _, _)) (x_iconst rfl) ?_
    refine Rk.tr (F1 := (35, 7, _, _)) (x_iadd rfl) ?_
    refine Rk.tr (F1 := (35, 8, _, _)) (m_iald (k := 5) (n := p + 3) rfl rfl rfl (nI_add p 3) (show p + 3 < 800 by omega)) ?_
    refine Rk.tr (F1 := (35, 9, _, _)) (x_iconst rfl) ?_
    refine Rk.tr (F1 := (35, 27, _, _)) (x_icT rfl (tg := 27) rfl c1) ?_
    refine Rk.tr (F1 := (35, 28, _, _)) (x_iconst rfl) ?_
    refine Rk.tr (F1 := (35, 29, [_, _, _, _, _, _, _, _, _, _, _], _)) (x_istore_n (i := 2) rfl (Nat.le_of_ble_eq_true rfl)) ?_
    refine Rk.tr (F1 := (35, 30, _, _)) (x_iload_n rfl rfl) ?_
    refine Rk.tr (F1 := (35, 49, _, _)) (x_ifT rfl (tg := 49) rfl (show Int32.ofInt (-1) < 0 by decide)) ?_
    refine Rk.tr (F1 := (35, 50, _, _)) (x_iconst rfl) ?_
    exact Rk.end rfl (Or.inr (Or.inl ⟨rfl, _, .int, rfl, rfl, rfl, rfl⟩))
theorem lp_piece2 {p q m : Nat} {v3 v4 v5 v6 v7 : Int32} (hm : q + 4 + m ≤ 800) : ∀ (r k : Nat), k + r = m →
    Ex E d (35, 111, [some (.ref o), some (.int (nI p)), some (.int (nI q)), some (.int v3), some (.int v4), some (.int v5), some (.int v6), some (.int v7), some (.int (nI m)), some (.int (nI k)), none], []) (mh g o (mst S R (rcp R W (q + 4) (q + 4 + k)) c n)) (35, 142, [some (.ref o), some (.int (nI p)), some (.int (nI q)), some (.int v3), some (.int v4), some (.int v5), some (.int v6), some (.int v7), some (.int (nI m)), none, none], []) (mh g o (mst S R (rcp R W (q + 4) (q + 4 + m)) c n)) := by
  intro r
  induction r with
  | zero =>
    intro k hk
    rcases (show k = m by omega) with rfl
    refine Ex.tr (F1 := (35, 113, _, _)) (x_iload rfl rfl) ?_
    refine Ex.tr (F1 := (35, 115, _, _)) (x_iload rfl rfl) ?_
    refine Ex.tr (F1 := (35, 142, _, _)) (x_icT rfl (tg := 142) rfl (by show nI k ≤ nI k; exact nI_le (Nat.le_refl _) (by omega))) ?_
    exact x_wk ⟨Or.inr rfl, Or.inr rfl, Or.inr rfl, Or.inr rfl, Or.inr rfl, Or.inr rfl, Or.inr rfl, Or.inr rfl, Or.inr rfl, Or.inl rfl, Or.inr rfl, trivial⟩
  | succ r ih =>
    intro k hk
    have h9 := ih (k + 1) (by omega)
    have hR : rup (rcp R W (q + 4) (q + 4 + k)) k (R (q + 4 + k)) = rcp R W (q + 4) (q + 4 + (k + 1)) := by
      funext z
      unfold rup rcp
      by_cases z1 : z = k
      · rw [if_pos z1, if_pos (by omega), z1]
      · rw [if_neg z1]
        by_cases z2 : q + 4 + z < q + 4 + k
        · rw [if_pos z2, if_pos (by omega)]
        · rw [if_neg z2, if_neg (by omega)]
    rw [← hR, ← mst_A6, ← nI_1 k] at h9
    refine Ex.tr (F1 := (35, 113, _, _)) (x_iload rfl rfl) ?_
    refine Ex.tr (F1 := (35, 115, _, _)) (x_iload rfl rfl) ?_
    refine Ex.tr (F1 := (35, 118, _, _)) (x_icF rfl (tg := 142) rfl (by show ¬ nI m ≤ nI k; exact nI_ge (by omega) (by omega))) ?_
    refine Ex.tr (F1 := (35, 119, _, _)) (x_aload_n rfl rfl rfl) ?_
    refine Ex.tr (F1 := (35, 122, _, _)) (m_get rfl rfl (Nat.le_of_ble_eq_true rfl)) ?_
    refine Ex.tr (F1 := (35, 124, _, _)) (x_iload rfl rfl) ?_
    refine Ex.tr (F1 := (35, 125, _, _)) (x_aload_n rfl rfl rfl) ?_
    refine Ex.tr (F1 := (35, 128, _, _)) (m_get rfl rfl (Nat.le_of_ble_eq_true rfl)) ?_
    refine Ex.tr (F1 := (35, 129, _, _)) (x_iload_n rfl rfl) ?_
    refine Ex.tr (F1 := (35, 130, _, _)) (x_iconst rfl) ?_
    refine Ex.tr (F1 := (35, 131, _, _)) (x_iadd rfl) ?_
    refine Ex.tr (F1 := (35, 133, _, _)) (x_iload rfl rfl) ?_
    refine Ex.tr (F1 := (35, 134, _, _)) (x_iadd rfl) ?_
    refine Ex.tr (F1 := (35, 135, _, _)) (m_iald (k := 5) (n := q + 4 + k) rfl rfl rfl (by show nI q + nI 4 + nI k = _; rw [nI_add, nI_add]) (show q + 4 + k < 800 by omega)) ?_
    refine Ex.tr (F1 := (35, 136, _, _)) (m_iast (k := 6) (n := k) rfl rfl rfl (Nat.le_of_ble_eq_true rfl) rfl (show k < 800 by omega)) ?_
    refine Ex.tr (F1 := (35, 139, [_, _, _, _, _, _, _, _, _, _, _], _)) (x_iinc (i := 9) rfl rfl) ?_
    refine Ex.tr (F1 := (35, 111, _, _)) (x_goto rfl rfl) ?_
    exact h9
theorem c_inline_yes {A1 X A2 B : List It} {F e it : It} (hF : F.1 = 2) (he : e.1 = 9) (h3 : it.1 = 3) (hM : PM R n (A1 ++ F :: ((X ++ [e]) ++ (A2 ++ it :: B)))) (hcl : closes 1 (X ++ [e]))
    (k1 : it.2.2.2.1.1 = 1) (k2 : fnd it.2.2.2.1.2 (A1 ++ F :: ((X ++ [e]) ++ (A2 ++ it :: B))) 0 (-1) = nI (tsum A1)) (k3 : occ it.2.2.2.1.2 (A1 ++ F :: ((X ++ [e]) ++ (A2 ++ it :: B))) = 1) :
    ∃ R' W' : Nat → Int32, Rn E (d + 2) 35 [.ref o, .int (nI (tsum A1 + 4 + (tsum X + 3) + tsum A2))] (mh g o (mst S R W c n)) (some (.int (nI (tsum A1 + tsum A2)))) (mh g o (mst S R' W' (rup c 2 (c 2 + 1)) (nI (tsum (A1 ++ (A2 ++ (X ++ B))))))) ∧
      TokAt R' 0 (((A1 ++ (A2 ++ (X ++ B))).map (isb F.2.2.1 it.2.2.2.2)).map (isb it.2.1 (sa F.2.2.1 it.2.2.2.2 e.2.2.2.1))) := by
  have z1 : isz e = 3 := by unfold isz; rw [he]; rfl
  have zF : isz F = 4 := by unfold isz; rw [hF]; rfl
  have zi : isz it = 7 := by unfold isz; rw [h3]; rfl
  have s1 : tsum (X ++ [e]) = tsum X + 3 := by rw [tsum_app]; simp only [tsum]; omega
  obtain ⟨m1, m2, m3⟩ := hM
  have hz : tsum (A1 ++ F :: ((X ++ [e]) ++ (A2 ++ it :: B))) = tsum A1 + 4 + (tsum X + 3) + tsum A2 + 7 + tsum B := by
    rw [tsum_app]
    simp only [tsum]
    rw [tsum_app (X ++ [e]) _, tsum_app A2 _, s1, zF]
    simp only [tsum]
    rw [zi]
    omega
  have r1 := c_function (E := E) (d := d) (o := o) (g := g) (S := mst S R W c n) (nm := it.2.2.2.1.2) (P := A1 ++ F :: ((X ++ [e]) ++ (A2 ++ it :: B))) m2 (by omega) m1 rfl
  have r2 := c_occurs (E := E) (d := d) (o := o) (g := g) (S := mst S R W c n) (nm := it.2.2.2.1.2) (P := A1 ++ F :: ((X ++ [e]) ++ (A2 ++ it :: B))) m2 (by omega) m1 rfl
  rw [k2] at r1
  rw [k3] at r2
  rw [hz] at m2 m3
  -- the pieces of the array
  have T0 := TokAt_app.mp m1
  have tF : Tok1 R (tsum A1) F := by have := T0.2.1; rw [Nat.zero_add] at this; exact this
  have T1 := T0.2.2
  rw [Nat.zero_add, zF] at T1
  obtain ⟨tBd, T2⟩ := TokAt_app.mp T1
  rw [s1] at T2
  have tX := (TokAt_app.mp tBd).1
  have te : Tok1 R (tsum A1 + 4 + tsum X) e := (TokAt_app.mp tBd).2.1
  have T3 := TokAt_app.mp T2
  have tit : Tok1 R (tsum A1 + 4 + (tsum X + 3) + tsum A2) it := T3.2.1
  -- the first cut
  have eA : A1 ++ F :: ((X ++ [e]) ++ (A2 ++ it :: B)) = (A1 ++ F :: ((X ++ [e]) ++ A2)) ++ ([it] ++ B) := by simp
  have sA : tsum (A1 ++ F :: ((X ++ [e]) ++ A2)) = tsum A1 + 4 + (tsum X + 3) + tsum A2 := by
    rw [tsum_app]
    simp only [tsum]
    rw [tsum_app (X ++ [e]) _, s1, zF]
    omega
  have si : tsum [it] = 7 := by simp only [tsum]; rw [zi]
  rw [eA] at m1 hz
  have c1 := TokAt_cut m1
  rw [hz, sA, si] at c1
  have hM3 : tsum A1 + 4 + (tsum X + 3) + tsum A2 + 7 + tsum B ≤ 400 := m3
  have sAB : tsum ((A1 ++ F :: ((X ++ [e]) ++ A2)) ++ B) = tsum A1 + 4 + (tsum X + 3) + tsum A2 + tsum B := by rw [tsum_app, sA]
  have ct1 := c_cut (E := E) (d := d + 1) (o := o) (g := g) (S := mst S R (rcp R W (tsum A1 + 4) (tsum A1 + 4 + tsum X)) c n) (f := tsum A1 + 4 + (tsum X + 3) + tsum A2) (u := tsum A1 + 4 + (tsum X + 3) + tsum A2 + 7) (len := tsum A1 + 4 + (tsum X + 3) + tsum A2 + 7 + tsum B) m2 (by omega) (by omega) (by omega)
  rw [mst_R, mst_4, show tsum A1 + 4 + (tsum X + 3) + tsum A2 + 7 + tsum B - (tsum A1 + 4 + (tsum X + 3) + tsum A2 + 7 - (tsum A1 + 4 + (tsum X + 3) + tsum A2)) = tsum A1 + 4 + (tsum X + 3) + tsum A2 + tsum B by omega] at ct1
  have ct1 : Rn E (d + 1) 28 [.ref o, .int (nI (tsum A1 + 4 + (tsum X + 3) + tsum A2)), .int (nI (tsum A1 + 4 + (tsum X + 3) + tsum A2 + 7))] (mh g o (mst S R (rcp R W (tsum A1 + 4) (tsum A1 + 4 + tsum X)) c n)) none (mh g o (mst S (rcut R (tsum A1 + 4 + (tsum X + 3) + tsum A2) (tsum A1 + 4 + (tsum X + 3) + tsum A2 + 7) (tsum A1 + 4 + (tsum X + 3) + tsum A2 + 7 + tsum B)) (rcp R W (tsum A1 + 4) (tsum A1 + 4 + tsum X)) c (nI (tsum A1 + 4 + (tsum X + 3) + tsum A2 + tsum B)))) := ct1
  generalize rcut R (tsum A1 + 4 + (tsum X + 3) + tsum A2) (tsum A1 + 4 + (tsum X + 3) + tsum A2 + 7) (tsum A1 + 4 + (tsum X + 3) + tsum A2 + 7 + tsum B) = R1 at c1 ct1
  -- insert
  have hW := rcp_tok (W := W) tX
  generalize hWe : rcp R W (tsum A1 + 4) (tsum A1 + 4 + tsum X) = W' at hW ct1
  have i1 := TokAt_ins c1 hW
  rw [sA, sAB] at i1
  have it1 := c_insert (E := E) (d := d + 1) (o := o) (g := g) (S := mst S R1 W' c (nI (tsum A1 + 4 + (tsum X + 3) + tsum A2 + tsum B))) (f := tsum A1 + 4 + (tsum X + 3) + tsum A2) (n := tsum X) (len := tsum A1 + 4 + (tsum X + 3) + tsum A2 + tsum B) rfl (by omega) (by omega)
  rw [mst_R, mst_4] at it1
  have it1 : Rn E (d + 1) 34 [.ref o, .int (nI (tsum A1 + 4 + (tsum X + 3) + tsum A2)), .int (nI (tsum X))] (mh g o (mst S R1 W' c (nI (tsum A1 + 4 + (tsum X + 3) + tsum A2 + tsum B)))) none (mh g o (mst S (rins R1 W' (tsum A1 + 4 + (tsum X + 3) + tsum A2) (tsum X) (tsum A1 + 4 + (tsum X + 3) + tsum A2 + tsum B)) W' c (nI (tsum A1 + 4 + (tsum X + 3) + tsum A2 + tsum B + tsum X)))) := it1
  generalize rins R1 W' (tsum A1 + 4 + (tsum X + 3) + tsum A2) (tsum X) (tsum A1 + 4 + (tsum X + 3) + tsum A2 + tsum B) = R2 at i1 it1
  -- the second cut
  have eB : (A1 ++ F :: ((X ++ [e]) ++ A2)) ++ (X ++ B) = A1 ++ ((F :: (X ++ [e])) ++ (A2 ++ (X ++ B))) := by simp
  have sFB : tsum (F :: (X ++ [e])) = 4 + (tsum X + 3) := by simp only [tsum]; rw [s1, zF]
  have sAll : tsum (A1 ++ ((F :: (X ++ [e])) ++ (A2 ++ (X ++ B)))) = tsum A1 + 4 + (tsum X + 3) + tsum A2 + tsum B + tsum X := by
    rw [← eB, tsum_app, sA, tsum_app]
    omega
  rw [eB] at i1
  have c2 := TokAt_cut i1
  rw [sAll, sFB] at c2
  have sEnd : tsum (A1 ++ (A2 ++ (X ++ B))) = tsum A1 + tsum A2 + tsum X + tsum B := by rw [tsum_app, tsum_app, tsum_app]; omega
  have ct2 := c_cut (E := E) (d := d + 1) (o := o) (g := g) (S := mst S R2 W' c (nI (tsum A1 + 4 + (tsum X + 3) + tsum A2 + tsum B + tsum X))) (f := tsum A1) (u := tsum A1 + (4 + (tsum X + 3))) (len := tsum A1 + 4 + (tsum X + 3) + tsum A2 + tsum B + tsum X) rfl (by omega) (by omega) (by omega)
  rw [mst_R, mst_4, show tsum A1 + 4 + (tsum X + 3) + tsum A2 + tsum B + tsum X - (tsum A1 + (4 + (tsum X + 3)) - tsum A1) = tsum (A1 ++ (A2 ++ (X ++ B))) by rw [sEnd]; omega] at ct2
  have ct2 : Rn E (d + 1) 28 [.ref o, .int (nI (tsum A1)), .int (nI (tsum A1 + (4 + (tsum X + 3))))] (mh g o (mst S R2 W' c (nI (tsum A1 + 4 + (tsum X + 3) + tsum A2 + tsum B + tsum X)))) none (mh g o (mst S (rcut R2 (tsum A1) (tsum A1 + (4 + (tsum X + 3))) (tsum A1 + 4 + (tsum X + 3) + tsum A2 + tsum B + tsum X)) W' c (nI (tsum (A1 ++ (A2 ++ (X ++ B))))))) := ct2
  generalize rcut R2 (tsum A1) (tsum A1 + (4 + (tsum X + 3))) (tsum A1 + 4 + (tsum X + 3) + tsum A2 + tsum B + tsum X) = R3 at c2 ct2
  -- the parameter, then the name
  obtain ⟨fk, fn, fp, fa, fb⟩ := F
  obtain ⟨ik, iv, idt, ⟨ia1, ia2⟩, ib1, ib2⟩ := it
  obtain ⟨ek, en, edt, ⟨ea1, ea2⟩, eb⟩ := e
  have hF : fk = 2 := hF
  have h3 : ik = 3 := h3
  have he : ek = 9 := he
  subst hF h3 he
  obtain ⟨R4, q1, q2⟩ := c_standsFor (E := E) (d := d) (o := o) (g := g) (S := mst S R3 W' c (nI (tsum (A1 ++ (A2 ++ (X ++ B)))))) (nm := fp) (bk := ib1) (bv := ib2) (P := A1 ++ (A2 ++ (X ++ B))) rfl (by omega) c2 rfl
  rw [mst_R] at q1
  have q3 := isb_sum fp (ib1, ib2) (A1 ++ (A2 ++ (X ++ B)))
  obtain ⟨R5, q4, q5⟩ := c_standsFor (E := E) (d := d) (o := o) (g := g) (S := mst S R4 W' c (nI (tsum (A1 ++ (A2 ++ (X ++ B)))))) (nm := iv) (bk := (sa fp (ib1, ib2) (ea1, ea2)).1) (bv := (sa fp (ib1, ib2) (ea1, ea2)).2) (P := (A1 ++ (A2 ++ (X ++ B))).map (isb fp (ib1, ib2))) rfl (by omega) q2 q3
  rw [mst_R] at q4
  refine ⟨R5, W', ?_, q5⟩
  rw [← mst_A7]
  have re := c_rowEnd (E := E) (d := d) (o := o) (g := g) (S := mst S R W c n) (p := tsum A1 + 4) (Q := X ++ [(9, en, edt, (ea1, ea2), eb)]) tBd (by rw [s1]; omega) hcl
  rw [s1] at re
  simp only at r1 r2 k1
  clear q5 q2 c1 c2 i1 hW sEnd sAll sFB eB sAB si sA eA T3 T2 T1 T0 hz hcl m1 tX k2 k3
  generalize tsum (A1 ++ (A2 ++ (X ++ B))) = tl at *
  generalize tsum A1 = q at *
  generalize tsum A2 = y2 at *
  generalize tsum B = yb at *
  generalize tsum X = x at *
  obtain ⟨w0, w1, w2, rfl⟩ := tF
  obtain ⟨u0, rfl, rfl⟩ := te
  generalize hp : q + 4 + (x + 3) + y2 = p at *
  obtain ⟨v0, rfl, v2, rfl, rfl, rfl, rfl⟩ := tit
  have hlp := lp_piece2 (E := E) (d := d + 2) (o := o) (g := g) (S := S) (R := R) (W := W) (c := c) (n := n) (p := p) (q := q) (m := x) (v3 := R (p + 1)) (v4 := R (p + 5)) (v5 := R (p + 6)) (v6 := R (q + 3)) (v7 := nI (q + 4 + x)) (by omega) x 0 (by omega)
  have hW0 : rcp R W (q + 4) (q + 4 + 0) = W := by
    funext z
    unfold rcp
    rw [if_neg (by omega)]
  rw [hW0, hWe] at hlp
  refine Rn.of (Nat.le_of_ble_eq_true rfl) ?_
  refine Rk.tr (F1 := (35, 1, _, _)) (x_aload_n rfl rfl rfl) ?_
  refine Rk.tr (F1 := (35, 4, _, _)) (m_get rfl rfl (Nat.le_of_ble_eq_true rfl)) ?_
  refine Rk.tr (F1 := (35, 5, _, _)) (x_iload_n rfl rfl) ?_
  refine Rk.tr (F1 := (35, 6, _, _)) (x_iconst rfl) ?_
  refine Rk.tr (F1 := (35, 7, _, _)) (x_iadd rfl) ?_
  refine Rk.tr (F1 := (35, 8, _, _)) (m_iald (k := 5) (n := p + 3) rfl rfl rfl (nI_add p 3) (show p + 3 < 800 by omega)) ?_
  refine Rk.tr (F1 := (35, 9, _, _)) (x_iconst rfl) ?_
  refine Rk.tr (F1 := (35, 12, _, _)) (x_icF rfl (tg := 27) rfl (fun z => z k1)) ?_
  refine Rk.tr (F1 := (35, 13, _, _)) (x_aload_n rfl rfl rfl) ?_
  refine Rk.tr (F1 := (35, 14, _, _)) (x_aload_n rfl rfl rfl) ?_
  refine Rk.tr (F1 := (35, 17, _, _)) (m_get rfl rfl (Nat.le_of_ble_eq_true rfl)) ?_
  refine Rk.tr (F1 := (35, 18, _, _)) (x_iload_n rfl rfl) ?_
  refine Rk.tr (F1 := (35, 19, _, _)) (x_iconst rfl) ?_
  refine Rk.tr (F1 := (35, 20, _, _)) (x_iadd rfl) ?_
  refine Rk.tr (F1 := (35, 21, _, _)) (m_iald (k := 5) (n := p + 4) rfl rfl rfl (nI_add p 4) (show p + 4 < 800 by omega)) ?_
  refine Rk.tr (F1 := (35, 24, _, _)) (m_call (As := [_]) rfl rfl rfl (Or.inr rfl) rfl rfl rfl (Nat.le_of_ble_eq_true rfl) r1 rfl) ?_
  refine Rk.tr (F1 := (35, 28, _, _)) (x_goto rfl rfl) ?_
  refine Rk.tr (F1 := (35, 29, [_, _, _, _, _, _, _, _, _, _, _], _)) (x_istore_n (i := 2) rfl (Nat.le_of_ble_eq_true rfl)) ?_
  refine Rk.tr (F1 := (35, 30, _, _)) (x_iload_n rfl rfl) ?_
  refine Rk.tr (F1 := (35, 33, _, _)) (x_ifF rfl (tg := 49) rfl (nI_pos (by omega))) ?_
  refine Rk.tr (F1 := (35, 34, _, _)) (x_aload_n rfl rfl rfl) ?_
  refine Rk.tr (F1 := (35, 35, _, _)) (x_aload_n rfl rfl rfl) ?_
  refine Rk.tr (F1 := (35, 38, _, _)) (m_get rfl rfl (Nat.le_of_ble_eq_true rfl)) ?_
  refine Rk.tr (F1 := (35, 39, _, _)) (x_iload_n rfl rfl) ?_
  refine Rk.tr (F1 := (35, 40, _, _)) (x_iconst rfl) ?_
  refine Rk.tr (F1 := (35, 41, _, _)) (x_iadd rfl) ?_
  refine Rk.tr (F1 := (35, 42, _, _)) (m_iald (k := 5) (n := p + 4) rfl rfl rfl (nI_add p 4) (show p + 4 < 800 by omega)) ?_
  refine Rk.tr (F1 := (35, 45, _, _)) (m_call (As := [_]) rfl rfl rfl (Or.inr rfl) rfl rfl rfl (Nat.le_of_ble_eq_true rfl) r2 rfl) ?_
  refine Rk.tr (F1 := (35, 46, _, _)) (x_iconst rfl) ?_
  refine Rk.tr (F1 := (35, 51, _, _)) (x_icT rfl (tg := 51) rfl rfl) ?_
  refine Rk.tr (F1 := (35, 52, _, _)) (x_aload_n rfl rfl rfl) ?_
  refine Rk.tr (F1 := (35, 55, _, _)) (m_get rfl rfl (Nat.le_of_ble_eq_true rfl)) ?_
  refine Rk.tr (F1 := (35, 56, _, _)) (x_iload_n rfl rfl) ?_
  refine Rk.tr (F1 := (35, 57, _, _)) (x_iconst rfl) ?_
  refine Rk.tr (F1 := (35, 58, _, _)) (x_iadd rfl) ?_
  refine Rk.tr (F1 := (35, 59, _, _)) (m_iald (k := 5) (n := p + 1) rfl rfl rfl (nI_1 p) (show p + 1 < 800 by omega)) ?_
  refine Rk.tr (F1 := (35, 60, [_, _, _, _, _, _, _, _, _, _, _], _)) (x_istore_n (i := 3) rfl (Nat.le_of_ble_eq_true rfl)) ?_
  refine Rk.tr (F1 := (35, 61, _, _)) (x_aload_n rfl rfl rfl) ?_
  refine Rk.tr (F1 := (35, 64, _, _)) (m_get rfl rfl (Nat.le_of_ble_eq_true rfl)) ?_
  refine Rk.tr (F1 := (35, 65, _, _)) (x_iload_n rfl rfl) ?_
  refine Rk.tr (F1 := (35, 66, _, _)) (x_iconst rfl) ?_
  refine Rk.tr (F1 := (35, 67, _, _)) (x_iadd rfl) ?_
  refine Rk.tr (F1 := (35, 68, _, _)) (m_iald (k := 5) (n := p + 5) rfl rfl rfl (nI_add p 5) (show p + 5 < 800 by omega)) ?_
  refine Rk.tr (F1 := (35, 70, [_, _, _, _, _, _, _, _, _, _, _], _)) (x_istore (i := 4) rfl (Nat.le_of_ble_eq_true rfl)) ?_
  refine Rk.tr (F1 := (35, 71, _, _)) (x_aload_n rfl rfl rfl) ?_
  refine Rk.tr (F1 := (35, 74, _, _)) (m_get rfl rfl (Nat.le_of_ble_eq_true rfl)) ?_
  refine Rk.tr (F1 := (35, 75, _, _)) (x_iload_n rfl rfl) ?_
  refine Rk.tr (F1 := (35, 77, _, _)) (x_bipush rfl) ?_
  refine Rk.tr (F1 := (35, 78, _, _)) (x_iadd rfl) ?_
  refine Rk.tr (F1 := (35, 79, _, _)) (m_iald (k := 5) (n := p + 6) rfl rfl rfl (nI_add p 6) (show p + 6 < 800 by omega)) ?_
  refine Rk.tr (F1 := (35, 81, [_, _, _, _, _, _, _, _, _, _, _], _)) (x_istore (i := 5) rfl (Nat.le_of_ble_eq_true rfl)) ?_
  refine Rk.tr (F1 := (35, 82, _, _)) (x_aload_n rfl rfl rfl) ?_
  refine Rk.tr (F1 := (35, 85, _, _)) (m_get rfl rfl (Nat.le_of_ble_eq_true rfl)) ?_
  refine Rk.tr (F1 := (35, 86, _, _)) (x_iload_n rfl rfl) ?_
  refine Rk.tr (F1 := (35, 87, _, _)) (x_iconst rfl) ?_
  refine Rk.tr (F1 := (35, 88, _, _)) (x_iadd rfl) ?_
  refine Rk.tr (F1 := (35, 89, _, _)) (m_iald (k := 5) (n := q + 3) rfl rfl rfl (nI_add q 3) (show q + 3 < 800 by omega)) ?_
  refine Rk.tr (F1 := (35, 91, [_, _, _, _, _, _, _, _, _, _, _], _)) (x_istore (i := 6) rfl (Nat.le_of_ble_eq_true rfl)) ?_
  refine Rk.tr (F1 := (35, 92, _, _)) (x_aload_n rfl rfl rfl) ?_
  refine Rk.tr (F1 := (35, 93, _, _)) (x_iload_n rfl rfl) ?_
  refine Rk.tr (F1 := (35, 94, _, _)) (x_iconst rfl) ?_
  refine Rk.tr (F1 := (35, 95, _, _)) (x_iadd rfl) ?_
  refine Rk.tr (F1 := (35, 95, _, _)) (x_top (nI_add q 4)) ?_
  refine Rk.tr (F1 := (35, 98, _, _)) (m_call (As := [_]) rfl rfl rfl (Or.inr rfl) rfl rfl rfl (Nat.le_of_ble_eq_true rfl) re rfl) ?_
  refine Rk.tr (F1 := (35, 98, _, _)) (x_top (y := nI (q + 4 + x)) (by congr 1)) ?_
  refine Rk.tr (F1 := (35, 100, [_, _, _, _, _, _, _, _, _, _, _], _)) (x_istore (i := 7) rfl (Nat.le_of_ble_eq_true rfl)) ?_
  refine Rk.tr (F1 := (35, 102, _, _)) (x_iload rfl rfl) ?_
  refine Rk.tr (F1 := (35, 103, _, _)) (x_iload_n rfl rfl) ?_
  refine Rk.tr (F1 := (35, 104, _, _)) (x_isub rfl) ?_
  refine Rk.tr (F1 := (35, 105, _, _)) (x_iconst rfl) ?_
  refine Rk.tr (F1 := (35, 106, _, _)) (x_isub rfl) ?_
  refine Rk.tr (F1 := (35, 106, _, _)) (x_top (y := nI x) (by show nI (q + 4 + x) - nI q - nI 4 = _; rw [pk_sub (by omega), pk_sub (by omega)]; congr 1; omega)) ?_
  refine Rk.tr (F1 := (35, 108, [_, _, _, _, _, _, _, _, _, _, _], _)) (x_istore (i := 8) rfl (Nat.le_of_ble_eq_true rfl)) ?_
  refine Rk.tr (F1 := (35, 109, _, _)) (x_iconst rfl) ?_
  refine Rk.tr (F1 := (35, 111, [_, _, _, _, _, _, _, _, _, _, _], _)) (x_istore (i := 9) rfl (Nat.le_of_ble_eq_true rfl)) ?_
  refine Rk.tr hlp ?_
  refine Rk.tr (F1 := (35, 143, _, _)) (x_aload_n rfl rfl rfl) ?_
  refine Rk.tr (F1 := (35, 146, _, _)) (m_get rfl rfl (Nat.le_of_ble_eq_true rfl)) ?_
  refine Rk.tr (F1 := (35, 148, _, _)) (x_iload rfl rfl) ?_
  refine Rk.tr (F1 := (35, 149, _, _)) (x_iconst rfl) ?_
  refine Rk.tr (F1 := (35, 150, _, _)) (x_iadd rfl) ?_
  refine Rk.tr (F1 := (35, 151, _, _)) (m_iald (k := 5) (n := q + 4 + x + 1) rfl rfl rfl (nI_1 _) (show q + 4 + x + 1 < 800 by omega)) ?_
  refine Rk.tr (F1 := (35, 153, [_, _, _, _, _, _, _, _, _, _, _], _)) (x_istore (i := 9) rfl (Nat.le_of_ble_eq_true rfl)) ?_
  refine Rk.tr (F1 := (35, 154, _, _)) (x_aload_n rfl rfl rfl) ?_
  refine Rk.tr (F1 := (35, 157, _, _)) (m_get rfl rfl (Nat.le_of_ble_eq_true rfl)) ?_
  refine Rk.tr (F1 := (35, 159, _, _)) (x_iload rfl rfl) ?_
  refine Rk.tr (F1 := (35, 160, _, _)) (x_iconst rfl) ?_
  refine Rk.tr (F1 := (35, 161, _, _)) (x_iadd rfl) ?_
  refine Rk.tr (F1 := (35, 162, _, _)) (m_iald (k := 5) (n := q + 4 + x + 2) rfl rfl rfl (nI_add _ 2) (show q + 4 + x + 2 < 800 by omega)) ?_
  refine Rk.tr (F1 := (35, 164, [_, _, _, _, _, _, _, _, _, _, _], _)) (x_istore (i := 10) rfl (Nat.le_of_ble_eq_true rfl)) ?_
  refine Rk.tr (F1 := (35, 165, _, _)) (x_aload_n rfl rfl rfl) ?_
  refine Rk.tr (F1 := (35, 166, _, _)) (x_iload_n rfl rfl) ?_
  refine Rk.tr (F1 := (35, 167, _, _)) (x_iload_n rfl rfl) ?_
  refine Rk.tr (F1 := (35, 169, _, _)) (x_bipush rfl) ?_
  refine Rk.tr (F1 := (35, 170, _, _)) (x_iadd rfl) ?_
  refine Rk.tr (F1 := (35, 170, _, _)) (x_top (nI_add p 7)) ?_
  refine Rk.tr (F1 := (35, 173, _, _)) (m_call (As := [_, _]) rfl rfl rfl (Or.inr rfl) rfl rfl rfl (Nat.le_of_ble_eq_true rfl) ct1 rfl) ?_
  refine Rk.tr (F1 := (35, 174, _, _)) (x_aload_n rfl rfl rfl) ?_
  refine Rk.tr (F1 := (35, 175, _, _)) (x_iload_n rfl rfl) ?_
  refine Rk.tr (F1 := (35, 177, _, _)) (x_iload rfl rfl) ?_
  refine Rk.tr (F1 := (35, 180, _, _)) (m_call (As := [_, _]) rfl rfl rfl (Or.inr rfl) rfl rfl rfl (Nat.le_of_ble_eq_true rfl) it1 rfl) ?_
  refine Rk.tr (F1 := (35, 181, _, _)) (x_aload_n rfl rfl rfl) ?_
  refine Rk.tr (F1 := (35, 182, _, _)) (x_iload_n rfl rfl) ?_
  refine Rk.tr (F1 := (35, 184, _, _)) (x_iload rfl rfl) ?_
  refine Rk.tr (F1 := (35, 185, _, _)) (x_iconst rfl) ?_
  refine Rk.tr (F1 := (35, 186, _, _)) (x_iadd rfl) ?_
  refine Rk.tr (F1 := (35, 186, _, _)) (x_top (y := nI (q + (4 + (x + 3)))) (by show nI (q + 4 + x) + nI 3 = _; rw [nI_add]; congr 1; omega)) ?_
  refine Rk.tr (F1 := (35, 189, _, _)) (m_call (As := [_, _]) rfl rfl rfl (Or.inr rfl) rfl rfl rfl (Nat.le_of_ble_eq_true rfl) ct2 rfl) ?_
  refine Rk.tr (F1 := (35, 190, _, _)) (x_aload_n rfl rfl rfl) ?_
  refine Rk.tr (F1 := (35, 192, _, _)) (x_iload rfl rfl) ?_
  refine Rk.tr (F1 := (35, 194, _, _)) (x_iload rfl rfl) ?_
  refine Rk.tr (F1 := (35, 196, _, _)) (x_iload rfl rfl) ?_
  refine Rk.tr (F1 := (35, 199, _, _)) (m_call (As := [_, _, _]) rfl rfl rfl (Or.inr rfl) rfl rfl rfl (Nat.le_of_ble_eq_true rfl) q1 rfl) ?_
  by_cases e1 : R (q + 4 + x + 1) = 1
  · by_cases e2 : R (q + 4 + x + 2) = R (q + 3)
    · have es : sa (R (q + 3)) (R (p + 5), R (p + 6)) (R (q + 4 + x + 1), R (q + 4 + x + 2)) = (R (p + 5), R (p + 6)) := if_pos (Prod.ext e1 e2)
      rw [es] at q4
      refine Rk.tr (F1 := (35, 201, _, _)) (x_iload rfl rfl) ?_
      refine Rk.tr (F1 := (35, 202, _, _)) (x_iconst rfl) ?_
      refine Rk.tr (F1 := (35, 205, _, _)) (x_icF rfl (tg := 220) rfl (fun z => z e1)) ?_
      refine Rk.tr (F1 := (35, 207, _, _)) (x_iload rfl rfl) ?_
      refine Rk.tr (F1 := (35, 209, _, _)) (x_iload rfl rfl) ?_
      refine Rk.tr (F1 := (35, 212, _, _)) (x_icF rfl (tg := 220) rfl (fun z => z e2)) ?_
      refine Rk.tr (F1 := (35, 214, _, _)) (x_iload rfl rfl) ?_
      refine Rk.tr (F1 := (35, 216, [_, _, _, _, _, _, _, _, _, _, _], _)) (x_istore (i := 9) rfl (Nat.le_of_ble_eq_true rfl)) ?_
      refine Rk.tr (F1 := (35, 218, _, _)) (x_iload rfl rfl) ?_
      refine Rk.tr (F1 := (35, 220, [_, _, _, _, _, _, _, _, _, _, _], _)) (x_istore (i := 10) rfl (Nat.le_of_ble_eq_true rfl)) ?_
      refine Rk.tr (F1 := (35, 221, _, _)) (x_aload_n rfl rfl rfl) ?_
      refine Rk.tr (F1 := (35, 222, _, _)) (x_iload_n rfl rfl) ?_
      refine Rk.tr (F1 := (35, 224, _, _)) (x_iload rfl rfl) ?_
      refine Rk.tr (F1 := (35, 226, _, _)) (x_iload rfl rfl) ?_
      refine Rk.tr (F1 := (35, 229, _, _)) (m_call (As := [_, _, _]) rfl rfl rfl (Or.inr rfl) rfl rfl rfl (Nat.le_of_ble_eq_true rfl) q4 rfl) ?_
      refine Rk.tr (F1 := (35, 230, _, _)) (x_aload_n rfl rfl rfl) ?_
      refine Rk.tr (F1 := (35, 233, _, _)) (m_get rfl rfl (Nat.le_of_ble_eq_true rfl)) ?_
      refine Rk.tr (F1 := (35, 234, _, _)) (x_iconst rfl) ?_
      refine Rk.tr (F1 := (35, 235, _, _)) (x_dup2 rfl rfl rfl) ?_
      refine Rk.tr (F1 := (35, 236, _, _)) (m_iald (k := 7) (n := 2) rfl rfl rfl rfl (Nat.le_of_ble_eq_true rfl)) ?_
      refine Rk.tr (F1 := (35, 237, _, _)) (x_iconst rfl) ?_
      refine Rk.tr (F1 := (35, 238, _, _)) (x_iadd rfl) ?_
      refine Rk.tr (F1 := (35, 239, _, _)) (m_iast (k := 7) (n := 2) rfl rfl rfl (Nat.le_of_ble_eq_true rfl) rfl (Nat.le_of_ble_eq_true rfl)) ?_
      refine Rk.tr (F1 := (35, 240, _, _)) (x_iload_n rfl rfl) ?_
      refine Rk.tr (F1 := (35, 242, _, _)) (x_iload rfl rfl) ?_
      refine Rk.tr (F1 := (35, 243, _, _)) (x_iconst rfl) ?_
      refine Rk.tr (F1 := (35, 244, _, _)) (x_iadd rfl) ?_
      refine Rk.tr (F1 := (35, 245, _, _)) (x_iload_n rfl rfl) ?_
      refine Rk.tr (F1 := (35, 246, _, _)) (x_isub rfl) ?_
      refine Rk.tr (F1 := (35, 247, _, _)) (x_isub rfl) ?_
      refine Rk.tr (F1 := (35, 247, _, _)) (x_top (y := nI (q + y2)) (by show nI p - (nI (q + 4 + x) + nI 3 - nI q) = _; rw [nI_add, pk_sub (by omega), pk_sub (by omega)]; congr 1; omega)) ?_
      exact Rk.end rfl (Or.inr (Or.inl ⟨rfl, _, .int, rfl, rfl, rfl, rfl⟩))
    · have es : sa (R (q + 3)) (R (p + 5), R (p + 6)) (R (q + 4 + x + 1), R (q + 4 + x + 2)) = (R (q + 4 + x + 1), R (q + 4 + x + 2)) := if_neg (fun z => e2 (Prod.ext_iff.mp z).2)
      rw [es] at q4
      refine Rk.tr (F1 := (35, 201, _, _)) (x_iload rfl rfl) ?_
      refine Rk.tr (F1 := (35, 202, _, _)) (x_iconst rfl) ?_
      refine Rk.tr (F1 := (35, 205, _, _)) (x_icF rfl (tg := 220) rfl (fun z => z e1)) ?_
      refine Rk.tr (F1 := (35, 207, _, _)) (x_iload rfl rfl) ?_
      refine Rk.tr (F1 := (35, 209, _, _)) (x_iload rfl rfl) ?_
      refine Rk.tr (F1 := (35, 220, _, _)) (x_icT rfl (tg := 220) rfl e2) ?_
      refine Rk.tr (F1 := (35, 221, _, _)) (x_aload_n rfl rfl rfl) ?_
      refine Rk.tr (F1 := (35, 222, _, _)) (x_iload_n rfl rfl) ?_
      refine Rk.tr (F1 := (35, 224, _, _)) (x_iload rfl rfl) ?_
      refine Rk.tr (F1 := (35, 226, _, _)) (x_iload rfl rfl) ?_
      refine Rk.tr (F1 := (35, 229, _, _)) (m_call (As := [_, _, _]) rfl rfl rfl (Or.inr rfl) rfl rfl rfl (Nat.le_of_ble_eq_true rfl) q4 rfl) ?_
      refine Rk.tr (F1 := (35, 230, _, _)) (x_aload_n rfl rfl rfl) ?_
      refine Rk.tr (F1 := (35, 233, _, _)) (m_get rfl rfl (Nat.le_of_ble_eq_true rfl)) ?_
      refine Rk.tr (F1 := (35, 234, _, _)) (x_iconst rfl) ?_
      refine Rk.tr (F1 := (35, 235, _, _)) (x_dup2 rfl rfl rfl) ?_
      refine Rk.tr (F1 := (35, 236, _, _)) (m_iald (k := 7) (n := 2) rfl rfl rfl rfl (Nat.le_of_ble_eq_true rfl)) ?_
      refine Rk.tr (F1 := (35, 237, _, _)) (x_iconst rfl) ?_
      refine Rk.tr (F1 := (35, 238, _, _)) (x_iadd rfl) ?_
      refine Rk.tr (F1 := (35, 239, _, _)) (m_iast (k := 7) (n := 2) rfl rfl rfl (Nat.le_of_ble_eq_true rfl) rfl (Nat.le_of_ble_eq_true rfl)) ?_
      refine Rk.tr (F1 := (35, 240, _, _)) (x_iload_n rfl rfl) ?_
      refine Rk.tr (F1 := (35, 242, _, _)) (x_iload rfl rfl) ?_
      refine Rk.tr (F1 := (35, 243, _, _)) (x_iconst rfl) ?_
      refine Rk.tr (F1 := (35, 244, _, _)) (x_iadd rfl) ?_
      refine Rk.tr (F1 := (35, 245, _, _)) (x_iload_n rfl rfl) ?_
      refine Rk.tr (F1 := (35, 246, _, _)) (x_isub rfl) ?_
      refine Rk.tr (F1 := (35, 247, _, _)) (x_isub rfl) ?_
      refine Rk.tr (F1 := (35, 247, _, _)) (x_top (y := nI (q + y2)) (by show nI p - (nI (q + 4 + x) + nI 3 - nI q) = _; rw [nI_add, pk_sub (by omega), pk_sub (by omega)]; congr 1; omega)) ?_
      exact Rk.end rfl (Or.inr (Or.inl ⟨rfl, _, .int, rfl, rfl, rfl, rfl⟩))
  · have es : sa (R (q + 3)) (R (p + 5), R (p + 6)) (R (q + 4 + x + 1), R (q + 4 + x + 2)) = (R (q + 4 + x + 1), R (q + 4 + x + 2)) := if_neg (fun z => e1 (Prod.ext_iff.mp z).1)
    rw [es] at q4
    refine Rk.tr (F1 := (35, 201, _, _)) (x_iload rfl rfl) ?_
    refine Rk.tr (F1 := (35, 202, _, _)) (x_iconst rfl) ?_
    refine Rk.tr (F1 := (35, 220, _, _)) (x_icT rfl (tg := 220) rfl e1) ?_
    refine Rk.tr (F1 := (35, 221, _, _)) (x_aload_n rfl rfl rfl) ?_
    refine Rk.tr (F1 := (35, 222, _, _)) (x_iload_n rfl rfl) ?_
    refine Rk.tr (F1 := (35, 224, _, _)) (x_iload rfl rfl) ?_
    refine Rk.tr (F1 := (35, 226, _, _)) (x_iload rfl rfl) ?_
    refine Rk.tr (F1 := (35, 229, _, _)) (m_call (As := [_, _, _]) rfl rfl rfl (Or.inr rfl) rfl rfl rfl (Nat.le_of_ble_eq_true rfl) q4 rfl) ?_
    refine Rk.tr (F1 := (35, 230, _, _)) (x_aload_n rfl rfl rfl) ?_
    refine Rk.tr (F1 := (35, 233, _, _)) (m_get rfl rfl (Nat.le_of_ble_eq_true rfl)) ?_
    refine Rk.tr (F1 := (35, 234, _, _)) (x_iconst rfl) ?_
    refine Rk.tr (F1 := (35, 235, _, _)) (x_dup2 rfl rfl rfl) ?_
    refine Rk.tr (F1 := (35, 236, _, _)) (m_iald (k := 7) (n := 2) rfl rfl rfl rfl (Nat.le_of_ble_eq_true rfl)) ?_
    refine Rk.tr (F1 := (35, 237, _, _)) (x_iconst rfl) ?_
    refine Rk.tr (F1 := (35, 238, _, _)) (x_iadd rfl) ?_
    refine Rk.tr (F1 := (35, 239, _, _)) (m_iast (k := 7) (n := 2) rfl rfl rfl (Nat.le_of_ble_eq_true rfl) rfl (Nat.le_of_ble_eq_true rfl)) ?_
    refine Rk.tr (F1 := (35, 240, _, _)) (x_iload_n rfl rfl) ?_
    refine Rk.tr (F1 := (35, 242, _, _)) (x_iload rfl rfl) ?_
    refine Rk.tr (F1 := (35, 243, _, _)) (x_iconst rfl) ?_
    refine Rk.tr (F1 := (35, 244, _, _)) (x_iadd rfl) ?_
    refine Rk.tr (F1 := (35, 245, _, _)) (x_iload_n rfl rfl) ?_
    refine Rk.tr (F1 := (35, 246, _, _)) (x_isub rfl) ?_
    refine Rk.tr (F1 := (35, 247, _, _)) (x_isub rfl) ?_
    refine Rk.tr (F1 := (35, 247, _, _)) (x_top (y := nI (q + y2)) (by show nI p - (nI (q + 4 + x) + nI 3 - nI q) = _; rw [nI_add, pk_sub (by omega), pk_sub (by omega)]; congr 1; omega)) ?_
    exact Rk.end rfl (Or.inr (Or.inl ⟨rfl, _, .int, rfl, rfl, rfl, rfl⟩))
end M10
