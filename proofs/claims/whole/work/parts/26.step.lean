/-! ===== one step of a pass ===== -/
/-- the result of a row: its last item's atom -/
def rlast (Q : List It) : Int32 × Int32 := match Q.getLast? with
  | some r => r.2.2.2.1
  | none => (0, 0)
theorem rlast_of (X : List It) (r : It) : rlast (X ++ [r]) = r.2.2.2.1 := by
  unfold rlast
  rw [List.getLast?_append]
  rfl
/-- what a pass does at the item 'it' with A before and B behind it: which step, then before and behind -/
def stp (A : List It) (it : It) (B : List It) : Option (Nat × List It × List It) :=
  if it.1 = 9 then none
  else if it.1 = 5 then (if it.2.2.2.1.1 = 0 ∧ it.2.2.2.2.1 = 0 ∧ ¬ (it.2.2.1 = 3 ∧ it.2.2.2.2.2 = 0) then some (0, A.map (isb it.2.1 (0, opv it.2.2.1 it.2.2.2.1.2 it.2.2.2.2.2)), B.map (isb it.2.1 (0, opv it.2.2.1 it.2.2.2.1.2 it.2.2.2.2.2))) else none)
  else if it.1 = 3 then (if it.2.2.2.1.1 = 1 ∧ occ it.2.2.2.1.2 (A ++ it :: B) = 1 then
    (match ffn it.2.2.2.1.2 [] A with
    | some (A1, F, Q) => some (2, ((A1 ++ Q.drop (rwl 1 Q).length).map (isb F.2.2.1 it.2.2.2.2)).map (isb it.2.1 (sa F.2.2.1 it.2.2.2.2 (rlast (rwl 1 Q)))), (((rwl 1 Q).dropLast ++ B).map (isb F.2.2.1 it.2.2.2.2)).map (isb it.2.1 (sa F.2.2.1 it.2.2.2.2 (rlast (rwl 1 Q)))))
    | none => none) else none)
  else if it.1 = 2 then (if occ it.2.1 (A ++ it :: B) = 0 then some (3, A, B.drop (rwl 1 B).length) else none)
  else (if it.2.2.2.1.1 = 0 then
    (let R1 := rwl 1 B
     let B1 := B.drop R1.length
     let R2 := rwl 1 B1
     let ch := if it.2.2.2.1.2 = 0 then R2 else R1
     some (1, A.map (isb it.2.1 (rlast ch)), (ch.dropLast ++ B1.drop R2.length).map (isb it.2.1 (rlast ch)))) else none)
/-- what holds of a program at any time -/
def Inv (P : List It) : Prop := Sco [[]] P ∧ (dfs P).Nodup ∧ tsum P ≤ 210
/-- an item's rows behind it -/
theorem Inv_fun {A B : List It} {it : It} (hI : Inv (A ++ it :: B)) (h2 : it.1 = 2) : ∃ (X : List It) (r : It) (C : List It), B = (X ++ [r]) ++ C ∧ r.1 = 9 ∧ closes 1 (X ++ [r]) := by
  obtain ⟨e, stk, hr, hs, hB⟩ := Sco_at hI.1
  have e1 : scn e stk it = [it.2.2.1 :: e] ++ ((it.2.1 :: e) :: stk) := by
    unfold scn
    rw [if_neg (by omega), if_pos h2]
    rfl
  rw [e1] at hB
  obtain ⟨Q, C, q1, q2, q3, q4⟩ := Sco_rows B _ _ (by simp) hB
  obtain ⟨X, r, x1, x2⟩ := closes_last Q _ q2
  exact ⟨X, r, C, by rw [q1, x1], x2, by rw [← x1]; exact q2⟩
theorem Inv_if {A B : List It} {it : It} (hI : Inv (A ++ it :: B)) (h2 : it.1 ≠ 2) (h3 : it.1 ≠ 3) (h5 : it.1 ≠ 5) (h9 : it.1 ≠ 9) : ∃ (X1 : List It) (r1 : It) (X2 : List It) (r2 : It) (C : List It), B = (X1 ++ [r1]) ++ ((X2 ++ [r2]) ++ C) ∧ r1.1 = 9 ∧ r2.1 = 9 ∧ closes 1 (X1 ++ [r1]) ∧ closes 1 (X2 ++ [r2]) := by
  obtain ⟨e, stk, hr, hs, hB⟩ := Sco_at hI.1
  have e1 : scn e stk it = [e] ++ ([e] ++ ((it.2.1 :: e) :: stk)) := by
    unfold scn
    rw [if_neg h9, if_neg h2, if_neg h3, if_neg h5]
    rfl
  rw [e1] at hB
  obtain ⟨Q, C, q1, q2, q3, q4⟩ := Sco_rows B _ _ (by simp) hB
  obtain ⟨X, r, x1, x2⟩ := closes_last Q _ q2
  obtain ⟨Q2, C2, p1, p2, p3, p4⟩ := Sco_rows C _ _ (by simp) q4
  obtain ⟨X2, r2, y1, y2⟩ := closes_last Q2 _ p2
  exact ⟨X, r, X2, r2, C2, by rw [q1, x1, p1, y1], x2, y2, by rw [← x1]; exact q2, by rw [← y1]; exact p2⟩
theorem drop_app (Q C : List It) : (Q ++ C).drop Q.length = C := by simp
theorem dl_app (X : List It) (r : It) : (X ++ [r]).dropLast = X := by simp
theorem stp_if {A X1 X2 C : List It} {it r1 r2 : It} (h2 : it.1 ≠ 2) (h3 : it.1 ≠ 3) (h5 : it.1 ≠ 5) (h9 : it.1 ≠ 9) (k1 : closes 1 (X1 ++ [r1])) (k2 : closes 1 (X2 ++ [r2])) (hc : it.2.2.2.1.1 = 0) :
    stp A it ((X1 ++ [r1]) ++ ((X2 ++ [r2]) ++ C)) = some (1, A.map (isb it.2.1 (if it.2.2.2.1.2 = 0 then r2 else r1).2.2.2.1), ((if it.2.2.2.1.2 = 0 then X2 else X1) ++ C).map (isb it.2.1 (if it.2.2.2.1.2 = 0 then r2 else r1).2.2.2.1)) := by
  unfold stp
  rw [if_neg h9, if_neg h5, if_neg h3, if_neg h2, if_pos hc]
  simp only [rwl_of _ _ _ k1, drop_app, rwl_of _ _ _ k2]
  by_cases hs : it.2.2.2.1.2 = 0
  · simp only [if_pos hs, dl_app, rlast_of]
  · simp only [if_neg hs, dl_app, rlast_of]
theorem stp_drop {A X C : List It} {it r : It} (h2 : it.1 = 2) (k1 : closes 1 (X ++ [r])) (hc : occ it.2.1 (A ++ it :: ((X ++ [r]) ++ C)) = 0) : stp A it ((X ++ [r]) ++ C) = some (3, A, C) := by
  unfold stp
  rw [if_neg (by omega), if_neg (by omega), if_neg (by omega), if_pos h2, if_pos hc, rwl_of _ _ _ k1, drop_app]
theorem stp_inl {A1 X A2 B : List It} {F r it : It} (h3 : it.1 = 3) (hF : F.1 = 2 ∧ F.2.1 = it.2.2.2.1.2) (hn : noF it.2.2.2.1.2 A1) (k1 : closes 1 (X ++ [r])) (ha : it.2.2.2.1.1 = 1) (hc : occ it.2.2.2.1.2 ((A1 ++ F :: ((X ++ [r]) ++ A2)) ++ it :: B) = 1) :
    stp (A1 ++ F :: ((X ++ [r]) ++ A2)) it B = some (2, ((A1 ++ A2).map (isb F.2.2.1 it.2.2.2.2)).map (isb it.2.1 (sa F.2.2.1 it.2.2.2.2 r.2.2.2.1)), ((X ++ B).map (isb F.2.2.1 it.2.2.2.2)).map (isb it.2.1 (sa F.2.2.1 it.2.2.2.2 r.2.2.2.1))) := by
  unfold stp
  rw [if_neg (by omega), if_neg (by omega), if_pos h3, if_pos ⟨ha, hc⟩, ffn_some hF hn]
  simp only [rwl_of _ _ _ k1, drop_app, dl_app, rlast_of, List.nil_append]
section M11
variable {E : PE} {d o : Nat} {g : PH} {S : MSt} {R W c : Nat → Int32} {n : Int32}
theorem c_step_no {A B : List It} {it : It} (h9 : it.1 ≠ 9) (hI : Inv (A ++ it :: B)) (hM : PM R n (A ++ it :: B)) (hs : stp A it B = none) :
    Rn E (d + 3) 25 [.ref o, .int (nI (tsum A))] (mh g o (mst S R W c n)) (some (.int (-1))) (mh g o (mst S R W c n)) := by
  obtain ⟨t1, h8, -⟩ := PM.it (P := []) hM
  have hz := isz_ge it
  rcases kd5 it.1 with h | h | h | h | ⟨n2, n3, n5, n9⟩
  · have hc : 0 < occ it.2.1 (A ++ it :: B) := by
      rcases Nat.eq_zero_or_pos (occ it.2.1 (A ++ it :: B)) with z | z
      · unfold stp at hs
        rw [if_neg (by omega), if_neg (by omega), if_neg (by omega), if_pos h, if_pos z] at hs
        cases hs
      · exact z
    have call := c_drop_no (E := E) (d := d) (o := o) (g := g) (S := S) (W := W) (c := c) h hM hc
    have hk : R (tsum A + 2) = 2 := (Tok1_k2 t1 h9).mpr h
    generalize tsum A = p at h8 hk call ⊢
    refine Rn.of (Nat.le_of_ble_eq_true rfl) ?_
    refine Rk.tr (F1 := (25, 1, _, _)) (x_aload_n rfl rfl rfl) ?_
    refine Rk.tr (F1 := (25, 4, _, _)) (m_get rfl rfl (Nat.le_of_ble_eq_true rfl)) ?_
    refine Rk.tr (F1 := (25, 5, _, _)) (x_iload_n rfl rfl) ?_
    refine Rk.tr (F1 := (25, 6, _, _)) (x_iconst rfl) ?_
    refine Rk.tr (F1 := (25, 7, _, _)) (x_iadd rfl) ?_
    refine Rk.tr (F1 := (25, 8, _, _)) (m_iald (k := 5) (n := p + 2) rfl rfl rfl (nI_add p 2) (show p + 2 < 800 by omega)) ?_
    refine Rk.tr (F1 := (25, 8, _, _)) (x_top (y := 2) hk) ?_
    refine Rk.tr (F1 := (25, 58, _, _)) (x_tswOut (tg := 58) rfl (by decide) rfl) ?_
    refine Rk.tr (F1 := (25, 59, _, _)) (x_aload_n rfl rfl rfl) ?_
    refine Rk.tr (F1 := (25, 60, _, _)) (x_iload_n rfl rfl) ?_
    refine Rk.tr (F1 := (25, 63, _, _)) (m_call (As := [_]) rfl rfl rfl (Or.inr rfl) rfl rfl rfl (Nat.le_of_ble_eq_true rfl) call rfl) ?_
    exact Rk.end rfl (Or.inr (Or.inl ⟨rfl, _, .int, rfl, rfl, rfl, rfl⟩))
  · have hc : ¬ (it.2.2.2.1.1 = 1 ∧ ¬ fnd it.2.2.2.1.2 (A ++ it :: B) 0 (-1) < 0 ∧ occ it.2.2.2.1.2 (A ++ it :: B) = 1) := by
      rintro ⟨z1, z2, z3⟩
      rcases inl_where (f := it.2.2.2.1.2) hI.1 hI.2.1 h (Prod.ext z1 rfl) with z | ⟨A1, F, X, r, A2, e1, e2, e3, e4, e5, e6, e7⟩
      · rw [fnd_none z] at z2
        exact z2 (by decide)
      · rw [e1] at hs z3
        rw [stp_inl h ⟨e2, e3⟩ e6 e5 z1 z3] at hs
        cases hs
    have call := c_inline_no (E := E) (d := d) (o := o) (g := g) (S := S) (W := W) (c := c) h hM hc
    have hk : R (tsum A + 2) = 3 := by
      obtain ⟨k, nm, dt, ⟨a1, a2⟩, b1, b2⟩ := it
      have h : k = 3 := h
      subst h
      exact t1.2.2.1
    generalize tsum A = p at h8 hk call ⊢
    refine Rn.of (Nat.le_of_ble_eq_true rfl) ?_
    refine Rk.tr (F1 := (25, 1, _, _)) (x_aload_n rfl rfl rfl) ?_
    refine Rk.tr (F1 := (25, 4, _, _)) (m_get rfl rfl (Nat.le_of_ble_eq_true rfl)) ?_
    refine Rk.tr (F1 := (25, 5, _, _)) (x_iload_n rfl rfl) ?_
    refine Rk.tr (F1 := (25, 6, _, _)) (x_iconst rfl) ?_
    refine Rk.tr (F1 := (25, 7, _, _)) (x_iadd rfl) ?_
    refine Rk.tr (F1 := (25, 8, _, _)) (m_iald (k := 5) (n := p + 2) rfl rfl rfl (nI_add p 2) (show p + 2 < 800 by omega)) ?_
    refine Rk.tr (F1 := (25, 8, _, _)) (x_top (y := 3) hk) ?_
    refine Rk.tr (F1 := (25, 52, _, _)) (x_tswIn (tg := 52) rfl (by decide) (by decide) rfl rfl) ?_
    refine Rk.tr (F1 := (25, 53, _, _)) (x_aload_n rfl rfl rfl) ?_
    refine Rk.tr (F1 := (25, 54, _, _)) (x_iload_n rfl rfl) ?_
    refine Rk.tr (F1 := (25, 57, _, _)) (m_call (As := [_]) rfl rfl rfl (Or.inr rfl) rfl rfl rfl (Nat.le_of_ble_eq_true rfl) call rfl) ?_
    exact Rk.end rfl (Or.inr (Or.inl ⟨rfl, _, .int, rfl, rfl, rfl, rfl⟩))
  · have hc : ¬ (it.2.2.2.1.1 = 0 ∧ it.2.2.2.2.1 = 0 ∧ ¬ (it.2.2.1 = 3 ∧ it.2.2.2.2.2 = 0)) := by
      intro z
      unfold stp at hs
      rw [if_neg (by omega), if_pos h, if_pos z] at hs
      cases hs
    have call := c_fold_no (E := E) (d := d + 2) (o := o) (g := g) (S := S) (W := W) (c := c) h hM hc
    have hk : R (tsum A + 2) = 5 := by
      obtain ⟨k, nm, dt, ⟨a1, a2⟩, b1, b2⟩ := it
      have h : k = 5 := h
      subst h
      exact t1.2.2.1
    generalize tsum A = p at h8 hk call ⊢
    refine Rn.of (Nat.le_of_ble_eq_true rfl) ?_
    refine Rk.tr (F1 := (25, 1, _, _)) (x_aload_n rfl rfl rfl) ?_
    refine Rk.tr (F1 := (25, 4, _, _)) (m_get rfl rfl (Nat.le_of_ble_eq_true rfl)) ?_
    refine Rk.tr (F1 := (25, 5, _, _)) (x_iload_n rfl rfl) ?_
    refine Rk.tr (F1 := (25, 6, _, _)) (x_iconst rfl) ?_
    refine Rk.tr (F1 := (25, 7, _, _)) (x_iadd rfl) ?_
    refine Rk.tr (F1 := (25, 8, _, _)) (m_iald (k := 5) (n := p + 2) rfl rfl rfl (nI_add p 2) (show p + 2 < 800 by omega)) ?_
    refine Rk.tr (F1 := (25, 8, _, _)) (x_top (y := 5) hk) ?_
    refine Rk.tr (F1 := (25, 40, _, _)) (x_tswIn (tg := 40) rfl (by decide) (by decide) rfl rfl) ?_
    refine Rk.tr (F1 := (25, 41, _, _)) (x_aload_n rfl rfl rfl) ?_
    refine Rk.tr (F1 := (25, 42, _, _)) (x_iload_n rfl rfl) ?_
    refine Rk.tr (F1 := (25, 45, _, _)) (m_call (As := [_]) rfl rfl rfl (Or.inr rfl) rfl rfl rfl (Nat.le_of_ble_eq_true rfl) call rfl) ?_
    exact Rk.end rfl (Or.inr (Or.inl ⟨rfl, _, .int, rfl, rfl, rfl, rfl⟩))
  · exact absurd h h9
  · have hc : ¬ it.2.2.2.1.1 = 0 := by
      intro z
      unfold stp at hs
      rw [if_neg n9, if_neg n5, if_neg n3, if_neg n2, if_pos z] at hs
      cases hs
    have call := c_choose_no (E := E) (d := d + 2) (o := o) (g := g) (S := S) (W := W) (c := c) n2 n3 n5 n9 hM hc
    have hk : R (tsum A + 2) = 6 := (Tok1_if n2 n3 n5 n9 t1).1.2.2.1
    generalize tsum A = p at h8 hk call ⊢
    refine Rn.of (Nat.le_of_ble_eq_true rfl) ?_
    refine Rk.tr (F1 := (25, 1, _, _)) (x_aload_n rfl rfl rfl) ?_
    refine Rk.tr (F1 := (25, 4, _, _)) (m_get rfl rfl (Nat.le_of_ble_eq_true rfl)) ?_
    refine Rk.tr (F1 := (25, 5, _, _)) (x_iload_n rfl rfl) ?_
    refine Rk.tr (F1 := (25, 6, _, _)) (x_iconst rfl) ?_
    refine Rk.tr (F1 := (25, 7, _, _)) (x_iadd rfl) ?_
    refine Rk.tr (F1 := (25, 8, _, _)) (m_iald (k := 5) (n := p + 2) rfl rfl rfl (nI_add p 2) (show p + 2 < 800 by omega)) ?_
    refine Rk.tr (F1 := (25, 8, _, _)) (x_top (y := 6) hk) ?_
    refine Rk.tr (F1 := (25, 46, _, _)) (x_tswIn (tg := 46) rfl (by decide) (by decide) rfl rfl) ?_
    refine Rk.tr (F1 := (25, 47, _, _)) (x_aload_n rfl rfl rfl) ?_
    refine Rk.tr (F1 := (25, 48, _, _)) (x_iload_n rfl rfl) ?_
    refine Rk.tr (F1 := (25, 51, _, _)) (m_call (As := [_]) rfl rfl rfl (Or.inr rfl) rfl rfl rfl (Nat.le_of_ble_eq_true rfl) call rfl) ?_
    exact Rk.end rfl (Or.inr (Or.inl ⟨rfl, _, .int, rfl, rfl, rfl, rfl⟩))
theorem c_step_yes {A B A' B' : List It} {it : It} {w : Nat} (hI : Inv (A ++ it :: B)) (hM : PM R n (A ++ it :: B)) (hs : stp A it B = some (w, A', B')) :
    ∃ R' W' : Nat → Int32, Rn E (d + 3) 25 [.ref o, .int (nI (tsum A))] (mh g o (mst S R W c n)) (some (.int (nI (tsum A')))) (mh g o (mst S R' W' (rup c w (c w + 1)) (nI (tsum (A' ++ B'))))) ∧ TokAt R' 0 (A' ++ B') := by
  obtain ⟨t1, h8, -⟩ := PM.it (P := []) hM
  have hz := isz_ge it
  rcases kd5 it.1 with h | h | h | h | ⟨n2, n3, n5, n9⟩
  · have hc : occ it.2.1 (A ++ it :: B) = 0 := Classical.byContradiction fun z => by
      unfold stp at hs
      rw [if_neg (by omega), if_neg (by omega), if_neg (by omega), if_pos h, if_neg z] at hs
      cases hs
    obtain ⟨X, r, C, rfl, x2, x3⟩ := Inv_fun hI h
    rw [stp_drop h x3 hc] at hs
    cases hs
    obtain ⟨R', call, x5⟩ := c_drop_yes (E := E) (d := d) (o := o) (g := g) (S := S) (W := W) (c := c) h hM x3 hc
    have hk : R (tsum A + 2) = 2 := (Tok1_k2 t1 (by omega)).mpr h
    refine ⟨R', W, ?_, x5⟩
    generalize tsum A = p at h8 hk call ⊢
    refine Rn.of (Nat.le_of_ble_eq_true rfl) ?_
    refine Rk.tr (F1 := (25, 1, _, _)) (x_aload_n rfl rfl rfl) ?_
    refine Rk.tr (F1 := (25, 4, _, _)) (m_get rfl rfl (Nat.le_of_ble_eq_true rfl)) ?_
    refine Rk.tr (F1 := (25, 5, _, _)) (x_iload_n rfl rfl) ?_
    refine Rk.tr (F1 := (25, 6, _, _)) (x_iconst rfl) ?_
    refine Rk.tr (F1 := (25, 7, _, _)) (x_iadd rfl) ?_
    refine Rk.tr (F1 := (25, 8, _, _)) (m_iald (k := 5) (n := p + 2) rfl rfl rfl (nI_add p 2) (show p + 2 < 800 by omega)) ?_
    refine Rk.tr (F1 := (25, 8, _, _)) (x_top (y := 2) hk) ?_
    refine Rk.tr (F1 := (25, 58, _, _)) (x_tswOut (tg := 58) rfl (by decide) rfl) ?_
    refine Rk.tr (F1 := (25, 59, _, _)) (x_aload_n rfl rfl rfl) ?_
    refine Rk.tr (F1 := (25, 60, _, _)) (x_iload_n rfl rfl) ?_
    refine Rk.tr (F1 := (25, 63, _, _)) (m_call (As := [_]) rfl rfl rfl (Or.inr rfl) rfl rfl rfl (Nat.le_of_ble_eq_true rfl) call rfl) ?_
    exact Rk.end rfl (Or.inr (Or.inl ⟨rfl, _, .int, rfl, rfl, rfl, rfl⟩))
  · have hk : R (tsum A + 2) = 3 := by
      obtain ⟨k, nm, dt, ⟨a1, a2⟩, b1, b2⟩ := it
      have h : k = 3 := h
      subst h
      exact t1.2.2.1
    have hc : it.2.2.2.1.1 = 1 ∧ occ it.2.2.2.1.2 (A ++ it :: B) = 1 := Classical.byContradiction fun z => by
      unfold stp at hs
      rw [if_neg (by omega), if_neg (by omega), if_pos h, if_neg z] at hs
      cases hs
    rcases inl_where (f := it.2.2.2.1.2) hI.1 hI.2.1 h (Prod.ext hc.1 rfl) with z | ⟨A1, F, X, r, A2, e1, e2, e3, e4, e5, e6, e7⟩
    · exfalso
      unfold stp at hs
      rw [if_neg (by omega), if_neg (by omega), if_pos h, if_pos hc, ffn_none (fun x hx => z x (List.mem_append_left _ hx))] at hs
      cases hs
    · subst e1
      rw [stp_inl h ⟨e2, e3⟩ e6 e5 hc.1 hc.2] at hs
      cases hs
      have eA : (A1 ++ F :: ((X ++ [r]) ++ A2)) ++ it :: B = A1 ++ F :: ((X ++ [r]) ++ (A2 ++ it :: B)) := by simp
      rw [eA] at hM hc
      have hf := fnd_some (f := it.2.2.2.1.2) (F := F) (Q := (X ++ [r]) ++ (A2 ++ it :: B)) ⟨e2, e3⟩ e7 (A := A1) (p := 0) (x := -1) e6
      rw [Nat.zero_add] at hf
      obtain ⟨R', W', call, x5⟩ := c_inline_yes (E := E) (d := d) (o := o) (g := g) (S := S) (W := W) (c := c) e2 e4 h hM e5 hc.1 hf hc.2
      have zF : isz F = 4 := by unfold isz; rw [e2]; rfl
      have zr : isz r = 3 := by unfold isz; rw [e4]; rfl
      have sA : tsum (A1 ++ F :: ((X ++ [r]) ++ A2)) = tsum A1 + 4 + (tsum X + 3) + tsum A2 := by
        rw [tsum_app]
        simp only [tsum]
        rw [tsum_app (X ++ [r]) _, tsum_app X _]
        simp only [tsum]
        omega
      refine ⟨R', W', ?_, by rw [← List.map_append, ← List.map_append, List.append_assoc]; exact x5⟩
      rw [sA] at h8 hk ⊢
      rw [isb_sum, isb_sum, tsum_app A1 A2, ← List.map_append, ← List.map_append, isb_sum, isb_sum, List.append_assoc]
      generalize tsum A1 + 4 + (tsum X + 3) + tsum A2 = p at h8 hk call ⊢
      refine Rn.of (Nat.le_of_ble_eq_true rfl) ?_
      refine Rk.tr (F1 := (25, 1, _, _)) (x_aload_n rfl rfl rfl) ?_
      refine Rk.tr (F1 := (25, 4, _, _)) (m_get rfl rfl (Nat.le_of_ble_eq_true rfl)) ?_
      refine Rk.tr (F1 := (25, 5, _, _)) (x_iload_n rfl rfl) ?_
      refine Rk.tr (F1 := (25, 6, _, _)) (x_iconst rfl) ?_
      refine Rk.tr (F1 := (25, 7, _, _)) (x_iadd rfl) ?_
      refine Rk.tr (F1 := (25, 8, _, _)) (m_iald (k := 5) (n := p + 2) rfl rfl rfl (nI_add p 2) (show p + 2 < 800 by omega)) ?_
      refine Rk.tr (F1 := (25, 8, _, _)) (x_top (y := 3) hk) ?_
      refine Rk.tr (F1 := (25, 52, _, _)) (x_tswIn (tg := 52) rfl (by decide) (by decide) rfl rfl) ?_
      refine Rk.tr (F1 := (25, 53, _, _)) (x_aload_n rfl rfl rfl) ?_
      refine Rk.tr (F1 := (25, 54, _, _)) (x_iload_n rfl rfl) ?_
      refine Rk.tr (F1 := (25, 57, _, _)) (m_call (As := [_]) rfl rfl rfl (Or.inr rfl) rfl rfl rfl (Nat.le_of_ble_eq_true rfl) call rfl) ?_
      exact Rk.end rfl (Or.inr (Or.inl ⟨rfl, _, .int, rfl, rfl, rfl, rfl⟩))
  · have hc : it.2.2.2.1.1 = 0 ∧ it.2.2.2.2.1 = 0 ∧ ¬ (it.2.2.1 = 3 ∧ it.2.2.2.2.2 = 0) := Classical.byContradiction fun z => by
      unfold stp at hs
      rw [if_neg (by omega), if_pos h, if_neg z] at hs
      cases hs
    have hs2 := hs
    unfold stp at hs2
    rw [if_neg (by omega), if_pos h, if_pos hc] at hs2
    cases hs2
    obtain ⟨R', call, x5⟩ := c_fold_yes (E := E) (d := d) (o := o) (g := g) (S := S) (W := W) (c := c) h hM hc
    have hk : R (tsum A + 2) = 5 := by
      obtain ⟨k, nm, dt, ⟨a1, a2⟩, b1, b2⟩ := it
      have h : k = 5 := h
      subst h
      exact t1.2.2.1
    refine ⟨R', W, ?_, by rw [← List.map_append]; exact x5⟩
    rw [isb_sum, ← List.map_append, isb_sum]
    generalize tsum A = p at h8 hk call ⊢
    refine Rn.of (Nat.le_of_ble_eq_true rfl) ?_
    refine Rk.tr (F1 := (25, 1, _, _)) (x_aload_n rfl rfl rfl) ?_
    refine Rk.tr (F1 := (25, 4, _, _)) (m_get rfl rfl (Nat.le_of_ble_eq_true rfl)) ?_
    refine Rk.tr (F1 := (25, 5, _, _)) (x_iload_n rfl rfl) ?_
    refine Rk.tr (F1 := (25, 6, _, _)) (x_iconst rfl) ?_
    refine Rk.tr (F1 := (25, 7, _, _)) (x_iadd rfl) ?_
    refine Rk.tr (F1 := (25, 8, _, _)) (m_iald (k := 5) (n := p + 2) rfl rfl rfl (nI_add p 2) (show p + 2 < 800 by omega)) ?_
    refine Rk.tr (F1 := (25, 8, _, _)) (x_top (y := 5) hk) ?_
    refine Rk.tr (F1 := (25, 40, _, _)) (x_tswIn (tg := 40) rfl (by decide) (by decide) rfl rfl) ?_
    refine Rk.tr (F1 := (25, 41, _, _)) (x_aload_n rfl rfl rfl) ?_
    refine Rk.tr (F1 := (25, 42, _, _)) (x_iload_n rfl rfl) ?_
    refine Rk.tr (F1 := (25, 45, _, _)) (m_call (As := [_]) rfl rfl rfl (Or.inr rfl) rfl rfl rfl (Nat.le_of_ble_eq_true rfl) call rfl) ?_
    exact Rk.end rfl (Or.inr (Or.inl ⟨rfl, _, .int, rfl, rfl, rfl, rfl⟩))
  · unfold stp at hs
    rw [if_pos h] at hs
    cases hs
  · have hc : it.2.2.2.1.1 = 0 := Classical.byContradiction fun z => by
      unfold stp at hs
      rw [if_neg n9, if_neg n5, if_neg n3, if_neg n2, if_neg z] at hs
      cases hs
    obtain ⟨X1, r1, X2, r2, C, rfl, y1, y2, y3, y4⟩ := Inv_if hI n2 n3 n5 n9
    rw [stp_if n2 n3 n5 n9 y3 y4 hc] at hs
    cases hs
    obtain ⟨R', W', call, x5⟩ := c_choose_yes (E := E) (d := d) (o := o) (g := g) (S := S) (W := W) (c := c) n2 n3 n5 n9 y1 y2 hM y3 y4 hc
    have hk : R (tsum A + 2) = 6 := (Tok1_if n2 n3 n5 n9 t1).1.2.2.1
    refine ⟨R', W', ?_, by rw [← List.map_append]; exact x5⟩
    rw [isb_sum, ← List.map_append, isb_sum]
    generalize tsum A = p at h8 hk call ⊢
    refine Rn.of (Nat.le_of_ble_eq_true rfl) ?_
    refine Rk.tr (F1 := (25, 1, _, _)) (x_aload_n rfl rfl rfl) ?_
    refine Rk.tr (F1 := (25, 4, _, _)) (m_get rfl rfl (Nat.le_of_ble_eq_true rfl)) ?_
    refine Rk.tr (F1 := (25, 5, _, _)) (x_iload_n rfl rfl) ?_
    refine Rk.tr (F1 := (25, 6, _, _)) (x_iconst rfl) ?_
    refine Rk.tr (F1 := (25, 7, _, _)) (x_iadd rfl) ?_
    refine Rk.tr (F1 := (25, 8, _, _)) (m_iald (k := 5) (n := p + 2) rfl rfl rfl (nI_add p 2) (show p + 2 < 800 by omega)) ?_
    refine Rk.tr (F1 := (25, 8, _, _)) (x_top (y := 6) hk) ?_
    refine Rk.tr (F1 := (25, 46, _, _)) (x_tswIn (tg := 46) rfl (by decide) (by decide) rfl rfl) ?_
    refine Rk.tr (F1 := (25, 47, _, _)) (x_aload_n rfl rfl rfl) ?_
    refine Rk.tr (F1 := (25, 48, _, _)) (x_iload_n rfl rfl) ?_
    refine Rk.tr (F1 := (25, 51, _, _)) (m_call (As := [_]) rfl rfl rfl (Or.inr rfl) rfl rfl rfl (Nat.le_of_ble_eq_true rfl) call rfl) ?_
    exact Rk.end rfl (Or.inr (Or.inl ⟨rfl, _, .int, rfl, rfl, rfl, rfl⟩))
end M11
