/-! ===== fold, drop ===== -/
/-- the reference while it simplifies: its array, the piece, the counts, the length; all else as in S -/
def mst (S : MSt) (R W c : Nat → Int32) (n : Int32) : MSt := (fun k => if k = 4 then n else S.1 k, fun k => if k = 5 then R else if k = 6 then W else if k = 7 then c else S.2 k)
theorem mst_self (S : MSt) : mst S (S.2 5) (S.2 6) (S.2 7) (S.1 4) = S := by
  refine Prod.ext (funext fun k => ?_) (funext fun k => ?_)
  · show (if k = 4 then S.1 4 else S.1 k) = S.1 k
    split
    next h => rw [h]
    next => rfl
  · show (if k = 5 then S.2 5 else if k = 6 then S.2 6 else if k = 7 then S.2 7 else S.2 k) = S.2 k
    split
    next h => rw [h]
    next =>
      split
      next h => rw [h]
      next =>
        split
        next h => rw [h]
        next => rfl
theorem mst_R (S : MSt) (R W c R' : Nat → Int32) (n : Int32) : msR (mst S R W c n) R' = mst S R' W c n := by
  refine Prod.ext rfl (funext fun k => funext fun q => ?_)
  show (if k = 5 then R' q else (if k = 5 then R else if k = 6 then W else if k = 7 then c else S.2 k) q) = (if k = 5 then R' else if k = 6 then W else if k = 7 then c else S.2 k) q
  split
  · rfl
  · rfl
theorem mst_4 (S : MSt) (R W c : Nat → Int32) (n x : Int32) : msI (mst S R W c n) 4 x = mst S R W c x := by
  refine Prod.ext (funext fun k => ?_) rfl
  show (if k = 4 then x else if k = 4 then n else S.1 k) = (if k = 4 then x else S.1 k)
  split <;> rfl
theorem mst_A7 (S : MSt) (R W c : Nat → Int32) (n x : Int32) (i : Nat) : msA (mst S R W c n) 7 i x = mst S R W (rup c i x) n := by
  refine Prod.ext rfl (funext fun k => funext fun q => ?_)
  show (if k = 7 ∧ q = i then x else (if k = 5 then R else if k = 6 then W else if k = 7 then c else S.2 k) q) = (if k = 5 then R else if k = 6 then W else if k = 7 then rup c i x else S.2 k) q
  by_cases h : k = 7
  · subst h
    by_cases hq : q = i
    · rw [if_pos ⟨rfl, hq⟩]
      simp [rup, hq]
    · rw [if_neg (fun z => hq z.2)]
      simp [rup, hq]
  · rw [if_neg (fun z => h z.1)]
    simp [h]
theorem mst_A6 (S : MSt) (R W c : Nat → Int32) (n x : Int32) (i : Nat) : msA (mst S R W c n) 6 i x = mst S R (rup W i x) c n := by
  refine Prod.ext rfl (funext fun k => funext fun q => ?_)
  show (if k = 6 ∧ q = i then x else (if k = 5 then R else if k = 6 then W else if k = 7 then c else S.2 k) q) = (if k = 5 then R else if k = 6 then rup W i x else if k = 7 then c else S.2 k) q
  by_cases h : k = 6
  · subst h
    by_cases hq : q = i
    · rw [if_pos ⟨rfl, hq⟩]
      simp [rup, hq]
    · rw [if_neg (fun z => hq z.2)]
      simp [rup, hq]
  · rw [if_neg (fun z => h z.1)]
    simp [h]
/-- the array holds the program P -/
def PM (R : Nat → Int32) (n : Int32) (P : List It) : Prop := TokAt R 0 P ∧ n = nI (tsum P) ∧ tsum P ≤ 400
theorem TokAt_cut {R : Nat → Int32} {A X B : List It} (hT : TokAt R 0 (A ++ (X ++ B))) : TokAt (rcut R (tsum A) (tsum A + tsum X) (tsum (A ++ (X ++ B)))) 0 (A ++ B) := by
  rw [TokAt_app, TokAt_app] at hT
  obtain ⟨t1, t2, t3⟩ := hT
  rw [TokAt_app]
  refine ⟨TokAt_shift t1 (fun j hj => ?_), TokAt_shift t3 (fun j hj => ?_)⟩
  · unfold rcut
    rw [if_neg (by omega)]
  · unfold rcut
    rw [tsum_app, tsum_app, if_pos (by omega)]
    congr 1
    omega
theorem TokAt_ins {R W : Nat → Int32} {A X B : List It} (hT : TokAt R 0 (A ++ B)) (hW : TokAt W 0 X) : TokAt (rins R W (tsum A) (tsum X) (tsum (A ++ B))) 0 (A ++ (X ++ B)) := by
  rw [TokAt_app] at hT
  obtain ⟨t1, t2⟩ := hT
  rw [TokAt_app, TokAt_app]
  refine ⟨TokAt_shift t1 (fun j hj => ?_), TokAt_shift hW (fun j hj => ?_), TokAt_shift t2 (fun j hj => ?_)⟩
  · unfold rins
    rw [if_neg (by omega), if_neg (by omega)]
  · unfold rins
    rw [if_pos (by omega)]
    congr 1
    omega
  · unfold rins
    rw [tsum_app, if_neg (by omega), if_pos (by omega)]
    congr 1
    omega
/-- what an operation answers -/
def opv (o a b : Int32) : Int32 := if o = 0 then a + b else if o = 1 then a - b else if o = 2 then a * b else if o = 3 then a / b else if a < b then 1 else 0
theorem op_out {x : Int32} (h0 : ¬ x = 0) (h1 : ¬ x = 1) (h2 : ¬ x = 2) (h3 : ¬ x = 3) : x.toInt < 0 ∨ 3 < x.toInt := by
  by_cases z : x.toInt < 0
  · exact Or.inl z
  · by_cases z2 : 3 < x.toInt
    · exact Or.inr z2
    · have key : ∀ k : Int32, x.toInt = k.toInt → x = k := fun k h => Int32.toInt_inj.mp h
      exfalso
      have e : x.toInt = 0 ∨ x.toInt = 1 ∨ x.toInt = 2 ∨ x.toInt = 3 := by omega
      rcases e with e | e | e | e
      · exact h0 (key 0 e)
      · exact h1 (key 1 e)
      · exact h2 (key 2 e)
      · exact h3 (key 3 e)
section M7
variable {E : PE} {d o : Nat} {g : PH} {S : MSt} {R W c : Nat → Int32} {n : Int32}
theorem c_sum {h : PH} {x a b : Int32} (hb : x = 3 → ¬ b = 0) : Rn E d 27 [.int x, .int a, .int b] h (some (.int (opv x a b))) h := by
  refine Rn.of (Nat.le_of_ble_eq_true rfl) ?_
  unfold opv
  refine Rk.tr (F1 := (27, 1, _, _)) (x_iload_n rfl rfl) ?_
  by_cases k0 : x = 0
  · rw [if_pos k0]
    subst k0
    refine Rk.tr (F1 := (27, 32, _, _)) (x_tswIn rfl (by decide) (by decide) rfl rfl) ?_
    refine Rk.tr (F1 := (27, 33, _, _)) (x_iload_n rfl rfl) ?_
    refine Rk.tr (F1 := (27, 34, _, _)) (x_iload_n rfl rfl) ?_
    refine Rk.tr (F1 := (27, 35, _, _)) (x_iadd rfl) ?_
    exact Rk.end rfl (Or.inr (Or.inl ⟨rfl, _, .int, rfl, rfl, rfl, rfl⟩))
  rw [if_neg k0]
  by_cases k1 : x = 1
  · rw [if_pos k1]
    subst k1
    refine Rk.tr (F1 := (27, 36, _, _)) (x_tswIn rfl (by decide) (by decide) rfl rfl) ?_
    refine Rk.tr (F1 := (27, 37, _, _)) (x_iload_n rfl rfl) ?_
    refine Rk.tr (F1 := (27, 38, _, _)) (x_iload_n rfl rfl) ?_
    refine Rk.tr (F1 := (27, 39, _, _)) (x_isub rfl) ?_
    exact Rk.end rfl (Or.inr (Or.inl ⟨rfl, _, .int, rfl, rfl, rfl, rfl⟩))
  rw [if_neg k1]
  by_cases k2 : x = 2
  · rw [if_pos k2]
    subst k2
    refine Rk.tr (F1 := (27, 40, _, _)) (x_tswIn rfl (by decide) (by decide) rfl rfl) ?_
    refine Rk.tr (F1 := (27, 41, _, _)) (x_iload_n rfl rfl) ?_
    refine Rk.tr (F1 := (27, 42, _, _)) (x_iload_n rfl rfl) ?_
    refine Rk.tr (F1 := (27, 43, _, _)) (x_imul rfl) ?_
    exact Rk.end rfl (Or.inr (Or.inl ⟨rfl, _, .int, rfl, rfl, rfl, rfl⟩))
  rw [if_neg k2]
  by_cases k3 : x = 3
  · rw [if_pos k3]
    subst k3
    refine Rk.tr (F1 := (27, 44, _, _)) (x_tswIn rfl (by decide) (by decide) rfl rfl) ?_
    refine Rk.tr (F1 := (27, 45, _, _)) (x_iload_n rfl rfl) ?_
    refine Rk.tr (F1 := (27, 46, _, _)) (x_iload_n rfl rfl) ?_
    refine Rk.tr (F1 := (27, 47, _, _)) (x_idiv rfl (hb rfl)) ?_
    exact Rk.end rfl (Or.inr (Or.inl ⟨rfl, _, .int, rfl, rfl, rfl, rfl⟩))
  rw [if_neg k3]
  refine Rk.tr (F1 := (27, 48, _, _)) (x_tswOut rfl (op_out k0 k1 k2 k3) rfl) ?_
  by_cases hc : a < b
  · rw [if_pos hc]
    refine Rk.tr (F1 := (27, 49, _, _)) (x_iload_n rfl rfl) ?_
    refine Rk.tr (F1 := (27, 50, _, _)) (x_iload_n rfl rfl) ?_
    refine Rk.tr (F1 := (27, 53, _, _)) (x_icF rfl (tg := 57) rfl (fun z => absurd hc (Int32.not_lt.mpr z))) ?_
    refine Rk.tr (F1 := (27, 54, _, _)) (x_iconst rfl) ?_
    refine Rk.tr (F1 := (27, 58, _, _)) (x_goto rfl rfl) ?_
    exact Rk.end rfl (Or.inr (Or.inl ⟨rfl, _, .int, rfl, rfl, rfl, rfl⟩))
  · rw [if_neg hc]
    refine Rk.tr (F1 := (27, 49, _, _)) (x_iload_n rfl rfl) ?_
    refine Rk.tr (F1 := (27, 50, _, _)) (x_iload_n rfl rfl) ?_
    refine Rk.tr (F1 := (27, 57, _, _)) (x_icT rfl (tg := 57) rfl (Int32.not_lt.mp hc)) ?_
    refine Rk.tr (F1 := (27, 58, _, _)) (x_iconst rfl) ?_
    exact Rk.end rfl (Or.inr (Or.inl ⟨rfl, _, .int, rfl, rfl, rfl, rfl⟩))
theorem PM.it {P A B : List It} {it : It} (hM : PM R n (A ++ it :: B)) : Tok1 R (tsum A) it ∧ tsum A + isz it + tsum B ≤ 400 ∧ n = nI (tsum A + isz it + tsum B) := by
  obtain ⟨h1, h2, h3⟩ := hM
  rw [TokAt_app] at h1
  rw [tsum_app] at h2 h3
  simp only [tsum] at h2 h3
  refine ⟨by have := h1.2.1; rw [Nat.zero_add] at this; exact this, by omega, by rw [h2]; congr 1; omega⟩
theorem c_fold_no {A B : List It} {it : It} (h5 : it.1 = 5) (hM : PM R n (A ++ it :: B)) (hc : ¬ (it.2.2.2.1.1 = 0 ∧ it.2.2.2.2.1 = 0 ∧ ¬ (it.2.2.1 = 3 ∧ it.2.2.2.2.2 = 0))) :
    Rn E d 26 [.ref o, .int (nI (tsum A))] (mh g o (mst S R W c n)) (some (.int (-1))) (mh g o (mst S R W c n)) := by
  obtain ⟨t1, h8, -⟩ := PM.it (P := []) hM
  obtain ⟨k, nm, dt, ⟨a1, a2⟩, b1, b2⟩ := it
  have h5 : k = 5 := h5
  subst h5
  have h8 : tsum A + 8 + tsum B ≤ 400 := h8
  generalize tsum A = p at t1 h8 ⊢
  obtain ⟨h0, rfl, h2, rfl, rfl, rfl, rfl, rfl⟩ := t1
  simp only at hc
  refine Rn.of (Nat.le_of_ble_eq_true rfl) ?_
  by_cases c1 : R (p + 4) = 0
  · by_cases c2 : R (p + 6) = 0
    · have c3 : R (p + 3) = 3 := Classical.byContradiction fun z => hc ⟨c1, c2, fun y => z y.1⟩
      have c4 : R (p + 7) = 0 := Classical.byContradiction fun z => hc ⟨c1, c2, fun y => z y.2⟩
      refine Rk.tr (F1 := (26, 1, _, _)) (x_aload_n rfl rfl rfl) ?_
      refine Rk.tr (F1 := (26, 4, _, _)) (m_get rfl rfl (Nat.le_of_ble_eq_true rfl)) ?_
      refine Rk.tr (F1 := (26, 5, _, _)) (x_iload_n rfl rfl) ?_
      refine Rk.tr (F1 := (26, 6, _, _)) (x_iconst rfl) ?_
      refine Rk.tr (F1 := (26, 7, _, _)) (x_iadd rfl) ?_
      refine Rk.tr (F1 := (26, 8, _, _)) (m_iald (k := 5) (n := p + 3) rfl rfl rfl (nI_add p 3) (show p + 3 < 800 by omega)) ?_
      refine Rk.tr (F1 := (26, 9, [_, _, _, _, _], _)) (x_istore_n (i := 2) rfl (Nat.le_of_ble_eq_true rfl)) ?_
      refine Rk.tr (F1 := (26, 10, _, _)) (x_aload_n rfl rfl rfl) ?_
      refine Rk.tr (F1 := (26, 13, _, _)) (m_get rfl rfl (Nat.le_of_ble_eq_true rfl)) ?_
      refine Rk.tr (F1 := (26, 14, _, _)) (x_iload_n rfl rfl) ?_
      refine Rk.tr (F1 := (26, 15, _, _)) (x_iconst rfl) ?_
      refine Rk.tr (F1 := (26, 16, _, _)) (x_iadd rfl) ?_
      refine Rk.tr (F1 := (26, 17, _, _)) (m_iald (k := 5) (n := p + 4) rfl rfl rfl (nI_add p 4) (show p + 4 < 800 by omega)) ?_
      refine Rk.tr (F1 := (26, 20, _, _)) (x_ifF rfl (tg := 49) rfl (fun z => z c1)) ?_
      refine Rk.tr (F1 := (26, 21, _, _)) (x_aload_n rfl rfl rfl) ?_
      refine Rk.tr (F1 := (26, 24, _, _)) (m_get rfl rfl (Nat.le_of_ble_eq_true rfl)) ?_
      refine Rk.tr (F1 := (26, 25, _, _)) (x_iload_n rfl rfl) ?_
      refine Rk.tr (F1 := (26, 27, _, _)) (x_bipush rfl) ?_
      refine Rk.tr (F1 := (26, 28, _, _)) (x_iadd rfl) ?_
      refine Rk.tr (F1 := (26, 29, _, _)) (m_iald (k := 5) (n := p + 6) rfl rfl rfl (nI_add p 6) (show p + 6 < 800 by omega)) ?_
      refine Rk.tr (F1 := (26, 32, _, _)) (x_ifF rfl (tg := 49) rfl (fun z => z c2)) ?_
      refine Rk.tr (F1 := (26, 33, _, _)) (x_iload_n rfl rfl) ?_
      refine Rk.tr (F1 := (26, 34, _, _)) (x_iconst rfl) ?_
      refine Rk.tr (F1 := (26, 37, _, _)) (x_icF rfl (tg := 51) rfl (fun z => z c3)) ?_
      refine Rk.tr (F1 := (26, 38, _, _)) (x_aload_n rfl rfl rfl) ?_
      refine Rk.tr (F1 := (26, 41, _, _)) (m_get rfl rfl (Nat.le_of_ble_eq_true rfl)) ?_
      refine Rk.tr (F1 := (26, 42, _, _)) (x_iload_n rfl rfl) ?_
      refine Rk.tr (F1 := (26, 44, _, _)) (x_bipush rfl) ?_
      refine Rk.tr (F1 := (26, 45, _, _)) (x_iadd rfl) ?_
      refine Rk.tr (F1 := (26, 46, _, _)) (m_iald (k := 5) (n := p + 7) rfl rfl rfl (nI_add p 7) (show p + 7 < 800 by omega)) ?_
      refine Rk.tr (F1 := (26, 49, _, _)) (x_ifF rfl (tg := 51) rfl (fun z => z c4)) ?_
      refine Rk.tr (F1 := (26, 50, _, _)) (x_iconst rfl) ?_
      exact Rk.end rfl (Or.inr (Or.inl ⟨rfl, _, .int, rfl, rfl, rfl, rfl⟩))
    · skip
      refine Rk.tr (F1 := (26, 1, _, _)) (x_aload_n rfl rfl rfl) ?_
      refine Rk.tr (F1 := (26, 4, _, _)) (m_get rfl rfl (Nat.le_of_ble_eq_true rfl)) ?_
      refine Rk.tr (F1 := (26, 5, _, _)) (x_iload_n rfl rfl) ?_
      refine Rk.tr (F1 := (26, 6, _, _)) (x_iconst rfl) ?_
      refine Rk.tr (F1 := (26, 7, _, _)) (x_iadd rfl) ?_
      refine Rk.tr (F1 := (26, 8, _, _)) (m_iald (k := 5) (n := p + 3) rfl rfl rfl (nI_add p 3) (show p + 3 < 800 by omega)) ?_
      refine Rk.tr (F1 := (26, 9, [_, _, _, _, _], _)) (x_istore_n (i := 2) rfl (Nat.le_of_ble_eq_true rfl)) ?_
      refine Rk.tr (F1 := (26, 10, _, _)) (x_aload_n rfl rfl rfl) ?_
      refine Rk.tr (F1 := (26, 13, _, _)) (m_get rfl rfl (Nat.le_of_ble_eq_true rfl)) ?_
      refine Rk.tr (F1 := (26, 14, _, _)) (x_iload_n rfl rfl) ?_
      refine Rk.tr (F1 := (26, 15, _, _)) (x_iconst rfl) ?_
      refine Rk.tr (F1 := (26, 16, _, _)) (x_iadd rfl) ?_
      refine Rk.tr (F1 := (26, 17, _, _)) (m_iald (k := 5) (n := p + 4) rfl rfl rfl (nI_add p 4) (show p + 4 < 800 by omega)) ?_
      refine Rk.tr (F1 := (26, 20, _, _)) (x_ifF rfl (tg := 49) rfl (fun z => z c1)) ?_
      refine Rk.tr (F1 := (26, 21, _, _)) (x_aload_n rfl rfl rfl) ?_
      refine Rk.tr (F1 := (26, 24, _, _)) (m_get rfl rfl (Nat.le_of_ble_eq_true rfl)) ?_
      refine Rk.tr (F1 := (26, 25, _, _)) (x_iload_n rfl rfl) ?_
      refine Rk.tr (F1 := (26, 27, _, _)) (x_bipush rfl) ?_
      refine Rk.tr (F1 := (26, 28, _, _)) (x_iadd rfl) ?_
      refine Rk.tr (F1 := (26, 29, _, _)) (m_iald (k := 5) (n := p + 6) rfl rfl rfl (nI_add p 6) (show p + 6 < 800 by omega)) ?_
      refine Rk.tr (F1 := (26, 49, _, _)) (x_ifT rfl (tg := 49) rfl c2) ?_
      refine Rk.tr (F1 := (26, 50, _, _)) (x_iconst rfl) ?_
      exact Rk.end rfl (Or.inr (Or.inl ⟨rfl, _, .int, rfl, rfl, rfl, rfl⟩))
  · skip
    refine Rk.tr (F1 := (26, 1, _, _)) (x_aload_n rfl rfl rfl) ?_
    refine Rk.tr (F1 := (26, 4, _, _)) (m_get rfl rfl (Nat.le_of_ble_eq_true rfl)) ?_
    refine Rk.tr (F1 := (26, 5, _, _)) (x_iload_n rfl rfl) ?_
    refine Rk.tr (F1 := (26, 6, _, _)) (x_iconst rfl) ?_
    refine Rk.tr (F1 := (26, 7, _, _)) (x_iadd rfl) ?_
    refine Rk.tr (F1 := (26, 8, _, _)) (m_iald (k := 5) (n := p + 3) rfl rfl rfl (nI_add p 3) (show p + 3 < 800 by omega)) ?_
    refine Rk.tr (F1 := (26, 9, [_, _, _, _, _], _)) (x_istore_n (i := 2) rfl (Nat.le_of_ble_eq_true rfl)) ?_
    refine Rk.tr (F1 := (26, 10, _, _)) (x_aload_n rfl rfl rfl) ?_
    refine Rk.tr (F1 := (26, 13, _, _)) (m_get rfl rfl (Nat.le_of_ble_eq_true rfl)) ?_
    refine Rk.tr (F1 := (26, 14, _, _)) (x_iload_n rfl rfl) ?_
    refine Rk.tr (F1 := (26, 15, _, _)) (x_iconst rfl) ?_
    refine Rk.tr (F1 := (26, 16, _, _)) (x_iadd rfl) ?_
    refine Rk.tr (F1 := (26, 17, _, _)) (m_iald (k := 5) (n := p + 4) rfl rfl rfl (nI_add p 4) (show p + 4 < 800 by omega)) ?_
    refine Rk.tr (F1 := (26, 49, _, _)) (x_ifT rfl (tg := 49) rfl c1) ?_
    refine Rk.tr (F1 := (26, 50, _, _)) (x_iconst rfl) ?_
    exact Rk.end rfl (Or.inr (Or.inl ⟨rfl, _, .int, rfl, rfl, rfl, rfl⟩))
theorem c_fold_yes {A B : List It} {it : It} (h5 : it.1 = 5) (hM : PM R n (A ++ it :: B)) (hc : it.2.2.2.1.1 = 0 ∧ it.2.2.2.2.1 = 0 ∧ ¬ (it.2.2.1 = 3 ∧ it.2.2.2.2.2 = 0)) :
    ∃ R' : Nat → Int32, Rn E (d + 2) 26 [.ref o, .int (nI (tsum A))] (mh g o (mst S R W c n)) (some (.int (nI (tsum A)))) (mh g o (mst S R' W (rup c 0 (c 0 + 1)) (nI (tsum (A ++ B))))) ∧ TokAt R' 0 ((A ++ B).map (isb it.2.1 (0, opv it.2.2.1 it.2.2.2.1.2 it.2.2.2.2.2))) := by
  obtain ⟨t1, h8, hn⟩ := PM.it (P := []) hM
  have hcut := TokAt_cut (A := A) (X := [it]) (B := B) hM.1
  obtain ⟨k, nm, dt, ⟨a1, a2⟩, b1, b2⟩ := it
  have h5 : k = 5 := h5
  subst h5
  have h8 : tsum A + 8 + tsum B ≤ 400 := h8
  have hn : n = nI (tsum A + 8 + tsum B) := hn
  have hz : tsum (A ++ ([(5, nm, dt, (a1, a2), b1, b2)] ++ B)) = tsum A + 8 + tsum B := by rw [tsum_app, tsum_app]; simp only [tsum, isz]; omega
  have hz2 : tsum [((5, nm, dt, (a1, a2), b1, b2) : It)] = 8 := rfl
  rw [hz, hz2] at hcut
  have hAB : tsum (A ++ B) = tsum A + 8 + tsum B - (tsum A + 8 - tsum A) := by rw [tsum_app]; omega
  obtain ⟨R', r1, r2⟩ := c_standsFor (E := E) (d := d) (o := o) (g := g) (S := mst S (rcut R (tsum A) (tsum A + 8) (tsum A + 8 + tsum B)) W c (nI (tsum (A ++ B)))) (nm := nm) (bk := 0) (bv := opv dt a2 b2) (P := A ++ B) rfl (by omega) hcut rfl
  rw [mst_R] at r1
  refine ⟨R', ?_, r2⟩
  have hct := c_cut (E := E) (d := d + 1) (o := o) (g := g) (S := mst S R W c n) (f := tsum A) (u := tsum A + 8) (len := tsum A + 8 + tsum B) hn (by omega) (by omega) (by omega)
  rw [mst_R, mst_4, ← hAB] at hct
  simp only at hc
  generalize tsum A = p at t1 h8 hn hcut hct r1 r2 ⊢
  obtain ⟨h0, rfl, h2, rfl, rfl, rfl, rfl, rfl⟩ := t1
  obtain ⟨c1, c2, c3⟩ := hc
  rw [← mst_A7]
  refine Rn.of (Nat.le_of_ble_eq_true rfl) ?_
  by_cases c4 : R (p + 3) = 3
  · have c5 : ¬ R (p + 7) = 0 := fun z => c3 ⟨c4, z⟩
    refine Rk.tr (F1 := (26, 1, _, _)) (x_aload_n rfl rfl rfl) ?_
    refine Rk.tr (F1 := (26, 4, _, _)) (m_get rfl rfl (Nat.le_of_ble_eq_true rfl)) ?_
    refine Rk.tr (F1 := (26, 5, _, _)) (x_iload_n rfl rfl) ?_
    refine Rk.tr (F1 := (26, 6, _, _)) (x_iconst rfl) ?_
    refine Rk.tr (F1 := (26, 7, _, _)) (x_iadd rfl) ?_
    refine Rk.tr (F1 := (26, 8, _, _)) (m_iald (k := 5) (n := p + 3) rfl rfl rfl (nI_add p 3) (show p + 3 < 800 by omega)) ?_
    refine Rk.tr (F1 := (26, 9, [_, _, _, _, _], _)) (x_istore_n (i := 2) rfl (Nat.le_of_ble_eq_true rfl)) ?_
    refine Rk.tr (F1 := (26, 10, _, _)) (x_aload_n rfl rfl rfl) ?_
    refine Rk.tr (F1 := (26, 13, _, _)) (m_get rfl rfl (Nat.le_of_ble_eq_true rfl)) ?_
    refine Rk.tr (F1 := (26, 14, _, _)) (x_iload_n rfl rfl) ?_
    refine Rk.tr (F1 := (26, 15, _, _)) (x_iconst rfl) ?_
    refine Rk.tr (F1 := (26, 16, _, _)) (x_iadd rfl) ?_
    refine Rk.tr (F1 := (26, 17, _, _)) (m_iald (k := 5) (n := p + 4) rfl rfl rfl (nI_add p 4) (show p + 4 < 800 by omega)) ?_
    refine Rk.tr (F1 := (26, 20, _, _)) (x_ifF rfl (tg := 49) rfl (fun z => z c1)) ?_
    refine Rk.tr (F1 := (26, 21, _, _)) (x_aload_n rfl rfl rfl) ?_
    refine Rk.tr (F1 := (26, 24, _, _)) (m_get rfl rfl (Nat.le_of_ble_eq_true rfl)) ?_
    refine Rk.tr (F1 := (26, 25, _, _)) (x_iload_n rfl rfl) ?_
    refine Rk.tr (F1 := (26, 27, _, _)) (x_bipush rfl) ?_
    refine Rk.tr (F1 := (26, 28, _, _)) (x_iadd rfl) ?_
    refine Rk.tr (F1 := (26, 29, _, _)) (m_iald (k := 5) (n := p + 6) rfl rfl rfl (nI_add p 6) (show p + 6 < 800 by omega)) ?_
    refine Rk.tr (F1 := (26, 32, _, _)) (x_ifF rfl (tg := 49) rfl (fun z => z c2)) ?_
    refine Rk.tr (F1 := (26, 33, _, _)) (x_iload_n rfl rfl) ?_
    refine Rk.tr (F1 := (26, 34, _, _)) (x_iconst rfl) ?_
    refine Rk.tr (F1 := (26, 37, _, _)) (x_icF rfl (tg := 51) rfl (fun z => z c4)) ?_
    refine Rk.tr (F1 := (26, 38, _, _)) (x_aload_n rfl rfl rfl) ?_
    refine Rk.tr (F1 := (26, 41, _, _)) (m_get rfl rfl (Nat.le_of_ble_eq_true rfl)) ?_
    refine Rk.tr (F1 := (26, 42, _, _)) (x_iload_n rfl rfl) ?_
    refine Rk.tr (F1 := (26, 44, _, _)) (x_bipush rfl) ?_
    refine Rk.tr (F1 := (26, 45, _, _)) (x_iadd rfl) ?_
    refine Rk.tr (F1 := (26, 46, _, _)) (m_iald (k := 5) (n := p + 7) rfl rfl rfl (nI_add p 7) (show p + 7 < 800 by omega)) ?_
    refine Rk.tr (F1 := (26, 51, _, _)) (x_ifT rfl (tg := 51) rfl c5) ?_
    refine Rk.tr (F1 := (26, 52, _, _)) (x_aload_n rfl rfl rfl) ?_
    refine Rk.tr (F1 := (26, 55, _, _)) (m_get rfl rfl (Nat.le_of_ble_eq_true rfl)) ?_
    refine Rk.tr (F1 := (26, 56, _, _)) (x_iload_n rfl rfl) ?_
    refine Rk.tr (F1 := (26, 57, _, _)) (x_iconst rfl) ?_
    refine Rk.tr (F1 := (26, 58, _, _)) (x_iadd rfl) ?_
    refine Rk.tr (F1 := (26, 59, _, _)) (m_iald (k := 5) (n := p + 1) rfl rfl rfl (nI_1 p) (show p + 1 < 800 by omega)) ?_
    refine Rk.tr (F1 := (26, 60, [_, _, _, _, _], _)) (x_istore_n (i := 3) rfl (Nat.le_of_ble_eq_true rfl)) ?_
    refine Rk.tr (F1 := (26, 61, _, _)) (x_iload_n rfl rfl) ?_
    refine Rk.tr (F1 := (26, 62, _, _)) (x_aload_n rfl rfl rfl) ?_
    refine Rk.tr (F1 := (26, 65, _, _)) (m_get rfl rfl (Nat.le_of_ble_eq_true rfl)) ?_
    refine Rk.tr (F1 := (26, 66, _, _)) (x_iload_n rfl rfl) ?_
    refine Rk.tr (F1 := (26, 67, _, _)) (x_iconst rfl) ?_
    refine Rk.tr (F1 := (26, 68, _, _)) (x_iadd rfl) ?_
    refine Rk.tr (F1 := (26, 69, _, _)) (m_iald (k := 5) (n := p + 5) rfl rfl rfl (nI_add p 5) (show p + 5 < 800 by omega)) ?_
    refine Rk.tr (F1 := (26, 70, _, _)) (x_aload_n rfl rfl rfl) ?_
    refine Rk.tr (F1 := (26, 73, _, _)) (m_get rfl rfl (Nat.le_of_ble_eq_true rfl)) ?_
    refine Rk.tr (F1 := (26, 74, _, _)) (x_iload_n rfl rfl) ?_
    refine Rk.tr (F1 := (26, 76, _, _)) (x_bipush rfl) ?_
    refine Rk.tr (F1 := (26, 77, _, _)) (x_iadd rfl) ?_
    refine Rk.tr (F1 := (26, 78, _, _)) (m_iald (k := 5) (n := p + 7) rfl rfl rfl (nI_add p 7) (show p + 7 < 800 by omega)) ?_
    refine Rk.tr (F1 := (26, 81, _, _)) (x_calls (As := [_, _, _]) rfl rfl rfl rfl rfl rfl (Nat.le_of_ble_eq_true rfl) (c_sum (fun z => fun y => c3 ⟨z, y⟩)) rfl) ?_
    refine Rk.tr (F1 := (26, 83, [_, _, _, _, _], _)) (x_istore (i := 4) rfl (Nat.le_of_ble_eq_true rfl)) ?_
    refine Rk.tr (F1 := (26, 84, _, _)) (x_aload_n rfl rfl rfl) ?_
    refine Rk.tr (F1 := (26, 85, _, _)) (x_iload_n rfl rfl) ?_
    refine Rk.tr (F1 := (26, 86, _, _)) (x_iload_n rfl rfl) ?_
    refine Rk.tr (F1 := (26, 88, _, _)) (x_bipush rfl) ?_
    refine Rk.tr (F1 := (26, 89, _, _)) (x_iadd rfl) ?_
    refine Rk.tr (F1 := (26, 89, _, _)) (x_top (nI_add p 8)) ?_
    refine Rk.tr (F1 := (26, 92, _, _)) (m_call (As := [_, _]) rfl rfl rfl (Or.inr rfl) rfl rfl rfl (Nat.le_of_ble_eq_true rfl) hct rfl) ?_
    refine Rk.tr (F1 := (26, 93, _, _)) (x_aload_n rfl rfl rfl) ?_
    refine Rk.tr (F1 := (26, 94, _, _)) (x_iload_n rfl rfl) ?_
    refine Rk.tr (F1 := (26, 95, _, _)) (x_iconst rfl) ?_
    refine Rk.tr (F1 := (26, 97, _, _)) (x_iload rfl rfl) ?_
    refine Rk.tr (F1 := (26, 100, _, _)) (m_call (As := [_, _, _]) rfl rfl rfl (Or.inr rfl) rfl rfl rfl (Nat.le_of_ble_eq_true rfl) r1 rfl) ?_
    refine Rk.tr (F1 := (26, 101, _, _)) (x_aload_n rfl rfl rfl) ?_
    refine Rk.tr (F1 := (26, 104, _, _)) (m_get rfl rfl (Nat.le_of_ble_eq_true rfl)) ?_
    refine Rk.tr (F1 := (26, 105, _, _)) (x_iconst rfl) ?_
    refine Rk.tr (F1 := (26, 106, _, _)) (x_dup2 rfl rfl rfl) ?_
    refine Rk.tr (F1 := (26, 107, _, _)) (m_iald (k := 7) (n := 0) rfl rfl rfl rfl (Nat.le_of_ble_eq_true rfl)) ?_
    refine Rk.tr (F1 := (26, 108, _, _)) (x_iconst rfl) ?_
    refine Rk.tr (F1 := (26, 109, _, _)) (x_iadd rfl) ?_
    refine Rk.tr (F1 := (26, 110, _, _)) (m_iast (k := 7) (n := 0) rfl rfl rfl (Nat.le_of_ble_eq_true rfl) rfl (Nat.le_of_ble_eq_true rfl)) ?_
    refine Rk.tr (F1 := (26, 111, _, _)) (x_iload_n rfl rfl) ?_
    exact Rk.end rfl (Or.inr (Or.inl ⟨rfl, _, .int, rfl, rfl, rfl, rfl⟩))
  · skip
    refine Rk.tr (F1 := (26, 1, _, _)) (x_aload_n rfl rfl rfl) ?_
    refine Rk.tr (F1 := (26, 4, _, _)) (m_get rfl rfl (Nat.le_of_ble_eq_true rfl)) ?_
    refine Rk.tr (F1 := (26, 5, _, _)) (x_iload_n rfl rfl) ?_
    refine Rk.tr (F1 := (26, 6, _, _)) (x_iconst rfl) ?_
    refine Rk.tr (F1 := (26, 7, _, _)) (x_iadd rfl) ?_
    refine Rk.tr (F1 := (26, 8, _, _)) (m_iald (k := 5) (n := p + 3) rfl rfl rfl (nI_add p 3) (show p + 3 < 800 by omega)) ?_
    refine Rk.tr (F1 := (26, 9, [_, _, _, _, _], _)) (x_istore_n (i := 2) rfl (Nat.le_of_ble_eq_true rfl)) ?_
    refine Rk.tr (F1 := (26, 10, _, _)) (x_aload_n rfl rfl rfl) ?_
    refine Rk.tr (F1 := (26, 13, _, _)) (m_get rfl rfl (Nat.le_of_ble_eq_true rfl)) ?_
    refine Rk.tr (F1 := (26, 14, _, _)) (x_iload_n rfl rfl) ?_
    refine Rk.tr (F1 := (26, 15, _, _)) (x_iconst rfl) ?_
    refine Rk.tr (F1 := (26, 16, _, _)) (x_iadd rfl) ?_
    refine Rk.tr (F1 := (26, 17, _, _)) (m_iald (k := 5) (n := p + 4) rfl rfl rfl (nI_add p 4) (show p + 4 < 800 by omega)) ?_
    refine Rk.tr (F1 := (26, 20, _, _)) (x_ifF rfl (tg := 49) rfl (fun z => z c1)) ?_
    refine Rk.tr (F1 := (26, 21, _, _)) (x_aload_n rfl rfl rfl) ?_
    refine Rk.tr (F1 := (26, 24, _, _)) (m_get rfl rfl (Nat.le_of_ble_eq_true rfl)) ?_
    refine Rk.tr (F1 := (26, 25, _, _)) (x_iload_n rfl rfl) ?_
    refine Rk.tr (F1 := (26, 27, _, _)) (x_bipush rfl) ?_
    refine Rk.tr (F1 := (26, 28, _, _)) (x_iadd rfl) ?_
    refine Rk.tr (F1 := (26, 29, _, _)) (m_iald (k := 5) (n := p + 6) rfl rfl rfl (nI_add p 6) (show p + 6 < 800 by omega)) ?_
    refine Rk.tr (F1 := (26, 32, _, _)) (x_ifF rfl (tg := 49) rfl (fun z => z c2)) ?_
    refine Rk.tr (F1 := (26, 33, _, _)) (x_iload_n rfl rfl) ?_
    refine Rk.tr (F1 := (26, 34, _, _)) (x_iconst rfl) ?_
    refine Rk.tr (F1 := (26, 51, _, _)) (x_icT rfl (tg := 51) rfl c4) ?_
    refine Rk.tr (F1 := (26, 52, _, _)) (x_aload_n rfl rfl rfl) ?_
    refine Rk.tr (F1 := (26, 55, _, _)) (m_get rfl rfl (Nat.le_of_ble_eq_true rfl)) ?_
    refine Rk.tr (F1 := (26, 56, _, _)) (x_iload_n rfl rfl) ?_
    refine Rk.tr (F1 := (26, 57, _, _)) (x_iconst rfl) ?_
    refine Rk.tr (F1 := (26, 58, _, _)) (x_iadd rfl) ?_
    refine Rk.tr (F1 := (26, 59, _, _)) (m_iald (k := 5) (n := p + 1) rfl rfl rfl (nI_1 p) (show p + 1 < 800 by omega)) ?_
    refine Rk.tr (F1 := (26, 60, [_, _, _, _, _], _)) (x_istore_n (i := 3) rfl (Nat.le_of_ble_eq_true rfl)) ?_
    refine Rk.tr (F1 := (26, 61, _, _)) (x_iload_n rfl rfl) ?_
    refine Rk.tr (F1 := (26, 62, _, _)) (x_aload_n rfl rfl rfl) ?_
    refine Rk.tr (F1 := (26, 65, _, _)) (m_get rfl rfl (Nat.le_of_ble_eq_true rfl)) ?_
    refine Rk.tr (F1 := (26, 66, _, _)) (x_iload_n rfl rfl) ?_
    refine Rk.tr (F1 := (26, 67, _, _)) (x_iconst rfl) ?_
    refine Rk.tr (F1 := (26, 68, _, _)) (x_iadd rfl) ?_
    refine Rk.tr (F1 := (26, 69, _, _)) (m_iald (k := 5) (n := p + 5) rfl rfl rfl (nI_add p 5) (show p + 5 < 800 by omega)) ?_
    refine Rk.tr (F1 := (26, 70, _, _)) (x_aload_n rfl rfl rfl) ?_
    refine Rk.tr (F1 := (26, 73, _, _)) (m_get rfl rfl (Nat.le_of_ble_eq_true rfl)) ?_
    refine Rk.tr (F1 := (26, 74, _, _)) (x_iload_n rfl rfl) ?_
    refine Rk.tr (F1 := (26, 76, _, _)) (x_bipush rfl) ?_
    refine Rk.tr (F1 := (26, 77, _, _)) (x_iadd rfl) ?_
    refine Rk.tr (F1 := (26, 78, _, _)) (m_iald (k := 5) (n := p + 7) rfl rfl rfl (nI_add p 7) (show p + 7 < 800 by omega)) ?_
    refine Rk.tr (F1 := (26, 81, _, _)) (x_calls (As := [_, _, _]) rfl rfl rfl rfl rfl rfl (Nat.le_of_ble_eq_true rfl) (c_sum (fun z => fun y => c3 ⟨z, y⟩)) rfl) ?_
    refine Rk.tr (F1 := (26, 83, [_, _, _, _, _], _)) (x_istore (i := 4) rfl (Nat.le_of_ble_eq_true rfl)) ?_
    refine Rk.tr (F1 := (26, 84, _, _)) (x_aload_n rfl rfl rfl) ?_
    refine Rk.tr (F1 := (26, 85, _, _)) (x_iload_n rfl rfl) ?_
    refine Rk.tr (F1 := (26, 86, _, _)) (x_iload_n rfl rfl) ?_
    refine Rk.tr (F1 := (26, 88, _, _)) (x_bipush rfl) ?_
    refine Rk.tr (F1 := (26, 89, _, _)) (x_iadd rfl) ?_
    refine Rk.tr (F1 := (26, 89, _, _)) (x_top (nI_add p 8)) ?_
    refine Rk.tr (F1 := (26, 92, _, _)) (m_call (As := [_, _]) rfl rfl rfl (Or.inr rfl) rfl rfl rfl (Nat.le_of_ble_eq_true rfl) hct rfl) ?_
    refine Rk.tr (F1 := (26, 93, _, _)) (x_aload_n rfl rfl rfl) ?_
    refine Rk.tr (F1 := (26, 94, _, _)) (x_iload_n rfl rfl) ?_
    refine Rk.tr (F1 := (26, 95, _, _)) (x_iconst rfl) ?_
    refine Rk.tr (F1 := (26, 97, _, _)) (x_iload rfl rfl) ?_
    refine Rk.tr (F1 := (26, 100, _, _)) (m_call (As := [_, _, _]) rfl rfl rfl (Or.inr rfl) rfl rfl rfl (Nat.le_of_ble_eq_true rfl) r1 rfl) ?_
    refine Rk.tr (F1 := (26, 101, _, _)) (x_aload_n rfl rfl rfl) ?_
    refine Rk.tr (F1 := (26, 104, _, _)) (m_get rfl rfl (Nat.le_of_ble_eq_true rfl)) ?_
    refine Rk.tr (F1 := (26, 105, _, _)) (x_iconst rfl) ?_
    refine Rk.tr (F1 := (26, 106, _, _)) (x_dup2 rfl rfl rfl) ?_
    refine Rk.tr (F1 := (26, 107, _, _)) (m_iald (k := 7) (n := 0) rfl rfl rfl rfl (Nat.le_of_ble_eq_true rfl)) ?_
    refine Rk.tr (F1 := (26, 108, _, _)) (x_iconst rfl) ?_
    refine Rk.tr (F1 := (26, 109, _, _)) (x_iadd rfl) ?_
    refine Rk.tr (F1 := (26, 110, _, _)) (m_iast (k := 7) (n := 0) rfl rfl rfl (Nat.le_of_ble_eq_true rfl) rfl (Nat.le_of_ble_eq_true rfl)) ?_
    refine Rk.tr (F1 := (26, 111, _, _)) (x_iload_n rfl rfl) ?_
    exact Rk.end rfl (Or.inr (Or.inl ⟨rfl, _, .int, rfl, rfl, rfl, rfl⟩))
end M7
