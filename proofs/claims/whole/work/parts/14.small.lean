/-! ===== the reference's small methods ===== -/
section M1
variable {E : PE} {d o : Nat} {g : PH} {S : MSt}
theorem c_thrown : Rn E d 1 [.ref o] (mh g o S) (some (.int (S.1 0))) (mh g o S) := by
  refine Rn.of (Nat.le_of_ble_eq_true rfl) ?_
  refine Rk.tr (F1 := (1, 1, _, _)) (x_aload_n rfl rfl rfl) ?_
  refine Rk.tr (F1 := (1, 4, _, _)) (m_get rfl rfl (Nat.le_of_ble_eq_true rfl)) ?_
  exact Rk.end rfl (Or.inr (Or.inl ⟨rfl, _, .int, rfl, rfl, rfl, rfl⟩))
theorem c_newName : Rn E d 8 [.ref o] (mh g o S) (some (.int (S.1 24 + 1 - 1))) (mh g o (msI S 24 (S.1 24 + 1))) := by
  refine Rn.of (Nat.le_of_ble_eq_true rfl) ?_
  refine Rk.tr (F1 := (8, 1, _, _)) (x_aload_n rfl rfl rfl) ?_
  refine Rk.tr (F1 := (8, 2, _, _)) (x_dup rfl rfl) ?_
  refine Rk.tr (F1 := (8, 5, _, _)) (m_get rfl rfl (Nat.le_of_ble_eq_true rfl)) ?_
  refine Rk.tr (F1 := (8, 6, _, _)) (x_iconst rfl) ?_
  refine Rk.tr (F1 := (8, 7, _, _)) (x_iadd rfl) ?_
  refine Rk.tr (F1 := (8, 10, _, _)) (m_put rfl rfl rfl rfl rfl rfl) ?_
  refine Rk.tr (F1 := (8, 11, _, _)) (x_aload_n rfl rfl rfl) ?_
  refine Rk.tr (F1 := (8, 14, _, _)) (m_get rfl rfl (Nat.le_of_ble_eq_true rfl)) ?_
  refine Rk.tr (F1 := (8, 15, _, _)) (x_iconst rfl) ?_
  refine Rk.tr (F1 := (8, 16, _, _)) (x_isub rfl) ?_
  exact Rk.end rfl (Or.inr (Or.inl ⟨rfl, _, .int, rfl, rfl, rfl, rfl⟩))
theorem c_atom {a b : Int32} : Rn E d 7 [.ref o, .int a, .int b] (mh g o S) none (mh g o (msI (msI S 17 a) 18 b)) := by
  refine Rn.of (Nat.le_of_ble_eq_true rfl) ?_
  refine Rk.tr (F1 := (7, 1, _, _)) (x_aload_n rfl rfl rfl) ?_
  refine Rk.tr (F1 := (7, 2, _, _)) (x_iload_n rfl rfl) ?_
  refine Rk.tr (F1 := (7, 5, _, _)) (m_put rfl rfl rfl rfl rfl rfl) ?_
  refine Rk.tr (F1 := (7, 6, _, _)) (x_aload_n rfl rfl rfl) ?_
  refine Rk.tr (F1 := (7, 7, _, _)) (x_iload_n rfl rfl) ?_
  refine Rk.tr (F1 := (7, 10, _, _)) (m_put rfl rfl rfl rfl rfl rfl) ?_
  exact Rk.end rfl (Or.inl ⟨rfl, rfl, rfl, rfl⟩)
theorem c_emit {v : Int32} {n : Nat} (hd : S.1 23 = nI n) (hn : n < 800) : Rn E d 9 [.ref o, .int v] (mh g o S) none (mh g o (msI (msA S 25 n v) 23 (S.1 23 + 1))) := by
  refine Rn.of (Nat.le_of_ble_eq_true rfl) ?_
  refine Rk.tr (F1 := (9, 1, _, _)) (x_aload_n rfl rfl rfl) ?_
  refine Rk.tr (F1 := (9, 4, _, _)) (m_get rfl rfl (Nat.le_of_ble_eq_true rfl)) ?_
  refine Rk.tr (F1 := (9, 5, _, _)) (x_aload_n rfl rfl rfl) ?_
  refine Rk.tr (F1 := (9, 8, _, _)) (m_get rfl rfl (Nat.le_of_ble_eq_true rfl)) ?_
  refine Rk.tr (F1 := (9, 9, _, _)) (x_iload_n rfl rfl) ?_
  refine Rk.tr (F1 := (9, 10, _, _)) (m_iast (k := 25) (n := n) rfl rfl rfl (Nat.le_of_ble_eq_true rfl) hd hn) ?_
  refine Rk.tr (F1 := (9, 11, _, _)) (x_aload_n rfl rfl rfl) ?_
  refine Rk.tr (F1 := (9, 12, _, _)) (x_dup rfl rfl) ?_
  refine Rk.tr (F1 := (9, 15, _, _)) (m_get rfl rfl (Nat.le_of_ble_eq_true rfl)) ?_
  refine Rk.tr (F1 := (9, 16, _, _)) (x_iconst rfl) ?_
  refine Rk.tr (F1 := (9, 17, _, _)) (x_iadd rfl) ?_
  refine Rk.tr (F1 := (9, 20, _, _)) (m_put rfl rfl rfl rfl rfl rfl) ?_
  exact Rk.end rfl (Or.inl ⟨rfl, rfl, rfl, rfl⟩)
end M1
