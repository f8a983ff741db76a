/-! ===== the reference's small methods ===== -/
/-- a token's size, its atoms, where the first lies -/
def tsz (R : Nat → Int32) (p : Nat) : Nat := if R p = 9 then 3 else if R (p + 2) = 2 then 4 else if R (p + 2) = 3 then 7 else if R (p + 2) = 5 then 8 else 5
def tat (R : Nat → Int32) (p : Nat) : Nat := if R p = 9 then 1 else if R (p + 2) = 2 then 0 else if R (p + 2) = 6 then 1 else 2
def tfa (R : Nat → Int32) (p : Nat) : Nat := if R p = 9 then p + 1 else if R (p + 2) = 5 then p + 4 else p + 3
def mEmit (S : MSt) (v : Int32) : MSt := msI (msA S 25 (S.1 23).toNatClampNeg v) 23 (S.1 23 + 1)
theorem nIc {x : Int32} {n : Nat} (h : x = nI n) (hn : n < 2 ^ 31) : x.toNatClampNeg = n := by rw [h, nI_clamp hn]
theorem msE {g : PH} {o : Nat} {S S' : MSt} (h : S = S') : mh g o S = mh g o S' := by rw [h]
section M1
variable {E : PE} {d o : Nat} {g : PH} {S : MSt}
theorem c_thrown : Rn E d 1 [.ref o] (mh g o S) (some (.int (S.1 0))) (mh g o S) := by
  refine Rn.of (Nat.le_of_ble_eq_true rfl) ?_
  refine Rk.tr (F1 := (1, 1, _, _)) (x_aload_n rfl rfl rfl) ?_
  refine Rk.tr (F1 := (1, 4, _, _)) (m_get rfl rfl (Nat.le_of_ble_eq_true rfl)) ?_
  exact Rk.end rfl (Or.inr (Or.inl ⟨rfl, _, .int, rfl, rfl, rfl, rfl⟩))
theorem c_newName : Rn E d 8 [.ref o] (mh g o S) (some (.int (S.1 24 + 1 - 1))) (mh g o (msI S 24 (S.1 24 + 1))) := by
  refine Rn.of (Nat.le_of_ble_eq_true rfl) ?_
  refine Rk.tr (F1 := (8, 1, _, _)) (x_aload_n rfl rfl rfl) ?_
  refine Rk.tr (F1 := (8, 2, _, _)) (x_dup rfl rfl) ?_
  refine Rk.tr (F1 := (8, 5, _, _)) (m_get rfl rfl (Nat.le_of_ble_eq_true rfl)) ?_
  refine Rk.tr (F1 := (8, 6, _, _)) (x_iconst rfl) ?_
  refine Rk.tr (F1 := (8, 7, _, _)) (x_iadd rfl) ?_
  refine Rk.tr (F1 := (8, 10, _, _)) (m_put rfl rfl rfl rfl rfl rfl) ?_
  refine Rk.tr (F1 := (8, 11, _, _)) (x_aload_n rfl rfl rfl) ?_
  refine Rk.tr (F1 := (8, 14, _, _)) (m_get rfl rfl (Nat.le_of_ble_eq_true rfl)) ?_
  refine Rk.tr (F1 := (8, 15, _, _)) (x_iconst rfl) ?_
  refine Rk.tr (F1 := (8, 16, _, _)) (x_isub rfl) ?_
  exact Rk.end rfl (Or.inr (Or.inl ⟨rfl, _, .int, rfl, rfl, rfl, rfl⟩))
theorem c_atom {a b : Int32} : Rn E d 7 [.ref o, .int a, .int b] (mh g o S) none (mh g o (msI (msI S 17 a) 18 b)) := by
  refine Rn.of (Nat.le_of_ble_eq_true rfl) ?_
  refine Rk.tr (F1 := (7, 1, _, _)) (x_aload_n rfl rfl rfl) ?_
  refine Rk.tr (F1 := (7, 2, _, _)) (x_iload_n rfl rfl) ?_
  refine Rk.tr (F1 := (7, 5, _, _)) (m_put rfl rfl rfl rfl rfl rfl) ?_
  refine Rk.tr (F1 := (7, 6, _, _)) (x_aload_n rfl rfl rfl) ?_
  refine Rk.tr (F1 := (7, 7, _, _)) (x_iload_n rfl rfl) ?_
  refine Rk.tr (F1 := (7, 10, _, _)) (m_put rfl rfl rfl rfl rfl rfl) ?_
  exact Rk.end rfl (Or.inl ⟨rfl, rfl, rfl, rfl⟩)
theorem c_emit {v : Int32} {n : Nat} (hd : S.1 23 = nI n) (hn : n < 800) : Rn E d 9 [.ref o, .int v] (mh g o S) none (mh g o (mEmit S v)) := by
  refine Rn.of (Nat.le_of_ble_eq_true rfl) ?_
  refine Rk.tr (F1 := (9, 1, _, _)) (x_aload_n rfl rfl rfl) ?_
  refine Rk.tr (F1 := (9, 4, _, _)) (m_get rfl rfl (Nat.le_of_ble_eq_true rfl)) ?_
  refine Rk.tr (F1 := (9, 5, _, _)) (x_aload_n rfl rfl rfl) ?_
  refine Rk.tr (F1 := (9, 8, _, _)) (m_get rfl rfl (Nat.le_of_ble_eq_true rfl)) ?_
  refine Rk.tr (F1 := (9, 9, _, _)) (x_iload_n rfl rfl) ?_
  refine Rk.tr (F1 := (9, 10, _, _)) (m_iast (k := 25) (n := (S.1 23).toNatClampNeg) rfl rfl rfl (Nat.le_of_ble_eq_true rfl) (by rw [nIc hd (by omega)]; exact hd) (by rw [nIc hd (by omega)]; exact hn)) ?_
  refine Rk.tr (F1 := (9, 11, _, _)) (x_aload_n rfl rfl rfl) ?_
  refine Rk.tr (F1 := (9, 12, _, _)) (x_dup rfl rfl) ?_
  refine Rk.tr (F1 := (9, 15, _, _)) (m_get rfl rfl (Nat.le_of_ble_eq_true rfl)) ?_
  refine Rk.tr (F1 := (9, 16, _, _)) (x_iconst rfl) ?_
  refine Rk.tr (F1 := (9, 17, _, _)) (x_iadd rfl) ?_
  refine Rk.tr (F1 := (9, 20, _, _)) (m_put rfl rfl rfl rfl rfl rfl) ?_
  exact Rk.end rfl (Or.inl ⟨rfl, rfl, rfl, rfl⟩)
theorem c_emitAtom {a b : Int32} {n : Nat} (hd : S.1 23 = nI n) (hn : n + 1 < 800) : Rn E (d + 1) 14 [.ref o, .int a, .int b] (mh g o S) none (mh g o (mEmit (mEmit S a) b)) := by
  refine Rn.of (Nat.le_of_ble_eq_true rfl) ?_
  refine Rk.tr (F1 := (14, 1, _, _)) (x_aload_n rfl rfl rfl) ?_
  refine Rk.tr (F1 := (14, 2, _, _)) (x_iload_n rfl rfl) ?_
  refine Rk.tr (F1 := (14, 5, _, _)) (m_call (As := [_]) rfl rfl rfl (Or.inr rfl) rfl rfl rfl (Nat.le_of_ble_eq_true rfl) (c_emit hd (by omega)) rfl) ?_
  refine Rk.tr (F1 := (14, 6, _, _)) (x_aload_n rfl rfl rfl) ?_
  refine Rk.tr (F1 := (14, 7, _, _)) (x_iload_n rfl rfl) ?_
  refine Rk.tr (F1 := (14, 10, _, _)) (m_call (As := [_]) rfl rfl rfl (Or.inr rfl) rfl rfl rfl (Nat.le_of_ble_eq_true rfl) (c_emit (n := n + 1) (by show S.1 23 + 1 = _; rw [hd]; exact nI_1 n) (by omega)) rfl) ?_
  exact Rk.end rfl (Or.inl ⟨rfl, rfl, rfl, rfl⟩)
theorem c_bind {a b : Int32} {n : Nat} (hd : S.1 23 = nI n) (hn : n + 2 < 800) : Rn E (d + 1) 18 [.ref o, .int a, .int b] (mh g o S) none (mh g o (mEmit (mEmit (mEmit S 8) a) b)) := by
  refine Rn.of (Nat.le_of_ble_eq_true rfl) ?_
  refine Rk.tr (F1 := (18, 1, _, _)) (x_aload_n rfl rfl rfl) ?_
  refine Rk.tr (F1 := (18, 3, _, _)) (x_bipush rfl) ?_
  refine Rk.tr (F1 := (18, 6, _, _)) (m_call (As := [_]) rfl rfl rfl (Or.inr rfl) rfl rfl rfl (Nat.le_of_ble_eq_true rfl) (c_emit hd (by omega)) rfl) ?_
  refine Rk.tr (F1 := (18, 7, _, _)) (x_aload_n rfl rfl rfl) ?_
  refine Rk.tr (F1 := (18, 8, _, _)) (x_iload_n rfl rfl) ?_
  refine Rk.tr (F1 := (18, 11, _, _)) (m_call (As := [_]) rfl rfl rfl (Or.inr rfl) rfl rfl rfl (Nat.le_of_ble_eq_true rfl) (c_emit (n := n + 1) (by show S.1 23 + 1 = _; rw [hd]; exact nI_1 n) (by omega)) rfl) ?_
  refine Rk.tr (F1 := (18, 12, _, _)) (x_aload_n rfl rfl rfl) ?_
  refine Rk.tr (F1 := (18, 13, _, _)) (x_iload_n rfl rfl) ?_
  refine Rk.tr (F1 := (18, 16, _, _)) (m_call (As := [_]) rfl rfl rfl (Or.inr rfl) rfl rfl rfl (Nat.le_of_ble_eq_true rfl) (c_emit (n := n + 2) (by show S.1 23 + 1 + 1 = _; rw [hd, nI_1, nI_1]) (by omega)) rfl) ?_
  exact Rk.end rfl (Or.inl ⟨rfl, rfl, rfl, rfl⟩)
theorem c_rowEnds {n : Nat} (hd : S.1 23 = nI n) (hn : n + 2 < 800) : Rn E (d + 2) 13 [.ref o] (mh g o S) none (mh g o (mEmit (mEmit (mEmit S 9) (S.1 17)) (S.1 18))) := by
  refine Rn.of (Nat.le_of_ble_eq_true rfl) ?_
  refine Rk.tr (F1 := (13, 1, _, _)) (x_aload_n rfl rfl rfl) ?_
  refine Rk.tr (F1 := (13, 3, _, _)) (x_bipush rfl) ?_
  refine Rk.tr (F1 := (13, 6, _, _)) (m_call (As := [_]) rfl rfl rfl (Or.inr rfl) rfl rfl rfl (Nat.le_of_ble_eq_true rfl) (c_emit hd (by omega)) rfl) ?_
  refine Rk.tr (F1 := (13, 7, _, _)) (x_aload_n rfl rfl rfl) ?_
  refine Rk.tr (F1 := (13, 8, _, _)) (x_aload_n rfl rfl rfl) ?_
  refine Rk.tr (F1 := (13, 11, _, _)) (m_get rfl rfl (Nat.le_of_ble_eq_true rfl)) ?_
  refine Rk.tr (F1 := (13, 12, _, _)) (x_aload_n rfl rfl rfl) ?_
  refine Rk.tr (F1 := (13, 15, _, _)) (m_get rfl rfl (Nat.le_of_ble_eq_true rfl)) ?_
  refine Rk.tr (F1 := (13, 18, _, _)) (m_call (As := [_, _]) rfl rfl rfl (Or.inr rfl) rfl rfl rfl (Nat.le_of_ble_eq_true rfl) (c_emitAtom (n := n + 1) (by show S.1 23 + 1 = _; rw [hd]; exact nI_1 n) (by omega)) rfl) ?_
  exact Rk.end rfl (Or.inl ⟨rfl, rfl, rfl, rfl⟩)
theorem c_rowBegins : Rn E d 10 [.ref o] (mh g o S) none (mh g o (msI (msI S 21 (S.1 21 + 1)) 22 (if S.1 21 + 1 ≤ S.1 22 then S.1 22 else S.1 21 + 1))) := by
  refine Rn.of (Nat.le_of_ble_eq_true rfl) ?_
  refine Rk.tr (F1 := (10, 1, _, _)) (x_aload_n rfl rfl rfl) ?_
  refine Rk.tr (F1 := (10, 2, _, _)) (x_dup rfl rfl) ?_
  refine Rk.tr (F1 := (10, 5, _, _)) (m_get rfl rfl (Nat.le_of_ble_eq_true rfl)) ?_
  refine Rk.tr (F1 := (10, 6, _, _)) (x_iconst rfl) ?_
  refine Rk.tr (F1 := (10, 7, _, _)) (x_iadd rfl) ?_
  refine Rk.tr (F1 := (10, 10, _, _)) (m_put rfl rfl rfl rfl rfl rfl) ?_
  refine Rk.tr (F1 := (10, 11, _, _)) (x_aload_n rfl rfl rfl) ?_
  refine Rk.tr (F1 := (10, 12, _, _)) (x_aload_n rfl rfl rfl) ?_
  refine Rk.tr (F1 := (10, 15, _, _)) (m_get rfl rfl (Nat.le_of_ble_eq_true rfl)) ?_
  refine Rk.tr (F1 := (10, 16, _, _)) (x_aload_n rfl rfl rfl) ?_
  refine Rk.tr (F1 := (10, 19, _, _)) (m_get rfl rfl (Nat.le_of_ble_eq_true rfl)) ?_
  by_cases hc19 : S.1 21 + 1 ≤ S.1 22
  · rw [if_pos hc19]
    refine Rk.tr (F1 := (10, 29, _, _)) (x_icT rfl (tg := 29) rfl hc19) ?_
    refine Rk.tr (F1 := (10, 30, _, _)) (x_aload_n rfl rfl rfl) ?_
    refine Rk.tr (F1 := (10, 33, _, _)) (m_get rfl rfl (Nat.le_of_ble_eq_true rfl)) ?_
    refine Rk.tr (F1 := (10, 36, _, _)) (m_put rfl rfl rfl rfl rfl rfl) ?_
    exact Rk.end rfl (Or.inl ⟨rfl, rfl, rfl, rfl⟩)
  · rw [if_neg hc19]
    refine Rk.tr (F1 := (10, 22, _, _)) (x_icF rfl (tg := 29) rfl hc19) ?_
    refine Rk.tr (F1 := (10, 23, _, _)) (x_aload_n rfl rfl rfl) ?_
    refine Rk.tr (F1 := (10, 26, _, _)) (m_get rfl rfl (Nat.le_of_ble_eq_true rfl)) ?_
    refine Rk.tr (F1 := (10, 33, _, _)) (x_goto rfl rfl) ?_
    refine Rk.tr (F1 := (10, 36, _, _)) (m_put rfl rfl rfl rfl rfl rfl) ?_
    exact Rk.end rfl (Or.inl ⟨rfl, rfl, rfl, rfl⟩)
theorem c_type60 {v : Int32} (hd : S.1 1 = 60) : Rn E d 2 [.ref o, .int v] (mh g o S) (some (.int 0)) (mh g o (msI S 0 0)) := by
  refine Rn.of (Nat.le_of_ble_eq_true rfl) ?_
  refine Rk.tr (F1 := (2, 1, _, _)) (x_aload_n rfl rfl rfl) ?_
  refine Rk.tr (F1 := (2, 2, _, _)) (x_iconst rfl) ?_
  refine Rk.tr (F1 := (2, 5, _, _)) (m_put rfl rfl rfl rfl rfl rfl) ?_
  refine Rk.tr (F1 := (2, 6, _, _)) (x_aload_n rfl rfl rfl) ?_
  refine Rk.tr (F1 := (2, 9, _, _)) (m_get rfl rfl (Nat.le_of_ble_eq_true rfl)) ?_
  refine Rk.tr (F1 := (2, 11, _, _)) (x_bipush rfl) ?_
  refine Rk.tr (F1 := (2, 14, _, _)) (x_icF rfl (tg := 16) rfl (fun q => q hd)) ?_
  refine Rk.tr (F1 := (2, 15, _, _)) (x_iconst rfl) ?_
  exact Rk.end rfl (Or.inr (Or.inl ⟨rfl, _, .boolean, rfl, rfl, rfl, rfl⟩))
theorem c_type {n : Nat} {v : Int32} (hd : S.1 1 = nI n) (hn : n < 60) : Rn E d 2 [.ref o, .int v] (mh g o S) (some (.int 1)) (mh g o (msI (msA (msI S 0 0) 2 n v) 1 (S.1 1 + 1))) := by
  refine Rn.of (Nat.le_of_ble_eq_true rfl) ?_
  have h60 : ¬ S.1 1 = 60 := fun q => by
    have e : nI n = nI 60 := hd.symm.trans q
    exact absurd ((nI_eq (by omega) (by decide)).mp e) (by omega)
  refine Rk.tr (F1 := (2, 1, _, _)) (x_aload_n rfl rfl rfl) ?_
  refine Rk.tr (F1 := (2, 2, _, _)) (x_iconst rfl) ?_
  refine Rk.tr (F1 := (2, 5, _, _)) (m_put rfl rfl rfl rfl rfl rfl) ?_
  refine Rk.tr (F1 := (2, 6, _, _)) (x_aload_n rfl rfl rfl) ?_
  refine Rk.tr (F1 := (2, 9, _, _)) (m_get rfl rfl (Nat.le_of_ble_eq_true rfl)) ?_
  refine Rk.tr (F1 := (2, 11, _, _)) (x_bipush rfl) ?_
  refine Rk.tr (F1 := (2, 16, _, _)) (x_icT rfl (tg := 16) rfl h60) ?_
  refine Rk.tr (F1 := (2, 17, _, _)) (x_aload_n rfl rfl rfl) ?_
  refine Rk.tr (F1 := (2, 20, _, _)) (m_get rfl rfl (Nat.le_of_ble_eq_true rfl)) ?_
  refine Rk.tr (F1 := (2, 21, _, _)) (x_aload_n rfl rfl rfl) ?_
  refine Rk.tr (F1 := (2, 24, _, _)) (m_get rfl rfl (Nat.le_of_ble_eq_true rfl)) ?_
  refine Rk.tr (F1 := (2, 25, _, _)) (x_iload_n rfl rfl) ?_
  refine Rk.tr (F1 := (2, 26, _, _)) (m_iast (k := 2) (n := n) rfl rfl rfl (Nat.le_of_ble_eq_true rfl) hd hn) ?_
  refine Rk.tr (F1 := (2, 27, _, _)) (x_aload_n rfl rfl rfl) ?_
  refine Rk.tr (F1 := (2, 28, _, _)) (x_dup rfl rfl) ?_
  refine Rk.tr (F1 := (2, 31, _, _)) (m_get rfl rfl (Nat.le_of_ble_eq_true rfl)) ?_
  refine Rk.tr (F1 := (2, 32, _, _)) (x_iconst rfl) ?_
  refine Rk.tr (F1 := (2, 33, _, _)) (x_iadd rfl) ?_
  refine Rk.tr (F1 := (2, 36, _, _)) (m_put rfl rfl rfl rfl rfl rfl) ?_
  refine Rk.tr (F1 := (2, 37, _, _)) (x_iconst rfl) ?_
  exact Rk.end rfl (Or.inr (Or.inl ⟨rfl, _, .boolean, rfl, rfl, rfl, rfl⟩))
theorem c_size {p : Nat} (hp : p + 2 < 800) : Rn E d 22 [.ref o, .int (nI p)] (mh g o S) (some (.int (nI (tsz (S.2 5) p)))) (mh g o S) := by
  refine Rn.of (Nat.le_of_ble_eq_true rfl) ?_
  unfold tsz
  refine Rk.tr (F1 := (22, 1, _, _)) (x_aload_n rfl rfl rfl) ?_
  refine Rk.tr (F1 := (22, 4, _, _)) (m_get rfl rfl (Nat.le_of_ble_eq_true rfl)) ?_
  refine Rk.tr (F1 := (22, 5, _, _)) (x_iload_n rfl rfl) ?_
  refine Rk.tr (F1 := (22, 6, _, _)) (m_iald (k := 5) (n := p) rfl rfl rfl rfl (Nat.lt_of_le_of_lt (Nat.le_add_right _ _) hp)) ?_
  refine Rk.tr (F1 := (22, 8, _, _)) (x_bipush rfl) ?_
  by_cases hc8 : S.2 5 p = 9
  · rw [if_pos hc8]
    refine Rk.tr (F1 := (22, 11, _, _)) (x_icF rfl (tg := 13) rfl (fun q => q hc8)) ?_
    refine Rk.tr (F1 := (22, 12, _, _)) (x_iconst rfl) ?_
    exact Rk.end rfl (Or.inr (Or.inl ⟨rfl, _, .int, rfl, rfl, rfl, rfl⟩))
  · rw [if_neg hc8]
    refine Rk.tr (F1 := (22, 13, _, _)) (x_icT rfl (tg := 13) rfl hc8) ?_
    refine Rk.tr (F1 := (22, 14, _, _)) (x_aload_n rfl rfl rfl) ?_
    refine Rk.tr (F1 := (22, 17, _, _)) (m_get rfl rfl (Nat.le_of_ble_eq_true rfl)) ?_
    refine Rk.tr (F1 := (22, 18, _, _)) (x_iload_n rfl rfl) ?_
    refine Rk.tr (F1 := (22, 19, _, _)) (x_iconst rfl) ?_
    refine Rk.tr (F1 := (22, 20, _, _)) (x_iadd rfl) ?_
    refine Rk.tr (F1 := (22, 21, _, _)) (m_iald (k := 5) (n := p + 2) rfl rfl rfl (nI_add p 2) hp) ?_
    refine Rk.tr (F1 := (22, 22, [_, _, _], _)) (x_istore_n (i := 2) rfl (Nat.le_of_ble_eq_true rfl)) ?_
    refine Rk.tr (F1 := (22, 23, _, _)) (x_iload_n rfl rfl) ?_
    refine Rk.tr (F1 := (22, 24, _, _)) (x_iconst rfl) ?_
    by_cases hc24 : S.2 5 (p + 2) = 2
    · rw [if_pos hc24]
      refine Rk.tr (F1 := (22, 27, _, _)) (x_icF rfl (tg := 31) rfl (fun q => q hc24)) ?_
      refine Rk.tr (F1 := (22, 28, _, _)) (x_iconst rfl) ?_
      refine Rk.tr (F1 := (22, 52, _, _)) (x_goto rfl rfl) ?_
      exact Rk.end rfl (Or.inr (Or.inl ⟨rfl, _, .int, rfl, rfl, rfl, rfl⟩))
    · rw [if_neg hc24]
      refine Rk.tr (F1 := (22, 31, _, _)) (x_icT rfl (tg := 31) rfl hc24) ?_
      refine Rk.tr (F1 := (22, 32, _, _)) (x_iload_n rfl rfl) ?_
      refine Rk.tr (F1 := (22, 33, _, _)) (x_iconst rfl) ?_
      by_cases hc33 : S.2 5 (p + 2) = 3
      · rw [if_pos hc33]
        refine Rk.tr (F1 := (22, 36, _, _)) (x_icF rfl (tg := 41) rfl (fun q => q hc33)) ?_
        refine Rk.tr (F1 := (22, 38, _, _)) (x_bipush rfl) ?_
        refine Rk.tr (F1 := (22, 52, _, _)) (x_goto rfl rfl) ?_
        exact Rk.end rfl (Or.inr (Or.inl ⟨rfl, _, .int, rfl, rfl, rfl, rfl⟩))
      · rw [if_neg hc33]
        refine Rk.tr (F1 := (22, 41, _, _)) (x_icT rfl (tg := 41) rfl hc33) ?_
        refine Rk.tr (F1 := (22, 42, _, _)) (x_iload_n rfl rfl) ?_
        refine Rk.tr (F1 := (22, 43, _, _)) (x_iconst rfl) ?_
        by_cases hc43 : S.2 5 (p + 2) = 5
        · rw [if_pos hc43]
          refine Rk.tr (F1 := (22, 46, _, _)) (x_icF rfl (tg := 51) rfl (fun q => q hc43)) ?_
          refine Rk.tr (F1 := (22, 48, _, _)) (x_bipush rfl) ?_
          refine Rk.tr (F1 := (22, 52, _, _)) (x_goto rfl rfl) ?_
          exact Rk.end rfl (Or.inr (Or.inl ⟨rfl, _, .int, rfl, rfl, rfl, rfl⟩))
        · rw [if_neg hc43]
          refine Rk.tr (F1 := (22, 51, _, _)) (x_icT rfl (tg := 51) rfl hc43) ?_
          refine Rk.tr (F1 := (22, 52, _, _)) (x_iconst rfl) ?_
          exact Rk.end rfl (Or.inr (Or.inl ⟨rfl, _, .int, rfl, rfl, rfl, rfl⟩))
theorem c_atoms {p : Nat} (hp : p + 2 < 800) : Rn E d 30 [.ref o, .int (nI p)] (mh g o S) (some (.int (nI (tat (S.2 5) p)))) (mh g o S) := by
  refine Rn.of (Nat.le_of_ble_eq_true rfl) ?_
  unfold tat
  refine Rk.tr (F1 := (30, 1, _, _)) (x_aload_n rfl rfl rfl) ?_
  refine Rk.tr (F1 := (30, 4, _, _)) (m_get rfl rfl (Nat.le_of_ble_eq_true rfl)) ?_
  refine Rk.tr (F1 := (30, 5, _, _)) (x_iload_n rfl rfl) ?_
  refine Rk.tr (F1 := (30, 6, _, _)) (m_iald (k := 5) (n := p) rfl rfl rfl rfl (Nat.lt_of_le_of_lt (Nat.le_add_right _ _) hp)) ?_
  refine Rk.tr (F1 := (30, 8, _, _)) (x_bipush rfl) ?_
  by_cases hc8 : S.2 5 p = 9
  · rw [if_pos hc8]
    refine Rk.tr (F1 := (30, 11, _, _)) (x_icF rfl (tg := 13) rfl (fun q => q hc8)) ?_
    refine Rk.tr (F1 := (30, 12, _, _)) (x_iconst rfl) ?_
    exact Rk.end rfl (Or.inr (Or.inl ⟨rfl, _, .int, rfl, rfl, rfl, rfl⟩))
  · rw [if_neg hc8]
    refine Rk.tr (F1 := (30, 13, _, _)) (x_icT rfl (tg := 13) rfl hc8) ?_
    refine Rk.tr (F1 := (30, 14, _, _)) (x_aload_n rfl rfl rfl) ?_
    refine Rk.tr (F1 := (30, 17, _, _)) (m_get rfl rfl (Nat.le_of_ble_eq_true rfl)) ?_
    refine Rk.tr (F1 := (30, 18, _, _)) (x_iload_n rfl rfl) ?_
    refine Rk.tr (F1 := (30, 19, _, _)) (x_iconst rfl) ?_
    refine Rk.tr (F1 := (30, 20, _, _)) (x_iadd rfl) ?_
    refine Rk.tr (F1 := (30, 21, _, _)) (m_iald (k := 5) (n := p + 2) rfl rfl rfl (nI_add p 2) hp) ?_
    refine Rk.tr (F1 := (30, 22, [_, _, _], _)) (x_istore_n (i := 2) rfl (Nat.le_of_ble_eq_true rfl)) ?_
    refine Rk.tr (F1 := (30, 23, _, _)) (x_iload_n rfl rfl) ?_
    refine Rk.tr (F1 := (30, 24, _, _)) (x_iconst rfl) ?_
    by_cases hc24 : S.2 5 (p + 2) = 2
    · rw [if_pos hc24]
      refine Rk.tr (F1 := (30, 27, _, _)) (x_icF rfl (tg := 31) rfl (fun q => q hc24)) ?_
      refine Rk.tr (F1 := (30, 28, _, _)) (x_iconst rfl) ?_
      refine Rk.tr (F1 := (30, 42, _, _)) (x_goto rfl rfl) ?_
      exact Rk.end rfl (Or.inr (Or.inl ⟨rfl, _, .int, rfl, rfl, rfl, rfl⟩))
    · rw [if_neg hc24]
      refine Rk.tr (F1 := (30, 31, _, _)) (x_icT rfl (tg := 31) rfl hc24) ?_
      refine Rk.tr (F1 := (30, 32, _, _)) (x_iload_n rfl rfl) ?_
      refine Rk.tr (F1 := (30, 34, _, _)) (x_bipush rfl) ?_
      by_cases hc34 : S.2 5 (p + 2) = 6
      · rw [if_pos hc34]
        refine Rk.tr (F1 := (30, 37, _, _)) (x_icF rfl (tg := 41) rfl (fun q => q hc34)) ?_
        refine Rk.tr (F1 := (30, 38, _, _)) (x_iconst rfl) ?_
        refine Rk.tr (F1 := (30, 42, _, _)) (x_goto rfl rfl) ?_
        exact Rk.end rfl (Or.inr (Or.inl ⟨rfl, _, .int, rfl, rfl, rfl, rfl⟩))
      · rw [if_neg hc34]
        refine Rk.tr (F1 := (30, 41, _, _)) (x_icT rfl (tg := 41) rfl hc34) ?_
        refine Rk.tr (F1 := (30, 42, _, _)) (x_iconst rfl) ?_
        exact Rk.end rfl (Or.inr (Or.inl ⟨rfl, _, .int, rfl, rfl, rfl, rfl⟩))
theorem c_firstAtom {p : Nat} (hp : p + 2 < 800) : Rn E d 31 [.ref o, .int (nI p)] (mh g o S) (some (.int (nI (tfa (S.2 5) p)))) (mh g o S) := by
  refine Rn.of (Nat.le_of_ble_eq_true rfl) ?_
  unfold tfa
  refine Rk.tr (F1 := (31, 1, _, _)) (x_aload_n rfl rfl rfl) ?_
  refine Rk.tr (F1 := (31, 4, _, _)) (m_get rfl rfl (Nat.le_of_ble_eq_true rfl)) ?_
  refine Rk.tr (F1 := (31, 5, _, _)) (x_iload_n rfl rfl) ?_
  refine Rk.tr (F1 := (31, 6, _, _)) (m_iald (k := 5) (n := p) rfl rfl rfl rfl (Nat.lt_of_le_of_lt (Nat.le_add_right _ _) hp)) ?_
  refine Rk.tr (F1 := (31, 8, _, _)) (x_bipush rfl) ?_
  by_cases hc8 : S.2 5 p = 9
  · rw [if_pos hc8]
    refine Rk.tr (F1 := (31, 11, _, _)) (x_icF rfl (tg := 17) rfl (fun q => q hc8)) ?_
    refine Rk.tr (F1 := (31, 12, _, _)) (x_iload_n rfl rfl) ?_
    refine Rk.tr (F1 := (31, 13, _, _)) (x_iconst rfl) ?_
    refine Rk.tr (F1 := (31, 14, _, _)) (x_iadd rfl) ?_
    refine Rk.tr (F1 := (31, 38, _, _)) (x_goto rfl rfl) ?_
    exact Rk.end rfl (Or.inr (Or.inl ⟨rfl, _, .int, rfl, rfl, (by first | (rw [← nI_add]; rfl) | rfl), rfl⟩))
  · rw [if_neg hc8]
    refine Rk.tr (F1 := (31, 17, _, _)) (x_icT rfl (tg := 17) rfl hc8) ?_
    refine Rk.tr (F1 := (31, 18, _, _)) (x_aload_n rfl rfl rfl) ?_
    refine Rk.tr (F1 := (31, 21, _, _)) (m_get rfl rfl (Nat.le_of_ble_eq_true rfl)) ?_
    refine Rk.tr (F1 := (31, 22, _, _)) (x_iload_n rfl rfl) ?_
    refine Rk.tr (F1 := (31, 23, _, _)) (x_iconst rfl) ?_
    refine Rk.tr (F1 := (31, 24, _, _)) (x_iadd rfl) ?_
    refine Rk.tr (F1 := (31, 25, _, _)) (m_iald (k := 5) (n := p + 2) rfl rfl rfl (nI_add p 2) hp) ?_
    refine Rk.tr (F1 := (31, 26, _, _)) (x_iconst rfl) ?_
    by_cases hc26 : S.2 5 (p + 2) = 5
    · rw [if_pos hc26]
      refine Rk.tr (F1 := (31, 29, _, _)) (x_icF rfl (tg := 35) rfl (fun q => q hc26)) ?_
      refine Rk.tr (F1 := (31, 30, _, _)) (x_iload_n rfl rfl) ?_
      refine Rk.tr (F1 := (31, 31, _, _)) (x_iconst rfl) ?_
      refine Rk.tr (F1 := (31, 32, _, _)) (x_iadd rfl) ?_
      refine Rk.tr (F1 := (31, 38, _, _)) (x_goto rfl rfl) ?_
      exact Rk.end rfl (Or.inr (Or.inl ⟨rfl, _, .int, rfl, rfl, (by first | (rw [← nI_add]; rfl) | rfl), rfl⟩))
    · rw [if_neg hc26]
      refine Rk.tr (F1 := (31, 35, _, _)) (x_icT rfl (tg := 35) rfl hc26) ?_
      refine Rk.tr (F1 := (31, 36, _, _)) (x_iload_n rfl rfl) ?_
      refine Rk.tr (F1 := (31, 37, _, _)) (x_iconst rfl) ?_
      refine Rk.tr (F1 := (31, 38, _, _)) (x_iadd rfl) ?_
      exact Rk.end rfl (Or.inr (Or.inl ⟨rfl, _, .int, rfl, rfl, (by first | (rw [← nI_add]; rfl) | rfl), rfl⟩))
end M1
