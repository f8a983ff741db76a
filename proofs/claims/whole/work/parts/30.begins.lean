/-! ===== the reference's conversion: next, means, named, begins, goesOn ===== -/
def mNext (S : MSt) : MSt := msI S 9 (S.1 9 + 1)
def mMeans (S : MSt) (k x : Nat) (a b : Int32) : MSt := msA (msA (msA (msA S 15 k (S.2 19 x)) 16 k (S.2 20 x)) 19 x a) 20 x b
def mAgain (S : MSt) (k x : Nat) : MSt := msA (msA S 19 x (S.2 15 k)) 20 x (S.2 16 k)
def mNamed (S : MSt) (hd : Nat) : MSt := msI (msI (msI (msA (msI (msI S 21 (S.1 21 - 1)) 24 (S.1 24 + 1)) 25 (hd + 1) (S.1 24 + 1 - 1)) 17 1) 18 (S.1 24 + 1 - 1)) 10 (S.1 10 - 1)
def mBegR (S : MSt) : MSt := msI (msI S 21 (S.1 21 + 1)) 22 (if S.1 21 + 1 ≤ S.1 22 then S.1 22 else S.1 21 + 1)
/-- a frame is opened -/
def mOpen (S : MSt) (q : Nat) (w : Int32) : MSt := msA (msA (msI (mNext S) 10 (S.1 10 + 1)) 11 (q + 1) w) 12 (q + 1) 0
theorem msA_at {S : MSt} {k n : Nat} {x : Int32} : (msA S k n x).2 k n = x := if_pos ⟨rfl, rfl⟩
theorem msA_ne {S : MSt} {k n j : Nat} {x : Int32} (h : j ≠ n) : (msA S k n x).2 k j = S.2 k j := if_neg (fun z => h z.2)
section M13
variable {E : PE} {d o p q n : Nat} {g : PH} {S : MSt}
theorem c_next (hp : S.1 9 = nI p) (hn : S.1 1 = nI n) (h : p < n) (h60 : n ≤ 60) : Rn E d 6 [.ref o] (mh g o S) (some (.int (S.2 2 p))) (mh g o (mNext S)) := by
  refine Rn.of (Nat.le_of_ble_eq_true rfl) ?_
  refine Rk.tr (F1 := (6, 1, _, _)) (x_aload_n rfl rfl rfl) ?_
  refine Rk.tr (F1 := (6, 2, _, _)) (x_dup rfl rfl) ?_
  refine Rk.tr (F1 := (6, 5, _, _)) (m_get rfl rfl (Nat.le_of_ble_eq_true rfl)) ?_
  refine Rk.tr (F1 := (6, 6, _, _)) (x_iconst rfl) ?_
  refine Rk.tr (F1 := (6, 7, _, _)) (x_iadd rfl) ?_
  refine Rk.tr (F1 := (6, 10, _, _)) (m_put rfl rfl rfl rfl rfl rfl) ?_
  refine Rk.tr (F1 := (6, 11, _, _)) (x_aload_n rfl rfl rfl) ?_
  refine Rk.tr (F1 := (6, 14, _, _)) (m_get rfl rfl (Nat.le_of_ble_eq_true rfl)) ?_
  refine Rk.tr (F1 := (6, 15, _, _)) (x_aload_n rfl rfl rfl) ?_
  refine Rk.tr (F1 := (6, 18, _, _)) (m_get rfl rfl (Nat.le_of_ble_eq_true rfl)) ?_
  refine Rk.tr (F1 := (6, 21, _, _)) (x_icF rfl (tg := 35) rfl (by show ¬ S.1 1 < S.1 9 + 1; rw [hp, hn, nI_1]; exact Int32.not_lt.mpr (nI_le (by omega) (by omega)))) ?_
  refine Rk.tr (F1 := (6, 22, _, _)) (x_aload_n rfl rfl rfl) ?_
  refine Rk.tr (F1 := (6, 25, _, _)) (m_get rfl rfl (Nat.le_of_ble_eq_true rfl)) ?_
  refine Rk.tr (F1 := (6, 26, _, _)) (x_aload_n rfl rfl rfl) ?_
  refine Rk.tr (F1 := (6, 29, _, _)) (m_get rfl rfl (Nat.le_of_ble_eq_true rfl)) ?_
  refine Rk.tr (F1 := (6, 30, _, _)) (x_iconst rfl) ?_
  refine Rk.tr (F1 := (6, 31, _, _)) (x_isub rfl) ?_
  refine Rk.tr (F1 := (6, 32, _, _)) (m_iald (k := 2) (n := p) rfl rfl rfl (by show S.1 9 + 1 - 1 = nI p; rw [hp]; exact Int32.add_sub_cancel _ _) (show p < 60 by omega)) ?_
  refine Rk.tr (F1 := (6, 36, _, _)) (x_goto rfl rfl) ?_
  exact Rk.end rfl (Or.inr (Or.inl ⟨rfl, _, .int, rfl, rfl, rfl, rfl⟩))
theorem c_means {k x : Nat} {a b : Int32} (hk : k < 61) (hx : x < 10) (hv : S.2 13 k = nI x) : Rn E d 11 [.ref o, .int (nI k), .int a, .int b] (mh g o S) none (mh g o (mMeans S k x a b)) := by
  refine Rn.of (Nat.le_of_ble_eq_true rfl) ?_
  refine Rk.tr (F1 := (11, 1, _, _)) (x_aload_n rfl rfl rfl) ?_
  refine Rk.tr (F1 := (11, 4, _, _)) (m_get rfl rfl (Nat.le_of_ble_eq_true rfl)) ?_
  refine Rk.tr (F1 := (11, 5, _, _)) (x_iload_n rfl rfl) ?_
  refine Rk.tr (F1 := (11, 6, _, _)) (m_iald (k := 13) (n := k) rfl rfl rfl rfl hk) ?_
  refine Rk.tr (F1 := (11, 6, _, _)) (x_top hv) ?_
  refine Rk.tr (F1 := (11, 8, [_, _, _, _, _], _)) (x_istore (i := 4) rfl (Nat.le_of_ble_eq_true rfl)) ?_
  refine Rk.tr (F1 := (11, 9, _, _)) (x_aload_n rfl rfl rfl) ?_
  refine Rk.tr (F1 := (11, 12, _, _)) (m_get rfl rfl (Nat.le_of_ble_eq_true rfl)) ?_
  refine Rk.tr (F1 := (11, 13, _, _)) (x_iload_n rfl rfl) ?_
  refine Rk.tr (F1 := (11, 14, _, _)) (x_aload_n rfl rfl rfl) ?_
  refine Rk.tr (F1 := (11, 17, _, _)) (m_get rfl rfl (Nat.le_of_ble_eq_true rfl)) ?_
  refine Rk.tr (F1 := (11, 19, _, _)) (x_iload rfl rfl) ?_
  refine Rk.tr (F1 := (11, 20, _, _)) (m_iald (k := 19) (n := x) rfl rfl rfl rfl hx) ?_
  refine Rk.tr (F1 := (11, 21, _, _)) (m_iast (k := 15) (n := k) rfl rfl rfl (Nat.le_of_ble_eq_true rfl) rfl hk) ?_
  refine Rk.tr (F1 := (11, 22, _, _)) (x_aload_n rfl rfl rfl) ?_
  refine Rk.tr (F1 := (11, 25, _, _)) (m_get rfl rfl (Nat.le_of_ble_eq_true rfl)) ?_
  refine Rk.tr (F1 := (11, 26, _, _)) (x_iload_n rfl rfl) ?_
  refine Rk.tr (F1 := (11, 27, _, _)) (x_aload_n rfl rfl rfl) ?_
  refine Rk.tr (F1 := (11, 30, _, _)) (m_get rfl rfl (Nat.le_of_ble_eq_true rfl)) ?_
  refine Rk.tr (F1 := (11, 32, _, _)) (x_iload rfl rfl) ?_
  refine Rk.tr (F1 := (11, 33, _, _)) (m_iald (k := 20) (n := x) rfl rfl rfl rfl hx) ?_
  refine Rk.tr (F1 := (11, 34, _, _)) (m_iast (k := 16) (n := k) rfl rfl rfl (Nat.le_of_ble_eq_true rfl) rfl hk) ?_
  refine Rk.tr (F1 := (11, 35, _, _)) (x_aload_n rfl rfl rfl) ?_
  refine Rk.tr (F1 := (11, 38, _, _)) (m_get rfl rfl (Nat.le_of_ble_eq_true rfl)) ?_
  refine Rk.tr (F1 := (11, 40, _, _)) (x_iload rfl rfl) ?_
  refine Rk.tr (F1 := (11, 41, _, _)) (x_iload_n rfl rfl) ?_
  refine Rk.tr (F1 := (11, 42, _, _)) (m_iast (k := 19) (n := x) rfl rfl rfl (Nat.le_of_ble_eq_true rfl) rfl hx) ?_
  refine Rk.tr (F1 := (11, 43, _, _)) (x_aload_n rfl rfl rfl) ?_
  refine Rk.tr (F1 := (11, 46, _, _)) (m_get rfl rfl (Nat.le_of_ble_eq_true rfl)) ?_
  refine Rk.tr (F1 := (11, 48, _, _)) (x_iload rfl rfl) ?_
  refine Rk.tr (F1 := (11, 49, _, _)) (x_iload_n rfl rfl) ?_
  refine Rk.tr (F1 := (11, 50, _, _)) (m_iast (k := 20) (n := x) rfl rfl rfl (Nat.le_of_ble_eq_true rfl) rfl hx) ?_
  exact Rk.end rfl (Or.inl ⟨rfl, rfl, rfl, rfl⟩)
theorem c_again {k x : Nat} (hk : k < 61) (hx : x < 10) (hv : S.2 13 k = nI x) : Rn E d 15 [.ref o, .int (nI k)] (mh g o S) none (mh g o (mAgain S k x)) := by
  refine Rn.of (Nat.le_of_ble_eq_true rfl) ?_
  refine Rk.tr (F1 := (15, 1, _, _)) (x_aload_n rfl rfl rfl) ?_
  refine Rk.tr (F1 := (15, 4, _, _)) (m_get rfl rfl (Nat.le_of_ble_eq_true rfl)) ?_
  refine Rk.tr (F1 := (15, 5, _, _)) (x_aload_n rfl rfl rfl) ?_
  refine Rk.tr (F1 := (15, 8, _, _)) (m_get rfl rfl (Nat.le_of_ble_eq_true rfl)) ?_
  refine Rk.tr (F1 := (15, 9, _, _)) (x_iload_n rfl rfl) ?_
  refine Rk.tr (F1 := (15, 10, _, _)) (m_iald (k := 13) (n := k) rfl rfl rfl rfl hk) ?_
  refine Rk.tr (F1 := (15, 10, _, _)) (x_top hv) ?_
  refine Rk.tr (F1 := (15, 11, _, _)) (x_aload_n rfl rfl rfl) ?_
  refine Rk.tr (F1 := (15, 14, _, _)) (m_get rfl rfl (Nat.le_of_ble_eq_true rfl)) ?_
  refine Rk.tr (F1 := (15, 15, _, _)) (x_iload_n rfl rfl) ?_
  refine Rk.tr (F1 := (15, 16, _, _)) (m_iald (k := 15) (n := k) rfl rfl rfl rfl hk) ?_
  refine Rk.tr (F1 := (15, 17, _, _)) (m_iast (k := 19) (n := x) rfl rfl rfl (Nat.le_of_ble_eq_true rfl) rfl hx) ?_
  refine Rk.tr (F1 := (15, 18, _, _)) (x_aload_n rfl rfl rfl) ?_
  refine Rk.tr (F1 := (15, 21, _, _)) (m_get rfl rfl (Nat.le_of_ble_eq_true rfl)) ?_
  refine Rk.tr (F1 := (15, 22, _, _)) (x_aload_n rfl rfl rfl) ?_
  refine Rk.tr (F1 := (15, 25, _, _)) (m_get rfl rfl (Nat.le_of_ble_eq_true rfl)) ?_
  refine Rk.tr (F1 := (15, 26, _, _)) (x_iload_n rfl rfl) ?_
  refine Rk.tr (F1 := (15, 27, _, _)) (m_iald (k := 13) (n := k) rfl rfl rfl rfl hk) ?_
  refine Rk.tr (F1 := (15, 27, _, _)) (x_top hv) ?_
  refine Rk.tr (F1 := (15, 28, _, _)) (x_aload_n rfl rfl rfl) ?_
  refine Rk.tr (F1 := (15, 31, _, _)) (m_get rfl rfl (Nat.le_of_ble_eq_true rfl)) ?_
  refine Rk.tr (F1 := (15, 32, _, _)) (x_iload_n rfl rfl) ?_
  refine Rk.tr (F1 := (15, 33, _, _)) (m_iald (k := 16) (n := k) rfl rfl rfl rfl hk) ?_
  refine Rk.tr (F1 := (15, 34, _, _)) (m_iast (k := 20) (n := x) rfl rfl rfl (Nat.le_of_ble_eq_true rfl) rfl hx) ?_
  exact Rk.end rfl (Or.inl ⟨rfl, rfl, rfl, rfl⟩)
theorem c_named {k hd : Nat} (hk : k < 61) (h8 : hd + 1 < 800) (hv : S.2 14 k = nI hd) : Rn E (d + 1) 16 [.ref o, .int (nI k)] (mh g o S) none (mh g o (mNamed S hd)) := by
  refine Rn.of (Nat.le_of_ble_eq_true rfl) ?_
  refine Rk.tr (F1 := (16, 1, _, _)) (x_aload_n rfl rfl rfl) ?_
  refine Rk.tr (F1 := (16, 2, _, _)) (x_dup rfl rfl) ?_
  refine Rk.tr (F1 := (16, 5, _, _)) (m_get rfl rfl (Nat.le_of_ble_eq_true rfl)) ?_
  refine Rk.tr (F1 := (16, 6, _, _)) (x_iconst rfl) ?_
  refine Rk.tr (F1 := (16, 7, _, _)) (x_isub rfl) ?_
  refine Rk.tr (F1 := (16, 10, _, _)) (m_put rfl rfl rfl rfl rfl rfl) ?_
  refine Rk.tr (F1 := (16, 11, _, _)) (x_aload_n rfl rfl rfl) ?_
  refine Rk.tr (F1 := (16, 14, _, _)) (m_call (As := []) rfl rfl rfl (Or.inr rfl) rfl rfl rfl (Nat.le_of_ble_eq_true rfl) c_newName rfl) ?_
  refine Rk.tr (F1 := (16, 15, [_, _, _], _)) (x_istore_n (i := 2) rfl (Nat.le_of_ble_eq_true rfl)) ?_
  refine Rk.tr (F1 := (16, 16, _, _)) (x_aload_n rfl rfl rfl) ?_
  refine Rk.tr (F1 := (16, 19, _, _)) (m_get rfl rfl (Nat.le_of_ble_eq_true rfl)) ?_
  refine Rk.tr (F1 := (16, 20, _, _)) (x_aload_n rfl rfl rfl) ?_
  refine Rk.tr (F1 := (16, 23, _, _)) (m_get rfl rfl (Nat.le_of_ble_eq_true rfl)) ?_
  refine Rk.tr (F1 := (16, 24, _, _)) (x_iload_n rfl rfl) ?_
  refine Rk.tr (F1 := (16, 25, _, _)) (m_iald (k := 14) (n := k) rfl rfl rfl rfl hk) ?_
  refine Rk.tr (F1 := (16, 25, _, _)) (x_top hv) ?_
  refine Rk.tr (F1 := (16, 26, _, _)) (x_iconst rfl) ?_
  refine Rk.tr (F1 := (16, 27, _, _)) (x_iadd rfl) ?_
  refine Rk.tr (F1 := (16, 27, _, _)) (x_top (nI_1 hd)) ?_
  refine Rk.tr (F1 := (16, 28, _, _)) (x_iload_n rfl rfl) ?_
  refine Rk.tr (F1 := (16, 29, _, _)) (m_iast (k := 25) (n := hd + 1) rfl rfl rfl (Nat.le_of_ble_eq_true rfl) rfl h8) ?_
  refine Rk.tr (F1 := (16, 30, _, _)) (x_aload_n rfl rfl rfl) ?_
  refine Rk.tr (F1 := (16, 31, _, _)) (x_iconst rfl) ?_
  refine Rk.tr (F1 := (16, 32, _, _)) (x_iload_n rfl rfl) ?_
  refine Rk.tr (F1 := (16, 35, _, _)) (m_call (As := [_, _]) rfl rfl rfl (Or.inr rfl) rfl rfl rfl (Nat.le_of_ble_eq_true rfl) c_atom rfl) ?_
  refine Rk.tr (F1 := (16, 36, _, _)) (x_aload_n rfl rfl rfl) ?_
  refine Rk.tr (F1 := (16, 37, _, _)) (x_dup rfl rfl) ?_
  refine Rk.tr (F1 := (16, 40, _, _)) (m_get rfl rfl (Nat.le_of_ble_eq_true rfl)) ?_
  refine Rk.tr (F1 := (16, 41, _, _)) (x_iconst rfl) ?_
  refine Rk.tr (F1 := (16, 42, _, _)) (x_isub rfl) ?_
  refine Rk.tr (F1 := (16, 45, _, _)) (m_put rfl rfl rfl rfl rfl rfl) ?_
  exact Rk.end rfl (Or.inl ⟨rfl, rfl, rfl, rfl⟩)
theorem b_end (hp : S.1 9 = nI p) (hn : S.1 1 = nI n) (h60 : n ≤ 60) (h : n ≤ p) (h60p : p ≤ 60) : Rn E (d + 1) 5 [.ref o] (mh g o S) (some (.int (-1))) (mh g o (S)) := by
  refine Rn.of (Nat.le_of_ble_eq_true rfl) ?_
  refine Rk.tr (F1 := (5, 1, _, _)) (x_aload_n rfl rfl rfl) ?_
  refine Rk.tr (F1 := (5, 4, _, _)) (m_get rfl rfl (Nat.le_of_ble_eq_true rfl)) ?_
  refine Rk.tr (F1 := (5, 5, _, _)) (x_aload_n rfl rfl rfl) ?_
  refine Rk.tr (F1 := (5, 8, _, _)) (m_get rfl rfl (Nat.le_of_ble_eq_true rfl)) ?_
  refine Rk.tr (F1 := (5, 11, _, _)) (x_icF rfl (tg := 13) rfl (by show ¬ S.1 9 < S.1 1; rw [hp, hn]; exact Int32.not_lt.mpr (nI_le (by omega) (by omega)))) ?_
  refine Rk.tr (F1 := (5, 12, _, _)) (x_iconst rfl) ?_
  exact Rk.end rfl (Or.inr (Or.inl ⟨rfl, _, .int, rfl, rfl, rfl, rfl⟩))
theorem b_num (hp : S.1 9 = nI p) (hn : S.1 1 = nI n) (h60 : n ≤ 60) (hw : S.2 2 p = 0) (h : p + 1 < n) : Rn E (d + 1) 5 [.ref o] (mh g o S) (some (.int (1))) (mh g o (msI (msI (mNext (mNext S)) 17 0) 18 (S.2 2 (p + 1)))) := by
  refine Rn.of (Nat.le_of_ble_eq_true rfl) ?_
  refine Rk.tr (F1 := (5, 1, _, _)) (x_aload_n rfl rfl rfl) ?_
  refine Rk.tr (F1 := (5, 4, _, _)) (m_get rfl rfl (Nat.le_of_ble_eq_true rfl)) ?_
  refine Rk.tr (F1 := (5, 5, _, _)) (x_aload_n rfl rfl rfl) ?_
  refine Rk.tr (F1 := (5, 8, _, _)) (m_get rfl rfl (Nat.le_of_ble_eq_true rfl)) ?_
  refine Rk.tr (F1 := (5, 13, _, _)) (x_icT rfl (tg := 13) rfl (by show S.1 9 < S.1 1; rw [hp, hn]; exact Int32.not_le.mp (nI_ge (by omega) (by omega)))) ?_
  refine Rk.tr (F1 := (5, 14, _, _)) (x_aload_n rfl rfl rfl) ?_
  refine Rk.tr (F1 := (5, 17, _, _)) (m_call (As := []) rfl rfl rfl (Or.inr rfl) rfl rfl rfl (Nat.le_of_ble_eq_true rfl) (c_next hp hn (by omega) h60) rfl) ?_
  refine Rk.tr (F1 := (5, 17, _, _)) (x_top hw) ?_
  refine Rk.tr (F1 := (5, 18, [_, _, _, _], _)) (x_istore_n (i := 1) rfl (Nat.le_of_ble_eq_true rfl)) ?_
  refine Rk.tr (F1 := (5, 19, _, _)) (x_iload_n rfl rfl) ?_
  refine Rk.tr (F1 := (5, 27, _, _)) (x_ifT rfl (tg := 27) rfl rfl) ?_
  refine Rk.tr (F1 := (5, 28, _, _)) (x_aload_n rfl rfl rfl) ?_
  refine Rk.tr (F1 := (5, 31, _, _)) (m_get rfl rfl (Nat.le_of_ble_eq_true rfl)) ?_
  refine Rk.tr (F1 := (5, 32, _, _)) (x_aload_n rfl rfl rfl) ?_
  refine Rk.tr (F1 := (5, 35, _, _)) (m_get rfl rfl (Nat.le_of_ble_eq_true rfl)) ?_
  refine Rk.tr (F1 := (5, 40, _, _)) (x_icT rfl (tg := 40) rfl (by show S.1 9 + 1 < S.1 1; rw [hp, hn, nI_1]; exact Int32.not_le.mp (nI_ge (by omega) (by omega)))) ?_
  refine Rk.tr (F1 := (5, 41, _, _)) (x_aload_n rfl rfl rfl) ?_
  refine Rk.tr (F1 := (5, 44, _, _)) (m_call (As := []) rfl rfl rfl (Or.inr rfl) rfl rfl rfl (Nat.le_of_ble_eq_true rfl) (c_next (p := p + 1) (by show S.1 9 + 1 = _; rw [hp, nI_1]) hn (by omega) h60) rfl) ?_
  refine Rk.tr (F1 := (5, 45, [_, _, _, _], _)) (x_istore_n (i := 2) rfl (Nat.le_of_ble_eq_true rfl)) ?_
  refine Rk.tr (F1 := (5, 46, _, _)) (x_iload_n rfl rfl) ?_
  refine Rk.tr (F1 := (5, 49, _, _)) (x_ifF rfl (tg := 57) rfl (fun q => q rfl)) ?_
  refine Rk.tr (F1 := (5, 50, _, _)) (x_aload_n rfl rfl rfl) ?_
  refine Rk.tr (F1 := (5, 51, _, _)) (x_iconst rfl) ?_
  refine Rk.tr (F1 := (5, 52, _, _)) (x_iload_n rfl rfl) ?_
  refine Rk.tr (F1 := (5, 55, _, _)) (m_call (As := [_, _]) rfl rfl rfl (Or.inr rfl) rfl rfl rfl (Nat.le_of_ble_eq_true rfl) c_atom rfl) ?_
  refine Rk.tr (F1 := (5, 56, _, _)) (x_iconst rfl) ?_
  exact Rk.end rfl (Or.inr (Or.inl ⟨rfl, _, .int, rfl, rfl, rfl, rfl⟩))
theorem b_num1 (hp : S.1 9 = nI p) (hn : S.1 1 = nI n) (h60 : n ≤ 60) (hw : S.2 2 p = 0) (h : p < n) (h1 : n ≤ p + 1) : Rn E (d + 1) 5 [.ref o] (mh g o S) (some (.int (-1))) (mh g o (mNext S)) := by
  refine Rn.of (Nat.le_of_ble_eq_true rfl) ?_
  refine Rk.tr (F1 := (5, 1, _, _)) (x_aload_n rfl rfl rfl) ?_
  refine Rk.tr (F1 := (5, 4, _, _)) (m_get rfl rfl (Nat.le_of_ble_eq_true rfl)) ?_
  refine Rk.tr (F1 := (5, 5, _, _)) (x_aload_n rfl rfl rfl) ?_
  refine Rk.tr (F1 := (5, 8, _, _)) (m_get rfl rfl (Nat.le_of_ble_eq_true rfl)) ?_
  refine Rk.tr (F1 := (5, 13, _, _)) (x_icT rfl (tg := 13) rfl (by show S.1 9 < S.1 1; rw [hp, hn]; exact Int32.not_le.mp (nI_ge (by omega) (by omega)))) ?_
  refine Rk.tr (F1 := (5, 14, _, _)) (x_aload_n rfl rfl rfl) ?_
  refine Rk.tr (F1 := (5, 17, _, _)) (m_call (As := []) rfl rfl rfl (Or.inr rfl) rfl rfl rfl (Nat.le_of_ble_eq_true rfl) (c_next hp hn (by omega) h60) rfl) ?_
  refine Rk.tr (F1 := (5, 17, _, _)) (x_top hw) ?_
  refine Rk.tr (F1 := (5, 18, [_, _, _, _], _)) (x_istore_n (i := 1) rfl (Nat.le_of_ble_eq_true rfl)) ?_
  refine Rk.tr (F1 := (5, 19, _, _)) (x_iload_n rfl rfl) ?_
  refine Rk.tr (F1 := (5, 27, _, _)) (x_ifT rfl (tg := 27) rfl rfl) ?_
  refine Rk.tr (F1 := (5, 28, _, _)) (x_aload_n rfl rfl rfl) ?_
  refine Rk.tr (F1 := (5, 31, _, _)) (m_get rfl rfl (Nat.le_of_ble_eq_true rfl)) ?_
  refine Rk.tr (F1 := (5, 32, _, _)) (x_aload_n rfl rfl rfl) ?_
  refine Rk.tr (F1 := (5, 35, _, _)) (m_get rfl rfl (Nat.le_of_ble_eq_true rfl)) ?_
  refine Rk.tr (F1 := (5, 38, _, _)) (x_icF rfl (tg := 40) rfl (by show ¬ S.1 9 + 1 < S.1 1; rw [hp, hn, nI_1]; exact Int32.not_lt.mpr (nI_le (by omega) (by omega)))) ?_
  refine Rk.tr (F1 := (5, 39, _, _)) (x_iconst rfl) ?_
  exact Rk.end rfl (Or.inr (Or.inl ⟨rfl, _, .int, rfl, rfl, rfl, rfl⟩))
theorem b_var1 (hp : S.1 9 = nI p) (hn : S.1 1 = nI n) (h60 : n ≤ 60) (hw : S.2 2 p = 1) (h : p < n) (h1 : n ≤ p + 1) : Rn E (d + 1) 5 [.ref o] (mh g o S) (some (.int (-1))) (mh g o (mNext S)) := by
  refine Rn.of (Nat.le_of_ble_eq_true rfl) ?_
  refine Rk.tr (F1 := (5, 1, _, _)) (x_aload_n rfl rfl rfl) ?_
  refine Rk.tr (F1 := (5, 4, _, _)) (m_get rfl rfl (Nat.le_of_ble_eq_true rfl)) ?_
  refine Rk.tr (F1 := (5, 5, _, _)) (x_aload_n rfl rfl rfl) ?_
  refine Rk.tr (F1 := (5, 8, _, _)) (m_get rfl rfl (Nat.le_of_ble_eq_true rfl)) ?_
  refine Rk.tr (F1 := (5, 13, _, _)) (x_icT rfl (tg := 13) rfl (by show S.1 9 < S.1 1; rw [hp, hn]; exact Int32.not_le.mp (nI_ge (by omega) (by omega)))) ?_
  refine Rk.tr (F1 := (5, 14, _, _)) (x_aload_n rfl rfl rfl) ?_
  refine Rk.tr (F1 := (5, 17, _, _)) (m_call (As := []) rfl rfl rfl (Or.inr rfl) rfl rfl rfl (Nat.le_of_ble_eq_true rfl) (c_next hp hn (by omega) h60) rfl) ?_
  refine Rk.tr (F1 := (5, 17, _, _)) (x_top hw) ?_
  refine Rk.tr (F1 := (5, 18, [_, _, _, _], _)) (x_istore_n (i := 1) rfl (Nat.le_of_ble_eq_true rfl)) ?_
  refine Rk.tr (F1 := (5, 19, _, _)) (x_iload_n rfl rfl) ?_
  refine Rk.tr (F1 := (5, 22, _, _)) (x_ifF rfl (tg := 27) rfl (show ¬ (1 : Int32) = 0 by decide)) ?_
  refine Rk.tr (F1 := (5, 23, _, _)) (x_iload_n rfl rfl) ?_
  refine Rk.tr (F1 := (5, 24, _, _)) (x_iconst rfl) ?_
  refine Rk.tr (F1 := (5, 27, _, _)) (x_icF rfl (tg := 96) rfl (fun q => q rfl)) ?_
  refine Rk.tr (F1 := (5, 28, _, _)) (x_aload_n rfl rfl rfl) ?_
  refine Rk.tr (F1 := (5, 31, _, _)) (m_get rfl rfl (Nat.le_of_ble_eq_true rfl)) ?_
  refine Rk.tr (F1 := (5, 32, _, _)) (x_aload_n rfl rfl rfl) ?_
  refine Rk.tr (F1 := (5, 35, _, _)) (m_get rfl rfl (Nat.le_of_ble_eq_true rfl)) ?_
  refine Rk.tr (F1 := (5, 38, _, _)) (x_icF rfl (tg := 40) rfl (by show ¬ S.1 9 + 1 < S.1 1; rw [hp, hn, nI_1]; exact Int32.not_lt.mpr (nI_le (by omega) (by omega)))) ?_
  refine Rk.tr (F1 := (5, 39, _, _)) (x_iconst rfl) ?_
  exact Rk.end rfl (Or.inr (Or.inl ⟨rfl, _, .int, rfl, rfl, rfl, rfl⟩))
theorem b_var (hp : S.1 9 = nI p) (hn : S.1 1 = nI n) (h60 : n ≤ 60) {x : Nat} (hw : S.2 2 p = 1) (h : p + 1 < n) (hx : x < 10) (hv : S.2 2 (p + 1) = nI x) (hm : 0 ≤ S.2 19 x) : Rn E (d + 1) 5 [.ref o] (mh g o S) (some (.int (1))) (mh g o (msI (msI (mNext (mNext S)) 17 (S.2 19 x)) 18 (S.2 20 x))) := by
  refine Rn.of (Nat.le_of_ble_eq_true rfl) ?_
  refine Rk.tr (F1 := (5, 1, _, _)) (x_aload_n rfl rfl rfl) ?_
  refine Rk.tr (F1 := (5, 4, _, _)) (m_get rfl rfl (Nat.le_of_ble_eq_true rfl)) ?_
  refine Rk.tr (F1 := (5, 5, _, _)) (x_aload_n rfl rfl rfl) ?_
  refine Rk.tr (F1 := (5, 8, _, _)) (m_get rfl rfl (Nat.le_of_ble_eq_true rfl)) ?_
  refine Rk.tr (F1 := (5, 13, _, _)) (x_icT rfl (tg := 13) rfl (by show S.1 9 < S.1 1; rw [hp, hn]; exact Int32.not_le.mp (nI_ge (by omega) (by omega)))) ?_
  refine Rk.tr (F1 := (5, 14, _, _)) (x_aload_n rfl rfl rfl) ?_
  refine Rk.tr (F1 := (5, 17, _, _)) (m_call (As := []) rfl rfl rfl (Or.inr rfl) rfl rfl rfl (Nat.le_of_ble_eq_true rfl) (c_next hp hn (by omega) h60) rfl) ?_
  refine Rk.tr (F1 := (5, 17, _, _)) (x_top hw) ?_
  refine Rk.tr (F1 := (5, 18, [_, _, _, _], _)) (x_istore_n (i := 1) rfl (Nat.le_of_ble_eq_true rfl)) ?_
  refine Rk.tr (F1 := (5, 19, _, _)) (x_iload_n rfl rfl) ?_
  refine Rk.tr (F1 := (5, 22, _, _)) (x_ifF rfl (tg := 27) rfl (show ¬ (1 : Int32) = 0 by decide)) ?_
  refine Rk.tr (F1 := (5, 23, _, _)) (x_iload_n rfl rfl) ?_
  refine Rk.tr (F1 := (5, 24, _, _)) (x_iconst rfl) ?_
  refine Rk.tr (F1 := (5, 27, _, _)) (x_icF rfl (tg := 96) rfl (fun q => q rfl)) ?_
  refine Rk.tr (F1 := (5, 28, _, _)) (x_aload_n rfl rfl rfl) ?_
  refine Rk.tr (F1 := (5, 31, _, _)) (m_get rfl rfl (Nat.le_of_ble_eq_true rfl)) ?_
  refine Rk.tr (F1 := (5, 32, _, _)) (x_aload_n rfl rfl rfl) ?_
  refine Rk.tr (F1 := (5, 35, _, _)) (m_get rfl rfl (Nat.le_of_ble_eq_true rfl)) ?_
  refine Rk.tr (F1 := (5, 40, _, _)) (x_icT rfl (tg := 40) rfl (by show S.1 9 + 1 < S.1 1; rw [hp, hn, nI_1]; exact Int32.not_le.mp (nI_ge (by omega) (by omega)))) ?_
  refine Rk.tr (F1 := (5, 41, _, _)) (x_aload_n rfl rfl rfl) ?_
  refine Rk.tr (F1 := (5, 44, _, _)) (m_call (As := []) rfl rfl rfl (Or.inr rfl) rfl rfl rfl (Nat.le_of_ble_eq_true rfl) (c_next (p := p + 1) (by show S.1 9 + 1 = _; rw [hp, nI_1]) hn (by omega) h60) rfl) ?_
  refine Rk.tr (F1 := (5, 44, _, _)) (x_top hv) ?_
  refine Rk.tr (F1 := (5, 45, [_, _, _, _], _)) (x_istore_n (i := 2) rfl (Nat.le_of_ble_eq_true rfl)) ?_
  refine Rk.tr (F1 := (5, 46, _, _)) (x_iload_n rfl rfl) ?_
  refine Rk.tr (F1 := (5, 57, _, _)) (x_ifT rfl (tg := 57) rfl (show ¬ (1 : Int32) = 0 by decide)) ?_
  refine Rk.tr (F1 := (5, 58, _, _)) (x_iload_n rfl rfl) ?_
  refine Rk.tr (F1 := (5, 61, _, _)) (x_ifF rfl (tg := 76) rfl (show ¬ nI x < nI 0 from Int32.not_lt.mpr (nI_le (by omega) (by omega)))) ?_
  refine Rk.tr (F1 := (5, 62, _, _)) (x_iload_n rfl rfl) ?_
  refine Rk.tr (F1 := (5, 64, _, _)) (x_bipush rfl) ?_
  refine Rk.tr (F1 := (5, 67, _, _)) (x_icF rfl (tg := 76) rfl (show ¬ nI 9 < nI x from Int32.not_lt.mpr (nI_le (by omega) (by omega)))) ?_
  refine Rk.tr (F1 := (5, 68, _, _)) (x_aload_n rfl rfl rfl) ?_
  refine Rk.tr (F1 := (5, 71, _, _)) (m_get rfl rfl (Nat.le_of_ble_eq_true rfl)) ?_
  refine Rk.tr (F1 := (5, 72, _, _)) (x_iload_n rfl rfl) ?_
  refine Rk.tr (F1 := (5, 73, _, _)) (m_iald (k := 19) (n := x) rfl rfl rfl rfl hx) ?_
  refine Rk.tr (F1 := (5, 78, _, _)) (x_ifT rfl (tg := 78) rfl hm) ?_
  refine Rk.tr (F1 := (5, 79, _, _)) (x_aload_n rfl rfl rfl) ?_
  refine Rk.tr (F1 := (5, 80, _, _)) (x_aload_n rfl rfl rfl) ?_
  refine Rk.tr (F1 := (5, 83, _, _)) (m_get rfl rfl (Nat.le_of_ble_eq_true rfl)) ?_
  refine Rk.tr (F1 := (5, 84, _, _)) (x_iload_n rfl rfl) ?_
  refine Rk.tr (F1 := (5, 85, _, _)) (m_iald (k := 19) (n := x) rfl rfl rfl rfl hx) ?_
  refine Rk.tr (F1 := (5, 86, _, _)) (x_aload_n rfl rfl rfl) ?_
  refine Rk.tr (F1 := (5, 89, _, _)) (m_get rfl rfl (Nat.le_of_ble_eq_true rfl)) ?_
  refine Rk.tr (F1 := (5, 90, _, _)) (x_iload_n rfl rfl) ?_
  refine Rk.tr (F1 := (5, 91, _, _)) (m_iald (k := 20) (n := x) rfl rfl rfl rfl hx) ?_
  refine Rk.tr (F1 := (5, 94, _, _)) (m_call (As := [_, _]) rfl rfl rfl (Or.inr rfl) rfl rfl rfl (Nat.le_of_ble_eq_true rfl) c_atom rfl) ?_
  refine Rk.tr (F1 := (5, 95, _, _)) (x_iconst rfl) ?_
  exact Rk.end rfl (Or.inr (Or.inl ⟨rfl, _, .int, rfl, rfl, rfl, rfl⟩))
theorem b_varF (hp : S.1 9 = nI p) (hn : S.1 1 = nI n) (h60 : n ≤ 60) {x : Nat} (hw : S.2 2 p = 1) (h : p + 1 < n) (hx : x < 10) (hv : S.2 2 (p + 1) = nI x) (hm : S.2 19 x < 0) : Rn E (d + 1) 5 [.ref o] (mh g o S) (some (.int (-1))) (mh g o (mNext (mNext S))) := by
  refine Rn.of (Nat.le_of_ble_eq_true rfl) ?_
  refine Rk.tr (F1 := (5, 1, _, _)) (x_aload_n rfl rfl rfl) ?_
  refine Rk.tr (F1 := (5, 4, _, _)) (m_get rfl rfl (Nat.le_of_ble_eq_true rfl)) ?_
  refine Rk.tr (F1 := (5, 5, _, _)) (x_aload_n rfl rfl rfl) ?_
  refine Rk.tr (F1 := (5, 8, _, _)) (m_get rfl rfl (Nat.le_of_ble_eq_true rfl)) ?_
  refine Rk.tr (F1 := (5, 13, _, _)) (x_icT rfl (tg := 13) rfl (by show S.1 9 < S.1 1; rw [hp, hn]; exact Int32.not_le.mp (nI_ge (by omega) (by omega)))) ?_
  refine Rk.tr (F1 := (5, 14, _, _)) (x_aload_n rfl rfl rfl) ?_
  refine Rk.tr (F1 := (5, 17, _, _)) (m_call (As := []) rfl rfl rfl (Or.inr rfl) rfl rfl rfl (Nat.le_of_ble_eq_true rfl) (c_next hp hn (by omega) h60) rfl) ?_
  refine Rk.tr (F1 := (5, 17, _, _)) (x_top hw) ?_
  refine Rk.tr (F1 := (5, 18, [_, _, _, _], _)) (x_istore_n (i := 1) rfl (Nat.le_of_ble_eq_true rfl)) ?_
  refine Rk.tr (F1 := (5, 19, _, _)) (x_iload_n rfl rfl) ?_
  refine Rk.tr (F1 := (5, 22, _, _)) (x_ifF rfl (tg := 27) rfl (show ¬ (1 : Int32) = 0 by decide)) ?_
  refine Rk.tr (F1 := (5, 23, _, _)) (x_iload_n rfl rfl) ?_
  refine Rk.tr (F1 := (5, 24, _, _)) (x_iconst rfl) ?_
  refine Rk.tr (F1 := (5, 27, _, _)) (x_icF rfl (tg := 96) rfl (fun q => q rfl)) ?_
  refine Rk.tr (F1 := (5, 28, _, _)) (x_aload_n rfl rfl rfl) ?_
  refine Rk.tr (F1 := (5, 31, _, _)) (m_get rfl rfl (Nat.le_of_ble_eq_true rfl)) ?_
  refine Rk.tr (F1 := (5, 32, _, _)) (x_aload_n rfl rfl rfl) ?_
  refine Rk.tr (F1 := (5, 35, _, _)) (m_get rfl rfl (Nat.le_of_ble_eq_true rfl)) ?_
  refine Rk.tr (F1 := (5, 40, _, _)) (x_icT rfl (tg := 40) rfl (by show S.1 9 + 1 < S.1 1; rw [hp, hn, nI_1]; exact Int32.not_le.mp (nI_ge (by omega) (by omega)))) ?_
  refine Rk.tr (F1 := (5, 41, _, _)) (x_aload_n rfl rfl rfl) ?_
  refine Rk.tr (F1 := (5, 44, _, _)) (m_call (As := []) rfl rfl rfl (Or.inr rfl) rfl rfl rfl (Nat.le_of_ble_eq_true rfl) (c_next (p := p + 1) (by show S.1 9 + 1 = _; rw [hp, nI_1]) hn (by omega) h60) rfl) ?_
  refine Rk.tr (F1 := (5, 44, _, _)) (x_top hv) ?_
  refine Rk.tr (F1 := (5, 45, [_, _, _, _], _)) (x_istore_n (i := 2) rfl (Nat.le_of_ble_eq_true rfl)) ?_
  refine Rk.tr (F1 := (5, 46, _, _)) (x_iload_n rfl rfl) ?_
  refine Rk.tr (F1 := (5, 57, _, _)) (x_ifT rfl (tg := 57) rfl (show ¬ (1 : Int32) = 0 by decide)) ?_
  refine Rk.tr (F1 := (5, 58, _, _)) (x_iload_n rfl rfl) ?_
  refine Rk.tr (F1 := (5, 61, _, _)) (x_ifF rfl (tg := 76) rfl (show ¬ nI x < nI 0 from Int32.not_lt.mpr (nI_le (by omega) (by omega)))) ?_
  refine Rk.tr (F1 := (5, 62, _, _)) (x_iload_n rfl rfl) ?_
  refine Rk.tr (F1 := (5, 64, _, _)) (x_bipush rfl) ?_
  refine Rk.tr (F1 := (5, 67, _, _)) (x_icF rfl (tg := 76) rfl (show ¬ nI 9 < nI x from Int32.not_lt.mpr (nI_le (by omega) (by omega)))) ?_
  refine Rk.tr (F1 := (5, 68, _, _)) (x_aload_n rfl rfl rfl) ?_
  refine Rk.tr (F1 := (5, 71, _, _)) (m_get rfl rfl (Nat.le_of_ble_eq_true rfl)) ?_
  refine Rk.tr (F1 := (5, 72, _, _)) (x_iload_n rfl rfl) ?_
  refine Rk.tr (F1 := (5, 73, _, _)) (m_iald (k := 19) (n := x) rfl rfl rfl rfl hx) ?_
  refine Rk.tr (F1 := (5, 76, _, _)) (x_ifF rfl (tg := 78) rfl (Int32.not_le.mpr hm)) ?_
  refine Rk.tr (F1 := (5, 77, _, _)) (x_iconst rfl) ?_
  exact Rk.end rfl (Or.inr (Or.inl ⟨rfl, _, .int, rfl, rfl, rfl, rfl⟩))
theorem b_varL (hp : S.1 9 = nI p) (hn : S.1 1 = nI n) (h60 : n ≤ 60) (hw : S.2 2 p = 1) (h : p + 1 < n) (hv : S.2 2 (p + 1) < 0) : Rn E (d + 1) 5 [.ref o] (mh g o S) (some (.int (-1))) (mh g o (mNext (mNext S))) := by
  refine Rn.of (Nat.le_of_ble_eq_true rfl) ?_
  refine Rk.tr (F1 := (5, 1, _, _)) (x_aload_n rfl rfl rfl) ?_
  refine Rk.tr (F1 := (5, 4, _, _)) (m_get rfl rfl (Nat.le_of_ble_eq_true rfl)) ?_
  refine Rk.tr (F1 := (5, 5, _, _)) (x_aload_n rfl rfl rfl) ?_
  refine Rk.tr (F1 := (5, 8, _, _)) (m_get rfl rfl (Nat.le_of_ble_eq_true rfl)) ?_
  refine Rk.tr (F1 := (5, 13, _, _)) (x_icT rfl (tg := 13) rfl (by show S.1 9 < S.1 1; rw [hp, hn]; exact Int32.not_le.mp (nI_ge (by omega) (by omega)))) ?_
  refine Rk.tr (F1 := (5, 14, _, _)) (x_aload_n rfl rfl rfl) ?_
  refine Rk.tr (F1 := (5, 17, _, _)) (m_call (As := []) rfl rfl rfl (Or.inr rfl) rfl rfl rfl (Nat.le_of_ble_eq_true rfl) (c_next hp hn (by omega) h60) rfl) ?_
  refine Rk.tr (F1 := (5, 17, _, _)) (x_top hw) ?_
  refine Rk.tr (F1 := (5, 18, [_, _, _, _], _)) (x_istore_n (i := 1) rfl (Nat.le_of_ble_eq_true rfl)) ?_
  refine Rk.tr (F1 := (5, 19, _, _)) (x_iload_n rfl rfl) ?_
  refine Rk.tr (F1 := (5, 22, _, _)) (x_ifF rfl (tg := 27) rfl (show ¬ (1 : Int32) = 0 by decide)) ?_
  refine Rk.tr (F1 := (5, 23, _, _)) (x_iload_n rfl rfl) ?_
  refine Rk.tr (F1 := (5, 24, _, _)) (x_iconst rfl) ?_
  refine Rk.tr (F1 := (5, 27, _, _)) (x_icF rfl (tg := 96) rfl (fun q => q rfl)) ?_
  refine Rk.tr (F1 := (5, 28, _, _)) (x_aload_n rfl rfl rfl) ?_
  refine Rk.tr (F1 := (5, 31, _, _)) (m_get rfl rfl (Nat.le_of_ble_eq_true rfl)) ?_
  refine Rk.tr (F1 := (5, 32, _, _)) (x_aload_n rfl rfl rfl) ?_
  refine Rk.tr (F1 := (5, 35, _, _)) (m_get rfl rfl (Nat.le_of_ble_eq_true rfl)) ?_
  refine Rk.tr (F1 := (5, 40, _, _)) (x_icT rfl (tg := 40) rfl (by show S.1 9 + 1 < S.1 1; rw [hp, hn, nI_1]; exact Int32.not_le.mp (nI_ge (by omega) (by omega)))) ?_
  refine Rk.tr (F1 := (5, 41, _, _)) (x_aload_n rfl rfl rfl) ?_
  refine Rk.tr (F1 := (5, 44, _, _)) (m_call (As := []) rfl rfl rfl (Or.inr rfl) rfl rfl rfl (Nat.le_of_ble_eq_true rfl) (c_next (p := p + 1) (by show S.1 9 + 1 = _; rw [hp, nI_1]) hn (by omega) h60) rfl) ?_
  refine Rk.tr (F1 := (5, 45, [_, _, _, _], _)) (x_istore_n (i := 2) rfl (Nat.le_of_ble_eq_true rfl)) ?_
  refine Rk.tr (F1 := (5, 46, _, _)) (x_iload_n rfl rfl) ?_
  refine Rk.tr (F1 := (5, 57, _, _)) (x_ifT rfl (tg := 57) rfl (show ¬ (1 : Int32) = 0 by decide)) ?_
  refine Rk.tr (F1 := (5, 58, _, _)) (x_iload_n rfl rfl) ?_
  refine Rk.tr (F1 := (5, 76, _, _)) (x_ifT rfl (tg := 76) rfl hv) ?_
  refine Rk.tr (F1 := (5, 77, _, _)) (x_iconst rfl) ?_
  exact Rk.end rfl (Or.inr (Or.inl ⟨rfl, _, .int, rfl, rfl, rfl, rfl⟩))
theorem b_varG (hp : S.1 9 = nI p) (hn : S.1 1 = nI n) (h60 : n ≤ 60) (hw : S.2 2 p = 1) (h : p + 1 < n) (hv : ¬ S.2 2 (p + 1) < 0) (hv2 : 9 < S.2 2 (p + 1)) : Rn E (d + 1) 5 [.ref o] (mh g o S) (some (.int (-1))) (mh g o (mNext (mNext S))) := by
  refine Rn.of (Nat.le_of_ble_eq_true rfl) ?_
  refine Rk.tr (F1 := (5, 1, _, _)) (x_aload_n rfl rfl rfl) ?_
  refine Rk.tr (F1 := (5, 4, _, _)) (m_get rfl rfl (Nat.le_of_ble_eq_true rfl)) ?_
  refine Rk.tr (F1 := (5, 5, _, _)) (x_aload_n rfl rfl rfl) ?_
  refine Rk.tr (F1 := (5, 8, _, _)) (m_get rfl rfl (Nat.le_of_ble_eq_true rfl)) ?_
  refine Rk.tr (F1 := (5, 13, _, _)) (x_icT rfl (tg := 13) rfl (by show S.1 9 < S.1 1; rw [hp, hn]; exact Int32.not_le.mp (nI_ge (by omega) (by omega)))) ?_
  refine Rk.tr (F1 := (5, 14, _, _)) (x_aload_n rfl rfl rfl) ?_
  refine Rk.tr (F1 := (5, 17, _, _)) (m_call (As := []) rfl rfl rfl (Or.inr rfl) rfl rfl rfl (Nat.le_of_ble_eq_true rfl) (c_next hp hn (by omega) h60) rfl) ?_
  refine Rk.tr (F1 := (5, 17, _, _)) (x_top hw) ?_
  refine Rk.tr (F1 := (5, 18, [_, _, _, _], _)) (x_istore_n (i := 1) rfl (Nat.le_of_ble_eq_true rfl)) ?_
  refine Rk.tr (F1 := (5, 19, _, _)) (x_iload_n rfl rfl) ?_
  refine Rk.tr (F1 := (5, 22, _, _)) (x_ifF rfl (tg := 27) rfl (show ¬ (1 : Int32) = 0 by decide)) ?_
  refine Rk.tr (F1 := (5, 23, _, _)) (x_iload_n rfl rfl) ?_
  refine Rk.tr (F1 := (5, 24, _, _)) (x_iconst rfl) ?_
  refine Rk.tr (F1 := (5, 27, _, _)) (x_icF rfl (tg := 96) rfl (fun q => q rfl)) ?_
  refine Rk.tr (F1 := (5, 28, _, _)) (x_aload_n rfl rfl rfl) ?_
  refine Rk.tr (F1 := (5, 31, _, _)) (m_get rfl rfl (Nat.le_of_ble_eq_true rfl)) ?_
  refine Rk.tr (F1 := (5, 32, _, _)) (x_aload_n rfl rfl rfl) ?_
  refine Rk.tr (F1 := (5, 35, _, _)) (m_get rfl rfl (Nat.le_of_ble_eq_true rfl)) ?_
  refine Rk.tr (F1 := (5, 40, _, _)) (x_icT rfl (tg := 40) rfl (by show S.1 9 + 1 < S.1 1; rw [hp, hn, nI_1]; exact Int32.not_le.mp (nI_ge (by omega) (by omega)))) ?_
  refine Rk.tr (F1 := (5, 41, _, _)) (x_aload_n rfl rfl rfl) ?_
  refine Rk.tr (F1 := (5, 44, _, _)) (m_call (As := []) rfl rfl rfl (Or.inr rfl) rfl rfl rfl (Nat.le_of_ble_eq_true rfl) (c_next (p := p + 1) (by show S.1 9 + 1 = _; rw [hp, nI_1]) hn (by omega) h60) rfl) ?_
  refine Rk.tr (F1 := (5, 45, [_, _, _, _], _)) (x_istore_n (i := 2) rfl (Nat.le_of_ble_eq_true rfl)) ?_
  refine Rk.tr (F1 := (5, 46, _, _)) (x_iload_n rfl rfl) ?_
  refine Rk.tr (F1 := (5, 57, _, _)) (x_ifT rfl (tg := 57) rfl (show ¬ (1 : Int32) = 0 by decide)) ?_
  refine Rk.tr (F1 := (5, 58, _, _)) (x_iload_n rfl rfl) ?_
  refine Rk.tr (F1 := (5, 61, _, _)) (x_ifF rfl (tg := 76) rfl hv) ?_
  refine Rk.tr (F1 := (5, 62, _, _)) (x_iload_n rfl rfl) ?_
  refine Rk.tr (F1 := (5, 64, _, _)) (x_bipush rfl) ?_
  refine Rk.tr (F1 := (5, 76, _, _)) (x_icT rfl (tg := 76) rfl hv2) ?_
  refine Rk.tr (F1 := (5, 77, _, _)) (x_iconst rfl) ?_
  exact Rk.end rfl (Or.inr (Or.inl ⟨rfl, _, .int, rfl, rfl, rfl, rfl⟩))
theorem b_low (hp : S.1 9 = nI p) (hn : S.1 1 = nI n) (h60 : n ≤ 60) (h : p < n) (hw : S.2 2 p < 0) : Rn E (d + 1) 5 [.ref o] (mh g o S) (some (.int (-1))) (mh g o (mNext S)) := by
  refine Rn.of (Nat.le_of_ble_eq_true rfl) ?_
  refine Rk.tr (F1 := (5, 1, _, _)) (x_aload_n rfl rfl rfl) ?_
  refine Rk.tr (F1 := (5, 4, _, _)) (m_get rfl rfl (Nat.le_of_ble_eq_true rfl)) ?_
  refine Rk.tr (F1 := (5, 5, _, _)) (x_aload_n rfl rfl rfl) ?_
  refine Rk.tr (F1 := (5, 8, _, _)) (m_get rfl rfl (Nat.le_of_ble_eq_true rfl)) ?_
  refine Rk.tr (F1 := (5, 13, _, _)) (x_icT rfl (tg := 13) rfl (by show S.1 9 < S.1 1; rw [hp, hn]; exact Int32.not_le.mp (nI_ge (by omega) (by omega)))) ?_
  refine Rk.tr (F1 := (5, 14, _, _)) (x_aload_n rfl rfl rfl) ?_
  refine Rk.tr (F1 := (5, 17, _, _)) (m_call (As := []) rfl rfl rfl (Or.inr rfl) rfl rfl rfl (Nat.le_of_ble_eq_true rfl) (c_next hp hn (by omega) h60) rfl) ?_
  refine Rk.tr (F1 := (5, 18, [_, _, _, _], _)) (x_istore_n (i := 1) rfl (Nat.le_of_ble_eq_true rfl)) ?_
  refine Rk.tr (F1 := (5, 19, _, _)) (x_iload_n rfl rfl) ?_
  refine Rk.tr (F1 := (5, 22, _, _)) (x_ifF rfl (tg := 27) rfl (fun z => absurd (show S.2 2 p < 0 from hw) (by rw [show S.2 2 p = 0 from z]; decide))) ?_
  refine Rk.tr (F1 := (5, 23, _, _)) (x_iload_n rfl rfl) ?_
  refine Rk.tr (F1 := (5, 24, _, _)) (x_iconst rfl) ?_
  refine Rk.tr (F1 := (5, 96, _, _)) (x_icT rfl (tg := 96) rfl (fun z => absurd (show S.2 2 p < 0 from hw) (by rw [show S.2 2 p = 1 from z]; decide))) ?_
  refine Rk.tr (F1 := (5, 97, _, _)) (x_iload_n rfl rfl) ?_
  refine Rk.tr (F1 := (5, 106, _, _)) (x_ifT rfl (tg := 106) rfl hw) ?_
  refine Rk.tr (F1 := (5, 107, _, _)) (x_iconst rfl) ?_
  exact Rk.end rfl (Or.inr (Or.inl ⟨rfl, _, .int, rfl, rfl, rfl, rfl⟩))
theorem b_high (hp : S.1 9 = nI p) (hn : S.1 1 = nI n) (h60 : n ≤ 60) (h : p < n) (hw : 6 < S.2 2 p) : Rn E (d + 1) 5 [.ref o] (mh g o S) (some (.int (-1))) (mh g o (mNext S)) := by
  refine Rn.of (Nat.le_of_ble_eq_true rfl) ?_
  refine Rk.tr (F1 := (5, 1, _, _)) (x_aload_n rfl rfl rfl) ?_
  refine Rk.tr (F1 := (5, 4, _, _)) (m_get rfl rfl (Nat.le_of_ble_eq_true rfl)) ?_
  refine Rk.tr (F1 := (5, 5, _, _)) (x_aload_n rfl rfl rfl) ?_
  refine Rk.tr (F1 := (5, 8, _, _)) (m_get rfl rfl (Nat.le_of_ble_eq_true rfl)) ?_
  refine Rk.tr (F1 := (5, 13, _, _)) (x_icT rfl (tg := 13) rfl (by show S.1 9 < S.1 1; rw [hp, hn]; exact Int32.not_le.mp (nI_ge (by omega) (by omega)))) ?_
  refine Rk.tr (F1 := (5, 14, _, _)) (x_aload_n rfl rfl rfl) ?_
  refine Rk.tr (F1 := (5, 17, _, _)) (m_call (As := []) rfl rfl rfl (Or.inr rfl) rfl rfl rfl (Nat.le_of_ble_eq_true rfl) (c_next hp hn (by omega) h60) rfl) ?_
  refine Rk.tr (F1 := (5, 18, [_, _, _, _], _)) (x_istore_n (i := 1) rfl (Nat.le_of_ble_eq_true rfl)) ?_
  refine Rk.tr (F1 := (5, 19, _, _)) (x_iload_n rfl rfl) ?_
  refine Rk.tr (F1 := (5, 22, _, _)) (x_ifF rfl (tg := 27) rfl (fun z => absurd (show 6 < S.2 2 p from hw) (by rw [show S.2 2 p = 0 from z]; decide))) ?_
  refine Rk.tr (F1 := (5, 23, _, _)) (x_iload_n rfl rfl) ?_
  refine Rk.tr (F1 := (5, 24, _, _)) (x_iconst rfl) ?_
  refine Rk.tr (F1 := (5, 96, _, _)) (x_icT rfl (tg := 96) rfl (fun z => absurd (show 6 < S.2 2 p from hw) (by rw [show S.2 2 p = 1 from z]; decide))) ?_
  refine Rk.tr (F1 := (5, 97, _, _)) (x_iload_n rfl rfl) ?_
  refine Rk.tr (F1 := (5, 100, _, _)) (x_ifF rfl (tg := 106) rfl (fun z => absurd (Int32.lt_trans (show (6 : Int32) < S.2 2 p from hw) z) (by decide))) ?_
  refine Rk.tr (F1 := (5, 101, _, _)) (x_iload_n rfl rfl) ?_
  refine Rk.tr (F1 := (5, 103, _, _)) (x_bipush rfl) ?_
  refine Rk.tr (F1 := (5, 106, _, _)) (x_icF rfl (tg := 108) rfl (Int32.not_le.mpr hw)) ?_
  refine Rk.tr (F1 := (5, 107, _, _)) (x_iconst rfl) ?_
  exact Rk.end rfl (Or.inr (Or.inl ⟨rfl, _, .int, rfl, rfl, rfl, rfl⟩))
theorem b_op3 (hp : S.1 9 = nI p) (hn : S.1 1 = nI n) (h60 : n ≤ 60) (hw : S.2 2 p = 3) (h : p < n) (hq : S.1 10 = nI q) (hq6 : q < 60) : Rn E (d + 1) 5 [.ref o] (mh g o S) (some (.int (0))) (mh g o (msA (mOpen S q 3) 13 (q + 1) 0)) := by
  refine Rn.of (Nat.le_of_ble_eq_true rfl) ?_
  refine Rk.tr (F1 := (5, 1, _, _)) (x_aload_n rfl rfl rfl) ?_
  refine Rk.tr (F1 := (5, 4, _, _)) (m_get rfl rfl (Nat.le_of_ble_eq_true rfl)) ?_
  refine Rk.tr (F1 := (5, 5, _, _)) (x_aload_n rfl rfl rfl) ?_
  refine Rk.tr (F1 := (5, 8, _, _)) (m_get rfl rfl (Nat.le_of_ble_eq_true rfl)) ?_
  refine Rk.tr (F1 := (5, 13, _, _)) (x_icT rfl (tg := 13) rfl (by show S.1 9 < S.1 1; rw [hp, hn]; exact Int32.not_le.mp (nI_ge (by omega) (by omega)))) ?_
  refine Rk.tr (F1 := (5, 14, _, _)) (x_aload_n rfl rfl rfl) ?_
  refine Rk.tr (F1 := (5, 17, _, _)) (m_call (As := []) rfl rfl rfl (Or.inr rfl) rfl rfl rfl (Nat.le_of_ble_eq_true rfl) (c_next hp hn (by omega) h60) rfl) ?_
  refine Rk.tr (F1 := (5, 17, _, _)) (x_top hw) ?_
  refine Rk.tr (F1 := (5, 18, [_, _, _, _], _)) (x_istore_n (i := 1) rfl (Nat.le_of_ble_eq_true rfl)) ?_
  refine Rk.tr (F1 := (5, 19, _, _)) (x_iload_n rfl rfl) ?_
  refine Rk.tr (F1 := (5, 22, _, _)) (x_ifF rfl (tg := 27) rfl (show ¬ (3 : Int32) = 0 by decide)) ?_
  refine Rk.tr (F1 := (5, 23, _, _)) (x_iload_n rfl rfl) ?_
  refine Rk.tr (F1 := (5, 24, _, _)) (x_iconst rfl) ?_
  refine Rk.tr (F1 := (5, 96, _, _)) (x_icT rfl (tg := 96) rfl (show ¬ (3 : Int32) = 1 by decide)) ?_
  refine Rk.tr (F1 := (5, 97, _, _)) (x_iload_n rfl rfl) ?_
  refine Rk.tr (F1 := (5, 100, _, _)) (x_ifF rfl (tg := 106) rfl (show ¬ (3 : Int32) < 0 by decide)) ?_
  refine Rk.tr (F1 := (5, 101, _, _)) (x_iload_n rfl rfl) ?_
  refine Rk.tr (F1 := (5, 103, _, _)) (x_bipush rfl) ?_
  refine Rk.tr (F1 := (5, 108, _, _)) (x_icT rfl (tg := 108) rfl (show (3 : Int32) ≤ 6 by decide)) ?_
  refine Rk.tr (F1 := (5, 109, _, _)) (x_aload_n rfl rfl rfl) ?_
  refine Rk.tr (F1 := (5, 110, _, _)) (x_dup rfl rfl) ?_
  refine Rk.tr (F1 := (5, 113, _, _)) (m_get rfl rfl (Nat.le_of_ble_eq_true rfl)) ?_
  refine Rk.tr (F1 := (5, 114, _, _)) (x_iconst rfl) ?_
  refine Rk.tr (F1 := (5, 115, _, _)) (x_iadd rfl) ?_
  refine Rk.tr (F1 := (5, 118, _, _)) (m_put rfl rfl rfl rfl rfl rfl) ?_
  refine Rk.tr (F1 := (5, 119, _, _)) (x_aload_n rfl rfl rfl) ?_
  refine Rk.tr (F1 := (5, 122, _, _)) (m_get rfl rfl (Nat.le_of_ble_eq_true rfl)) ?_
  refine Rk.tr (F1 := (5, 123, _, _)) (x_aload_n rfl rfl rfl) ?_
  refine Rk.tr (F1 := (5, 126, _, _)) (m_get rfl rfl (Nat.le_of_ble_eq_true rfl)) ?_
  refine Rk.tr (F1 := (5, 127, _, _)) (x_iload_n rfl rfl) ?_
  refine Rk.tr (F1 := (5, 128, _, _)) (m_iast (k := 11) (n := q + 1) rfl rfl rfl (Nat.le_of_ble_eq_true rfl) (by show S.1 10 + 1 = nI (q + 1); rw [hq, nI_1]) (show q + 1 < 61 by omega)) ?_
  refine Rk.tr (F1 := (5, 129, _, _)) (x_aload_n rfl rfl rfl) ?_
  refine Rk.tr (F1 := (5, 132, _, _)) (m_get rfl rfl (Nat.le_of_ble_eq_true rfl)) ?_
  refine Rk.tr (F1 := (5, 133, _, _)) (x_aload_n rfl rfl rfl) ?_
  refine Rk.tr (F1 := (5, 136, _, _)) (m_get rfl rfl (Nat.le_of_ble_eq_true rfl)) ?_
  refine Rk.tr (F1 := (5, 137, _, _)) (x_iconst rfl) ?_
  refine Rk.tr (F1 := (5, 138, _, _)) (m_iast (k := 12) (n := q + 1) rfl rfl rfl (Nat.le_of_ble_eq_true rfl) (by show S.1 10 + 1 = nI (q + 1); rw [hq, nI_1]) (show q + 1 < 61 by omega)) ?_
  refine Rk.tr (F1 := (5, 139, _, _)) (x_iload_n rfl rfl) ?_
  refine Rk.tr (F1 := (5, 140, _, _)) (x_iconst rfl) ?_
  refine Rk.tr (F1 := (5, 143, _, _)) (x_icF rfl (tg := 153) rfl (show ¬ (3 : Int32) = 2 by decide)) ?_
  refine Rk.tr (F1 := (5, 144, _, _)) (x_iload_n rfl rfl) ?_
  refine Rk.tr (F1 := (5, 145, _, _)) (x_iconst rfl) ?_
  refine Rk.tr (F1 := (5, 148, _, _)) (x_icF rfl (tg := 153) rfl (show ¬ (3 : Int32) = 4 by decide)) ?_
  refine Rk.tr (F1 := (5, 149, _, _)) (x_iload_n rfl rfl) ?_
  refine Rk.tr (F1 := (5, 150, _, _)) (x_iconst rfl) ?_
  refine Rk.tr (F1 := (5, 157, _, _)) (x_icT rfl (tg := 157) rfl (show ¬ (3 : Int32) = 5 by decide)) ?_
  refine Rk.tr (F1 := (5, 158, _, _)) (x_iconst rfl) ?_
  refine Rk.tr (F1 := (5, 159, [_, _, _, _], _)) (x_istore_n (i := 2) rfl (Nat.le_of_ble_eq_true rfl)) ?_
  refine Rk.tr (F1 := (5, 160, _, _)) (x_iload_n rfl rfl) ?_
  refine Rk.tr (F1 := (5, 176, _, _)) (x_ifT rfl (tg := 176) rfl rfl) ?_
  refine Rk.tr (F1 := (5, 177, _, _)) (x_aload_n rfl rfl rfl) ?_
  refine Rk.tr (F1 := (5, 180, _, _)) (m_get rfl rfl (Nat.le_of_ble_eq_true rfl)) ?_
  refine Rk.tr (F1 := (5, 181, _, _)) (x_aload_n rfl rfl rfl) ?_
  refine Rk.tr (F1 := (5, 184, _, _)) (m_get rfl rfl (Nat.le_of_ble_eq_true rfl)) ?_
  refine Rk.tr (F1 := (5, 185, _, _)) (x_iload_n rfl rfl) ?_
  refine Rk.tr (F1 := (5, 195, _, _)) (x_ifT rfl (tg := 195) rfl rfl) ?_
  refine Rk.tr (F1 := (5, 196, _, _)) (x_iconst rfl) ?_
  refine Rk.tr (F1 := (5, 197, _, _)) (m_iast (k := 13) (n := q + 1) rfl rfl rfl (Nat.le_of_ble_eq_true rfl) (by show S.1 10 + 1 = nI (q + 1); rw [hq, nI_1]) (show q + 1 < 61 by omega)) ?_
  refine Rk.tr (F1 := (5, 198, _, _)) (x_iload_n rfl rfl) ?_
  refine Rk.tr (F1 := (5, 238, _, _)) (x_ifT rfl (tg := 238) rfl rfl) ?_
  refine Rk.tr (F1 := (5, 239, _, _)) (x_iload_n rfl rfl) ?_
  refine Rk.tr (F1 := (5, 240, _, _)) (x_iconst rfl) ?_
  refine Rk.tr (F1 := (5, 296, _, _)) (x_icT rfl (tg := 296) rfl (show ¬ (3 : Int32) = 2 by decide)) ?_
  refine Rk.tr (F1 := (5, 297, _, _)) (x_iconst rfl) ?_
  exact Rk.end rfl (Or.inr (Or.inl ⟨rfl, _, .int, rfl, rfl, rfl, rfl⟩))
theorem b_op6 (hp : S.1 9 = nI p) (hn : S.1 1 = nI n) (h60 : n ≤ 60) (hw : S.2 2 p = 6) (h : p < n) (hq : S.1 10 = nI q) (hq6 : q < 60) : Rn E (d + 1) 5 [.ref o] (mh g o S) (some (.int (0))) (mh g o (msA (mOpen S q 6) 13 (q + 1) 0)) := by
  refine Rn.of (Nat.le_of_ble_eq_true rfl) ?_
  refine Rk.tr (F1 := (5, 1, _, _)) (x_aload_n rfl rfl rfl) ?_
  refine Rk.tr (F1 := (5, 4, _, _)) (m_get rfl rfl (Nat.le_of_ble_eq_true rfl)) ?_
  refine Rk.tr (F1 := (5, 5, _, _)) (x_aload_n rfl rfl rfl) ?_
  refine Rk.tr (F1 := (5, 8, _, _)) (m_get rfl rfl (Nat.le_of_ble_eq_true rfl)) ?_
  refine Rk.tr (F1 := (5, 13, _, _)) (x_icT rfl (tg := 13) rfl (by show S.1 9 < S.1 1; rw [hp, hn]; exact Int32.not_le.mp (nI_ge (by omega) (by omega)))) ?_
  refine Rk.tr (F1 := (5, 14, _, _)) (x_aload_n rfl rfl rfl) ?_
  refine Rk.tr (F1 := (5, 17, _, _)) (m_call (As := []) rfl rfl rfl (Or.inr rfl) rfl rfl rfl (Nat.le_of_ble_eq_true rfl) (c_next hp hn (by omega) h60) rfl) ?_
  refine Rk.tr (F1 := (5, 17, _, _)) (x_top hw) ?_
  refine Rk.tr (F1 := (5, 18, [_, _, _, _], _)) (x_istore_n (i := 1) rfl (Nat.le_of_ble_eq_true rfl)) ?_
  refine Rk.tr (F1 := (5, 19, _, _)) (x_iload_n rfl rfl) ?_
  refine Rk.tr (F1 := (5, 22, _, _)) (x_ifF rfl (tg := 27) rfl (show ¬ (6 : Int32) = 0 by decide)) ?_
  refine Rk.tr (F1 := (5, 23, _, _)) (x_iload_n rfl rfl) ?_
  refine Rk.tr (F1 := (5, 24, _, _)) (x_iconst rfl) ?_
  refine Rk.tr (F1 := (5, 96, _, _)) (x_icT rfl (tg := 96) rfl (show ¬ (6 : Int32) = 1 by decide)) ?_
  refine Rk.tr (F1 := (5, 97, _, _)) (x_iload_n rfl rfl) ?_
  refine Rk.tr (F1 := (5, 100, _, _)) (x_ifF rfl (tg := 106) rfl (show ¬ (6 : Int32) < 0 by decide)) ?_
  refine Rk.tr (F1 := (5, 101, _, _)) (x_iload_n rfl rfl) ?_
  refine Rk.tr (F1 := (5, 103, _, _)) (x_bipush rfl) ?_
  refine Rk.tr (F1 := (5, 108, _, _)) (x_icT rfl (tg := 108) rfl (show (6 : Int32) ≤ 6 by decide)) ?_
  refine Rk.tr (F1 := (5, 109, _, _)) (x_aload_n rfl rfl rfl) ?_
  refine Rk.tr (F1 := (5, 110, _, _)) (x_dup rfl rfl) ?_
  refine Rk.tr (F1 := (5, 113, _, _)) (m_get rfl rfl (Nat.le_of_ble_eq_true rfl)) ?_
  refine Rk.tr (F1 := (5, 114, _, _)) (x_iconst rfl) ?_
  refine Rk.tr (F1 := (5, 115, _, _)) (x_iadd rfl) ?_
  refine Rk.tr (F1 := (5, 118, _, _)) (m_put rfl rfl rfl rfl rfl rfl) ?_
  refine Rk.tr (F1 := (5, 119, _, _)) (x_aload_n rfl rfl rfl) ?_
  refine Rk.tr (F1 := (5, 122, _, _)) (m_get rfl rfl (Nat.le_of_ble_eq_true rfl)) ?_
  refine Rk.tr (F1 := (5, 123, _, _)) (x_aload_n rfl rfl rfl) ?_
  refine Rk.tr (F1 := (5, 126, _, _)) (m_get rfl rfl (Nat.le_of_ble_eq_true rfl)) ?_
  refine Rk.tr (F1 := (5, 127, _, _)) (x_iload_n rfl rfl) ?_
  refine Rk.tr (F1 := (5, 128, _, _)) (m_iast (k := 11) (n := q + 1) rfl rfl rfl (Nat.le_of_ble_eq_true rfl) (by show S.1 10 + 1 = nI (q + 1); rw [hq, nI_1]) (show q + 1 < 61 by omega)) ?_
  refine Rk.tr (F1 := (5, 129, _, _)) (x_aload_n rfl rfl rfl) ?_
  refine Rk.tr (F1 := (5, 132, _, _)) (m_get rfl rfl (Nat.le_of_ble_eq_true rfl)) ?_
  refine Rk.tr (F1 := (5, 133, _, _)) (x_aload_n rfl rfl rfl) ?_
  refine Rk.tr (F1 := (5, 136, _, _)) (m_get rfl rfl (Nat.le_of_ble_eq_true rfl)) ?_
  refine Rk.tr (F1 := (5, 137, _, _)) (x_iconst rfl) ?_
  refine Rk.tr (F1 := (5, 138, _, _)) (m_iast (k := 12) (n := q + 1) rfl rfl rfl (Nat.le_of_ble_eq_true rfl) (by show S.1 10 + 1 = nI (q + 1); rw [hq, nI_1]) (show q + 1 < 61 by omega)) ?_
  refine Rk.tr (F1 := (5, 139, _, _)) (x_iload_n rfl rfl) ?_
  refine Rk.tr (F1 := (5, 140, _, _)) (x_iconst rfl) ?_
  refine Rk.tr (F1 := (5, 143, _, _)) (x_icF rfl (tg := 153) rfl (show ¬ (6 : Int32) = 2 by decide)) ?_
  refine Rk.tr (F1 := (5, 144, _, _)) (x_iload_n rfl rfl) ?_
  refine Rk.tr (F1 := (5, 145, _, _)) (x_iconst rfl) ?_
  refine Rk.tr (F1 := (5, 148, _, _)) (x_icF rfl (tg := 153) rfl (show ¬ (6 : Int32) = 4 by decide)) ?_
  refine Rk.tr (F1 := (5, 149, _, _)) (x_iload_n rfl rfl) ?_
  refine Rk.tr (F1 := (5, 150, _, _)) (x_iconst rfl) ?_
  refine Rk.tr (F1 := (5, 157, _, _)) (x_icT rfl (tg := 157) rfl (show ¬ (6 : Int32) = 5 by decide)) ?_
  refine Rk.tr (F1 := (5, 158, _, _)) (x_iconst rfl) ?_
  refine Rk.tr (F1 := (5, 159, [_, _, _, _], _)) (x_istore_n (i := 2) rfl (Nat.le_of_ble_eq_true rfl)) ?_
  refine Rk.tr (F1 := (5, 160, _, _)) (x_iload_n rfl rfl) ?_
  refine Rk.tr (F1 := (5, 176, _, _)) (x_ifT rfl (tg := 176) rfl rfl) ?_
  refine Rk.tr (F1 := (5, 177, _, _)) (x_aload_n rfl rfl rfl) ?_
  refine Rk.tr (F1 := (5, 180, _, _)) (m_get rfl rfl (Nat.le_of_ble_eq_true rfl)) ?_
  refine Rk.tr (F1 := (5, 181, _, _)) (x_aload_n rfl rfl rfl) ?_
  refine Rk.tr (F1 := (5, 184, _, _)) (m_get rfl rfl (Nat.le_of_ble_eq_true rfl)) ?_
  refine Rk.tr (F1 := (5, 185, _, _)) (x_iload_n rfl rfl) ?_
  refine Rk.tr (F1 := (5, 195, _, _)) (x_ifT rfl (tg := 195) rfl rfl) ?_
  refine Rk.tr (F1 := (5, 196, _, _)) (x_iconst rfl) ?_
  refine Rk.tr (F1 := (5, 197, _, _)) (m_iast (k := 13) (n := q + 1) rfl rfl rfl (Nat.le_of_ble_eq_true rfl) (by show S.1 10 + 1 = nI (q + 1); rw [hq, nI_1]) (show q + 1 < 61 by omega)) ?_
  refine Rk.tr (F1 := (5, 198, _, _)) (x_iload_n rfl rfl) ?_
  refine Rk.tr (F1 := (5, 238, _, _)) (x_ifT rfl (tg := 238) rfl rfl) ?_
  refine Rk.tr (F1 := (5, 239, _, _)) (x_iload_n rfl rfl) ?_
  refine Rk.tr (F1 := (5, 240, _, _)) (x_iconst rfl) ?_
  refine Rk.tr (F1 := (5, 296, _, _)) (x_icT rfl (tg := 296) rfl (show ¬ (6 : Int32) = 2 by decide)) ?_
  refine Rk.tr (F1 := (5, 297, _, _)) (x_iconst rfl) ?_
  exact Rk.end rfl (Or.inr (Or.inl ⟨rfl, _, .int, rfl, rfl, rfl, rfl⟩))
theorem b_sh2 (hp : S.1 9 = nI p) (hn : S.1 1 = nI n) (h60 : n ≤ 60) (hw : S.2 2 p = 2) (h : p < n) (h1 : n ≤ p + 1) (hq : S.1 10 = nI q) (hq6 : q < 60) : Rn E (d + 1) 5 [.ref o] (mh g o S) (some (.int (-1))) (mh g o (mOpen S q 2)) := by
  refine Rn.of (Nat.le_of_ble_eq_true rfl) ?_
  refine Rk.tr (F1 := (5, 1, _, _)) (x_aload_n rfl rfl rfl) ?_
  refine Rk.tr (F1 := (5, 4, _, _)) (m_get rfl rfl (Nat.le_of_ble_eq_true rfl)) ?_
  refine Rk.tr (F1 := (5, 5, _, _)) (x_aload_n rfl rfl rfl) ?_
  refine Rk.tr (F1 := (5, 8, _, _)) (m_get rfl rfl (Nat.le_of_ble_eq_true rfl)) ?_
  refine Rk.tr (F1 := (5, 13, _, _)) (x_icT rfl (tg := 13) rfl (by show S.1 9 < S.1 1; rw [hp, hn]; exact Int32.not_le.mp (nI_ge (by omega) (by omega)))) ?_
  refine Rk.tr (F1 := (5, 14, _, _)) (x_aload_n rfl rfl rfl) ?_
  refine Rk.tr (F1 := (5, 17, _, _)) (m_call (As := []) rfl rfl rfl (Or.inr rfl) rfl rfl rfl (Nat.le_of_ble_eq_true rfl) (c_next hp hn (by omega) h60) rfl) ?_
  refine Rk.tr (F1 := (5, 17, _, _)) (x_top hw) ?_
  refine Rk.tr (F1 := (5, 18, [_, _, _, _], _)) (x_istore_n (i := 1) rfl (Nat.le_of_ble_eq_true rfl)) ?_
  refine Rk.tr (F1 := (5, 19, _, _)) (x_iload_n rfl rfl) ?_
  refine Rk.tr (F1 := (5, 22, _, _)) (x_ifF rfl (tg := 27) rfl (show ¬ (2 : Int32) = 0 by decide)) ?_
  refine Rk.tr (F1 := (5, 23, _, _)) (x_iload_n rfl rfl) ?_
  refine Rk.tr (F1 := (5, 24, _, _)) (x_iconst rfl) ?_
  refine Rk.tr (F1 := (5, 96, _, _)) (x_icT rfl (tg := 96) rfl (show ¬ (2 : Int32) = 1 by decide)) ?_
  refine Rk.tr (F1 := (5, 97, _, _)) (x_iload_n rfl rfl) ?_
  refine Rk.tr (F1 := (5, 100, _, _)) (x_ifF rfl (tg := 106) rfl (show ¬ (2 : Int32) < 0 by decide)) ?_
  refine Rk.tr (F1 := (5, 101, _, _)) (x_iload_n rfl rfl) ?_
  refine Rk.tr (F1 := (5, 103, _, _)) (x_bipush rfl) ?_
  refine Rk.tr (F1 := (5, 108, _, _)) (x_icT rfl (tg := 108) rfl (show (2 : Int32) ≤ 6 by decide)) ?_
  refine Rk.tr (F1 := (5, 109, _, _)) (x_aload_n rfl rfl rfl) ?_
  refine Rk.tr (F1 := (5, 110, _, _)) (x_dup rfl rfl) ?_
  refine Rk.tr (F1 := (5, 113, _, _)) (m_get rfl rfl (Nat.le_of_ble_eq_true rfl)) ?_
  refine Rk.tr (F1 := (5, 114, _, _)) (x_iconst rfl) ?_
  refine Rk.tr (F1 := (5, 115, _, _)) (x_iadd rfl) ?_
  refine Rk.tr (F1 := (5, 118, _, _)) (m_put rfl rfl rfl rfl rfl rfl) ?_
  refine Rk.tr (F1 := (5, 119, _, _)) (x_aload_n rfl rfl rfl) ?_
  refine Rk.tr (F1 := (5, 122, _, _)) (m_get rfl rfl (Nat.le_of_ble_eq_true rfl)) ?_
  refine Rk.tr (F1 := (5, 123, _, _)) (x_aload_n rfl rfl rfl) ?_
  refine Rk.tr (F1 := (5, 126, _, _)) (m_get rfl rfl (Nat.le_of_ble_eq_true rfl)) ?_
  refine Rk.tr (F1 := (5, 127, _, _)) (x_iload_n rfl rfl) ?_
  refine Rk.tr (F1 := (5, 128, _, _)) (m_iast (k := 11) (n := q + 1) rfl rfl rfl (Nat.le_of_ble_eq_true rfl) (by show S.1 10 + 1 = nI (q + 1); rw [hq, nI_1]) (show q + 1 < 61 by omega)) ?_
  refine Rk.tr (F1 := (5, 129, _, _)) (x_aload_n rfl rfl rfl) ?_
  refine Rk.tr (F1 := (5, 132, _, _)) (m_get rfl rfl (Nat.le_of_ble_eq_true rfl)) ?_
  refine Rk.tr (F1 := (5, 133, _, _)) (x_aload_n rfl rfl rfl) ?_
  refine Rk.tr (F1 := (5, 136, _, _)) (m_get rfl rfl (Nat.le_of_ble_eq_true rfl)) ?_
  refine Rk.tr (F1 := (5, 137, _, _)) (x_iconst rfl) ?_
  refine Rk.tr (F1 := (5, 138, _, _)) (m_iast (k := 12) (n := q + 1) rfl rfl rfl (Nat.le_of_ble_eq_true rfl) (by show S.1 10 + 1 = nI (q + 1); rw [hq, nI_1]) (show q + 1 < 61 by omega)) ?_
  refine Rk.tr (F1 := (5, 139, _, _)) (x_iload_n rfl rfl) ?_
  refine Rk.tr (F1 := (5, 140, _, _)) (x_iconst rfl) ?_
  refine Rk.tr (F1 := (5, 153, _, _)) (x_icT rfl (tg := 153) rfl rfl) ?_
  refine Rk.tr (F1 := (5, 154, _, _)) (x_iconst rfl) ?_
  refine Rk.tr (F1 := (5, 158, _, _)) (x_goto rfl rfl) ?_
  refine Rk.tr (F1 := (5, 159, [_, _, _, _], _)) (x_istore_n (i := 2) rfl (Nat.le_of_ble_eq_true rfl)) ?_
  refine Rk.tr (F1 := (5, 160, _, _)) (x_iload_n rfl rfl) ?_
  refine Rk.tr (F1 := (5, 163, _, _)) (x_ifF rfl (tg := 176) rfl (show ¬ (1 : Int32) = 0 by decide)) ?_
  refine Rk.tr (F1 := (5, 164, _, _)) (x_aload_n rfl rfl rfl) ?_
  refine Rk.tr (F1 := (5, 167, _, _)) (m_get rfl rfl (Nat.le_of_ble_eq_true rfl)) ?_
  refine Rk.tr (F1 := (5, 168, _, _)) (x_aload_n rfl rfl rfl) ?_
  refine Rk.tr (F1 := (5, 171, _, _)) (m_get rfl rfl (Nat.le_of_ble_eq_true rfl)) ?_
  refine Rk.tr (F1 := (5, 174, _, _)) (x_icF rfl (tg := 176) rfl (by show ¬ S.1 9 + 1 < S.1 1; rw [hp, hn, nI_1]; exact Int32.not_lt.mpr (nI_le (by omega) (by omega)))) ?_
  refine Rk.tr (F1 := (5, 175, _, _)) (x_iconst rfl) ?_
  exact Rk.end rfl (Or.inr (Or.inl ⟨rfl, _, .int, rfl, rfl, rfl, rfl⟩))
theorem b_lo2 (hp : S.1 9 = nI p) (hn : S.1 1 = nI n) (h60 : n ≤ 60) (hw : S.2 2 p = 2) (h : p + 1 < n) (hq : S.1 10 = nI q) (hq6 : q < 60) (hv : S.2 2 (p + 1) < 0) : Rn E (d + 1) 5 [.ref o] (mh g o S) (some (.int (-1))) (mh g o (msA (mNext (mOpen S q 2)) 13 (q + 1) (S.2 2 (p + 1)))) := by
  refine Rn.of (Nat.le_of_ble_eq_true rfl) ?_
  refine Rk.tr (F1 := (5, 1, _, _)) (x_aload_n rfl rfl rfl) ?_
  refine Rk.tr (F1 := (5, 4, _, _)) (m_get rfl rfl (Nat.le_of_ble_eq_true rfl)) ?_
  refine Rk.tr (F1 := (5, 5, _, _)) (x_aload_n rfl rfl rfl) ?_
  refine Rk.tr (F1 := (5, 8, _, _)) (m_get rfl rfl (Nat.le_of_ble_eq_true rfl)) ?_
  refine Rk.tr (F1 := (5, 13, _, _)) (x_icT rfl (tg := 13) rfl (by show S.1 9 < S.1 1; rw [hp, hn]; exact Int32.not_le.mp (nI_ge (by omega) (by omega)))) ?_
  refine Rk.tr (F1 := (5, 14, _, _)) (x_aload_n rfl rfl rfl) ?_
  refine Rk.tr (F1 := (5, 17, _, _)) (m_call (As := []) rfl rfl rfl (Or.inr rfl) rfl rfl rfl (Nat.le_of_ble_eq_true rfl) (c_next hp hn (by omega) h60) rfl) ?_
  refine Rk.tr (F1 := (5, 17, _, _)) (x_top hw) ?_
  refine Rk.tr (F1 := (5, 18, [_, _, _, _], _)) (x_istore_n (i := 1) rfl (Nat.le_of_ble_eq_true rfl)) ?_
  refine Rk.tr (F1 := (5, 19, _, _)) (x_iload_n rfl rfl) ?_
  refine Rk.tr (F1 := (5, 22, _, _)) (x_ifF rfl (tg := 27) rfl (show ¬ (2 : Int32) = 0 by decide)) ?_
  refine Rk.tr (F1 := (5, 23, _, _)) (x_iload_n rfl rfl) ?_
  refine Rk.tr (F1 := (5, 24, _, _)) (x_iconst rfl) ?_
  refine Rk.tr (F1 := (5, 96, _, _)) (x_icT rfl (tg := 96) rfl (show ¬ (2 : Int32) = 1 by decide)) ?_
  refine Rk.tr (F1 := (5, 97, _, _)) (x_iload_n rfl rfl) ?_
  refine Rk.tr (F1 := (5, 100, _, _)) (x_ifF rfl (tg := 106) rfl (show ¬ (2 : Int32) < 0 by decide)) ?_
  refine Rk.tr (F1 := (5, 101, _, _)) (x_iload_n rfl rfl) ?_
  refine Rk.tr (F1 := (5, 103, _, _)) (x_bipush rfl) ?_
  refine Rk.tr (F1 := (5, 108, _, _)) (x_icT rfl (tg := 108) rfl (show (2 : Int32) ≤ 6 by decide)) ?_
  refine Rk.tr (F1 := (5, 109, _, _)) (x_aload_n rfl rfl rfl) ?_
  refine Rk.tr (F1 := (5, 110, _, _)) (x_dup rfl rfl) ?_
  refine Rk.tr (F1 := (5, 113, _, _)) (m_get rfl rfl (Nat.le_of_ble_eq_true rfl)) ?_
  refine Rk.tr (F1 := (5, 114, _, _)) (x_iconst rfl) ?_
  refine Rk.tr (F1 := (5, 115, _, _)) (x_iadd rfl) ?_
  refine Rk.tr (F1 := (5, 118, _, _)) (m_put rfl rfl rfl rfl rfl rfl) ?_
  refine Rk.tr (F1 := (5, 119, _, _)) (x_aload_n rfl rfl rfl) ?_
  refine Rk.tr (F1 := (5, 122, _, _)) (m_get rfl rfl (Nat.le_of_ble_eq_true rfl)) ?_
  refine Rk.tr (F1 := (5, 123, _, _)) (x_aload_n rfl rfl rfl) ?_
  refine Rk.tr (F1 := (5, 126, _, _)) (m_get rfl rfl (Nat.le_of_ble_eq_true rfl)) ?_
  refine Rk.tr (F1 := (5, 127, _, _)) (x_iload_n rfl rfl) ?_
  refine Rk.tr (F1 := (5, 128, _, _)) (m_iast (k := 11) (n := q + 1) rfl rfl rfl (Nat.le_of_ble_eq_true rfl) (by show S.1 10 + 1 = nI (q + 1); rw [hq, nI_1]) (show q + 1 < 61 by omega)) ?_
  refine Rk.tr (F1 := (5, 129, _, _)) (x_aload_n rfl rfl rfl) ?_
  refine Rk.tr (F1 := (5, 132, _, _)) (m_get rfl rfl (Nat.le_of_ble_eq_true rfl)) ?_
  refine Rk.tr (F1 := (5, 133, _, _)) (x_aload_n rfl rfl rfl) ?_
  refine Rk.tr (F1 := (5, 136, _, _)) (m_get rfl rfl (Nat.le_of_ble_eq_true rfl)) ?_
  refine Rk.tr (F1 := (5, 137, _, _)) (x_iconst rfl) ?_
  refine Rk.tr (F1 := (5, 138, _, _)) (m_iast (k := 12) (n := q + 1) rfl rfl rfl (Nat.le_of_ble_eq_true rfl) (by show S.1 10 + 1 = nI (q + 1); rw [hq, nI_1]) (show q + 1 < 61 by omega)) ?_
  refine Rk.tr (F1 := (5, 139, _, _)) (x_iload_n rfl rfl) ?_
  refine Rk.tr (F1 := (5, 140, _, _)) (x_iconst rfl) ?_
  refine Rk.tr (F1 := (5, 153, _, _)) (x_icT rfl (tg := 153) rfl rfl) ?_
  refine Rk.tr (F1 := (5, 154, _, _)) (x_iconst rfl) ?_
  refine Rk.tr (F1 := (5, 158, _, _)) (x_goto rfl rfl) ?_
  refine Rk.tr (F1 := (5, 159, [_, _, _, _], _)) (x_istore_n (i := 2) rfl (Nat.le_of_ble_eq_true rfl)) ?_
  refine Rk.tr (F1 := (5, 160, _, _)) (x_iload_n rfl rfl) ?_
  refine Rk.tr (F1 := (5, 163, _, _)) (x_ifF rfl (tg := 176) rfl (show ¬ (1 : Int32) = 0 by decide)) ?_
  refine Rk.tr (F1 := (5, 164, _, _)) (x_aload_n rfl rfl rfl) ?_
  refine Rk.tr (F1 := (5, 167, _, _)) (m_get rfl rfl (Nat.le_of_ble_eq_true rfl)) ?_
  refine Rk.tr (F1 := (5, 168, _, _)) (x_aload_n rfl rfl rfl) ?_
  refine Rk.tr (F1 := (5, 171, _, _)) (m_get rfl rfl (Nat.le_of_ble_eq_true rfl)) ?_
  refine Rk.tr (F1 := (5, 176, _, _)) (x_icT rfl (tg := 176) rfl (by show S.1 9 + 1 < S.1 1; rw [hp, hn, nI_1]; exact Int32.not_le.mp (nI_ge (by omega) (by omega)))) ?_
  refine Rk.tr (F1 := (5, 177, _, _)) (x_aload_n rfl rfl rfl) ?_
  refine Rk.tr (F1 := (5, 180, _, _)) (m_get rfl rfl (Nat.le_of_ble_eq_true rfl)) ?_
  refine Rk.tr (F1 := (5, 181, _, _)) (x_aload_n rfl rfl rfl) ?_
  refine Rk.tr (F1 := (5, 184, _, _)) (m_get rfl rfl (Nat.le_of_ble_eq_true rfl)) ?_
  refine Rk.tr (F1 := (5, 185, _, _)) (x_iload_n rfl rfl) ?_
  refine Rk.tr (F1 := (5, 188, _, _)) (x_ifF rfl (tg := 195) rfl (show ¬ (1 : Int32) = 0 by decide)) ?_
  refine Rk.tr (F1 := (5, 189, _, _)) (x_aload_n rfl rfl rfl) ?_
  refine Rk.tr (F1 := (5, 192, _, _)) (m_call (As := []) rfl rfl rfl (Or.inr rfl) rfl rfl rfl (Nat.le_of_ble_eq_true rfl) (c_next (p := p + 1) (by show S.1 9 + 1 = _; rw [hp, nI_1]) hn (by omega) h60) rfl) ?_
  refine Rk.tr (F1 := (5, 196, _, _)) (x_goto rfl rfl) ?_
  refine Rk.tr (F1 := (5, 197, _, _)) (m_iast (k := 13) (n := q + 1) rfl rfl rfl (Nat.le_of_ble_eq_true rfl) (by show S.1 10 + 1 = nI (q + 1); rw [hq, nI_1]) (show q + 1 < 61 by omega)) ?_
  refine Rk.tr (F1 := (5, 198, _, _)) (x_iload_n rfl rfl) ?_
  refine Rk.tr (F1 := (5, 201, _, _)) (x_ifF rfl (tg := 238) rfl (show ¬ (1 : Int32) = 0 by decide)) ?_
  refine Rk.tr (F1 := (5, 202, _, _)) (x_aload_n rfl rfl rfl) ?_
  refine Rk.tr (F1 := (5, 205, _, _)) (m_get rfl rfl (Nat.le_of_ble_eq_true rfl)) ?_
  refine Rk.tr (F1 := (5, 206, _, _)) (x_aload_n rfl rfl rfl) ?_
  refine Rk.tr (F1 := (5, 209, _, _)) (m_get rfl rfl (Nat.le_of_ble_eq_true rfl)) ?_
  refine Rk.tr (F1 := (5, 210, _, _)) (m_iald (k := 13) (n := q + 1) rfl rfl rfl (by show S.1 10 + 1 = nI (q + 1); rw [hq, nI_1]) (show q + 1 < 61 by omega)) ?_
  refine Rk.tr (F1 := (5, 210, _, _)) (x_top msA_at) ?_
  refine Rk.tr (F1 := (5, 236, _, _)) (x_ifT rfl (tg := 236) rfl hv) ?_
  refine Rk.tr (F1 := (5, 237, _, _)) (x_iconst rfl) ?_
  exact Rk.end rfl (Or.inr (Or.inl ⟨rfl, _, .int, rfl, rfl, rfl, rfl⟩))
theorem b_hi2 (hp : S.1 9 = nI p) (hn : S.1 1 = nI n) (h60 : n ≤ 60) (hw : S.2 2 p = 2) (h : p + 1 < n) (hq : S.1 10 = nI q) (hq6 : q < 60) (hv : ¬ S.2 2 (p + 1) < 0) (hv2 : 9 < S.2 2 (p + 1)) : Rn E (d + 1) 5 [.ref o] (mh g o S) (some (.int (-1))) (mh g o (msA (mNext (mOpen S q 2)) 13 (q + 1) (S.2 2 (p + 1)))) := by
  refine Rn.of (Nat.le_of_ble_eq_true rfl) ?_
  refine Rk.tr (F1 := (5, 1, _, _)) (x_aload_n rfl rfl rfl) ?_
  refine Rk.tr (F1 := (5, 4, _, _)) (m_get rfl rfl (Nat.le_of_ble_eq_true rfl)) ?_
  refine Rk.tr (F1 := (5, 5, _, _)) (x_aload_n rfl rfl rfl) ?_
  refine Rk.tr (F1 := (5, 8, _, _)) (m_get rfl rfl (Nat.le_of_ble_eq_true rfl)) ?_
  refine Rk.tr (F1 := (5, 13, _, _)) (x_icT rfl (tg := 13) rfl (by show S.1 9 < S.1 1; rw [hp, hn]; exact Int32.not_le.mp (nI_ge (by omega) (by omega)))) ?_
  refine Rk.tr (F1 := (5, 14, _, _)) (x_aload_n rfl rfl rfl) ?_
  refine Rk.tr (F1 := (5, 17, _, _)) (m_call (As := []) rfl rfl rfl (Or.inr rfl) rfl rfl rfl (Nat.le_of_ble_eq_true rfl) (c_next hp hn (by omega) h60) rfl) ?_
  refine Rk.tr (F1 := (5, 17, _, _)) (x_top hw) ?_
  refine Rk.tr (F1 := (5, 18, [_, _, _, _], _)) (x_istore_n (i := 1) rfl (Nat.le_of_ble_eq_true rfl)) ?_
  refine Rk.tr (F1 := (5, 19, _, _)) (x_iload_n rfl rfl) ?_
  refine Rk.tr (F1 := (5, 22, _, _)) (x_ifF rfl (tg := 27) rfl (show ¬ (2 : Int32) = 0 by decide)) ?_
  refine Rk.tr (F1 := (5, 23, _, _)) (x_iload_n rfl rfl) ?_
  refine Rk.tr (F1 := (5, 24, _, _)) (x_iconst rfl) ?_
  refine Rk.tr (F1 := (5, 96, _, _)) (x_icT rfl (tg := 96) rfl (show ¬ (2 : Int32) = 1 by decide)) ?_
  refine Rk.tr (F1 := (5, 97, _, _)) (x_iload_n rfl rfl) ?_
  refine Rk.tr (F1 := (5, 100, _, _)) (x_ifF rfl (tg := 106) rfl (show ¬ (2 : Int32) < 0 by decide)) ?_
  refine Rk.tr (F1 := (5, 101, _, _)) (x_iload_n rfl rfl) ?_
  refine Rk.tr (F1 := (5, 103, _, _)) (x_bipush rfl) ?_
  refine Rk.tr (F1 := (5, 108, _, _)) (x_icT rfl (tg := 108) rfl (show (2 : Int32) ≤ 6 by decide)) ?_
  refine Rk.tr (F1 := (5, 109, _, _)) (x_aload_n rfl rfl rfl) ?_
  refine Rk.tr (F1 := (5, 110, _, _)) (x_dup rfl rfl) ?_
  refine Rk.tr (F1 := (5, 113, _, _)) (m_get rfl rfl (Nat.le_of_ble_eq_true rfl)) ?_
  refine Rk.tr (F1 := (5, 114, _, _)) (x_iconst rfl) ?_
  refine Rk.tr (F1 := (5, 115, _, _)) (x_iadd rfl) ?_
  refine Rk.tr (F1 := (5, 118, _, _)) (m_put rfl rfl rfl rfl rfl rfl) ?_
  refine Rk.tr (F1 := (5, 119, _, _)) (x_aload_n rfl rfl rfl) ?_
  refine Rk.tr (F1 := (5, 122, _, _)) (m_get rfl rfl (Nat.le_of_ble_eq_true rfl)) ?_
  refine Rk.tr (F1 := (5, 123, _, _)) (x_aload_n rfl rfl rfl) ?_
  refine Rk.tr (F1 := (5, 126, _, _)) (m_get rfl rfl (Nat.le_of_ble_eq_true rfl)) ?_
  refine Rk.tr (F1 := (5, 127, _, _)) (x_iload_n rfl rfl) ?_
  refine Rk.tr (F1 := (5, 128, _, _)) (m_iast (k := 11) (n := q + 1) rfl rfl rfl (Nat.le_of_ble_eq_true rfl) (by show S.1 10 + 1 = nI (q + 1); rw [hq, nI_1]) (show q + 1 < 61 by omega)) ?_
  refine Rk.tr (F1 := (5, 129, _, _)) (x_aload_n rfl rfl rfl) ?_
  refine Rk.tr (F1 := (5, 132, _, _)) (m_get rfl rfl (Nat.le_of_ble_eq_true rfl)) ?_
  refine Rk.tr (F1 := (5, 133, _, _)) (x_aload_n rfl rfl rfl) ?_
  refine Rk.tr (F1 := (5, 136, _, _)) (m_get rfl rfl (Nat.le_of_ble_eq_true rfl)) ?_
  refine Rk.tr (F1 := (5, 137, _, _)) (x_iconst rfl) ?_
  refine Rk.tr (F1 := (5, 138, _, _)) (m_iast (k := 12) (n := q + 1) rfl rfl rfl (Nat.le_of_ble_eq_true rfl) (by show S.1 10 + 1 = nI (q + 1); rw [hq, nI_1]) (show q + 1 < 61 by omega)) ?_
  refine Rk.tr (F1 := (5, 139, _, _)) (x_iload_n rfl rfl) ?_
  refine Rk.tr (F1 := (5, 140, _, _)) (x_iconst rfl) ?_
  refine Rk.tr (F1 := (5, 153, _, _)) (x_icT rfl (tg := 153) rfl rfl) ?_
  refine Rk.tr (F1 := (5, 154, _, _)) (x_iconst rfl) ?_
  refine Rk.tr (F1 := (5, 158, _, _)) (x_goto rfl rfl) ?_
  refine Rk.tr (F1 := (5, 159, [_, _, _, _], _)) (x_istore_n (i := 2) rfl (Nat.le_of_ble_eq_true rfl)) ?_
  refine Rk.tr (F1 := (5, 160, _, _)) (x_iload_n rfl rfl) ?_
  refine Rk.tr (F1 := (5, 163, _, _)) (x_ifF rfl (tg := 176) rfl (show ¬ (1 : Int32) = 0 by decide)) ?_
  refine Rk.tr (F1 := (5, 164, _, _)) (x_aload_n rfl rfl rfl) ?_
  refine Rk.tr (F1 := (5, 167, _, _)) (m_get rfl rfl (Nat.le_of_ble_eq_true rfl)) ?_
  refine Rk.tr (F1 := (5, 168, _, _)) (x_aload_n rfl rfl rfl) ?_
  refine Rk.tr (F1 := (5, 171, _, _)) (m_get rfl rfl (Nat.le_of_ble_eq_true rfl)) ?_
  refine Rk.tr (F1 := (5, 176, _, _)) (x_icT rfl (tg := 176) rfl (by show S.1 9 + 1 < S.1 1; rw [hp, hn, nI_1]; exact Int32.not_le.mp (nI_ge (by omega) (by omega)))) ?_
  refine Rk.tr (F1 := (5, 177, _, _)) (x_aload_n rfl rfl rfl) ?_
  refine Rk.tr (F1 := (5, 180, _, _)) (m_get rfl rfl (Nat.le_of_ble_eq_true rfl)) ?_
  refine Rk.tr (F1 := (5, 181, _, _)) (x_aload_n rfl rfl rfl) ?_
  refine Rk.tr (F1 := (5, 184, _, _)) (m_get rfl rfl (Nat.le_of_ble_eq_true rfl)) ?_
  refine Rk.tr (F1 := (5, 185, _, _)) (x_iload_n rfl rfl) ?_
  refine Rk.tr (F1 := (5, 188, _, _)) (x_ifF rfl (tg := 195) rfl (show ¬ (1 : Int32) = 0 by decide)) ?_
  refine Rk.tr (F1 := (5, 189, _, _)) (x_aload_n rfl rfl rfl) ?_
  refine Rk.tr (F1 := (5, 192, _, _)) (m_call (As := []) rfl rfl rfl (Or.inr rfl) rfl rfl rfl (Nat.le_of_ble_eq_true rfl) (c_next (p := p + 1) (by show S.1 9 + 1 = _; rw [hp, nI_1]) hn (by omega) h60) rfl) ?_
  refine Rk.tr (F1 := (5, 196, _, _)) (x_goto rfl rfl) ?_
  refine Rk.tr (F1 := (5, 197, _, _)) (m_iast (k := 13) (n := q + 1) rfl rfl rfl (Nat.le_of_ble_eq_true rfl) (by show S.1 10 + 1 = nI (q + 1); rw [hq, nI_1]) (show q + 1 < 61 by omega)) ?_
  refine Rk.tr (F1 := (5, 198, _, _)) (x_iload_n rfl rfl) ?_
  refine Rk.tr (F1 := (5, 201, _, _)) (x_ifF rfl (tg := 238) rfl (show ¬ (1 : Int32) = 0 by decide)) ?_
  refine Rk.tr (F1 := (5, 202, _, _)) (x_aload_n rfl rfl rfl) ?_
  refine Rk.tr (F1 := (5, 205, _, _)) (m_get rfl rfl (Nat.le_of_ble_eq_true rfl)) ?_
  refine Rk.tr (F1 := (5, 206, _, _)) (x_aload_n rfl rfl rfl) ?_
  refine Rk.tr (F1 := (5, 209, _, _)) (m_get rfl rfl (Nat.le_of_ble_eq_true rfl)) ?_
  refine Rk.tr (F1 := (5, 210, _, _)) (m_iald (k := 13) (n := q + 1) rfl rfl rfl (by show S.1 10 + 1 = nI (q + 1); rw [hq, nI_1]) (show q + 1 < 61 by omega)) ?_
  refine Rk.tr (F1 := (5, 210, _, _)) (x_top msA_at) ?_
  refine Rk.tr (F1 := (5, 213, _, _)) (x_ifF rfl (tg := 236) rfl hv) ?_
  refine Rk.tr (F1 := (5, 214, _, _)) (x_aload_n rfl rfl rfl) ?_
  refine Rk.tr (F1 := (5, 217, _, _)) (m_get rfl rfl (Nat.le_of_ble_eq_true rfl)) ?_
  refine Rk.tr (F1 := (5, 218, _, _)) (x_aload_n rfl rfl rfl) ?_
  refine Rk.tr (F1 := (5, 221, _, _)) (m_get rfl rfl (Nat.le_of_ble_eq_true rfl)) ?_
  refine Rk.tr (F1 := (5, 222, _, _)) (m_iald (k := 13) (n := q + 1) rfl rfl rfl (by show S.1 10 + 1 = nI (q + 1); rw [hq, nI_1]) (show q + 1 < 61 by omega)) ?_
  refine Rk.tr (F1 := (5, 222, _, _)) (x_top msA_at) ?_
  refine Rk.tr (F1 := (5, 223, _, _)) (x_iload_n rfl rfl) ?_
  refine Rk.tr (F1 := (5, 224, _, _)) (x_iconst rfl) ?_
  refine Rk.tr (F1 := (5, 231, _, _)) (x_icT rfl (tg := 231) rfl (show ¬ (2 : Int32) = 5 by decide)) ?_
  refine Rk.tr (F1 := (5, 233, _, _)) (x_bipush rfl) ?_
  refine Rk.tr (F1 := (5, 236, _, _)) (x_icF rfl (tg := 238) rfl (Int32.not_le.mpr hv2)) ?_
  refine Rk.tr (F1 := (5, 237, _, _)) (x_iconst rfl) ?_
  exact Rk.end rfl (Or.inr (Or.inl ⟨rfl, _, .int, rfl, rfl, rfl, rfl⟩))
theorem b_sh4 (hp : S.1 9 = nI p) (hn : S.1 1 = nI n) (h60 : n ≤ 60) (hw : S.2 2 p = 4) (h : p < n) (h1 : n ≤ p + 1) (hq : S.1 10 = nI q) (hq6 : q < 60) : Rn E (d + 1) 5 [.ref o] (mh g o S) (some (.int (-1))) (mh g o (mOpen S q 4)) := by
  refine Rn.of (Nat.le_of_ble_eq_true rfl) ?_
  refine Rk.tr (F1 := (5, 1, _, _)) (x_aload_n rfl rfl rfl) ?_
  refine Rk.tr (F1 := (5, 4, _, _)) (m_get rfl rfl (Nat.le_of_ble_eq_true rfl)) ?_
  refine Rk.tr (F1 := (5, 5, _, _)) (x_aload_n rfl rfl rfl) ?_
  refine Rk.tr (F1 := (5, 8, _, _)) (m_get rfl rfl (Nat.le_of_ble_eq_true rfl)) ?_
  refine Rk.tr (F1 := (5, 13, _, _)) (x_icT rfl (tg := 13) rfl (by show S.1 9 < S.1 1; rw [hp, hn]; exact Int32.not_le.mp (nI_ge (by omega) (by omega)))) ?_
  refine Rk.tr (F1 := (5, 14, _, _)) (x_aload_n rfl rfl rfl) ?_
  refine Rk.tr (F1 := (5, 17, _, _)) (m_call (As := []) rfl rfl rfl (Or.inr rfl) rfl rfl rfl (Nat.le_of_ble_eq_true rfl) (c_next hp hn (by omega) h60) rfl) ?_
  refine Rk.tr (F1 := (5, 17, _, _)) (x_top hw) ?_
  refine Rk.tr (F1 := (5, 18, [_, _, _, _], _)) (x_istore_n (i := 1) rfl (Nat.le_of_ble_eq_true rfl)) ?_
  refine Rk.tr (F1 := (5, 19, _, _)) (x_iload_n rfl rfl) ?_
  refine Rk.tr (F1 := (5, 22, _, _)) (x_ifF rfl (tg := 27) rfl (show ¬ (4 : Int32) = 0 by decide)) ?_
  refine Rk.tr (F1 := (5, 23, _, _)) (x_iload_n rfl rfl) ?_
  refine Rk.tr (F1 := (5, 24, _, _)) (x_iconst rfl) ?_
  refine Rk.tr (F1 := (5, 96, _, _)) (x_icT rfl (tg := 96) rfl (show ¬ (4 : Int32) = 1 by decide)) ?_
  refine Rk.tr (F1 := (5, 97, _, _)) (x_iload_n rfl rfl) ?_
  refine Rk.tr (F1 := (5, 100, _, _)) (x_ifF rfl (tg := 106) rfl (show ¬ (4 : Int32) < 0 by decide)) ?_
  refine Rk.tr (F1 := (5, 101, _, _)) (x_iload_n rfl rfl) ?_
  refine Rk.tr (F1 := (5, 103, _, _)) (x_bipush rfl) ?_
  refine Rk.tr (F1 := (5, 108, _, _)) (x_icT rfl (tg := 108) rfl (show (4 : Int32) ≤ 6 by decide)) ?_
  refine Rk.tr (F1 := (5, 109, _, _)) (x_aload_n rfl rfl rfl) ?_
  refine Rk.tr (F1 := (5, 110, _, _)) (x_dup rfl rfl) ?_
  refine Rk.tr (F1 := (5, 113, _, _)) (m_get rfl rfl (Nat.le_of_ble_eq_true rfl)) ?_
  refine Rk.tr (F1 := (5, 114, _, _)) (x_iconst rfl) ?_
  refine Rk.tr (F1 := (5, 115, _, _)) (x_iadd rfl) ?_
  refine Rk.tr (F1 := (5, 118, _, _)) (m_put rfl rfl rfl rfl rfl rfl) ?_
  refine Rk.tr (F1 := (5, 119, _, _)) (x_aload_n rfl rfl rfl) ?_
  refine Rk.tr (F1 := (5, 122, _, _)) (m_get rfl rfl (Nat.le_of_ble_eq_true rfl)) ?_
  refine Rk.tr (F1 := (5, 123, _, _)) (x_aload_n rfl rfl rfl) ?_
  refine Rk.tr (F1 := (5, 126, _, _)) (m_get rfl rfl (Nat.le_of_ble_eq_true rfl)) ?_
  refine Rk.tr (F1 := (5, 127, _, _)) (x_iload_n rfl rfl) ?_
  refine Rk.tr (F1 := (5, 128, _, _)) (m_iast (k := 11) (n := q + 1) rfl rfl rfl (Nat.le_of_ble_eq_true rfl) (by show S.1 10 + 1 = nI (q + 1); rw [hq, nI_1]) (show q + 1 < 61 by omega)) ?_
  refine Rk.tr (F1 := (5, 129, _, _)) (x_aload_n rfl rfl rfl) ?_
  refine Rk.tr (F1 := (5, 132, _, _)) (m_get rfl rfl (Nat.le_of_ble_eq_true rfl)) ?_
  refine Rk.tr (F1 := (5, 133, _, _)) (x_aload_n rfl rfl rfl) ?_
  refine Rk.tr (F1 := (5, 136, _, _)) (m_get rfl rfl (Nat.le_of_ble_eq_true rfl)) ?_
  refine Rk.tr (F1 := (5, 137, _, _)) (x_iconst rfl) ?_
  refine Rk.tr (F1 := (5, 138, _, _)) (m_iast (k := 12) (n := q + 1) rfl rfl rfl (Nat.le_of_ble_eq_true rfl) (by show S.1 10 + 1 = nI (q + 1); rw [hq, nI_1]) (show q + 1 < 61 by omega)) ?_
  refine Rk.tr (F1 := (5, 139, _, _)) (x_iload_n rfl rfl) ?_
  refine Rk.tr (F1 := (5, 140, _, _)) (x_iconst rfl) ?_
  refine Rk.tr (F1 := (5, 143, _, _)) (x_icF rfl (tg := 153) rfl (show ¬ (4 : Int32) = 2 by decide)) ?_
  refine Rk.tr (F1 := (5, 144, _, _)) (x_iload_n rfl rfl) ?_
  refine Rk.tr (F1 := (5, 145, _, _)) (x_iconst rfl) ?_
  refine Rk.tr (F1 := (5, 153, _, _)) (x_icT rfl (tg := 153) rfl rfl) ?_
  refine Rk.tr (F1 := (5, 154, _, _)) (x_iconst rfl) ?_
  refine Rk.tr (F1 := (5, 158, _, _)) (x_goto rfl rfl) ?_
  refine Rk.tr (F1 := (5, 159, [_, _, _, _], _)) (x_istore_n (i := 2) rfl (Nat.le_of_ble_eq_true rfl)) ?_
  refine Rk.tr (F1 := (5, 160, _, _)) (x_iload_n rfl rfl) ?_
  refine Rk.tr (F1 := (5, 163, _, _)) (x_ifF rfl (tg := 176) rfl (show ¬ (1 : Int32) = 0 by decide)) ?_
  refine Rk.tr (F1 := (5, 164, _, _)) (x_aload_n rfl rfl rfl) ?_
  refine Rk.tr (F1 := (5, 167, _, _)) (m_get rfl rfl (Nat.le_of_ble_eq_true rfl)) ?_
  refine Rk.tr (F1 := (5, 168, _, _)) (x_aload_n rfl rfl rfl) ?_
  refine Rk.tr (F1 := (5, 171, _, _)) (m_get rfl rfl (Nat.le_of_ble_eq_true rfl)) ?_
  refine Rk.tr (F1 := (5, 174, _, _)) (x_icF rfl (tg := 176) rfl (by show ¬ S.1 9 + 1 < S.1 1; rw [hp, hn, nI_1]; exact Int32.not_lt.mpr (nI_le (by omega) (by omega)))) ?_
  refine Rk.tr (F1 := (5, 175, _, _)) (x_iconst rfl) ?_
  exact Rk.end rfl (Or.inr (Or.inl ⟨rfl, _, .int, rfl, rfl, rfl, rfl⟩))
theorem b_lo4 (hp : S.1 9 = nI p) (hn : S.1 1 = nI n) (h60 : n ≤ 60) (hw : S.2 2 p = 4) (h : p + 1 < n) (hq : S.1 10 = nI q) (hq6 : q < 60) (hv : S.2 2 (p + 1) < 0) : Rn E (d + 1) 5 [.ref o] (mh g o S) (some (.int (-1))) (mh g o (msA (mNext (mOpen S q 4)) 13 (q + 1) (S.2 2 (p + 1)))) := by
  refine Rn.of (Nat.le_of_ble_eq_true rfl) ?_
  refine Rk.tr (F1 := (5, 1, _, _)) (x_aload_n rfl rfl rfl) ?_
  refine Rk.tr (F1 := (5, 4, _, _)) (m_get rfl rfl (Nat.le_of_ble_eq_true rfl)) ?_
  refine Rk.tr (F1 := (5, 5, _, _)) (x_aload_n rfl rfl rfl) ?_
  refine Rk.tr (F1 := (5, 8, _, _)) (m_get rfl rfl (Nat.le_of_ble_eq_true rfl)) ?_
  refine Rk.tr (F1 := (5, 13, _, _)) (x_icT rfl (tg := 13) rfl (by show S.1 9 < S.1 1; rw [hp, hn]; exact Int32.not_le.mp (nI_ge (by omega) (by omega)))) ?_
  refine Rk.tr (F1 := (5, 14, _, _)) (x_aload_n rfl rfl rfl) ?_
  refine Rk.tr (F1 := (5, 17, _, _)) (m_call (As := []) rfl rfl rfl (Or.inr rfl) rfl rfl rfl (Nat.le_of_ble_eq_true rfl) (c_next hp hn (by omega) h60) rfl) ?_
  refine Rk.tr (F1 := (5, 17, _, _)) (x_top hw) ?_
  refine Rk.tr (F1 := (5, 18, [_, _, _, _], _)) (x_istore_n (i := 1) rfl (Nat.le_of_ble_eq_true rfl)) ?_
  refine Rk.tr (F1 := (5, 19, _, _)) (x_iload_n rfl rfl) ?_
  refine Rk.tr (F1 := (5, 22, _, _)) (x_ifF rfl (tg := 27) rfl (show ¬ (4 : Int32) = 0 by decide)) ?_
  refine Rk.tr (F1 := (5, 23, _, _)) (x_iload_n rfl rfl) ?_
  refine Rk.tr (F1 := (5, 24, _, _)) (x_iconst rfl) ?_
  refine Rk.tr (F1 := (5, 96, _, _)) (x_icT rfl (tg := 96) rfl (show ¬ (4 : Int32) = 1 by decide)) ?_
  refine Rk.tr (F1 := (5, 97, _, _)) (x_iload_n rfl rfl) ?_
  refine Rk.tr (F1 := (5, 100, _, _)) (x_ifF rfl (tg := 106) rfl (show ¬ (4 : Int32) < 0 by decide)) ?_
  refine Rk.tr (F1 := (5, 101, _, _)) (x_iload_n rfl rfl) ?_
  refine Rk.tr (F1 := (5, 103, _, _)) (x_bipush rfl) ?_
  refine Rk.tr (F1 := (5, 108, _, _)) (x_icT rfl (tg := 108) rfl (show (4 : Int32) ≤ 6 by decide)) ?_
  refine Rk.tr (F1 := (5, 109, _, _)) (x_aload_n rfl rfl rfl) ?_
  refine Rk.tr (F1 := (5, 110, _, _)) (x_dup rfl rfl) ?_
  refine Rk.tr (F1 := (5, 113, _, _)) (m_get rfl rfl (Nat.le_of_ble_eq_true rfl)) ?_
  refine Rk.tr (F1 := (5, 114, _, _)) (x_iconst rfl) ?_
  refine Rk.tr (F1 := (5, 115, _, _)) (x_iadd rfl) ?_
  refine Rk.tr (F1 := (5, 118, _, _)) (m_put rfl rfl rfl rfl rfl rfl) ?_
  refine Rk.tr (F1 := (5, 119, _, _)) (x_aload_n rfl rfl rfl) ?_
  refine Rk.tr (F1 := (5, 122, _, _)) (m_get rfl rfl (Nat.le_of_ble_eq_true rfl)) ?_
  refine Rk.tr (F1 := (5, 123, _, _)) (x_aload_n rfl rfl rfl) ?_
  refine Rk.tr (F1 := (5, 126, _, _)) (m_get rfl rfl (Nat.le_of_ble_eq_true rfl)) ?_
  refine Rk.tr (F1 := (5, 127, _, _)) (x_iload_n rfl rfl) ?_
  refine Rk.tr (F1 := (5, 128, _, _)) (m_iast (k := 11) (n := q + 1) rfl rfl rfl (Nat.le_of_ble_eq_true rfl) (by show S.1 10 + 1 = nI (q + 1); rw [hq, nI_1]) (show q + 1 < 61 by omega)) ?_
  refine Rk.tr (F1 := (5, 129, _, _)) (x_aload_n rfl rfl rfl) ?_
  refine Rk.tr (F1 := (5, 132, _, _)) (m_get rfl rfl (Nat.le_of_ble_eq_true rfl)) ?_
  refine Rk.tr (F1 := (5, 133, _, _)) (x_aload_n rfl rfl rfl) ?_
  refine Rk.tr (F1 := (5, 136, _, _)) (m_get rfl rfl (Nat.le_of_ble_eq_true rfl)) ?_
  refine Rk.tr (F1 := (5, 137, _, _)) (x_iconst rfl) ?_
  refine Rk.tr (F1 := (5, 138, _, _)) (m_iast (k := 12) (n := q + 1) rfl rfl rfl (Nat.le_of_ble_eq_true rfl) (by show S.1 10 + 1 = nI (q + 1); rw [hq, nI_1]) (show q + 1 < 61 by omega)) ?_
  refine Rk.tr (F1 := (5, 139, _, _)) (x_iload_n rfl rfl) ?_
  refine Rk.tr (F1 := (5, 140, _, _)) (x_iconst rfl) ?_
  refine Rk.tr (F1 := (5, 143, _, _)) (x_icF rfl (tg := 153) rfl (show ¬ (4 : Int32) = 2 by decide)) ?_
  refine Rk.tr (F1 := (5, 144, _, _)) (x_iload_n rfl rfl) ?_
  refine Rk.tr (F1 := (5, 145, _, _)) (x_iconst rfl) ?_
  refine Rk.tr (F1 := (5, 153, _, _)) (x_icT rfl (tg := 153) rfl rfl) ?_
  refine Rk.tr (F1 := (5, 154, _, _)) (x_iconst rfl) ?_
  refine Rk.tr (F1 := (5, 158, _, _)) (x_goto rfl rfl) ?_
  refine Rk.tr (F1 := (5, 159, [_, _, _, _], _)) (x_istore_n (i := 2) rfl (Nat.le_of_ble_eq_true rfl)) ?_
  refine Rk.tr (F1 := (5, 160, _, _)) (x_iload_n rfl rfl) ?_
  refine Rk.tr (F1 := (5, 163, _, _)) (x_ifF rfl (tg := 176) rfl (show ¬ (1 : Int32) = 0 by decide)) ?_
  refine Rk.tr (F1 := (5, 164, _, _)) (x_aload_n rfl rfl rfl) ?_
  refine Rk.tr (F1 := (5, 167, _, _)) (m_get rfl rfl (Nat.le_of_ble_eq_true rfl)) ?_
  refine Rk.tr (F1 := (5, 168, _, _)) (x_aload_n rfl rfl rfl) ?_
  refine Rk.tr (F1 := (5, 171, _, _)) (m_get rfl rfl (Nat.le_of_ble_eq_true rfl)) ?_
  refine Rk.tr (F1 := (5, 176, _, _)) (x_icT rfl (tg := 176) rfl (by show S.1 9 + 1 < S.1 1; rw [hp, hn, nI_1]; exact Int32.not_le.mp (nI_ge (by omega) (by omega)))) ?_
  refine Rk.tr (F1 := (5, 177, _, _)) (x_aload_n rfl rfl rfl) ?_
  refine Rk.tr (F1 := (5, 180, _, _)) (m_get rfl rfl (Nat.le_of_ble_eq_true rfl)) ?_
  refine Rk.tr (F1 := (5, 181, _, _)) (x_aload_n rfl rfl rfl) ?_
  refine Rk.tr (F1 := (5, 184, _, _)) (m_get rfl rfl (Nat.le_of_ble_eq_true rfl)) ?_
  refine Rk.tr (F1 := (5, 185, _, _)) (x_iload_n rfl rfl) ?_
  refine Rk.tr (F1 := (5, 188, _, _)) (x_ifF rfl (tg := 195) rfl (show ¬ (1 : Int32) = 0 by decide)) ?_
  refine Rk.tr (F1 := (5, 189, _, _)) (x_aload_n rfl rfl rfl) ?_
  refine Rk.tr (F1 := (5, 192, _, _)) (m_call (As := []) rfl rfl rfl (Or.inr rfl) rfl rfl rfl (Nat.le_of_ble_eq_true rfl) (c_next (p := p + 1) (by show S.1 9 + 1 = _; rw [hp, nI_1]) hn (by omega) h60) rfl) ?_
  refine Rk.tr (F1 := (5, 196, _, _)) (x_goto rfl rfl) ?_
  refine Rk.tr (F1 := (5, 197, _, _)) (m_iast (k := 13) (n := q + 1) rfl rfl rfl (Nat.le_of_ble_eq_true rfl) (by show S.1 10 + 1 = nI (q + 1); rw [hq, nI_1]) (show q + 1 < 61 by omega)) ?_
  refine Rk.tr (F1 := (5, 198, _, _)) (x_iload_n rfl rfl) ?_
  refine Rk.tr (F1 := (5, 201, _, _)) (x_ifF rfl (tg := 238) rfl (show ¬ (1 : Int32) = 0 by decide)) ?_
  refine Rk.tr (F1 := (5, 202, _, _)) (x_aload_n rfl rfl rfl) ?_
  refine Rk.tr (F1 := (5, 205, _, _)) (m_get rfl rfl (Nat.le_of_ble_eq_true rfl)) ?_
  refine Rk.tr (F1 := (5, 206, _, _)) (x_aload_n rfl rfl rfl) ?_
  refine Rk.tr (F1 := (5, 209, _, _)) (m_get rfl rfl (Nat.le_of_ble_eq_true rfl)) ?_
  refine Rk.tr (F1 := (5, 210, _, _)) (m_iald (k := 13) (n := q + 1) rfl rfl rfl (by show S.1 10 + 1 = nI (q + 1); rw [hq, nI_1]) (show q + 1 < 61 by omega)) ?_
  refine Rk.tr (F1 := (5, 210, _, _)) (x_top msA_at) ?_
  refine Rk.tr (F1 := (5, 236, _, _)) (x_ifT rfl (tg := 236) rfl hv) ?_
  refine Rk.tr (F1 := (5, 237, _, _)) (x_iconst rfl) ?_
  exact Rk.end rfl (Or.inr (Or.inl ⟨rfl, _, .int, rfl, rfl, rfl, rfl⟩))
theorem b_hi4 (hp : S.1 9 = nI p) (hn : S.1 1 = nI n) (h60 : n ≤ 60) (hw : S.2 2 p = 4) (h : p + 1 < n) (hq : S.1 10 = nI q) (hq6 : q < 60) (hv : ¬ S.2 2 (p + 1) < 0) (hv2 : 9 < S.2 2 (p + 1)) : Rn E (d + 1) 5 [.ref o] (mh g o S) (some (.int (-1))) (mh g o (msA (mNext (mOpen S q 4)) 13 (q + 1) (S.2 2 (p + 1)))) := by
  refine Rn.of (Nat.le_of_ble_eq_true rfl) ?_
  refine Rk.tr (F1 := (5, 1, _, _)) (x_aload_n rfl rfl rfl) ?_
  refine Rk.tr (F1 := (5, 4, _, _)) (m_get rfl rfl (Nat.le_of_ble_eq_true rfl)) ?_
  refine Rk.tr (F1 := (5, 5, _, _)) (x_aload_n rfl rfl rfl) ?_
  refine Rk.tr (F1 := (5, 8, _, _)) (m_get rfl rfl (Nat.le_of_ble_eq_true rfl)) ?_
  refine Rk.tr (F1 := (5, 13, _, _)) (x_icT rfl (tg := 13) rfl (by show S.1 9 < S.1 1; rw [hp, hn]; exact Int32.not_le.mp (nI_ge (by omega) (by omega)))) ?_
  refine Rk.tr (F1 := (5, 14, _, _)) (x_aload_n rfl rfl rfl) ?_
  refine Rk.tr (F1 := (5, 17, _, _)) (m_call (As := []) rfl rfl rfl (Or.inr rfl) rfl rfl rfl (Nat.le_of_ble_eq_true rfl) (c_next hp hn (by omega) h60) rfl) ?_
  refine Rk.tr (F1 := (5, 17, _, _)) (x_top hw) ?_
  refine Rk.tr (F1 := (5, 18, [_, _, _, _], _)) (x_istore_n (i := 1) rfl (Nat.le_of_ble_eq_true rfl)) ?_
  refine Rk.tr (F1 := (5, 19, _, _)) (x_iload_n rfl rfl) ?_
  refine Rk.tr (F1 := (5, 22, _, _)) (x_ifF rfl (tg := 27) rfl (show ¬ (4 : Int32) = 0 by decide)) ?_
  refine Rk.tr (F1 := (5, 23, _, _)) (x_iload_n rfl rfl) ?_
  refine Rk.tr (F1 := (5, 24, _, _)) (x_iconst rfl) ?_
  refine Rk.tr (F1 := (5, 96, _, _)) (x_icT rfl (tg := 96) rfl (show ¬ (4 : Int32) = 1 by decide)) ?_
  refine Rk.tr (F1 := (5, 97, _, _)) (x_iload_n rfl rfl) ?_
  refine Rk.tr (F1 := (5, 100, _, _)) (x_ifF rfl (tg := 106) rfl (show ¬ (4 : Int32) < 0 by decide)) ?_
  refine Rk.tr (F1 := (5, 101, _, _)) (x_iload_n rfl rfl) ?_
  refine Rk.tr (F1 := (5, 103, _, _)) (x_bipush rfl) ?_
  refine Rk.tr (F1 := (5, 108, _, _)) (x_icT rfl (tg := 108) rfl (show (4 : Int32) ≤ 6 by decide)) ?_
  refine Rk.tr (F1 := (5, 109, _, _)) (x_aload_n rfl rfl rfl) ?_
  refine Rk.tr (F1 := (5, 110, _, _)) (x_dup rfl rfl) ?_
  refine Rk.tr (F1 := (5, 113, _, _)) (m_get rfl rfl (Nat.le_of_ble_eq_true rfl)) ?_
  refine Rk.tr (F1 := (5, 114, _, _)) (x_iconst rfl) ?_
  refine Rk.tr (F1 := (5, 115, _, _)) (x_iadd rfl) ?_
  refine Rk.tr (F1 := (5, 118, _, _)) (m_put rfl rfl rfl rfl rfl rfl) ?_
  refine Rk.tr (F1 := (5, 119, _, _)) (x_aload_n rfl rfl rfl) ?_
  refine Rk.tr (F1 := (5, 122, _, _)) (m_get rfl rfl (Nat.le_of_ble_eq_true rfl)) ?_
  refine Rk.tr (F1 := (5, 123, _, _)) (x_aload_n rfl rfl rfl) ?_
  refine Rk.tr (F1 := (5, 126, _, _)) (m_get rfl rfl (Nat.le_of_ble_eq_true rfl)) ?_
  refine Rk.tr (F1 := (5, 127, _, _)) (x_iload_n rfl rfl) ?_
  refine Rk.tr (F1 := (5, 128, _, _)) (m_iast (k := 11) (n := q + 1) rfl rfl rfl (Nat.le_of_ble_eq_true rfl) (by show S.1 10 + 1 = nI (q + 1); rw [hq, nI_1]) (show q + 1 < 61 by omega)) ?_
  refine Rk.tr (F1 := (5, 129, _, _)) (x_aload_n rfl rfl rfl) ?_
  refine Rk.tr (F1 := (5, 132, _, _)) (m_get rfl rfl (Nat.le_of_ble_eq_true rfl)) ?_
  refine Rk.tr (F1 := (5, 133, _, _)) (x_aload_n rfl rfl rfl) ?_
  refine Rk.tr (F1 := (5, 136, _, _)) (m_get rfl rfl (Nat.le_of_ble_eq_true rfl)) ?_
  refine Rk.tr (F1 := (5, 137, _, _)) (x_iconst rfl) ?_
  refine Rk.tr (F1 := (5, 138, _, _)) (m_iast (k := 12) (n := q + 1) rfl rfl rfl (Nat.le_of_ble_eq_true rfl) (by show S.1 10 + 1 = nI (q + 1); rw [hq, nI_1]) (show q + 1 < 61 by omega)) ?_
  refine Rk.tr (F1 := (5, 139, _, _)) (x_iload_n rfl rfl) ?_
  refine Rk.tr (F1 := (5, 140, _, _)) (x_iconst rfl) ?_
  refine Rk.tr (F1 := (5, 143, _, _)) (x_icF rfl (tg := 153) rfl (show ¬ (4 : Int32) = 2 by decide)) ?_
  refine Rk.tr (F1 := (5, 144, _, _)) (x_iload_n rfl rfl) ?_
  refine Rk.tr (F1 := (5, 145, _, _)) (x_iconst rfl) ?_
  refine Rk.tr (F1 := (5, 153, _, _)) (x_icT rfl (tg := 153) rfl rfl) ?_
  refine Rk.tr (F1 := (5, 154, _, _)) (x_iconst rfl) ?_
  refine Rk.tr (F1 := (5, 158, _, _)) (x_goto rfl rfl) ?_
  refine Rk.tr (F1 := (5, 159, [_, _, _, _], _)) (x_istore_n (i := 2) rfl (Nat.le_of_ble_eq_true rfl)) ?_
  refine Rk.tr (F1 := (5, 160, _, _)) (x_iload_n rfl rfl) ?_
  refine Rk.tr (F1 := (5, 163, _, _)) (x_ifF rfl (tg := 176) rfl (show ¬ (1 : Int32) = 0 by decide)) ?_
  refine Rk.tr (F1 := (5, 164, _, _)) (x_aload_n rfl rfl rfl) ?_
  refine Rk.tr (F1 := (5, 167, _, _)) (m_get rfl rfl (Nat.le_of_ble_eq_true rfl)) ?_
  refine Rk.tr (F1 := (5, 168, _, _)) (x_aload_n rfl rfl rfl) ?_
  refine Rk.tr (F1 := (5, 171, _, _)) (m_get rfl rfl (Nat.le_of_ble_eq_true rfl)) ?_
  refine Rk.tr (F1 := (5, 176, _, _)) (x_icT rfl (tg := 176) rfl (by show S.1 9 + 1 < S.1 1; rw [hp, hn, nI_1]; exact Int32.not_le.mp (nI_ge (by omega) (by omega)))) ?_
  refine Rk.tr (F1 := (5, 177, _, _)) (x_aload_n rfl rfl rfl) ?_
  refine Rk.tr (F1 := (5, 180, _, _)) (m_get rfl rfl (Nat.le_of_ble_eq_true rfl)) ?_
  refine Rk.tr (F1 := (5, 181, _, _)) (x_aload_n rfl rfl rfl) ?_
  refine Rk.tr (F1 := (5, 184, _, _)) (m_get rfl rfl (Nat.le_of_ble_eq_true rfl)) ?_
  refine Rk.tr (F1 := (5, 185, _, _)) (x_iload_n rfl rfl) ?_
  refine Rk.tr (F1 := (5, 188, _, _)) (x_ifF rfl (tg := 195) rfl (show ¬ (1 : Int32) = 0 by decide)) ?_
  refine Rk.tr (F1 := (5, 189, _, _)) (x_aload_n rfl rfl rfl) ?_
  refine Rk.tr (F1 := (5, 192, _, _)) (m_call (As := []) rfl rfl rfl (Or.inr rfl) rfl rfl rfl (Nat.le_of_ble_eq_true rfl) (c_next (p := p + 1) (by show S.1 9 + 1 = _; rw [hp, nI_1]) hn (by omega) h60) rfl) ?_
  refine Rk.tr (F1 := (5, 196, _, _)) (x_goto rfl rfl) ?_
  refine Rk.tr (F1 := (5, 197, _, _)) (m_iast (k := 13) (n := q + 1) rfl rfl rfl (Nat.le_of_ble_eq_true rfl) (by show S.1 10 + 1 = nI (q + 1); rw [hq, nI_1]) (show q + 1 < 61 by omega)) ?_
  refine Rk.tr (F1 := (5, 198, _, _)) (x_iload_n rfl rfl) ?_
  refine Rk.tr (F1 := (5, 201, _, _)) (x_ifF rfl (tg := 238) rfl (show ¬ (1 : Int32) = 0 by decide)) ?_
  refine Rk.tr (F1 := (5, 202, _, _)) (x_aload_n rfl rfl rfl) ?_
  refine Rk.tr (F1 := (5, 205, _, _)) (m_get rfl rfl (Nat.le_of_ble_eq_true rfl)) ?_
  refine Rk.tr (F1 := (5, 206, _, _)) (x_aload_n rfl rfl rfl) ?_
  refine Rk.tr (F1 := (5, 209, _, _)) (m_get rfl rfl (Nat.le_of_ble_eq_true rfl)) ?_
  refine Rk.tr (F1 := (5, 210, _, _)) (m_iald (k := 13) (n := q + 1) rfl rfl rfl (by show S.1 10 + 1 = nI (q + 1); rw [hq, nI_1]) (show q + 1 < 61 by omega)) ?_
  refine Rk.tr (F1 := (5, 210, _, _)) (x_top msA_at) ?_
  refine Rk.tr (F1 := (5, 213, _, _)) (x_ifF rfl (tg := 236) rfl hv) ?_
  refine Rk.tr (F1 := (5, 214, _, _)) (x_aload_n rfl rfl rfl) ?_
  refine Rk.tr (F1 := (5, 217, _, _)) (m_get rfl rfl (Nat.le_of_ble_eq_true rfl)) ?_
  refine Rk.tr (F1 := (5, 218, _, _)) (x_aload_n rfl rfl rfl) ?_
  refine Rk.tr (F1 := (5, 221, _, _)) (m_get rfl rfl (Nat.le_of_ble_eq_true rfl)) ?_
  refine Rk.tr (F1 := (5, 222, _, _)) (m_iald (k := 13) (n := q + 1) rfl rfl rfl (by show S.1 10 + 1 = nI (q + 1); rw [hq, nI_1]) (show q + 1 < 61 by omega)) ?_
  refine Rk.tr (F1 := (5, 222, _, _)) (x_top msA_at) ?_
  refine Rk.tr (F1 := (5, 223, _, _)) (x_iload_n rfl rfl) ?_
  refine Rk.tr (F1 := (5, 224, _, _)) (x_iconst rfl) ?_
  refine Rk.tr (F1 := (5, 231, _, _)) (x_icT rfl (tg := 231) rfl (show ¬ (4 : Int32) = 5 by decide)) ?_
  refine Rk.tr (F1 := (5, 233, _, _)) (x_bipush rfl) ?_
  refine Rk.tr (F1 := (5, 236, _, _)) (x_icF rfl (tg := 238) rfl (Int32.not_le.mpr hv2)) ?_
  refine Rk.tr (F1 := (5, 237, _, _)) (x_iconst rfl) ?_
  exact Rk.end rfl (Or.inr (Or.inl ⟨rfl, _, .int, rfl, rfl, rfl, rfl⟩))
theorem b_op4 (hp : S.1 9 = nI p) (hn : S.1 1 = nI n) (h60 : n ≤ 60) (hw : S.2 2 p = 4) (h : p + 1 < n) (hq : S.1 10 = nI q) (hq6 : q < 60) (hv : ¬ S.2 2 (p + 1) < 0) (hv2 : S.2 2 (p + 1) ≤ 9) : Rn E (d + 1) 5 [.ref o] (mh g o S) (some (.int (0))) (mh g o (msA (mNext (mOpen S q 4)) 13 (q + 1) (S.2 2 (p + 1)))) := by
  refine Rn.of (Nat.le_of_ble_eq_true rfl) ?_
  refine Rk.tr (F1 := (5, 1, _, _)) (x_aload_n rfl rfl rfl) ?_
  refine Rk.tr (F1 := (5, 4, _, _)) (m_get rfl rfl (Nat.le_of_ble_eq_true rfl)) ?_
  refine Rk.tr (F1 := (5, 5, _, _)) (x_aload_n rfl rfl rfl) ?_
  refine Rk.tr (F1 := (5, 8, _, _)) (m_get rfl rfl (Nat.le_of_ble_eq_true rfl)) ?_
  refine Rk.tr (F1 := (5, 13, _, _)) (x_icT rfl (tg := 13) rfl (by show S.1 9 < S.1 1; rw [hp, hn]; exact Int32.not_le.mp (nI_ge (by omega) (by omega)))) ?_
  refine Rk.tr (F1 := (5, 14, _, _)) (x_aload_n rfl rfl rfl) ?_
  refine Rk.tr (F1 := (5, 17, _, _)) (m_call (As := []) rfl rfl rfl (Or.inr rfl) rfl rfl rfl (Nat.le_of_ble_eq_true rfl) (c_next hp hn (by omega) h60) rfl) ?_
  refine Rk.tr (F1 := (5, 17, _, _)) (x_top hw) ?_
  refine Rk.tr (F1 := (5, 18, [_, _, _, _], _)) (x_istore_n (i := 1) rfl (Nat.le_of_ble_eq_true rfl)) ?_
  refine Rk.tr (F1 := (5, 19, _, _)) (x_iload_n rfl rfl) ?_
  refine Rk.tr (F1 := (5, 22, _, _)) (x_ifF rfl (tg := 27) rfl (show ¬ (4 : Int32) = 0 by decide)) ?_
  refine Rk.tr (F1 := (5, 23, _, _)) (x_iload_n rfl rfl) ?_
  refine Rk.tr (F1 := (5, 24, _, _)) (x_iconst rfl) ?_
  refine Rk.tr (F1 := (5, 96, _, _)) (x_icT rfl (tg := 96) rfl (show ¬ (4 : Int32) = 1 by decide)) ?_
  refine Rk.tr (F1 := (5, 97, _, _)) (x_iload_n rfl rfl) ?_
  refine Rk.tr (F1 := (5, 100, _, _)) (x_ifF rfl (tg := 106) rfl (show ¬ (4 : Int32) < 0 by decide)) ?_
  refine Rk.tr (F1 := (5, 101, _, _)) (x_iload_n rfl rfl) ?_
  refine Rk.tr (F1 := (5, 103, _, _)) (x_bipush rfl) ?_
  refine Rk.tr (F1 := (5, 108, _, _)) (x_icT rfl (tg := 108) rfl (show (4 : Int32) ≤ 6 by decide)) ?_
  refine Rk.tr (F1 := (5, 109, _, _)) (x_aload_n rfl rfl rfl) ?_
  refine Rk.tr (F1 := (5, 110, _, _)) (x_dup rfl rfl) ?_
  refine Rk.tr (F1 := (5, 113, _, _)) (m_get rfl rfl (Nat.le_of_ble_eq_true rfl)) ?_
  refine Rk.tr (F1 := (5, 114, _, _)) (x_iconst rfl) ?_
  refine Rk.tr (F1 := (5, 115, _, _)) (x_iadd rfl) ?_
  refine Rk.tr (F1 := (5, 118, _, _)) (m_put rfl rfl rfl rfl rfl rfl) ?_
  refine Rk.tr (F1 := (5, 119, _, _)) (x_aload_n rfl rfl rfl) ?_
  refine Rk.tr (F1 := (5, 122, _, _)) (m_get rfl rfl (Nat.le_of_ble_eq_true rfl)) ?_
  refine Rk.tr (F1 := (5, 123, _, _)) (x_aload_n rfl rfl rfl) ?_
  refine Rk.tr (F1 := (5, 126, _, _)) (m_get rfl rfl (Nat.le_of_ble_eq_true rfl)) ?_
  refine Rk.tr (F1 := (5, 127, _, _)) (x_iload_n rfl rfl) ?_
  refine Rk.tr (F1 := (5, 128, _, _)) (m_iast (k := 11) (n := q + 1) rfl rfl rfl (Nat.le_of_ble_eq_true rfl) (by show S.1 10 + 1 = nI (q + 1); rw [hq, nI_1]) (show q + 1 < 61 by omega)) ?_
  refine Rk.tr (F1 := (5, 129, _, _)) (x_aload_n rfl rfl rfl) ?_
  refine Rk.tr (F1 := (5, 132, _, _)) (m_get rfl rfl (Nat.le_of_ble_eq_true rfl)) ?_
  refine Rk.tr (F1 := (5, 133, _, _)) (x_aload_n rfl rfl rfl) ?_
  refine Rk.tr (F1 := (5, 136, _, _)) (m_get rfl rfl (Nat.le_of_ble_eq_true rfl)) ?_
  refine Rk.tr (F1 := (5, 137, _, _)) (x_iconst rfl) ?_
  refine Rk.tr (F1 := (5, 138, _, _)) (m_iast (k := 12) (n := q + 1) rfl rfl rfl (Nat.le_of_ble_eq_true rfl) (by show S.1 10 + 1 = nI (q + 1); rw [hq, nI_1]) (show q + 1 < 61 by omega)) ?_
  refine Rk.tr (F1 := (5, 139, _, _)) (x_iload_n rfl rfl) ?_
  refine Rk.tr (F1 := (5, 140, _, _)) (x_iconst rfl) ?_
  refine Rk.tr (F1 := (5, 143, _, _)) (x_icF rfl (tg := 153) rfl (show ¬ (4 : Int32) = 2 by decide)) ?_
  refine Rk.tr (F1 := (5, 144, _, _)) (x_iload_n rfl rfl) ?_
  refine Rk.tr (F1 := (5, 145, _, _)) (x_iconst rfl) ?_
  refine Rk.tr (F1 := (5, 153, _, _)) (x_icT rfl (tg := 153) rfl rfl) ?_
  refine Rk.tr (F1 := (5, 154, _, _)) (x_iconst rfl) ?_
  refine Rk.tr (F1 := (5, 158, _, _)) (x_goto rfl rfl) ?_
  refine Rk.tr (F1 := (5, 159, [_, _, _, _], _)) (x_istore_n (i := 2) rfl (Nat.le_of_ble_eq_true rfl)) ?_
  refine Rk.tr (F1 := (5, 160, _, _)) (x_iload_n rfl rfl) ?_
  refine Rk.tr (F1 := (5, 163, _, _)) (x_ifF rfl (tg := 176) rfl (show ¬ (1 : Int32) = 0 by decide)) ?_
  refine Rk.tr (F1 := (5, 164, _, _)) (x_aload_n rfl rfl rfl) ?_
  refine Rk.tr (F1 := (5, 167, _, _)) (m_get rfl rfl (Nat.le_of_ble_eq_true rfl)) ?_
  refine Rk.tr (F1 := (5, 168, _, _)) (x_aload_n rfl rfl rfl) ?_
  refine Rk.tr (F1 := (5, 171, _, _)) (m_get rfl rfl (Nat.le_of_ble_eq_true rfl)) ?_
  refine Rk.tr (F1 := (5, 176, _, _)) (x_icT rfl (tg := 176) rfl (by show S.1 9 + 1 < S.1 1; rw [hp, hn, nI_1]; exact Int32.not_le.mp (nI_ge (by omega) (by omega)))) ?_
  refine Rk.tr (F1 := (5, 177, _, _)) (x_aload_n rfl rfl rfl) ?_
  refine Rk.tr (F1 := (5, 180, _, _)) (m_get rfl rfl (Nat.le_of_ble_eq_true rfl)) ?_
  refine Rk.tr (F1 := (5, 181, _, _)) (x_aload_n rfl rfl rfl) ?_
  refine Rk.tr (F1 := (5, 184, _, _)) (m_get rfl rfl (Nat.le_of_ble_eq_true rfl)) ?_
  refine Rk.tr (F1 := (5, 185, _, _)) (x_iload_n rfl rfl) ?_
  refine Rk.tr (F1 := (5, 188, _, _)) (x_ifF rfl (tg := 195) rfl (show ¬ (1 : Int32) = 0 by decide)) ?_
  refine Rk.tr (F1 := (5, 189, _, _)) (x_aload_n rfl rfl rfl) ?_
  refine Rk.tr (F1 := (5, 192, _, _)) (m_call (As := []) rfl rfl rfl (Or.inr rfl) rfl rfl rfl (Nat.le_of_ble_eq_true rfl) (c_next (p := p + 1) (by show S.1 9 + 1 = _; rw [hp, nI_1]) hn (by omega) h60) rfl) ?_
  refine Rk.tr (F1 := (5, 196, _, _)) (x_goto rfl rfl) ?_
  refine Rk.tr (F1 := (5, 197, _, _)) (m_iast (k := 13) (n := q + 1) rfl rfl rfl (Nat.le_of_ble_eq_true rfl) (by show S.1 10 + 1 = nI (q + 1); rw [hq, nI_1]) (show q + 1 < 61 by omega)) ?_
  refine Rk.tr (F1 := (5, 198, _, _)) (x_iload_n rfl rfl) ?_
  refine Rk.tr (F1 := (5, 201, _, _)) (x_ifF rfl (tg := 238) rfl (show ¬ (1 : Int32) = 0 by decide)) ?_
  refine Rk.tr (F1 := (5, 202, _, _)) (x_aload_n rfl rfl rfl) ?_
  refine Rk.tr (F1 := (5, 205, _, _)) (m_get rfl rfl (Nat.le_of_ble_eq_true rfl)) ?_
  refine Rk.tr (F1 := (5, 206, _, _)) (x_aload_n rfl rfl rfl) ?_
  refine Rk.tr (F1 := (5, 209, _, _)) (m_get rfl rfl (Nat.le_of_ble_eq_true rfl)) ?_
  refine Rk.tr (F1 := (5, 210, _, _)) (m_iald (k := 13) (n := q + 1) rfl rfl rfl (by show S.1 10 + 1 = nI (q + 1); rw [hq, nI_1]) (show q + 1 < 61 by omega)) ?_
  refine Rk.tr (F1 := (5, 210, _, _)) (x_top msA_at) ?_
  refine Rk.tr (F1 := (5, 213, _, _)) (x_ifF rfl (tg := 236) rfl hv) ?_
  refine Rk.tr (F1 := (5, 214, _, _)) (x_aload_n rfl rfl rfl) ?_
  refine Rk.tr (F1 := (5, 217, _, _)) (m_get rfl rfl (Nat.le_of_ble_eq_true rfl)) ?_
  refine Rk.tr (F1 := (5, 218, _, _)) (x_aload_n rfl rfl rfl) ?_
  refine Rk.tr (F1 := (5, 221, _, _)) (m_get rfl rfl (Nat.le_of_ble_eq_true rfl)) ?_
  refine Rk.tr (F1 := (5, 222, _, _)) (m_iald (k := 13) (n := q + 1) rfl rfl rfl (by show S.1 10 + 1 = nI (q + 1); rw [hq, nI_1]) (show q + 1 < 61 by omega)) ?_
  refine Rk.tr (F1 := (5, 222, _, _)) (x_top msA_at) ?_
  refine Rk.tr (F1 := (5, 223, _, _)) (x_iload_n rfl rfl) ?_
  refine Rk.tr (F1 := (5, 224, _, _)) (x_iconst rfl) ?_
  refine Rk.tr (F1 := (5, 231, _, _)) (x_icT rfl (tg := 231) rfl (show ¬ (4 : Int32) = 5 by decide)) ?_
  refine Rk.tr (F1 := (5, 233, _, _)) (x_bipush rfl) ?_
  refine Rk.tr (F1 := (5, 238, _, _)) (x_icT rfl (tg := 238) rfl hv2) ?_
  refine Rk.tr (F1 := (5, 239, _, _)) (x_iload_n rfl rfl) ?_
  refine Rk.tr (F1 := (5, 240, _, _)) (x_iconst rfl) ?_
  refine Rk.tr (F1 := (5, 296, _, _)) (x_icT rfl (tg := 296) rfl (show ¬ (4 : Int32) = 2 by decide)) ?_
  refine Rk.tr (F1 := (5, 297, _, _)) (x_iconst rfl) ?_
  exact Rk.end rfl (Or.inr (Or.inl ⟨rfl, _, .int, rfl, rfl, rfl, rfl⟩))
theorem b_sh5 (hp : S.1 9 = nI p) (hn : S.1 1 = nI n) (h60 : n ≤ 60) (hw : S.2 2 p = 5) (h : p < n) (h1 : n ≤ p + 1) (hq : S.1 10 = nI q) (hq6 : q < 60) : Rn E (d + 1) 5 [.ref o] (mh g o S) (some (.int (-1))) (mh g o (mOpen S q 5)) := by
  refine Rn.of (Nat.le_of_ble_eq_true rfl) ?_
  refine Rk.tr (F1 := (5, 1, _, _)) (x_aload_n rfl rfl rfl) ?_
  refine Rk.tr (F1 := (5, 4, _, _)) (m_get rfl rfl (Nat.le_of_ble_eq_true rfl)) ?_
  refine Rk.tr (F1 := (5, 5, _, _)) (x_aload_n rfl rfl rfl) ?_
  refine Rk.tr (F1 := (5, 8, _, _)) (m_get rfl rfl (Nat.le_of_ble_eq_true rfl)) ?_
  refine Rk.tr (F1 := (5, 13, _, _)) (x_icT rfl (tg := 13) rfl (by show S.1 9 < S.1 1; rw [hp, hn]; exact Int32.not_le.mp (nI_ge (by omega) (by omega)))) ?_
  refine Rk.tr (F1 := (5, 14, _, _)) (x_aload_n rfl rfl rfl) ?_
  refine Rk.tr (F1 := (5, 17, _, _)) (m_call (As := []) rfl rfl rfl (Or.inr rfl) rfl rfl rfl (Nat.le_of_ble_eq_true rfl) (c_next hp hn (by omega) h60) rfl) ?_
  refine Rk.tr (F1 := (5, 17, _, _)) (x_top hw) ?_
  refine Rk.tr (F1 := (5, 18, [_, _, _, _], _)) (x_istore_n (i := 1) rfl (Nat.le_of_ble_eq_true rfl)) ?_
  refine Rk.tr (F1 := (5, 19, _, _)) (x_iload_n rfl rfl) ?_
  refine Rk.tr (F1 := (5, 22, _, _)) (x_ifF rfl (tg := 27) rfl (show ¬ (5 : Int32) = 0 by decide)) ?_
  refine Rk.tr (F1 := (5, 23, _, _)) (x_iload_n rfl rfl) ?_
  refine Rk.tr (F1 := (5, 24, _, _)) (x_iconst rfl) ?_
  refine Rk.tr (F1 := (5, 96, _, _)) (x_icT rfl (tg := 96) rfl (show ¬ (5 : Int32) = 1 by decide)) ?_
  refine Rk.tr (F1 := (5, 97, _, _)) (x_iload_n rfl rfl) ?_
  refine Rk.tr (F1 := (5, 100, _, _)) (x_ifF rfl (tg := 106) rfl (show ¬ (5 : Int32) < 0 by decide)) ?_
  refine Rk.tr (F1 := (5, 101, _, _)) (x_iload_n rfl rfl) ?_
  refine Rk.tr (F1 := (5, 103, _, _)) (x_bipush rfl) ?_
  refine Rk.tr (F1 := (5, 108, _, _)) (x_icT rfl (tg := 108) rfl (show (5 : Int32) ≤ 6 by decide)) ?_
  refine Rk.tr (F1 := (5, 109, _, _)) (x_aload_n rfl rfl rfl) ?_
  refine Rk.tr (F1 := (5, 110, _, _)) (x_dup rfl rfl) ?_
  refine Rk.tr (F1 := (5, 113, _, _)) (m_get rfl rfl (Nat.le_of_ble_eq_true rfl)) ?_
  refine Rk.tr (F1 := (5, 114, _, _)) (x_iconst rfl) ?_
  refine Rk.tr (F1 := (5, 115, _, _)) (x_iadd rfl) ?_
  refine Rk.tr (F1 := (5, 118, _, _)) (m_put rfl rfl rfl rfl rfl rfl) ?_
  refine Rk.tr (F1 := (5, 119, _, _)) (x_aload_n rfl rfl rfl) ?_
  refine Rk.tr (F1 := (5, 122, _, _)) (m_get rfl rfl (Nat.le_of_ble_eq_true rfl)) ?_
  refine Rk.tr (F1 := (5, 123, _, _)) (x_aload_n rfl rfl rfl) ?_
  refine Rk.tr (F1 := (5, 126, _, _)) (m_get rfl rfl (Nat.le_of_ble_eq_true rfl)) ?_
  refine Rk.tr (F1 := (5, 127, _, _)) (x_iload_n rfl rfl) ?_
  refine Rk.tr (F1 := (5, 128, _, _)) (m_iast (k := 11) (n := q + 1) rfl rfl rfl (Nat.le_of_ble_eq_true rfl) (by show S.1 10 + 1 = nI (q + 1); rw [hq, nI_1]) (show q + 1 < 61 by omega)) ?_
  refine Rk.tr (F1 := (5, 129, _, _)) (x_aload_n rfl rfl rfl) ?_
  refine Rk.tr (F1 := (5, 132, _, _)) (m_get rfl rfl (Nat.le_of_ble_eq_true rfl)) ?_
  refine Rk.tr (F1 := (5, 133, _, _)) (x_aload_n rfl rfl rfl) ?_
  refine Rk.tr (F1 := (5, 136, _, _)) (m_get rfl rfl (Nat.le_of_ble_eq_true rfl)) ?_
  refine Rk.tr (F1 := (5, 137, _, _)) (x_iconst rfl) ?_
  refine Rk.tr (F1 := (5, 138, _, _)) (m_iast (k := 12) (n := q + 1) rfl rfl rfl (Nat.le_of_ble_eq_true rfl) (by show S.1 10 + 1 = nI (q + 1); rw [hq, nI_1]) (show q + 1 < 61 by omega)) ?_
  refine Rk.tr (F1 := (5, 139, _, _)) (x_iload_n rfl rfl) ?_
  refine Rk.tr (F1 := (5, 140, _, _)) (x_iconst rfl) ?_
  refine Rk.tr (F1 := (5, 143, _, _)) (x_icF rfl (tg := 153) rfl (show ¬ (5 : Int32) = 2 by decide)) ?_
  refine Rk.tr (F1 := (5, 144, _, _)) (x_iload_n rfl rfl) ?_
  refine Rk.tr (F1 := (5, 145, _, _)) (x_iconst rfl) ?_
  refine Rk.tr (F1 := (5, 148, _, _)) (x_icF rfl (tg := 153) rfl (show ¬ (5 : Int32) = 4 by decide)) ?_
  refine Rk.tr (F1 := (5, 149, _, _)) (x_iload_n rfl rfl) ?_
  refine Rk.tr (F1 := (5, 150, _, _)) (x_iconst rfl) ?_
  refine Rk.tr (F1 := (5, 153, _, _)) (x_icF rfl (tg := 157) rfl (fun q => q rfl)) ?_
  refine Rk.tr (F1 := (5, 154, _, _)) (x_iconst rfl) ?_
  refine Rk.tr (F1 := (5, 158, _, _)) (x_goto rfl rfl) ?_
  refine Rk.tr (F1 := (5, 159, [_, _, _, _], _)) (x_istore_n (i := 2) rfl (Nat.le_of_ble_eq_true rfl)) ?_
  refine Rk.tr (F1 := (5, 160, _, _)) (x_iload_n rfl rfl) ?_
  refine Rk.tr (F1 := (5, 163, _, _)) (x_ifF rfl (tg := 176) rfl (show ¬ (1 : Int32) = 0 by decide)) ?_
  refine Rk.tr (F1 := (5, 164, _, _)) (x_aload_n rfl rfl rfl) ?_
  refine Rk.tr (F1 := (5, 167, _, _)) (m_get rfl rfl (Nat.le_of_ble_eq_true rfl)) ?_
  refine Rk.tr (F1 := (5, 168, _, _)) (x_aload_n rfl rfl rfl) ?_
  refine Rk.tr (F1 := (5, 171, _, _)) (m_get rfl rfl (Nat.le_of_ble_eq_true rfl)) ?_
  refine Rk.tr (F1 := (5, 174, _, _)) (x_icF rfl (tg := 176) rfl (by show ¬ S.1 9 + 1 < S.1 1; rw [hp, hn, nI_1]; exact Int32.not_lt.mpr (nI_le (by omega) (by omega)))) ?_
  refine Rk.tr (F1 := (5, 175, _, _)) (x_iconst rfl) ?_
  exact Rk.end rfl (Or.inr (Or.inl ⟨rfl, _, .int, rfl, rfl, rfl, rfl⟩))
theorem b_lo5 (hp : S.1 9 = nI p) (hn : S.1 1 = nI n) (h60 : n ≤ 60) (hw : S.2 2 p = 5) (h : p + 1 < n) (hq : S.1 10 = nI q) (hq6 : q < 60) (hv : S.2 2 (p + 1) < 0) : Rn E (d + 1) 5 [.ref o] (mh g o S) (some (.int (-1))) (mh g o (msA (mNext (mOpen S q 5)) 13 (q + 1) (S.2 2 (p + 1)))) := by
  refine Rn.of (Nat.le_of_ble_eq_true rfl) ?_
  refine Rk.tr (F1 := (5, 1, _, _)) (x_aload_n rfl rfl rfl) ?_
  refine Rk.tr (F1 := (5, 4, _, _)) (m_get rfl rfl (Nat.le_of_ble_eq_true rfl)) ?_
  refine Rk.tr (F1 := (5, 5, _, _)) (x_aload_n rfl rfl rfl) ?_
  refine Rk.tr (F1 := (5, 8, _, _)) (m_get rfl rfl (Nat.le_of_ble_eq_true rfl)) ?_
  refine Rk.tr (F1 := (5, 13, _, _)) (x_icT rfl (tg := 13) rfl (by show S.1 9 < S.1 1; rw [hp, hn]; exact Int32.not_le.mp (nI_ge (by omega) (by omega)))) ?_
  refine Rk.tr (F1 := (5, 14, _, _)) (x_aload_n rfl rfl rfl) ?_
  refine Rk.tr (F1 := (5, 17, _, _)) (m_call (As := []) rfl rfl rfl (Or.inr rfl) rfl rfl rfl (Nat.le_of_ble_eq_true rfl) (c_next hp hn (by omega) h60) rfl) ?_
  refine Rk.tr (F1 := (5, 17, _, _)) (x_top hw) ?_
  refine Rk.tr (F1 := (5, 18, [_, _, _, _], _)) (x_istore_n (i := 1) rfl (Nat.le_of_ble_eq_true rfl)) ?_
  refine Rk.tr (F1 := (5, 19, _, _)) (x_iload_n rfl rfl) ?_
  refine Rk.tr (F1 := (5, 22, _, _)) (x_ifF rfl (tg := 27) rfl (show ¬ (5 : Int32) = 0 by decide)) ?_
  refine Rk.tr (F1 := (5, 23, _, _)) (x_iload_n rfl rfl) ?_
  refine Rk.tr (F1 := (5, 24, _, _)) (x_iconst rfl) ?_
  refine Rk.tr (F1 := (5, 96, _, _)) (x_icT rfl (tg := 96) rfl (show ¬ (5 : Int32) = 1 by decide)) ?_
  refine Rk.tr (F1 := (5, 97, _, _)) (x_iload_n rfl rfl) ?_
  refine Rk.tr (F1 := (5, 100, _, _)) (x_ifF rfl (tg := 106) rfl (show ¬ (5 : Int32) < 0 by decide)) ?_
  refine Rk.tr (F1 := (5, 101, _, _)) (x_iload_n rfl rfl) ?_
  refine Rk.tr (F1 := (5, 103, _, _)) (x_bipush rfl) ?_
  refine Rk.tr (F1 := (5, 108, _, _)) (x_icT rfl (tg := 108) rfl (show (5 : Int32) ≤ 6 by decide)) ?_
  refine Rk.tr (F1 := (5, 109, _, _)) (x_aload_n rfl rfl rfl) ?_
  refine Rk.tr (F1 := (5, 110, _, _)) (x_dup rfl rfl) ?_
  refine Rk.tr (F1 := (5, 113, _, _)) (m_get rfl rfl (Nat.le_of_ble_eq_true rfl)) ?_
  refine Rk.tr (F1 := (5, 114, _, _)) (x_iconst rfl) ?_
  refine Rk.tr (F1 := (5, 115, _, _)) (x_iadd rfl) ?_
  refine Rk.tr (F1 := (5, 118, _, _)) (m_put rfl rfl rfl rfl rfl rfl) ?_
  refine Rk.tr (F1 := (5, 119, _, _)) (x_aload_n rfl rfl rfl) ?_
  refine Rk.tr (F1 := (5, 122, _, _)) (m_get rfl rfl (Nat.le_of_ble_eq_true rfl)) ?_
  refine Rk.tr (F1 := (5, 123, _, _)) (x_aload_n rfl rfl rfl) ?_
  refine Rk.tr (F1 := (5, 126, _, _)) (m_get rfl rfl (Nat.le_of_ble_eq_true rfl)) ?_
  refine Rk.tr (F1 := (5, 127, _, _)) (x_iload_n rfl rfl) ?_
  refine Rk.tr (F1 := (5, 128, _, _)) (m_iast (k := 11) (n := q + 1) rfl rfl rfl (Nat.le_of_ble_eq_true rfl) (by show S.1 10 + 1 = nI (q + 1); rw [hq, nI_1]) (show q + 1 < 61 by omega)) ?_
  refine Rk.tr (F1 := (5, 129, _, _)) (x_aload_n rfl rfl rfl) ?_
  refine Rk.tr (F1 := (5, 132, _, _)) (m_get rfl rfl (Nat.le_of_ble_eq_true rfl)) ?_
  refine Rk.tr (F1 := (5, 133, _, _)) (x_aload_n rfl rfl rfl) ?_
  refine Rk.tr (F1 := (5, 136, _, _)) (m_get rfl rfl (Nat.le_of_ble_eq_true rfl)) ?_
  refine Rk.tr (F1 := (5, 137, _, _)) (x_iconst rfl) ?_
  refine Rk.tr (F1 := (5, 138, _, _)) (m_iast (k := 12) (n := q + 1) rfl rfl rfl (Nat.le_of_ble_eq_true rfl) (by show S.1 10 + 1 = nI (q + 1); rw [hq, nI_1]) (show q + 1 < 61 by omega)) ?_
  refine Rk.tr (F1 := (5, 139, _, _)) (x_iload_n rfl rfl) ?_
  refine Rk.tr (F1 := (5, 140, _, _)) (x_iconst rfl) ?_
  refine Rk.tr (F1 := (5, 143, _, _)) (x_icF rfl (tg := 153) rfl (show ¬ (5 : Int32) = 2 by decide)) ?_
  refine Rk.tr (F1 := (5, 144, _, _)) (x_iload_n rfl rfl) ?_
  refine Rk.tr (F1 := (5, 145, _, _)) (x_iconst rfl) ?_
  refine Rk.tr (F1 := (5, 148, _, _)) (x_icF rfl (tg := 153) rfl (show ¬ (5 : Int32) = 4 by decide)) ?_
  refine Rk.tr (F1 := (5, 149, _, _)) (x_iload_n rfl rfl) ?_
  refine Rk.tr (F1 := (5, 150, _, _)) (x_iconst rfl) ?_
  refine Rk.tr (F1 := (5, 153, _, _)) (x_icF rfl (tg := 157) rfl (fun q => q rfl)) ?_
  refine Rk.tr (F1 := (5, 154, _, _)) (x_iconst rfl) ?_
  refine Rk.tr (F1 := (5, 158, _, _)) (x_goto rfl rfl) ?_
  refine Rk.tr (F1 := (5, 159, [_, _, _, _], _)) (x_istore_n (i := 2) rfl (Nat.le_of_ble_eq_true rfl)) ?_
  refine Rk.tr (F1 := (5, 160, _, _)) (x_iload_n rfl rfl) ?_
  refine Rk.tr (F1 := (5, 163, _, _)) (x_ifF rfl (tg := 176) rfl (show ¬ (1 : Int32) = 0 by decide)) ?_
  refine Rk.tr (F1 := (5, 164, _, _)) (x_aload_n rfl rfl rfl) ?_
  refine Rk.tr (F1 := (5, 167, _, _)) (m_get rfl rfl (Nat.le_of_ble_eq_true rfl)) ?_
  refine Rk.tr (F1 := (5, 168, _, _)) (x_aload_n rfl rfl rfl) ?_
  refine Rk.tr (F1 := (5, 171, _, _)) (m_get rfl rfl (Nat.le_of_ble_eq_true rfl)) ?_
  refine Rk.tr (F1 := (5, 176, _, _)) (x_icT rfl (tg := 176) rfl (by show S.1 9 + 1 < S.1 1; rw [hp, hn, nI_1]; exact Int32.not_le.mp (nI_ge (by omega) (by omega)))) ?_
  refine Rk.tr (F1 := (5, 177, _, _)) (x_aload_n rfl rfl rfl) ?_
  refine Rk.tr (F1 := (5, 180, _, _)) (m_get rfl rfl (Nat.le_of_ble_eq_true rfl)) ?_
  refine Rk.tr (F1 := (5, 181, _, _)) (x_aload_n rfl rfl rfl) ?_
  refine Rk.tr (F1 := (5, 184, _, _)) (m_get rfl rfl (Nat.le_of_ble_eq_true rfl)) ?_
  refine Rk.tr (F1 := (5, 185, _, _)) (x_iload_n rfl rfl) ?_
  refine Rk.tr (F1 := (5, 188, _, _)) (x_ifF rfl (tg := 195) rfl (show ¬ (1 : Int32) = 0 by decide)) ?_
  refine Rk.tr (F1 := (5, 189, _, _)) (x_aload_n rfl rfl rfl) ?_
  refine Rk.tr (F1 := (5, 192, _, _)) (m_call (As := []) rfl rfl rfl (Or.inr rfl) rfl rfl rfl (Nat.le_of_ble_eq_true rfl) (c_next (p := p + 1) (by show S.1 9 + 1 = _; rw [hp, nI_1]) hn (by omega) h60) rfl) ?_
  refine Rk.tr (F1 := (5, 196, _, _)) (x_goto rfl rfl) ?_
  refine Rk.tr (F1 := (5, 197, _, _)) (m_iast (k := 13) (n := q + 1) rfl rfl rfl (Nat.le_of_ble_eq_true rfl) (by show S.1 10 + 1 = nI (q + 1); rw [hq, nI_1]) (show q + 1 < 61 by omega)) ?_
  refine Rk.tr (F1 := (5, 198, _, _)) (x_iload_n rfl rfl) ?_
  refine Rk.tr (F1 := (5, 201, _, _)) (x_ifF rfl (tg := 238) rfl (show ¬ (1 : Int32) = 0 by decide)) ?_
  refine Rk.tr (F1 := (5, 202, _, _)) (x_aload_n rfl rfl rfl) ?_
  refine Rk.tr (F1 := (5, 205, _, _)) (m_get rfl rfl (Nat.le_of_ble_eq_true rfl)) ?_
  refine Rk.tr (F1 := (5, 206, _, _)) (x_aload_n rfl rfl rfl) ?_
  refine Rk.tr (F1 := (5, 209, _, _)) (m_get rfl rfl (Nat.le_of_ble_eq_true rfl)) ?_
  refine Rk.tr (F1 := (5, 210, _, _)) (m_iald (k := 13) (n := q + 1) rfl rfl rfl (by show S.1 10 + 1 = nI (q + 1); rw [hq, nI_1]) (show q + 1 < 61 by omega)) ?_
  refine Rk.tr (F1 := (5, 210, _, _)) (x_top msA_at) ?_
  refine Rk.tr (F1 := (5, 236, _, _)) (x_ifT rfl (tg := 236) rfl hv) ?_
  refine Rk.tr (F1 := (5, 237, _, _)) (x_iconst rfl) ?_
  exact Rk.end rfl (Or.inr (Or.inl ⟨rfl, _, .int, rfl, rfl, rfl, rfl⟩))
theorem b_hi5 (hp : S.1 9 = nI p) (hn : S.1 1 = nI n) (h60 : n ≤ 60) (hw : S.2 2 p = 5) (h : p + 1 < n) (hq : S.1 10 = nI q) (hq6 : q < 60) (hv : ¬ S.2 2 (p + 1) < 0) (hv2 : 4 < S.2 2 (p + 1)) : Rn E (d + 1) 5 [.ref o] (mh g o S) (some (.int (-1))) (mh g o (msA (mNext (mOpen S q 5)) 13 (q + 1) (S.2 2 (p + 1)))) := by
  refine Rn.of (Nat.le_of_ble_eq_true rfl) ?_
  refine Rk.tr (F1 := (5, 1, _, _)) (x_aload_n rfl rfl rfl) ?_
  refine Rk.tr (F1 := (5, 4, _, _)) (m_get rfl rfl (Nat.le_of_ble_eq_true rfl)) ?_
  refine Rk.tr (F1 := (5, 5, _, _)) (x_aload_n rfl rfl rfl) ?_
  refine Rk.tr (F1 := (5, 8, _, _)) (m_get rfl rfl (Nat.le_of_ble_eq_true rfl)) ?_
  refine Rk.tr (F1 := (5, 13, _, _)) (x_icT rfl (tg := 13) rfl (by show S.1 9 < S.1 1; rw [hp, hn]; exact Int32.not_le.mp (nI_ge (by omega) (by omega)))) ?_
  refine Rk.tr (F1 := (5, 14, _, _)) (x_aload_n rfl rfl rfl) ?_
  refine Rk.tr (F1 := (5, 17, _, _)) (m_call (As := []) rfl rfl rfl (Or.inr rfl) rfl rfl rfl (Nat.le_of_ble_eq_true rfl) (c_next hp hn (by omega) h60) rfl) ?_
  refine Rk.tr (F1 := (5, 17, _, _)) (x_top hw) ?_
  refine Rk.tr (F1 := (5, 18, [_, _, _, _], _)) (x_istore_n (i := 1) rfl (Nat.le_of_ble_eq_true rfl)) ?_
  refine Rk.tr (F1 := (5, 19, _, _)) (x_iload_n rfl rfl) ?_
  refine Rk.tr (F1 := (5, 22, _, _)) (x_ifF rfl (tg := 27) rfl (show ¬ (5 : Int32) = 0 by decide)) ?_
  refine Rk.tr (F1 := (5, 23, _, _)) (x_iload_n rfl rfl) ?_
  refine Rk.tr (F1 := (5, 24, _, _)) (x_iconst rfl) ?_
  refine Rk.tr (F1 := (5, 96, _, _)) (x_icT rfl (tg := 96) rfl (show ¬ (5 : Int32) = 1 by decide)) ?_
  refine Rk.tr (F1 := (5, 97, _, _)) (x_iload_n rfl rfl) ?_
  refine Rk.tr (F1 := (5, 100, _, _)) (x_ifF rfl (tg := 106) rfl (show ¬ (5 : Int32) < 0 by decide)) ?_
  refine Rk.tr (F1 := (5, 101, _, _)) (x_iload_n rfl rfl) ?_
  refine Rk.tr (F1 := (5, 103, _, _)) (x_bipush rfl) ?_
  refine Rk.tr (F1 := (5, 108, _, _)) (x_icT rfl (tg := 108) rfl (show (5 : Int32) ≤ 6 by decide)) ?_
  refine Rk.tr (F1 := (5, 109, _, _)) (x_aload_n rfl rfl rfl) ?_
  refine Rk.tr (F1 := (5, 110, _, _)) (x_dup rfl rfl) ?_
  refine Rk.tr (F1 := (5, 113, _, _)) (m_get rfl rfl (Nat.le_of_ble_eq_true rfl)) ?_
  refine Rk.tr (F1 := (5, 114, _, _)) (x_iconst rfl) ?_
  refine Rk.tr (F1 := (5, 115, _, _)) (x_iadd rfl) ?_
  refine Rk.tr (F1 := (5, 118, _, _)) (m_put rfl rfl rfl rfl rfl rfl) ?_
  refine Rk.tr (F1 := (5, 119, _, _)) (x_aload_n rfl rfl rfl) ?_
  refine Rk.tr (F1 := (5, 122, _, _)) (m_get rfl rfl (Nat.le_of_ble_eq_true rfl)) ?_
  refine Rk.tr (F1 := (5, 123, _, _)) (x_aload_n rfl rfl rfl) ?_
  refine Rk.tr (F1 := (5, 126, _, _)) (m_get rfl rfl (Nat.le_of_ble_eq_true rfl)) ?_
  refine Rk.tr (F1 := (5, 127, _, _)) (x_iload_n rfl rfl) ?_
  refine Rk.tr (F1 := (5, 128, _, _)) (m_iast (k := 11) (n := q + 1) rfl rfl rfl (Nat.le_of_ble_eq_true rfl) (by show S.1 10 + 1 = nI (q + 1); rw [hq, nI_1]) (show q + 1 < 61 by omega)) ?_
  refine Rk.tr (F1 := (5, 129, _, _)) (x_aload_n rfl rfl rfl) ?_
  refine Rk.tr (F1 := (5, 132, _, _)) (m_get rfl rfl (Nat.le_of_ble_eq_true rfl)) ?_
  refine Rk.tr (F1 := (5, 133, _, _)) (x_aload_n rfl rfl rfl) ?_
  refine Rk.tr (F1 := (5, 136, _, _)) (m_get rfl rfl (Nat.le_of_ble_eq_true rfl)) ?_
  refine Rk.tr (F1 := (5, 137, _, _)) (x_iconst rfl) ?_
  refine Rk.tr (F1 := (5, 138, _, _)) (m_iast (k := 12) (n := q + 1) rfl rfl rfl (Nat.le_of_ble_eq_true rfl) (by show S.1 10 + 1 = nI (q + 1); rw [hq, nI_1]) (show q + 1 < 61 by omega)) ?_
  refine Rk.tr (F1 := (5, 139, _, _)) (x_iload_n rfl rfl) ?_
  refine Rk.tr (F1 := (5, 140, _, _)) (x_iconst rfl) ?_
  refine Rk.tr (F1 := (5, 143, _, _)) (x_icF rfl (tg := 153) rfl (show ¬ (5 : Int32) = 2 by decide)) ?_
  refine Rk.tr (F1 := (5, 144, _, _)) (x_iload_n rfl rfl) ?_
  refine Rk.tr (F1 := (5, 145, _, _)) (x_iconst rfl) ?_
  refine Rk.tr (F1 := (5, 148, _, _)) (x_icF rfl (tg := 153) rfl (show ¬ (5 : Int32) = 4 by decide)) ?_
  refine Rk.tr (F1 := (5, 149, _, _)) (x_iload_n rfl rfl) ?_
  refine Rk.tr (F1 := (5, 150, _, _)) (x_iconst rfl) ?_
  refine Rk.tr (F1 := (5, 153, _, _)) (x_icF rfl (tg := 157) rfl (fun q => q rfl)) ?_
  refine Rk.tr (F1 := (5, 154, _, _)) (x_iconst rfl) ?_
  refine Rk.tr (F1 := (5, 158, _, _)) (x_goto rfl rfl) ?_
  refine Rk.tr (F1 := (5, 159, [_, _, _, _], _)) (x_istore_n (i := 2) rfl (Nat.le_of_ble_eq_true rfl)) ?_
  refine Rk.tr (F1 := (5, 160, _, _)) (x_iload_n rfl rfl) ?_
  refine Rk.tr (F1 := (5, 163, _, _)) (x_ifF rfl (tg := 176) rfl (show ¬ (1 : Int32) = 0 by decide)) ?_
  refine Rk.tr (F1 := (5, 164, _, _)) (x_aload_n rfl rfl rfl) ?_
  refine Rk.tr (F1 := (5, 167, _, _)) (m_get rfl rfl (Nat.le_of_ble_eq_true rfl)) ?_
  refine Rk.tr (F1 := (5, 168, _, _)) (x_aload_n rfl rfl rfl) ?_
  refine Rk.tr (F1 := (5, 171, _, _)) (m_get rfl rfl (Nat.le_of_ble_eq_true rfl)) ?_
  refine Rk.tr (F1 := (5, 176, _, _)) (x_icT rfl (tg := 176) rfl (by show S.1 9 + 1 < S.1 1; rw [hp, hn, nI_1]; exact Int32.not_le.mp (nI_ge (by omega) (by omega)))) ?_
  refine Rk.tr (F1 := (5, 177, _, _)) (x_aload_n rfl rfl rfl) ?_
  refine Rk.tr (F1 := (5, 180, _, _)) (m_get rfl rfl (Nat.le_of_ble_eq_true rfl)) ?_
  refine Rk.tr (F1 := (5, 181, _, _)) (x_aload_n rfl rfl rfl) ?_
  refine Rk.tr (F1 := (5, 184, _, _)) (m_get rfl rfl (Nat.le_of_ble_eq_true rfl)) ?_
  refine Rk.tr (F1 := (5, 185, _, _)) (x_iload_n rfl rfl) ?_
  refine Rk.tr (F1 := (5, 188, _, _)) (x_ifF rfl (tg := 195) rfl (show ¬ (1 : Int32) = 0 by decide)) ?_
  refine Rk.tr (F1 := (5, 189, _, _)) (x_aload_n rfl rfl rfl) ?_
  refine Rk.tr (F1 := (5, 192, _, _)) (m_call (As := []) rfl rfl rfl (Or.inr rfl) rfl rfl rfl (Nat.le_of_ble_eq_true rfl) (c_next (p := p + 1) (by show S.1 9 + 1 = _; rw [hp, nI_1]) hn (by omega) h60) rfl) ?_
  refine Rk.tr (F1 := (5, 196, _, _)) (x_goto rfl rfl) ?_
  refine Rk.tr (F1 := (5, 197, _, _)) (m_iast (k := 13) (n := q + 1) rfl rfl rfl (Nat.le_of_ble_eq_true rfl) (by show S.1 10 + 1 = nI (q + 1); rw [hq, nI_1]) (show q + 1 < 61 by omega)) ?_
  refine Rk.tr (F1 := (5, 198, _, _)) (x_iload_n rfl rfl) ?_
  refine Rk.tr (F1 := (5, 201, _, _)) (x_ifF rfl (tg := 238) rfl (show ¬ (1 : Int32) = 0 by decide)) ?_
  refine Rk.tr (F1 := (5, 202, _, _)) (x_aload_n rfl rfl rfl) ?_
  refine Rk.tr (F1 := (5, 205, _, _)) (m_get rfl rfl (Nat.le_of_ble_eq_true rfl)) ?_
  refine Rk.tr (F1 := (5, 206, _, _)) (x_aload_n rfl rfl rfl) ?_
  refine Rk.tr (F1 := (5, 209, _, _)) (m_get rfl rfl (Nat.le_of_ble_eq_true rfl)) ?_
  refine Rk.tr (F1 := (5, 210, _, _)) (m_iald (k := 13) (n := q + 1) rfl rfl rfl (by show S.1 10 + 1 = nI (q + 1); rw [hq, nI_1]) (show q + 1 < 61 by omega)) ?_
  refine Rk.tr (F1 := (5, 210, _, _)) (x_top msA_at) ?_
  refine Rk.tr (F1 := (5, 213, _, _)) (x_ifF rfl (tg := 236) rfl hv) ?_
  refine Rk.tr (F1 := (5, 214, _, _)) (x_aload_n rfl rfl rfl) ?_
  refine Rk.tr (F1 := (5, 217, _, _)) (m_get rfl rfl (Nat.le_of_ble_eq_true rfl)) ?_
  refine Rk.tr (F1 := (5, 218, _, _)) (x_aload_n rfl rfl rfl) ?_
  refine Rk.tr (F1 := (5, 221, _, _)) (m_get rfl rfl (Nat.le_of_ble_eq_true rfl)) ?_
  refine Rk.tr (F1 := (5, 222, _, _)) (m_iald (k := 13) (n := q + 1) rfl rfl rfl (by show S.1 10 + 1 = nI (q + 1); rw [hq, nI_1]) (show q + 1 < 61 by omega)) ?_
  refine Rk.tr (F1 := (5, 222, _, _)) (x_top msA_at) ?_
  refine Rk.tr (F1 := (5, 223, _, _)) (x_iload_n rfl rfl) ?_
  refine Rk.tr (F1 := (5, 224, _, _)) (x_iconst rfl) ?_
  refine Rk.tr (F1 := (5, 227, _, _)) (x_icF rfl (tg := 231) rfl (fun q => q rfl)) ?_
  refine Rk.tr (F1 := (5, 228, _, _)) (x_iconst rfl) ?_
  refine Rk.tr (F1 := (5, 233, _, _)) (x_goto rfl rfl) ?_
  refine Rk.tr (F1 := (5, 236, _, _)) (x_icF rfl (tg := 238) rfl (Int32.not_le.mpr hv2)) ?_
  refine Rk.tr (F1 := (5, 237, _, _)) (x_iconst rfl) ?_
  exact Rk.end rfl (Or.inr (Or.inl ⟨rfl, _, .int, rfl, rfl, rfl, rfl⟩))
theorem b_op5 (hp : S.1 9 = nI p) (hn : S.1 1 = nI n) (h60 : n ≤ 60) (hw : S.2 2 p = 5) (h : p + 1 < n) (hq : S.1 10 = nI q) (hq6 : q < 60) (hv : ¬ S.2 2 (p + 1) < 0) (hv2 : S.2 2 (p + 1) ≤ 4) : Rn E (d + 1) 5 [.ref o] (mh g o S) (some (.int (0))) (mh g o (msA (mNext (mOpen S q 5)) 13 (q + 1) (S.2 2 (p + 1)))) := by
  refine Rn.of (Nat.le_of_ble_eq_true rfl) ?_
  refine Rk.tr (F1 := (5, 1, _, _)) (x_aload_n rfl rfl rfl) ?_
  refine Rk.tr (F1 := (5, 4, _, _)) (m_get rfl rfl (Nat.le_of_ble_eq_true rfl)) ?_
  refine Rk.tr (F1 := (5, 5, _, _)) (x_aload_n rfl rfl rfl) ?_
  refine Rk.tr (F1 := (5, 8, _, _)) (m_get rfl rfl (Nat.le_of_ble_eq_true rfl)) ?_
  refine Rk.tr (F1 := (5, 13, _, _)) (x_icT rfl (tg := 13) rfl (by show S.1 9 < S.1 1; rw [hp, hn]; exact Int32.not_le.mp (nI_ge (by omega) (by omega)))) ?_
  refine Rk.tr (F1 := (5, 14, _, _)) (x_aload_n rfl rfl rfl) ?_
  refine Rk.tr (F1 := (5, 17, _, _)) (m_call (As := []) rfl rfl rfl (Or.inr rfl) rfl rfl rfl (Nat.le_of_ble_eq_true rfl) (c_next hp hn (by omega) h60) rfl) ?_
  refine Rk.tr (F1 := (5, 17, _, _)) (x_top hw) ?_
  refine Rk.tr (F1 := (5, 18, [_, _, _, _], _)) (x_istore_n (i := 1) rfl (Nat.le_of_ble_eq_true rfl)) ?_
  refine Rk.tr (F1 := (5, 19, _, _)) (x_iload_n rfl rfl) ?_
  refine Rk.tr (F1 := (5, 22, _, _)) (x_ifF rfl (tg := 27) rfl (show ¬ (5 : Int32) = 0 by decide)) ?_
  refine Rk.tr (F1 := (5, 23, _, _)) (x_iload_n rfl rfl) ?_
  refine Rk.tr (F1 := (5, 24, _, _)) (x_iconst rfl) ?_
  refine Rk.tr (F1 := (5, 96, _, _)) (x_icT rfl (tg := 96) rfl (show ¬ (5 : Int32) = 1 by decide)) ?_
  refine Rk.tr (F1 := (5, 97, _, _)) (x_iload_n rfl rfl) ?_
  refine Rk.tr (F1 := (5, 100, _, _)) (x_ifF rfl (tg := 106) rfl (show ¬ (5 : Int32) < 0 by decide)) ?_
  refine Rk.tr (F1 := (5, 101, _, _)) (x_iload_n rfl rfl) ?_
  refine Rk.tr (F1 := (5, 103, _, _)) (x_bipush rfl) ?_
  refine Rk.tr (F1 := (5, 108, _, _)) (x_icT rfl (tg := 108) rfl (show (5 : Int32) ≤ 6 by decide)) ?_
  refine Rk.tr (F1 := (5, 109, _, _)) (x_aload_n rfl rfl rfl) ?_
  refine Rk.tr (F1 := (5, 110, _, _)) (x_dup rfl rfl) ?_
  refine Rk.tr (F1 := (5, 113, _, _)) (m_get rfl rfl (Nat.le_of_ble_eq_true rfl)) ?_
  refine Rk.tr (F1 := (5, 114, _, _)) (x_iconst rfl) ?_
  refine Rk.tr (F1 := (5, 115, _, _)) (x_iadd rfl) ?_
  refine Rk.tr (F1 := (5, 118, _, _)) (m_put rfl rfl rfl rfl rfl rfl) ?_
  refine Rk.tr (F1 := (5, 119, _, _)) (x_aload_n rfl rfl rfl) ?_
  refine Rk.tr (F1 := (5, 122, _, _)) (m_get rfl rfl (Nat.le_of_ble_eq_true rfl)) ?_
  refine Rk.tr (F1 := (5, 123, _, _)) (x_aload_n rfl rfl rfl) ?_
  refine Rk.tr (F1 := (5, 126, _, _)) (m_get rfl rfl (Nat.le_of_ble_eq_true rfl)) ?_
  refine Rk.tr (F1 := (5, 127, _, _)) (x_iload_n rfl rfl) ?_
  refine Rk.tr (F1 := (5, 128, _, _)) (m_iast (k := 11) (n := q + 1) rfl rfl rfl (Nat.le_of_ble_eq_true rfl) (by show S.1 10 + 1 = nI (q + 1); rw [hq, nI_1]) (show q + 1 < 61 by omega)) ?_
  refine Rk.tr (F1 := (5, 129, _, _)) (x_aload_n rfl rfl rfl) ?_
  refine Rk.tr (F1 := (5, 132, _, _)) (m_get rfl rfl (Nat.le_of_ble_eq_true rfl)) ?_
  refine Rk.tr (F1 := (5, 133, _, _)) (x_aload_n rfl rfl rfl) ?_
  refine Rk.tr (F1 := (5, 136, _, _)) (m_get rfl rfl (Nat.le_of_ble_eq_true rfl)) ?_
  refine Rk.tr (F1 := (5, 137, _, _)) (x_iconst rfl) ?_
  refine Rk.tr (F1 := (5, 138, _, _)) (m_iast (k := 12) (n := q + 1) rfl rfl rfl (Nat.le_of_ble_eq_true rfl) (by show S.1 10 + 1 = nI (q + 1); rw [hq, nI_1]) (show q + 1 < 61 by omega)) ?_
  refine Rk.tr (F1 := (5, 139, _, _)) (x_iload_n rfl rfl) ?_
  refine Rk.tr (F1 := (5, 140, _, _)) (x_iconst rfl) ?_
  refine Rk.tr (F1 := (5, 143, _, _)) (x_icF rfl (tg := 153) rfl (show ¬ (5 : Int32) = 2 by decide)) ?_
  refine Rk.tr (F1 := (5, 144, _, _)) (x_iload_n rfl rfl) ?_
  refine Rk.tr (F1 := (5, 145, _, _)) (x_iconst rfl) ?_
  refine Rk.tr (F1 := (5, 148, _, _)) (x_icF rfl (tg := 153) rfl (show ¬ (5 : Int32) = 4 by decide)) ?_
  refine Rk.tr (F1 := (5, 149, _, _)) (x_iload_n rfl rfl) ?_
  refine Rk.tr (F1 := (5, 150, _, _)) (x_iconst rfl) ?_
  refine Rk.tr (F1 := (5, 153, _, _)) (x_icF rfl (tg := 157) rfl (fun q => q rfl)) ?_
  refine Rk.tr (F1 := (5, 154, _, _)) (x_iconst rfl) ?_
  refine Rk.tr (F1 := (5, 158, _, _)) (x_goto rfl rfl) ?_
  refine Rk.tr (F1 := (5, 159, [_, _, _, _], _)) (x_istore_n (i := 2) rfl (Nat.le_of_ble_eq_true rfl)) ?_
  refine Rk.tr (F1 := (5, 160, _, _)) (x_iload_n rfl rfl) ?_
  refine Rk.tr (F1 := (5, 163, _, _)) (x_ifF rfl (tg := 176) rfl (show ¬ (1 : Int32) = 0 by decide)) ?_
  refine Rk.tr (F1 := (5, 164, _, _)) (x_aload_n rfl rfl rfl) ?_
  refine Rk.tr (F1 := (5, 167, _, _)) (m_get rfl rfl (Nat.le_of_ble_eq_true rfl)) ?_
  refine Rk.tr (F1 := (5, 168, _, _)) (x_aload_n rfl rfl rfl) ?_
  refine Rk.tr (F1 := (5, 171, _, _)) (m_get rfl rfl (Nat.le_of_ble_eq_true rfl)) ?_
  refine Rk.tr (F1 := (5, 176, _, _)) (x_icT rfl (tg := 176) rfl (by show S.1 9 + 1 < S.1 1; rw [hp, hn, nI_1]; exact Int32.not_le.mp (nI_ge (by omega) (by omega)))) ?_
  refine Rk.tr (F1 := (5, 177, _, _)) (x_aload_n rfl rfl rfl) ?_
  refine Rk.tr (F1 := (5, 180, _, _)) (m_get rfl rfl (Nat.le_of_ble_eq_true rfl)) ?_
  refine Rk.tr (F1 := (5, 181, _, _)) (x_aload_n rfl rfl rfl) ?_
  refine Rk.tr (F1 := (5, 184, _, _)) (m_get rfl rfl (Nat.le_of_ble_eq_true rfl)) ?_
  refine Rk.tr (F1 := (5, 185, _, _)) (x_iload_n rfl rfl) ?_
  refine Rk.tr (F1 := (5, 188, _, _)) (x_ifF rfl (tg := 195) rfl (show ¬ (1 : Int32) = 0 by decide)) ?_
  refine Rk.tr (F1 := (5, 189, _, _)) (x_aload_n rfl rfl rfl) ?_
  refine Rk.tr (F1 := (5, 192, _, _)) (m_call (As := []) rfl rfl rfl (Or.inr rfl) rfl rfl rfl (Nat.le_of_ble_eq_true rfl) (c_next (p := p + 1) (by show S.1 9 + 1 = _; rw [hp, nI_1]) hn (by omega) h60) rfl) ?_
  refine Rk.tr (F1 := (5, 196, _, _)) (x_goto rfl rfl) ?_
  refine Rk.tr (F1 := (5, 197, _, _)) (m_iast (k := 13) (n := q + 1) rfl rfl rfl (Nat.le_of_ble_eq_true rfl) (by show S.1 10 + 1 = nI (q + 1); rw [hq, nI_1]) (show q + 1 < 61 by omega)) ?_
  refine Rk.tr (F1 := (5, 198, _, _)) (x_iload_n rfl rfl) ?_
  refine Rk.tr (F1 := (5, 201, _, _)) (x_ifF rfl (tg := 238) rfl (show ¬ (1 : Int32) = 0 by decide)) ?_
  refine Rk.tr (F1 := (5, 202, _, _)) (x_aload_n rfl rfl rfl) ?_
  refine Rk.tr (F1 := (5, 205, _, _)) (m_get rfl rfl (Nat.le_of_ble_eq_true rfl)) ?_
  refine Rk.tr (F1 := (5, 206, _, _)) (x_aload_n rfl rfl rfl) ?_
  refine Rk.tr (F1 := (5, 209, _, _)) (m_get rfl rfl (Nat.le_of_ble_eq_true rfl)) ?_
  refine Rk.tr (F1 := (5, 210, _, _)) (m_iald (k := 13) (n := q + 1) rfl rfl rfl (by show S.1 10 + 1 = nI (q + 1); rw [hq, nI_1]) (show q + 1 < 61 by omega)) ?_
  refine Rk.tr (F1 := (5, 210, _, _)) (x_top msA_at) ?_
  refine Rk.tr (F1 := (5, 213, _, _)) (x_ifF rfl (tg := 236) rfl hv) ?_
  refine Rk.tr (F1 := (5, 214, _, _)) (x_aload_n rfl rfl rfl) ?_
  refine Rk.tr (F1 := (5, 217, _, _)) (m_get rfl rfl (Nat.le_of_ble_eq_true rfl)) ?_
  refine Rk.tr (F1 := (5, 218, _, _)) (x_aload_n rfl rfl rfl) ?_
  refine Rk.tr (F1 := (5, 221, _, _)) (m_get rfl rfl (Nat.le_of_ble_eq_true rfl)) ?_
  refine Rk.tr (F1 := (5, 222, _, _)) (m_iald (k := 13) (n := q + 1) rfl rfl rfl (by show S.1 10 + 1 = nI (q + 1); rw [hq, nI_1]) (show q + 1 < 61 by omega)) ?_
  refine Rk.tr (F1 := (5, 222, _, _)) (x_top msA_at) ?_
  refine Rk.tr (F1 := (5, 223, _, _)) (x_iload_n rfl rfl) ?_
  refine Rk.tr (F1 := (5, 224, _, _)) (x_iconst rfl) ?_
  refine Rk.tr (F1 := (5, 227, _, _)) (x_icF rfl (tg := 231) rfl (fun q => q rfl)) ?_
  refine Rk.tr (F1 := (5, 228, _, _)) (x_iconst rfl) ?_
  refine Rk.tr (F1 := (5, 233, _, _)) (x_goto rfl rfl) ?_
  refine Rk.tr (F1 := (5, 238, _, _)) (x_icT rfl (tg := 238) rfl hv2) ?_
  refine Rk.tr (F1 := (5, 239, _, _)) (x_iload_n rfl rfl) ?_
  refine Rk.tr (F1 := (5, 240, _, _)) (x_iconst rfl) ?_
  refine Rk.tr (F1 := (5, 296, _, _)) (x_icT rfl (tg := 296) rfl (show ¬ (5 : Int32) = 2 by decide)) ?_
  refine Rk.tr (F1 := (5, 297, _, _)) (x_iconst rfl) ?_
  exact Rk.end rfl (Or.inr (Or.inl ⟨rfl, _, .int, rfl, rfl, rfl, rfl⟩))
def mFun0 (S : MSt) (q : Nat) (x : Int32) : MSt := msA (msI (msA (mNext (mOpen S q 2)) 13 (q + 1) x) 24 (S.1 24 + 1)) 14 (q + 1) (S.1 23)
def mFun (S : MSt) (q : Nat) (x : Nat) : MSt := mMeans (mBegR (mEmit (mEmit (mEmit (mEmit (mFun0 S q (nI x)) 8) (-1)) 2) (S.1 24 + 1 - 1))) (q + 1) x 1 (S.1 24 + 1 - 1)
theorem b_op2 (hp : S.1 9 = nI p) (hn : S.1 1 = nI n) (h60 : n ≤ 60) {x dr : Nat} (hw : S.2 2 p = 2) (h : p + 1 < n) (hq : S.1 10 = nI q) (hq6 : q < 60) (hv : S.2 2 (p + 1) = nI x) (hx : x < 10) (hd : S.1 23 = nI dr) (hd8 : dr + 3 < 800) : Rn E (d + 1) 5 [.ref o] (mh g o S) (some (.int (0))) (mh g o (mFun S q x)) := by
  refine Rn.of (Nat.le_of_ble_eq_true rfl) ?_
  refine Rk.tr (F1 := (5, 1, _, _)) (x_aload_n rfl rfl rfl) ?_
  refine Rk.tr (F1 := (5, 4, _, _)) (m_get rfl rfl (Nat.le_of_ble_eq_true rfl)) ?_
  refine Rk.tr (F1 := (5, 5, _, _)) (x_aload_n rfl rfl rfl) ?_
  refine Rk.tr (F1 := (5, 8, _, _)) (m_get rfl rfl (Nat.le_of_ble_eq_true rfl)) ?_
  refine Rk.tr (F1 := (5, 13, _, _)) (x_icT rfl (tg := 13) rfl (by show S.1 9 < S.1 1; rw [hp, hn]; exact Int32.not_le.mp (nI_ge (by omega) (by omega)))) ?_
  refine Rk.tr (F1 := (5, 14, _, _)) (x_aload_n rfl rfl rfl) ?_
  refine Rk.tr (F1 := (5, 17, _, _)) (m_call (As := []) rfl rfl rfl (Or.inr rfl) rfl rfl rfl (Nat.le_of_ble_eq_true rfl) (c_next hp hn (by omega) h60) rfl) ?_
  refine Rk.tr (F1 := (5, 17, _, _)) (x_top hw) ?_
  refine Rk.tr (F1 := (5, 18, [_, _, _, _], _)) (x_istore_n (i := 1) rfl (Nat.le_of_ble_eq_true rfl)) ?_
  refine Rk.tr (F1 := (5, 19, _, _)) (x_iload_n rfl rfl) ?_
  refine Rk.tr (F1 := (5, 22, _, _)) (x_ifF rfl (tg := 27) rfl (show ¬ (2 : Int32) = 0 by decide)) ?_
  refine Rk.tr (F1 := (5, 23, _, _)) (x_iload_n rfl rfl) ?_
  refine Rk.tr (F1 := (5, 24, _, _)) (x_iconst rfl) ?_
  refine Rk.tr (F1 := (5, 96, _, _)) (x_icT rfl (tg := 96) rfl (show ¬ (2 : Int32) = 1 by decide)) ?_
  refine Rk.tr (F1 := (5, 97, _, _)) (x_iload_n rfl rfl) ?_
  refine Rk.tr (F1 := (5, 100, _, _)) (x_ifF rfl (tg := 106) rfl (show ¬ (2 : Int32) < 0 by decide)) ?_
  refine Rk.tr (F1 := (5, 101, _, _)) (x_iload_n rfl rfl) ?_
  refine Rk.tr (F1 := (5, 103, _, _)) (x_bipush rfl) ?_
  refine Rk.tr (F1 := (5, 108, _, _)) (x_icT rfl (tg := 108) rfl (show (2 : Int32) ≤ 6 by decide)) ?_
  refine Rk.tr (F1 := (5, 109, _, _)) (x_aload_n rfl rfl rfl) ?_
  refine Rk.tr (F1 := (5, 110, _, _)) (x_dup rfl rfl) ?_
  refine Rk.tr (F1 := (5, 113, _, _)) (m_get rfl rfl (Nat.le_of_ble_eq_true rfl)) ?_
  refine Rk.tr (F1 := (5, 114, _, _)) (x_iconst rfl) ?_
  refine Rk.tr (F1 := (5, 115, _, _)) (x_iadd rfl) ?_
  refine Rk.tr (F1 := (5, 118, _, _)) (m_put rfl rfl rfl rfl rfl rfl) ?_
  refine Rk.tr (F1 := (5, 119, _, _)) (x_aload_n rfl rfl rfl) ?_
  refine Rk.tr (F1 := (5, 122, _, _)) (m_get rfl rfl (Nat.le_of_ble_eq_true rfl)) ?_
  refine Rk.tr (F1 := (5, 123, _, _)) (x_aload_n rfl rfl rfl) ?_
  refine Rk.tr (F1 := (5, 126, _, _)) (m_get rfl rfl (Nat.le_of_ble_eq_true rfl)) ?_
  refine Rk.tr (F1 := (5, 127, _, _)) (x_iload_n rfl rfl) ?_
  refine Rk.tr (F1 := (5, 128, _, _)) (m_iast (k := 11) (n := q + 1) rfl rfl rfl (Nat.le_of_ble_eq_true rfl) (by show S.1 10 + 1 = nI (q + 1); rw [hq, nI_1]) (show q + 1 < 61 by omega)) ?_
  refine Rk.tr (F1 := (5, 129, _, _)) (x_aload_n rfl rfl rfl) ?_
  refine Rk.tr (F1 := (5, 132, _, _)) (m_get rfl rfl (Nat.le_of_ble_eq_true rfl)) ?_
  refine Rk.tr (F1 := (5, 133, _, _)) (x_aload_n rfl rfl rfl) ?_
  refine Rk.tr (F1 := (5, 136, _, _)) (m_get rfl rfl (Nat.le_of_ble_eq_true rfl)) ?_
  refine Rk.tr (F1 := (5, 137, _, _)) (x_iconst rfl) ?_
  refine Rk.tr (F1 := (5, 138, _, _)) (m_iast (k := 12) (n := q + 1) rfl rfl rfl (Nat.le_of_ble_eq_true rfl) (by show S.1 10 + 1 = nI (q + 1); rw [hq, nI_1]) (show q + 1 < 61 by omega)) ?_
  refine Rk.tr (F1 := (5, 139, _, _)) (x_iload_n rfl rfl) ?_
  refine Rk.tr (F1 := (5, 140, _, _)) (x_iconst rfl) ?_
  refine Rk.tr (F1 := (5, 153, _, _)) (x_icT rfl (tg := 153) rfl rfl) ?_
  refine Rk.tr (F1 := (5, 154, _, _)) (x_iconst rfl) ?_
  refine Rk.tr (F1 := (5, 158, _, _)) (x_goto rfl rfl) ?_
  refine Rk.tr (F1 := (5, 159, [_, _, _, _], _)) (x_istore_n (i := 2) rfl (Nat.le_of_ble_eq_true rfl)) ?_
  refine Rk.tr (F1 := (5, 160, _, _)) (x_iload_n rfl rfl) ?_
  refine Rk.tr (F1 := (5, 163, _, _)) (x_ifF rfl (tg := 176) rfl (show ¬ (1 : Int32) = 0 by decide)) ?_
  refine Rk.tr (F1 := (5, 164, _, _)) (x_aload_n rfl rfl rfl) ?_
  refine Rk.tr (F1 := (5, 167, _, _)) (m_get rfl rfl (Nat.le_of_ble_eq_true rfl)) ?_
  refine Rk.tr (F1 := (5, 168, _, _)) (x_aload_n rfl rfl rfl) ?_
  refine Rk.tr (F1 := (5, 171, _, _)) (m_get rfl rfl (Nat.le_of_ble_eq_true rfl)) ?_
  refine Rk.tr (F1 := (5, 176, _, _)) (x_icT rfl (tg := 176) rfl (by show S.1 9 + 1 < S.1 1; rw [hp, hn, nI_1]; exact Int32.not_le.mp (nI_ge (by omega) (by omega)))) ?_
  refine Rk.tr (F1 := (5, 177, _, _)) (x_aload_n rfl rfl rfl) ?_
  refine Rk.tr (F1 := (5, 180, _, _)) (m_get rfl rfl (Nat.le_of_ble_eq_true rfl)) ?_
  refine Rk.tr (F1 := (5, 181, _, _)) (x_aload_n rfl rfl rfl) ?_
  refine Rk.tr (F1 := (5, 184, _, _)) (m_get rfl rfl (Nat.le_of_ble_eq_true rfl)) ?_
  refine Rk.tr (F1 := (5, 185, _, _)) (x_iload_n rfl rfl) ?_
  refine Rk.tr (F1 := (5, 188, _, _)) (x_ifF rfl (tg := 195) rfl (show ¬ (1 : Int32) = 0 by decide)) ?_
  refine Rk.tr (F1 := (5, 189, _, _)) (x_aload_n rfl rfl rfl) ?_
  refine Rk.tr (F1 := (5, 192, _, _)) (m_call (As := []) rfl rfl rfl (Or.inr rfl) rfl rfl rfl (Nat.le_of_ble_eq_true rfl) (c_next (p := p + 1) (by show S.1 9 + 1 = _; rw [hp, nI_1]) hn (by omega) h60) rfl) ?_
  refine Rk.tr (F1 := (5, 192, _, _)) (x_top hv) ?_
  refine Rk.tr (F1 := (5, 196, _, _)) (x_goto rfl rfl) ?_
  refine Rk.tr (F1 := (5, 197, _, _)) (m_iast (k := 13) (n := q + 1) rfl rfl rfl (Nat.le_of_ble_eq_true rfl) (by show S.1 10 + 1 = nI (q + 1); rw [hq, nI_1]) (show q + 1 < 61 by omega)) ?_
  refine Rk.tr (F1 := (5, 198, _, _)) (x_iload_n rfl rfl) ?_
  refine Rk.tr (F1 := (5, 201, _, _)) (x_ifF rfl (tg := 238) rfl (show ¬ (1 : Int32) = 0 by decide)) ?_
  refine Rk.tr (F1 := (5, 202, _, _)) (x_aload_n rfl rfl rfl) ?_
  refine Rk.tr (F1 := (5, 205, _, _)) (m_get rfl rfl (Nat.le_of_ble_eq_true rfl)) ?_
  refine Rk.tr (F1 := (5, 206, _, _)) (x_aload_n rfl rfl rfl) ?_
  refine Rk.tr (F1 := (5, 209, _, _)) (m_get rfl rfl (Nat.le_of_ble_eq_true rfl)) ?_
  refine Rk.tr (F1 := (5, 210, _, _)) (m_iald (k := 13) (n := q + 1) rfl rfl rfl (by show S.1 10 + 1 = nI (q + 1); rw [hq, nI_1]) (show q + 1 < 61 by omega)) ?_
  refine Rk.tr (F1 := (5, 210, _, _)) (x_top msA_at) ?_
  refine Rk.tr (F1 := (5, 213, _, _)) (x_ifF rfl (tg := 236) rfl (show ¬ nI x < nI 0 from Int32.not_lt.mpr (nI_le (by omega) (by omega)))) ?_
  refine Rk.tr (F1 := (5, 214, _, _)) (x_aload_n rfl rfl rfl) ?_
  refine Rk.tr (F1 := (5, 217, _, _)) (m_get rfl rfl (Nat.le_of_ble_eq_true rfl)) ?_
  refine Rk.tr (F1 := (5, 218, _, _)) (x_aload_n rfl rfl rfl) ?_
  refine Rk.tr (F1 := (5, 221, _, _)) (m_get rfl rfl (Nat.le_of_ble_eq_true rfl)) ?_
  refine Rk.tr (F1 := (5, 222, _, _)) (m_iald (k := 13) (n := q + 1) rfl rfl rfl (by show S.1 10 + 1 = nI (q + 1); rw [hq, nI_1]) (show q + 1 < 61 by omega)) ?_
  refine Rk.tr (F1 := (5, 222, _, _)) (x_top msA_at) ?_
  refine Rk.tr (F1 := (5, 223, _, _)) (x_iload_n rfl rfl) ?_
  refine Rk.tr (F1 := (5, 224, _, _)) (x_iconst rfl) ?_
  refine Rk.tr (F1 := (5, 231, _, _)) (x_icT rfl (tg := 231) rfl (show ¬ (2 : Int32) = 5 by decide)) ?_
  refine Rk.tr (F1 := (5, 233, _, _)) (x_bipush rfl) ?_
  refine Rk.tr (F1 := (5, 238, _, _)) (x_icT rfl (tg := 238) rfl (show nI x ≤ nI 9 from nI_le (by omega) (by omega))) ?_
  refine Rk.tr (F1 := (5, 239, _, _)) (x_iload_n rfl rfl) ?_
  refine Rk.tr (F1 := (5, 240, _, _)) (x_iconst rfl) ?_
  refine Rk.tr (F1 := (5, 243, _, _)) (x_icF rfl (tg := 296) rfl (fun q => q rfl)) ?_
  refine Rk.tr (F1 := (5, 244, _, _)) (x_aload_n rfl rfl rfl) ?_
  refine Rk.tr (F1 := (5, 247, _, _)) (m_call (As := []) rfl rfl rfl (Or.inr rfl) rfl rfl rfl (Nat.le_of_ble_eq_true rfl) c_newName rfl) ?_
  refine Rk.tr (F1 := (5, 248, [_, _, _, _], _)) (x_istore_n (i := 3) rfl (Nat.le_of_ble_eq_true rfl)) ?_
  refine Rk.tr (F1 := (5, 249, _, _)) (x_aload_n rfl rfl rfl) ?_
  refine Rk.tr (F1 := (5, 252, _, _)) (m_get rfl rfl (Nat.le_of_ble_eq_true rfl)) ?_
  refine Rk.tr (F1 := (5, 253, _, _)) (x_aload_n rfl rfl rfl) ?_
  refine Rk.tr (F1 := (5, 256, _, _)) (m_get rfl rfl (Nat.le_of_ble_eq_true rfl)) ?_
  refine Rk.tr (F1 := (5, 257, _, _)) (x_aload_n rfl rfl rfl) ?_
  refine Rk.tr (F1 := (5, 260, _, _)) (m_get rfl rfl (Nat.le_of_ble_eq_true rfl)) ?_
  refine Rk.tr (F1 := (5, 261, _, _)) (m_iast (k := 14) (n := q + 1) rfl rfl rfl (Nat.le_of_ble_eq_true rfl) (by show S.1 10 + 1 = nI (q + 1); rw [hq, nI_1]) (show q + 1 < 61 by omega)) ?_
  refine Rk.tr (F1 := (5, 262, _, _)) (x_aload_n rfl rfl rfl) ?_
  refine Rk.tr (F1 := (5, 264, _, _)) (x_bipush rfl) ?_
  refine Rk.tr (F1 := (5, 267, _, _)) (m_call (As := [_]) rfl rfl rfl (Or.inr rfl) rfl rfl rfl (Nat.le_of_ble_eq_true rfl) (c_emit (n := dr) hd (by omega)) rfl) ?_
  refine Rk.tr (F1 := (5, 268, _, _)) (x_aload_n rfl rfl rfl) ?_
  refine Rk.tr (F1 := (5, 269, _, _)) (x_iconst rfl) ?_
  refine Rk.tr (F1 := (5, 272, _, _)) (m_call (As := [_]) rfl rfl rfl (Or.inr rfl) rfl rfl rfl (Nat.le_of_ble_eq_true rfl) (c_emit (n := dr + 1) (by show S.1 23 + 1 = _; rw [hd, nI_1]) (by omega)) rfl) ?_
  refine Rk.tr (F1 := (5, 273, _, _)) (x_aload_n rfl rfl rfl) ?_
  refine Rk.tr (F1 := (5, 274, _, _)) (x_iconst rfl) ?_
  refine Rk.tr (F1 := (5, 277, _, _)) (m_call (As := [_]) rfl rfl rfl (Or.inr rfl) rfl rfl rfl (Nat.le_of_ble_eq_true rfl) (c_emit (n := dr + 2) (by show S.1 23 + 1 + 1 = _; rw [hd, nI_1, nI_1]) (by omega)) rfl) ?_
  refine Rk.tr (F1 := (5, 278, _, _)) (x_aload_n rfl rfl rfl) ?_
  refine Rk.tr (F1 := (5, 279, _, _)) (x_iload_n rfl rfl) ?_
  refine Rk.tr (F1 := (5, 282, _, _)) (m_call (As := [_]) rfl rfl rfl (Or.inr rfl) rfl rfl rfl (Nat.le_of_ble_eq_true rfl) (c_emit (n := dr + 3) (by show S.1 23 + 1 + 1 + 1 = _; rw [hd, nI_1, nI_1, nI_1]) (by omega)) rfl) ?_
  refine Rk.tr (F1 := (5, 283, _, _)) (x_aload_n rfl rfl rfl) ?_
  refine Rk.tr (F1 := (5, 286, _, _)) (m_call (As := []) rfl rfl rfl (Or.inr rfl) rfl rfl rfl (Nat.le_of_ble_eq_true rfl) c_rowBegins rfl) ?_
  refine Rk.tr (F1 := (5, 287, _, _)) (x_aload_n rfl rfl rfl) ?_
  refine Rk.tr (F1 := (5, 288, _, _)) (x_aload_n rfl rfl rfl) ?_
  refine Rk.tr (F1 := (5, 291, _, _)) (m_get rfl rfl (Nat.le_of_ble_eq_true rfl)) ?_
  refine Rk.tr (F1 := (5, 291, _, _)) (x_top (y := nI (q + 1)) (by show S.1 10 + 1 = nI (q + 1); rw [hq, nI_1])) ?_
  refine Rk.tr (F1 := (5, 292, _, _)) (x_iconst rfl) ?_
  refine Rk.tr (F1 := (5, 293, _, _)) (x_iload_n rfl rfl) ?_
  refine Rk.tr (F1 := (5, 296, _, _)) (m_call (As := [_, _, _]) rfl rfl rfl (Or.inr rfl) rfl rfl rfl (Nat.le_of_ble_eq_true rfl) (c_means (by omega) hx (if_pos ⟨rfl, rfl⟩)) rfl) ?_
  refine Rk.tr (F1 := (5, 297, _, _)) (x_iconst rfl) ?_
  exact Rk.end rfl (Or.inr (Or.inl ⟨rfl, _, .int, rfl, rfl, rfl, rfl⟩))
end M13
