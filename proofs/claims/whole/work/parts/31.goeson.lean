/-! ===== the reference's conversion: goesOn; the loop of converts ===== -/
def mRowE (S : MSt) : MSt := mEmit (mEmit (mEmit S 9) (S.1 17)) (S.1 18)
def emK (S : MSt) (q : Nat) : MSt := mEmit (mEmit S (S.2 15 q)) (S.2 16 q)
def emA (S : MSt) : MSt := mEmit (mEmit S (S.1 17)) (S.1 18)
def emD (S : MSt) (q : Nat) : MSt := mEmit S (S.2 13 q)
def mCl (S : MSt) : MSt := msI S 10 (S.1 10 - 1)
def mBr0 (S : MSt) (q : Nat) : MSt := mBegR (emA (mEmit (mEmit (mEmit (msA S 14 q (S.1 23)) 8) (-1)) 6))
def mPr0a (S : MSt) (q : Nat) : MSt := msA S 15 q (S.1 17)
def mPr0b (S : MSt) (q : Nat) : MSt := msA S 16 q (S.1 18)
def mPr0 (S : MSt) (q : Nat) : MSt := mPr0b (mPr0a S q) q
def mPr3 (S : MSt) (q : Nat) : MSt := mCl (msI (msI (emA (emK (mEmit (mEmit (mEmit (msI S 24 (S.1 24 + 1)) 8) (S.1 24 + 1 - 1)) 3) q)) 17 1) 18 (S.1 24 + 1 - 1))
def mPr5 (S : MSt) (q : Nat) : MSt := mCl (msI (msI (emA (emK (emD (mEmit (mEmit (mEmit (msI S 24 (S.1 24 + 1)) 8) (S.1 24 + 1 - 1)) 5) q) q)) 17 1) 18 (S.1 24 + 1 - 1))
def mS0 (S : MSt) (q : Nat) : MSt := msA S 12 q (S.2 12 q + 1)
section M14
variable {E : PE} {d o p q n dr hd x : Nat} {g : PH} {S : MSt}
theorem br0 (hq : q < 61) (hdr : S.1 23 = nI dr) (h8 : dr + 10 < 800) : Rn E (d + 3) 17 [.ref o, .int (nI q), .int 0] (mh g o S) (some (.int 0)) (mh g o (mBr0 S q)) := by
  refine Rn.of (Nat.le_of_ble_eq_true rfl) ?_
  refine Rk.tr (F1 := (17, 1, _, _)) (x_iload_n rfl rfl) ?_
  refine Rk.tr (F1 := (17, 4, _, _)) (x_ifF rfl (tg := 39) rfl (fun q => q rfl)) ?_
  refine Rk.tr (F1 := (17, 5, _, _)) (x_aload_n rfl rfl rfl) ?_
  refine Rk.tr (F1 := (17, 8, _, _)) (m_get rfl rfl (Nat.le_of_ble_eq_true rfl)) ?_
  refine Rk.tr (F1 := (17, 9, _, _)) (x_iload_n rfl rfl) ?_
  refine Rk.tr (F1 := (17, 10, _, _)) (x_aload_n rfl rfl rfl) ?_
  refine Rk.tr (F1 := (17, 13, _, _)) (m_get rfl rfl (Nat.le_of_ble_eq_true rfl)) ?_
  refine Rk.tr (F1 := (17, 14, _, _)) (m_iast (k := 14) (n := q) rfl rfl rfl (Nat.le_of_ble_eq_true rfl) rfl hq) ?_
  refine Rk.tr (F1 := (17, 15, _, _)) (x_aload_n rfl rfl rfl) ?_
  refine Rk.tr (F1 := (17, 16, _, _)) (x_iconst rfl) ?_
  refine Rk.tr (F1 := (17, 18, _, _)) (x_bipush rfl) ?_
  refine Rk.tr (F1 := (17, 21, _, _)) (m_call (As := [_, _]) rfl rfl rfl (Or.inr rfl) rfl rfl rfl (Nat.le_of_ble_eq_true rfl) (c_bind (n := dr) hdr (by omega)) rfl) ?_
  refine Rk.tr (F1 := (17, 22, _, _)) (x_aload_n rfl rfl rfl) ?_
  refine Rk.tr (F1 := (17, 23, _, _)) (x_aload_n rfl rfl rfl) ?_
  refine Rk.tr (F1 := (17, 26, _, _)) (m_get rfl rfl (Nat.le_of_ble_eq_true rfl)) ?_
  refine Rk.tr (F1 := (17, 27, _, _)) (x_aload_n rfl rfl rfl) ?_
  refine Rk.tr (F1 := (17, 30, _, _)) (m_get rfl rfl (Nat.le_of_ble_eq_true rfl)) ?_
  refine Rk.tr (F1 := (17, 33, _, _)) (m_call (As := [_, _]) rfl rfl rfl (Or.inr rfl) rfl rfl rfl (Nat.le_of_ble_eq_true rfl) (c_emitAtom (n := dr + 3) (by show S.1 23 + 1 + 1 + 1 = _; rw [hdr, nI_1, nI_1, nI_1]) (by omega)) rfl) ?_
  refine Rk.tr (F1 := (17, 34, _, _)) (x_aload_n rfl rfl rfl) ?_
  refine Rk.tr (F1 := (17, 37, _, _)) (m_call (As := []) rfl rfl rfl (Or.inr rfl) rfl rfl rfl (Nat.le_of_ble_eq_true rfl) c_rowBegins rfl) ?_
  refine Rk.tr (F1 := (17, 38, _, _)) (x_iconst rfl) ?_
  exact Rk.end rfl (Or.inr (Or.inl ⟨rfl, _, .boolean, rfl, rfl, rfl, rfl⟩))
theorem br1 (hq : q < 61) (hdr : S.1 23 = nI dr) (h8 : dr + 10 < 800) : Rn E (d + 3) 17 [.ref o, .int (nI q), .int 1] (mh g o S) (some (.int 0)) (mh g o (mRowE S)) := by
  refine Rn.of (Nat.le_of_ble_eq_true rfl) ?_
  refine Rk.tr (F1 := (17, 1, _, _)) (x_iload_n rfl rfl) ?_
  refine Rk.tr (F1 := (17, 39, _, _)) (x_ifT rfl (tg := 39) rfl (show ¬ (1 : Int32) = 0 by decide)) ?_
  refine Rk.tr (F1 := (17, 40, _, _)) (x_aload_n rfl rfl rfl) ?_
  refine Rk.tr (F1 := (17, 43, _, _)) (m_call (As := []) rfl rfl rfl (Or.inr rfl) rfl rfl rfl (Nat.le_of_ble_eq_true rfl) (c_rowEnds (n := dr) hdr (by omega)) rfl) ?_
  refine Rk.tr (F1 := (17, 44, _, _)) (x_iload_n rfl rfl) ?_
  refine Rk.tr (F1 := (17, 45, _, _)) (x_iconst rfl) ?_
  refine Rk.tr (F1 := (17, 48, _, _)) (x_icF rfl (tg := 50) rfl (fun q => q rfl)) ?_
  refine Rk.tr (F1 := (17, 49, _, _)) (x_iconst rfl) ?_
  exact Rk.end rfl (Or.inr (Or.inl ⟨rfl, _, .boolean, rfl, rfl, rfl, rfl⟩))
theorem br2 (hq : q < 61) (h14 : S.2 14 q = nI hd) (hhd : hd + 1 < dr) (hdr : S.1 23 = nI dr) (h8 : dr + 10 < 800) : Rn E (d + 3) 17 [.ref o, .int (nI q), .int 2] (mh g o S) (some (.int 1)) (mh g o (mNamed (mRowE S) hd)) := by
  refine Rn.of (Nat.le_of_ble_eq_true rfl) ?_
  refine Rk.tr (F1 := (17, 1, _, _)) (x_iload_n rfl rfl) ?_
  refine Rk.tr (F1 := (17, 39, _, _)) (x_ifT rfl (tg := 39) rfl (show ¬ (2 : Int32) = 0 by decide)) ?_
  refine Rk.tr (F1 := (17, 40, _, _)) (x_aload_n rfl rfl rfl) ?_
  refine Rk.tr (F1 := (17, 43, _, _)) (m_call (As := []) rfl rfl rfl (Or.inr rfl) rfl rfl rfl (Nat.le_of_ble_eq_true rfl) (c_rowEnds (n := dr) hdr (by omega)) rfl) ?_
  refine Rk.tr (F1 := (17, 44, _, _)) (x_iload_n rfl rfl) ?_
  refine Rk.tr (F1 := (17, 45, _, _)) (x_iconst rfl) ?_
  refine Rk.tr (F1 := (17, 50, _, _)) (x_icT rfl (tg := 50) rfl (show ¬ (2 : Int32) = 1 by decide)) ?_
  refine Rk.tr (F1 := (17, 51, _, _)) (x_aload_n rfl rfl rfl) ?_
  refine Rk.tr (F1 := (17, 52, _, _)) (x_iload_n rfl rfl) ?_
  refine Rk.tr (F1 := (17, 55, _, _)) (m_call (As := [_]) rfl rfl rfl (Or.inr rfl) rfl rfl rfl (Nat.le_of_ble_eq_true rfl) (c_named hq (by omega) h14) rfl) ?_
  refine Rk.tr (F1 := (17, 56, _, _)) (x_iconst rfl) ?_
  exact Rk.end rfl (Or.inr (Or.inl ⟨rfl, _, .boolean, rfl, rfl, rfl, rfl⟩))
theorem pr0 (hq : q < 61) : Rn E (d + 3) 19 [.ref o, .int (nI q), .int 0] (mh g o S) (some (.int 0)) (mh g o (mPr0 S q)) := by
  refine Rn.of (Nat.le_of_ble_eq_true rfl) ?_
  refine Rk.tr (F1 := (19, 1, _, _)) (x_iload_n rfl rfl) ?_
  refine Rk.tr (F1 := (19, 4, _, _)) (x_ifF rfl (tg := 26) rfl (fun q => q rfl)) ?_
  refine Rk.tr (F1 := (19, 5, _, _)) (x_aload_n rfl rfl rfl) ?_
  refine Rk.tr (F1 := (19, 8, _, _)) (m_get rfl rfl (Nat.le_of_ble_eq_true rfl)) ?_
  refine Rk.tr (F1 := (19, 9, _, _)) (x_iload_n rfl rfl) ?_
  refine Rk.tr (F1 := (19, 10, _, _)) (x_aload_n rfl rfl rfl) ?_
  refine Rk.tr (F1 := (19, 13, _, _)) (m_get rfl rfl (Nat.le_of_ble_eq_true rfl)) ?_
  refine Rk.tr (F1 := (19, 14, _, _)) (m_iast (k := 15) (n := q) rfl rfl rfl (Nat.le_of_ble_eq_true rfl) rfl hq) ?_
  refine Rk.tr (F1 := (19, 15, _, _)) (x_aload_n rfl rfl rfl) ?_
  refine Rk.tr (F1 := (19, 18, _, _)) (m_get rfl rfl (Nat.le_of_ble_eq_true rfl)) ?_
  refine Rk.tr (F1 := (19, 19, _, _)) (x_iload_n rfl rfl) ?_
  refine Rk.tr (F1 := (19, 20, _, _)) (x_aload_n rfl rfl rfl) ?_
  refine Rk.tr (F1 := (19, 23, _, _)) (m_get rfl rfl (Nat.le_of_ble_eq_true rfl)) ?_
  refine Rk.tr (F1 := (19, 24, _, _)) (m_iast (k := 16) (n := q) rfl rfl rfl (Nat.le_of_ble_eq_true rfl) rfl hq) ?_
  refine Rk.tr (F1 := (19, 25, _, _)) (x_iconst rfl) ?_
  exact Rk.end rfl (Or.inr (Or.inl ⟨rfl, _, .boolean, rfl, rfl, rfl, rfl⟩))
theorem pr1_3 (hq : q < 61) (hw : S.2 11 q = 3) (hdr : S.1 23 = nI dr) (h8 : dr + 10 < 800) : Rn E (d + 3) 19 [.ref o, .int (nI q), .int 1] (mh g o S) (some (.int 1)) (mh g o (mPr3 S q)) := by
  refine Rn.of (Nat.le_of_ble_eq_true rfl) ?_
  refine Rk.tr (F1 := (19, 1, _, _)) (x_iload_n rfl rfl) ?_
  refine Rk.tr (F1 := (19, 26, _, _)) (x_ifT rfl (tg := 26) rfl (show ¬ (1 : Int32) = 0 by decide)) ?_
  refine Rk.tr (F1 := (19, 27, _, _)) (x_aload_n rfl rfl rfl) ?_
  refine Rk.tr (F1 := (19, 30, _, _)) (m_call (As := []) rfl rfl rfl (Or.inr rfl) rfl rfl rfl (Nat.le_of_ble_eq_true rfl) c_newName rfl) ?_
  refine Rk.tr (F1 := (19, 31, [_, _, _, _], _)) (x_istore_n (i := 3) rfl (Nat.le_of_ble_eq_true rfl)) ?_
  refine Rk.tr (F1 := (19, 32, _, _)) (x_aload_n rfl rfl rfl) ?_
  refine Rk.tr (F1 := (19, 33, _, _)) (x_iload_n rfl rfl) ?_
  refine Rk.tr (F1 := (19, 34, _, _)) (x_aload_n rfl rfl rfl) ?_
  refine Rk.tr (F1 := (19, 37, _, _)) (m_get rfl rfl (Nat.le_of_ble_eq_true rfl)) ?_
  refine Rk.tr (F1 := (19, 38, _, _)) (x_iload_n rfl rfl) ?_
  refine Rk.tr (F1 := (19, 39, _, _)) (m_iald (k := 11) (n := q) rfl rfl rfl rfl hq) ?_
  refine Rk.tr (F1 := (19, 39, _, _)) (x_top hw) ?_
  refine Rk.tr (F1 := (19, 42, _, _)) (m_call (As := [_, _]) rfl rfl rfl (Or.inr rfl) rfl rfl rfl (Nat.le_of_ble_eq_true rfl) (c_bind (n := dr) hdr (by omega)) rfl) ?_
  refine Rk.tr (F1 := (19, 43, _, _)) (x_aload_n rfl rfl rfl) ?_
  refine Rk.tr (F1 := (19, 46, _, _)) (m_get rfl rfl (Nat.le_of_ble_eq_true rfl)) ?_
  refine Rk.tr (F1 := (19, 47, _, _)) (x_iload_n rfl rfl) ?_
  refine Rk.tr (F1 := (19, 48, _, _)) (m_iald (k := 11) (n := q) rfl rfl rfl rfl hq) ?_
  refine Rk.tr (F1 := (19, 48, _, _)) (x_top hw) ?_
  refine Rk.tr (F1 := (19, 49, _, _)) (x_iconst rfl) ?_
  refine Rk.tr (F1 := (19, 62, _, _)) (x_icT rfl (tg := 62) rfl (show ¬ (3 : Int32) = 5 by decide)) ?_
  refine Rk.tr (F1 := (19, 63, _, _)) (x_aload_n rfl rfl rfl) ?_
  refine Rk.tr (F1 := (19, 64, _, _)) (x_aload_n rfl rfl rfl) ?_
  refine Rk.tr (F1 := (19, 67, _, _)) (m_get rfl rfl (Nat.le_of_ble_eq_true rfl)) ?_
  refine Rk.tr (F1 := (19, 68, _, _)) (x_iload_n rfl rfl) ?_
  refine Rk.tr (F1 := (19, 69, _, _)) (m_iald (k := 15) (n := q) rfl rfl rfl rfl hq) ?_
  refine Rk.tr (F1 := (19, 70, _, _)) (x_aload_n rfl rfl rfl) ?_
  refine Rk.tr (F1 := (19, 73, _, _)) (m_get rfl rfl (Nat.le_of_ble_eq_true rfl)) ?_
  refine Rk.tr (F1 := (19, 74, _, _)) (x_iload_n rfl rfl) ?_
  refine Rk.tr (F1 := (19, 75, _, _)) (m_iald (k := 16) (n := q) rfl rfl rfl rfl hq) ?_
  refine Rk.tr (F1 := (19, 78, _, _)) (m_call (As := [_, _]) rfl rfl rfl (Or.inr rfl) rfl rfl rfl (Nat.le_of_ble_eq_true rfl) (c_emitAtom (n := dr + 3) (by show S.1 23 + 1 + 1 + 1 = _; rw [hdr, nI_1, nI_1, nI_1]) (by omega)) rfl) ?_
  refine Rk.tr (F1 := (19, 79, _, _)) (x_aload_n rfl rfl rfl) ?_
  refine Rk.tr (F1 := (19, 80, _, _)) (x_aload_n rfl rfl rfl) ?_
  refine Rk.tr (F1 := (19, 83, _, _)) (m_get rfl rfl (Nat.le_of_ble_eq_true rfl)) ?_
  refine Rk.tr (F1 := (19, 84, _, _)) (x_aload_n rfl rfl rfl) ?_
  refine Rk.tr (F1 := (19, 87, _, _)) (m_get rfl rfl (Nat.le_of_ble_eq_true rfl)) ?_
  refine Rk.tr (F1 := (19, 90, _, _)) (m_call (As := [_, _]) rfl rfl rfl (Or.inr rfl) rfl rfl rfl (Nat.le_of_ble_eq_true rfl) (c_emitAtom (n := dr + 5) (by show S.1 23 + 1 + 1 + 1 + 1 + 1 = _; rw [hdr, nI_1, nI_1, nI_1, nI_1, nI_1]) (by omega)) rfl) ?_
  refine Rk.tr (F1 := (19, 91, _, _)) (x_aload_n rfl rfl rfl) ?_
  refine Rk.tr (F1 := (19, 92, _, _)) (x_iconst rfl) ?_
  refine Rk.tr (F1 := (19, 93, _, _)) (x_iload_n rfl rfl) ?_
  refine Rk.tr (F1 := (19, 96, _, _)) (m_call (As := [_, _]) rfl rfl rfl (Or.inr rfl) rfl rfl rfl (Nat.le_of_ble_eq_true rfl) c_atom rfl) ?_
  refine Rk.tr (F1 := (19, 97, _, _)) (x_aload_n rfl rfl rfl) ?_
  refine Rk.tr (F1 := (19, 98, _, _)) (x_dup rfl rfl) ?_
  refine Rk.tr (F1 := (19, 101, _, _)) (m_get rfl rfl (Nat.le_of_ble_eq_true rfl)) ?_
  refine Rk.tr (F1 := (19, 102, _, _)) (x_iconst rfl) ?_
  refine Rk.tr (F1 := (19, 103, _, _)) (x_isub rfl) ?_
  refine Rk.tr (F1 := (19, 106, _, _)) (m_put rfl rfl rfl rfl rfl rfl) ?_
  refine Rk.tr (F1 := (19, 107, _, _)) (x_iconst rfl) ?_
  exact Rk.end rfl (Or.inr (Or.inl ⟨rfl, _, .boolean, rfl, rfl, rfl, rfl⟩))
theorem pr1_5 (hq : q < 61) (hw : S.2 11 q = 5) (hdr : S.1 23 = nI dr) (h8 : dr + 10 < 800) : Rn E (d + 3) 19 [.ref o, .int (nI q), .int 1] (mh g o S) (some (.int 1)) (mh g o (mPr5 S q)) := by
  refine Rn.of (Nat.le_of_ble_eq_true rfl) ?_
  refine Rk.tr (F1 := (19, 1, _, _)) (x_iload_n rfl rfl) ?_
  refine Rk.tr (F1 := (19, 26, _, _)) (x_ifT rfl (tg := 26) rfl (show ¬ (1 : Int32) = 0 by decide)) ?_
  refine Rk.tr (F1 := (19, 27, _, _)) (x_aload_n rfl rfl rfl) ?_
  refine Rk.tr (F1 := (19, 30, _, _)) (m_call (As := []) rfl rfl rfl (Or.inr rfl) rfl rfl rfl (Nat.le_of_ble_eq_true rfl) c_newName rfl) ?_
  refine Rk.tr (F1 := (19, 31, [_, _, _, _], _)) (x_istore_n (i := 3) rfl (Nat.le_of_ble_eq_true rfl)) ?_
  refine Rk.tr (F1 := (19, 32, _, _)) (x_aload_n rfl rfl rfl) ?_
  refine Rk.tr (F1 := (19, 33, _, _)) (x_iload_n rfl rfl) ?_
  refine Rk.tr (F1 := (19, 34, _, _)) (x_aload_n rfl rfl rfl) ?_
  refine Rk.tr (F1 := (19, 37, _, _)) (m_get rfl rfl (Nat.le_of_ble_eq_true rfl)) ?_
  refine Rk.tr (F1 := (19, 38, _, _)) (x_iload_n rfl rfl) ?_
  refine Rk.tr (F1 := (19, 39, _, _)) (m_iald (k := 11) (n := q) rfl rfl rfl rfl hq) ?_
  refine Rk.tr (F1 := (19, 39, _, _)) (x_top hw) ?_
  refine Rk.tr (F1 := (19, 42, _, _)) (m_call (As := [_, _]) rfl rfl rfl (Or.inr rfl) rfl rfl rfl (Nat.le_of_ble_eq_true rfl) (c_bind (n := dr) hdr (by omega)) rfl) ?_
  refine Rk.tr (F1 := (19, 43, _, _)) (x_aload_n rfl rfl rfl) ?_
  refine Rk.tr (F1 := (19, 46, _, _)) (m_get rfl rfl (Nat.le_of_ble_eq_true rfl)) ?_
  refine Rk.tr (F1 := (19, 47, _, _)) (x_iload_n rfl rfl) ?_
  refine Rk.tr (F1 := (19, 48, _, _)) (m_iald (k := 11) (n := q) rfl rfl rfl rfl hq) ?_
  refine Rk.tr (F1 := (19, 48, _, _)) (x_top hw) ?_
  refine Rk.tr (F1 := (19, 49, _, _)) (x_iconst rfl) ?_
  refine Rk.tr (F1 := (19, 52, _, _)) (x_icF rfl (tg := 62) rfl (fun q => q rfl)) ?_
  refine Rk.tr (F1 := (19, 53, _, _)) (x_aload_n rfl rfl rfl) ?_
  refine Rk.tr (F1 := (19, 54, _, _)) (x_aload_n rfl rfl rfl) ?_
  refine Rk.tr (F1 := (19, 57, _, _)) (m_get rfl rfl (Nat.le_of_ble_eq_true rfl)) ?_
  refine Rk.tr (F1 := (19, 58, _, _)) (x_iload_n rfl rfl) ?_
  refine Rk.tr (F1 := (19, 59, _, _)) (m_iald (k := 13) (n := q) rfl rfl rfl rfl hq) ?_
  refine Rk.tr (F1 := (19, 62, _, _)) (m_call (As := [_]) rfl rfl rfl (Or.inr rfl) rfl rfl rfl (Nat.le_of_ble_eq_true rfl) (c_emit (n := dr + 3) (by show S.1 23 + 1 + 1 + 1 = _; rw [hdr, nI_1, nI_1, nI_1]) (by omega)) rfl) ?_
  refine Rk.tr (F1 := (19, 63, _, _)) (x_aload_n rfl rfl rfl) ?_
  refine Rk.tr (F1 := (19, 64, _, _)) (x_aload_n rfl rfl rfl) ?_
  refine Rk.tr (F1 := (19, 67, _, _)) (m_get rfl rfl (Nat.le_of_ble_eq_true rfl)) ?_
  refine Rk.tr (F1 := (19, 68, _, _)) (x_iload_n rfl rfl) ?_
  refine Rk.tr (F1 := (19, 69, _, _)) (m_iald (k := 15) (n := q) rfl rfl rfl rfl hq) ?_
  refine Rk.tr (F1 := (19, 70, _, _)) (x_aload_n rfl rfl rfl) ?_
  refine Rk.tr (F1 := (19, 73, _, _)) (m_get rfl rfl (Nat.le_of_ble_eq_true rfl)) ?_
  refine Rk.tr (F1 := (19, 74, _, _)) (x_iload_n rfl rfl) ?_
  refine Rk.tr (F1 := (19, 75, _, _)) (m_iald (k := 16) (n := q) rfl rfl rfl rfl hq) ?_
  refine Rk.tr (F1 := (19, 78, _, _)) (m_call (As := [_, _]) rfl rfl rfl (Or.inr rfl) rfl rfl rfl (Nat.le_of_ble_eq_true rfl) (c_emitAtom (n := dr + 4) (by show S.1 23 + 1 + 1 + 1 + 1 = _; rw [hdr, nI_1, nI_1, nI_1, nI_1]) (by omega)) rfl) ?_
  refine Rk.tr (F1 := (19, 79, _, _)) (x_aload_n rfl rfl rfl) ?_
  refine Rk.tr (F1 := (19, 80, _, _)) (x_aload_n rfl rfl rfl) ?_
  refine Rk.tr (F1 := (19, 83, _, _)) (m_get rfl rfl (Nat.le_of_ble_eq_true rfl)) ?_
  refine Rk.tr (F1 := (19, 84, _, _)) (x_aload_n rfl rfl rfl) ?_
  refine Rk.tr (F1 := (19, 87, _, _)) (m_get rfl rfl (Nat.le_of_ble_eq_true rfl)) ?_
  refine Rk.tr (F1 := (19, 90, _, _)) (m_call (As := [_, _]) rfl rfl rfl (Or.inr rfl) rfl rfl rfl (Nat.le_of_ble_eq_true rfl) (c_emitAtom (n := dr + 6) (by show S.1 23 + 1 + 1 + 1 + 1 + 1 + 1 = _; rw [hdr, nI_1, nI_1, nI_1, nI_1, nI_1, nI_1]) (by omega)) rfl) ?_
  refine Rk.tr (F1 := (19, 91, _, _)) (x_aload_n rfl rfl rfl) ?_
  refine Rk.tr (F1 := (19, 92, _, _)) (x_iconst rfl) ?_
  refine Rk.tr (F1 := (19, 93, _, _)) (x_iload_n rfl rfl) ?_
  refine Rk.tr (F1 := (19, 96, _, _)) (m_call (As := [_, _]) rfl rfl rfl (Or.inr rfl) rfl rfl rfl (Nat.le_of_ble_eq_true rfl) c_atom rfl) ?_
  refine Rk.tr (F1 := (19, 97, _, _)) (x_aload_n rfl rfl rfl) ?_
  refine Rk.tr (F1 := (19, 98, _, _)) (x_dup rfl rfl) ?_
  refine Rk.tr (F1 := (19, 101, _, _)) (m_get rfl rfl (Nat.le_of_ble_eq_true rfl)) ?_
  refine Rk.tr (F1 := (19, 102, _, _)) (x_iconst rfl) ?_
  refine Rk.tr (F1 := (19, 103, _, _)) (x_isub rfl) ?_
  refine Rk.tr (F1 := (19, 106, _, _)) (m_put rfl rfl rfl rfl rfl rfl) ?_
  refine Rk.tr (F1 := (19, 107, _, _)) (x_iconst rfl) ?_
  exact Rk.end rfl (Or.inr (Or.inl ⟨rfl, _, .boolean, rfl, rfl, rfl, rfl⟩))
theorem go_fun (hq : q < 61) (h10 : S.1 10 = nI q) (hw : S.2 11 q = 2) (hs : S.2 12 q = 0) (hx : x < 10) (hv : S.2 13 q = nI x) (h14 : S.2 14 q = nI hd) (hhd : hd + 1 < dr) (hdr : S.1 23 = nI dr) (h8 : dr + 10 < 800) : Rn E (d + 4) 12 [.ref o] (mh g o S) (some (.int 1)) (mh g o (mNamed (mAgain (mRowE (mS0 S q)) q x) hd)) := by
  refine Rn.of (Nat.le_of_ble_eq_true rfl) ?_
  refine Rk.tr (F1 := (12, 1, _, _)) (x_aload_n rfl rfl rfl) ?_
  refine Rk.tr (F1 := (12, 4, _, _)) (m_get rfl rfl (Nat.le_of_ble_eq_true rfl)) ?_
  refine Rk.tr (F1 := (12, 4, _, _)) (x_top h10) ?_
  refine Rk.tr (F1 := (12, 5, [_, _, _], _)) (x_istore_n (i := 1) rfl (Nat.le_of_ble_eq_true rfl)) ?_
  refine Rk.tr (F1 := (12, 6, _, _)) (x_aload_n rfl rfl rfl) ?_
  refine Rk.tr (F1 := (12, 9, _, _)) (m_get rfl rfl (Nat.le_of_ble_eq_true rfl)) ?_
  refine Rk.tr (F1 := (12, 10, _, _)) (x_iload_n rfl rfl) ?_
  refine Rk.tr (F1 := (12, 11, _, _)) (m_iald (k := 12) (n := q) rfl rfl rfl rfl hq) ?_
  refine Rk.tr (F1 := (12, 11, _, _)) (x_top hs) ?_
  refine Rk.tr (F1 := (12, 12, [_, _, _], _)) (x_istore_n (i := 2) rfl (Nat.le_of_ble_eq_true rfl)) ?_
  refine Rk.tr (F1 := (12, 13, _, _)) (x_aload_n rfl rfl rfl) ?_
  refine Rk.tr (F1 := (12, 16, _, _)) (m_get rfl rfl (Nat.le_of_ble_eq_true rfl)) ?_
  refine Rk.tr (F1 := (12, 17, _, _)) (x_iload_n rfl rfl) ?_
  refine Rk.tr (F1 := (12, 18, _, _)) (x_dup2 rfl rfl rfl) ?_
  refine Rk.tr (F1 := (12, 19, _, _)) (m_iald (k := 12) (n := q) rfl rfl rfl rfl hq) ?_
  refine Rk.tr (F1 := (12, 20, _, _)) (x_iconst rfl) ?_
  refine Rk.tr (F1 := (12, 21, _, _)) (x_iadd rfl) ?_
  refine Rk.tr (F1 := (12, 22, _, _)) (m_iast (k := 12) (n := q) rfl rfl rfl (Nat.le_of_ble_eq_true rfl) rfl hq) ?_
  refine Rk.tr (F1 := (12, 23, _, _)) (x_aload_n rfl rfl rfl) ?_
  refine Rk.tr (F1 := (12, 26, _, _)) (m_get rfl rfl (Nat.le_of_ble_eq_true rfl)) ?_
  refine Rk.tr (F1 := (12, 27, _, _)) (x_iload_n rfl rfl) ?_
  refine Rk.tr (F1 := (12, 28, _, _)) (m_iald (k := 11) (n := q) rfl rfl rfl rfl hq) ?_
  refine Rk.tr (F1 := (12, 28, _, _)) (x_top hw) ?_
  refine Rk.tr (F1 := (12, 64, _, _)) (x_tswIn (tg := 64) rfl (by decide) (by decide) rfl rfl) ?_
  refine Rk.tr (F1 := (12, 65, _, _)) (x_aload_n rfl rfl rfl) ?_
  refine Rk.tr (F1 := (12, 68, _, _)) (m_call (As := []) rfl rfl rfl (Or.inr rfl) rfl rfl rfl (Nat.le_of_ble_eq_true rfl) (c_rowEnds (n := dr) hdr (by omega)) rfl) ?_
  refine Rk.tr (F1 := (12, 69, _, _)) (x_aload_n rfl rfl rfl) ?_
  refine Rk.tr (F1 := (12, 70, _, _)) (x_iload_n rfl rfl) ?_
  refine Rk.tr (F1 := (12, 73, _, _)) (m_call (As := [_]) rfl rfl rfl (Or.inr rfl) rfl rfl rfl (Nat.le_of_ble_eq_true rfl) (c_again hq hx hv) rfl) ?_
  refine Rk.tr (F1 := (12, 74, _, _)) (x_aload_n rfl rfl rfl) ?_
  refine Rk.tr (F1 := (12, 75, _, _)) (x_iload_n rfl rfl) ?_
  refine Rk.tr (F1 := (12, 78, _, _)) (m_call (As := [_]) rfl rfl rfl (Or.inr rfl) rfl rfl rfl (Nat.le_of_ble_eq_true rfl) (c_named hq (by omega) h14) rfl) ?_
  refine Rk.tr (F1 := (12, 79, _, _)) (x_iconst rfl) ?_
  exact Rk.end rfl (Or.inr (Or.inl ⟨rfl, _, .boolean, rfl, rfl, rfl, rfl⟩))
theorem go_let0 (hq : q < 61) (h10 : S.1 10 = nI q) (hw : S.2 11 q = 4) (hs : S.2 12 q = 0) (hx : x < 10) (hv : S.2 13 q = nI x) : Rn E (d + 4) 12 [.ref o] (mh g o S) (some (.int 0)) (mh g o (mMeans (mS0 S q) q x ((mS0 S q).1 17) ((mS0 S q).1 18))) := by
  refine Rn.of (Nat.le_of_ble_eq_true rfl) ?_
  refine Rk.tr (F1 := (12, 1, _, _)) (x_aload_n rfl rfl rfl) ?_
  refine Rk.tr (F1 := (12, 4, _, _)) (m_get rfl rfl (Nat.le_of_ble_eq_true rfl)) ?_
  refine Rk.tr (F1 := (12, 4, _, _)) (x_top h10) ?_
  refine Rk.tr (F1 := (12, 5, [_, _, _], _)) (x_istore_n (i := 1) rfl (Nat.le_of_ble_eq_true rfl)) ?_
  refine Rk.tr (F1 := (12, 6, _, _)) (x_aload_n rfl rfl rfl) ?_
  refine Rk.tr (F1 := (12, 9, _, _)) (m_get rfl rfl (Nat.le_of_ble_eq_true rfl)) ?_
  refine Rk.tr (F1 := (12, 10, _, _)) (x_iload_n rfl rfl) ?_
  refine Rk.tr (F1 := (12, 11, _, _)) (m_iald (k := 12) (n := q) rfl rfl rfl rfl hq) ?_
  refine Rk.tr (F1 := (12, 11, _, _)) (x_top hs) ?_
  refine Rk.tr (F1 := (12, 12, [_, _, _], _)) (x_istore_n (i := 2) rfl (Nat.le_of_ble_eq_true rfl)) ?_
  refine Rk.tr (F1 := (12, 13, _, _)) (x_aload_n rfl rfl rfl) ?_
  refine Rk.tr (F1 := (12, 16, _, _)) (m_get rfl rfl (Nat.le_of_ble_eq_true rfl)) ?_
  refine Rk.tr (F1 := (12, 17, _, _)) (x_iload_n rfl rfl) ?_
  refine Rk.tr (F1 := (12, 18, _, _)) (x_dup2 rfl rfl rfl) ?_
  refine Rk.tr (F1 := (12, 19, _, _)) (m_iald (k := 12) (n := q) rfl rfl rfl rfl hq) ?_
  refine Rk.tr (F1 := (12, 20, _, _)) (x_iconst rfl) ?_
  refine Rk.tr (F1 := (12, 21, _, _)) (x_iadd rfl) ?_
  refine Rk.tr (F1 := (12, 22, _, _)) (m_iast (k := 12) (n := q) rfl rfl rfl (Nat.le_of_ble_eq_true rfl) rfl hq) ?_
  refine Rk.tr (F1 := (12, 23, _, _)) (x_aload_n rfl rfl rfl) ?_
  refine Rk.tr (F1 := (12, 26, _, _)) (m_get rfl rfl (Nat.le_of_ble_eq_true rfl)) ?_
  refine Rk.tr (F1 := (12, 27, _, _)) (x_iload_n rfl rfl) ?_
  refine Rk.tr (F1 := (12, 28, _, _)) (m_iald (k := 11) (n := q) rfl rfl rfl rfl hq) ?_
  refine Rk.tr (F1 := (12, 28, _, _)) (x_top hw) ?_
  refine Rk.tr (F1 := (12, 80, _, _)) (x_tswIn (tg := 80) rfl (by decide) (by decide) rfl rfl) ?_
  refine Rk.tr (F1 := (12, 81, _, _)) (x_iload_n rfl rfl) ?_
  refine Rk.tr (F1 := (12, 84, _, _)) (x_ifF rfl (tg := 99) rfl (fun q => q rfl)) ?_
  refine Rk.tr (F1 := (12, 85, _, _)) (x_aload_n rfl rfl rfl) ?_
  refine Rk.tr (F1 := (12, 86, _, _)) (x_iload_n rfl rfl) ?_
  refine Rk.tr (F1 := (12, 87, _, _)) (x_aload_n rfl rfl rfl) ?_
  refine Rk.tr (F1 := (12, 90, _, _)) (m_get rfl rfl (Nat.le_of_ble_eq_true rfl)) ?_
  refine Rk.tr (F1 := (12, 91, _, _)) (x_aload_n rfl rfl rfl) ?_
  refine Rk.tr (F1 := (12, 94, _, _)) (m_get rfl rfl (Nat.le_of_ble_eq_true rfl)) ?_
  refine Rk.tr (F1 := (12, 97, _, _)) (m_call (As := [_, _, _]) rfl rfl rfl (Or.inr rfl) rfl rfl rfl (Nat.le_of_ble_eq_true rfl) (c_means hq hx hv) rfl) ?_
  refine Rk.tr (F1 := (12, 98, _, _)) (x_iconst rfl) ?_
  exact Rk.end rfl (Or.inr (Or.inl ⟨rfl, _, .boolean, rfl, rfl, rfl, rfl⟩))
theorem go_let1 (hq : q < 61) (h10 : S.1 10 = nI q) (hw : S.2 11 q = 4) (hs : S.2 12 q = 1) (hx : x < 10) (hv : S.2 13 q = nI x) : Rn E (d + 4) 12 [.ref o] (mh g o S) (some (.int 1)) (mh g o (mCl (mAgain (mS0 S q) q x))) := by
  refine Rn.of (Nat.le_of_ble_eq_true rfl) ?_
  refine Rk.tr (F1 := (12, 1, _, _)) (x_aload_n rfl rfl rfl) ?_
  refine Rk.tr (F1 := (12, 4, _, _)) (m_get rfl rfl (Nat.le_of_ble_eq_true rfl)) ?_
  refine Rk.tr (F1 := (12, 4, _, _)) (x_top h10) ?_
  refine Rk.tr (F1 := (12, 5, [_, _, _], _)) (x_istore_n (i := 1) rfl (Nat.le_of_ble_eq_true rfl)) ?_
  refine Rk.tr (F1 := (12, 6, _, _)) (x_aload_n rfl rfl rfl) ?_
  refine Rk.tr (F1 := (12, 9, _, _)) (m_get rfl rfl (Nat.le_of_ble_eq_true rfl)) ?_
  refine Rk.tr (F1 := (12, 10, _, _)) (x_iload_n rfl rfl) ?_
  refine Rk.tr (F1 := (12, 11, _, _)) (m_iald (k := 12) (n := q) rfl rfl rfl rfl hq) ?_
  refine Rk.tr (F1 := (12, 11, _, _)) (x_top hs) ?_
  refine Rk.tr (F1 := (12, 12, [_, _, _], _)) (x_istore_n (i := 2) rfl (Nat.le_of_ble_eq_true rfl)) ?_
  refine Rk.tr (F1 := (12, 13, _, _)) (x_aload_n rfl rfl rfl) ?_
  refine Rk.tr (F1 := (12, 16, _, _)) (m_get rfl rfl (Nat.le_of_ble_eq_true rfl)) ?_
  refine Rk.tr (F1 := (12, 17, _, _)) (x_iload_n rfl rfl) ?_
  refine Rk.tr (F1 := (12, 18, _, _)) (x_dup2 rfl rfl rfl) ?_
  refine Rk.tr (F1 := (12, 19, _, _)) (m_iald (k := 12) (n := q) rfl rfl rfl rfl hq) ?_
  refine Rk.tr (F1 := (12, 20, _, _)) (x_iconst rfl) ?_
  refine Rk.tr (F1 := (12, 21, _, _)) (x_iadd rfl) ?_
  refine Rk.tr (F1 := (12, 22, _, _)) (m_iast (k := 12) (n := q) rfl rfl rfl (Nat.le_of_ble_eq_true rfl) rfl hq) ?_
  refine Rk.tr (F1 := (12, 23, _, _)) (x_aload_n rfl rfl rfl) ?_
  refine Rk.tr (F1 := (12, 26, _, _)) (m_get rfl rfl (Nat.le_of_ble_eq_true rfl)) ?_
  refine Rk.tr (F1 := (12, 27, _, _)) (x_iload_n rfl rfl) ?_
  refine Rk.tr (F1 := (12, 28, _, _)) (m_iald (k := 11) (n := q) rfl rfl rfl rfl hq) ?_
  refine Rk.tr (F1 := (12, 28, _, _)) (x_top hw) ?_
  refine Rk.tr (F1 := (12, 80, _, _)) (x_tswIn (tg := 80) rfl (by decide) (by decide) rfl rfl) ?_
  refine Rk.tr (F1 := (12, 81, _, _)) (x_iload_n rfl rfl) ?_
  refine Rk.tr (F1 := (12, 99, _, _)) (x_ifT rfl (tg := 99) rfl (show ¬ (1 : Int32) = 0 by decide)) ?_
  refine Rk.tr (F1 := (12, 100, _, _)) (x_aload_n rfl rfl rfl) ?_
  refine Rk.tr (F1 := (12, 101, _, _)) (x_iload_n rfl rfl) ?_
  refine Rk.tr (F1 := (12, 104, _, _)) (m_call (As := [_]) rfl rfl rfl (Or.inr rfl) rfl rfl rfl (Nat.le_of_ble_eq_true rfl) (c_again hq hx hv) rfl) ?_
  refine Rk.tr (F1 := (12, 105, _, _)) (x_aload_n rfl rfl rfl) ?_
  refine Rk.tr (F1 := (12, 106, _, _)) (x_dup rfl rfl) ?_
  refine Rk.tr (F1 := (12, 109, _, _)) (m_get rfl rfl (Nat.le_of_ble_eq_true rfl)) ?_
  refine Rk.tr (F1 := (12, 110, _, _)) (x_iconst rfl) ?_
  refine Rk.tr (F1 := (12, 111, _, _)) (x_isub rfl) ?_
  refine Rk.tr (F1 := (12, 114, _, _)) (m_put rfl rfl rfl rfl rfl rfl) ?_
  refine Rk.tr (F1 := (12, 115, _, _)) (x_iconst rfl) ?_
  exact Rk.end rfl (Or.inr (Or.inl ⟨rfl, _, .boolean, rfl, rfl, rfl, rfl⟩))
theorem go_if0 (hq : q < 61) (h10 : S.1 10 = nI q) (hw : S.2 11 q = 6) (hs : S.2 12 q = 0) (hdr : S.1 23 = nI dr) (h8 : dr + 10 < 800) : Rn E (d + 4) 12 [.ref o] (mh g o S) (some (.int 0)) (mh g o (mBr0 (mS0 S q) q)) := by
  refine Rn.of (Nat.le_of_ble_eq_true rfl) ?_
  refine Rk.tr (F1 := (12, 1, _, _)) (x_aload_n rfl rfl rfl) ?_
  refine Rk.tr (F1 := (12, 4, _, _)) (m_get rfl rfl (Nat.le_of_ble_eq_true rfl)) ?_
  refine Rk.tr (F1 := (12, 4, _, _)) (x_top h10) ?_
  refine Rk.tr (F1 := (12, 5, [_, _, _], _)) (x_istore_n (i := 1) rfl (Nat.le_of_ble_eq_true rfl)) ?_
  refine Rk.tr (F1 := (12, 6, _, _)) (x_aload_n rfl rfl rfl) ?_
  refine Rk.tr (F1 := (12, 9, _, _)) (m_get rfl rfl (Nat.le_of_ble_eq_true rfl)) ?_
  refine Rk.tr (F1 := (12, 10, _, _)) (x_iload_n rfl rfl) ?_
  refine Rk.tr (F1 := (12, 11, _, _)) (m_iald (k := 12) (n := q) rfl rfl rfl rfl hq) ?_
  refine Rk.tr (F1 := (12, 11, _, _)) (x_top hs) ?_
  refine Rk.tr (F1 := (12, 12, [_, _, _], _)) (x_istore_n (i := 2) rfl (Nat.le_of_ble_eq_true rfl)) ?_
  refine Rk.tr (F1 := (12, 13, _, _)) (x_aload_n rfl rfl rfl) ?_
  refine Rk.tr (F1 := (12, 16, _, _)) (m_get rfl rfl (Nat.le_of_ble_eq_true rfl)) ?_
  refine Rk.tr (F1 := (12, 17, _, _)) (x_iload_n rfl rfl) ?_
  refine Rk.tr (F1 := (12, 18, _, _)) (x_dup2 rfl rfl rfl) ?_
  refine Rk.tr (F1 := (12, 19, _, _)) (m_iald (k := 12) (n := q) rfl rfl rfl rfl hq) ?_
  refine Rk.tr (F1 := (12, 20, _, _)) (x_iconst rfl) ?_
  refine Rk.tr (F1 := (12, 21, _, _)) (x_iadd rfl) ?_
  refine Rk.tr (F1 := (12, 22, _, _)) (m_iast (k := 12) (n := q) rfl rfl rfl (Nat.le_of_ble_eq_true rfl) rfl hq) ?_
  refine Rk.tr (F1 := (12, 23, _, _)) (x_aload_n rfl rfl rfl) ?_
  refine Rk.tr (F1 := (12, 26, _, _)) (m_get rfl rfl (Nat.le_of_ble_eq_true rfl)) ?_
  refine Rk.tr (F1 := (12, 27, _, _)) (x_iload_n rfl rfl) ?_
  refine Rk.tr (F1 := (12, 28, _, _)) (m_iald (k := 11) (n := q) rfl rfl rfl rfl hq) ?_
  refine Rk.tr (F1 := (12, 28, _, _)) (x_top hw) ?_
  refine Rk.tr (F1 := (12, 116, _, _)) (x_tswIn (tg := 116) rfl (by decide) (by decide) rfl rfl) ?_
  refine Rk.tr (F1 := (12, 117, _, _)) (x_aload_n rfl rfl rfl) ?_
  refine Rk.tr (F1 := (12, 118, _, _)) (x_iload_n rfl rfl) ?_
  refine Rk.tr (F1 := (12, 119, _, _)) (x_iload_n rfl rfl) ?_
  refine Rk.tr (F1 := (12, 122, _, _)) (m_call (As := [_, _]) rfl rfl rfl (Or.inr rfl) rfl rfl rfl (Nat.le_of_ble_eq_true rfl) (br0 hq hdr h8) rfl) ?_
  exact Rk.end rfl (Or.inr (Or.inl ⟨rfl, _, .boolean, rfl, rfl, rfl, rfl⟩))
theorem go_if1 (hq : q < 61) (h10 : S.1 10 = nI q) (hw : S.2 11 q = 6) (hs : S.2 12 q = 1) (hdr : S.1 23 = nI dr) (h8 : dr + 10 < 800) : Rn E (d + 4) 12 [.ref o] (mh g o S) (some (.int 0)) (mh g o (mRowE (mS0 S q))) := by
  refine Rn.of (Nat.le_of_ble_eq_true rfl) ?_
  refine Rk.tr (F1 := (12, 1, _, _)) (x_aload_n rfl rfl rfl) ?_
  refine Rk.tr (F1 := (12, 4, _, _)) (m_get rfl rfl (Nat.le_of_ble_eq_true rfl)) ?_
  refine Rk.tr (F1 := (12, 4, _, _)) (x_top h10) ?_
  refine Rk.tr (F1 := (12, 5, [_, _, _], _)) (x_istore_n (i := 1) rfl (Nat.le_of_ble_eq_true rfl)) ?_
  refine Rk.tr (F1 := (12, 6, _, _)) (x_aload_n rfl rfl rfl) ?_
  refine Rk.tr (F1 := (12, 9, _, _)) (m_get rfl rfl (Nat.le_of_ble_eq_true rfl)) ?_
  refine Rk.tr (F1 := (12, 10, _, _)) (x_iload_n rfl rfl) ?_
  refine Rk.tr (F1 := (12, 11, _, _)) (m_iald (k := 12) (n := q) rfl rfl rfl rfl hq) ?_
  refine Rk.tr (F1 := (12, 11, _, _)) (x_top hs) ?_
  refine Rk.tr (F1 := (12, 12, [_, _, _], _)) (x_istore_n (i := 2) rfl (Nat.le_of_ble_eq_true rfl)) ?_
  refine Rk.tr (F1 := (12, 13, _, _)) (x_aload_n rfl rfl rfl) ?_
  refine Rk.tr (F1 := (12, 16, _, _)) (m_get rfl rfl (Nat.le_of_ble_eq_true rfl)) ?_
  refine Rk.tr (F1 := (12, 17, _, _)) (x_iload_n rfl rfl) ?_
  refine Rk.tr (F1 := (12, 18, _, _)) (x_dup2 rfl rfl rfl) ?_
  refine Rk.tr (F1 := (12, 19, _, _)) (m_iald (k := 12) (n := q) rfl rfl rfl rfl hq) ?_
  refine Rk.tr (F1 := (12, 20, _, _)) (x_iconst rfl) ?_
  refine Rk.tr (F1 := (12, 21, _, _)) (x_iadd rfl) ?_
  refine Rk.tr (F1 := (12, 22, _, _)) (m_iast (k := 12) (n := q) rfl rfl rfl (Nat.le_of_ble_eq_true rfl) rfl hq) ?_
  refine Rk.tr (F1 := (12, 23, _, _)) (x_aload_n rfl rfl rfl) ?_
  refine Rk.tr (F1 := (12, 26, _, _)) (m_get rfl rfl (Nat.le_of_ble_eq_true rfl)) ?_
  refine Rk.tr (F1 := (12, 27, _, _)) (x_iload_n rfl rfl) ?_
  refine Rk.tr (F1 := (12, 28, _, _)) (m_iald (k := 11) (n := q) rfl rfl rfl rfl hq) ?_
  refine Rk.tr (F1 := (12, 28, _, _)) (x_top hw) ?_
  refine Rk.tr (F1 := (12, 116, _, _)) (x_tswIn (tg := 116) rfl (by decide) (by decide) rfl rfl) ?_
  refine Rk.tr (F1 := (12, 117, _, _)) (x_aload_n rfl rfl rfl) ?_
  refine Rk.tr (F1 := (12, 118, _, _)) (x_iload_n rfl rfl) ?_
  refine Rk.tr (F1 := (12, 119, _, _)) (x_iload_n rfl rfl) ?_
  refine Rk.tr (F1 := (12, 122, _, _)) (m_call (As := [_, _]) rfl rfl rfl (Or.inr rfl) rfl rfl rfl (Nat.le_of_ble_eq_true rfl) (br1 hq hdr h8) rfl) ?_
  exact Rk.end rfl (Or.inr (Or.inl ⟨rfl, _, .boolean, rfl, rfl, rfl, rfl⟩))
theorem go_if2 (hq : q < 61) (h10 : S.1 10 = nI q) (hw : S.2 11 q = 6) (hs : S.2 12 q = 2) (h14 : S.2 14 q = nI hd) (hhd : hd + 1 < dr) (hdr : S.1 23 = nI dr) (h8 : dr + 10 < 800) : Rn E (d + 4) 12 [.ref o] (mh g o S) (some (.int 1)) (mh g o (mNamed (mRowE (mS0 S q)) hd)) := by
  refine Rn.of (Nat.le_of_ble_eq_true rfl) ?_
  refine Rk.tr (F1 := (12, 1, _, _)) (x_aload_n rfl rfl rfl) ?_
  refine Rk.tr (F1 := (12, 4, _, _)) (m_get rfl rfl (Nat.le_of_ble_eq_true rfl)) ?_
  refine Rk.tr (F1 := (12, 4, _, _)) (x_top h10) ?_
  refine Rk.tr (F1 := (12, 5, [_, _, _], _)) (x_istore_n (i := 1) rfl (Nat.le_of_ble_eq_true rfl)) ?_
  refine Rk.tr (F1 := (12, 6, _, _)) (x_aload_n rfl rfl rfl) ?_
  refine Rk.tr (F1 := (12, 9, _, _)) (m_get rfl rfl (Nat.le_of_ble_eq_true rfl)) ?_
  refine Rk.tr (F1 := (12, 10, _, _)) (x_iload_n rfl rfl) ?_
  refine Rk.tr (F1 := (12, 11, _, _)) (m_iald (k := 12) (n := q) rfl rfl rfl rfl hq) ?_
  refine Rk.tr (F1 := (12, 11, _, _)) (x_top hs) ?_
  refine Rk.tr (F1 := (12, 12, [_, _, _], _)) (x_istore_n (i := 2) rfl (Nat.le_of_ble_eq_true rfl)) ?_
  refine Rk.tr (F1 := (12, 13, _, _)) (x_aload_n rfl rfl rfl) ?_
  refine Rk.tr (F1 := (12, 16, _, _)) (m_get rfl rfl (Nat.le_of_ble_eq_true rfl)) ?_
  refine Rk.tr (F1 := (12, 17, _, _)) (x_iload_n rfl rfl) ?_
  refine Rk.tr (F1 := (12, 18, _, _)) (x_dup2 rfl rfl rfl) ?_
  refine Rk.tr (F1 := (12, 19, _, _)) (m_iald (k := 12) (n := q) rfl rfl rfl rfl hq) ?_
  refine Rk.tr (F1 := (12, 20, _, _)) (x_iconst rfl) ?_
  refine Rk.tr (F1 := (12, 21, _, _)) (x_iadd rfl) ?_
  refine Rk.tr (F1 := (12, 22, _, _)) (m_iast (k := 12) (n := q) rfl rfl rfl (Nat.le_of_ble_eq_true rfl) rfl hq) ?_
  refine Rk.tr (F1 := (12, 23, _, _)) (x_aload_n rfl rfl rfl) ?_
  refine Rk.tr (F1 := (12, 26, _, _)) (m_get rfl rfl (Nat.le_of_ble_eq_true rfl)) ?_
  refine Rk.tr (F1 := (12, 27, _, _)) (x_iload_n rfl rfl) ?_
  refine Rk.tr (F1 := (12, 28, _, _)) (m_iald (k := 11) (n := q) rfl rfl rfl rfl hq) ?_
  refine Rk.tr (F1 := (12, 28, _, _)) (x_top hw) ?_
  refine Rk.tr (F1 := (12, 116, _, _)) (x_tswIn (tg := 116) rfl (by decide) (by decide) rfl rfl) ?_
  refine Rk.tr (F1 := (12, 117, _, _)) (x_aload_n rfl rfl rfl) ?_
  refine Rk.tr (F1 := (12, 118, _, _)) (x_iload_n rfl rfl) ?_
  refine Rk.tr (F1 := (12, 119, _, _)) (x_iload_n rfl rfl) ?_
  refine Rk.tr (F1 := (12, 122, _, _)) (m_call (As := [_, _]) rfl rfl rfl (Or.inr rfl) rfl rfl rfl (Nat.le_of_ble_eq_true rfl) (br2 hq h14 hhd hdr h8) rfl) ?_
  exact Rk.end rfl (Or.inr (Or.inl ⟨rfl, _, .boolean, rfl, rfl, rfl, rfl⟩))
theorem go_pa3 (hq : q < 61) (h10 : S.1 10 = nI q) (hw : S.2 11 q = 3) (hs : S.2 12 q = 0)  : Rn E (d + 4) 12 [.ref o] (mh g o S) (some (.int 0)) (mh g o (mPr0 (mS0 S q) q)) := by
  refine Rn.of (Nat.le_of_ble_eq_true rfl) ?_
  refine Rk.tr (F1 := (12, 1, _, _)) (x_aload_n rfl rfl rfl) ?_
  refine Rk.tr (F1 := (12, 4, _, _)) (m_get rfl rfl (Nat.le_of_ble_eq_true rfl)) ?_
  refine Rk.tr (F1 := (12, 4, _, _)) (x_top h10) ?_
  refine Rk.tr (F1 := (12, 5, [_, _, _], _)) (x_istore_n (i := 1) rfl (Nat.le_of_ble_eq_true rfl)) ?_
  refine Rk.tr (F1 := (12, 6, _, _)) (x_aload_n rfl rfl rfl) ?_
  refine Rk.tr (F1 := (12, 9, _, _)) (m_get rfl rfl (Nat.le_of_ble_eq_true rfl)) ?_
  refine Rk.tr (F1 := (12, 10, _, _)) (x_iload_n rfl rfl) ?_
  refine Rk.tr (F1 := (12, 11, _, _)) (m_iald (k := 12) (n := q) rfl rfl rfl rfl hq) ?_
  refine Rk.tr (F1 := (12, 11, _, _)) (x_top hs) ?_
  refine Rk.tr (F1 := (12, 12, [_, _, _], _)) (x_istore_n (i := 2) rfl (Nat.le_of_ble_eq_true rfl)) ?_
  refine Rk.tr (F1 := (12, 13, _, _)) (x_aload_n rfl rfl rfl) ?_
  refine Rk.tr (F1 := (12, 16, _, _)) (m_get rfl rfl (Nat.le_of_ble_eq_true rfl)) ?_
  refine Rk.tr (F1 := (12, 17, _, _)) (x_iload_n rfl rfl) ?_
  refine Rk.tr (F1 := (12, 18, _, _)) (x_dup2 rfl rfl rfl) ?_
  refine Rk.tr (F1 := (12, 19, _, _)) (m_iald (k := 12) (n := q) rfl rfl rfl rfl hq) ?_
  refine Rk.tr (F1 := (12, 20, _, _)) (x_iconst rfl) ?_
  refine Rk.tr (F1 := (12, 21, _, _)) (x_iadd rfl) ?_
  refine Rk.tr (F1 := (12, 22, _, _)) (m_iast (k := 12) (n := q) rfl rfl rfl (Nat.le_of_ble_eq_true rfl) rfl hq) ?_
  refine Rk.tr (F1 := (12, 23, _, _)) (x_aload_n rfl rfl rfl) ?_
  refine Rk.tr (F1 := (12, 26, _, _)) (m_get rfl rfl (Nat.le_of_ble_eq_true rfl)) ?_
  refine Rk.tr (F1 := (12, 27, _, _)) (x_iload_n rfl rfl) ?_
  refine Rk.tr (F1 := (12, 28, _, _)) (m_iald (k := 11) (n := q) rfl rfl rfl rfl hq) ?_
  refine Rk.tr (F1 := (12, 28, _, _)) (x_top hw) ?_
  refine Rk.tr (F1 := (12, 123, _, _)) (x_tswIn (tg := 123) rfl (by decide) (by decide) rfl rfl) ?_
  refine Rk.tr (F1 := (12, 124, _, _)) (x_aload_n rfl rfl rfl) ?_
  refine Rk.tr (F1 := (12, 125, _, _)) (x_iload_n rfl rfl) ?_
  refine Rk.tr (F1 := (12, 126, _, _)) (x_iload_n rfl rfl) ?_
  refine Rk.tr (F1 := (12, 129, _, _)) (m_call (As := [_, _]) rfl rfl rfl (Or.inr rfl) rfl rfl rfl (Nat.le_of_ble_eq_true rfl) (pr0 hq) rfl) ?_
  exact Rk.end rfl (Or.inr (Or.inl ⟨rfl, _, .boolean, rfl, rfl, rfl, rfl⟩))
theorem go_pb3 (hq : q < 61) (h10 : S.1 10 = nI q) (hw : S.2 11 q = 3) (hs : S.2 12 q = 1) (hdr : S.1 23 = nI dr) (h8 : dr + 10 < 800) : Rn E (d + 4) 12 [.ref o] (mh g o S) (some (.int 1)) (mh g o (mPr3 (mS0 S q) q)) := by
  refine Rn.of (Nat.le_of_ble_eq_true rfl) ?_
  refine Rk.tr (F1 := (12, 1, _, _)) (x_aload_n rfl rfl rfl) ?_
  refine Rk.tr (F1 := (12, 4, _, _)) (m_get rfl rfl (Nat.le_of_ble_eq_true rfl)) ?_
  refine Rk.tr (F1 := (12, 4, _, _)) (x_top h10) ?_
  refine Rk.tr (F1 := (12, 5, [_, _, _], _)) (x_istore_n (i := 1) rfl (Nat.le_of_ble_eq_true rfl)) ?_
  refine Rk.tr (F1 := (12, 6, _, _)) (x_aload_n rfl rfl rfl) ?_
  refine Rk.tr (F1 := (12, 9, _, _)) (m_get rfl rfl (Nat.le_of_ble_eq_true rfl)) ?_
  refine Rk.tr (F1 := (12, 10, _, _)) (x_iload_n rfl rfl) ?_
  refine Rk.tr (F1 := (12, 11, _, _)) (m_iald (k := 12) (n := q) rfl rfl rfl rfl hq) ?_
  refine Rk.tr (F1 := (12, 11, _, _)) (x_top hs) ?_
  refine Rk.tr (F1 := (12, 12, [_, _, _], _)) (x_istore_n (i := 2) rfl (Nat.le_of_ble_eq_true rfl)) ?_
  refine Rk.tr (F1 := (12, 13, _, _)) (x_aload_n rfl rfl rfl) ?_
  refine Rk.tr (F1 := (12, 16, _, _)) (m_get rfl rfl (Nat.le_of_ble_eq_true rfl)) ?_
  refine Rk.tr (F1 := (12, 17, _, _)) (x_iload_n rfl rfl) ?_
  refine Rk.tr (F1 := (12, 18, _, _)) (x_dup2 rfl rfl rfl) ?_
  refine Rk.tr (F1 := (12, 19, _, _)) (m_iald (k := 12) (n := q) rfl rfl rfl rfl hq) ?_
  refine Rk.tr (F1 := (12, 20, _, _)) (x_iconst rfl) ?_
  refine Rk.tr (F1 := (12, 21, _, _)) (x_iadd rfl) ?_
  refine Rk.tr (F1 := (12, 22, _, _)) (m_iast (k := 12) (n := q) rfl rfl rfl (Nat.le_of_ble_eq_true rfl) rfl hq) ?_
  refine Rk.tr (F1 := (12, 23, _, _)) (x_aload_n rfl rfl rfl) ?_
  refine Rk.tr (F1 := (12, 26, _, _)) (m_get rfl rfl (Nat.le_of_ble_eq_true rfl)) ?_
  refine Rk.tr (F1 := (12, 27, _, _)) (x_iload_n rfl rfl) ?_
  refine Rk.tr (F1 := (12, 28, _, _)) (m_iald (k := 11) (n := q) rfl rfl rfl rfl hq) ?_
  refine Rk.tr (F1 := (12, 28, _, _)) (x_top hw) ?_
  refine Rk.tr (F1 := (12, 123, _, _)) (x_tswIn (tg := 123) rfl (by decide) (by decide) rfl rfl) ?_
  refine Rk.tr (F1 := (12, 124, _, _)) (x_aload_n rfl rfl rfl) ?_
  refine Rk.tr (F1 := (12, 125, _, _)) (x_iload_n rfl rfl) ?_
  refine Rk.tr (F1 := (12, 126, _, _)) (x_iload_n rfl rfl) ?_
  refine Rk.tr (F1 := (12, 129, _, _)) (m_call (As := [_, _]) rfl rfl rfl (Or.inr rfl) rfl rfl rfl (Nat.le_of_ble_eq_true rfl) (pr1_3 hq hw hdr h8) rfl) ?_
  exact Rk.end rfl (Or.inr (Or.inl ⟨rfl, _, .boolean, rfl, rfl, rfl, rfl⟩))
theorem go_pa5 (hq : q < 61) (h10 : S.1 10 = nI q) (hw : S.2 11 q = 5) (hs : S.2 12 q = 0)  : Rn E (d + 4) 12 [.ref o] (mh g o S) (some (.int 0)) (mh g o (mPr0 (mS0 S q) q)) := by
  refine Rn.of (Nat.le_of_ble_eq_true rfl) ?_
  refine Rk.tr (F1 := (12, 1, _, _)) (x_aload_n rfl rfl rfl) ?_
  refine Rk.tr (F1 := (12, 4, _, _)) (m_get rfl rfl (Nat.le_of_ble_eq_true rfl)) ?_
  refine Rk.tr (F1 := (12, 4, _, _)) (x_top h10) ?_
  refine Rk.tr (F1 := (12, 5, [_, _, _], _)) (x_istore_n (i := 1) rfl (Nat.le_of_ble_eq_true rfl)) ?_
  refine Rk.tr (F1 := (12, 6, _, _)) (x_aload_n rfl rfl rfl) ?_
  refine Rk.tr (F1 := (12, 9, _, _)) (m_get rfl rfl (Nat.le_of_ble_eq_true rfl)) ?_
  refine Rk.tr (F1 := (12, 10, _, _)) (x_iload_n rfl rfl) ?_
  refine Rk.tr (F1 := (12, 11, _, _)) (m_iald (k := 12) (n := q) rfl rfl rfl rfl hq) ?_
  refine Rk.tr (F1 := (12, 11, _, _)) (x_top hs) ?_
  refine Rk.tr (F1 := (12, 12, [_, _, _], _)) (x_istore_n (i := 2) rfl (Nat.le_of_ble_eq_true rfl)) ?_
  refine Rk.tr (F1 := (12, 13, _, _)) (x_aload_n rfl rfl rfl) ?_
  refine Rk.tr (F1 := (12, 16, _, _)) (m_get rfl rfl (Nat.le_of_ble_eq_true rfl)) ?_
  refine Rk.tr (F1 := (12, 17, _, _)) (x_iload_n rfl rfl) ?_
  refine Rk.tr (F1 := (12, 18, _, _)) (x_dup2 rfl rfl rfl) ?_
  refine Rk.tr (F1 := (12, 19, _, _)) (m_iald (k := 12) (n := q) rfl rfl rfl rfl hq) ?_
  refine Rk.tr (F1 := (12, 20, _, _)) (x_iconst rfl) ?_
  refine Rk.tr (F1 := (12, 21, _, _)) (x_iadd rfl) ?_
  refine Rk.tr (F1 := (12, 22, _, _)) (m_iast (k := 12) (n := q) rfl rfl rfl (Nat.le_of_ble_eq_true rfl) rfl hq) ?_
  refine Rk.tr (F1 := (12, 23, _, _)) (x_aload_n rfl rfl rfl) ?_
  refine Rk.tr (F1 := (12, 26, _, _)) (m_get rfl rfl (Nat.le_of_ble_eq_true rfl)) ?_
  refine Rk.tr (F1 := (12, 27, _, _)) (x_iload_n rfl rfl) ?_
  refine Rk.tr (F1 := (12, 28, _, _)) (m_iald (k := 11) (n := q) rfl rfl rfl rfl hq) ?_
  refine Rk.tr (F1 := (12, 28, _, _)) (x_top hw) ?_
  refine Rk.tr (F1 := (12, 123, _, _)) (x_tswIn (tg := 123) rfl (by decide) (by decide) rfl rfl) ?_
  refine Rk.tr (F1 := (12, 124, _, _)) (x_aload_n rfl rfl rfl) ?_
  refine Rk.tr (F1 := (12, 125, _, _)) (x_iload_n rfl rfl) ?_
  refine Rk.tr (F1 := (12, 126, _, _)) (x_iload_n rfl rfl) ?_
  refine Rk.tr (F1 := (12, 129, _, _)) (m_call (As := [_, _]) rfl rfl rfl (Or.inr rfl) rfl rfl rfl (Nat.le_of_ble_eq_true rfl) (pr0 hq) rfl) ?_
  exact Rk.end rfl (Or.inr (Or.inl ⟨rfl, _, .boolean, rfl, rfl, rfl, rfl⟩))
theorem go_pb5 (hq : q < 61) (h10 : S.1 10 = nI q) (hw : S.2 11 q = 5) (hs : S.2 12 q = 1) (hdr : S.1 23 = nI dr) (h8 : dr + 10 < 800) : Rn E (d + 4) 12 [.ref o] (mh g o S) (some (.int 1)) (mh g o (mPr5 (mS0 S q) q)) := by
  refine Rn.of (Nat.le_of_ble_eq_true rfl) ?_
  refine Rk.tr (F1 := (12, 1, _, _)) (x_aload_n rfl rfl rfl) ?_
  refine Rk.tr (F1 := (12, 4, _, _)) (m_get rfl rfl (Nat.le_of_ble_eq_true rfl)) ?_
  refine Rk.tr (F1 := (12, 4, _, _)) (x_top h10) ?_
  refine Rk.tr (F1 := (12, 5, [_, _, _], _)) (x_istore_n (i := 1) rfl (Nat.le_of_ble_eq_true rfl)) ?_
  refine Rk.tr (F1 := (12, 6, _, _)) (x_aload_n rfl rfl rfl) ?_
  refine Rk.tr (F1 := (12, 9, _, _)) (m_get rfl rfl (Nat.le_of_ble_eq_true rfl)) ?_
  refine Rk.tr (F1 := (12, 10, _, _)) (x_iload_n rfl rfl) ?_
  refine Rk.tr (F1 := (12, 11, _, _)) (m_iald (k := 12) (n := q) rfl rfl rfl rfl hq) ?_
  refine Rk.tr (F1 := (12, 11, _, _)) (x_top hs) ?_
  refine Rk.tr (F1 := (12, 12, [_, _, _], _)) (x_istore_n (i := 2) rfl (Nat.le_of_ble_eq_true rfl)) ?_
  refine Rk.tr (F1 := (12, 13, _, _)) (x_aload_n rfl rfl rfl) ?_
  refine Rk.tr (F1 := (12, 16, _, _)) (m_get rfl rfl (Nat.le_of_ble_eq_true rfl)) ?_
  refine Rk.tr (F1 := (12, 17, _, _)) (x_iload_n rfl rfl) ?_
  refine Rk.tr (F1 := (12, 18, _, _)) (x_dup2 rfl rfl rfl) ?_
  refine Rk.tr (F1 := (12, 19, _, _)) (m_iald (k := 12) (n := q) rfl rfl rfl rfl hq) ?_
  refine Rk.tr (F1 := (12, 20, _, _)) (x_iconst rfl) ?_
  refine Rk.tr (F1 := (12, 21, _, _)) (x_iadd rfl) ?_
  refine Rk.tr (F1 := (12, 22, _, _)) (m_iast (k := 12) (n := q) rfl rfl rfl (Nat.le_of_ble_eq_true rfl) rfl hq) ?_
  refine Rk.tr (F1 := (12, 23, _, _)) (x_aload_n rfl rfl rfl) ?_
  refine Rk.tr (F1 := (12, 26, _, _)) (m_get rfl rfl (Nat.le_of_ble_eq_true rfl)) ?_
  refine Rk.tr (F1 := (12, 27, _, _)) (x_iload_n rfl rfl) ?_
  refine Rk.tr (F1 := (12, 28, _, _)) (m_iald (k := 11) (n := q) rfl rfl rfl rfl hq) ?_
  refine Rk.tr (F1 := (12, 28, _, _)) (x_top hw) ?_
  refine Rk.tr (F1 := (12, 123, _, _)) (x_tswIn (tg := 123) rfl (by decide) (by decide) rfl rfl) ?_
  refine Rk.tr (F1 := (12, 124, _, _)) (x_aload_n rfl rfl rfl) ?_
  refine Rk.tr (F1 := (12, 125, _, _)) (x_iload_n rfl rfl) ?_
  refine Rk.tr (F1 := (12, 126, _, _)) (x_iload_n rfl rfl) ?_
  refine Rk.tr (F1 := (12, 129, _, _)) (m_call (As := [_, _]) rfl rfl rfl (Or.inr rfl) rfl rfl rfl (Nat.le_of_ble_eq_true rfl) (pr1_5 hq hw hdr h8) rfl) ?_
  exact Rk.end rfl (Or.inr (Or.inl ⟨rfl, _, .boolean, rfl, rfl, rfl, rfl⟩))
theorem cl_1 {S' : MSt} {x y : Option Value} (h : Rn E (d + 4) 5 [.ref o] (mh g o S) (some (.int 1)) (mh g o S')) : Ex E (d + 5) (4, 53, [some (.ref o), some (.int 1), x, y], []) (mh g o S) (4, 79, [some (.ref o), some (.int 1), none, some (.int 1)], []) (mh g o S') := by
  refine Ex.tr (F1 := (4, 54, _, _)) (x_iload_n rfl rfl) ?_
  refine Ex.tr (F1 := (4, 57, _, _)) (x_ifF rfl (tg := 111) rfl (show ¬ (1 : Int32) = 0 by decide)) ?_
  refine Ex.tr (F1 := (4, 58, _, _)) (x_aload_n rfl rfl rfl) ?_
  refine Ex.tr (F1 := (4, 61, _, _)) (m_call (As := []) rfl rfl rfl (Or.inr rfl) rfl rfl rfl (Nat.le_of_ble_eq_true rfl) h rfl) ?_
  refine Ex.tr (F1 := (4, 62, [_, _, _, _], _)) (x_istore_n (i := 2) rfl (Nat.le_of_ble_eq_true rfl)) ?_
  refine Ex.tr (F1 := (4, 63, _, _)) (x_iload_n rfl rfl) ?_
  refine Ex.tr (F1 := (4, 68, _, _)) (x_ifT rfl (tg := 68) rfl (show (0 : Int32) ≤ 1 by decide)) ?_
  refine Ex.tr (F1 := (4, 69, _, _)) (x_iload_n rfl rfl) ?_
  refine Ex.tr (F1 := (4, 70, _, _)) (x_iconst rfl) ?_
  refine Ex.tr (F1 := (4, 73, _, _)) (x_icF rfl (tg := 77) rfl (fun q => q rfl)) ?_
  refine Ex.tr (F1 := (4, 74, _, _)) (x_iconst rfl) ?_
  refine Ex.tr (F1 := (4, 78, _, _)) (x_goto rfl rfl) ?_
  refine Ex.tr (F1 := (4, 79, [_, _, _, _], _)) (x_istore_n (i := 3) rfl (Nat.le_of_ble_eq_true rfl)) ?_
  exact x_wk ⟨Or.inr rfl, Or.inr rfl, Or.inl rfl, Or.inr rfl, trivial⟩
theorem cl_0 {S' : MSt} {x y : Option Value} (h : Rn E (d + 4) 5 [.ref o] (mh g o S) (some (.int 0)) (mh g o S')) : Ex E (d + 5) (4, 53, [some (.ref o), some (.int 1), x, y], []) (mh g o S) (4, 53, [some (.ref o), some (.int 1), none, none], []) (mh g o S') := by
  refine Ex.tr (F1 := (4, 54, _, _)) (x_iload_n rfl rfl) ?_
  refine Ex.tr (F1 := (4, 57, _, _)) (x_ifF rfl (tg := 111) rfl (show ¬ (1 : Int32) = 0 by decide)) ?_
  refine Ex.tr (F1 := (4, 58, _, _)) (x_aload_n rfl rfl rfl) ?_
  refine Ex.tr (F1 := (4, 61, _, _)) (m_call (As := []) rfl rfl rfl (Or.inr rfl) rfl rfl rfl (Nat.le_of_ble_eq_true rfl) h rfl) ?_
  refine Ex.tr (F1 := (4, 62, [_, _, _, _], _)) (x_istore_n (i := 2) rfl (Nat.le_of_ble_eq_true rfl)) ?_
  refine Ex.tr (F1 := (4, 63, _, _)) (x_iload_n rfl rfl) ?_
  refine Ex.tr (F1 := (4, 68, _, _)) (x_ifT rfl (tg := 68) rfl (show (0 : Int32) ≤ 0 by decide)) ?_
  refine Ex.tr (F1 := (4, 69, _, _)) (x_iload_n rfl rfl) ?_
  refine Ex.tr (F1 := (4, 70, _, _)) (x_iconst rfl) ?_
  refine Ex.tr (F1 := (4, 77, _, _)) (x_icT rfl (tg := 77) rfl (show ¬ (0 : Int32) = 1 by decide)) ?_
  refine Ex.tr (F1 := (4, 78, _, _)) (x_iconst rfl) ?_
  refine Ex.tr (F1 := (4, 79, [_, _, _, _], _)) (x_istore_n (i := 3) rfl (Nat.le_of_ble_eq_true rfl)) ?_
  refine Ex.tr (F1 := (4, 80, _, _)) (x_iload_n rfl rfl) ?_
  refine Ex.tr (F1 := (4, 98, _, _)) (x_ifT rfl (tg := 98) rfl rfl) ?_
  refine Ex.tr (F1 := (4, 99, _, _)) (x_iload_n rfl rfl) ?_
  refine Ex.tr (F1 := (4, 102, _, _)) (x_ifF rfl (tg := 106) rfl (fun q => q rfl)) ?_
  refine Ex.tr (F1 := (4, 103, _, _)) (x_iconst rfl) ?_
  refine Ex.tr (F1 := (4, 107, _, _)) (x_goto rfl rfl) ?_
  refine Ex.tr (F1 := (4, 108, [_, _, _, _], _)) (x_istore_n (i := 1) rfl (Nat.le_of_ble_eq_true rfl)) ?_
  refine Ex.tr (F1 := (4, 53, [_, _, _, _], _)) (x_goto rfl rfl) ?_
  exact x_wk ⟨Or.inr rfl, Or.inr rfl, Or.inl rfl, Or.inl rfl, trivial⟩
theorem cl_f {S' : MSt} {x y : Option Value} (h : Rn E (d + 4) 5 [.ref o] (mh g o S) (some (.int (-1))) (mh g o S')) : Rk E (d + 5) (4, 53, [some (.ref o), some (.int 1), x, y], []) (mh g o S) (some (.int 0)) (mh g o S') := by
  refine Rk.tr (F1 := (4, 54, _, _)) (x_iload_n rfl rfl) ?_
  refine Rk.tr (F1 := (4, 57, _, _)) (x_ifF rfl (tg := 111) rfl (show ¬ (1 : Int32) = 0 by decide)) ?_
  refine Rk.tr (F1 := (4, 58, _, _)) (x_aload_n rfl rfl rfl) ?_
  refine Rk.tr (F1 := (4, 61, _, _)) (m_call (As := []) rfl rfl rfl (Or.inr rfl) rfl rfl rfl (Nat.le_of_ble_eq_true rfl) h rfl) ?_
  refine Rk.tr (F1 := (4, 62, [_, _, _, _], _)) (x_istore_n (i := 2) rfl (Nat.le_of_ble_eq_true rfl)) ?_
  refine Rk.tr (F1 := (4, 63, _, _)) (x_iload_n rfl rfl) ?_
  refine Rk.tr (F1 := (4, 66, _, _)) (x_ifF rfl (tg := 68) rfl (show ¬ (0 : Int32) ≤ -1 by decide)) ?_
  refine Rk.tr (F1 := (4, 67, _, _)) (x_iconst rfl) ?_
  exact Rk.end rfl (Or.inr (Or.inl ⟨rfl, _, .boolean, rfl, rfl, rfl, rfl⟩))
theorem cl_g1 {S' : MSt} (h10 : S.1 10 = nI q) (hq : 0 < q) (hq6 : q < 61) (h : Rn E (d + 4) 12 [.ref o] (mh g o S) (some (.int 1)) (mh g o S')) : Ex E (d + 5) (4, 79, [some (.ref o), some (.int 1), none, some (.int 1)], []) (mh g o S) (4, 79, [some (.ref o), some (.int 1), none, some (.int 1)], []) (mh g o S') := by
  refine Ex.tr (F1 := (4, 80, _, _)) (x_iload_n rfl rfl) ?_
  refine Ex.tr (F1 := (4, 83, _, _)) (x_ifF rfl (tg := 98) rfl (show ¬ (1 : Int32) = 0 by decide)) ?_
  refine Ex.tr (F1 := (4, 84, _, _)) (x_aload_n rfl rfl rfl) ?_
  refine Ex.tr (F1 := (4, 87, _, _)) (m_get rfl rfl (Nat.le_of_ble_eq_true rfl)) ?_
  refine Ex.tr (F1 := (4, 90, _, _)) (x_ifF rfl (tg := 98) rfl (by show ¬ S.1 10 ≤ nI 0; rw [h10]; exact nI_ge (by omega) (by omega))) ?_
  refine Ex.tr (F1 := (4, 91, _, _)) (x_aload_n rfl rfl rfl) ?_
  refine Ex.tr (F1 := (4, 94, _, _)) (m_call (As := []) rfl rfl rfl (Or.inr rfl) rfl rfl rfl (Nat.le_of_ble_eq_true rfl) h rfl) ?_
  refine Ex.tr (F1 := (4, 95, [_, _, _, _], _)) (x_istore_n (i := 3) rfl (Nat.le_of_ble_eq_true rfl)) ?_
  exact x_goto rfl rfl
theorem cl_g0 {S' : MSt} (h10 : S.1 10 = nI q) (hq : 0 < q) (hq6 : q < 61) (h : Rn E (d + 4) 12 [.ref o] (mh g o S) (some (.int 0)) (mh g o S')) : Ex E (d + 5) (4, 79, [some (.ref o), some (.int 1), none, some (.int 1)], []) (mh g o S) (4, 53, [some (.ref o), some (.int 1), none, none], []) (mh g o S') := by
  refine Ex.tr (F1 := (4, 80, _, _)) (x_iload_n rfl rfl) ?_
  refine Ex.tr (F1 := (4, 83, _, _)) (x_ifF rfl (tg := 98) rfl (show ¬ (1 : Int32) = 0 by decide)) ?_
  refine Ex.tr (F1 := (4, 84, _, _)) (x_aload_n rfl rfl rfl) ?_
  refine Ex.tr (F1 := (4, 87, _, _)) (m_get rfl rfl (Nat.le_of_ble_eq_true rfl)) ?_
  refine Ex.tr (F1 := (4, 90, _, _)) (x_ifF rfl (tg := 98) rfl (by show ¬ S.1 10 ≤ nI 0; rw [h10]; exact nI_ge (by omega) (by omega))) ?_
  refine Ex.tr (F1 := (4, 91, _, _)) (x_aload_n rfl rfl rfl) ?_
  refine Ex.tr (F1 := (4, 94, _, _)) (m_call (As := []) rfl rfl rfl (Or.inr rfl) rfl rfl rfl (Nat.le_of_ble_eq_true rfl) h rfl) ?_
  refine Ex.tr (F1 := (4, 95, [_, _, _, _], _)) (x_istore_n (i := 3) rfl (Nat.le_of_ble_eq_true rfl)) ?_
  refine Ex.tr (F1 := (4, 79, [_, _, _, _], _)) (x_goto rfl rfl) ?_
  refine Ex.tr (F1 := (4, 80, _, _)) (x_iload_n rfl rfl) ?_
  refine Ex.tr (F1 := (4, 98, _, _)) (x_ifT rfl (tg := 98) rfl rfl) ?_
  refine Ex.tr (F1 := (4, 99, _, _)) (x_iload_n rfl rfl) ?_
  refine Ex.tr (F1 := (4, 102, _, _)) (x_ifF rfl (tg := 106) rfl (fun q => q rfl)) ?_
  refine Ex.tr (F1 := (4, 103, _, _)) (x_iconst rfl) ?_
  refine Ex.tr (F1 := (4, 107, _, _)) (x_goto rfl rfl) ?_
  refine Ex.tr (F1 := (4, 108, [_, _, _, _], _)) (x_istore_n (i := 1) rfl (Nat.le_of_ble_eq_true rfl)) ?_
  refine Ex.tr (F1 := (4, 53, [_, _, _, _], _)) (x_goto rfl rfl) ?_
  exact x_wk ⟨Or.inr rfl, Or.inr rfl, Or.inl rfl, Or.inl rfl, trivial⟩
end M14
