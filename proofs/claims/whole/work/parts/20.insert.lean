/-! ===== insert, function ===== -/
/-- the array behind 'insert': the n cells of the piece at f -/
def rins (R W : Nat → Int32) (f n len : Nat) : Nat → Int32 := fun q => if f ≤ q ∧ q < f + n then W (q - f) else if f + n ≤ q ∧ q < len + n then R (q - n) else R q
/-- moved so far: from k on -/
def rmv (R : Nat → Int32) (n len k : Nat) : Nat → Int32 := fun q => if k + n ≤ q ∧ q < len + n then R (q - n) else R q
def rpc (R W : Nat → Int32) (f k : Nat) : Nat → Int32 := fun q => if f ≤ q ∧ q < f + k then W (q - f) else R q
section M6
variable {E : PE} {d o len : Nat} {g : PH} {S : MSt}
theorem lp_ins1 {f n : Nat} (hf : f ≤ len) (hln : len + n ≤ 800) : ∀ (r : Nat), f + r ≤ len →
    Ex E d (34, 7, [some (.ref o), some (.int (nI f)), some (.int (nI n)), some (.int (nI (f + r) - 1))], []) (mh g o (msR S (rmv (S.2 5) n len (f + r)))) (34, 32, [some (.ref o), some (.int (nI f)), some (.int (nI n)), none], []) (mh g o (msR S (rmv (S.2 5) n len f))) := by
  intro r
  induction r with
  | zero =>
    intro _
    have hlt : nI (f + 0) - 1 < nI f := by
      rw [Nat.add_zero]
      exact Int32.lt_iff_toInt_lt.mpr (by rw [show nI f - 1 = nI f - nI 1 from rfl, pk_sub_toInt (by omega) (by decide), nI_toInt (by omega)]; omega)
    refine Ex.tr (F1 := (34, 8, _, _)) (x_iload_n rfl rfl) ?_
    refine Ex.tr (F1 := (34, 9, _, _)) (x_iload_n rfl rfl) ?_
    refine Ex.tr (F1 := (34, 32, _, _)) (x_icT rfl (tg := 32) rfl hlt) ?_
    exact x_wk ⟨Or.inr rfl, Or.inr rfl, Or.inr rfl, Or.inl rfl, trivial⟩
  | succ r ih =>
    intro hr
    have h9 := ih (by omega)
    have e0 : nI (f + (r + 1)) - 1 = nI (f + r) := nI_pred (f + r)
    have hR : rup (rmv (S.2 5) n len (f + r + 1)) (f + r + n) (rmv (S.2 5) n len (f + r + 1) (f + r)) = rmv (S.2 5) n len (f + r) := by
      funext q
      have ek : rmv (S.2 5) n len (f + r + 1) (f + r) = S.2 5 (f + r) := by
        unfold rmv
        rw [if_neg (by omega)]
      rw [ek]
      unfold rup rmv
      by_cases z : q = f + r + n
      · rw [if_pos z, if_pos (by omega), show q - n = f + r by omega]
      · rw [if_neg z]
        by_cases z2 : f + r + 1 + n ≤ q ∧ q < len + n
        · rw [if_pos z2, if_pos (by omega)]
        · rw [if_neg z2, if_neg (by omega)]
    have e5 : nI (f + r) - 1 = nI (f + r) + Int32.ofInt (-1) := by
      rw [Int32.sub_eq_add_neg]
      rfl
    rw [← hR, ← msR_A, e5] at h9
    rw [e0]
    refine Ex.tr (F1 := (34, 8, _, _)) (x_iload_n rfl rfl) ?_
    refine Ex.tr (F1 := (34, 9, _, _)) (x_iload_n rfl rfl) ?_
    refine Ex.tr (F1 := (34, 12, _, _)) (x_icF rfl (tg := 32) rfl (by show ¬ nI (f + r) < nI f; exact nI_nlt (by omega) (by omega))) ?_
    refine Ex.tr (F1 := (34, 13, _, _)) (x_aload_n rfl rfl rfl) ?_
    refine Ex.tr (F1 := (34, 16, _, _)) (m_get rfl rfl (Nat.le_of_ble_eq_true rfl)) ?_
    refine Ex.tr (F1 := (34, 17, _, _)) (x_iload_n rfl rfl) ?_
    refine Ex.tr (F1 := (34, 18, _, _)) (x_iload_n rfl rfl) ?_
    refine Ex.tr (F1 := (34, 19, _, _)) (x_iadd rfl) ?_
    refine Ex.tr (F1 := (34, 20, _, _)) (x_aload_n rfl rfl rfl) ?_
    refine Ex.tr (F1 := (34, 23, _, _)) (m_get rfl rfl (Nat.le_of_ble_eq_true rfl)) ?_
    refine Ex.tr (F1 := (34, 24, _, _)) (x_iload_n rfl rfl) ?_
    refine Ex.tr (F1 := (34, 25, _, _)) (m_iald (k := 5) (n := f + r) rfl rfl rfl rfl (show f + r < 800 by omega)) ?_
    refine Ex.tr (F1 := (34, 26, _, _)) (m_iast (k := 5) (n := f + r + n) rfl rfl rfl (Nat.le_of_ble_eq_true rfl) (nI_add (f + r) n) (show f + r + n < 800 by omega)) ?_
    refine Ex.tr (F1 := (34, 29, [_, _, _, _], _)) (x_iinc (i := 3) rfl rfl) ?_
    refine Ex.tr (F1 := (34, 7, _, _)) (x_goto rfl rfl) ?_
    exact h9
theorem lp_ins2 {f n : Nat} {R : Nat → Int32} (hfn : f + n ≤ 800) : ∀ (r k : Nat), k + r = n →
    Ex E d (34, 34, [some (.ref o), some (.int (nI f)), some (.int (nI n)), some (.int (nI k))], []) (mh g o (msR S (rpc R (S.2 6) f k))) (34, 59, [some (.ref o), some (.int (nI f)), some (.int (nI n)), none], []) (mh g o (msR S (rpc R (S.2 6) f n))) := by
  intro r
  induction r with
  | zero =>
    intro k hk
    rcases (show k = n by omega) with rfl
    refine Ex.tr (F1 := (34, 35, _, _)) (x_iload_n rfl rfl) ?_
    refine Ex.tr (F1 := (34, 36, _, _)) (x_iload_n rfl rfl) ?_
    refine Ex.tr (F1 := (34, 59, _, _)) (x_icT rfl (tg := 59) rfl (by show nI k ≤ nI k; exact nI_le (Nat.le_refl _) (by omega))) ?_
    exact x_wk ⟨Or.inr rfl, Or.inr rfl, Or.inr rfl, Or.inl rfl, trivial⟩
  | succ r ih =>
    intro k hk
    have h9 := ih (k + 1) (by omega)
    have hR : rup (rpc R (S.2 6) f k) (f + k) (S.2 6 k) = rpc R (S.2 6) f (k + 1) := by
      funext q
      unfold rup rpc
      by_cases z : q = f + k
      · rw [if_pos z, if_pos (by omega), show q - f = k by omega]
      · rw [if_neg z]
        by_cases z2 : f ≤ q ∧ q < f + k
        · rw [if_pos z2, if_pos (by omega)]
        · rw [if_neg z2, if_neg (by omega)]
    rw [← hR, ← msR_A, ← nI_1 k] at h9
    refine Ex.tr (F1 := (34, 35, _, _)) (x_iload_n rfl rfl) ?_
    refine Ex.tr (F1 := (34, 36, _, _)) (x_iload_n rfl rfl) ?_
    refine Ex.tr (F1 := (34, 39, _, _)) (x_icF rfl (tg := 59) rfl (by show ¬ nI n ≤ nI k; exact nI_ge (by omega) (by omega))) ?_
    refine Ex.tr (F1 := (34, 40, _, _)) (x_aload_n rfl rfl rfl) ?_
    refine Ex.tr (F1 := (34, 43, _, _)) (m_get rfl rfl (Nat.le_of_ble_eq_true rfl)) ?_
    refine Ex.tr (F1 := (34, 44, _, _)) (x_iload_n rfl rfl) ?_
    refine Ex.tr (F1 := (34, 45, _, _)) (x_iload_n rfl rfl) ?_
    refine Ex.tr (F1 := (34, 46, _, _)) (x_iadd rfl) ?_
    refine Ex.tr (F1 := (34, 47, _, _)) (x_aload_n rfl rfl rfl) ?_
    refine Ex.tr (F1 := (34, 50, _, _)) (m_get rfl rfl (Nat.le_of_ble_eq_true rfl)) ?_
    refine Ex.tr (F1 := (34, 51, _, _)) (x_iload_n rfl rfl) ?_
    refine Ex.tr (F1 := (34, 52, _, _)) (m_iald (k := 6) (n := k) rfl rfl rfl rfl (show k < 800 by omega)) ?_
    refine Ex.tr (F1 := (34, 53, _, _)) (m_iast (k := 5) (n := f + k) rfl rfl rfl (Nat.le_of_ble_eq_true rfl) (nI_add f k) (show f + k < 800 by omega)) ?_
    refine Ex.tr (F1 := (34, 56, [_, _, _, _], _)) (x_iinc (i := 3) rfl rfl) ?_
    refine Ex.tr (F1 := (34, 34, _, _)) (x_goto rfl rfl) ?_
    exact h9
theorem c_insert {f n : Nat} (hl : S.1 4 = nI len) (hf : f ≤ len) (h8 : len + n ≤ 800) : Rn E d 34 [.ref o, .int (nI f), .int (nI n)] (mh g o S) none (mh g o (msI (msR S (rins (S.2 5) (S.2 6) f n len)) 4 (nI (len + n)))) := by
  have e1 : rmv (S.2 5) n len (f + (len - f)) = S.2 5 := by
    funext q
    unfold rmv
    rw [show f + (len - f) = len by omega, if_neg (by omega)]
  have e2 : rpc (rmv (S.2 5) n len f) (S.2 6) f 0 = rmv (S.2 5) n len f := by
    funext q
    unfold rpc
    rw [if_neg (by omega)]
  have e3 : rpc (rmv (S.2 5) n len f) (S.2 6) f n = rins (S.2 5) (S.2 6) f n len := by
    funext q
    unfold rpc rmv rins
    rfl
  have a1 := lp_ins1 (E := E) (d := d) (o := o) (g := g) (S := S) (f := f) (n := n) (len := len) hf h8 (len - f) (by omega)
  rw [e1, msR_self, show f + (len - f) = len by omega] at a1
  have a2 := lp_ins2 (E := E) (d := d) (o := o) (g := g) (S := S) (f := f) (n := n) (R := rmv (S.2 5) n len f) (by omega) n 0 (by omega)
  rw [e2, e3] at a2
  refine Rn.of (Nat.le_of_ble_eq_true rfl) ?_
  refine Rk.tr (F1 := (34, 1, _, _)) (x_aload_n rfl rfl rfl) ?_
  refine Rk.tr (F1 := (34, 4, _, _)) (m_get rfl rfl (Nat.le_of_ble_eq_true rfl)) ?_
  refine Rk.tr (F1 := (34, 5, _, _)) (x_iconst rfl) ?_
  refine Rk.tr (F1 := (34, 6, _, _)) (x_isub rfl) ?_
  refine Rk.tr (F1 := (34, 6, _, _)) (x_top (y := nI len - 1) (by show S.1 4 - 1 = _; rw [hl])) ?_
  refine Rk.tr (F1 := (34, 7, [_, _, _, _], _)) (x_istore_n (i := 3) rfl (Nat.le_of_ble_eq_true rfl)) ?_
  refine Rk.tr a1 ?_
  refine Rk.tr (F1 := (34, 33, _, _)) (x_iconst rfl) ?_
  refine Rk.tr (F1 := (34, 34, [_, _, _, _], _)) (x_istore_n (i := 3) rfl (Nat.le_of_ble_eq_true rfl)) ?_
  refine Rk.tr a2 ?_
  refine Rk.tr (F1 := (34, 60, _, _)) (x_aload_n rfl rfl rfl) ?_
  refine Rk.tr (F1 := (34, 61, _, _)) (x_dup rfl rfl) ?_
  refine Rk.tr (F1 := (34, 64, _, _)) (m_get rfl rfl (Nat.le_of_ble_eq_true rfl)) ?_
  refine Rk.tr (F1 := (34, 65, _, _)) (x_iload_n rfl rfl) ?_
  refine Rk.tr (F1 := (34, 66, _, _)) (x_iadd rfl) ?_
  refine Rk.tr (F1 := (34, 66, _, _)) (x_top (y := nI (len + n)) (by show S.1 4 + nI n = _; rw [hl, nI_add])) ?_
  refine Rk.tr (F1 := (34, 69, _, _)) (m_put rfl rfl rfl rfl rfl rfl) ?_
  exact Rk.end rfl (Or.inl ⟨rfl, rfl, rfl, rfl⟩)
/-- where the last item stands that binds the name to a FUN; its place in tokens -/
def fnd (nm : Int32) : List It → Nat → Int32 → Int32
  | [], _, x => x
  | it :: Q, p, x => fnd nm Q (p + isz it) (if it.1 = 2 ∧ it.2.1 = nm then nI p else x)
theorem Tok1_k2 {R : Nat → Int32} {p : Nat} {it : It} (h : Tok1 R p it) (h9 : it.1 ≠ 9) : R (p + 2) = 2 ↔ it.1 = 2 := by
  obtain ⟨k, nm, dt, ⟨a1, a2⟩, b1, b2⟩ := it
  rcases kd5 k with rfl | rfl | rfl | rfl | ⟨n2, n3, n5, n9⟩
  · exact iff_of_true h.2.2.1 rfl
  · rw [h.2.2.1]; exact iff_of_false (by decide) (show ¬ (3 : Nat) = 2 by decide)
  · rw [h.2.2.1]; exact iff_of_false (by decide) (show ¬ (5 : Nat) = 2 by decide)
  · exact absurd rfl h9
  · have ht : R p = 8 ∧ R (p + 1) = nm ∧ R (p + 2) = 6 ∧ R (p + 3) = a1 ∧ R (p + 4) = a2 := by
      unfold Tok1 at h
      split at h <;> first | (rename_i z; exact absurd z (by assumption)) | exact h
    rw [ht.2.2.1]
    exact iff_of_false (by decide) n2
theorem lp_function {nm : Int32} (hl : S.1 4 = nI len) (h8 : len ≤ 800) : ∀ (Q : List It) (p : Nat) (x : Int32), TokAt (S.2 5) p Q → p + tsum Q = len → Rk E (d + 1) (36, 4, [some (.ref o), some (.int nm), some (.int (x)), some (.int (nI (p)))], []) (mh g o S) (some (.int (fnd nm Q p x))) (mh g o S) := by
  intro Q
  induction Q with
  | nil =>
    intro p x _ hp
    simp only [tsum] at hp
    refine Rk.tr (F1 := (36, 5, _, _)) (x_iload_n rfl rfl) ?_
    refine Rk.tr (F1 := (36, 6, _, _)) (x_aload_n rfl rfl rfl) ?_
    refine Rk.tr (F1 := (36, 9, _, _)) (m_get rfl rfl (Nat.le_of_ble_eq_true rfl)) ?_
    refine Rk.tr (F1 := (36, 60, _, _)) (x_icT rfl (tg := 60) rfl (by show S.1 4 ≤ nI p; rw [hl]; exact nI_le (by omega) (by omega))) ?_
    refine Rk.tr (F1 := (36, 61, _, _)) (x_iload_n rfl rfl) ?_
    exact Rk.end rfl (Or.inr (Or.inl ⟨rfl, _, .int, rfl, rfl, rfl, rfl⟩))
  | cons it Q ih =>
    intro p x hT hp
    obtain ⟨h1, h2⟩ := hT
    simp only [tsum] at hp
    have h3 := isz_ge it
    have hs := Tok1_sz h1
    have h9 := ih (p + isz it) (if it.1 = 2 ∧ it.2.1 = nm then nI p else x) h2 (by omega)
    refine Rk.tr (F1 := (36, 5, _, _)) (x_iload_n rfl rfl) ?_
    refine Rk.tr (F1 := (36, 6, _, _)) (x_aload_n rfl rfl rfl) ?_
    refine Rk.tr (F1 := (36, 9, _, _)) (m_get rfl rfl (Nat.le_of_ble_eq_true rfl)) ?_
    refine Rk.tr (F1 := (36, 12, _, _)) (x_icF rfl (tg := 60) rfl (by show ¬ S.1 4 ≤ nI p; rw [hl]; exact nI_ge (by omega) (by omega))) ?_
    have key : Ex E (d + 1) (36, 12, [some (.ref o), some (.int nm), some (.int (x)), some (.int (nI (p)))], []) (mh g o S) (36, 49, [some (.ref o), some (.int nm), some (.int (if it.1 = 2 ∧ it.2.1 = nm then nI p else x)), some (.int (nI (p)))], []) (mh g o S) := by
      by_cases c9 : it.1 = 9
      · rw [if_neg (fun z => by have := c9.symm.trans z.1; omega)]
        refine Ex.tr (F1 := (36, 13, _, _)) (x_aload_n rfl rfl rfl) ?_
        refine Ex.tr (F1 := (36, 16, _, _)) (m_get rfl rfl (Nat.le_of_ble_eq_true rfl)) ?_
        refine Ex.tr (F1 := (36, 17, _, _)) (x_iload_n rfl rfl) ?_
        refine Ex.tr (F1 := (36, 18, _, _)) (m_iald (k := 5) (n := p) rfl rfl rfl rfl (show p < 800 by omega)) ?_
        refine Ex.tr (F1 := (36, 20, _, _)) (x_bipush rfl) ?_
        refine Ex.tr (F1 := (36, 49, _, _)) (x_icT rfl (tg := 49) rfl (fun z => (hs.2.2.2.2.1.mp z) c9)) ?_
        exact Ex.rf
      · have n8 := hs.2.2.2.2.1.mpr c9
        have nn := hs.2.2.2.2.2 c9
        have n2 := Tok1_k2 h1 c9
        by_cases cn : it.2.1 = nm
        · by_cases c2 : it.1 = 2
          · rw [if_pos ⟨c2, cn⟩]
            refine Ex.tr (F1 := (36, 13, _, _)) (x_aload_n rfl rfl rfl) ?_
            refine Ex.tr (F1 := (36, 16, _, _)) (m_get rfl rfl (Nat.le_of_ble_eq_true rfl)) ?_
            refine Ex.tr (F1 := (36, 17, _, _)) (x_iload_n rfl rfl) ?_
            refine Ex.tr (F1 := (36, 18, _, _)) (m_iald (k := 5) (n := p) rfl rfl rfl rfl (show p < 800 by omega)) ?_
            refine Ex.tr (F1 := (36, 20, _, _)) (x_bipush rfl) ?_
            refine Ex.tr (F1 := (36, 23, _, _)) (x_icF rfl (tg := 49) rfl (fun z => z n8)) ?_
            refine Ex.tr (F1 := (36, 24, _, _)) (x_aload_n rfl rfl rfl) ?_
            refine Ex.tr (F1 := (36, 27, _, _)) (m_get rfl rfl (Nat.le_of_ble_eq_true rfl)) ?_
            refine Ex.tr (F1 := (36, 28, _, _)) (x_iload_n rfl rfl) ?_
            refine Ex.tr (F1 := (36, 29, _, _)) (x_iconst rfl) ?_
            refine Ex.tr (F1 := (36, 30, _, _)) (x_iadd rfl) ?_
            refine Ex.tr (F1 := (36, 31, _, _)) (m_iald (k := 5) (n := p + 1) rfl rfl rfl (nI_1 p) (show p + 1 < 800 by omega)) ?_
            refine Ex.tr (F1 := (36, 32, _, _)) (x_iload_n rfl rfl) ?_
            refine Ex.tr (F1 := (36, 35, _, _)) (x_icF rfl (tg := 49) rfl (fun z => z (nn.trans cn))) ?_
            refine Ex.tr (F1 := (36, 36, _, _)) (x_aload_n rfl rfl rfl) ?_
            refine Ex.tr (F1 := (36, 39, _, _)) (m_get rfl rfl (Nat.le_of_ble_eq_true rfl)) ?_
            refine Ex.tr (F1 := (36, 40, _, _)) (x_iload_n rfl rfl) ?_
            refine Ex.tr (F1 := (36, 41, _, _)) (x_iconst rfl) ?_
            refine Ex.tr (F1 := (36, 42, _, _)) (x_iadd rfl) ?_
            refine Ex.tr (F1 := (36, 43, _, _)) (m_iald (k := 5) (n := p + 2) rfl rfl rfl (nI_add p 2) (show p + 2 < 800 by omega)) ?_
            refine Ex.tr (F1 := (36, 44, _, _)) (x_iconst rfl) ?_
            refine Ex.tr (F1 := (36, 47, _, _)) (x_icF rfl (tg := 49) rfl (fun z => z (n2.mpr c2))) ?_
            refine Ex.tr (F1 := (36, 48, _, _)) (x_iload_n rfl rfl) ?_
            refine Ex.tr (F1 := (36, 49, [_, _, _, _], _)) (x_istore_n (i := 2) rfl (Nat.le_of_ble_eq_true rfl)) ?_
            exact Ex.rf
          · rw [if_neg (fun z => c2 z.1)]
            refine Ex.tr (F1 := (36, 13, _, _)) (x_aload_n rfl rfl rfl) ?_
            refine Ex.tr (F1 := (36, 16, _, _)) (m_get rfl rfl (Nat.le_of_ble_eq_true rfl)) ?_
            refine Ex.tr (F1 := (36, 17, _, _)) (x_iload_n rfl rfl) ?_
            refine Ex.tr (F1 := (36, 18, _, _)) (m_iald (k := 5) (n := p) rfl rfl rfl rfl (show p < 800 by omega)) ?_
            refine Ex.tr (F1 := (36, 20, _, _)) (x_bipush rfl) ?_
            refine Ex.tr (F1 := (36, 23, _, _)) (x_icF rfl (tg := 49) rfl (fun z => z n8)) ?_
            refine Ex.tr (F1 := (36, 24, _, _)) (x_aload_n rfl rfl rfl) ?_
            refine Ex.tr (F1 := (36, 27, _, _)) (m_get rfl rfl (Nat.le_of_ble_eq_true rfl)) ?_
            refine Ex.tr (F1 := (36, 28, _, _)) (x_iload_n rfl rfl) ?_
            refine Ex.tr (F1 := (36, 29, _, _)) (x_iconst rfl) ?_
            refine Ex.tr (F1 := (36, 30, _, _)) (x_iadd rfl) ?_
            refine Ex.tr (F1 := (36, 31, _, _)) (m_iald (k := 5) (n := p + 1) rfl rfl rfl (nI_1 p) (show p + 1 < 800 by omega)) ?_
            refine Ex.tr (F1 := (36, 32, _, _)) (x_iload_n rfl rfl) ?_
            refine Ex.tr (F1 := (36, 35, _, _)) (x_icF rfl (tg := 49) rfl (fun z => z (nn.trans cn))) ?_
            refine Ex.tr (F1 := (36, 36, _, _)) (x_aload_n rfl rfl rfl) ?_
            refine Ex.tr (F1 := (36, 39, _, _)) (m_get rfl rfl (Nat.le_of_ble_eq_true rfl)) ?_
            refine Ex.tr (F1 := (36, 40, _, _)) (x_iload_n rfl rfl) ?_
            refine Ex.tr (F1 := (36, 41, _, _)) (x_iconst rfl) ?_
            refine Ex.tr (F1 := (36, 42, _, _)) (x_iadd rfl) ?_
            refine Ex.tr (F1 := (36, 43, _, _)) (m_iald (k := 5) (n := p + 2) rfl rfl rfl (nI_add p 2) (show p + 2 < 800 by omega)) ?_
            refine Ex.tr (F1 := (36, 44, _, _)) (x_iconst rfl) ?_
            refine Ex.tr (F1 := (36, 49, _, _)) (x_icT rfl (tg := 49) rfl (fun z => c2 (n2.mp z))) ?_
            exact Ex.rf
        · rw [if_neg (fun z => cn z.2)]
          refine Ex.tr (F1 := (36, 13, _, _)) (x_aload_n rfl rfl rfl) ?_
          refine Ex.tr (F1 := (36, 16, _, _)) (m_get rfl rfl (Nat.le_of_ble_eq_true rfl)) ?_
          refine Ex.tr (F1 := (36, 17, _, _)) (x_iload_n rfl rfl) ?_
          refine Ex.tr (F1 := (36, 18, _, _)) (m_iald (k := 5) (n := p) rfl rfl rfl rfl (show p < 800 by omega)) ?_
          refine Ex.tr (F1 := (36, 20, _, _)) (x_bipush rfl) ?_
          refine Ex.tr (F1 := (36, 23, _, _)) (x_icF rfl (tg := 49) rfl (fun z => z n8)) ?_
          refine Ex.tr (F1 := (36, 24, _, _)) (x_aload_n rfl rfl rfl) ?_
          refine Ex.tr (F1 := (36, 27, _, _)) (m_get rfl rfl (Nat.le_of_ble_eq_true rfl)) ?_
          refine Ex.tr (F1 := (36, 28, _, _)) (x_iload_n rfl rfl) ?_
          refine Ex.tr (F1 := (36, 29, _, _)) (x_iconst rfl) ?_
          refine Ex.tr (F1 := (36, 30, _, _)) (x_iadd rfl) ?_
          refine Ex.tr (F1 := (36, 31, _, _)) (m_iald (k := 5) (n := p + 1) rfl rfl rfl (nI_1 p) (show p + 1 < 800 by omega)) ?_
          refine Ex.tr (F1 := (36, 32, _, _)) (x_iload_n rfl rfl) ?_
          refine Ex.tr (F1 := (36, 49, _, _)) (x_icT rfl (tg := 49) rfl (fun z => cn (nn.symm.trans z))) ?_
          exact Ex.rf
    refine Rk.tr key ?_
    refine Rk.tr (F1 := (36, 50, _, _)) (x_iload_n rfl rfl) ?_
    refine Rk.tr (F1 := (36, 51, _, _)) (x_aload_n rfl rfl rfl) ?_
    refine Rk.tr (F1 := (36, 52, _, _)) (x_iload_n rfl rfl) ?_
    refine Rk.tr (F1 := (36, 55, _, _)) (m_call (As := [_]) rfl rfl rfl (Or.inr rfl) rfl rfl rfl (Nat.le_of_ble_eq_true rfl) (c_size (by omega)) rfl) ?_
    refine Rk.tr (F1 := (36, 56, _, _)) (x_iadd rfl) ?_
    refine Rk.tr (F1 := (36, 56, _, _)) (x_top (y := nI (p + isz it)) (by rw [hs.1]; exact nI_add p _)) ?_
    refine Rk.tr (F1 := (36, 57, [_, _, _, _], _)) (x_istore_n (i := 3) rfl (Nat.le_of_ble_eq_true rfl)) ?_
    refine Rk.tr (F1 := (36, 4, _, _)) (x_goto rfl rfl) ?_
    exact h9
theorem c_function {nm : Int32} {P : List It} (hl : S.1 4 = nI len) (h8 : len ≤ 800) (hT : TokAt (S.2 5) 0 P) (hp : tsum P = len) : Rn E (d + 1) 36 [.ref o, .int nm] (mh g o S) (some (.int (fnd nm P 0 (-1)))) (mh g o S) := by
  refine Rn.of (Nat.le_of_ble_eq_true rfl) ?_
  refine Rk.tr (F1 := (36, 1, _, _)) (x_iconst rfl) ?_
  refine Rk.tr (F1 := (36, 2, [_, _, _, _], _)) (x_istore_n (i := 2) rfl (Nat.le_of_ble_eq_true rfl)) ?_
  refine Rk.tr (F1 := (36, 3, _, _)) (x_iconst rfl) ?_
  refine Rk.tr (F1 := (36, 4, [_, _, _, _], _)) (x_istore_n (i := 3) rfl (Nat.le_of_ble_eq_true rfl)) ?_
  exact lp_function hl h8 P 0 (-1) hT (by omega)
end M6
