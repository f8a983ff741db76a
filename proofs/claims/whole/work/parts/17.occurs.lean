/-! ===== occurs, standsFor ===== -/
def iatm (it : It) (j : Nat) : Int32 × Int32 := if j = 0 then it.2.2.2.1 else it.2.2.2.2
theorem Tok1_at {R : Nat → Int32} {p j : Nat} {it : It} (h : Tok1 R p it) (hj : j < iat it) : R (p + ifo it + 2 * j) = (iatm it j).1 ∧ R (p + ifo it + 2 * j + 1) = (iatm it j).2 ∧ ifo it + 2 * j + 1 < isz it := by
  obtain ⟨k, nm, dt, ⟨a1, a2⟩, b1, b2⟩ := it
  rcases kd5 k with rfl | rfl | rfl | rfl | ⟨n2, n3, n5, n9⟩
  · exact absurd hj (Nat.not_lt_zero j)
  · obtain ⟨h0, h1, h2, h3, h4, h5, h6⟩ := h
    have hj : j < 2 := hj
    rcases (show j = 0 ∨ j = 1 by omega) with rfl | rfl
    · exact ⟨h3, h4, Nat.le_of_ble_eq_true rfl⟩
    · exact ⟨h5, h6, Nat.le_of_ble_eq_true rfl⟩
  · obtain ⟨h0, h1, h2, h3, h4, h5, h6, h7⟩ := h
    have hj : j < 2 := hj
    rcases (show j = 0 ∨ j = 1 by omega) with rfl | rfl
    · exact ⟨h4, h5, Nat.le_of_ble_eq_true rfl⟩
    · exact ⟨h6, h7, Nat.le_of_ble_eq_true rfl⟩
  · obtain ⟨h0, h1, h2⟩ := h
    have hj : j < 1 := hj
    rcases (show j = 0 by omega) with rfl
    exact ⟨h1, h2, Nat.le_of_ble_eq_true rfl⟩
  · have ht : R p = 8 ∧ R (p + 1) = nm ∧ R (p + 2) = 6 ∧ R (p + 3) = a1 ∧ R (p + 4) = a2 := by
      unfold Tok1 at h
      split at h <;> first | (rename_i z; exact absurd z (by assumption)) | exact h
    have hz : isz (k, nm, dt, (a1, a2), b1, b2) = 5 ∧ iat (k, nm, dt, (a1, a2), b1, b2) = 1 ∧ ifo (k, nm, dt, (a1, a2), b1, b2) = 3 := by
      refine ⟨?_, ?_, ?_⟩
      · unfold isz
        split <;> first | rfl | (rename_i z; exact absurd z (by assumption))
      · unfold iat
        split <;> first | rfl | (rename_i z; exact absurd z (by assumption))
      · unfold ifo
        split <;> first | rfl | (rename_i z; exact absurd z (by assumption))
    rw [hz.2.1] at hj
    rw [hz.1, hz.2.2]
    rcases (show j = 0 by omega) with rfl
    exact ⟨ht.2.2.2.1, ht.2.2.2.2, by decide⟩
def ioc (it : It) (nm : Int32) : Nat → Nat → Nat
  | _, 0 => 0
  | k, r + 1 => (if iatm it k = (1, nm) then 1 else 0) + ioc it nm (k + 1) r
def occ (nm : Int32) : List It → Nat
  | [] => 0
  | it :: Q => ioc it nm 0 (iat it) + occ nm Q
section M3
variable {E : PE} {d o len : Nat} {g : PH} {S : MSt}
theorem lp_occ_in {nm : Int32} {it : It} {p : Nat} (h1 : Tok1 (S.2 5) p it) (hp : p + isz it ≤ 800) : ∀ (r k c : Nat) (x : Option Value), k + r = iat it → Ex E (d + 1) (37, 15, [some (.ref o), some (.int nm), some (.int (nI (c))), some (.int (nI p)), some (.int (nI k)), x], []) (mh g o S) (37, 75, [some (.ref o), some (.int nm), some (.int (nI (c + ioc it nm k r))), some (.int (nI p)), none, none], []) (mh g o S) := by
  have hs := Tok1_sz h1
  have h3 := isz_ge it
  have h2 : iat it ≤ 2 := by unfold iat; split <;> decide
  intro r
  induction r with
  | zero =>
    intro k c x hk
    refine Ex.tr (F1 := (37, 17, _, _)) (x_iload rfl rfl) ?_
    refine Ex.tr (F1 := (37, 18, _, _)) (x_aload_n rfl rfl rfl) ?_
    refine Ex.tr (F1 := (37, 19, _, _)) (x_iload_n rfl rfl) ?_
    refine Ex.tr (F1 := (37, 22, _, _)) (m_call (As := [_]) rfl rfl rfl (Or.inr rfl) rfl rfl rfl (Nat.le_of_ble_eq_true rfl) (c_atoms (by omega)) rfl) ?_
    refine Ex.tr (F1 := (37, 75, _, _)) (x_icT rfl (tg := 75) rfl (by show nI (tat (S.2 5) p) ≤ nI k; rw [hs.2.1]; exact nI_le (by omega) (by omega))) ?_
    exact x_wk ⟨Or.inr rfl, Or.inr rfl, Or.inr rfl, Or.inr rfl, Or.inl rfl, Or.inl rfl, trivial⟩
  | succ r ih =>
    intro k c x hk
    obtain ⟨q1, q2, q3⟩ := Tok1_at h1 (j := k) (by omega)
    refine Ex.tr (F1 := (37, 17, _, _)) (x_iload rfl rfl) ?_
    refine Ex.tr (F1 := (37, 18, _, _)) (x_aload_n rfl rfl rfl) ?_
    refine Ex.tr (F1 := (37, 19, _, _)) (x_iload_n rfl rfl) ?_
    refine Ex.tr (F1 := (37, 22, _, _)) (m_call (As := [_]) rfl rfl rfl (Or.inr rfl) rfl rfl rfl (Nat.le_of_ble_eq_true rfl) (c_atoms (by omega)) rfl) ?_
    refine Ex.tr (F1 := (37, 25, _, _)) (x_icF rfl (tg := 75) rfl (by show ¬ nI (tat (S.2 5) p) ≤ nI k; rw [hs.2.1]; exact nI_ge (by omega) (by omega))) ?_
    refine Ex.tr (F1 := (37, 26, _, _)) (x_aload_n rfl rfl rfl) ?_
    refine Ex.tr (F1 := (37, 27, _, _)) (x_iload_n rfl rfl) ?_
    refine Ex.tr (F1 := (37, 30, _, _)) (m_call (As := [_]) rfl rfl rfl (Or.inr rfl) rfl rfl rfl (Nat.le_of_ble_eq_true rfl) (c_firstAtom (by omega)) rfl) ?_
    refine Ex.tr (F1 := (37, 31, _, _)) (x_iconst rfl) ?_
    refine Ex.tr (F1 := (37, 33, _, _)) (x_iload rfl rfl) ?_
    refine Ex.tr (F1 := (37, 34, _, _)) (x_imul rfl) ?_
    refine Ex.tr (F1 := (37, 35, _, _)) (x_iadd rfl) ?_
    refine Ex.tr (F1 := (37, 35, _, _)) (x_top (y := nI (p + ifo it + 2 * k)) (by rw [hs.2.2.1]; show nI (p + ifo it) + nI 2 * nI k = nI (p + ifo it + 2 * k); rw [pk_mul, nI_add])) ?_
    refine Ex.tr (F1 := (37, 37, [_, _, _, _, _, _], _)) (x_istore (i := 5) rfl (Nat.le_of_ble_eq_true rfl)) ?_
    have key : Ex E (d + 1) (37, 37, [some (.ref o), some (.int nm), some (.int (nI (c))), some (.int (nI p)), some (.int (nI k)), some (.int (nI (p + ifo it + 2 * k)))], []) (mh g o S) (37, 67, [some (.ref o), some (.int nm), some (.int (nI (c))), some (.int (nI p)), some (.int (nI k)), some (.int (nI (p + ifo it + 2 * k)))], [.int (nI (if iatm it k = (1, nm) then 1 else 0)), .int (nI c)]) (mh g o S) := by
      by_cases e1 : (iatm it k).1 = 1
      · by_cases e2 : (iatm it k).2 = nm
        · rw [if_pos (Prod.ext e1 e2)]
          refine Ex.tr (F1 := (37, 38, _, _)) (x_iload_n rfl rfl) ?_
          refine Ex.tr (F1 := (37, 39, _, _)) (x_aload_n rfl rfl rfl) ?_
          refine Ex.tr (F1 := (37, 42, _, _)) (m_get rfl rfl (Nat.le_of_ble_eq_true rfl)) ?_
          refine Ex.tr (F1 := (37, 44, _, _)) (x_iload rfl rfl) ?_
          refine Ex.tr (F1 := (37, 45, _, _)) (m_iald (k := 5) (n := p + ifo it + 2 * k) rfl rfl rfl rfl (show p + ifo it + 2 * k < 800 by omega)) ?_
          refine Ex.tr (F1 := (37, 46, _, _)) (x_iconst rfl) ?_
          refine Ex.tr (F1 := (37, 49, _, _)) (x_icF rfl (tg := 66) rfl (fun z => z (q1.trans e1))) ?_
          refine Ex.tr (F1 := (37, 50, _, _)) (x_aload_n rfl rfl rfl) ?_
          refine Ex.tr (F1 := (37, 53, _, _)) (m_get rfl rfl (Nat.le_of_ble_eq_true rfl)) ?_
          refine Ex.tr (F1 := (37, 55, _, _)) (x_iload rfl rfl) ?_
          refine Ex.tr (F1 := (37, 56, _, _)) (x_iconst rfl) ?_
          refine Ex.tr (F1 := (37, 57, _, _)) (x_iadd rfl) ?_
          refine Ex.tr (F1 := (37, 58, _, _)) (m_iald (k := 5) (n := p + ifo it + 2 * k + 1) rfl rfl rfl (nI_1 _) (show p + ifo it + 2 * k + 1 < 800 by omega)) ?_
          refine Ex.tr (F1 := (37, 59, _, _)) (x_iload_n rfl rfl) ?_
          refine Ex.tr (F1 := (37, 62, _, _)) (x_icF rfl (tg := 66) rfl (fun z => z (q2.trans e2))) ?_
          refine Ex.tr (F1 := (37, 63, _, _)) (x_iconst rfl) ?_
          refine Ex.tr (F1 := (37, 67, _, _)) (x_goto rfl rfl) ?_
          exact Ex.rf
        · rw [if_neg (fun z => e2 (by rw [z]))]
          refine Ex.tr (F1 := (37, 38, _, _)) (x_iload_n rfl rfl) ?_
          refine Ex.tr (F1 := (37, 39, _, _)) (x_aload_n rfl rfl rfl) ?_
          refine Ex.tr (F1 := (37, 42, _, _)) (m_get rfl rfl (Nat.le_of_ble_eq_true rfl)) ?_
          refine Ex.tr (F1 := (37, 44, _, _)) (x_iload rfl rfl) ?_
          refine Ex.tr (F1 := (37, 45, _, _)) (m_iald (k := 5) (n := p + ifo it + 2 * k) rfl rfl rfl rfl (show p + ifo it + 2 * k < 800 by omega)) ?_
          refine Ex.tr (F1 := (37, 46, _, _)) (x_iconst rfl) ?_
          refine Ex.tr (F1 := (37, 49, _, _)) (x_icF rfl (tg := 66) rfl (fun z => z (q1.trans e1))) ?_
          refine Ex.tr (F1 := (37, 50, _, _)) (x_aload_n rfl rfl rfl) ?_
          refine Ex.tr (F1 := (37, 53, _, _)) (m_get rfl rfl (Nat.le_of_ble_eq_true rfl)) ?_
          refine Ex.tr (F1 := (37, 55, _, _)) (x_iload rfl rfl) ?_
          refine Ex.tr (F1 := (37, 56, _, _)) (x_iconst rfl) ?_
          refine Ex.tr (F1 := (37, 57, _, _)) (x_iadd rfl) ?_
          refine Ex.tr (F1 := (37, 58, _, _)) (m_iald (k := 5) (n := p + ifo it + 2 * k + 1) rfl rfl rfl (nI_1 _) (show p + ifo it + 2 * k + 1 < 800 by omega)) ?_
          refine Ex.tr (F1 := (37, 59, _, _)) (x_iload_n rfl rfl) ?_
          refine Ex.tr (F1 := (37, 66, _, _)) (x_icT rfl (tg := 66) rfl (fun z => e2 (q2.symm.trans z))) ?_
          refine Ex.tr (F1 := (37, 67, _, _)) (x_iconst rfl) ?_
          exact Ex.rf
      · rw [if_neg (fun z => e1 (by rw [z]))]
        refine Ex.tr (F1 := (37, 38, _, _)) (x_iload_n rfl rfl) ?_
        refine Ex.tr (F1 := (37, 39, _, _)) (x_aload_n rfl rfl rfl) ?_
        refine Ex.tr (F1 := (37, 42, _, _)) (m_get rfl rfl (Nat.le_of_ble_eq_true rfl)) ?_
        refine Ex.tr (F1 := (37, 44, _, _)) (x_iload rfl rfl) ?_
        refine Ex.tr (F1 := (37, 45, _, _)) (m_iald (k := 5) (n := p + ifo it + 2 * k) rfl rfl rfl rfl (show p + ifo it + 2 * k < 800 by omega)) ?_
        refine Ex.tr (F1 := (37, 46, _, _)) (x_iconst rfl) ?_
        refine Ex.tr (F1 := (37, 66, _, _)) (x_icT rfl (tg := 66) rfl (fun z => e1 (q1.symm.trans z))) ?_
        refine Ex.tr (F1 := (37, 67, _, _)) (x_iconst rfl) ?_
        exact Ex.rf
    refine Ex.tr key ?_
    refine Ex.tr (F1 := (37, 68, _, _)) (x_iadd rfl) ?_
    refine Ex.tr (F1 := (37, 68, _, _)) (x_top (nI_add c _)) ?_
    refine Ex.tr (F1 := (37, 69, [_, _, _, _, _, _], _)) (x_istore_n (i := 2) rfl (Nat.le_of_ble_eq_true rfl)) ?_
    refine Ex.tr (F1 := (37, 72, [_, _, _, _, _, _], _)) (x_iinc (i := 4) rfl rfl) ?_
    refine Ex.tr (F1 := (37, 15, _, _)) (x_goto rfl rfl) ?_
    have h9 := ih (k + 1) (c + (if iatm it k = (1, nm) then 1 else 0)) (some (.int (nI (p + ifo it + 2 * k)))) (by omega)
    rw [show c + (if iatm it k = (1, nm) then 1 else 0) + ioc it nm (k + 1) r = c + ioc it nm k (r + 1) by simp only [ioc]; omega, ← nI_1 k] at h9
    exact h9
theorem lp_occ {nm : Int32} (hl : S.1 4 = nI len) (h8 : len ≤ 800) : ∀ (Q : List It) (p c : Nat) (x y : Option Value), TokAt (S.2 5) p Q → p + tsum Q = len → Rk E (d + 1) (37, 4, [some (.ref o), some (.int nm), some (.int (nI (c))), some (.int (nI p)), x, y], []) (mh g o S) (some (.int (nI (c + occ nm Q)))) (mh g o S) := by
  intro Q
  induction Q with
  | nil =>
    intro p c x y _ hp
    simp only [tsum] at hp
    refine Rk.tr (F1 := (37, 5, _, _)) (x_iload_n rfl rfl) ?_
    refine Rk.tr (F1 := (37, 6, _, _)) (x_aload_n rfl rfl rfl) ?_
    refine Rk.tr (F1 := (37, 9, _, _)) (m_get rfl rfl (Nat.le_of_ble_eq_true rfl)) ?_
    refine Rk.tr (F1 := (37, 86, _, _)) (x_icT rfl (tg := 86) rfl (by show S.1 4 ≤ nI p; rw [hl]; exact nI_le (by omega) (by omega))) ?_
    refine Rk.tr (F1 := (37, 87, _, _)) (x_iload_n rfl rfl) ?_
    exact Rk.end rfl (Or.inr (Or.inl ⟨rfl, _, .int, rfl, rfl, rfl, rfl⟩))
  | cons it Q ih =>
    intro p c x y hT hp
    obtain ⟨h1, h2⟩ := hT
    simp only [tsum] at hp
    have h3 := isz_ge it
    have hs := Tok1_sz h1
    refine Rk.tr (F1 := (37, 5, _, _)) (x_iload_n rfl rfl) ?_
    refine Rk.tr (F1 := (37, 6, _, _)) (x_aload_n rfl rfl rfl) ?_
    refine Rk.tr (F1 := (37, 9, _, _)) (m_get rfl rfl (Nat.le_of_ble_eq_true rfl)) ?_
    refine Rk.tr (F1 := (37, 12, _, _)) (x_icF rfl (tg := 86) rfl (by show ¬ S.1 4 ≤ nI p; rw [hl]; exact nI_ge (by omega) (by omega))) ?_
    refine Rk.tr (F1 := (37, 13, _, _)) (x_iconst rfl) ?_
    refine Rk.tr (F1 := (37, 15, [_, _, _, _, _, _], _)) (x_istore (i := 4) rfl (Nat.le_of_ble_eq_true rfl)) ?_
    refine Rk.tr (lp_occ_in h1 (by omega) (iat it) 0 c y (by omega)) ?_
    refine Rk.tr (F1 := (37, 76, _, _)) (x_iload_n rfl rfl) ?_
    refine Rk.tr (F1 := (37, 77, _, _)) (x_aload_n rfl rfl rfl) ?_
    refine Rk.tr (F1 := (37, 78, _, _)) (x_iload_n rfl rfl) ?_
    refine Rk.tr (F1 := (37, 81, _, _)) (m_call (As := [_]) rfl rfl rfl (Or.inr rfl) rfl rfl rfl (Nat.le_of_ble_eq_true rfl) (c_size (by omega)) rfl) ?_
    refine Rk.tr (F1 := (37, 82, _, _)) (x_iadd rfl) ?_
    refine Rk.tr (F1 := (37, 82, _, _)) (x_top (y := nI (p + isz it)) (by rw [hs.1]; exact nI_add p _)) ?_
    refine Rk.tr (F1 := (37, 83, [_, _, _, _, _, _], _)) (x_istore_n (i := 3) rfl (Nat.le_of_ble_eq_true rfl)) ?_
    refine Rk.tr (F1 := (37, 4, _, _)) (x_goto rfl rfl) ?_
    have h9 := ih (p + isz it) (c + ioc it nm 0 (iat it)) none none h2 (by omega)
    rw [show c + ioc it nm 0 (iat it) + occ nm Q = c + occ nm (it :: Q) by simp only [occ]; omega] at h9
    exact h9
theorem c_occurs {nm : Int32} {P : List It} (hl : S.1 4 = nI len) (h8 : len ≤ 800) (hT : TokAt (S.2 5) 0 P) (hp : tsum P = len) : Rn E (d + 1) 37 [.ref o, .int nm] (mh g o S) (some (.int (nI (occ nm P)))) (mh g o S) := by
  refine Rn.of (Nat.le_of_ble_eq_true rfl) ?_
  refine Rk.tr (F1 := (37, 1, _, _)) (x_iconst rfl) ?_
  refine Rk.tr (F1 := (37, 2, [_, _, _, _, _, _], _)) (x_istore_n (i := 2) rfl (Nat.le_of_ble_eq_true rfl)) ?_
  refine Rk.tr (F1 := (37, 3, _, _)) (x_iconst rfl) ?_
  refine Rk.tr (F1 := (37, 4, [_, _, _, _, _, _], _)) (x_istore_n (i := 3) rfl (Nat.le_of_ble_eq_true rfl)) ?_
  have h9 := lp_occ (E := E) (d := d) (o := o) (g := g) (nm := nm) hl h8 P 0 0 none none hT (by omega)
  rw [Nat.zero_add] at h9
  exact h9
end M3
