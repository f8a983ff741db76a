/-! ===== rowEnd, cut, insert, function ===== -/
/-- how many rows are open behind an item -/
def bal : Nat → List It → Nat
  | n, [] => n
  | n, it :: Q => bal (if it.1 = 9 then n - 1 else n + irw it) Q
/-- Q begins inside n open rows (n ≥ 1) and the last of its items is the RESULT that closes the last of them -/
def closes : Nat → List It → Prop
  | _, [] => False
  | n, it :: Q => if it.1 = 9 then (if n = 1 then Q = [] else closes (n - 1) Q) else closes (n + irw it) Q
theorem Tok1_rw {R : Nat → Int32} {p : Nat} {it : It} (h : Tok1 R p it) (h9 : it.1 ≠ 9) : (if R (p + 2) = 2 then 1 else if R (p + 2) = 6 then 2 else 0) = irw it := by
  obtain ⟨k, nm, dt, ⟨a1, a2⟩, b1, b2⟩ := it
  rcases kd5 k with rfl | rfl | rfl | rfl | ⟨n2, n3, n5, n9⟩
  · rw [h.2.2.1]; rfl
  · rw [h.2.2.1]; rfl
  · rw [h.2.2.1]; rfl
  · exact absurd rfl h9
  · have ht : R p = 8 ∧ R (p + 1) = nm ∧ R (p + 2) = 6 ∧ R (p + 3) = a1 ∧ R (p + 4) = a2 := by
      unfold Tok1 at h
      split at h <;> first | (rename_i z; exact absurd z (by assumption)) | exact h
    have hz : irw (k, nm, dt, (a1, a2), b1, b2) = 2 := by
      unfold irw
      split <;> first | rfl | (rename_i z; exact absurd z (by assumption))
    rw [ht.2.2.1, hz]
    rfl
theorem irw_le (it : It) : irw it ≤ 2 := by unfold irw; split <;> decide
section M5
variable {E : PE} {d o len : Nat} {g : PH} {S : MSt}
theorem lp_rowEnd {x1 : Int32} : ∀ (Q : List It) (p rows n : Nat), TokAt (S.2 5) p Q → p + tsum Q ≤ 800 → 1 ≤ rows → rows ≤ 2 * n + 1 → n + Q.length ≤ 800 → closes rows Q → Rk E (d + 1) (33, 7, [some (.ref o), some (.int x1), some (.int (nI (rows))), some (.int (nI (p))), some (.int (nI (n)))], []) (mh g o S) (some (.int (nI (p + tsum Q - 3)))) (mh g o S) := by
  intro Q
  induction Q with
  | nil => intro p rows n _ _ _ _ _ hc; exact hc.elim
  | cons it Q ih =>
    intro p rows n hT hp h1 hb hn hc
    obtain ⟨t1, t2⟩ := hT
    simp only [tsum] at hp
    simp only [List.length_cons] at hn
    have h3 := isz_ge it
    have hs := Tok1_sz t1
    simp only [closes] at hc
    refine Rk.tr (F1 := (33, 9, _, _)) (x_iload rfl rfl) ?_
    refine Rk.tr (F1 := (33, 12, _, _)) (x_sipush rfl) ?_
    refine Rk.tr (F1 := (33, 15, _, _)) (x_icF rfl (tg := 86) rfl (by show ¬ nI 800 ≤ nI n; exact nI_ge (by omega) (by omega))) ?_
    by_cases h9 : it.1 = 9
    · rw [if_pos h9] at hc
      have hz : isz it = 3 := by
        unfold isz
        rw [h9]
        rfl
      refine Rk.tr (F1 := (33, 16, _, _)) (x_aload_n rfl rfl rfl) ?_
      refine Rk.tr (F1 := (33, 19, _, _)) (m_get rfl rfl (Nat.le_of_ble_eq_true rfl)) ?_
      refine Rk.tr (F1 := (33, 20, _, _)) (x_iload_n rfl rfl) ?_
      refine Rk.tr (F1 := (33, 21, _, _)) (m_iald (k := 5) (n := p) rfl rfl rfl rfl (show p < 800 by omega)) ?_
      refine Rk.tr (F1 := (33, 23, _, _)) (x_bipush rfl) ?_
      refine Rk.tr (F1 := (33, 26, _, _)) (x_icF rfl (tg := 35) rfl (fun z => z (hs.2.2.2.1.mpr h9))) ?_
      refine Rk.tr (F1 := (33, 29, [_, _, _, _, _], _)) (x_iinc (i := 2) rfl rfl) ?_
      refine Rk.tr (F1 := (33, 30, _, _)) (x_iload_n rfl rfl) ?_
      by_cases e1 : rows = 1
      · rw [if_pos e1] at hc
        subst hc
        simp only [tsum]
        rw [hz, show p + (3 + 0) - 3 = p by omega]
        subst e1
        refine Rk.tr (F1 := (33, 33, _, _)) (x_ifF rfl (tg := 72) rfl (fun z => z (by decide))) ?_
        refine Rk.tr (F1 := (33, 34, _, _)) (x_iload_n rfl rfl) ?_
        exact Rk.end rfl (Or.inr (Or.inl ⟨rfl, _, .int, rfl, rfl, rfl, rfl⟩))
      · rw [if_neg e1] at hc
        obtain ⟨m, rfl⟩ : ∃ m, rows = m + 1 := ⟨rows - 1, by omega⟩
        have hm : 0 < m := by omega
        refine Rk.tr (F1 := (33, 72, _, _)) (x_ifT rfl (tg := 72) rfl (by show ¬ nI (m + 1) + Int32.ofInt (-1) = 0; rw [show nI (m + 1) + Int32.ofInt (-1) = nI m from pk_m1 m]; exact nI_ne0 hm (by omega))) ?_
        refine Rk.tr (F1 := (33, 73, _, _)) (x_iload_n rfl rfl) ?_
        refine Rk.tr (F1 := (33, 74, _, _)) (x_aload_n rfl rfl rfl) ?_
        refine Rk.tr (F1 := (33, 75, _, _)) (x_iload_n rfl rfl) ?_
        refine Rk.tr (F1 := (33, 78, _, _)) (m_call (As := [_]) rfl rfl rfl (Or.inr rfl) rfl rfl rfl (Nat.le_of_ble_eq_true rfl) (c_size (by omega)) rfl) ?_
        refine Rk.tr (F1 := (33, 79, _, _)) (x_iadd rfl) ?_
        refine Rk.tr (F1 := (33, 79, _, _)) (x_top (y := nI (p + isz it)) (by rw [hs.1]; exact nI_add p _)) ?_
        refine Rk.tr (F1 := (33, 80, [_, _, _, _, _], _)) (x_istore_n (i := 3) rfl (Nat.le_of_ble_eq_true rfl)) ?_
        refine Rk.tr (F1 := (33, 83, [_, _, _, _, _], _)) (x_iinc (i := 4) rfl rfl) ?_
        refine Rk.tr (F1 := (33, 7, _, _)) (x_goto rfl rfl) ?_
        have h9 := ih (p + isz it) m (n + 1) t2 (by omega) (by omega) (by omega) (by omega) hc
        rw [← nI_1 n, show nI m = nI (m + 1) + Int32.ofInt (-1) from (pk_m1 m).symm, show p + isz it + tsum Q - 3 = p + tsum (it :: Q) - 3 by simp only [tsum]; omega] at h9
        exact h9
    · rw [if_neg h9] at hc
      have hi := irw_le it
      have key : Ex E (d + 1) (33, 15, [some (.ref o), some (.int x1), some (.int (nI (rows))), some (.int (nI (p))), some (.int (nI (n)))], []) (mh g o S) (33, 70, [some (.ref o), some (.int x1), some (.int (nI (rows))), some (.int (nI (p))), some (.int (nI (n)))], [.int (nI (irw it)), .int (nI rows)]) (mh g o S) := by
        rw [← Tok1_rw t1 h9]
        refine Ex.tr (F1 := (33, 16, _, _)) (x_aload_n rfl rfl rfl) ?_
        refine Ex.tr (F1 := (33, 19, _, _)) (m_get rfl rfl (Nat.le_of_ble_eq_true rfl)) ?_
        refine Ex.tr (F1 := (33, 20, _, _)) (x_iload_n rfl rfl) ?_
        refine Ex.tr (F1 := (33, 21, _, _)) (m_iald (k := 5) (n := p) rfl rfl rfl rfl (show p < 800 by omega)) ?_
        refine Ex.tr (F1 := (33, 23, _, _)) (x_bipush rfl) ?_
        refine Ex.tr (F1 := (33, 35, _, _)) (x_icT rfl (tg := 35) rfl (fun z => h9 (hs.2.2.2.1.mp z))) ?_
        refine Ex.tr (F1 := (33, 36, _, _)) (x_iload_n rfl rfl) ?_
        refine Ex.tr (F1 := (33, 37, _, _)) (x_aload_n rfl rfl rfl) ?_
        refine Ex.tr (F1 := (33, 40, _, _)) (m_get rfl rfl (Nat.le_of_ble_eq_true rfl)) ?_
        refine Ex.tr (F1 := (33, 41, _, _)) (x_iload_n rfl rfl) ?_
        refine Ex.tr (F1 := (33, 42, _, _)) (x_iconst rfl) ?_
        refine Ex.tr (F1 := (33, 43, _, _)) (x_iadd rfl) ?_
        refine Ex.tr (F1 := (33, 44, _, _)) (m_iald (k := 5) (n := p + 2) rfl rfl rfl (nI_add p 2) (show p + 2 < 800 by omega)) ?_
        refine Ex.tr (F1 := (33, 45, _, _)) (x_iconst rfl) ?_
        by_cases hc45 : S.2 5 (p + 2) = 2
        · rw [if_pos hc45]
          refine Ex.tr (F1 := (33, 48, _, _)) (x_icF rfl (tg := 52) rfl (fun q => q hc45)) ?_
          refine Ex.tr (F1 := (33, 49, _, _)) (x_iconst rfl) ?_
          refine Ex.tr (F1 := (33, 70, _, _)) (x_goto rfl rfl) ?_
          exact Ex.rf
        · rw [if_neg hc45]
          refine Ex.tr (F1 := (33, 52, _, _)) (x_icT rfl (tg := 52) rfl hc45) ?_
          refine Ex.tr (F1 := (33, 53, _, _)) (x_aload_n rfl rfl rfl) ?_
          refine Ex.tr (F1 := (33, 56, _, _)) (m_get rfl rfl (Nat.le_of_ble_eq_true rfl)) ?_
          refine Ex.tr (F1 := (33, 57, _, _)) (x_iload_n rfl rfl) ?_
          refine Ex.tr (F1 := (33, 58, _, _)) (x_iconst rfl) ?_
          refine Ex.tr (F1 := (33, 59, _, _)) (x_iadd rfl) ?_
          refine Ex.tr (F1 := (33, 60, _, _)) (m_iald (k := 5) (n := p + 2) rfl rfl rfl (nI_add p 2) (show p + 2 < 800 by omega)) ?_
          refine Ex.tr (F1 := (33, 62, _, _)) (x_bipush rfl) ?_
          by_cases hc62 : S.2 5 (p + 2) = 6
          · rw [if_pos hc62]
            refine Ex.tr (F1 := (33, 65, _, _)) (x_icF rfl (tg := 69) rfl (fun q => q hc62)) ?_
            refine Ex.tr (F1 := (33, 66, _, _)) (x_iconst rfl) ?_
            refine Ex.tr (F1 := (33, 70, _, _)) (x_goto rfl rfl) ?_
            exact Ex.rf
          · rw [if_neg hc62]
            refine Ex.tr (F1 := (33, 69, _, _)) (x_icT rfl (tg := 69) rfl hc62) ?_
            refine Ex.tr (F1 := (33, 70, _, _)) (x_iconst rfl) ?_
            exact Ex.rf
      refine Rk.tr key ?_
      refine Rk.tr (F1 := (33, 71, _, _)) (x_iadd rfl) ?_
      refine Rk.tr (F1 := (33, 71, _, _)) (x_top (nI_add rows (irw it))) ?_
      refine Rk.tr (F1 := (33, 72, [_, _, _, _, _], _)) (x_istore_n (i := 2) rfl (Nat.le_of_ble_eq_true rfl)) ?_
      refine Rk.tr (F1 := (33, 73, _, _)) (x_iload_n rfl rfl) ?_
      refine Rk.tr (F1 := (33, 74, _, _)) (x_aload_n rfl rfl rfl) ?_
      refine Rk.tr (F1 := (33, 75, _, _)) (x_iload_n rfl rfl) ?_
      refine Rk.tr (F1 := (33, 78, _, _)) (m_call (As := [_]) rfl rfl rfl (Or.inr rfl) rfl rfl rfl (Nat.le_of_ble_eq_true rfl) (c_size (by omega)) rfl) ?_
      refine Rk.tr (F1 := (33, 79, _, _)) (x_iadd rfl) ?_
      refine Rk.tr (F1 := (33, 79, _, _)) (x_top (y := nI (p + isz it)) (by rw [hs.1]; exact nI_add p _)) ?_
      refine Rk.tr (F1 := (33, 80, [_, _, _, _, _], _)) (x_istore_n (i := 3) rfl (Nat.le_of_ble_eq_true rfl)) ?_
      refine Rk.tr (F1 := (33, 83, [_, _, _, _, _], _)) (x_iinc (i := 4) rfl rfl) ?_
      refine Rk.tr (F1 := (33, 7, _, _)) (x_goto rfl rfl) ?_
      have h9 := ih (p + isz it) (rows + irw it) (n + 1) t2 (by omega) (by omega) (by omega) (by omega) hc
      rw [← nI_1 n, show p + isz it + tsum Q - 3 = p + tsum (it :: Q) - 3 by simp only [tsum]; omega] at h9
      exact h9
theorem len_sum (Q : List It) : 3 * Q.length ≤ tsum Q := by
  induction Q with
  | nil => exact Nat.le_refl _
  | cons a Q ih =>
    have := isz_ge a
    simp only [List.length_cons, tsum]
    omega
theorem c_rowEnd {p : Nat} {Q : List It} (hT : TokAt (S.2 5) p Q) (hp : p + tsum Q ≤ 800) (hc : closes 1 Q) : Rn E (d + 1) 33 [.ref o, .int (nI p)] (mh g o S) (some (.int (nI (p + tsum Q - 3)))) (mh g o S) := by
  have hq := len_sum Q
  refine Rn.of (Nat.le_of_ble_eq_true rfl) ?_
  refine Rk.tr (F1 := (33, 1, _, _)) (x_iconst rfl) ?_
  refine Rk.tr (F1 := (33, 2, [_, _, _, _, _], _)) (x_istore_n (i := 2) rfl (Nat.le_of_ble_eq_true rfl)) ?_
  refine Rk.tr (F1 := (33, 3, _, _)) (x_iload_n rfl rfl) ?_
  refine Rk.tr (F1 := (33, 4, [_, _, _, _, _], _)) (x_istore_n (i := 3) rfl (Nat.le_of_ble_eq_true rfl)) ?_
  refine Rk.tr (F1 := (33, 5, _, _)) (x_iconst rfl) ?_
  refine Rk.tr (F1 := (33, 7, [_, _, _, _, _], _)) (x_istore (i := 4) rfl (Nat.le_of_ble_eq_true rfl)) ?_
  exact lp_rowEnd Q p 1 0 hT hp (by omega) (by omega) (by omega) hc
/-- the array behind 'cut' -/
def rcut (R : Nat → Int32) (f t k : Nat) : Nat → Int32 := fun n => if f ≤ n ∧ n + (t - f) < k then R (n + (t - f)) else R n
theorem lp_cut {f u : Nat} (hl : S.1 4 = nI len) (h8 : len ≤ 800) (hfu : f ≤ u) : ∀ (r k : Nat), k + r = len → u ≤ k →
    Rk E d (28, 2, [some (.ref o), some (.int (nI f)), some (.int (nI u)), some (.int (nI k))], []) (mh g o (msR S (rcut (S.2 5) f u k))) none (mh g o (msI (msR S (rcut (S.2 5) f u len)) 4 (nI (len - (u - f))))) := by
  intro r
  induction r with
  | zero =>
    intro k hk hu
    rcases (show k = len by omega) with rfl
    refine Rk.tr (F1 := (28, 3, _, _)) (x_iload_n rfl rfl) ?_
    refine Rk.tr (F1 := (28, 4, _, _)) (x_aload_n rfl rfl rfl) ?_
    refine Rk.tr (F1 := (28, 7, _, _)) (m_get rfl rfl (Nat.le_of_ble_eq_true rfl)) ?_
    refine Rk.tr (F1 := (28, 32, _, _)) (x_icT rfl (tg := 32) rfl (by show S.1 4 ≤ nI k; rw [hl]; exact nI_le (by omega) (by omega))) ?_
    refine Rk.tr (F1 := (28, 33, _, _)) (x_aload_n rfl rfl rfl) ?_
    refine Rk.tr (F1 := (28, 34, _, _)) (x_dup rfl rfl) ?_
    refine Rk.tr (F1 := (28, 37, _, _)) (m_get rfl rfl (Nat.le_of_ble_eq_true rfl)) ?_
    refine Rk.tr (F1 := (28, 38, _, _)) (x_iload_n rfl rfl) ?_
    refine Rk.tr (F1 := (28, 39, _, _)) (x_iload_n rfl rfl) ?_
    refine Rk.tr (F1 := (28, 40, _, _)) (x_isub rfl) ?_
    refine Rk.tr (F1 := (28, 41, _, _)) (x_isub rfl) ?_
    refine Rk.tr (F1 := (28, 41, _, _)) (x_top (y := nI (k - (u - f))) (by show S.1 4 - (nI u - nI f) = _; rw [hl, pk_sub (by omega), pk_sub (by omega)])) ?_
    refine Rk.tr (F1 := (28, 44, _, _)) (m_put rfl rfl rfl rfl rfl rfl) ?_
    exact Rk.end rfl (Or.inl ⟨rfl, rfl, rfl, rfl⟩)
  | succ r ih =>
    intro k hk hu
    have h9 := ih (k + 1) (by omega) (by omega)
    have hR : rup (rcut (S.2 5) f u k) (f + k - u) (rcut (S.2 5) f u k k) = rcut (S.2 5) f u (k + 1) := by
      funext n
      have ek : rcut (S.2 5) f u k k = S.2 5 k := by
        unfold rcut
        by_cases z : f ≤ k ∧ k + (u - f) < k
        · omega
        · rw [if_neg z]
      rw [ek]
      unfold rup rcut
      by_cases z : n = f + k - u
      · rw [if_pos z, if_pos (by omega), show n + (u - f) = k by omega]
      · rw [if_neg z]
        by_cases z2 : f ≤ n ∧ n + (u - f) < k
        · rw [if_pos z2, if_pos (by omega)]
        · rw [if_neg z2, if_neg (by omega)]
    rw [← hR, ← msR_A, ← nI_1 k] at h9
    refine Rk.tr (F1 := (28, 3, _, _)) (x_iload_n rfl rfl) ?_
    refine Rk.tr (F1 := (28, 4, _, _)) (x_aload_n rfl rfl rfl) ?_
    refine Rk.tr (F1 := (28, 7, _, _)) (m_get rfl rfl (Nat.le_of_ble_eq_true rfl)) ?_
    refine Rk.tr (F1 := (28, 10, _, _)) (x_icF rfl (tg := 32) rfl (by show ¬ S.1 4 ≤ nI k; rw [hl]; exact nI_ge (by omega) (by omega))) ?_
    refine Rk.tr (F1 := (28, 11, _, _)) (x_aload_n rfl rfl rfl) ?_
    refine Rk.tr (F1 := (28, 14, _, _)) (m_get rfl rfl (Nat.le_of_ble_eq_true rfl)) ?_
    refine Rk.tr (F1 := (28, 15, _, _)) (x_iload_n rfl rfl) ?_
    refine Rk.tr (F1 := (28, 16, _, _)) (x_iload_n rfl rfl) ?_
    refine Rk.tr (F1 := (28, 17, _, _)) (x_iadd rfl) ?_
    refine Rk.tr (F1 := (28, 18, _, _)) (x_iload_n rfl rfl) ?_
    refine Rk.tr (F1 := (28, 19, _, _)) (x_isub rfl) ?_
    refine Rk.tr (F1 := (28, 20, _, _)) (x_aload_n rfl rfl rfl) ?_
    refine Rk.tr (F1 := (28, 23, _, _)) (m_get rfl rfl (Nat.le_of_ble_eq_true rfl)) ?_
    refine Rk.tr (F1 := (28, 24, _, _)) (x_iload_n rfl rfl) ?_
    refine Rk.tr (F1 := (28, 25, _, _)) (m_iald (k := 5) (n := k) rfl rfl rfl rfl (show k < 800 by omega)) ?_
    refine Rk.tr (F1 := (28, 26, _, _)) (m_iast (k := 5) (n := f + k - u) rfl rfl rfl (Nat.le_of_ble_eq_true rfl) (by show nI f + nI k - nI u = _; rw [nI_add, pk_sub (by omega)]) (show f + k - u < 800 by omega)) ?_
    refine Rk.tr (F1 := (28, 29, [_, _, _, _], _)) (x_iinc (i := 3) rfl rfl) ?_
    refine Rk.tr (F1 := (28, 2, _, _)) (x_goto rfl rfl) ?_
    exact h9
theorem c_cut {f u : Nat} (hl : S.1 4 = nI len) (h8 : len ≤ 800) (hfu : f ≤ u) (hu : u ≤ len) : Rn E d 28 [.ref o, .int (nI f), .int (nI u)] (mh g o S) none (mh g o (msI (msR S (rcut (S.2 5) f u len)) 4 (nI (len - (u - f))))) := by
  have h9 := lp_cut (E := E) (d := d) (o := o) (g := g) hl h8 hfu (len - u) u (by omega) (Nat.le_refl u)
  have e : rcut (S.2 5) f u u = S.2 5 := by
    funext n
    unfold rcut
    by_cases z : f ≤ n ∧ n + (u - f) < u
    · omega
    · rw [if_neg z]
  rw [e, msR_self] at h9
  refine Rn.of (Nat.le_of_ble_eq_true rfl) ?_
  refine Rk.tr (F1 := (28, 1, _, _)) (x_iload_n rfl rfl) ?_
  refine Rk.tr (F1 := (28, 2, [_, _, _, _], _)) (x_istore_n (i := 3) rfl (Nat.le_of_ble_eq_true rfl)) ?_
  exact h9
end M5
