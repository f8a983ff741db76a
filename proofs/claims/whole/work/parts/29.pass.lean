/-! ===== a pass: steps until the end of the items; the reference's goesOver, fails, pass, simplify, count, written, ran ===== -/
def pas : Nat → List It → List It → Nat → (Nat → Int32) → List It × Nat × (Nat → Int32)
  | 0, A, B, m, c => (A ++ B, m, c)
  | _ + 1, A, [], m, c => (A, m, c)
  | k + 1, A, it :: B, m, c => match stp A it B with
    | some (w, A', B') => pas k A' B' (m + 1) (rup c w (c w + 1))
    | none => pas k (A ++ [it]) B m c
theorem pas_nil (k : Nat) (A : List It) (m : Nat) (c : Nat → Int32) : pas k A [] m c = (A, m, c) := by
  cases k with
  | zero => show (A ++ [], m, c) = _; rw [List.append_nil]
  | succ k => rfl
theorem pas_yes {k : Nat} {A B A' B' : List It} {it : It} {m w : Nat} {c : Nat → Int32} (h : stp A it B = some (w, A', B')) : pas (k + 1) A (it :: B) m c = pas k A' B' (m + 1) (rup c w (c w + 1)) := by
  show (match stp A it B with | some (w, A', B') => pas k A' B' (m + 1) (rup c w (c w + 1)) | none => pas k (A ++ [it]) B m c) = _
  rw [h]
theorem pas_no {k : Nat} {A B : List It} {it : It} {m : Nat} {c : Nat → Int32} (h : stp A it B = none) : pas (k + 1) A (it :: B) m c = pas k (A ++ [it]) B m c := by
  show (match stp A it B with | some (w, A', B') => pas k A' B' (m + 1) (rup c w (c w + 1)) | none => pas k (A ++ [it]) B m c) = _
  rw [h]
theorem app1 (A B : List It) (it : It) : (A ++ [it]) ++ B = A ++ it :: B := by simp
theorem pas_inv : ∀ (k : Nat) (A B : List It) (m : Nat) (c : Nat → Int32), Inv (A ++ B) → Inv (pas k A B m c).1
  | 0, A, B, m, c, h => h
  | k + 1, A, [], m, c, h => by rw [pas_nil]; rw [List.append_nil] at h; exact h
  | k + 1, A, it :: B, m, c, h => by
    cases hs : stp A it B with
    | none => rw [pas_no hs]; exact pas_inv k _ _ _ _ (by rw [app1]; exact h)
    | some q => obtain ⟨w, A', B'⟩ := q; rw [pas_yes hs]; exact pas_inv k _ _ _ _ (stp_inv h hs).1
theorem tsum_len (P : List It) : 3 * P.length ≤ tsum P := by
  induction P with
  | nil => exact Nat.le_refl _
  | cons a P ih => simp only [List.length_cons, tsum]; have := isz_ge a; omega
/-- steps that a pass has left, at most -/
def pfu (A B : List It) : Nat := (A.length + B.length) * 200 + B.length
theorem pfu_no (A B : List It) (it : It) : pfu (A ++ [it]) B < pfu A (it :: B) := by
  unfold pfu
  simp only [List.length_append, List.length_cons, List.length_nil]
  omega
theorem pfu_yes {A B A' B' : List It} {it : It} {w : Nat} (hI : Inv (A ++ it :: B)) (hs : stp A it B = some (w, A', B')) : pfu A' B' < pfu A (it :: B) := by
  obtain ⟨h1, h2, -⟩ := stp_inv hI hs
  have h3 := tsum_len (A' ++ B')
  have h4 := h1.2.2
  rw [List.length_append] at h3
  unfold pfu
  simp only [List.length_cons]
  omega
theorem pas_cnt : ∀ (k : Nat) (A B : List It) (m : Nat) (c : Nat → Int32), Inv (A ++ B) → (pas k A B m c).1.length + (pas k A B m c).2.1 ≤ A.length + B.length + m ∧ m ≤ (pas k A B m c).2.1
  | 0, A, B, m, c, h => ⟨by show (A ++ B).length + m ≤ _; rw [List.length_append]; exact Nat.le_refl _, Nat.le_refl _⟩
  | k + 1, A, [], m, c, h => by rw [pas_nil]; exact ⟨Nat.le_refl _, Nat.le_refl _⟩
  | k + 1, A, it :: B, m, c, h => by
    cases hs : stp A it B with
    | none =>
      rw [pas_no hs]
      have := pas_cnt k (A ++ [it]) B m c (by rw [app1]; exact h)
      simp only [List.length_append, List.length_cons, List.length_nil] at this ⊢
      omega
    | some q =>
      obtain ⟨w, A', B'⟩ := q
      rw [pas_yes hs]
      obtain ⟨h1, h2, -⟩ := stp_inv h hs
      have := pas_cnt k A' B' (m + 1) (rup c w (c w + 1)) h1
      simp only [List.length_cons]
      omega
section M12
variable {E : PE} {d o : Nat} {g : PH} {S : MSt}
theorem lp_go : ∀ (k : Nat) (A B : List It) (m : Nat) (R W c : Nat → Int32) (n : Int32) (x : Option Value), pfu A B ≤ k → Inv (A ++ B) → PM R n (A ++ B) →
    ∃ R' W' : Nat → Int32, Rk E (d + 4) (24, 4, [some (.ref o), some (.int (nI m)), some (.int (nI (tsum A))), x], []) (mh g o (mst S R W c n)) (some (.int (nI (pas k A B m c).2.1))) (mh g o (mst S R' W' (pas k A B m c).2.2 (nI (tsum (pas k A B m c).1)))) ∧ TokAt R' 0 (pas k A B m c).1 := by
  intro k
  induction k with
  | zero =>
    intro A B m R W c n x hk hI hM
    have hB : B = [] := by
      unfold pfu at hk
      cases B with
      | nil => rfl
      | cons a B => simp only [List.length_cons] at hk; omega
    subst hB
    rw [pas_nil]
    rw [List.append_nil] at hM
    obtain ⟨t1, rfl, -⟩ := hM
    refine ⟨R, W, ?_, t1⟩
    refine Rk.tr (F1 := (24, 5, _, _)) (x_iload_n rfl rfl) ?_
    refine Rk.tr (F1 := (24, 6, _, _)) (x_aload_n rfl rfl rfl) ?_
    refine Rk.tr (F1 := (24, 9, _, _)) (m_get rfl rfl (Nat.le_of_ble_eq_true rfl)) ?_
    refine Rk.tr (F1 := (24, 64, _, _)) (x_icT rfl (tg := 64) rfl (show nI (tsum A) ≤ nI (tsum A) by exact Int32.le_refl _)) ?_
    refine Rk.tr (F1 := (24, 65, _, _)) (x_iload_n rfl rfl) ?_
    exact Rk.end rfl (Or.inr (Or.inl ⟨rfl, _, .int, rfl, rfl, rfl, rfl⟩))
  | succ k ih =>
    intro A B m R W c n x hk hI hM
    cases B with
    | nil =>
      rw [pas_nil]
      rw [List.append_nil] at hM
      obtain ⟨t1, rfl, -⟩ := hM
      refine ⟨R, W, ?_, t1⟩
      refine Rk.tr (F1 := (24, 5, _, _)) (x_iload_n rfl rfl) ?_
      refine Rk.tr (F1 := (24, 6, _, _)) (x_aload_n rfl rfl rfl) ?_
      refine Rk.tr (F1 := (24, 9, _, _)) (m_get rfl rfl (Nat.le_of_ble_eq_true rfl)) ?_
      refine Rk.tr (F1 := (24, 64, _, _)) (x_icT rfl (tg := 64) rfl (show nI (tsum A) ≤ nI (tsum A) by exact Int32.le_refl _)) ?_
      refine Rk.tr (F1 := (24, 65, _, _)) (x_iload_n rfl rfl) ?_
      exact Rk.end rfl (Or.inr (Or.inl ⟨rfl, _, .int, rfl, rfl, rfl, rfl⟩))
    | cons it B =>
      obtain ⟨t1, h8, hn⟩ := PM.it (P := []) hM
      have hz := isz_ge it
      have hts := Tok1_sz t1
      cases hs : stp A it B with
      | none =>
        rw [pas_no hs]
        have hfu := pfu_no A B it
        obtain ⟨R', W', r1, r2⟩ := ih (A ++ [it]) B m R W c n none (by omega) (by rw [app1]; exact hI) (by rw [app1]; exact hM)
        refine ⟨R', W', ?_, r2⟩
        rw [tsum_app, show tsum [it] = isz it by simp only [tsum]; omega] at r1
        have key : Ex E (d + 4) (24, 12, [some (.ref o), some (.int (nI m)), some (.int (nI (tsum A))), x], []) (mh g o (mst S R W c n)) (24, 32, [some (.ref o), some (.int (nI m)), some (.int (nI (tsum A))), x], [.int (-1)]) (mh g o (mst S R W c n)) := by
          by_cases h9 : it.1 = 9
          · have hr : ¬ R (tsum A) = 8 := fun z => (hts.2.2.2.2.1.mp z) h9
            generalize tsum A = p at h8 hr ⊢
            refine Ex.tr (F1 := (24, 13, _, _)) (x_aload_n rfl rfl rfl) ?_
            refine Ex.tr (F1 := (24, 16, _, _)) (m_get rfl rfl (Nat.le_of_ble_eq_true rfl)) ?_
            refine Ex.tr (F1 := (24, 17, _, _)) (x_iload_n rfl rfl) ?_
            refine Ex.tr (F1 := (24, 18, _, _)) (m_iald (k := 5) (n := p) rfl rfl rfl rfl (show p < 800 by omega)) ?_
            refine Ex.tr (F1 := (24, 20, _, _)) (x_bipush rfl) ?_
            refine Ex.tr (F1 := (24, 31, _, _)) (x_icT rfl (tg := 31) rfl hr) ?_
            refine Ex.tr (F1 := (24, 32, _, _)) (x_iconst rfl) ?_
            exact Ex.rf
          · have hr : R (tsum A) = 8 := hts.2.2.2.2.1.mpr h9
            have call := c_step_no (E := E) (d := d) (o := o) (g := g) (S := S) (W := W) (c := c) h9 hI hM hs
            generalize tsum A = p at h8 hr call ⊢
            refine Ex.tr (F1 := (24, 13, _, _)) (x_aload_n rfl rfl rfl) ?_
            refine Ex.tr (F1 := (24, 16, _, _)) (m_get rfl rfl (Nat.le_of_ble_eq_true rfl)) ?_
            refine Ex.tr (F1 := (24, 17, _, _)) (x_iload_n rfl rfl) ?_
            refine Ex.tr (F1 := (24, 18, _, _)) (m_iald (k := 5) (n := p) rfl rfl rfl rfl (show p < 800 by omega)) ?_
            refine Ex.tr (F1 := (24, 20, _, _)) (x_bipush rfl) ?_
            refine Ex.tr (F1 := (24, 23, _, _)) (x_icF rfl (tg := 31) rfl (fun q => q hr)) ?_
            refine Ex.tr (F1 := (24, 24, _, _)) (x_aload_n rfl rfl rfl) ?_
            refine Ex.tr (F1 := (24, 25, _, _)) (x_iload_n rfl rfl) ?_
            refine Ex.tr (F1 := (24, 28, _, _)) (m_call (As := [_]) rfl rfl rfl (Or.inr rfl) rfl rfl rfl (Nat.le_of_ble_eq_true rfl) call rfl) ?_
            refine Ex.tr (F1 := (24, 32, _, _)) (x_goto rfl rfl) ?_
            exact Ex.rf
        have hsz : tsz R (tsum A) = isz it := hts.1
        have hlt : ¬ n ≤ nI (tsum A) := by rw [hn]; exact nI_ge (by omega) (by omega)
        generalize tsum A = p at h8 hlt hsz key r1 ⊢
        refine Rk.tr (F1 := (24, 5, _, _)) (x_iload_n rfl rfl) ?_
        refine Rk.tr (F1 := (24, 6, _, _)) (x_aload_n rfl rfl rfl) ?_
        refine Rk.tr (F1 := (24, 9, _, _)) (m_get rfl rfl (Nat.le_of_ble_eq_true rfl)) ?_
        refine Rk.tr (F1 := (24, 12, _, _)) (x_icF rfl (tg := 64) rfl hlt) ?_
        refine Rk.tr key ?_
        refine Rk.tr (F1 := (24, 33, [_, _, _, _], _)) (x_istore_n (i := 3) rfl (Nat.le_of_ble_eq_true rfl)) ?_
        refine Rk.tr (F1 := (24, 34, _, _)) (x_iload_n rfl rfl) ?_
        refine Rk.tr (F1 := (24, 35, _, _)) (x_iload_n rfl rfl) ?_
        refine Rk.tr (F1 := (24, 38, _, _)) (x_ifF rfl (tg := 42) rfl (by unfold pcc; decide)) ?_
        refine Rk.tr (F1 := (24, 39, _, _)) (x_iconst rfl) ?_
        refine Rk.tr (F1 := (24, 43, _, _)) (x_goto rfl rfl) ?_
        refine Rk.tr (F1 := (24, 44, _, _)) (x_iadd rfl) ?_
        refine Rk.tr (F1 := (24, 44, _, _)) (x_top (nI_add m 0)) ?_
        refine Rk.tr (F1 := (24, 45, [_, _, _, _], _)) (x_istore_n (i := 1) rfl (Nat.le_of_ble_eq_true rfl)) ?_
        refine Rk.tr (F1 := (24, 46, _, _)) (x_iload_n rfl rfl) ?_
        refine Rk.tr (F1 := (24, 49, _, _)) (x_ifF rfl (tg := 59) rfl (by unfold pcc; decide)) ?_
        refine Rk.tr (F1 := (24, 50, _, _)) (x_iload_n rfl rfl) ?_
        refine Rk.tr (F1 := (24, 51, _, _)) (x_aload_n rfl rfl rfl) ?_
        refine Rk.tr (F1 := (24, 52, _, _)) (x_iload_n rfl rfl) ?_
        refine Rk.tr (F1 := (24, 55, _, _)) (m_call (As := [_]) rfl rfl rfl (Or.inr rfl) rfl rfl rfl (Nat.le_of_ble_eq_true rfl) (c_size (by omega)) rfl) ?_
        refine Rk.tr (F1 := (24, 56, _, _)) (x_iadd rfl) ?_
        refine Rk.tr (F1 := (24, 60, _, _)) (x_goto rfl rfl) ?_
        refine Rk.tr (F1 := (24, 60, _, _)) (x_top (y := nI (p + isz it)) (by rw [show tsz ((mst S R W c n).2 5) p = isz it from hsz]; exact nI_add p _)) ?_
        refine Rk.tr (F1 := (24, 61, [_, _, _, _], _)) (x_istore_n (i := 2) rfl (Nat.le_of_ble_eq_true rfl)) ?_
        refine Rk.tr (F1 := (24, 4, _, _)) (x_goto rfl rfl) ?_
        refine Rk.tr (F1 := (24, 4, [_, _, _, none], _)) (x_wk ⟨Or.inr rfl, Or.inr rfl, Or.inr rfl, Or.inl rfl, trivial⟩) ?_
        exact r1
      | some q =>
        obtain ⟨w, A', B'⟩ := q
        rw [pas_yes hs]
        have hfu := pfu_yes hI hs
        have hI' := (stp_inv hI hs).1
        obtain ⟨R1, W1, call, t2⟩ := c_step_yes (E := E) (d := d) (o := o) (g := g) (S := S) (W := W) (c := c) hI hM hs
        obtain ⟨R', W', r1, r2⟩ := ih A' B' (m + 1) R1 W1 (rup c w (c w + 1)) _ none (by omega) hI' ⟨t2, rfl, by have := hI'.2.2; omega⟩
        refine ⟨R', W', ?_, r2⟩
        have h9 : it.1 ≠ 9 := fun z => by
          unfold stp at hs
          rw [if_pos z] at hs
          cases hs
        have hr : R (tsum A) = 8 := hts.2.2.2.2.1.mpr h9
        have hlt : ¬ n ≤ nI (tsum A) := by rw [hn]; exact nI_ge (by omega) (by omega)
        have hge : (0 : Int32) ≤ nI (tsum A') := nI_le (a := 0) (by omega) (by have := hI'.2.2; rw [tsum_app] at this; omega)
        generalize tsum A = p at h8 hlt hr call ⊢
        generalize tsum A' = p' at hge call r1
        refine Rk.tr (F1 := (24, 5, _, _)) (x_iload_n rfl rfl) ?_
        refine Rk.tr (F1 := (24, 6, _, _)) (x_aload_n rfl rfl rfl) ?_
        refine Rk.tr (F1 := (24, 9, _, _)) (m_get rfl rfl (Nat.le_of_ble_eq_true rfl)) ?_
        refine Rk.tr (F1 := (24, 12, _, _)) (x_icF rfl (tg := 64) rfl hlt) ?_
        refine Rk.tr (F1 := (24, 13, _, _)) (x_aload_n rfl rfl rfl) ?_
        refine Rk.tr (F1 := (24, 16, _, _)) (m_get rfl rfl (Nat.le_of_ble_eq_true rfl)) ?_
        refine Rk.tr (F1 := (24, 17, _, _)) (x_iload_n rfl rfl) ?_
        refine Rk.tr (F1 := (24, 18, _, _)) (m_iald (k := 5) (n := p) rfl rfl rfl rfl (show p < 800 by omega)) ?_
        refine Rk.tr (F1 := (24, 20, _, _)) (x_bipush rfl) ?_
        refine Rk.tr (F1 := (24, 23, _, _)) (x_icF rfl (tg := 31) rfl (fun q => q hr)) ?_
        refine Rk.tr (F1 := (24, 24, _, _)) (x_aload_n rfl rfl rfl) ?_
        refine Rk.tr (F1 := (24, 25, _, _)) (x_iload_n rfl rfl) ?_
        refine Rk.tr (F1 := (24, 28, _, _)) (m_call (As := [_]) rfl rfl rfl (Or.inr rfl) rfl rfl rfl (Nat.le_of_ble_eq_true rfl) call rfl) ?_
        refine Rk.tr (F1 := (24, 32, _, _)) (x_goto rfl rfl) ?_
        refine Rk.tr (F1 := (24, 33, [_, _, _, _], _)) (x_istore_n (i := 3) rfl (Nat.le_of_ble_eq_true rfl)) ?_
        refine Rk.tr (F1 := (24, 34, _, _)) (x_iload_n rfl rfl) ?_
        refine Rk.tr (F1 := (24, 35, _, _)) (x_iload_n rfl rfl) ?_
        refine Rk.tr (F1 := (24, 42, _, _)) (x_ifT rfl (tg := 42) rfl hge) ?_
        refine Rk.tr (F1 := (24, 43, _, _)) (x_iconst rfl) ?_
        refine Rk.tr (F1 := (24, 44, _, _)) (x_iadd rfl) ?_
        refine Rk.tr (F1 := (24, 44, _, _)) (x_top (nI_1 m)) ?_
        refine Rk.tr (F1 := (24, 45, [_, _, _, _], _)) (x_istore_n (i := 1) rfl (Nat.le_of_ble_eq_true rfl)) ?_
        refine Rk.tr (F1 := (24, 46, _, _)) (x_iload_n rfl rfl) ?_
        refine Rk.tr (F1 := (24, 59, _, _)) (x_ifT rfl (tg := 59) rfl hge) ?_
        refine Rk.tr (F1 := (24, 60, _, _)) (x_iload_n rfl rfl) ?_
        refine Rk.tr (F1 := (24, 61, [_, _, _, _], _)) (x_istore_n (i := 2) rfl (Nat.le_of_ble_eq_true rfl)) ?_
        refine Rk.tr (F1 := (24, 4, _, _)) (x_goto rfl rfl) ?_
        refine Rk.tr (F1 := (24, 4, [_, _, _, none], _)) (x_wk ⟨Or.inr rfl, Or.inr rfl, Or.inr rfl, Or.inl rfl, trivial⟩) ?_
        exact r1
/-- what a pass makes of a program -/
def paP (P : List It) (c : Nat → Int32) : List It × Nat × (Nat → Int32) := pas (pfu [] P) [] P 0 c
theorem paP_inv {P : List It} (c : Nat → Int32) (h : Inv P) : Inv (paP P c).1 := pas_inv _ [] P 0 c h
theorem c_goesOver {P : List It} {R W c : Nat → Int32} {n : Int32} (hI : Inv P) (hM : PM R n P) : ∃ R' W' : Nat → Int32, Rn E (d + 4) 24 [.ref o] (mh g o (mst S R W c n)) (some (.int (nI (paP P c).2.1))) (mh g o (mst S R' W' (paP P c).2.2 (nI (tsum (paP P c).1)))) ∧ TokAt R' 0 (paP P c).1 := by
  obtain ⟨R', W', r1, r2⟩ := lp_go (E := E) (d := d) (o := o) (g := g) (S := S) (pfu [] P) [] P 0 R W c n none (Nat.le_refl _) hI hM
  refine ⟨R', W', Rn.of (Nat.le_of_ble_eq_true rfl) ?_, r2⟩
  refine Rk.tr (F1 := (24, 1, _, _)) (x_iconst rfl) ?_
  refine Rk.tr (F1 := (24, 2, [_, _, _, _], _)) (x_istore_n (i := 1) rfl (Nat.le_of_ble_eq_true rfl)) ?_
  refine Rk.tr (F1 := (24, 3, _, _)) (x_iconst rfl) ?_
  refine Rk.tr (F1 := (24, 4, [_, _, _, _], _)) (x_istore_n (i := 2) rfl (Nat.le_of_ble_eq_true rfl)) ?_
  exact r1
theorem c_fails1 {b : Int32} : Rn E d 20 [.ref o, .int 1, .int b] (mh g o S) (some (.int 1)) (mh g o (msI S 0 1)) := by
  refine Rn.of (Nat.le_of_ble_eq_true rfl) ?_
  refine Rk.tr (F1 := (20, 1, _, _)) (x_aload_n rfl rfl rfl) ?_
  refine Rk.tr (F1 := (20, 2, _, _)) (x_iload_n rfl rfl) ?_
  refine Rk.tr (F1 := (20, 5, _, _)) (x_ifF rfl (tg := 9) rfl (by unfold pcc; decide)) ?_
  refine Rk.tr (F1 := (20, 6, _, _)) (x_iconst rfl) ?_
  refine Rk.tr (F1 := (20, 18, _, _)) (x_goto rfl rfl) ?_
  refine Rk.tr (F1 := (20, 21, _, _)) (m_put rfl rfl rfl rfl rfl rfl) ?_
  refine Rk.tr (F1 := (20, 22, _, _)) (x_aload_n rfl rfl rfl) ?_
  refine Rk.tr (F1 := (20, 25, _, _)) (m_get rfl rfl (Nat.le_of_ble_eq_true rfl)) ?_
  refine Rk.tr (F1 := (20, 28, _, _)) (x_ifF rfl (tg := 32) rfl (show ¬ (1 : Int32) ≤ 0 by decide)) ?_
  refine Rk.tr (F1 := (20, 29, _, _)) (x_iconst rfl) ?_
  refine Rk.tr (F1 := (20, 33, _, _)) (x_goto rfl rfl) ?_
  exact Rk.end rfl (Or.inr (Or.inl ⟨rfl, _, .boolean, rfl, rfl, rfl, rfl⟩))
theorem c_fails2 : Rn E d 20 [.ref o, .int 0, .int 1] (mh g o S) (some (.int 1)) (mh g o (msI S 0 2)) := by
  refine Rn.of (Nat.le_of_ble_eq_true rfl) ?_
  refine Rk.tr (F1 := (20, 1, _, _)) (x_aload_n rfl rfl rfl) ?_
  refine Rk.tr (F1 := (20, 2, _, _)) (x_iload_n rfl rfl) ?_
  refine Rk.tr (F1 := (20, 9, _, _)) (x_ifT rfl (tg := 9) rfl rfl) ?_
  refine Rk.tr (F1 := (20, 10, _, _)) (x_iload_n rfl rfl) ?_
  refine Rk.tr (F1 := (20, 13, _, _)) (x_ifF rfl (tg := 17) rfl (by unfold pcc; decide)) ?_
  refine Rk.tr (F1 := (20, 14, _, _)) (x_iconst rfl) ?_
  refine Rk.tr (F1 := (20, 18, _, _)) (x_goto rfl rfl) ?_
  refine Rk.tr (F1 := (20, 21, _, _)) (m_put rfl rfl rfl rfl rfl rfl) ?_
  refine Rk.tr (F1 := (20, 22, _, _)) (x_aload_n rfl rfl rfl) ?_
  refine Rk.tr (F1 := (20, 25, _, _)) (m_get rfl rfl (Nat.le_of_ble_eq_true rfl)) ?_
  refine Rk.tr (F1 := (20, 28, _, _)) (x_ifF rfl (tg := 32) rfl (show ¬ (2 : Int32) ≤ 0 by decide)) ?_
  refine Rk.tr (F1 := (20, 29, _, _)) (x_iconst rfl) ?_
  refine Rk.tr (F1 := (20, 33, _, _)) (x_goto rfl rfl) ?_
  exact Rk.end rfl (Or.inr (Or.inl ⟨rfl, _, .boolean, rfl, rfl, rfl, rfl⟩))
theorem c_fails0 : Rn E d 20 [.ref o, .int 0, .int 0] (mh g o S) (some (.int 0)) (mh g o (msI S 0 0)) := by
  refine Rn.of (Nat.le_of_ble_eq_true rfl) ?_
  refine Rk.tr (F1 := (20, 1, _, _)) (x_aload_n rfl rfl rfl) ?_
  refine Rk.tr (F1 := (20, 2, _, _)) (x_iload_n rfl rfl) ?_
  refine Rk.tr (F1 := (20, 9, _, _)) (x_ifT rfl (tg := 9) rfl rfl) ?_
  refine Rk.tr (F1 := (20, 10, _, _)) (x_iload_n rfl rfl) ?_
  refine Rk.tr (F1 := (20, 17, _, _)) (x_ifT rfl (tg := 17) rfl rfl) ?_
  refine Rk.tr (F1 := (20, 18, _, _)) (x_iconst rfl) ?_
  refine Rk.tr (F1 := (20, 21, _, _)) (m_put rfl rfl rfl rfl rfl rfl) ?_
  refine Rk.tr (F1 := (20, 22, _, _)) (x_aload_n rfl rfl rfl) ?_
  refine Rk.tr (F1 := (20, 25, _, _)) (m_get rfl rfl (Nat.le_of_ble_eq_true rfl)) ?_
  refine Rk.tr (F1 := (20, 32, _, _)) (x_ifT rfl (tg := 32) rfl (show (0 : Int32) ≤ 0 by decide)) ?_
  refine Rk.tr (F1 := (20, 33, _, _)) (x_iconst rfl) ?_
  exact Rk.end rfl (Or.inr (Or.inl ⟨rfl, _, .boolean, rfl, rfl, rfl, rfl⟩))
theorem c_pass0 (h : S.1 3 = 0) : Rn E (d + 1) 23 [.ref o] (mh g o S) (some (.int 0)) (mh g o (msI S 0 1)) := by
  refine Rn.of (Nat.le_of_ble_eq_true rfl) ?_
  refine Rk.tr (F1 := (23, 1, _, _)) (x_aload_n rfl rfl rfl) ?_
  refine Rk.tr (F1 := (23, 2, _, _)) (x_aload_n rfl rfl rfl) ?_
  refine Rk.tr (F1 := (23, 5, _, _)) (m_get rfl rfl (Nat.le_of_ble_eq_true rfl)) ?_
  refine Rk.tr (F1 := (23, 8, _, _)) (x_ifF rfl (tg := 12) rfl (fun q => q h)) ?_
  refine Rk.tr (F1 := (23, 9, _, _)) (x_iconst rfl) ?_
  refine Rk.tr (F1 := (23, 13, _, _)) (x_goto rfl rfl) ?_
  refine Rk.tr (F1 := (23, 14, _, _)) (x_iconst rfl) ?_
  refine Rk.tr (F1 := (23, 17, _, _)) (m_call (As := [_, _]) rfl rfl rfl (Or.inr rfl) rfl rfl rfl (Nat.le_of_ble_eq_true rfl) c_fails1 rfl) ?_
  refine Rk.tr (F1 := (23, 20, _, _)) (x_ifF rfl (tg := 24) rfl (by unfold pcc; decide)) ?_
  refine Rk.tr (F1 := (23, 21, _, _)) (x_iconst rfl) ?_
  refine Rk.tr (F1 := (23, 28, _, _)) (x_goto rfl rfl) ?_
  exact Rk.end rfl (Or.inr (Or.inl ⟨rfl, _, .int, rfl, rfl, rfl, rfl⟩))
theorem mst_of {S : MSt} {R W c : Nat → Int32} {n : Int32} : mst S R W c n = mst (mst S R W c n) R W c n := by
  refine Prod.ext (funext fun k => ?_) (funext fun k => ?_)
  · show (if k = 4 then n else S.1 k) = (if k = 4 then n else if k = 4 then n else S.1 k)
    split <;> rfl
  · show (if k = 5 then R else if k = 6 then W else if k = 7 then c else S.2 k) = (if k = 5 then R else if k = 6 then W else if k = 7 then c else if k = 5 then R else if k = 6 then W else if k = 7 then c else S.2 k)
    split
    · rfl
    · split
      · rfl
      · split <;> rfl
theorem mst_I0 {S : MSt} {R W c : Nat → Int32} {n x : Int32} : msI (mst S R W c n) 0 x = mst (msI S 0 x) R W c n := by
  refine Prod.ext (funext fun k => ?_) rfl
  show (if k = 0 then x else if k = 4 then n else S.1 k) = (if k = 4 then n else if k = 0 then x else S.1 k)
  by_cases h0 : k = 0
  · subst h0; rfl
  · rw [if_neg h0, if_neg h0]
theorem c_pass {P : List It} {R W c : Nat → Int32} {n : Int32} (hz : (mst S R W c n).1 3 ≠ 0) (hI : Inv P) (hM : PM R n P) : ∃ R' W' : Nat → Int32, Rn E (d + 5) 23 [.ref o] (mh g o (mst S R W c n)) (some (.int (nI (paP P c).2.1))) (mh g o (mst (msI S 0 0) R' W' (paP P c).2.2 (nI (tsum (paP P c).1)))) ∧ TokAt R' 0 (paP P c).1 := by
  obtain ⟨R', W', r1, r2⟩ := c_goesOver (E := E) (d := d) (o := o) (g := g) (S := msI S 0 0) (W := W) (c := c) hI hM
  refine ⟨R', W', Rn.of (Nat.le_of_ble_eq_true rfl) ?_, r2⟩
  refine Rk.tr (F1 := (23, 1, _, _)) (x_aload_n rfl rfl rfl) ?_
  refine Rk.tr (F1 := (23, 2, _, _)) (x_aload_n rfl rfl rfl) ?_
  refine Rk.tr (F1 := (23, 5, _, _)) (m_get rfl rfl (Nat.le_of_ble_eq_true rfl)) ?_
  refine Rk.tr (F1 := (23, 12, _, _)) (x_ifT rfl (tg := 12) rfl hz) ?_
  refine Rk.tr (F1 := (23, 13, _, _)) (x_iconst rfl) ?_
  refine Rk.tr (F1 := (23, 14, _, _)) (x_iconst rfl) ?_
  refine Rk.tr (F1 := (23, 17, _, _)) (m_call (As := [_, _]) rfl rfl rfl (Or.inr rfl) rfl rfl rfl (Nat.le_of_ble_eq_true rfl) (c_fails0 (d := d + 4)) rfl) ?_
  refine Rk.tr (F1 := (23, 24, _, _)) (x_ifT rfl (tg := 24) rfl rfl) ?_
  refine Rk.tr (F1 := (23, 25, _, _)) (x_aload_n rfl rfl rfl) ?_
  refine Rk.tr (F1 := (23, 28, _, _)) (m_call (As := []) rfl rfl rfl (Or.inr rfl) rfl rfl rfl (Nat.le_of_ble_eq_true rfl) (by rw [mst_I0]; exact r1) rfl) ?_
  exact Rk.end rfl (Or.inr (Or.inl ⟨rfl, _, .int, rfl, rfl, rfl, rfl⟩))
/-- passes until one has nothing to do: the program, how many, the counts -/
def sim : Nat → List It → Nat → (Nat → Int32) → List It × Nat × (Nat → Int32)
  | 0, P, n, c => (P, n, c)
  | k + 1, P, n, c => if (paP P c).2.1 = 0 then ((paP P c).1, n, (paP P c).2.2) else sim k (paP P c).1 (n + 1) (paP P c).2.2
theorem sim_inv : ∀ (k : Nat) (P : List It) (n : Nat) (c : Nat → Int32), Inv P → Inv (sim k P n c).1
  | 0, P, n, c, h => h
  | k + 1, P, n, c, h => by
    unfold sim
    split
    · exact paP_inv c h
    · exact sim_inv k _ _ _ (paP_inv c h)
theorem paP_cnt {P : List It} (c : Nat → Int32) (h : Inv P) : (paP P c).1.length + (paP P c).2.1 ≤ P.length := by
  have := (pas_cnt (pfu [] P) [] P 0 c h).1
  simp only [List.length_nil] at this
  unfold paP
  omega
theorem Inv_len {P : List It} (h : Inv P) : P.length ≤ 133 := by
  have h1 := tsum_len P
  have := h.2.2
  omega
theorem lp_sim : ∀ (k : Nat) (P : List It) (m : Nat) (R W c : Nat → Int32) (n : Int32), P.length < k → Inv P → PM R n P →
    ∃ R' W' : Nat → Int32, Rk E (d + 5) (39, 24, [some (.ref o), some (.int (nI m))], []) (mh g o (mst S R W c n)) (some (.int (nI (sim k P m c).2.1))) (mh g o (mst S R' W' (sim k P m c).2.2 (nI (tsum (sim k P m c).1)))) ∧ TokAt R' 0 (sim k P m c).1 := by
  intro k
  induction k with
  | zero => intro P m R W c n hk; omega
  | succ k ih =>
    intro P m R W c n hk hI hM
    obtain ⟨R1, W1, r1, r2⟩ := c_goesOver (E := E) (d := d) (o := o) (g := g) (S := S) (W := W) (c := c) hI hM
    have hI1 := paP_inv c hI
    have hcn := paP_cnt c hI
    have hle := Inv_len hI
    unfold sim
    by_cases h0 : (paP P c).2.1 = 0
    · rw [if_pos h0]
      refine ⟨R1, W1, ?_, r2⟩
      refine Rk.tr (F1 := (39, 25, _, _)) (x_aload_n rfl rfl rfl) ?_
      refine Rk.tr (F1 := (39, 28, _, _)) (m_call (As := []) rfl rfl rfl (Or.inr rfl) rfl rfl rfl (Nat.le_of_ble_eq_true rfl) r1 rfl) ?_
      refine Rk.tr (F1 := (39, 37, _, _)) (x_ifT rfl (tg := 37) rfl (by rw [h0]; unfold pcc; decide)) ?_
      refine Rk.tr (F1 := (39, 38, _, _)) (x_iload_n rfl rfl) ?_
      exact Rk.end rfl (Or.inr (Or.inl ⟨rfl, _, .int, rfl, rfl, rfl, rfl⟩))
    · rw [if_neg h0]
      obtain ⟨R2, W2, r3, r4⟩ := ih (paP P c).1 (m + 1) R1 W1 (paP P c).2.2 _ (by omega) hI1 ⟨r2, rfl, by have := hI1.2.2; omega⟩
      refine ⟨R2, W2, ?_, r4⟩
      refine Rk.tr (F1 := (39, 25, _, _)) (x_aload_n rfl rfl rfl) ?_
      refine Rk.tr (F1 := (39, 28, _, _)) (m_call (As := []) rfl rfl rfl (Or.inr rfl) rfl rfl rfl (Nat.le_of_ble_eq_true rfl) r1 rfl) ?_
      refine Rk.tr (F1 := (39, 31, _, _)) (x_ifF rfl (tg := 37) rfl (nI_ge (a := 0) (by omega) (by omega))) ?_
      refine Rk.tr (F1 := (39, 34, [_, _], _)) (x_iinc (i := 1) rfl rfl) ?_
      refine Rk.tr (F1 := (39, 24, [_, _], _)) (x_goto rfl rfl) ?_
      rw [show nI m + Int32.ofInt 1 = nI (m + 1) from nI_1 m]
      exact r3
theorem c_simp0 (h : S.1 3 = 0) : Rn E (d + 1) 39 [.ref o] (mh g o S) (some (.int 0)) (mh g o (msI S 0 1)) := by
  refine Rn.of (Nat.le_of_ble_eq_true rfl) ?_
  refine Rk.tr (F1 := (39, 1, _, _)) (x_aload_n rfl rfl rfl) ?_
  refine Rk.tr (F1 := (39, 2, _, _)) (x_aload_n rfl rfl rfl) ?_
  refine Rk.tr (F1 := (39, 5, _, _)) (m_get rfl rfl (Nat.le_of_ble_eq_true rfl)) ?_
  refine Rk.tr (F1 := (39, 8, _, _)) (x_ifF rfl (tg := 12) rfl (fun q => q h)) ?_
  refine Rk.tr (F1 := (39, 9, _, _)) (x_iconst rfl) ?_
  refine Rk.tr (F1 := (39, 13, _, _)) (x_goto rfl rfl) ?_
  refine Rk.tr (F1 := (39, 14, _, _)) (x_iconst rfl) ?_
  refine Rk.tr (F1 := (39, 17, _, _)) (m_call (As := [_, _]) rfl rfl rfl (Or.inr rfl) rfl rfl rfl (Nat.le_of_ble_eq_true rfl) c_fails1 rfl) ?_
  refine Rk.tr (F1 := (39, 20, _, _)) (x_ifF rfl (tg := 22) rfl (by unfold pcc; decide)) ?_
  refine Rk.tr (F1 := (39, 21, _, _)) (x_iconst rfl) ?_
  exact Rk.end rfl (Or.inr (Or.inl ⟨rfl, _, .int, rfl, rfl, rfl, rfl⟩))
theorem c_simp {P : List It} {R W c : Nat → Int32} {n : Int32} (hz : (mst S R W c n).1 3 ≠ 0) (hI : Inv P) (hM : PM R n P) : ∃ R' W' : Nat → Int32, Rn E (d + 5) 39 [.ref o] (mh g o (mst S R W c n)) (some (.int (nI (sim 200 P 1 c).2.1))) (mh g o (mst (msI S 0 0) R' W' (sim 200 P 1 c).2.2 (nI (tsum (sim 200 P 1 c).1)))) ∧ TokAt R' 0 (sim 200 P 1 c).1 := by
  obtain ⟨R', W', r1, r2⟩ := lp_sim (E := E) (d := d) (o := o) (g := g) (S := msI S 0 0) 200 P 1 R W c n (by have := Inv_len hI; omega) hI hM
  refine ⟨R', W', Rn.of (Nat.le_of_ble_eq_true rfl) ?_, r2⟩
  refine Rk.tr (F1 := (39, 1, _, _)) (x_aload_n rfl rfl rfl) ?_
  refine Rk.tr (F1 := (39, 2, _, _)) (x_aload_n rfl rfl rfl) ?_
  refine Rk.tr (F1 := (39, 5, _, _)) (m_get rfl rfl (Nat.le_of_ble_eq_true rfl)) ?_
  refine Rk.tr (F1 := (39, 12, _, _)) (x_ifT rfl (tg := 12) rfl hz) ?_
  refine Rk.tr (F1 := (39, 13, _, _)) (x_iconst rfl) ?_
  refine Rk.tr (F1 := (39, 14, _, _)) (x_iconst rfl) ?_
  refine Rk.tr (F1 := (39, 17, _, _)) (m_call (As := [_, _]) rfl rfl rfl (Or.inr rfl) rfl rfl rfl (Nat.le_of_ble_eq_true rfl) (c_fails0 (d := d + 4)) rfl) ?_
  refine Rk.tr (F1 := (39, 22, _, _)) (x_ifT rfl (tg := 22) rfl rfl) ?_
  refine Rk.tr (F1 := (39, 23, _, _)) (x_iconst rfl) ?_
  refine Rk.tr (F1 := (39, 24, [_, _], _)) (x_istore_n (i := 1) rfl (Nat.le_of_ble_eq_true rfl)) ?_
  rw [mst_I0]
  exact r1
theorem c_cntX {k : Int32} (h : k < 0 ∨ 5 < k) : Rn E (d + 1) 40 [.ref o, .int k] (mh g o S) (some (.int 0)) (mh g o (msI S 0 1)) := by
  refine Rn.of (Nat.le_of_ble_eq_true rfl) ?_
  by_cases h0 : k < 0
  · refine Rk.tr (F1 := (40, 1, _, _)) (x_aload_n rfl rfl rfl) ?_
    refine Rk.tr (F1 := (40, 2, _, _)) (x_iload_n rfl rfl) ?_
    refine Rk.tr (F1 := (40, 10, _, _)) (x_ifT rfl (tg := 10) rfl h0) ?_
    refine Rk.tr (F1 := (40, 11, _, _)) (x_iconst rfl) ?_
    refine Rk.tr (F1 := (40, 15, _, _)) (x_goto rfl rfl) ?_
    refine Rk.tr (F1 := (40, 16, _, _)) (x_iconst rfl) ?_
    refine Rk.tr (F1 := (40, 19, _, _)) (m_call (As := [_, _]) rfl rfl rfl (Or.inr rfl) rfl rfl rfl (Nat.le_of_ble_eq_true rfl) c_fails1 rfl) ?_
    refine Rk.tr (F1 := (40, 22, _, _)) (x_ifF rfl (tg := 24) rfl (by unfold pcc; decide)) ?_
    refine Rk.tr (F1 := (40, 23, _, _)) (x_iconst rfl) ?_
    exact Rk.end rfl (Or.inr (Or.inl ⟨rfl, _, .int, rfl, rfl, rfl, rfl⟩))
  · have h5 : ¬ k ≤ 5 := Int32.not_le.mpr (h.resolve_left h0)
    refine Rk.tr (F1 := (40, 1, _, _)) (x_aload_n rfl rfl rfl) ?_
    refine Rk.tr (F1 := (40, 2, _, _)) (x_iload_n rfl rfl) ?_
    refine Rk.tr (F1 := (40, 5, _, _)) (x_ifF rfl (tg := 10) rfl h0) ?_
    refine Rk.tr (F1 := (40, 6, _, _)) (x_iload_n rfl rfl) ?_
    refine Rk.tr (F1 := (40, 7, _, _)) (x_iconst rfl) ?_
    refine Rk.tr (F1 := (40, 10, _, _)) (x_icF rfl (tg := 14) rfl h5) ?_
    refine Rk.tr (F1 := (40, 11, _, _)) (x_iconst rfl) ?_
    refine Rk.tr (F1 := (40, 15, _, _)) (x_goto rfl rfl) ?_
    refine Rk.tr (F1 := (40, 16, _, _)) (x_iconst rfl) ?_
    refine Rk.tr (F1 := (40, 19, _, _)) (m_call (As := [_, _]) rfl rfl rfl (Or.inr rfl) rfl rfl rfl (Nat.le_of_ble_eq_true rfl) c_fails1 rfl) ?_
    refine Rk.tr (F1 := (40, 22, _, _)) (x_ifF rfl (tg := 24) rfl (by unfold pcc; decide)) ?_
    refine Rk.tr (F1 := (40, 23, _, _)) (x_iconst rfl) ?_
    exact Rk.end rfl (Or.inr (Or.inl ⟨rfl, _, .int, rfl, rfl, rfl, rfl⟩))
theorem c_cnt4 {j : Nat} (h : j < 4) : Rn E (d + 1) 40 [.ref o, .int (nI j)] (mh g o S) (some (.int (S.2 7 j))) (mh g o (msI S 0 0)) := by
  refine Rn.of (Nat.le_of_ble_eq_true rfl) ?_
  refine Rk.tr (F1 := (40, 1, _, _)) (x_aload_n rfl rfl rfl) ?_
  refine Rk.tr (F1 := (40, 2, _, _)) (x_iload_n rfl rfl) ?_
  refine Rk.tr (F1 := (40, 5, _, _)) (x_ifF rfl (tg := 10) rfl (show ¬ nI j < nI 0 from Int32.not_lt.mpr (nI_le (by omega) (by omega)))) ?_
  refine Rk.tr (F1 := (40, 6, _, _)) (x_iload_n rfl rfl) ?_
  refine Rk.tr (F1 := (40, 7, _, _)) (x_iconst rfl) ?_
  refine Rk.tr (F1 := (40, 14, _, _)) (x_icT rfl (tg := 14) rfl (show nI j ≤ nI 5 from nI_le (by omega) (by decide))) ?_
  refine Rk.tr (F1 := (40, 15, _, _)) (x_iconst rfl) ?_
  refine Rk.tr (F1 := (40, 16, _, _)) (x_iconst rfl) ?_
  refine Rk.tr (F1 := (40, 19, _, _)) (m_call (As := [_, _]) rfl rfl rfl (Or.inr rfl) rfl rfl rfl (Nat.le_of_ble_eq_true rfl) c_fails0 rfl) ?_
  refine Rk.tr (F1 := (40, 24, _, _)) (x_ifT rfl (tg := 24) rfl rfl) ?_
  refine Rk.tr (F1 := (40, 25, _, _)) (x_iload_n rfl rfl) ?_
  refine Rk.tr (F1 := (40, 26, _, _)) (x_iconst rfl) ?_
  refine Rk.tr (F1 := (40, 29, _, _)) (x_icF rfl (tg := 38) rfl (show ¬ nI 4 ≤ nI j from nI_ge (by omega) (by decide))) ?_
  refine Rk.tr (F1 := (40, 30, _, _)) (x_aload_n rfl rfl rfl) ?_
  refine Rk.tr (F1 := (40, 33, _, _)) (m_get rfl rfl (Nat.le_of_ble_eq_true rfl)) ?_
  refine Rk.tr (F1 := (40, 34, _, _)) (x_iload_n rfl rfl) ?_
  refine Rk.tr (F1 := (40, 35, _, _)) (m_iald (k := 7) (n := j) rfl rfl rfl rfl h) ?_
  refine Rk.tr (F1 := (40, 65, _, _)) (x_goto rfl rfl) ?_
  exact Rk.end rfl (Or.inr (Or.inl ⟨rfl, _, .int, rfl, rfl, rfl, rfl⟩))
theorem c_cntN {j : Nat} (h4 : 4 ≤ j) (h : j < 6) (hz : S.1 3 = 0) : Rn E (d + 1) 40 [.ref o, .int (nI j)] (mh g o S) (some (.int 0)) (mh g o (msI S 0 0)) := by
  refine Rn.of (Nat.le_of_ble_eq_true rfl) ?_
  refine Rk.tr (F1 := (40, 1, _, _)) (x_aload_n rfl rfl rfl) ?_
  refine Rk.tr (F1 := (40, 2, _, _)) (x_iload_n rfl rfl) ?_
  refine Rk.tr (F1 := (40, 5, _, _)) (x_ifF rfl (tg := 10) rfl (show ¬ nI j < nI 0 from Int32.not_lt.mpr (nI_le (by omega) (by omega)))) ?_
  refine Rk.tr (F1 := (40, 6, _, _)) (x_iload_n rfl rfl) ?_
  refine Rk.tr (F1 := (40, 7, _, _)) (x_iconst rfl) ?_
  refine Rk.tr (F1 := (40, 14, _, _)) (x_icT rfl (tg := 14) rfl (show nI j ≤ nI 5 from nI_le (by omega) (by decide))) ?_
  refine Rk.tr (F1 := (40, 15, _, _)) (x_iconst rfl) ?_
  refine Rk.tr (F1 := (40, 16, _, _)) (x_iconst rfl) ?_
  refine Rk.tr (F1 := (40, 19, _, _)) (m_call (As := [_, _]) rfl rfl rfl (Or.inr rfl) rfl rfl rfl (Nat.le_of_ble_eq_true rfl) c_fails0 rfl) ?_
  refine Rk.tr (F1 := (40, 24, _, _)) (x_ifT rfl (tg := 24) rfl rfl) ?_
  refine Rk.tr (F1 := (40, 25, _, _)) (x_iload_n rfl rfl) ?_
  refine Rk.tr (F1 := (40, 26, _, _)) (x_iconst rfl) ?_
  refine Rk.tr (F1 := (40, 38, _, _)) (x_icT rfl (tg := 38) rfl (show nI 4 ≤ nI j from nI_le (by omega) (by omega))) ?_
  refine Rk.tr (F1 := (40, 39, _, _)) (x_aload_n rfl rfl rfl) ?_
  refine Rk.tr (F1 := (40, 42, _, _)) (m_get rfl rfl (Nat.le_of_ble_eq_true rfl)) ?_
  refine Rk.tr (F1 := (40, 45, _, _)) (x_ifF rfl (tg := 49) rfl (fun q => q hz)) ?_
  refine Rk.tr (F1 := (40, 46, _, _)) (x_iconst rfl) ?_
  refine Rk.tr (F1 := (40, 65, _, _)) (x_goto rfl rfl) ?_
  exact Rk.end rfl (Or.inr (Or.inl ⟨rfl, _, .int, rfl, rfl, rfl, rfl⟩))
theorem c_cntB {P : List It} {len : Nat} (hl : S.1 4 = nI len) (h8 : len ≤ 800) (hT : TokAt (S.2 5) 0 P) (hp : tsum P = len) (hz : S.1 3 ≠ 0) : Rn E (d + 2) 40 [.ref o, .int 4] (mh g o S) (some (.int (nI (cntB P)))) (mh g o (msI S 0 0)) := by
  refine Rn.of (Nat.le_of_ble_eq_true rfl) ?_
  refine Rk.tr (F1 := (40, 1, _, _)) (x_aload_n rfl rfl rfl) ?_
  refine Rk.tr (F1 := (40, 2, _, _)) (x_iload_n rfl rfl) ?_
  refine Rk.tr (F1 := (40, 5, _, _)) (x_ifF rfl (tg := 10) rfl (by unfold pcc; decide)) ?_
  refine Rk.tr (F1 := (40, 6, _, _)) (x_iload_n rfl rfl) ?_
  refine Rk.tr (F1 := (40, 7, _, _)) (x_iconst rfl) ?_
  refine Rk.tr (F1 := (40, 14, _, _)) (x_icT rfl (tg := 14) rfl (by unfold pcc; decide)) ?_
  refine Rk.tr (F1 := (40, 15, _, _)) (x_iconst rfl) ?_
  refine Rk.tr (F1 := (40, 16, _, _)) (x_iconst rfl) ?_
  refine Rk.tr (F1 := (40, 19, _, _)) (m_call (As := [_, _]) rfl rfl rfl (Or.inr rfl) rfl rfl rfl (Nat.le_of_ble_eq_true rfl) c_fails0 rfl) ?_
  refine Rk.tr (F1 := (40, 24, _, _)) (x_ifT rfl (tg := 24) rfl rfl) ?_
  refine Rk.tr (F1 := (40, 25, _, _)) (x_iload_n rfl rfl) ?_
  refine Rk.tr (F1 := (40, 26, _, _)) (x_iconst rfl) ?_
  refine Rk.tr (F1 := (40, 38, _, _)) (x_icT rfl (tg := 38) rfl (by unfold pcc; decide)) ?_
  refine Rk.tr (F1 := (40, 39, _, _)) (x_aload_n rfl rfl rfl) ?_
  refine Rk.tr (F1 := (40, 42, _, _)) (m_get rfl rfl (Nat.le_of_ble_eq_true rfl)) ?_
  refine Rk.tr (F1 := (40, 49, _, _)) (x_ifT rfl (tg := 49) rfl hz) ?_
  refine Rk.tr (F1 := (40, 50, _, _)) (x_iload_n rfl rfl) ?_
  refine Rk.tr (F1 := (40, 51, _, _)) (x_iconst rfl) ?_
  refine Rk.tr (F1 := (40, 54, _, _)) (x_icF rfl (tg := 61) rfl (fun q => q rfl)) ?_
  refine Rk.tr (F1 := (40, 55, _, _)) (x_aload_n rfl rfl rfl) ?_
  refine Rk.tr (F1 := (40, 58, _, _)) (m_call (As := []) rfl rfl rfl (Or.inr rfl) rfl rfl rfl (Nat.le_of_ble_eq_true rfl) (c_bindings (len := len) hl h8 hT hp) rfl) ?_
  refine Rk.tr (F1 := (40, 65, _, _)) (x_goto rfl rfl) ?_
  exact Rk.end rfl (Or.inr (Or.inl ⟨rfl, _, .int, rfl, rfl, rfl, rfl⟩))
theorem c_cntM (hz : S.1 3 ≠ 0) : Rn E (d + 2) 40 [.ref o, .int 5] (mh g o S) (some (.int (S.1 8))) (mh g o (msI S 0 0)) := by
  refine Rn.of (Nat.le_of_ble_eq_true rfl) ?_
  refine Rk.tr (F1 := (40, 1, _, _)) (x_aload_n rfl rfl rfl) ?_
  refine Rk.tr (F1 := (40, 2, _, _)) (x_iload_n rfl rfl) ?_
  refine Rk.tr (F1 := (40, 5, _, _)) (x_ifF rfl (tg := 10) rfl (by unfold pcc; decide)) ?_
  refine Rk.tr (F1 := (40, 6, _, _)) (x_iload_n rfl rfl) ?_
  refine Rk.tr (F1 := (40, 7, _, _)) (x_iconst rfl) ?_
  refine Rk.tr (F1 := (40, 14, _, _)) (x_icT rfl (tg := 14) rfl (by unfold pcc; decide)) ?_
  refine Rk.tr (F1 := (40, 15, _, _)) (x_iconst rfl) ?_
  refine Rk.tr (F1 := (40, 16, _, _)) (x_iconst rfl) ?_
  refine Rk.tr (F1 := (40, 19, _, _)) (m_call (As := [_, _]) rfl rfl rfl (Or.inr rfl) rfl rfl rfl (Nat.le_of_ble_eq_true rfl) c_fails0 rfl) ?_
  refine Rk.tr (F1 := (40, 24, _, _)) (x_ifT rfl (tg := 24) rfl rfl) ?_
  refine Rk.tr (F1 := (40, 25, _, _)) (x_iload_n rfl rfl) ?_
  refine Rk.tr (F1 := (40, 26, _, _)) (x_iconst rfl) ?_
  refine Rk.tr (F1 := (40, 38, _, _)) (x_icT rfl (tg := 38) rfl (by unfold pcc; decide)) ?_
  refine Rk.tr (F1 := (40, 39, _, _)) (x_aload_n rfl rfl rfl) ?_
  refine Rk.tr (F1 := (40, 42, _, _)) (m_get rfl rfl (Nat.le_of_ble_eq_true rfl)) ?_
  refine Rk.tr (F1 := (40, 49, _, _)) (x_ifT rfl (tg := 49) rfl hz) ?_
  refine Rk.tr (F1 := (40, 50, _, _)) (x_iload_n rfl rfl) ?_
  refine Rk.tr (F1 := (40, 51, _, _)) (x_iconst rfl) ?_
  refine Rk.tr (F1 := (40, 61, _, _)) (x_icT rfl (tg := 61) rfl (show ¬ (5 : Int32) = 4 by decide)) ?_
  refine Rk.tr (F1 := (40, 62, _, _)) (x_aload_n rfl rfl rfl) ?_
  refine Rk.tr (F1 := (40, 65, _, _)) (m_get rfl rfl (Nat.le_of_ble_eq_true rfl)) ?_
  exact Rk.end rfl (Or.inr (Or.inl ⟨rfl, _, .int, rfl, rfl, rfl, rfl⟩))
theorem c_wriX {k : Int32} (h : S.1 3 = 0 ∨ k < 0 ∨ S.1 4 ≤ k) : Rn E (d + 1) 41 [.ref o, .int k] (mh g o S) (some (.int 0)) (mh g o (msI S 0 1)) := by
  refine Rn.of (Nat.le_of_ble_eq_true rfl) ?_
  by_cases hi : S.1 3 = 0
  · refine Rk.tr (F1 := (41, 1, _, _)) (x_aload_n rfl rfl rfl) ?_
    refine Rk.tr (F1 := (41, 2, _, _)) (x_aload_n rfl rfl rfl) ?_
    refine Rk.tr (F1 := (41, 5, _, _)) (m_get rfl rfl (Nat.le_of_ble_eq_true rfl)) ?_
    refine Rk.tr (F1 := (41, 20, _, _)) (x_ifT rfl (tg := 20) rfl hi) ?_
    refine Rk.tr (F1 := (41, 21, _, _)) (x_iconst rfl) ?_
    refine Rk.tr (F1 := (41, 25, _, _)) (x_goto rfl rfl) ?_
    refine Rk.tr (F1 := (41, 26, _, _)) (x_iconst rfl) ?_
    refine Rk.tr (F1 := (41, 29, _, _)) (m_call (As := [_, _]) rfl rfl rfl (Or.inr rfl) rfl rfl rfl (Nat.le_of_ble_eq_true rfl) c_fails1 rfl) ?_
    refine Rk.tr (F1 := (41, 32, _, _)) (x_ifF rfl (tg := 36) rfl (by unfold pcc; decide)) ?_
    refine Rk.tr (F1 := (41, 33, _, _)) (x_iconst rfl) ?_
    refine Rk.tr (F1 := (41, 42, _, _)) (x_goto rfl rfl) ?_
    exact Rk.end rfl (Or.inr (Or.inl ⟨rfl, _, .int, rfl, rfl, rfl, rfl⟩))
  · by_cases h0 : k < 0
    · refine Rk.tr (F1 := (41, 1, _, _)) (x_aload_n rfl rfl rfl) ?_
      refine Rk.tr (F1 := (41, 2, _, _)) (x_aload_n rfl rfl rfl) ?_
      refine Rk.tr (F1 := (41, 5, _, _)) (m_get rfl rfl (Nat.le_of_ble_eq_true rfl)) ?_
      refine Rk.tr (F1 := (41, 8, _, _)) (x_ifF rfl (tg := 20) rfl hi) ?_
      refine Rk.tr (F1 := (41, 9, _, _)) (x_iload_n rfl rfl) ?_
      refine Rk.tr (F1 := (41, 20, _, _)) (x_ifT rfl (tg := 20) rfl h0) ?_
      refine Rk.tr (F1 := (41, 21, _, _)) (x_iconst rfl) ?_
      refine Rk.tr (F1 := (41, 25, _, _)) (x_goto rfl rfl) ?_
      refine Rk.tr (F1 := (41, 26, _, _)) (x_iconst rfl) ?_
      refine Rk.tr (F1 := (41, 29, _, _)) (m_call (As := [_, _]) rfl rfl rfl (Or.inr rfl) rfl rfl rfl (Nat.le_of_ble_eq_true rfl) c_fails1 rfl) ?_
      refine Rk.tr (F1 := (41, 32, _, _)) (x_ifF rfl (tg := 36) rfl (by unfold pcc; decide)) ?_
      refine Rk.tr (F1 := (41, 33, _, _)) (x_iconst rfl) ?_
      refine Rk.tr (F1 := (41, 42, _, _)) (x_goto rfl rfl) ?_
      exact Rk.end rfl (Or.inr (Or.inl ⟨rfl, _, .int, rfl, rfl, rfl, rfl⟩))
    · have h5 : ¬ k < S.1 4 := Int32.not_lt.mpr ((h.resolve_left hi).resolve_left h0)
      refine Rk.tr (F1 := (41, 1, _, _)) (x_aload_n rfl rfl rfl) ?_
      refine Rk.tr (F1 := (41, 2, _, _)) (x_aload_n rfl rfl rfl) ?_
      refine Rk.tr (F1 := (41, 5, _, _)) (m_get rfl rfl (Nat.le_of_ble_eq_true rfl)) ?_
      refine Rk.tr (F1 := (41, 8, _, _)) (x_ifF rfl (tg := 20) rfl hi) ?_
      refine Rk.tr (F1 := (41, 9, _, _)) (x_iload_n rfl rfl) ?_
      refine Rk.tr (F1 := (41, 12, _, _)) (x_ifF rfl (tg := 20) rfl h0) ?_
      refine Rk.tr (F1 := (41, 13, _, _)) (x_iload_n rfl rfl) ?_
      refine Rk.tr (F1 := (41, 14, _, _)) (x_aload_n rfl rfl rfl) ?_
      refine Rk.tr (F1 := (41, 17, _, _)) (m_get rfl rfl (Nat.le_of_ble_eq_true rfl)) ?_
      refine Rk.tr (F1 := (41, 20, _, _)) (x_icF rfl (tg := 24) rfl h5) ?_
      refine Rk.tr (F1 := (41, 21, _, _)) (x_iconst rfl) ?_
      refine Rk.tr (F1 := (41, 25, _, _)) (x_goto rfl rfl) ?_
      refine Rk.tr (F1 := (41, 26, _, _)) (x_iconst rfl) ?_
      refine Rk.tr (F1 := (41, 29, _, _)) (m_call (As := [_, _]) rfl rfl rfl (Or.inr rfl) rfl rfl rfl (Nat.le_of_ble_eq_true rfl) c_fails1 rfl) ?_
      refine Rk.tr (F1 := (41, 32, _, _)) (x_ifF rfl (tg := 36) rfl (by unfold pcc; decide)) ?_
      refine Rk.tr (F1 := (41, 33, _, _)) (x_iconst rfl) ?_
      refine Rk.tr (F1 := (41, 42, _, _)) (x_goto rfl rfl) ?_
      exact Rk.end rfl (Or.inr (Or.inl ⟨rfl, _, .int, rfl, rfl, rfl, rfl⟩))
theorem c_wri {j len : Nat} (hz : S.1 3 ≠ 0) (hl : S.1 4 = nI len) (h8 : len ≤ 800) (h : j < len) : Rn E (d + 1) 41 [.ref o, .int (nI j)] (mh g o S) (some (.int (S.2 5 j))) (mh g o (msI S 0 0)) := by
  refine Rn.of (Nat.le_of_ble_eq_true rfl) ?_
  refine Rk.tr (F1 := (41, 1, _, _)) (x_aload_n rfl rfl rfl) ?_
  refine Rk.tr (F1 := (41, 2, _, _)) (x_aload_n rfl rfl rfl) ?_
  refine Rk.tr (F1 := (41, 5, _, _)) (m_get rfl rfl (Nat.le_of_ble_eq_true rfl)) ?_
  refine Rk.tr (F1 := (41, 8, _, _)) (x_ifF rfl (tg := 20) rfl hz) ?_
  refine Rk.tr (F1 := (41, 9, _, _)) (x_iload_n rfl rfl) ?_
  refine Rk.tr (F1 := (41, 12, _, _)) (x_ifF rfl (tg := 20) rfl (show ¬ nI j < nI 0 from Int32.not_lt.mpr (nI_le (by omega) (by omega)))) ?_
  refine Rk.tr (F1 := (41, 13, _, _)) (x_iload_n rfl rfl) ?_
  refine Rk.tr (F1 := (41, 14, _, _)) (x_aload_n rfl rfl rfl) ?_
  refine Rk.tr (F1 := (41, 17, _, _)) (m_get rfl rfl (Nat.le_of_ble_eq_true rfl)) ?_
  refine Rk.tr (F1 := (41, 24, _, _)) (x_icT rfl (tg := 24) rfl (by show nI j < S.1 4; rw [hl]; exact Int32.not_le.mp (nI_ge (by omega) (by omega)))) ?_
  refine Rk.tr (F1 := (41, 25, _, _)) (x_iconst rfl) ?_
  refine Rk.tr (F1 := (41, 26, _, _)) (x_iconst rfl) ?_
  refine Rk.tr (F1 := (41, 29, _, _)) (m_call (As := [_, _]) rfl rfl rfl (Or.inr rfl) rfl rfl rfl (Nat.le_of_ble_eq_true rfl) c_fails0 rfl) ?_
  refine Rk.tr (F1 := (41, 36, _, _)) (x_ifT rfl (tg := 36) rfl rfl) ?_
  refine Rk.tr (F1 := (41, 37, _, _)) (x_aload_n rfl rfl rfl) ?_
  refine Rk.tr (F1 := (41, 40, _, _)) (m_get rfl rfl (Nat.le_of_ble_eq_true rfl)) ?_
  refine Rk.tr (F1 := (41, 41, _, _)) (x_iload_n rfl rfl) ?_
  refine Rk.tr (F1 := (41, 42, _, _)) (m_iald (k := 5) (n := j) rfl rfl rfl rfl (show j < 800 by omega)) ?_
  exact Rk.end rfl (Or.inr (Or.inl ⟨rfl, _, .int, rfl, rfl, rfl, rfl⟩))
theorem c_ranX {k : Int32} (h : k < 0 ∨ 3 < k) : Rn E (d + 1) 52 [.ref o, .int k] (mh g o S) (some (.int 0)) (mh g o (msI S 0 1)) := by
  refine Rn.of (Nat.le_of_ble_eq_true rfl) ?_
  by_cases h0 : k < 0
  · refine Rk.tr (F1 := (52, 1, _, _)) (x_aload_n rfl rfl rfl) ?_
    refine Rk.tr (F1 := (52, 2, _, _)) (x_iload_n rfl rfl) ?_
    refine Rk.tr (F1 := (52, 10, _, _)) (x_ifT rfl (tg := 10) rfl h0) ?_
    refine Rk.tr (F1 := (52, 11, _, _)) (x_iconst rfl) ?_
    refine Rk.tr (F1 := (52, 15, _, _)) (x_goto rfl rfl) ?_
    refine Rk.tr (F1 := (52, 16, _, _)) (x_iconst rfl) ?_
    refine Rk.tr (F1 := (52, 19, _, _)) (m_call (As := [_, _]) rfl rfl rfl (Or.inr rfl) rfl rfl rfl (Nat.le_of_ble_eq_true rfl) c_fails1 rfl) ?_
    refine Rk.tr (F1 := (52, 22, _, _)) (x_ifF rfl (tg := 26) rfl (by unfold pcc; decide)) ?_
    refine Rk.tr (F1 := (52, 23, _, _)) (x_iconst rfl) ?_
    refine Rk.tr (F1 := (52, 32, _, _)) (x_goto rfl rfl) ?_
    exact Rk.end rfl (Or.inr (Or.inl ⟨rfl, _, .int, rfl, rfl, rfl, rfl⟩))
  · have h5 : ¬ k ≤ 3 := Int32.not_le.mpr (h.resolve_left h0)
    refine Rk.tr (F1 := (52, 1, _, _)) (x_aload_n rfl rfl rfl) ?_
    refine Rk.tr (F1 := (52, 2, _, _)) (x_iload_n rfl rfl) ?_
    refine Rk.tr (F1 := (52, 5, _, _)) (x_ifF rfl (tg := 10) rfl h0) ?_
    refine Rk.tr (F1 := (52, 6, _, _)) (x_iload_n rfl rfl) ?_
    refine Rk.tr (F1 := (52, 7, _, _)) (x_iconst rfl) ?_
    refine Rk.tr (F1 := (52, 10, _, _)) (x_icF rfl (tg := 14) rfl h5) ?_
    refine Rk.tr (F1 := (52, 11, _, _)) (x_iconst rfl) ?_
    refine Rk.tr (F1 := (52, 15, _, _)) (x_goto rfl rfl) ?_
    refine Rk.tr (F1 := (52, 16, _, _)) (x_iconst rfl) ?_
    refine Rk.tr (F1 := (52, 19, _, _)) (m_call (As := [_, _]) rfl rfl rfl (Or.inr rfl) rfl rfl rfl (Nat.le_of_ble_eq_true rfl) c_fails1 rfl) ?_
    refine Rk.tr (F1 := (52, 22, _, _)) (x_ifF rfl (tg := 26) rfl (by unfold pcc; decide)) ?_
    refine Rk.tr (F1 := (52, 23, _, _)) (x_iconst rfl) ?_
    refine Rk.tr (F1 := (52, 32, _, _)) (x_goto rfl rfl) ?_
    exact Rk.end rfl (Or.inr (Or.inl ⟨rfl, _, .int, rfl, rfl, rfl, rfl⟩))
theorem c_ran {j : Nat} (h : j < 4) : Rn E (d + 1) 52 [.ref o, .int (nI j)] (mh g o S) (some (.int (S.2 42 j))) (mh g o (msI S 0 0)) := by
  refine Rn.of (Nat.le_of_ble_eq_true rfl) ?_
  refine Rk.tr (F1 := (52, 1, _, _)) (x_aload_n rfl rfl rfl) ?_
  refine Rk.tr (F1 := (52, 2, _, _)) (x_iload_n rfl rfl) ?_
  refine Rk.tr (F1 := (52, 5, _, _)) (x_ifF rfl (tg := 10) rfl (show ¬ nI j < nI 0 from Int32.not_lt.mpr (nI_le (by omega) (by omega)))) ?_
  refine Rk.tr (F1 := (52, 6, _, _)) (x_iload_n rfl rfl) ?_
  refine Rk.tr (F1 := (52, 7, _, _)) (x_iconst rfl) ?_
  refine Rk.tr (F1 := (52, 14, _, _)) (x_icT rfl (tg := 14) rfl (show nI j ≤ nI 3 from nI_le (by omega) (by decide))) ?_
  refine Rk.tr (F1 := (52, 15, _, _)) (x_iconst rfl) ?_
  refine Rk.tr (F1 := (52, 16, _, _)) (x_iconst rfl) ?_
  refine Rk.tr (F1 := (52, 19, _, _)) (m_call (As := [_, _]) rfl rfl rfl (Or.inr rfl) rfl rfl rfl (Nat.le_of_ble_eq_true rfl) c_fails0 rfl) ?_
  refine Rk.tr (F1 := (52, 26, _, _)) (x_ifT rfl (tg := 26) rfl rfl) ?_
  refine Rk.tr (F1 := (52, 27, _, _)) (x_aload_n rfl rfl rfl) ?_
  refine Rk.tr (F1 := (52, 30, _, _)) (m_get rfl rfl (Nat.le_of_ble_eq_true rfl)) ?_
  refine Rk.tr (F1 := (52, 31, _, _)) (x_iload_n rfl rfl) ?_
  refine Rk.tr (F1 := (52, 32, _, _)) (m_iald (k := 42) (n := j) rfl rfl rfl rfl h) ?_
  exact Rk.end rfl (Or.inr (Or.inl ⟨rfl, _, .int, rfl, rfl, rfl, rfl⟩))
end M12
