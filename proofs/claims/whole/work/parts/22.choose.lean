/-! ===== drop, choose ===== -/
theorem ioc_le (it : It) (nm : Int32) : ∀ (r k : Nat), ioc it nm k r ≤ r := by
  intro r
  induction r with
  | zero => intro k; exact Nat.le_refl _
  | succ r ih =>
    intro k
    have := ih (k + 1)
    simp only [ioc]
    split <;> omega
theorem occ_le (nm : Int32) (P : List It) : occ nm P ≤ tsum P := by
  induction P with
  | nil => exact Nat.le_refl _
  | cons a P ih =>
    have h1 := ioc_le a nm (iat a) 0
    have h2 : iat a ≤ isz a := by unfold iat isz; split <;> split <;> first | decide | omega
    simp only [occ, tsum]
    omega
theorem closes_ge : ∀ (Q : List It) (k : Nat), closes k Q → 3 ≤ tsum Q := by
  intro Q
  induction Q with
  | nil => intro k h; exact h.elim
  | cons a Q ih =>
    intro k _
    have := isz_ge a
    simp only [tsum]
    omega
section M8
variable {E : PE} {d o : Nat} {g : PH} {S : MSt} {R W c : Nat → Int32} {n : Int32}
theorem c_drop_no {A B : List It} {it : It} (h2 : it.1 = 2) (hM : PM R n (A ++ it :: B)) (hc : 0 < occ it.2.1 (A ++ it :: B)) :
    Rn E (d + 2) 38 [.ref o, .int (nI (tsum A))] (mh g o (mst S R W c n)) (some (.int (-1))) (mh g o (mst S R W c n)) := by
  obtain ⟨t1, h8, -⟩ := PM.it (P := []) hM
  have ho := occ_le it.2.1 (A ++ it :: B)
  have hM3 := hM.2.2
  have r1 := c_occurs (E := E) (d := d) (o := o) (g := g) (S := mst S R W c n) (nm := it.2.1) (P := A ++ it :: B) hM.2.1 (by omega) hM.1 rfl
  obtain ⟨k, nm, dt, ⟨a1, a2⟩, b1, b2⟩ := it
  have h2 : k = 2 := h2
  subst h2
  have h8 : tsum A + 4 + tsum B ≤ 400 := h8
  simp only at r1 hc ho
  generalize occ nm (A ++ (2, nm, dt, (a1, a2), b1, b2) :: B) = oc at r1 hc ho
  generalize tsum A = p at t1 h8 ⊢
  obtain ⟨h0, rfl, h2, rfl⟩ := t1
  refine Rn.of (Nat.le_of_ble_eq_true rfl) ?_
  refine Rk.tr (F1 := (38, 1, _, _)) (x_aload_n rfl rfl rfl) ?_
  refine Rk.tr (F1 := (38, 2, _, _)) (x_aload_n rfl rfl rfl) ?_
  refine Rk.tr (F1 := (38, 5, _, _)) (m_get rfl rfl (Nat.le_of_ble_eq_true rfl)) ?_
  refine Rk.tr (F1 := (38, 6, _, _)) (x_iload_n rfl rfl) ?_
  refine Rk.tr (F1 := (38, 7, _, _)) (x_iconst rfl) ?_
  refine Rk.tr (F1 := (38, 8, _, _)) (x_iadd rfl) ?_
  refine Rk.tr (F1 := (38, 9, _, _)) (m_iald (k := 5) (n := p + 1) rfl rfl rfl (nI_1 p) (show p + 1 < 800 by omega)) ?_
  refine Rk.tr (F1 := (38, 12, _, _)) (m_call (As := [_]) rfl rfl rfl (Or.inr rfl) rfl rfl rfl (Nat.le_of_ble_eq_true rfl) r1 rfl) ?_
  refine Rk.tr (F1 := (38, 15, _, _)) (x_ifF rfl (tg := 17) rfl (nI_nle hc (by omega))) ?_
  refine Rk.tr (F1 := (38, 16, _, _)) (x_iconst rfl) ?_
  exact Rk.end rfl (Or.inr (Or.inl ⟨rfl, _, .int, rfl, rfl, rfl, rfl⟩))
theorem c_drop_yes {A Bd C : List It} {it : It} (h2 : it.1 = 2) (hM : PM R n (A ++ it :: (Bd ++ C))) (hcl : closes 1 Bd) (hc : occ it.2.1 (A ++ it :: (Bd ++ C)) = 0) :
    ∃ R' : Nat → Int32, Rn E (d + 2) 38 [.ref o, .int (nI (tsum A))] (mh g o (mst S R W c n)) (some (.int (nI (tsum A)))) (mh g o (mst S R' W (rup c 3 (c 3 + 1)) (nI (tsum (A ++ C))))) ∧ TokAt R' 0 (A ++ C) := by
  obtain ⟨t1, h8, hn⟩ := PM.it (P := []) hM
  have hM3 := hM.2.2
  have h3 := closes_ge Bd 1 hcl
  have r1 := c_occurs (E := E) (d := d) (o := o) (g := g) (S := mst S R W c n) (nm := it.2.1) (P := A ++ it :: (Bd ++ C)) hM.2.1 (by omega) hM.1 rfl
  rw [hc] at r1
  have hcut := TokAt_cut (A := A) (X := it :: Bd) (B := C) hM.1
  have hz : tsum (A ++ (it :: Bd ++ C)) = tsum A + (isz it + tsum Bd) + tsum C := by rw [tsum_app, tsum_app]; simp only [tsum]; omega
  have hz2 : tsum (it :: Bd) = isz it + tsum Bd := rfl
  rw [hz, hz2] at hcut
  have tB : TokAt R (tsum A + isz it) Bd := by
    have := hM.1
    rw [TokAt_app] at this
    have := this.2.2
    rw [TokAt_app, Nat.zero_add] at this
    exact this.1
  obtain ⟨k, nm, dt, ⟨a1, a2⟩, b1, b2⟩ := it
  have h2 : k = 2 := h2
  subst h2
  rw [tsum_app] at h8 hn
  have h8 : tsum A + 4 + (tsum Bd + tsum C) ≤ 400 := h8
  have hn : n = nI (tsum A + 4 + (tsum Bd + tsum C)) := hn
  have tB : TokAt R (tsum A + 4) Bd := tB
  have hcut : TokAt (rcut R (tsum A) (tsum A + (4 + tsum Bd)) (tsum A + (4 + tsum Bd) + tsum C)) 0 (A ++ C) := hcut
  refine ⟨_, ?_, hcut⟩
  have hAB : tsum (A ++ C) = tsum A + (4 + tsum Bd) + tsum C - (tsum A + (4 + tsum Bd) - tsum A) := by rw [tsum_app]; omega
  have hct := c_cut (E := E) (d := d + 1) (o := o) (g := g) (S := mst S R W c n) (f := tsum A) (u := tsum A + (4 + tsum Bd)) (len := tsum A + (4 + tsum Bd) + tsum C) (hn.trans (by congr 1; omega)) (by omega) (by omega) (by omega)
  rw [mst_R, mst_4, ← hAB] at hct
  have r2 := c_rowEnd (E := E) (d := d) (o := o) (g := g) (S := mst S R W c n) (p := tsum A + 4) (Q := Bd) tB (by omega) hcl
  rw [← mst_A7]
  simp only at r1
  generalize tsum A = p at t1 h8 hn hcut hct r2 tB ⊢
  obtain ⟨h0, rfl, h2, rfl⟩ := t1
  refine Rn.of (Nat.le_of_ble_eq_true rfl) ?_
  refine Rk.tr (F1 := (38, 1, _, _)) (x_aload_n rfl rfl rfl) ?_
  refine Rk.tr (F1 := (38, 2, _, _)) (x_aload_n rfl rfl rfl) ?_
  refine Rk.tr (F1 := (38, 5, _, _)) (m_get rfl rfl (Nat.le_of_ble_eq_true rfl)) ?_
  refine Rk.tr (F1 := (38, 6, _, _)) (x_iload_n rfl rfl) ?_
  refine Rk.tr (F1 := (38, 7, _, _)) (x_iconst rfl) ?_
  refine Rk.tr (F1 := (38, 8, _, _)) (x_iadd rfl) ?_
  refine Rk.tr (F1 := (38, 9, _, _)) (m_iald (k := 5) (n := p + 1) rfl rfl rfl (nI_1 p) (show p + 1 < 800 by omega)) ?_
  refine Rk.tr (F1 := (38, 12, _, _)) (m_call (As := [_]) rfl rfl rfl (Or.inr rfl) rfl rfl rfl (Nat.le_of_ble_eq_true rfl) r1 rfl) ?_
  refine Rk.tr (F1 := (38, 17, _, _)) (x_ifT rfl (tg := 17) rfl (show nI 0 ≤ 0 by decide)) ?_
  refine Rk.tr (F1 := (38, 18, _, _)) (x_aload_n rfl rfl rfl) ?_
  refine Rk.tr (F1 := (38, 19, _, _)) (x_iload_n rfl rfl) ?_
  refine Rk.tr (F1 := (38, 20, _, _)) (x_aload_n rfl rfl rfl) ?_
  refine Rk.tr (F1 := (38, 21, _, _)) (x_iload_n rfl rfl) ?_
  refine Rk.tr (F1 := (38, 22, _, _)) (x_iconst rfl) ?_
  refine Rk.tr (F1 := (38, 23, _, _)) (x_iadd rfl) ?_
  refine Rk.tr (F1 := (38, 23, _, _)) (x_top (nI_add p 4)) ?_
  refine Rk.tr (F1 := (38, 26, _, _)) (m_call (As := [_]) rfl rfl rfl (Or.inr rfl) rfl rfl rfl (Nat.le_of_ble_eq_true rfl) r2 rfl) ?_
  refine Rk.tr (F1 := (38, 27, _, _)) (x_iconst rfl) ?_
  refine Rk.tr (F1 := (38, 28, _, _)) (x_iadd rfl) ?_
  refine Rk.tr (F1 := (38, 28, _, _)) (x_top (y := nI (p + (4 + tsum Bd))) (by show nI (p + 4 + tsum Bd - 3) + nI 3 = _; rw [nI_add]; congr 1; omega)) ?_
  refine Rk.tr (F1 := (38, 31, _, _)) (m_call (As := [_, _]) rfl rfl rfl (Or.inr rfl) rfl rfl rfl (Nat.le_of_ble_eq_true rfl) hct rfl) ?_
  refine Rk.tr (F1 := (38, 32, _, _)) (x_aload_n rfl rfl rfl) ?_
  refine Rk.tr (F1 := (38, 35, _, _)) (m_get rfl rfl (Nat.le_of_ble_eq_true rfl)) ?_
  refine Rk.tr (F1 := (38, 36, _, _)) (x_iconst rfl) ?_
  refine Rk.tr (F1 := (38, 37, _, _)) (x_dup2 rfl rfl rfl) ?_
  refine Rk.tr (F1 := (38, 38, _, _)) (m_iald (k := 7) (n := 3) rfl rfl rfl rfl (Nat.le_of_ble_eq_true rfl)) ?_
  refine Rk.tr (F1 := (38, 39, _, _)) (x_iconst rfl) ?_
  refine Rk.tr (F1 := (38, 40, _, _)) (x_iadd rfl) ?_
  refine Rk.tr (F1 := (38, 41, _, _)) (m_iast (k := 7) (n := 3) rfl rfl rfl (Nat.le_of_ble_eq_true rfl) rfl (Nat.le_of_ble_eq_true rfl)) ?_
  refine Rk.tr (F1 := (38, 42, _, _)) (x_iload_n rfl rfl) ?_
  exact Rk.end rfl (Or.inr (Or.inl ⟨rfl, _, .int, rfl, rfl, rfl, rfl⟩))
/-- copied to the piece so far -/
def rcp (R W : Nat → Int32) (f k : Nat) : Nat → Int32 := fun q => if f + q < k then R (f + q) else W q
theorem lp_piece {p l f u : Nat} {nm : Int32} {s3 s5 : Option Value} (hu : u ≤ 800) (hf : f ≤ u) : ∀ (r k : Nat), k + r = u → f ≤ k →
    Ex E d (32, 90, [some (.ref o), some (.int (nI p)), some (.int nm), s3, some (.int (nI l)), s5, some (.int (nI f)), some (.int (nI u)), some (.int (nI k)), none], []) (mh g o (mst S R (rcp R W f k) c n)) (32, 120, [some (.ref o), some (.int (nI p)), some (.int nm), s3, some (.int (nI l)), s5, some (.int (nI f)), some (.int (nI u)), none, none], []) (mh g o (mst S R (rcp R W f u) c n)) := by
  intro r
  induction r with
  | zero =>
    intro k hk hfk
    rcases (show k = u by omega) with rfl
    refine Ex.tr (F1 := (32, 92, _, _)) (x_iload rfl rfl) ?_
    refine Ex.tr (F1 := (32, 94, _, _)) (x_iload rfl rfl) ?_
    refine Ex.tr (F1 := (32, 120, _, _)) (x_icT rfl (tg := 120) rfl (by show nI k ≤ nI k; exact nI_le (Nat.le_refl _) (by omega))) ?_
    exact x_wk ⟨Or.inr rfl, Or.inr rfl, Or.inr rfl, Or.inr rfl, Or.inr rfl, Or.inr rfl, Or.inr rfl, Or.inr rfl, Or.inl rfl, Or.inr rfl, trivial⟩
  | succ r ih =>
    intro k hk hfk
    have h9 := ih (k + 1) (by omega) (by omega)
    have hR : rup (rcp R W f k) (k - f) (R k) = rcp R W f (k + 1) := by
      funext q
      unfold rup rcp
      by_cases z : q = k - f
      · rw [if_pos z, if_pos (by omega), show f + q = k by omega]
      · rw [if_neg z]
        by_cases z2 : f + q < k
        · rw [if_pos z2, if_pos (by omega)]
        · rw [if_neg z2, if_neg (by omega)]
    rw [← hR, ← mst_A6, ← nI_1 k] at h9
    refine Ex.tr (F1 := (32, 92, _, _)) (x_iload rfl rfl) ?_
    refine Ex.tr (F1 := (32, 94, _, _)) (x_iload rfl rfl) ?_
    refine Ex.tr (F1 := (32, 97, _, _)) (x_icF rfl (tg := 120) rfl (by show ¬ nI u ≤ nI k; exact nI_ge (by omega) (by omega))) ?_
    refine Ex.tr (F1 := (32, 98, _, _)) (x_aload_n rfl rfl rfl) ?_
    refine Ex.tr (F1 := (32, 101, _, _)) (m_get rfl rfl (Nat.le_of_ble_eq_true rfl)) ?_
    refine Ex.tr (F1 := (32, 103, _, _)) (x_iload rfl rfl) ?_
    refine Ex.tr (F1 := (32, 105, _, _)) (x_iload rfl rfl) ?_
    refine Ex.tr (F1 := (32, 106, _, _)) (x_isub rfl) ?_
    refine Ex.tr (F1 := (32, 107, _, _)) (x_aload_n rfl rfl rfl) ?_
    refine Ex.tr (F1 := (32, 110, _, _)) (m_get rfl rfl (Nat.le_of_ble_eq_true rfl)) ?_
    refine Ex.tr (F1 := (32, 112, _, _)) (x_iload rfl rfl) ?_
    refine Ex.tr (F1 := (32, 113, _, _)) (m_iald (k := 5) (n := k) rfl rfl rfl rfl (show k < 800 by omega)) ?_
    refine Ex.tr (F1 := (32, 114, _, _)) (m_iast (k := 6) (n := k - f) rfl rfl rfl (Nat.le_of_ble_eq_true rfl) (pk_sub (by omega)) (show k - f < 800 by omega)) ?_
    refine Ex.tr (F1 := (32, 117, [_, _, _, _, _, _, _, _, _, _], _)) (x_iinc (i := 8) rfl rfl) ?_
    refine Ex.tr (F1 := (32, 90, _, _)) (x_goto rfl rfl) ?_
    exact h9
theorem rcp_tok {X : List It} {f : Nat} (hX : TokAt R f X) : TokAt (rcp R W f (f + tsum X)) 0 X := by
  refine TokAt_shift hX (fun j hj => ?_)
  unfold rcp
  rw [Nat.zero_add, if_pos (by omega)]
theorem choose_tail {A X Y C : List It} {nm : Int32} {e : It} {f u : Nat} {s3 s5 : Option Value} (hM : PM R n (A ++ (Y ++ C))) (hX : TokAt R f X) (hfu : f + tsum X = u) (he : Tok1 R u e) (he9 : e.1 = 9) (hu : u + 3 ≤ 400) (hY : 3 ≤ tsum Y) :
    ∃ R' W' : Nat → Int32, Rk E (d + 2) (32, 86, [some (.ref o), some (.int (nI (tsum A))), some (.int nm), s3, some (.int (nI (tsum A + tsum Y - 3))), s5, some (.int (nI f)), some (.int (nI u)), none, none], []) (mh g o (mst S R W c n)) (some (.int (nI (tsum A)))) (mh g o (mst S R' W' (rup c 1 (c 1 + 1)) (nI (tsum (A ++ (X ++ C)))))) ∧ TokAt R' 0 ((A ++ (X ++ C)).map (isb nm e.2.2.2.1)) := by
  obtain ⟨m1, m2, m3⟩ := hM
  have hcut := TokAt_cut (A := A) (X := Y) (B := C) m1
  have hz : tsum (A ++ (Y ++ C)) = tsum A + tsum Y + tsum C := by rw [tsum_app, tsum_app]; omega
  rw [hz] at hcut m2 m3
  have hAC : tsum (A ++ C) = tsum A + tsum Y + tsum C - (tsum A + tsum Y - tsum A) := by rw [tsum_app]; omega
  have hAC2 : tsum (A ++ C) = tsum A + tsum C := tsum_app A C
  have hW := rcp_tok (W := W) hX
  rw [hfu] at hW
  have hins := TokAt_ins (A := A) (X := X) (B := C) hcut hW
  have hAXC : tsum (A ++ (X ++ C)) = tsum (A ++ C) + tsum X := by rw [tsum_app, tsum_app, tsum_app]; omega
  obtain ⟨k, en, dt, ⟨a1, a2⟩, eb⟩ := e
  have he9 : k = 9 := he9
  subst he9
  obtain ⟨R', r1, r2⟩ := c_standsFor (E := E) (d := d) (o := o) (g := g) (S := mst S (rins (rcut R (tsum A) (tsum A + tsum Y) (tsum A + tsum Y + tsum C)) (rcp R W f u) (tsum A) (tsum X) (tsum (A ++ C))) (rcp R W f u) c (nI (tsum (A ++ (X ++ C))))) (nm := nm) (bk := a1) (bv := a2) (P := A ++ (X ++ C)) rfl (by omega) hins rfl
  rw [mst_R] at r1
  have hct := c_cut (E := E) (d := d + 1) (o := o) (g := g) (S := mst S R (rcp R W f u) c n) (f := tsum A) (u := tsum A + tsum Y) (len := tsum A + tsum Y + tsum C) m2 (by omega) (by omega) (by omega)
  rw [mst_R, mst_4, ← hAC] at hct
  have hit := c_insert (E := E) (d := d + 1) (o := o) (g := g) (S := mst S (rcut R (tsum A) (tsum A + tsum Y) (tsum A + tsum Y + tsum C)) (rcp R W f u) c (nI (tsum (A ++ C)))) (f := tsum A) (n := tsum X) (len := tsum (A ++ C)) rfl (by omega) (by omega)
  rw [mst_R, mst_4, ← hAXC] at hit
  refine ⟨R', rcp R W f u, ?_, r2⟩
  rw [← mst_A7]
  have hlp := lp_piece (E := E) (d := d + 2) (o := o) (g := g) (S := S) (R := R) (W := W) (c := c) (n := n) (p := tsum A) (l := tsum A + tsum Y - 3) (f := f) (u := u) (nm := nm) (s3 := s3) (s5 := s5) (by omega) (by omega) (u - f) f (by omega) (Nat.le_refl f)
  have hW0 : rcp R W f f = W := by
    funext q
    unfold rcp
    rw [if_neg (by omega)]
  rw [hW0] at hlp
  obtain ⟨h0, rfl, rfl⟩ := he
  refine Rk.tr (F1 := (32, 88, _, _)) (x_iload rfl rfl) ?_
  refine Rk.tr (F1 := (32, 90, [_, _, _, _, _, _, _, _, _, _], _)) (x_istore (i := 8) rfl (Nat.le_of_ble_eq_true rfl)) ?_
  refine Rk.tr hlp ?_
  refine Rk.tr (F1 := (32, 121, _, _)) (x_aload_n rfl rfl rfl) ?_
  refine Rk.tr (F1 := (32, 124, _, _)) (m_get rfl rfl (Nat.le_of_ble_eq_true rfl)) ?_
  refine Rk.tr (F1 := (32, 126, _, _)) (x_iload rfl rfl) ?_
  refine Rk.tr (F1 := (32, 127, _, _)) (x_iconst rfl) ?_
  refine Rk.tr (F1 := (32, 128, _, _)) (x_iadd rfl) ?_
  refine Rk.tr (F1 := (32, 129, _, _)) (m_iald (k := 5) (n := u + 1) rfl rfl rfl (nI_1 u) (show u + 1 < 800 by omega)) ?_
  refine Rk.tr (F1 := (32, 131, [_, _, _, _, _, _, _, _, _, _], _)) (x_istore (i := 8) rfl (Nat.le_of_ble_eq_true rfl)) ?_
  refine Rk.tr (F1 := (32, 132, _, _)) (x_aload_n rfl rfl rfl) ?_
  refine Rk.tr (F1 := (32, 135, _, _)) (m_get rfl rfl (Nat.le_of_ble_eq_true rfl)) ?_
  refine Rk.tr (F1 := (32, 137, _, _)) (x_iload rfl rfl) ?_
  refine Rk.tr (F1 := (32, 138, _, _)) (x_iconst rfl) ?_
  refine Rk.tr (F1 := (32, 139, _, _)) (x_iadd rfl) ?_
  refine Rk.tr (F1 := (32, 140, _, _)) (m_iald (k := 5) (n := u + 2) rfl rfl rfl (nI_add u 2) (show u + 2 < 800 by omega)) ?_
  refine Rk.tr (F1 := (32, 142, [_, _, _, _, _, _, _, _, _, _], _)) (x_istore (i := 9) rfl (Nat.le_of_ble_eq_true rfl)) ?_
  refine Rk.tr (F1 := (32, 143, _, _)) (x_aload_n rfl rfl rfl) ?_
  refine Rk.tr (F1 := (32, 144, _, _)) (x_iload_n rfl rfl) ?_
  refine Rk.tr (F1 := (32, 146, _, _)) (x_iload rfl rfl) ?_
  refine Rk.tr (F1 := (32, 147, _, _)) (x_iconst rfl) ?_
  refine Rk.tr (F1 := (32, 148, _, _)) (x_iadd rfl) ?_
  refine Rk.tr (F1 := (32, 148, _, _)) (x_top (y := nI (tsum A + tsum Y)) (by show nI (tsum A + tsum Y - 3) + nI 3 = _; rw [nI_add]; congr 1; omega)) ?_
  refine Rk.tr (F1 := (32, 151, _, _)) (m_call (As := [_, _]) rfl rfl rfl (Or.inr rfl) rfl rfl rfl (Nat.le_of_ble_eq_true rfl) hct rfl) ?_
  refine Rk.tr (F1 := (32, 152, _, _)) (x_aload_n rfl rfl rfl) ?_
  refine Rk.tr (F1 := (32, 153, _, _)) (x_iload_n rfl rfl) ?_
  refine Rk.tr (F1 := (32, 155, _, _)) (x_iload rfl rfl) ?_
  refine Rk.tr (F1 := (32, 157, _, _)) (x_iload rfl rfl) ?_
  refine Rk.tr (F1 := (32, 158, _, _)) (x_isub rfl) ?_
  refine Rk.tr (F1 := (32, 158, _, _)) (x_top (y := nI (tsum X)) (by show nI u - nI f = _; rw [pk_sub (by omega)]; congr 1; omega)) ?_
  refine Rk.tr (F1 := (32, 161, _, _)) (m_call (As := [_, _]) rfl rfl rfl (Or.inr rfl) rfl rfl rfl (Nat.le_of_ble_eq_true rfl) hit rfl) ?_
  refine Rk.tr (F1 := (32, 162, _, _)) (x_aload_n rfl rfl rfl) ?_
  refine Rk.tr (F1 := (32, 163, _, _)) (x_iload_n rfl rfl) ?_
  refine Rk.tr (F1 := (32, 165, _, _)) (x_iload rfl rfl) ?_
  refine Rk.tr (F1 := (32, 167, _, _)) (x_iload rfl rfl) ?_
  refine Rk.tr (F1 := (32, 170, _, _)) (m_call (As := [_, _, _]) rfl rfl rfl (Or.inr rfl) rfl rfl rfl (Nat.le_of_ble_eq_true rfl) r1 rfl) ?_
  refine Rk.tr (F1 := (32, 171, _, _)) (x_aload_n rfl rfl rfl) ?_
  refine Rk.tr (F1 := (32, 174, _, _)) (m_get rfl rfl (Nat.le_of_ble_eq_true rfl)) ?_
  refine Rk.tr (F1 := (32, 175, _, _)) (x_iconst rfl) ?_
  refine Rk.tr (F1 := (32, 176, _, _)) (x_dup2 rfl rfl rfl) ?_
  refine Rk.tr (F1 := (32, 177, _, _)) (m_iald (k := 7) (n := 1) rfl rfl rfl rfl (Nat.le_of_ble_eq_true rfl)) ?_
  refine Rk.tr (F1 := (32, 178, _, _)) (x_iconst rfl) ?_
  refine Rk.tr (F1 := (32, 179, _, _)) (x_iadd rfl) ?_
  refine Rk.tr (F1 := (32, 180, _, _)) (m_iast (k := 7) (n := 1) rfl rfl rfl (Nat.le_of_ble_eq_true rfl) rfl (Nat.le_of_ble_eq_true rfl)) ?_
  refine Rk.tr (F1 := (32, 181, _, _)) (x_iload_n rfl rfl) ?_
  exact Rk.end rfl (Or.inr (Or.inl ⟨rfl, _, .int, rfl, rfl, rfl, rfl⟩))
end M8
