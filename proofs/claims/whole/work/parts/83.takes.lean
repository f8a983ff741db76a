/-! ===== the class: the program is made ===== -/
def mkP (h : PH) (row : Nat) (nn : Int32) : PH := (fun q => if q = h.2.1 then some (6, [.ref row, .int nn, .ref (h.2.1 + 1)]) else if q = h.2.1 + 1 then some (100, iar 4 (fun _ => 0)) else h.1 q, h.2.1 + 2, h.2.2 + 7)
theorem mkP_old {h : PH} {row q : Nat} {nn : Int32} {c : PC} (hw : Wf h) (hq : h.1 q = some c) : (mkP h row nn).1 q = some c := by
  have := hw q c hq
  show (if q = h.2.1 then _ else if q = h.2.1 + 1 then _ else h.1 q) = _
  rw [if_neg (by omega), if_neg (by omega)]; exact hq
theorem mkP_wf {h : PH} {row : Nat} {nn : Int32} (hw : Wf h) : Wf (mkP h row nn) := fun q c hq => by
  show q < h.2.1 + 2
  by_cases e0 : q = h.2.1
  · omega
  · by_cases e1 : q = h.2.1 + 1
    · omega
    · have hq' : h.1 q = some c := by
        have : (mkP h row nn).1 q = h.1 q := by
          show (if q = h.2.1 then _ else if q = h.2.1 + 1 then _ else h.1 q) = _
          rw [if_neg e0, if_neg e1]
        rw [← this]; exact hq
      have := hw q c hq'
      omega
section M60
variable {E : PE} {d : Nat} {h : PH} {O : Nat → Nat × Nat} {G : PG} {kz at0 k dr : Nat} {cs : Nat → Int32} {len : Int32} {M : Mn} {fr : Bool}
theorem c_prog0 {row : Nat} {nn : Int32} : Rn E d 67 [.ref h.2.1, .ref row, .int nn] (pnew h (6, pdef 6)) none (mkP h row nn) := by
  have n0 : (pnew h (6, pdef 6)).1 h.2.1 = some (6, [.null, .int 0, .null]) := pnew_at
  have n3 : (pnew (pset (pset (pnew h (6, pdef 6)) h.2.1 (6, [.ref row, .int 0, .null])) h.2.1 (6, [.ref row, .int nn, .null])) (100, List.replicate 4 (.int 0))).1 h.2.1 = some (6, [.ref row, .int nn, .null]) := (pnew_ne (by show h.2.1 ≠ h.2.1 + 1; omega)).trans pset_at
  have e : pset (pnew (pset (pset (pnew h (6, pdef 6)) h.2.1 (6, [.ref row, .int 0, .null])) h.2.1 (6, [.ref row, .int nn, .null])) (100, List.replicate 4 (.int 0))) h.2.1 (6, [.ref row, .int nn, .ref (h.2.1 + 1)]) = mkP h row nn := by
    refine Prod.ext (funext fun q => ?_) rfl
    show (if q = h.2.1 then _ else if q = h.2.1 + 1 then _ else if q = h.2.1 then _ else if q = h.2.1 then _ else if q = h.2.1 then _ else h.1 q) = (if q = h.2.1 then _ else if q = h.2.1 + 1 then _ else h.1 q)
    by_cases e0 : q = h.2.1
    · simp only [if_pos e0]
    · by_cases e1 : q = h.2.1 + 1
      · simp only [if_neg e0, if_pos e1]
        rfl
      · simp only [if_neg e0, if_neg e1]
  rw [← e]
  refine Rn.of (Nat.le_of_ble_eq_true rfl) ?_
  refine Rk.tr (F1 := (67, 1, _, _)) (x_aload_n rfl rfl rfl) ?_
  refine Rk.tr (F1 := (67, 4, _, _)) (x_obj rfl rfl rfl (by decide)) ?_
  refine Rk.tr (F1 := (67, 5, _, _)) (x_aload_n rfl rfl rfl) ?_
  refine Rk.tr (F1 := (67, 6, _, _)) (x_aload_n rfl rfl rfl) ?_
  refine Rk.tr (F1 := (67, 9, _, _)) (x_putf rfl rfl n0 rfl rfl rfl) ?_
  refine Rk.tr (F1 := (67, 10, _, _)) (x_aload_n rfl rfl rfl) ?_
  refine Rk.tr (F1 := (67, 11, _, _)) (x_iload_n rfl rfl) ?_
  refine Rk.tr (F1 := (67, 14, _, _)) (x_putf rfl rfl pset_at rfl rfl rfl) ?_
  refine Rk.tr (F1 := (67, 15, _, _)) (x_aload_n rfl rfl rfl) ?_
  refine Rk.tr (F1 := (67, 16, _, _)) (x_iconst rfl) ?_
  refine Rk.tr (F1 := (67, 18, _, _)) (x_newa (j := 0) (n := 4) rfl rfl rfl (by decide) ac_int rfl (by decide) (by decide)) ?_
  refine Rk.tr (F1 := (67, 21, _, _)) (x_putf rfl rfl n3 rfl rfl rfl) ?_
  exact Rk.end rfl (Or.inl ⟨rfl, rfl, rfl, rfl⟩)
/-- the three ends of takeProgram -/
theorem c_takeN {n : Nat} (hG : GH E h O G) (x : KvH h O kz cs (nI n) at0 M fr k dr) (hs : stH E h) (hn : n ≤ 60) (hsy : ¬ sy cs n 61 0 = some n) : Rn E (d + 2) 87 [.ref kz] h (some .null) (pset h kz (3, kcl kz 0 at0 fr k dr)) := by
  obtain ⟨x1, G1, c1⟩ := KvH.put (len' := 0) (at' := at0) (fr' := fr) (k' := k) (dr' := dr) hG x
  have hs1 : stH E (pset h kz (3, kcl kz 0 at0 fr k dr)) := ⟨(pset_ne (fun z => by have := x.1; rw [← z, hs.1] at this; cases this)).trans hs.1, (pset_ne (fun z => by have := x.1; rw [← z, hs.2] at this; cases this)).trans hs.2⟩
  have ct := c_oneT (E := E) (d := d) x1 hs1 hn
  rw [if_neg hsy] at ct
  have zx := x.1
  have zy := x1.1
  refine Rn.of (Nat.le_of_ble_eq_true rfl) ?_
  refine Rk.tr (F1 := (87, 1, _, _)) (x_aload_n rfl rfl rfl) ?_
  refine Rk.tr (F1 := (87, 4, _, _)) (x_getf rfl rfl zx rfl) ?_
  refine Rk.tr (F1 := (87, 5, [_, _, _], _)) (x_istore_n (i := 1) rfl (Nat.le_of_ble_eq_true rfl)) ?_
  refine Rk.tr (F1 := (87, 6, _, _)) (x_aload_n rfl rfl rfl) ?_
  refine Rk.tr (F1 := (87, 7, _, _)) (x_iconst rfl) ?_
  refine Rk.tr (F1 := (87, 10, _, _)) (x_putf rfl rfl zx rfl rfl rfl) ?_
  refine Rk.tr (F1 := (87, 11, _, _)) (x_aload_n rfl rfl rfl) ?_
  refine Rk.tr (F1 := (87, 12, _, _)) (x_iload_n rfl rfl) ?_
  refine Rk.tr (F1 := (87, 15, _, _)) (x_callv (As := [_]) rfl rfl rfl (Or.inr rfl) rfl rfl zy (by decide) rfl (Nat.le_of_ble_eq_true rfl) ct rfl) ?_
  refine Rk.tr (F1 := (87, 18, _, _)) (x_ifF rfl (tg := 20) rfl (fun q => q rfl)) ?_
  refine Rk.tr (F1 := (87, 19, _, _)) (x_null rfl) ?_
  exact Rk.end rfl (Or.inr (Or.inr (Or.inr ⟨rfl, _, _, rfl, Or.inl ⟨_, rfl⟩, Or.inl rfl, rfl, rfl⟩)))
theorem c_takeY {n : Nat} (hG : GH E h O G) (x : KvH h O kz cs (nI n) at0 (fun _ => none) fr k dr) (hs : stH E h) (hn : n ≤ 60) (hsy : sy cs n 61 0 = some n) :
    ∃ (h' : PH) (O' : Nat → Nat × Nat) (G' : PG) (a : Nat) (Q : List AI), GH E h' O' G' ∧ KvH h' O' kz cs 0 n (fun _ => none) (cv cs 61 (fun _ => none) 0 0).2.2.2.2.2 (cv cs 61 (fun _ => none) 0 0).2.2.2.1 (cv cs 61 (fun _ => none) 0 0).2.2.2.2.1 ∧ WA G' [(a, [])] Q [] ∧ AP Q = cvP cs ∧ h.2.1 ≤ a ∧ NewG h G h' G' a Q ∧ ChP kz (kz + 2) (kz + 2) O h O' h' ∧ h'.2.1 ≤ h.2.1 + 3 + 12 * n ∧ h'.2.2 ≤ h.2.2 + 7 + 300 * n ∧
      ((cv cs 61 (fun _ => none) 0 0).2.2.2.2.2 = true → Rn E (d + 196) 87 [.ref kz] h (some .null) h') ∧ ((cv cs 61 (fun _ => none) 0 0).2.2.2.2.2 = false → Rn E (d + 196) 87 [.ref kz] h (some (.ref h'.2.1)) (mkP h' a (nI (cv cs 61 (fun _ => none) 0 0).2.2.2.1))) := by
  have hw := hG.1
  obtain ⟨x1, G1, c1⟩ := KvH.put (len' := 0) (at' := at0) (fr' := fr) (k' := k) (dr' := dr) hG x
  have hs1 : stH E (pset h kz (3, kcl kz 0 at0 fr k dr)) := ⟨(pset_ne (fun z => by have := x.1; rw [← z, hs.1] at this; cases this)).trans hs.1, (pset_ne (fun z => by have := x.1; rw [← z, hs.2] at this; cases this)).trans hs.2⟩
  have ct := c_oneT (E := E) (d := d + 194) x1 hs1 hn
  rw [if_pos hsy] at ct
  obtain ⟨x2, G2, c2⟩ := KvH.put (len' := 0) (at' := 0) (fr' := fr) (k' := k) (dr' := dr) G1 x1
  obtain ⟨x3, G3, c3⟩ := KvH.put (len' := 0) (at' := 0) (fr' := false) (k' := k) (dr' := dr) G2 x2
  obtain ⟨x4, G4, c4⟩ := KvH.put (len' := 0) (at' := 0) (fr' := false) (k' := 0) (dr' := dr) G3 x3
  obtain ⟨x5, G5, c5⟩ := KvH.put (len' := 0) (at' := 0) (fr' := false) (k' := 0) (dr' := 0) G4 x4
  have zx := x.1
  have y1 := x1.1
  have y2 := x2.1
  have y3 := x3.1
  have y4 := x4.1
  have y5 := x5.1
  have c15 := (((c1.tr hw c2).tr hw c3).tr hw c4).tr hw c5
  have z5 : (pset (pset (pset (pset (pset h kz (3, kcl kz 0 at0 fr k dr)) kz (3, kcl kz 0 0 fr k dr)) kz (3, kcl kz 0 0 false k dr)) kz (3, kcl kz 0 0 false 0 dr)) kz (3, kcl kz 0 0 false 0 0)).2 = h.2 := rfl
  generalize hh5 : pset (pset (pset (pset (pset h kz (3, kcl kz 0 at0 fr k dr)) kz (3, kcl kz 0 0 fr k dr)) kz (3, kcl kz 0 0 false k dr)) kz (3, kcl kz 0 0 false 0 dr)) kz (3, kcl kz 0 0 false 0 0) = h5 at x5 G5 c5 y5 c15 z5
  have e5 : h5.2.1 = h.2.1 := by rw [z5]
  have e5' : h5.2.2 = h.2.2 := by rw [z5]
  obtain ⟨h6, O6, G6, a, Q, b1, b2, b3, b4, b5, b6, b7, b8, b9, b10⟩ := c_rowT (E := E) (d := d + 1) (M := fun _ => none) (R := 0) (D := 0) (at_all kz cs n 61) hsy G5 x5 (by omega) (Nat.le_refl _) (by omega) hn
  have nq := (cv_nums 61 (fun _ => none) 0 0 n hsy).1
  have hcvP : (cv cs 61 (fun _ => none) 0 0).1 ++ [iRes (cv cs 61 (fun _ => none) 0 0).2.1] = cvP cs := rfl
  rw [hcvP] at b5
  generalize cv cs 61 (fun _ => none) 0 0 = c at *
  rw [nq] at b3 b9 b10
  have emax : max 0 (0 + c.2.2.2.2.1) = c.2.2.2.2.1 := by omega
  rw [emax, Bool.false_or] at b3
  have zz := b3.1
  rw [show d + 1 + 3 * 61 + 11 = d + 195 by omega] at b1
  refine ⟨h6, O6, G6, a, Q, b2, b3, b4, b5, by omega, b7.later (by omega), c15.tr hw b8, by omega, by omega, fun hf => Rn.of (Nat.le_of_ble_eq_true rfl) ?_, fun hf => Rn.of (Nat.le_of_ble_eq_true rfl) ?_⟩
  · rw [hf] at zz
    subst hh5
    refine Rk.tr (F1 := (87, 1, _, _)) (x_aload_n rfl rfl rfl) ?_
    refine Rk.tr (F1 := (87, 4, _, _)) (x_getf rfl rfl zx rfl) ?_
    refine Rk.tr (F1 := (87, 5, [_, _, _], _)) (x_istore_n (i := 1) rfl (Nat.le_of_ble_eq_true rfl)) ?_
    refine Rk.tr (F1 := (87, 6, _, _)) (x_aload_n rfl rfl rfl) ?_
    refine Rk.tr (F1 := (87, 7, _, _)) (x_iconst rfl) ?_
    refine Rk.tr (F1 := (87, 10, _, _)) (x_putf rfl rfl zx rfl rfl rfl) ?_
    refine Rk.tr (F1 := (87, 11, _, _)) (x_aload_n rfl rfl rfl) ?_
    refine Rk.tr (F1 := (87, 12, _, _)) (x_iload_n rfl rfl) ?_
    refine Rk.tr (F1 := (87, 15, _, _)) (x_callv (As := [_]) rfl rfl rfl (Or.inr rfl) rfl rfl y1 (by decide) rfl (Nat.le_of_ble_eq_true rfl) ct rfl) ?_
    refine Rk.tr (F1 := (87, 20, _, _)) (x_ifT rfl (tg := 20) rfl (show ¬ (1 : Int32) = 0 by decide)) ?_
    refine Rk.tr (F1 := (87, 21, _, _)) (x_aload_n rfl rfl rfl) ?_
    refine Rk.tr (F1 := (87, 22, _, _)) (x_iconst rfl) ?_
    refine Rk.tr (F1 := (87, 25, _, _)) (x_putf rfl rfl y1 rfl rfl rfl) ?_
    refine Rk.tr (F1 := (87, 26, _, _)) (x_aload_n rfl rfl rfl) ?_
    refine Rk.tr (F1 := (87, 27, _, _)) (x_iconst rfl) ?_
    refine Rk.tr (F1 := (87, 30, _, _)) (x_putf rfl rfl y2 rfl rfl rfl) ?_
    refine Rk.tr (F1 := (87, 31, _, _)) (x_aload_n rfl rfl rfl) ?_
    refine Rk.tr (F1 := (87, 32, _, _)) (x_iconst rfl) ?_
    refine Rk.tr (F1 := (87, 35, _, _)) (x_putf rfl rfl y3 rfl rfl rfl) ?_
    refine Rk.tr (F1 := (87, 36, _, _)) (x_aload_n rfl rfl rfl) ?_
    refine Rk.tr (F1 := (87, 37, _, _)) (x_iconst rfl) ?_
    refine Rk.tr (F1 := (87, 40, _, _)) (x_putf rfl rfl y4 rfl rfl rfl) ?_
    refine Rk.tr (F1 := (87, 41, _, _)) (x_aload_n rfl rfl rfl) ?_
    refine Rk.tr (F1 := (87, 42, _, _)) (x_iconst rfl) ?_
    refine Rk.tr (F1 := (87, 43, _, _)) (x_iconst rfl) ?_
    refine Rk.tr (F1 := (87, 46, _, _)) (x_callv (As := [_, _]) rfl rfl rfl (Or.inr rfl) rfl rfl y5 (by decide) rfl (Nat.le_of_ble_eq_true rfl) b1 rfl) ?_
    refine Rk.tr (F1 := (87, 47, [_, _, _], _)) (x_astore_n (i := 2) rfl (Nat.le_of_ble_eq_true rfl)) ?_
    refine Rk.tr (F1 := (87, 48, _, _)) (x_aload_n rfl rfl rfl) ?_
    refine Rk.tr (F1 := (87, 51, _, _)) (x_getf rfl rfl zz rfl) ?_
    refine Rk.tr (F1 := (87, 54, _, _)) (x_ifF rfl (tg := 58) rfl (show ¬ (1 : Int32) = 0 by decide)) ?_
    refine Rk.tr (F1 := (87, 55, _, _)) (x_null rfl) ?_
    refine Rk.tr (F1 := (87, 70, _, _)) (x_goto rfl rfl) ?_
    exact Rk.end rfl (Or.inr (Or.inr (Or.inr ⟨rfl, _, _, rfl, Or.inl ⟨_, rfl⟩, Or.inl rfl, rfl, rfl⟩)))
  · rw [hf] at zz
    have zn := pnew_old b2.1 (c := (6, pdef 6)) zz
    have cp := c_prog0 (E := E) (d := d + 195) (h := h6) (row := a) (nn := nI c.2.2.2.1)
    subst hh5
    refine Rk.tr (F1 := (87, 1, _, _)) (x_aload_n rfl rfl rfl) ?_
    refine Rk.tr (F1 := (87, 4, _, _)) (x_getf rfl rfl zx rfl) ?_
    refine Rk.tr (F1 := (87, 5, [_, _, _], _)) (x_istore_n (i := 1) rfl (Nat.le_of_ble_eq_true rfl)) ?_
    refine Rk.tr (F1 := (87, 6, _, _)) (x_aload_n rfl rfl rfl) ?_
    refine Rk.tr (F1 := (87, 7, _, _)) (x_iconst rfl) ?_
    refine Rk.tr (F1 := (87, 10, _, _)) (x_putf rfl rfl zx rfl rfl rfl) ?_
    refine Rk.tr (F1 := (87, 11, _, _)) (x_aload_n rfl rfl rfl) ?_
    refine Rk.tr (F1 := (87, 12, _, _)) (x_iload_n rfl rfl) ?_
    refine Rk.tr (F1 := (87, 15, _, _)) (x_callv (As := [_]) rfl rfl rfl (Or.inr rfl) rfl rfl y1 (by decide) rfl (Nat.le_of_ble_eq_true rfl) ct rfl) ?_
    refine Rk.tr (F1 := (87, 20, _, _)) (x_ifT rfl (tg := 20) rfl (show ¬ (1 : Int32) = 0 by decide)) ?_
    refine Rk.tr (F1 := (87, 21, _, _)) (x_aload_n rfl rfl rfl) ?_
    refine Rk.tr (F1 := (87, 22, _, _)) (x_iconst rfl) ?_
    refine Rk.tr (F1 := (87, 25, _, _)) (x_putf rfl rfl y1 rfl rfl rfl) ?_
    refine Rk.tr (F1 := (87, 26, _, _)) (x_aload_n rfl rfl rfl) ?_
    refine Rk.tr (F1 := (87, 27, _, _)) (x_iconst rfl) ?_
    refine Rk.tr (F1 := (87, 30, _, _)) (x_putf rfl rfl y2 rfl rfl rfl) ?_
    refine Rk.tr (F1 := (87, 31, _, _)) (x_aload_n rfl rfl rfl) ?_
    refine Rk.tr (F1 := (87, 32, _, _)) (x_iconst rfl) ?_
    refine Rk.tr (F1 := (87, 35, _, _)) (x_putf rfl rfl y3 rfl rfl rfl) ?_
    refine Rk.tr (F1 := (87, 36, _, _)) (x_aload_n rfl rfl rfl) ?_
    refine Rk.tr (F1 := (87, 37, _, _)) (x_iconst rfl) ?_
    refine Rk.tr (F1 := (87, 40, _, _)) (x_putf rfl rfl y4 rfl rfl rfl) ?_
    refine Rk.tr (F1 := (87, 41, _, _)) (x_aload_n rfl rfl rfl) ?_
    refine Rk.tr (F1 := (87, 42, _, _)) (x_iconst rfl) ?_
    refine Rk.tr (F1 := (87, 43, _, _)) (x_iconst rfl) ?_
    refine Rk.tr (F1 := (87, 46, _, _)) (x_callv (As := [_, _]) rfl rfl rfl (Or.inr rfl) rfl rfl y5 (by decide) rfl (Nat.le_of_ble_eq_true rfl) b1 rfl) ?_
    refine Rk.tr (F1 := (87, 47, [_, _, _], _)) (x_astore_n (i := 2) rfl (Nat.le_of_ble_eq_true rfl)) ?_
    refine Rk.tr (F1 := (87, 48, _, _)) (x_aload_n rfl rfl rfl) ?_
    refine Rk.tr (F1 := (87, 51, _, _)) (x_getf rfl rfl zz rfl) ?_
    refine Rk.tr (F1 := (87, 58, _, _)) (x_ifT rfl (tg := 58) rfl rfl) ?_
    refine Rk.tr (F1 := (87, 61, _, _)) (x_new rfl rfl (by decide)) ?_
    refine Rk.tr (F1 := (87, 62, _, _)) (x_dup rfl rfl) ?_
    refine Rk.tr (F1 := (87, 63, _, _)) (x_aload_n rfl rfl rfl) ?_
    refine Rk.tr (F1 := (87, 64, _, _)) (x_aload_n rfl rfl rfl) ?_
    refine Rk.tr (F1 := (87, 67, _, _)) (x_getf rfl rfl zn rfl) ?_
    refine Rk.tr (F1 := (87, 70, _, _)) (x_calli (As := [_, _]) rfl rfl rfl rfl rfl rfl (Nat.le_of_ble_eq_true rfl) cp rfl) ?_
    exact Rk.end rfl (Or.inr (Or.inr (Or.inr ⟨rfl, _, _, rfl, Or.inl ⟨_, rfl⟩, Or.inr ⟨_, rfl⟩, rfl, rfl⟩)))
end M60
