/-! ===== the class: its object as a whole ===== -/
/-- the program: its annotated items, row, object, steps' array, names, steps -/
abbrev PW : Type := List AI × Nat × Nat × Nat × Int32 × (Nat → Int32)
def pvW : Option PW → Value
  | none => .null
  | some w => .ref w.2.2.1
def KvN (h : PH) (O : Nat → Nat × Nat) (x n : Nat) (cs : Nat → Int32) : Prop := ∃ (at0 k dr : Nat) (fr : Bool), KvH h O (x + 1) cs (nI n) at0 (fun _ => none) fr k dr
def PsN (h : PH) (O : Nat → Nat × Nat) (x : Nat) : Prop := h.1 (x + 4) = some (5, [.ref (x + 5), .ref (x + 6)]) ∧ (∃ pf : Nat → Value, h.1 (x + 5) = some (104, par pf)) ∧ (O (x + 5)).2 = 9 ∧ ∃ lf : Nat → Int32, h.1 (x + 6) = some (100, iar 40 lf)
def ScN (h : PH) (x : Nat) : Prop := ∃ (T : Nat → Int32) (n0 : Nat), h.1 (x + 7) = some (8, [.ref (x + 8), .int (nI n0)]) ∧ h.1 (x + 8) = some (100, sarr T)
def McN (h : PH) (x : Nat) (rn : Nat → Int32) : Prop := ∃ T : MT, (∀ j, j ≤ 5 → h.1 (x + 9 + j) = mcc (x + 9) T j) ∧ T.1 8 = rn 0 ∧ T.1 9 = rn 1 ∧ T.1 10 = rn 2 ∧ T.1 11 = rn 3 ∧ (rn 1 = 0 ∨ rn 1 = 1)
def progH (h : PH) (G : PG) (x : Nat) (w : PW) : Prop := h.1 w.2.2.1 = some (6, [.ref w.2.1, .int w.2.2.2.2.1, .ref w.2.2.2.1]) ∧ h.1 w.2.2.2.1 = some (100, iar 4 w.2.2.2.2.2) ∧ x + 42 ≤ w.2.2.1 ∧ x + 42 ≤ w.2.2.2.1 ∧ WA G [(w.2.1, [])] w.1 [] ∧ (w.1.map Prod.snd).Nodup ∧ Inv (AP w.1)
def ClH (E : PE) (h : PH) (O : Nat → Nat × Nat) (G : PG) (x n : Nat) (cs : Nat → Int32) (W : Option PW) (rn : Nat → Int32) : Prop :=
  GH E h O G ∧ stH E h ∧ n ≤ 60 ∧ h.1 x = some (9, [.ref (x + 1), .ref (x + 4), .ref (x + 7), .ref (x + 9), pvW W]) ∧ KvN h O x n cs ∧ PsN h O x ∧ ScN h x ∧ McN h x rn ∧ ∀ w, W = some w → progH h G x w
/-- the law's own cells and the reference's, and what is static -/
def Kp (h h' : PH) (x : Nat) : Prop := ∀ q t fs, h.1 q = some (t, fs) → (x + 15 ≤ q ∧ q ≤ x + 41 ∧ (t = 10 ∨ t = 100 ∨ t = 101 ∨ t = 102)) ∨ 107 ≤ t → h'.1 q = some (t, fs)
theorem Kp.rf {h : PH} {x : Nat} : Kp h h x := fun _ _ _ hq _ => hq
theorem Kp.tr {h h1 h2 : PH} {x : Nat} (a : Kp h h1 x) (b : Kp h1 h2 x) : Kp h h2 x := fun q t fs hq ht => b q t fs (a q t fs hq ht) ht
theorem KvN.keep {h h' : PH} {O O' : Nat → Nat × Nat} {x n : Nat} {cs : Nat → Int32} (a : KvN h O x n cs) (k : ∀ q t fs, (q = x + 1 ∨ q = x + 2 ∨ q = x + 3) → h.1 q = some (t, fs) → h'.1 q = some (t, fs)) (hO : O' (x + 3) = O (x + 3)) : KvN h' O' x n cs := by
  obtain ⟨at0, k0, dr, fr, x1, x2, x3, ms, x4, x5⟩ := a
  refine ⟨at0, k0, dr, fr, k _ _ _ (Or.inl rfl) x1, k _ _ _ (Or.inr (Or.inl rfl)) x2, by show (O' (x + 3)).2 = 9; rw [hO]; exact x3, ms, k _ _ _ (Or.inr (Or.inr rfl)) x4, fun v hv => ?_⟩
  rcases x5 v hv with z | ⟨a, xa, z1, -⟩
  · exact Or.inl z
  · cases z1
theorem PsN.keep {h h' : PH} {O O' : Nat → Nat × Nat} {x : Nat} (a : PsN h O x) (k : ∀ q t fs, (q = x + 4 ∨ q = x + 5 ∨ q = x + 6) → h.1 q = some (t, fs) → h'.1 q = some (t, fs)) (hO : O' (x + 5) = O (x + 5)) : PsN h' O' x := by
  obtain ⟨x1, ⟨pf, x2⟩, x3, lf, x4⟩ := a
  exact ⟨k _ _ _ (Or.inl rfl) x1, ⟨pf, k _ _ _ (Or.inr (Or.inl rfl)) x2⟩, by rw [hO]; exact x3, lf, k _ _ _ (Or.inr (Or.inr rfl)) x4⟩
theorem ScN.keep {h h' : PH} {x : Nat} (a : ScN h x) (k : ∀ q t fs, (q = x + 7 ∨ q = x + 8) → h.1 q = some (t, fs) → h'.1 q = some (t, fs)) : ScN h' x := by
  obtain ⟨T, n0, x1, x2⟩ := a
  exact ⟨T, n0, k _ _ _ (Or.inl rfl) x1, k _ _ _ (Or.inr rfl) x2⟩
theorem mcc_some {z : Nat} {T : MT} {j : Nat} (hj : j ≤ 5) : ∃ t fs, mcc z T j = some (t, fs) ∧ (t = 4 ∨ t = 100 ∨ t = 101 ∨ t = 105) := by
  match j, hj with
  | 0, _ => exact ⟨_, _, rfl, Or.inl rfl⟩
  | 1, _ => exact ⟨_, _, rfl, Or.inr (Or.inl rfl)⟩
  | 2, _ => exact ⟨_, _, rfl, Or.inr (Or.inr (Or.inl rfl))⟩
  | 3, _ => exact ⟨_, _, rfl, Or.inr (Or.inl rfl)⟩
  | 4, _ => exact ⟨_, _, rfl, Or.inr (Or.inr (Or.inr rfl))⟩
  | 5, _ => exact ⟨_, _, rfl, Or.inr (Or.inl rfl)⟩
theorem McN.keep {h h' : PH} {x : Nat} {rn : Nat → Int32} (a : McN h x rn) (k : ∀ q t fs, x + 9 ≤ q → q ≤ x + 14 → h.1 q = some (t, fs) → h'.1 q = some (t, fs)) : McN h' x rn := by
  obtain ⟨T, x1, x2⟩ := a
  refine ⟨T, fun j hj => ?_, x2⟩
  obtain ⟨t, fs, e, -⟩ := mcc_some (z := x + 9) (T := T) hj
  rw [e]
  exact k _ _ _ (by omega) (by omega) ((x1 j hj).trans e)
theorem stH.keep {E : PE} {h h' : PH} (a : stH E h) (k : ∀ q t fs, 107 ≤ t → h.1 q = some (t, fs) → h'.1 q = some (t, fs)) : stH E h' := ⟨k _ _ _ (by omega) a.1, k _ _ _ (by omega) a.2⟩
theorem mch_of {h : PH} {z : Nat} {T : MT} (a : ∀ j, j ≤ 5 → h.1 (z + j) = mcc z T j) : h = mch h z T := by
  refine Prod.ext (funext fun q => ?_) rfl
  show h.1 q = (if z ≤ q ∧ q ≤ z + 5 then mcc z T (q - z) else h.1 q)
  by_cases r : z ≤ q ∧ q ≤ z + 5
  · rw [if_pos r, ← a (q - z) (by omega), Nat.add_sub_cancel' r.1]
  · rw [if_neg r]
section M61
variable {E : PE} {d : Nat} {h : PH} {O : Nat → Nat × Nat} {G : PG} {x n : Nat} {cs rn : Nat → Int32} {W : Option PW}
/-- type -/
theorem t_typeY {v : Int32} (hC : ClH E h O G x n cs W rn) (hn : n < 60) : ∃ h' : PH, Rn E (d + 1) 54 [.ref x, .int v] h (some (.int 1)) h' ∧ ClH E h' O G x (n + 1) (rup cs n v) W rn ∧ h'.2 = h.2 ∧ Kp h h' x := by
  obtain ⟨c1, c2, c3, c4, ⟨at0, k0, dr, fr, c5⟩, c6, c7, c8, c9⟩ := hC
  have r1 := c_typeY (E := E) (d := d) (v := v) c1 c5 hn
  obtain ⟨x1, x2, x3, ms, x4, x5⟩ := id c5
  have ne : ∀ q t fs, q ≠ x + 1 → q ≠ x + 2 → h.1 q = some (t, fs) → (pset (pset h (x + 1 + 1) (100, iar 60 (rup cs n v))) (x + 1) (3, kcl (x + 1) (nI (n + 1)) at0 fr k0 dr)).1 q = some (t, fs) := fun q t fs e1 e2 hq => ((pset_ne e1).trans (pset_ne e2)).trans hq
  have hs1 : E.2.1 0 ≠ x + 1 ∧ E.2.1 0 ≠ x + 2 := ⟨(fun z => by have := c2.1; rw [z, x1] at this; cases this), (fun z => by have := c2.1; rw [z, x2] at this; cases this)⟩
  have hs2 : E.2.1 1 ≠ x + 1 ∧ E.2.1 1 ≠ x + 2 := ⟨(fun z => by have := c2.2; rw [z, x1] at this; cases this), (fun z => by have := c2.2; rw [z, x2] at this; cases this)⟩
  have g1 : GH E (pset h (x + 1 + 1) (100, iar 60 (rup cs n v))) O G := c1.setn x2 (by unfold gcl; omega)
  have g2 : GH E (pset (pset h (x + 1 + 1) (100, iar 60 (rup cs n v))) (x + 1) (3, kcl (x + 1) (nI (n + 1)) at0 fr k0 dr)) O G := g1.setn ((pset_ne (by omega)).trans x1) (by unfold gcl; omega)
  refine ⟨_, Rn.of (Nat.le_of_ble_eq_true rfl) ?_, ⟨g2, ⟨ne _ _ _ hs1.1 hs1.2 c2.1, ne _ _ _ hs2.1 hs2.2 c2.2⟩, by omega, ne _ _ _ (by omega) (by omega) c4, ⟨at0, k0, dr, fr, pset_at, (pset_ne (by omega)).trans pset_at, x3, ms, ne _ _ _ (by omega) (by omega) x4, fun u hu => ?_⟩, c6.keep (fun q t fs hq => ne q t fs (by omega) (by omega)) rfl, c7.keep (fun q t fs hq => ne q t fs (by omega) (by omega)), c8.keep (fun q t fs h1 h2 => ne q t fs (by omega) (by omega)), fun w hw => ?_⟩, rfl, fun q t fs hq ht => ?_⟩
  · have zx := x1
    refine Rk.tr (F1 := (54, 1, _, _)) (x_aload_n rfl rfl rfl) ?_
    refine Rk.tr (F1 := (54, 4, _, _)) (x_getf rfl rfl c4 rfl) ?_
    refine Rk.tr (F1 := (54, 5, _, _)) (x_iload_n rfl rfl) ?_
    refine Rk.tr (F1 := (54, 8, _, _)) (x_callv (As := [_]) rfl rfl rfl (Or.inl rfl) rfl rfl zx (by decide) rfl (Nat.le_of_ble_eq_true rfl) r1 rfl) ?_
    exact Rk.end rfl (Or.inr (Or.inl ⟨rfl, _, .boolean, rfl, rfl, rfl, rfl⟩))
  · rcases x5 u hu with z | ⟨a, xa, z1, -⟩
    · exact Or.inl z
    · cases z1
  · obtain ⟨p1, p2, p3, p4, p5⟩ := c9 w hw
    exact ⟨ne _ _ _ (by omega) (by omega) p1, ne _ _ _ (by omega) (by omega) p2, p3, p4, p5⟩
  · refine ne q t fs (fun z => ?_) (fun z => ?_) hq
    · rw [z, x1] at hq; cases hq; omega
    · rw [z, x2] at hq; cases hq; omega
theorem t_typeN {v : Int32} (hC : ClH E h O G x 60 cs W rn) : Rn E (d + 1) 54 [.ref x, .int v] h (some (.int 0)) h := by
  obtain ⟨c1, c2, c3, c4, ⟨at0, k0, dr, fr, c5⟩, -⟩ := hC
  have r1 := c_typeN (E := E) (d := d) (v := v) c5
  have zx := c5.1
  refine Rn.of (Nat.le_of_ble_eq_true rfl) ?_
  refine Rk.tr (F1 := (54, 1, _, _)) (x_aload_n rfl rfl rfl) ?_
  refine Rk.tr (F1 := (54, 4, _, _)) (x_getf rfl rfl c4 rfl) ?_
  refine Rk.tr (F1 := (54, 5, _, _)) (x_iload_n rfl rfl) ?_
  refine Rk.tr (F1 := (54, 8, _, _)) (x_callv (As := [_]) rfl rfl rfl (Or.inl rfl) rfl rfl zx (by decide) rfl (Nat.le_of_ble_eq_true rfl) r1 rfl) ?_
  exact Rk.end rfl (Or.inr (Or.inl ⟨rfl, _, .boolean, rfl, rfl, rfl, rfl⟩))
/-- what a pass changes of the object -/
theorem ClH.pass {h' : PH} {O' : Nat → Nat × Nat} {G' : PG} {Q' : List AI} {w : PW} {pf' : Nat → Value} {lf' c' : Nat → Int32} (hC : ClH E h O G x n cs (some w) rn) (g1 : GH E h' O' G') (g2 : PsH (x + 4) (x + 5) (x + 6) w.2.2.1 w.2.1 w.2.2.2.1 w.2.2.2.2.1 h' O' pf' lf' c') (g3 : WA G' [(w.2.1, [])] Q' []) (g4 : (Q'.map Prod.snd).Nodup) (g5 : Inv (AP Q')) (g6 : ChP (x + 5) (x + 6) w.2.2.2.1 O h O' h') :
    ClH E h' O' G' x n cs (some (Q', w.2.1, w.2.2.1, w.2.2.2.1, w.2.2.2.2.1, c')) rn ∧ Kp h h' x := by
  obtain ⟨c1, c2, c3, c4, c5, c6, c7, c8, c9⟩ := hC
  obtain ⟨p1, p2, p3, p4, p5, p6, p7⟩ := c9 w rfl
  obtain ⟨y1, y2, y3, y4, y5, y6, y7⟩ := g2
  have kp : ∀ q t fs, h.1 q = some (t, fs) → t ≠ 7 → t ≠ 0 → t ≠ 106 → ¬ (t = 103 ∧ (O q).2 < 9) → q ≠ x + 5 → q ≠ x + 6 → q < x + 42 → h'.1 q = some (t, fs) := fun q t fs hq a b c d e f g => g6.2.2.2 q t fs hq a b c d e f (by omega)
  have hx3 : O' (x + 3) = O (x + 3) ∧ (O (x + 3)).2 = 9 := by
    obtain ⟨at0, k0, dr, fr, x1, x2, x3, ms, x4, x5⟩ := c5
    exact ⟨g6.1 _ (c1.1 _ _ x4), x3⟩
  have hst : ∀ q t fs, 107 ≤ t → h.1 q = some (t, fs) → h'.1 q = some (t, fs) := fun q t fs ht hq => by
    obtain ⟨z1, ⟨pf, z2⟩, z3, lf, z4⟩ := c6
    refine g6.2.2.2 q t fs hq (by omega) (by omega) (by omega) (by omega) (fun z => ?_) (fun z => ?_) (fun z => ?_)
    · rw [z, z2] at hq; cases hq; omega
    · rw [z, z4] at hq; cases hq; omega
    · rw [z, p2] at hq; cases hq; omega
  refine ⟨⟨g1, c2.keep hst, c3, kp _ _ _ c4 (by decide) (by decide) (by decide) (by omega) (by omega) (by omega) (by omega), ?_, ⟨y1, ⟨_, y2⟩, y3, _, y4⟩, ?_, ?_, fun w' hw' => ?_⟩, fun q t fs hq ht => ?_⟩
  · obtain ⟨at0, k0, dr, fr, x1, x2, x3, ms, x4, x5⟩ := c5
    refine ⟨at0, k0, dr, fr, kp _ _ _ x1 (by decide) (by decide) (by decide) (by omega) (by omega) (by omega) (by omega), kp _ _ _ x2 (by decide) (by decide) (by decide) (by omega) (by omega) (by omega) (by omega), by show (O' (x + 3)).2 = 9; rw [hx3.1]; exact hx3.2, ms, kp _ _ _ x4 (by decide) (by decide) (by decide) (fun z => by have e9 : (O (x + 3)).2 < 9 := z.2; have := hx3.2; omega) (by omega) (by omega) (by omega), fun v hv => ?_⟩
    rcases x5 v hv with z | ⟨a, xa, z1, -⟩
    · exact Or.inl z
    · cases z1
  · obtain ⟨T, n0, x1, x2⟩ := c7
    exact ⟨T, n0, kp _ _ _ x1 (by decide) (by decide) (by decide) (by omega) (by omega) (by omega) (by omega), kp _ _ _ x2 (by decide) (by decide) (by decide) (by omega) (by omega) (by omega) (by omega)⟩
  · obtain ⟨T, x1, x2⟩ := c8
    refine ⟨T, fun j hj => ?_, x2⟩
    obtain ⟨t, fs, e, ht⟩ := mcc_some (z := x + 9) (T := T) hj
    rw [e]
    exact kp _ _ _ ((x1 j hj).trans e) (by omega) (by omega) (by omega) (by omega) (by omega) (by omega) (by omega)
  · cases hw'
    exact ⟨y5, y6, p3, p4, g3, g4, g5⟩
  · rcases ht with ⟨h1, h2, h3⟩ | ht
    · exact kp q t fs hq (by omega) (by omega) (by omega) (by omega) (by omega) (by omega) (by omega)
    · exact hst q t fs ht hq
theorem t_pass {w : PW} (hC : ClH E h O G x n cs (some w) rn) : ∃ (h' : PH) (O' : Nat → Nat × Nat) (G' : PG) (Q' : List AI), Rn E (d + 118) 56 [.ref x] h (some (.int (nI (paP (AP w.1) w.2.2.2.2.2).2.1))) h' ∧ ClH E h' O' G' x n cs (some (Q', w.2.1, w.2.2.1, w.2.2.2.1, w.2.2.2.2.1, (paP (AP w.1) w.2.2.2.2.2).2.2)) rn ∧ AP Q' = (paP (AP w.1) w.2.2.2.2.2).1 ∧ Kp h h' x ∧ h'.2.1 ≤ h.2.1 + (paP (AP w.1) w.2.2.2.2.2).2.1 * 53 ∧ h'.2.2 ≤ h.2.2 + (paP (AP w.1) w.2.2.2.2.2).2.1 * 5930 := by
  obtain ⟨c1, c2, c3, c4, c5, ⟨z1, ⟨pf, z2⟩, z3, lf, z4⟩, c7, c8, c9⟩ := id hC
  obtain ⟨p1, p2, p3, p4, p5, p6, p7⟩ := c9 w rfl
  have hP : PsH (x + 4) (x + 5) (x + 6) w.2.2.1 w.2.1 w.2.2.2.1 w.2.2.2.2.1 h O pf lf w.2.2.2.2.2 := ⟨z1, z2, z3, z4, p1, p2, by omega⟩
  obtain ⟨h', O', G', Q', pf', lf', m1, m2, m3, m4, m5, m6, m7, m8, m9, m10⟩ := c_makeOne (E := E) (d := d) c1 hP p5 p6 p7
  obtain ⟨k1, k2⟩ := hC.pass m2 m3 m4 m5 m7 m8
  refine ⟨h', O', G', Q', Rn.of (Nat.le_of_ble_eq_true rfl) ?_, k1, m6, k2, m9, m10⟩
  have c4' : h.1 x = some (9, [.ref (x + 1), .ref (x + 4), .ref (x + 7), .ref (x + 9), .ref w.2.2.1]) := c4
  refine Rk.tr (F1 := (56, 1, _, _)) (x_aload_n rfl rfl rfl) ?_
  refine Rk.tr (F1 := (56, 4, _, _)) (x_getf rfl rfl c4' rfl) ?_
  refine Rk.tr (F1 := (56, 17, _, _)) (x_nnullT rfl (tg := 17) rfl) ?_
  refine Rk.tr (F1 := (56, 18, _, _)) (x_aload_n rfl rfl rfl) ?_
  refine Rk.tr (F1 := (56, 21, _, _)) (x_getf rfl rfl c4' rfl) ?_
  refine Rk.tr (F1 := (56, 22, _, _)) (x_aload_n rfl rfl rfl) ?_
  refine Rk.tr (F1 := (56, 25, _, _)) (x_getf rfl rfl c4' rfl) ?_
  refine Rk.tr (F1 := (56, 28, _, _)) (x_callv (As := [_]) rfl rfl rfl (Or.inl rfl) rfl rfl z1 (by decide) rfl (Nat.le_of_ble_eq_true rfl) m1 rfl) ?_
  exact Rk.end rfl (Or.inr (Or.inl ⟨rfl, _, .int, rfl, rfl, rfl, rfl⟩))
end M61
