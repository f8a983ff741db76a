/-! ===== the class: written, convert ===== -/
theorem sch_of {h : PH} {z nu n0 : Nat} {T : Nat → Int32} (h1 : h.1 z = some (8, [.ref nu, .int (nI n0)])) (h2 : h.1 nu = some (100, sarr T)) : h = sch h z nu T n0 := by
  refine Prod.ext (funext fun q => ?_) rfl
  show h.1 q = (if q = z then _ else if q = nu then _ else h.1 q)
  by_cases e1 : q = z
  · rw [if_pos e1, e1, h1]
  · by_cases e2 : q = nu
    · rw [if_neg e1, if_pos e2, e2, h2]
    · rw [if_neg e1, if_neg e2]
theorem WA_below {E : PE} {h : PH} {O : Nat → Nat × Nat} {G : PG} (hG : GH E h O G) : ∀ {Q : List AI} {s s' : ES}, WA G s Q s' → ∀ q ∈ Q, q.2 < h.2.1
  | [], s, s', _, q, hq => absurd hq List.not_mem_nil
  | (it, x) :: Q, [], s', hW, q, hq => hW.elim
  | (it, x) :: Q, (a, p) :: s, s', hW, q, hq => by
    rcases hW with ⟨h9, hx, hg, hW⟩ | ⟨h9, rs, hg, hl, hW⟩
    · rcases List.mem_cons.mp hq with hq | hq
      · rw [hq]
        obtain ⟨l, e, cap, y, q1, -⟩ := hG.2.2.1 a p _ hg
        show x < h.2.1
        rw [hx]; exact hG.1 _ _ q1
      · exact WA_below hG hW q hq
    · rcases List.mem_cons.mp hq with hq | hq
      · rw [hq]
        obtain ⟨at0, ar, xs, dt, b1, -⟩ := hG.2.2.2 x it rs hg
        exact hG.1 _ _ b1
      · exact WA_below hG hW q hq
section M63
variable {E : PE} {d : Nat} {h : PH} {O : Nat → Nat × Nat} {G : PG} {x n : Nat} {cs rn : Nat → Int32} {W : Option PW}
theorem t_written {w : PW} (hC : ClH E h O G x n cs (some w) rn) : ∃ (h' : PH) (T : Nat → Int32), ClH E h' O G x n cs (some w) rn ∧ Kp h h' x ∧ h'.2 = h.2 ∧ TokAt T 0 (AP w.1) ∧ (∀ j, j < tsum (AP w.1) → Rn E (d + 144) 61 [.ref x, .int (nI j)] h (some (.int (T j))) h') ∧ ∀ k : Int32, k < 0 ∨ nI (tsum (AP w.1)) ≤ k → Ex E (d + 144) (61, 0, pent [.ref x, .int k] (mmax 61), []) h (61, 40, pent [.ref x, .int k] (mmax 61), []) h' := by
  obtain ⟨c1, c2, c3, c4, c5, c6, ⟨T, n0, s1, s2⟩, c8, c9⟩ := hC
  obtain ⟨p1, p2, p3, p4, p5, p6, p7⟩ := c9 w rfl
  have eh := sch_of s1 s2
  have hne : x + 7 ≠ x + 8 := by omega
  have same : ∀ (T' : Nat → Int32) (k' : Nat) q t fs, h.1 q = some (t, fs) → q ≠ x + 7 → q ≠ x + 8 → (sch h (x + 7) (x + 8) T' k').1 q = some (t, fs) := fun T' k' q t fs hq e1 e2 => ((pset_ne e1).trans (pset_ne e2)).trans hq
  have hG : ∀ T' k', GH E (sch h (x + 7) (x + 8) T' k') O G := fun T' k' => (c1.setn (c := (100, sarr T')) s2 (by unfold gcl; omega)).setn ((pset_ne hne).trans s1) (by unfold gcl; omega)
  obtain ⟨T', m1, m2⟩ := c_wprog (E := E) (d := d) (T := T) (k := n0) hne hG p1 (by omega) (by omega) p5 p7.2.2
  rw [← eh] at m1
  have htg : ∀ q t fs, h.1 q = some (t, fs) → 107 ≤ t → q ≠ x + 7 ∧ q ≠ x + 8 := fun q t fs hq ht => ⟨fun z => by rw [z, s1] at hq; cases hq; omega, fun z => by rw [z, s2] at hq; cases hq; omega⟩
  have c4' : h.1 x = some (9, [.ref (x + 1), .ref (x + 4), .ref (x + 7), .ref (x + 9), .ref w.2.2.1]) := c4
  have c4b := same T' (tsum (AP w.1)) _ _ _ c4' (by omega) (by omega)
  have z7 : (sch h (x + 7) (x + 8) T' (tsum (AP w.1))).1 (x + 7) = some (8, [.ref (x + 8), .int (nI (tsum (AP w.1)))]) := sch_z
  have z8 : (sch h (x + 7) (x + 8) T' (tsum (AP w.1))).1 (x + 8) = some (100, sarr T') := sch_n hne
  have h210 := p7.2.2
  refine ⟨sch h (x + 7) (x + 8) T' (tsum (AP w.1)), T', ⟨hG _ _, c2.keep (fun q t fs ht hq => same _ _ _ _ _ hq (htg q t fs hq ht).1 (htg q t fs hq ht).2), c3, same _ _ _ _ _ c4 (by omega) (by omega), c5.keep (fun q t fs hq h1 => same _ _ _ _ _ h1 (by omega) (by omega)) rfl, c6.keep (fun q t fs hq h1 => same _ _ _ _ _ h1 (by omega) (by omega)) rfl, ⟨T', tsum (AP w.1), z7, z8⟩, c8.keep (fun q t fs h1 h2 h3 => same _ _ _ _ _ h3 (by omega) (by omega)), fun w' hw' => ?_⟩, fun q t fs hq ht => ?_, rfl, m2, fun j hj => Rn.of (Nat.le_of_ble_eq_true rfl) ?_, fun k hk => ?_⟩
  · cases hw'
    exact ⟨same _ _ _ _ _ p1 (by omega) (by omega), same _ _ _ _ _ p2 (by omega) (by omega), p3, p4, p5, p6, p7⟩
  · rcases ht with ⟨h1, h2, h3⟩ | ht
    · exact same _ _ _ _ _ hq (by omega) (by omega)
    · exact same _ _ _ _ _ hq (htg q t fs hq ht).1 (htg q t fs hq ht).2
  · refine Rk.tr (F1 := (61, 1, _, _)) (x_aload_n rfl rfl rfl) ?_
    refine Rk.tr (F1 := (61, 4, _, _)) (x_getf rfl rfl c4' rfl) ?_
    refine Rk.tr (F1 := (61, 7, _, _)) (x_nullF rfl) ?_
    refine Rk.tr (F1 := (61, 8, _, _)) (x_aload_n rfl rfl rfl) ?_
    refine Rk.tr (F1 := (61, 11, _, _)) (x_getf rfl rfl c4' rfl) ?_
    refine Rk.tr (F1 := (61, 12, _, _)) (x_aload_n rfl rfl rfl) ?_
    refine Rk.tr (F1 := (61, 15, _, _)) (x_getf rfl rfl c4' rfl) ?_
    refine Rk.tr (F1 := (61, 18, _, _)) (x_callv (As := [_]) rfl rfl rfl (Or.inl rfl) rfl rfl s1 (by decide) rfl (Nat.le_of_ble_eq_true rfl) m1 rfl) ?_
    refine Rk.tr (F1 := (61, 19, _, _)) (x_aload_n rfl rfl rfl) ?_
    refine Rk.tr (F1 := (61, 22, _, _)) (x_getf rfl rfl c4b rfl) ?_
    refine Rk.tr (F1 := (61, 25, _, _)) (x_nullF rfl) ?_
    refine Rk.tr (F1 := (61, 26, _, _)) (x_iload_n rfl rfl) ?_
    refine Rk.tr (F1 := (61, 29, _, _)) (x_ifF rfl (tg := 40) rfl (show ¬ nI j < nI 0 from Int32.not_lt.mpr (nI_le (by omega) (by omega)))) ?_
    refine Rk.tr (F1 := (61, 30, _, _)) (x_iload_n rfl rfl) ?_
    refine Rk.tr (F1 := (61, 31, _, _)) (x_aload_n rfl rfl rfl) ?_
    refine Rk.tr (F1 := (61, 34, _, _)) (x_getf rfl rfl c4b rfl) ?_
    refine Rk.tr (F1 := (61, 37, _, _)) (x_getf rfl rfl z7 rfl) ?_
    refine Rk.tr (F1 := (61, 50, _, _)) (x_icT rfl (tg := 50) rfl (show nI j < nI (tsum (AP w.1)) from Int32.not_le.mp (nI_ge (by omega) (by omega)))) ?_
    refine Rk.tr (F1 := (61, 51, _, _)) (x_aload_n rfl rfl rfl) ?_
    refine Rk.tr (F1 := (61, 54, _, _)) (x_getf rfl rfl c4b rfl) ?_
    refine Rk.tr (F1 := (61, 57, _, _)) (x_getf rfl rfl z7 rfl) ?_
    refine Rk.tr (F1 := (61, 58, _, _)) (x_iload_n rfl rfl) ?_
    refine Rk.tr (F1 := (61, 59, _, _)) (x_iald (n := j) rfl z8 rfl rfl (by omega) (sarr_at (by omega))) ?_
    exact Rk.end rfl (Or.inr (Or.inl ⟨rfl, _, .int, rfl, rfl, rfl, rfl⟩))
  · by_cases k0 : k < 0
    · refine Ex.tr (F1 := (61, 1, _, _)) (x_aload_n rfl rfl rfl) ?_
      refine Ex.tr (F1 := (61, 4, _, _)) (x_getf rfl rfl c4' rfl) ?_
      refine Ex.tr (F1 := (61, 7, _, _)) (x_nullF rfl) ?_
      refine Ex.tr (F1 := (61, 8, _, _)) (x_aload_n rfl rfl rfl) ?_
      refine Ex.tr (F1 := (61, 11, _, _)) (x_getf rfl rfl c4' rfl) ?_
      refine Ex.tr (F1 := (61, 12, _, _)) (x_aload_n rfl rfl rfl) ?_
      refine Ex.tr (F1 := (61, 15, _, _)) (x_getf rfl rfl c4' rfl) ?_
      refine Ex.tr (F1 := (61, 18, _, _)) (x_callv (As := [_]) rfl rfl rfl (Or.inl rfl) rfl rfl s1 (by decide) rfl (Nat.le_of_ble_eq_true rfl) m1 rfl) ?_
      refine Ex.tr (F1 := (61, 19, _, _)) (x_aload_n rfl rfl rfl) ?_
      refine Ex.tr (F1 := (61, 22, _, _)) (x_getf rfl rfl c4b rfl) ?_
      refine Ex.tr (F1 := (61, 25, _, _)) (x_nullF rfl) ?_
      refine Ex.tr (F1 := (61, 26, _, _)) (x_iload_n rfl rfl) ?_
      refine Ex.tr (F1 := (61, 40, _, _)) (x_ifT rfl (tg := 40) rfl k0) ?_
      exact Ex.rf
    · have k1 := hk.resolve_left k0
      refine Ex.tr (F1 := (61, 1, _, _)) (x_aload_n rfl rfl rfl) ?_
      refine Ex.tr (F1 := (61, 4, _, _)) (x_getf rfl rfl c4' rfl) ?_
      refine Ex.tr (F1 := (61, 7, _, _)) (x_nullF rfl) ?_
      refine Ex.tr (F1 := (61, 8, _, _)) (x_aload_n rfl rfl rfl) ?_
      refine Ex.tr (F1 := (61, 11, _, _)) (x_getf rfl rfl c4' rfl) ?_
      refine Ex.tr (F1 := (61, 12, _, _)) (x_aload_n rfl rfl rfl) ?_
      refine Ex.tr (F1 := (61, 15, _, _)) (x_getf rfl rfl c4' rfl) ?_
      refine Ex.tr (F1 := (61, 18, _, _)) (x_callv (As := [_]) rfl rfl rfl (Or.inl rfl) rfl rfl s1 (by decide) rfl (Nat.le_of_ble_eq_true rfl) m1 rfl) ?_
      refine Ex.tr (F1 := (61, 19, _, _)) (x_aload_n rfl rfl rfl) ?_
      refine Ex.tr (F1 := (61, 22, _, _)) (x_getf rfl rfl c4b rfl) ?_
      refine Ex.tr (F1 := (61, 25, _, _)) (x_nullF rfl) ?_
      refine Ex.tr (F1 := (61, 26, _, _)) (x_iload_n rfl rfl) ?_
      refine Ex.tr (F1 := (61, 29, _, _)) (x_ifF rfl (tg := 40) rfl k0) ?_
      refine Ex.tr (F1 := (61, 30, _, _)) (x_iload_n rfl rfl) ?_
      refine Ex.tr (F1 := (61, 31, _, _)) (x_aload_n rfl rfl rfl) ?_
      refine Ex.tr (F1 := (61, 34, _, _)) (x_getf rfl rfl c4b rfl) ?_
      refine Ex.tr (F1 := (61, 37, _, _)) (x_getf rfl rfl z7 rfl) ?_
      refine Ex.tr (F1 := (61, 40, _, _)) (x_icF rfl (tg := 50) rfl (Int32.not_lt.mpr k1)) ?_
      exact Ex.rf
/-- the heap is greater, the converter is changed, all else is as it was -/
theorem ClH.ext {h' : PH} {O' : Nat → Nat × Nat} {G' : PG} {a n' : Nat} {Q : List AI} (hC : ClH E h O G x n cs W rn) (g1 : GH E h' O' G') (g2 : KvN h' O' x n' cs) (hn : n' ≤ 60) (g3 : NewG h G h' G' a Q) (ha : h.2.1 ≤ a) (g4 : ChP (x + 1) (x + 1 + 2) (x + 1 + 2) O h O' h') : ClH E h' O' G' x n' cs W rn ∧ Kp h h' x := by
  obtain ⟨c1, c2, c3, c4, c5, c6, c7, c8, c9⟩ := hC
  obtain ⟨at0, k0, dr, fr, x1, x2, x3, ms, x4, x5⟩ := c5
  have kp : ∀ q t fs, h.1 q = some (t, fs) → t ≠ 7 → t ≠ 0 → t ≠ 106 → t ≠ 103 → q ≠ x + 1 → q ≠ x + 3 → h'.1 q = some (t, fs) := fun q t fs hq a b c d e f => g4.2.2.2 q t fs hq a b c (by omega) e f f
  have hst : ∀ q t fs, 107 ≤ t → h.1 q = some (t, fs) → h'.1 q = some (t, fs) := fun q t fs ht hq => kp q t fs hq (by omega) (by omega) (by omega) (by omega) (fun z => by rw [z, x1] at hq; cases hq; omega) (fun z => by rw [z, x4] at hq; cases hq; omega)
  refine ⟨⟨g1, c2.keep hst, hn, kp _ _ _ c4 (by decide) (by decide) (by decide) (by decide) (by omega) (by omega), g2, ?_, ?_, ?_, fun w hw => ?_⟩, fun q t fs hq ht => ?_⟩
  · obtain ⟨z1, ⟨pf, z2⟩, z3, lf, z4⟩ := c6
    exact ⟨kp _ _ _ z1 (by decide) (by decide) (by decide) (by decide) (by omega) (by omega), ⟨pf, kp _ _ _ z2 (by decide) (by decide) (by decide) (by decide) (by omega) (by omega)⟩, by rw [g4.1 _ (c1.1 _ _ z2)]; exact z3, lf, kp _ _ _ z4 (by decide) (by decide) (by decide) (by decide) (by omega) (by omega)⟩
  · obtain ⟨T, n0, z1, z2⟩ := c7
    exact ⟨T, n0, kp _ _ _ z1 (by decide) (by decide) (by decide) (by decide) (by omega) (by omega), kp _ _ _ z2 (by decide) (by decide) (by decide) (by decide) (by omega) (by omega)⟩
  · obtain ⟨T, z1, z2⟩ := c8
    refine ⟨T, fun j hj => ?_, z2⟩
    obtain ⟨t, fs, e, ht⟩ := mcc_some (z := x + 9) (T := T) hj
    rw [e]
    exact kp _ _ _ ((z1 j hj).trans e) (by omega) (by omega) (by omega) (by omega) (by omega) (by omega)
  · obtain ⟨p1, p2, p3, p4, p5, p6, p7⟩ := c9 w hw
    refine ⟨kp _ _ _ p1 (by decide) (by decide) (by decide) (by decide) (by omega) (by omega), kp _ _ _ p2 (by decide) (by decide) (by decide) (by decide) (by omega) (by omega), p3, p4, ?_, p6, p7⟩
    have hb := WA_below c1 p5
    exact WA_frame (fun q hq => ⟨fun _ => g3.1 q.2 (hb q hq) (by have := hb q hq; omega), fun _ => g3.2.1 q.2 (hb q hq)⟩) p5
  · rcases ht with ⟨h1, h2, h3⟩ | ht
    · exact kp q t fs hq (by omega) (by omega) (by omega) (by omega) (by omega) (by omega)
    · exact hst q t fs ht hq
theorem ClH.mkP {a : Nat} {nn : Int32} (hC : ClH E h O G x n cs W rn) : ClH E (mkP h a nn) O G x n cs W rn ∧ Kp h (mkP h a nn) x := by
  obtain ⟨c1, c2, c3, c4, c5, c6, c7, c8, c9⟩ := hC
  have hw := c1.1
  refine ⟨⟨c1.mono (mkP_wf hw) (fun _ _ => rfl) (fun q t fs hq _ => mkP_old hw hq), c2.keep (fun q t fs _ hq => mkP_old hw hq), c3, mkP_old hw c4, c5.keep (fun q t fs _ hq => mkP_old hw hq) rfl, c6.keep (fun q t fs _ hq => mkP_old hw hq) rfl, c7.keep (fun q t fs _ hq => mkP_old hw hq), c8.keep (fun q t fs _ _ hq => mkP_old hw hq), fun w hw' => ?_⟩, fun q t fs hq _ => mkP_old hw hq⟩
  obtain ⟨p1, p2, p3⟩ := c9 w hw'
  exact ⟨mkP_old hw p1, mkP_old hw p2, p3⟩
/-- convert, when it makes a program -/
theorem t_conv (hC : ClH E h O G x n cs W rn) (hx : x + 42 ≤ h.2.1) (hg : GdP cs n) (hd : (cv cs 61 (fun _ => none) 0 0).2.2.2.2.1 ≤ 8) : ∃ (h' : PH) (O' : Nat → Nat × Nat) (G' : PG) (w : PW), Rn E (d + 197) 55 [.ref x] h (some (.int (nI (cntB (cvP cs))))) h' ∧ ClH E h' O' G' x 0 cs (some w) rn ∧ AP w.1 = cvP cs ∧ w.2.2.2.2.1 = nI (cv cs 61 (fun _ => none) 0 0).2.2.2.1 ∧ w.2.2.2.2.2 = (fun _ => 0) ∧ Kp h h' x ∧ h'.2.1 ≤ h.2.1 + 5 + 12 * n ∧ h'.2.2 ≤ h.2.2 + 14 + 300 * n := by
  obtain ⟨c1, c2, c3, c4, ⟨at0, k0, dr, fr, c5⟩, c6, c7, c8, c9⟩ := id hC
  obtain ⟨h1, O1, G1, a, Q, a1, a2, a3, a4, a5, a6, a7, a8, a9, -, a11⟩ := c_takeY (E := E) (d := d) c1 c5 c2 c3 hg.1
  have r1 := a11 hg.2
  have hI := cvP_inv c3 hg.1
  obtain ⟨e1, e2⟩ := hC.ext a1 (n' := 0) ⟨_, _, _, _, a2⟩ (by omega) a6 a5 a7
  obtain ⟨f1, f2⟩ := e1.mkP (a := a) (nn := nI (cv cs 61 (fun _ => none) 0 0).2.2.2.1)
  have s1 := a7.2.1
  have zk := c5.1
  have zk1 := mkP_old (row := a) (nn := nI (cv cs 61 (fun _ => none) 0 0).2.2.2.1) a1.1 a2.1
  generalize hc : cv cs 61 (fun _ => none) 0 0 = c at *
  generalize hm : mkP h1 a (nI c.2.2.2.1) = hp at *
  have hsz : hp.2 = (h1.2.1 + 2, h1.2.2 + 7) := by rw [← hm]; rfl
  have y6 : hp.1 h1.2.1 = some (6, [.ref a, .int (nI c.2.2.2.1), .ref (h1.2.1 + 1)]) := by rw [← hm]; exact if_pos rfl
  have y7 : hp.1 (h1.2.1 + 1) = some (100, iar 4 (fun _ => 0)) := by
    rw [← hm]
    show (if h1.2.1 + 1 = h1.2.1 then _ else if h1.2.1 + 1 = h1.2.1 + 1 then _ else _) = _
    rw [if_neg (by omega), if_pos rfl]
  obtain ⟨d1, d2, d3, d4, d5, d6, d7, d8, d9⟩ := id f1
  have ne : ∀ q t fs, hp.1 q = some (t, fs) → t ≠ 9 → (pset hp x (9, [.ref (x + 1), .ref (x + 4), .ref (x + 7), .ref (x + 9), .ref h1.2.1])).1 q = some (t, fs) := fun q t fs hq ht => by
    rw [pset_ne]; exact hq
    intro z
    rw [z, d4] at hq; cases hq; exact ht rfl
  have g2 : GH E (pset hp x (9, [.ref (x + 1), .ref (x + 4), .ref (x + 7), .ref (x + 9), .ref h1.2.1])) O1 G1 := d1.setn d4 (by unfold gcl; omega)
  have tg : ∀ q t fs, hp.1 q = some (t, fs) → q ≠ x → (pset hp x (9, [.ref (x + 1), .ref (x + 4), .ref (x + 7), .ref (x + 9), .ref h1.2.1])).1 q = some (t, fs) := fun q t fs hq hne => (pset_ne hne).trans hq
  have ra := y6
  have ab := c_allB (E := E) (d := d + 123) g2 a3 (by rw [a4]; exact hI.2.2)
  rw [a4] at ab
  obtain ⟨⟨bs0, r0, hr0⟩, -⟩ := WA_mem a3 List.mem_cons_self
  obtain ⟨l0, e0, cap0, x0, q1, -⟩ := g2.2.2.1 a _ r0 hr0
  refine ⟨pset hp x (9, [.ref (x + 1), .ref (x + 4), .ref (x + 7), .ref (x + 9), .ref h1.2.1]), O1, G1, (Q, a, h1.2.1, h1.2.1 + 1, nI c.2.2.2.1, fun _ => 0), Rn.of (Nat.le_of_ble_eq_true rfl) ?_, ⟨g2, d2.keep (fun q t fs ht hq => ne q t fs hq (by omega)), by omega, pset_at, d5.keep (fun q t fs hq h1 => tg q t fs h1 (by omega)) rfl, d6.keep (fun q t fs hq h1 => tg q t fs h1 (by omega)) rfl, d7.keep (fun q t fs hq h1 => tg q t fs h1 (by omega)), d8.keep (fun q t fs h1 h2 h3 => tg q t fs h3 (by omega)), fun w' hw' => ?_⟩, a4, rfl, rfl, (e2.tr f2).tr (fun q t fs hq ht => ne q t fs hq (by omega)), ?_, ?_⟩
  · refine Rk.tr (F1 := (55, 1, _, _)) (x_aload_n rfl rfl rfl) ?_
    refine Rk.tr (F1 := (55, 4, _, _)) (x_getf rfl rfl c4 rfl) ?_
    refine Rk.tr (F1 := (55, 7, _, _)) (x_callv (As := []) rfl rfl rfl (Or.inl rfl) rfl rfl zk (by decide) rfl (Nat.le_of_ble_eq_true rfl) r1 rfl) ?_
    refine Rk.tr (F1 := (55, 8, [_, _], _)) (x_astore_n (i := 1) rfl (Nat.le_of_ble_eq_true rfl)) ?_
    refine Rk.tr (F1 := (55, 9, _, _)) (x_aload_n rfl rfl rfl) ?_
    refine Rk.tr (F1 := (55, 22, _, _)) (x_nnullT rfl (tg := 22) rfl) ?_
    refine Rk.tr (F1 := (55, 23, _, _)) (x_aload_n rfl rfl rfl) ?_
    refine Rk.tr (F1 := (55, 26, _, _)) (x_getf rfl rfl d4 rfl) ?_
    refine Rk.tr (F1 := (55, 29, _, _)) (x_getf rfl rfl zk1 rfl) ?_
    refine Rk.tr (F1 := (55, 31, _, _)) (x_bipush rfl) ?_
    refine Rk.tr (F1 := (55, 44, _, _)) (x_icT rfl (tg := 44) rfl (show nI c.2.2.2.2.1 ≤ nI 8 from nI_le (by omega) (by omega))) ?_
    refine Rk.tr (F1 := (55, 45, _, _)) (x_aload_n rfl rfl rfl) ?_
    refine Rk.tr (F1 := (55, 46, _, _)) (x_aload_n rfl rfl rfl) ?_
    refine Rk.tr (F1 := (55, 49, _, _)) (x_putf rfl rfl d4 rfl rfl rfl) ?_
    refine Rk.tr (F1 := (55, 50, _, _)) (x_aload_n rfl rfl rfl) ?_
    refine Rk.tr (F1 := (55, 53, _, _)) (x_getf rfl rfl (ne _ _ _ y6 (by decide)) rfl) ?_
    refine Rk.tr (F1 := (55, 56, _, _)) (x_callv (As := []) rfl rfl rfl (Or.inl rfl) rfl rfl q1 (by decide) rfl (Nat.le_of_ble_eq_true rfl) ab rfl) ?_
    exact Rk.end rfl (Or.inr (Or.inl ⟨rfl, _, .int, rfl, rfl, rfl, rfl⟩))
  · cases hw'
    exact ⟨ne _ _ _ y6 (by decide), ne _ _ _ y7 (by decide), by show x + 42 ≤ h1.2.1; omega, by show x + 42 ≤ h1.2.1 + 1; omega, a3, a6.2.2.2, by show Inv (AP Q); rw [a4]; exact hI⟩
  · show hp.2.1 ≤ _
    rw [hsz]
    show h1.2.1 + 2 ≤ _
    omega
  · show hp.2.2 ≤ _
    rw [hsz]
    show h1.2.2 + 7 ≤ _
    omega
end M63
