/-! ===== the law's eight calls, each on both sides ===== -/
section M98
variable {E : PE} {h h' h0 h1 : PH} {O : Nat → Nat × Nat} {G : PG} {x n A B : Nat} {cs rn : Nat → Int32} {W : Option PW} {S S' : MSt}
theorem st_mh (hm : h1 = mh h1 (x + 15) S) (hh : ∀ q t fs, h0.1 q = some (t, fs) → 107 ≤ t → h1.1 q = some (t, fs)) : ∀ q t fs, h0.1 q = some (t, fs) → 107 ≤ t → (mh h1 (x + 15) S').1 q = some (t, fs) := fun q t fs hq ht => by
  have h2 := hh q t fs hq ht
  rw [mh_ne (fun r => ?_)]
  · exact h2
  · have h3 := h2
    rw [hm] at h3
    have := mh_tag r.1 r.2 h3
    omega
theorem ClH.hx {w : PW} (hC : ClH E h O G x n cs (some w) rn) : x + 42 ≤ h.2.1 := by
  obtain ⟨c1, -, -, -, -, -, -, -, c9⟩ := hC
  obtain ⟨p1, -, p3, -⟩ := c9 w rfl
  have := c1.1 _ _ p1
  omega
theorem JI.mono {A' B' : Nat} (hJ : JI E h0 h x A B) (hA : A ≤ A') (hB : B ≤ B') : JI E h0 h x A' B' := by
  obtain ⟨O, G, S, n, cs, W, rn, j1, j2, j3, j4⟩ := hJ
  exact ⟨O, G, S, n, cs, W, rn, j1, Nat.le_trans j2 hA, Nat.le_trans j3 hB, j4⟩
/-- the class answers r over h1 -/
theorem J_ok {wi ri : Nat} {ps : List Value} {r : Int32} {v1 : Int64} (hW : Wn E 199 wi (.ref x :: (ps ++ [.ref (x + 41)])) h 0 (pset h1 (x + 41) (101, [.long r.toInt64]))) (hC : ClH E h1 O G x n cs W rn) (hm : h1 = mh h1 (x + 15) S) (hx : x + 42 ≤ h1.2.1) (hv : h1.1 (x + 41) = some (101, [.long v1]))
    (hr : ∀ g : PH, Rn E 199 ri (.ref (x + 15) :: ps) (mh g (x + 15) S) (some (.int r)) (mh g (x + 15) S')) (hR : RfR S' n cs W rn) (hk : S'.1 0 = 0)
    (hh : ∀ q t fs, h0.1 q = some (t, fs) → 107 ≤ t → h1.1 q = some (t, fs)) (hA : h1.2.1 + 53 * lW W + 74 * n ≤ A) (hB : h1.2.2 + 5930 * lW W + 7219 * n ≤ B) : ∃ h2, Jt E h0 x wi ri ps h h2 ∧ JI E h0 h2 x A B := by
  obtain ⟨f1, f2, f3⟩ := J_fin (h0 := h0) hW (hC.out hv) (mh_out hm) hx pset_at (hr _) hR hk (fun _ => rfl) (st_out hv hh)
  exact ⟨_, f1, O, G, _, n, cs, W, rn, f2, hA, hB, f3⟩
/-- the class throws over h1 -/
theorem J_no {wi ri : Nat} {ps : List Value} {k b : Int32} {v1 : Int64} (hW : Wn E 199 wi (.ref x :: (ps ++ [.ref (x + 41)])) h k (hthr h1)) (hk0 : k ≠ 0) (hC : ClH E h1 O G x n cs W rn) (hm : h1 = mh h1 (x + 15) S) (hx : x + 42 ≤ h1.2.1) (hv : h1.1 (x + 41) = some (101, [.long v1]))
    (hr : Rn E 199 ri (.ref (x + 15) :: ps) (mh (hthr h1) (x + 15) S) (some (.int b)) (mh (hthr h1) (x + 15) S')) (hR : RfR S' n cs W rn) (hk : S'.1 0 = k)
    (hh : ∀ q t fs, h0.1 q = some (t, fs) → 107 ≤ t → h1.1 q = some (t, fs)) (hA : h1.2.1 + 1 + 53 * lW W + 74 * n ≤ A) (hB : h1.2.2 + 6 + 5930 * lW W + 7219 * n ≤ B) : ∃ h2, Jt E h0 x wi ri ps h h2 ∧ JI E h0 h2 x A B := by
  obtain ⟨f1, f2, f3⟩ := J_fin (h0 := h0) hW hC.thr (mh_thr hm) (Nat.le_succ_of_le hx) hv hr hR hk (fun e => absurd e hk0) hh
  exact ⟨_, f1, O, G, _, n, cs, W, rn, f2, hA, hB, f3⟩
theorem J_type {v : Int32} (hJ : JI E h0 h x A B) : ∃ (b : Int32) (h1 h2 : PH), Rn E 199 54 [.ref x, .int v] h (some (.int b)) h1 ∧ Rn E 199 2 [.ref (x + 15), .int v] h1 (some (.int b)) h2 ∧ (∃ fs, h.1 x = some (9, fs)) ∧ (∃ fs, h1.1 (x + 15) = some (10, fs)) ∧ (∀ q t fs, h0.1 q = some (t, fs) → 107 ≤ t → h1.1 q = some (t, fs)) ∧ JI E h0 h2 x (A + 80) (B + 7320) := by
  obtain ⟨O, G, S, n, cs, W, rn, hJ, hA, hB, hs⟩ := hJ
  obtain ⟨j1, j2, j3, j4, v0, j5⟩ := id hJ
  have h60 : n ≤ 60 := j1.2.2.1
  by_cases hn : n < 60
  · obtain ⟨h1, r1, C1, z1, k1⟩ := t_typeY (d := 198) (v := v) j1 hn
    obtain ⟨m1, v1, hv1⟩ := hJ.kept k1
    have r2 := c_type (E := E) (d := 199) (g := h1) (o := x + 15) (v := v) (S := S) j3.1 hn
    rw [← m1] at r2
    have ha : ∀ k, k ≠ 2 → (msI (msA (msI S 0 0) 2 n v) 1 (S.1 1 + 1)).2 k = S.2 k := fun k hk => funext fun j => if_neg (fun e => hk e.1)
    have hR : RfR (msI (msA (msI S 0 0) 2 n v) 1 (S.1 1 + 1)) (n + 1) (rup cs n v) W rn := by
      refine ⟨?_, ?_, fun j hj => ?_, fun hw => ?_, fun w hw => ?_⟩
      · show S.1 1 + 1 = _
        rw [j3.1]; exact nI_1 _
      · funext j
        show (if 2 = 2 ∧ j = n then v else S.2 2 j) = (if j = n then v else cs j)
        rw [j3.2.1]
        by_cases e : j = n
        · rw [if_pos e, if_pos ⟨rfl, e⟩]
        · rw [if_neg e, if_neg (fun z => e z.2)]
      · rw [ha 42 (by decide)]; exact j3.2.2.1 j hj
      · rw [ha 7 (by decide)]; exact j3.2.2.2.1 hw
      · rw [ha 5 (by decide), ha 7 (by decide)]; exact j3.2.2.2.2 w hw
    have hs1 : h1.2.1 = h.2.1 := by rw [z1]
    have hs2 : h1.2.2 = h.2.2 := by rw [z1]
    refine ⟨1, h1, _, r1, r2, ⟨_, j1.2.2.2.1⟩, mh_oo m1, k1.st hs, O, G, _, n + 1, _, W, rn, Jn.step (by omega) C1 m1 hv1 hR, ?_, ?_, st_mh m1 (k1.st hs)⟩
    · show h1.2.1 + 53 * lW W + 74 * (n + 1) ≤ _
      omega
    · show h1.2.2 + 5930 * lW W + 7219 * (n + 1) ≤ _
      omega
  · have e : n = 60 := by omega
    subst e
    have r1 := t_typeN (d := 198) (v := v) j1
    have r2 := c_type60 (E := E) (d := 199) (g := h) (o := x + 15) (v := v) (S := S) j3.1
    rw [← j2] at r2
    refine ⟨0, h, _, r1, r2, ⟨_, j1.2.2.2.1⟩, mh_oo j2, hs, O, G, _, 60, cs, W, rn, Jn.step j4 j1 j2 j5 j3.z0, ?_, ?_, st_mh j2 hs⟩
    · show h.2.1 + 53 * lW W + 74 * 60 ≤ _
      omega
    · show h.2.2 + 5930 * lW W + 7219 * 60 ≤ _
      omega
theorem J_pass (hJ : JI E h0 h x A B) : ∃ h2, Jt E h0 x 145 23 [] h h2 ∧ JI E h0 h2 x (A + 80) (B + 7320) := by
  obtain ⟨O, G, S, n, cs, W, rn, hJ, hA, hB, hs⟩ := hJ
  obtain ⟨j1, j2, j3, j4, v0, j5⟩ := id hJ
  have c4 := j1.2.2.2.1
  cases W with
  | none =>
    have r2 := c_pass0 (E := E) (d := 198) (g := hthr h) (o := x + 15) (S := S) (j3.2.2.2.1 rfl).1
    exact J_no (w_145a (y := x + 41) c4 (t_pass0 (d := 198) j1)) (by decide) j1 j2 j4 j5 r2 j3.z0 rfl hs (by omega) (by omega)
  | some w =>
    obtain ⟨h1, O1, G1, Q1, r1, C1, e1, k1, s1, s2⟩ := t_pass (d := 80) j1
    obtain ⟨m1, v1, hv1⟩ := hJ.kept k1
    have hI : Inv (AP w.1) := (j1.2.2.2.2.2.2.2.2 w rfl).2.2.2.2.2.2
    obtain ⟨g3, g4, g5, g7, g8⟩ := j3.2.2.2.2 w rfl
    have e0 : mst S (S.2 5) (S.2 6) w.2.2.2.2.2 (S.1 4) = S := by rw [← g7]; exact mst_self S
    have hx1 := C1.hx
    have hpc := paP_cnt w.2.2.2.2.2 hI
    have hA' : h.2.1 + 53 * (AP w.1).length + 74 * n ≤ A := hA
    have hB' : h.2.2 + 5930 * (AP w.1).length + 7219 * n ≤ B := hB
    have hw1 := w_145 (y := x + 41) c4 r1 hv1
    obtain ⟨R', W', r2, t2⟩ := c_pass (E := E) (d := 194) (g := pset h1 (x + 41) (101, [.long (nI (paP (AP w.1) w.2.2.2.2.2).2.1).toInt64])) (o := x + 15) (S := S) (R := S.2 5) (W := S.2 6) (c := w.2.2.2.2.2) (n := S.1 4) (P := AP w.1) (by rw [e0]; exact g3) hI ⟨g5, g4, by have := hI.2.2; omega⟩
    rw [e0] at r2
    generalize paP (AP w.1) w.2.2.2.2.2 = p at *
    have hR : RfR (mst (msI S 0 0) R' W' p.2.2 (nI (tsum p.1))) n cs (some (Q1, w.2.1, w.2.2.1, w.2.2.2.1, w.2.2.2.2.1, p.2.2)) rn := by
      refine ⟨j3.1, j3.2.1, j3.2.2.1, (fun e => nomatch e), fun w' hw' => ?_⟩
      cases hw'
      refine ⟨g3, ?_, ?_, rfl, g8⟩
      · show nI (tsum p.1) = nI (tsum (AP Q1))
        rw [e1]
      · show TokAt R' 0 (AP Q1)
        rw [e1]; exact t2
    obtain ⟨f1, f2, f3⟩ := J_fin (h0 := h0) (ps := []) hw1 (C1.out hv1) (mh_out m1) hx1 pset_at r2 hR rfl (fun _ => rfl) (st_out hv1 (k1.st hs))
    refine ⟨_, f1, O1, G1, _, n, cs, _, rn, f2, ?_, ?_, f3⟩
    · show h1.2.1 + 53 * (AP Q1).length + 74 * n ≤ _
      rw [e1]; omega
    · show h1.2.2 + 5930 * (AP Q1).length + 7219 * n ≤ _
      rw [e1]; omega
theorem J_simp (hJ : JI E h0 h x A B) : ∃ h2, Jt E h0 x 146 39 [] h h2 ∧ JI E h0 h2 x (A + 80) (B + 7320) := by
  obtain ⟨O, G, S, n, cs, W, rn, hJ, hA, hB, hs⟩ := hJ
  obtain ⟨j1, j2, j3, j4, v0, j5⟩ := id hJ
  have c4 := j1.2.2.2.1
  cases W with
  | none =>
    have r2 := c_simp0 (E := E) (d := 198) (g := hthr h) (o := x + 15) (S := S) (j3.2.2.2.1 rfl).1
    exact J_no (w_146a (y := x + 41) c4 (t_simp0 (d := 198) j1)) (by decide) j1 j2 j4 j5 r2 j3.z0 rfl hs (by omega) (by omega)
  | some w =>
    obtain ⟨h1, O1, G1, Q1, r1, C1, e1, k1, s0, s1, s2⟩ := t_simp (d := 80) j1
    obtain ⟨m1, v1, hv1⟩ := hJ.kept k1
    have hI : Inv (AP w.1) := (j1.2.2.2.2.2.2.2.2 w rfl).2.2.2.2.2.2
    obtain ⟨g3, g4, g5, g7, g8⟩ := j3.2.2.2.2 w rfl
    have e0 : mst S (S.2 5) (S.2 6) w.2.2.2.2.2 (S.1 4) = S := by rw [← g7]; exact mst_self S
    have hx1 := C1.hx
    have hA' : h.2.1 + 53 * (AP w.1).length + 74 * n ≤ A := hA
    have hB' : h.2.2 + 5930 * (AP w.1).length + 7219 * n ≤ B := hB
    have hw1 := w_146 (y := x + 41) c4 r1 hv1
    obtain ⟨R', W', r2, t2⟩ := c_simp (E := E) (d := 194) (g := pset h1 (x + 41) (101, [.long (nI (sim 200 (AP w.1) 1 w.2.2.2.2.2).2.1).toInt64])) (o := x + 15) (S := S) (R := S.2 5) (W := S.2 6) (c := w.2.2.2.2.2) (n := S.1 4) (P := AP w.1) (by rw [e0]; exact g3) hI ⟨g5, g4, by have := hI.2.2; omega⟩
    rw [e0] at r2
    generalize sim 200 (AP w.1) 1 w.2.2.2.2.2 = p at *
    have hR : RfR (mst (msI S 0 0) R' W' p.2.2 (nI (tsum p.1))) n cs (some (Q1, w.2.1, w.2.2.1, w.2.2.2.1, w.2.2.2.2.1, p.2.2)) rn := by
      refine ⟨j3.1, j3.2.1, j3.2.2.1, (fun e => nomatch e), fun w' hw' => ?_⟩
      cases hw'
      refine ⟨g3, ?_, ?_, rfl, g8⟩
      · show nI (tsum p.1) = nI (tsum (AP Q1))
        rw [e1]
      · show TokAt R' 0 (AP Q1)
        rw [e1]; exact t2
    obtain ⟨f1, f2, f3⟩ := J_fin (h0 := h0) (ps := []) hw1 (C1.out hv1) (mh_out m1) hx1 pset_at r2 hR rfl (fun _ => rfl) (st_out hv1 (k1.st hs))
    refine ⟨_, f1, O1, G1, _, n, cs, _, rn, f2, ?_, ?_, f3⟩
    · show h1.2.1 + 53 * (AP Q1).length + 74 * n ≤ _
      omega
    · show h1.2.2 + 5930 * (AP Q1).length + 7219 * n ≤ _
      omega
theorem J_count {v : Int32} (hJ : JI E h0 h x A B) : ∃ h2, Jt E h0 x 147 40 [.int v] h h2 ∧ JI E h0 h2 x (A + 80) (B + 7320) := by
  obtain ⟨O, G, S, n, cs, W, rn, hJ, hA, hB, hs⟩ := hJ
  obtain ⟨j1, j2, j3, j4, v0, j5⟩ := id hJ
  have c4 := j1.2.2.2.1
  by_cases hk : v < 0 ∨ 5 < v
  · have r2 := c_cntX (E := E) (d := 198) (g := hthr h) (o := x + 15) (S := S) hk
    exact J_no (w_147a (y := x + 41) c4 (t_cntX (d := 198) hk)) (by decide) j1 j2 j4 j5 r2 j3.z0 rfl hs (by omega) (by omega)
  · obtain ⟨j, hj, rfl⟩ := le_nat (x := v) (m := 5) (by omega) (Int32.not_lt.mp (fun e => hk (Or.inl e))) (Int32.not_lt.mp (fun e => hk (Or.inr e)))
    cases W with
    | none =>
      have r1 := t_cnt0 (d := 198) (j := j) j1 (by omega)
      by_cases h4 : j < 4
      · refine J_ok (w_147 (y := x + 41) c4 r1 j5) j1 j2 j4 j5 (fun g => ?_) j3.z0 rfl hs (by omega) (by omega)
        have r2 := c_cnt4 (E := E) (d := 198) (g := g) (o := x + 15) (S := S) h4
        rw [(j3.2.2.2.1 rfl).2 j h4] at r2
        exact r2
      · exact J_ok (w_147 (y := x + 41) c4 r1 j5) j1 j2 j4 j5 (fun g => c_cntN (d := 198) (by omega) (by omega) (j3.2.2.2.1 rfl).1) j3.z0 rfl hs (by omega) (by omega)
    | some w =>
      obtain ⟨g3, g4, g5, g7, g8⟩ := j3.2.2.2.2 w rfl
      by_cases h4 : j < 4
      · refine J_ok (w_147 (y := x + 41) c4 (t_cnt4 (d := 198) j1 h4) j5) j1 j2 j4 j5 (fun g => ?_) j3.z0 rfl hs (by omega) (by omega)
        have r2 := c_cnt4 (E := E) (d := 198) (g := g) (o := x + 15) (S := S) h4
        rw [g7] at r2
        exact r2
      · have hI : Inv (AP w.1) := (j1.2.2.2.2.2.2.2.2 w rfl).2.2.2.2.2.2
        have ht := hI.2.2
        by_cases h5 : j = 4
        · subst h5
          exact J_ok (w_147 (y := x + 41) c4 (t_cntB (d := 124) j1) j5) j1 j2 j4 j5 (fun g => c_cntB (d := 197) g4 (by omega) g5 rfl g3) j3.z0 rfl hs (by omega) (by omega)
        · have e5 : j = 5 := by omega
          subst e5
          refine J_ok (w_147 (y := x + 41) c4 (t_cntM (d := 198) j1) j5) j1 j2 j4 j5 (fun g => ?_) j3.z0 rfl hs (by omega) (by omega)
          have r2 := c_cntM (E := E) (d := 197) (g := g) (o := x + 15) (S := S) g3
          rw [g8] at r2
          exact r2
theorem J_written {v : Int32} (hJ : JI E h0 h x A B) : ∃ h2, Jt E h0 x 148 41 [.int v] h h2 ∧ JI E h0 h2 x (A + 80) (B + 7320) := by
  obtain ⟨O, G, S, n, cs, W, rn, hJ, hA, hB, hs⟩ := hJ
  obtain ⟨j1, j2, j3, j4, v0, j5⟩ := id hJ
  have c4 := j1.2.2.2.1
  cases W with
  | none =>
    have r2 := c_wriX (E := E) (d := 198) (g := hthr h) (o := x + 15) (S := S) (k := v) (Or.inl (j3.2.2.2.1 rfl).1)
    exact J_no (w_148a (y := x + 41) c4 (t_wri0 (d := 198) j1)) (by decide) j1 j2 j4 j5 r2 j3.z0 rfl hs (by omega) (by omega)
  | some w =>
    obtain ⟨h1, T, C1, k1, z1, tT, ry, rx⟩ := t_written (d := 54) j1
    obtain ⟨m1, v1, hv1⟩ := hJ.kept k1
    obtain ⟨g3, g4, g5, g7, g8⟩ := j3.2.2.2.2 w rfl
    have hI : Inv (AP w.1) := (j1.2.2.2.2.2.2.2.2 w rfl).2.2.2.2.2.2
    have ht := hI.2.2
    have hs1 : h1.2.1 = h.2.1 := by rw [z1]
    have hs2 : h1.2.2 = h.2.2 := by rw [z1]
    by_cases hk : v < 0 ∨ nI (tsum (AP w.1)) ≤ v
    · have r2 := c_wriX (E := E) (d := 198) (g := hthr h1) (o := x + 15) (S := S) (k := v) (Or.inr (by rw [g4]; exact hk))
      exact J_no (w_148a (y := x + 41) c4 (Rt.wri (rx v hk))) (by decide) C1 m1 (by omega) hv1 r2 j3.z0 rfl (k1.st hs) (by omega) (by omega)
    · have hlt : v < nI (tsum (AP w.1)) := Int32.not_le.mp (fun e => hk (Or.inr e))
      obtain ⟨j, hj, rfl⟩ := le_nat (x := v) (m := tsum (AP w.1)) (by omega) (Int32.not_lt.mp (fun e => hk (Or.inl e))) (Int32.le_of_lt hlt)
      have hj2 : j < tsum (AP w.1) := by
        rcases Nat.lt_or_ge j (tsum (AP w.1)) with z | z
        · exact z
        · exact absurd (Or.inr (by rw [show j = tsum (AP w.1) by omega]; exact Int32.le_refl _)) hk
      refine J_ok (w_148 (y := x + 41) c4 (ry j hj2) hv1) C1 m1 (by omega) hv1 (fun g => ?_) j3.z0 rfl (k1.st hs) (by omega) (by omega)
      have r2 := c_wri (E := E) (d := 198) (g := g) (o := x + 15) (S := S) g3 g4 (by omega) hj2
      have e := TokAt_det tT g5 j hj2
      rw [Nat.zero_add] at e
      rw [← e] at r2
      exact r2
theorem J_run (hJ : JI E h0 h x A B) : ∃ h2, Jt E h0 x 149 42 [] h h2 ∧ JI E h0 h2 x (A + 80) (B + 7320) := by
  obtain ⟨O, G, S, n, cs, W, rn, hJ, hA, hB, hs⟩ := hJ
  obtain ⟨j1, j2, j3, j4, v0, j5⟩ := id hJ
  have c4 := j1.2.2.2.1
  cases W with
  | none =>
    have r2 := c_run0 (E := E) (d := 195) (g := hthr h) (o := x + 15) (S := S) (j3.2.2.2.1 rfl).1
    exact J_no (w_149a (y := x + 41) c4 (t_run0 (d := 198) j1)) (by decide) j1 j2 j4 j5 r2 j3.z0 rfl hs (by omega) (by omega)
  | some w =>
    obtain ⟨h1, rn', r1, C1, u0, u1, u2, u3, k1, z1⟩ := t_run (d := 151) j1
    obtain ⟨m1, v1, hv1⟩ := hJ.kept k1
    obtain ⟨g3, g4, g5, g7, g8⟩ := j3.2.2.2.2 w rfl
    have hI : Inv (AP w.1) := (j1.2.2.2.2.2.2.2.2 w rfl).2.2.2.2.2.2
    have hs1 : h1.2.1 = h.2.1 := by rw [z1]
    have hs2 : h1.2.2 = h.2.2 := by rw [z1]
    have hw1 := w_149 (y := x + 41) c4 r1 hv1
    obtain ⟨S', r2, eo, y0, y1, y2, y3⟩ := c_run (E := E) (d := 195) (g := pset h1 (x + 41) (101, [.long (nI (evP (AP w.1)).1).toInt64])) (o := x + 15) (S := S) g3 hI g5
    have hR : RfR S' n cs (some w) rn' := by
      refine j3.of ((ouR_i eo (k := 1) rfl).trans j3.1) (ouR_a eo (k := 2) rfl) (fun j hj => ?_) (ouR_i eo (k := 3) rfl) (ouR_i eo (k := 4) rfl) (ouR_a eo (k := 5) rfl) (ouR_a eo (k := 7) rfl) (ouR_i eo (k := 8) rfl)
      match j, hj with
      | 0, _ => exact y0.trans u0.symm
      | 1, _ => exact y1.trans u1.symm
      | 2, _ => exact y2.trans u2.symm
      | 3, _ => exact y3.trans u3.symm
    obtain ⟨f1, f2, f3⟩ := J_fin (h0 := h0) (ps := []) hw1 (C1.out hv1) (mh_out m1) C1.hx pset_at r2 hR (ouR_i eo (k := 0) rfl) (fun _ => rfl) (st_out hv1 (k1.st hs))
    refine ⟨_, f1, O, G, _, n, cs, _, rn', f2, ?_, ?_, f3⟩
    · show h1.2.1 + 53 * lW (some w) + 74 * n ≤ _
      omega
    · show h1.2.2 + 5930 * lW (some w) + 7219 * n ≤ _
      omega
theorem J_ran {v : Int32} (hJ : JI E h0 h x A B) : ∃ h2, Jt E h0 x 150 52 [.int v] h h2 ∧ JI E h0 h2 x (A + 80) (B + 7320) := by
  obtain ⟨O, G, S, n, cs, W, rn, hJ, hA, hB, hs⟩ := hJ
  obtain ⟨j1, j2, j3, j4, v0, j5⟩ := id hJ
  have c4 := j1.2.2.2.1
  by_cases hk : v < 0 ∨ 3 < v
  · have r2 := c_ranX (E := E) (d := 198) (g := hthr h) (o := x + 15) (S := S) hk
    exact J_no (w_150a (y := x + 41) c4 (t_ranX (d := 198) hk)) (by decide) j1 j2 j4 j5 r2 j3.z0 rfl hs (by omega) (by omega)
  · obtain ⟨j, hj, rfl⟩ := le_nat (x := v) (m := 3) (by omega) (Int32.not_lt.mp (fun e => hk (Or.inl e))) (Int32.not_lt.mp (fun e => hk (Or.inr e)))
    refine J_ok (w_150 (y := x + 41) c4 (t_ran (d := 198) j1 (by omega)) j5) j1 j2 j4 j5 (fun g => ?_) j3.z0 rfl hs (by omega) (by omega)
    have r2 := c_ran (E := E) (d := 198) (g := g) (o := x + 15) (S := S) (j := j) (by omega)
    rw [j3.2.2.1 j (by omega)] at r2
    exact r2
theorem J_conv (hJ : JI E h0 h x A B) : ∃ h2, Jt E h0 x 144 3 [] h h2 ∧ JI E h0 h2 x (A + 80) (B + 7320) := by
  obtain ⟨O, G, S, n, cs, W, rn, hJ, hA, hB, hs⟩ := hJ
  obtain ⟨j1, j2, j3, j4, v0, j5⟩ := id hJ
  have c4 := j1.2.2.2.1
  have h60 : n ≤ 60 := j1.2.2.1
  by_cases hg : GdP cs n
  · have hnum := cv_nums (cs := cs) (n := n) 61 (fun _ => none) 0 0 n hg.1
    by_cases hd : (cv cs 61 (fun _ => none) 0 0).2.2.2.2.1 ≤ 8
    · obtain ⟨h1, O1, G1, w, r1, C1, e1, e2, e3, k1, s1, s2⟩ := t_conv (d := 1) j1 j4 hg hd
      obtain ⟨m1, v1, hv1⟩ := hJ.kept k1
      have hw1 := w_144 (y := x + 41) c4 r1 hv1
      obtain ⟨S', r2, y0, y1, y3, y4, y8, y5, y7, y42, y2⟩ := c_conv (E := E) (d := 193) (g := pset h1 (x + 41) (101, [.long (nI (cntB (cvP cs))).toInt64])) (o := x + 15) h60 (S := S) j3.1 j3.2.1 hg hd
      have C2 := C1.cnt (c := S'.2 7) (fun j hj => by rw [e3, y7 j hj])
      have hR : RfR S' 0 cs (some (w.1, w.2.1, w.2.2.1, w.2.2.2.1, w.2.2.2.2.1, S'.2 7)) rn := by
        refine ⟨y1, y2.trans j3.2.1, fun j hj => by rw [y42]; exact j3.2.2.1 j hj, (fun e => nomatch e), fun w' hw' => ?_⟩
        cases hw'
        refine ⟨by rw [y3]; decide, ?_, ?_, rfl, ?_⟩
        · show S'.1 4 = nI (tsum (AP w.1))
          rw [e1]; exact y4
        · show TokAt (S'.2 5) 0 (AP w.1)
          rw [e1]; exact y5
        · show S'.1 8 = w.2.2.2.2.1
          rw [e2]; exact y8
      obtain ⟨f1, f2, f3⟩ := J_fin (h0 := h0) (ps := []) hw1 (C2.out hv1) (mh_out m1) C1.hx pset_at r2 hR y0 (fun _ => rfl) (st_out hv1 (k1.st hs))
      have hl1 : (cvP cs).length = (cv cs 61 (fun _ => none) 0 0).1.length + 1 := by
        unfold cvP; rw [List.length_append]; rfl
      have hl2 := tsum_len (cv cs 61 (fun _ => none) 0 0).1
      have hl3 := hnum.2.2.2.2.2.1
      refine ⟨_, f1, O1, G1, _, 0, cs, _, rn, f2, ?_, ?_, f3⟩
      · show h1.2.1 + 53 * (AP w.1).length + 74 * 0 ≤ _
        rw [e1]; omega
      · show h1.2.2 + 5930 * (AP w.1).length + 7219 * 0 ≤ _
        rw [e1]; omega
    · obtain ⟨h1, O1, G1, r1, C1, k1, s0, s1, s2⟩ := t_conv2 (d := 1) j1 j4 hg (by omega) (by have := hnum.2.2.2.2.2.2; omega)
      obtain ⟨m1, v1, hv1⟩ := hJ.kept k1
      obtain ⟨S', r2, eo⟩ := c_conv2 (E := E) (d := 193) (g := hthr h1) (o := x + 15) h60 (S := S) j3.1 j3.2.1 hg (by omega)
      have hR : RfR S' 0 cs W rn := j3.of (out_i eo (k := 1) rfl) (out_a eo (k := 2) rfl) (fun j hj => by rw [out_a eo (k := 42) rfl]; exact j3.2.2.1 j hj) (out_i eo (k := 3) rfl) (out_i eo (k := 4) rfl) (out_a eo (k := 5) rfl) (out_a eo (k := 7) rfl) (out_i eo (k := 8) rfl)
      exact J_no (w_144b (y := x + 41) c4 r1) (by decide) C1 m1 (by omega) hv1 r2 hR (out_i eo (k := 0) rfl) (k1.st hs) (by omega) (by omega)
  · obtain ⟨h1, O1, G1, r1, C1, k1, s0, s1, s2⟩ := t_conv1 (d := 1) j1 j4 hg
    obtain ⟨m1, v1, hv1⟩ := hJ.kept k1
    obtain ⟨S', r2, eo⟩ := c_conv1 (E := E) (d := 193) (g := hthr h1) (o := x + 15) h60 (S := S) j3.1 j3.2.1 hg
    have hR : RfR S' 0 cs W rn := j3.of (out_i eo (k := 1) rfl) (out_a eo (k := 2) rfl) (fun j hj => by rw [out_a eo (k := 42) rfl]; exact j3.2.2.1 j hj) (out_i eo (k := 3) rfl) (out_i eo (k := 4) rfl) (out_a eo (k := 5) rfl) (out_a eo (k := 7) rfl) (out_i eo (k := 8) rfl)
    exact J_no (w_144a (y := x + 41) c4 r1) (by decide) C1 m1 (by omega) hv1 r2 hR (out_i eo (k := 0) rfl) (k1.st hs) (by omega) (by omega)
end M98
