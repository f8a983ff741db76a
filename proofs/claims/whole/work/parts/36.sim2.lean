/-! ===== the reference's conversion does what cv says: the turns together ===== -/
section SIM2
variable {cs : Nat → Int32} {n d o : Nat} {E : PE} {g : PH}
abbrev C53 (o : Nat) (x y : Option Value) : PF := (4, 53, [some (.ref o), some (.int 1), x, y], [])
abbrev C79 (o : Nat) : PF := (4, 79, [some (.ref o), some (.int 1), none, some (.int 1)], [])
def SimS (E : PE) (g : PH) (o d : Nat) (cs : Nat → Int32) (n f : Nat) : Prop := ∀ (M : Mn) (p k q dr dp D : Nat) (S : MSt) (x y : Option Value), S.2 2 = cs → CS n p q dr k dp D S → p ≤ n → n < f + p → q ≤ p → k ≤ p → dp ≤ p → (dp ≤ D ∧ D ≤ p) → dr ≤ 11 * p → mrel M S →
    (Gd cs n f M p k → ∃ S', Ex E (d + 5) (C53 o x y) (mh g o S) (C79 o) (mh g o S') ∧ Post n q dr dp D S (cv cs f M p k) S') ∧ (¬ Gd cs n f M p k → ∃ S', Rk E (d + 5) (C53 o x y) (mh g o S) (some (.int 0)) (mh g o S') ∧ out S' = out S)
theorem max_a (a b c : Nat) : max (max a (b + 1)) (b + 1 + c) = max a (b + (c + 1)) := by omega
theorem sim_2 {f : Nat} (h60 : n ≤ 60) (ih : SimS E g o d cs n f) {M : Mn} {p k q dr dp D : Nat} {S : MSt} {x y : Option Value} (hcs : S.2 2 = cs) (hC : CS n p q dr k dp D S) (hf : n < f + 1 + p) (hq : q ≤ p) (hk : k ≤ p) (hdp : dp ≤ p) (hD : dp ≤ D ∧ D ≤ p) (hdr : dr ≤ 11 * p) (hM : mrel M S) (hh : hok cs n p = true) (w : cs p = 2) :
    (Gd cs n (f + 1) M p k → ∃ S', Ex E (d + 5) (C53 o x y) (mh g o S) (C79 o) (mh g o S') ∧ Post n q dr dp D S (cv cs (f + 1) M p k) S') ∧ (¬ Gd cs n (f + 1) M p k → ∃ S', Rk E (d + 5) (C53 o x y) (mh g o S) (some (.int 0)) (mh g o S') ∧ out S' = out S) := by
  obtain ⟨h1, -, -, h4, -, h5, -⟩ := hok_iff.mp hh
  rw [w, show hl 2 = 2 from rfl] at h4
  obtain ⟨j, hj, ej⟩ := le_nat (m := 9) (by decide) (h5 w).1 (h5 w).2
  obtain ⟨S1, e1, b1, b2, b3, b4, b5, b6, b7, b8, b9, b10, b11⟩ := T_fun (x := j) hC ⟨by omega, by omega, by omega⟩
  have hst := b_op2 (E := E) (d := d + 3) (o := o) (g := g) (q := q) (x := j) (dr := dr) hC.2.1 hC.1 h60 (by rw [hcs]; exact w) (by omega) hC.2.2.1 (by omega) (by rw [hcs]; exact ej) (by omega) hC.2.2.2.1 (by omega)
  rw [e1] at hst
  have st1 := cl_0 (x := x) (y := y) hst
  have hM1 : mrel (mup M j (1, nI k)) S1 := mrel_up hM b9 b10 (by decide)
  obtain ⟨g1, g2⟩ := ih (mup M j (1, nI k)) (p + 2) (k + 1) (q + 1) (dr + 4) (dp + 1) (max D (dp + 1)) S1 none none (by rw [out_a b2.1 rfl]; exact hcs) b1 h4 (by omega) (by omega) (by omega) (by omega) (by omega) (by omega) hM1
  rw [Gd_2 hh w, ej, nI_clamp (by omega)]
  refine ⟨fun hg => ?_, fun hg => ?_⟩
  · obtain ⟨S2, r1, p1, p2, p3, p4, p5, p6, p7⟩ := g1 hg
    obtain ⟨p', hp'⟩ := hg.1
    obtain ⟨n1, n2, n3, n4, n5, n6, n7⟩ := cv_nums f (mup M j (1, nI k)) (p + 2) (k + 1) p' hp'
    rw [cv_2 w, ej, nI_clamp (by omega)]
    simp only
    generalize cv cs f (mup M j (1, nI k)) (p + 2) (k + 1) = r at *
    have f11 := p2.2.1 11 (by omega) (by omega) (q + 1) (Nat.le_refl _)
    have f12 := p2.2.1 12 (by omega) (by omega) (q + 1) (Nat.le_refl _)
    have f13 := p2.2.1 13 (by omega) (by omega) (q + 1) (Nat.le_refl _)
    have f14 := p2.2.1 14 (by omega) (by omega) (q + 1) (Nat.le_refl _)
    have f15 := p2.2.1 15 (by omega) (by omega) (q + 1) (Nat.le_refl _)
    have f16 := p2.2.1 16 (by omega) (by omega) (q + 1) (Nat.le_refl _)
    have hgo := go_fun (E := E) (d := d) (o := o) (g := g) (x := j) (hd := dr) (dr := dr + 4 + tsum r.1) (by omega) p1.2.2.1 (f11.trans b3) (f12.trans b4) (by omega) (f13.trans b5) (f14.trans b6) (by omega) p1.2.2.2.1 (by omega)
    obtain ⟨S3, e3, c1, c2, c3, c4, c5, c6, c7⟩ := T_gofun (x := j) (hd := dr) p1 ⟨by omega, by omega, by omega⟩ (by omega) (by omega) (f15.trans b7) (f16.trans b8)
    rw [e3] at hgo
    refine ⟨S3, st1.tr (r1.tr (cl_g1 p1.2.2.1 (by omega) (by omega) hgo)), ?_, ?_, c3, c4, ?_, ?_, ?_⟩
    · rw [max_a, show dr + 4 + tsum r.1 + 3 = dr + tsum ((2, nI r.2.2.2.1, nI k, (0, 0), (0, 0)) :: (r.1 ++ [iRes r.2.1])) by simp only [tsum, tsum_app, isz, iRes]; omega, Nat.add_sub_cancel] at c1
      exact c1
    · exact (b2.tr p2 (by omega) (by omega)).tr c2 (by omega) (by omega)
    · rw [c5, p5, b9, rup_back]
    · rw [c6, p6, b10, rup_back]
    · have hR : ∀ i, i < dr + 4 → S2.2 25 i = S1.2 25 i := p2.2.2
      rw [c7, p3, p4]
      refine ⟨⟨?_, ?_, ?_, ?_⟩, ?_⟩
      · rw [rup_ne (by omega), rup_ne (by omega), rup_ne (by omega), rup_ne (by omega), hR _ (by omega), b11, rup_ne (by omega), rup_ne (by omega), rup_ne (by omega), rup_eq]
      · rw [rup_eq]
      · rw [rup_ne (by omega), rup_ne (by omega), rup_ne (by omega), rup_ne (by omega), hR _ (by omega), b11, rup_ne (by omega), rup_eq]
      · rw [rup_ne (by omega), rup_ne (by omega), rup_ne (by omega), rup_ne (by omega), hR _ (by omega), b11, rup_eq]
      · show TokAt _ (dr + 4) (r.1 ++ [iRes r.2.1])
        rw [TokAt_app]
        refine ⟨TokAt_shift p7 (fun i hi => ?_), ⟨?_, ?_, ?_⟩, trivial⟩
        · rw [rup_ne (by omega), rup_ne (by omega), rup_ne (by omega), rup_ne (by omega)]
        · rw [rup_ne (by omega), rup_ne (by omega), rup_ne (by omega), rup_eq]
        · rw [rup_ne (by omega), rup_ne (by omega), rup_eq]; rfl
        · rw [rup_ne (by omega), rup_eq]; rfl
  · obtain ⟨S', r1, r2⟩ := g2 hg
    exact ⟨S', Rk.tr st1 r1, r2.trans b2.1⟩
theorem sim_4 {f : Nat} (h60 : n ≤ 60) (ih : SimS E g o d cs n f) {M : Mn} {p k q dr dp D : Nat} {S : MSt} {x y : Option Value} (hcs : S.2 2 = cs) (hC : CS n p q dr k dp D S) (hf : n < f + 1 + p) (hq : q ≤ p) (hk : k ≤ p) (hdp : dp ≤ p) (hD : dp ≤ D ∧ D ≤ p) (hdr : dr ≤ 11 * p) (hM : mrel M S) (hh : hok cs n p = true) (w : cs p = 4) :
    (Gd cs n (f + 1) M p k → ∃ S', Ex E (d + 5) (C53 o x y) (mh g o S) (C79 o) (mh g o S') ∧ Post n q dr dp D S (cv cs (f + 1) M p k) S') ∧ (¬ Gd cs n (f + 1) M p k → ∃ S', Rk E (d + 5) (C53 o x y) (mh g o S) (some (.int 0)) (mh g o S') ∧ out S' = out S) := by
  obtain ⟨h1, -, -, h4, -, -, h5, -⟩ := hok_iff.mp hh
  rw [w, show hl 4 = 2 from rfl] at h4
  obtain ⟨j, hj, ej⟩ := le_nat (m := 9) (by decide) (h5 w).1 (h5 w).2
  have hst := b_op4 (E := E) (d := d + 3) (o := o) (g := g) (q := q) hC.2.1 hC.1 h60 (by rw [hcs]; exact w) (by omega) hC.2.2.1 (by omega) (by rw [hcs]; exact Int32.not_lt.mpr (h5 w).1) (by rw [hcs]; exact (h5 w).2)
  obtain ⟨S1, e1, b1, b2, b3, b4, b5, b6, b7, b8⟩ := T_op4 (v := S.2 2 (p + 1)) hC
  rw [e1] at hst
  rw [hcs, ej] at b5
  have st1 := cl_0 (x := x) (y := y) hst
  have hM1 : mrel M S1 := mrel_eq hM b6 b7
  obtain ⟨g1, g2⟩ := ih M (p + 2) k (q + 1) dr dp D S1 none none (by rw [out_a b2.1 rfl]; exact hcs) b1 h4 (by omega) (by omega) (by omega) (by omega) (by omega) (by omega) hM1
  rw [Gd_4 hh w, ej, nI_clamp (by omega)]
  by_cases hg1 : Gd cs n f M (p + 2) k
  · obtain ⟨S2, r1, p1, p2, p3, p4, p5, p6, p7⟩ := g1 hg1
    obtain ⟨p', hp'⟩ := hg1.1
    obtain ⟨n1, n2, n3, n4, n5, n6, n7⟩ := cv_nums f M (p + 2) k p' hp'
    have hat := cv_at f M (p + 2) k p' hp' (fun z a hz hza => ((hM z hz).2 a hza).2.2)
    rw [cv_4 w, ej, nI_clamp (by omega)]
    simp only
    generalize cv cs f M (p + 2) k = r at *
    have f11 := p2.2.1 11 (by omega) (by omega) (q + 1) (Nat.le_refl _)
    have f12 := p2.2.1 12 (by omega) (by omega) (q + 1) (Nat.le_refl _)
    have f13 := p2.2.1 13 (by omega) (by omega) (q + 1) (Nat.le_refl _)
    have hgo := go_let0 (E := E) (d := d) (o := o) (g := g) (x := j) (by omega) p1.2.2.1 (f11.trans b3) (f12.trans b4) (by omega) (f13.trans b5)
    obtain ⟨S3, e3, c1, c2, c3, c4, c5, c6, c7, c8, c9, c10⟩ := T_golet0 (x := j) p1 (f12.trans b4)
    rw [e3] at hgo
    have st2 := st1.tr (r1.tr (cl_g0 p1.2.2.1 (by omega) (by omega) hgo))
    rw [p3] at c8
    rw [p4] at c9
    have k3 : KA q dr S S3 := (b2.tr p2 (by omega) (by omega)).tr c2 (by omega) (by omega)
    have hM3 : mrel (mup M j r.2.1) S3 := mrel_up (mrel_eq hM1 p5 p6) c8 c9 hat
    obtain ⟨g3, g4⟩ := ih (mup M j r.2.1) r.2.2.1 r.2.2.2.1 (q + 1) (dr + tsum r.1) dp (max D (dp + r.2.2.2.2.1)) S3 none none (by rw [out_a k3.1 rfl]; exact hcs) c1 (by omega) (by omega) (by omega) (by omega) (by omega) (by omega) (by omega) hM3
    refine ⟨fun hg => ?_, fun hg => ?_⟩
    · obtain ⟨S4, r4, q1, q2, q3, q4, q5, q6, q7⟩ := g3 hg.2
      obtain ⟨p'', hp''⟩ := hg.2.1
      obtain ⟨m1, m2, m3, m4, m5, m6, m7⟩ := cv_nums f (mup M j r.2.1) r.2.2.1 r.2.2.2.1 p'' hp''
      generalize cv cs f (mup M j r.2.1) r.2.2.1 r.2.2.2.1 = s at *
      have d11 := q2.2.1 11 (by omega) (by omega) (q + 1) (Nat.le_refl _)
      have d12 := q2.2.1 12 (by omega) (by omega) (q + 1) (Nat.le_refl _)
      have d13 := q2.2.1 13 (by omega) (by omega) (q + 1) (Nat.le_refl _)
      have d15 := q2.2.1 15 (by omega) (by omega) (q + 1) (Nat.le_refl _)
      have d16 := q2.2.1 16 (by omega) (by omega) (q + 1) (Nat.le_refl _)
      have hgo2 := go_let1 (E := E) (d := d) (o := o) (g := g) (x := j) (by omega) q1.2.2.1 (d11.trans (c3.trans (f11.trans b3))) (d12.trans c4) (by omega) (d13.trans (c5.trans (f13.trans b5)))
      obtain ⟨S5, e5, a1, a2, a3, a4, a5, a6, a7⟩ := T_golet1 (x := j) q1 (d15.trans c6) (d16.trans c7)
      rw [e5] at hgo2
      refine ⟨S5, st2.tr (r4.tr (cl_g1 q1.2.2.1 (by omega) (by omega) hgo2)), ?_, ?_, a3.trans q3, a4.trans q4, ?_, ?_, ?_⟩
      · rw [show max (max D (dp + r.2.2.2.2.1)) (dp + s.2.2.2.2.1) = max D (dp + max r.2.2.2.2.1 s.2.2.2.2.1) by omega, show dr + tsum r.1 + tsum s.1 = dr + tsum (r.1 ++ s.1) by rw [tsum_app]; omega] at a1
        exact a1
      · exact (k3.tr q2 (by omega) (by omega)).tr a2 (by omega) (by omega)
      · rw [a5, q5, c8, p5, rup_back, b6]
      · rw [a6, q6, c9, p6, rup_back, b7]
      · rw [a7]
        show TokAt _ dr (r.1 ++ s.1)
        rw [TokAt_app]
        refine ⟨TokAt_shift p7 (fun i hi => ?_), q7⟩
        rw [q2.2.2 _ (by omega), c10]
    · obtain ⟨S', r4, r5⟩ := g4 (fun z => hg ⟨hg1, z⟩)
      exact ⟨S', Rk.tr st2 r4, r5.trans k3.1⟩
  · refine ⟨fun hg => absurd hg.1 hg1, fun _ => ?_⟩
    obtain ⟨S', r1, r2⟩ := g2 hg1
    exact ⟨S', Rk.tr st1 r1, r2.trans b2.1⟩
theorem sim_3 {f : Nat} (h60 : n ≤ 60) (ih : SimS E g o d cs n f) {M : Mn} {p k q dr dp D : Nat} {S : MSt} {x y : Option Value} (hcs : S.2 2 = cs) (hC : CS n p q dr k dp D S) (hf : n < f + 1 + p) (hq : q ≤ p) (hk : k ≤ p) (hdp : dp ≤ p) (hD : dp ≤ D ∧ D ≤ p) (hdr : dr ≤ 11 * p) (hM : mrel M S) (hh : hok cs n p = true) (w : cs p = 3) :
    (Gd cs n (f + 1) M p k → ∃ S', Ex E (d + 5) (C53 o x y) (mh g o S) (C79 o) (mh g o S') ∧ Post n q dr dp D S (cv cs (f + 1) M p k) S') ∧ (¬ Gd cs n (f + 1) M p k → ∃ S', Rk E (d + 5) (C53 o x y) (mh g o S) (some (.int 0)) (mh g o S') ∧ out S' = out S) := by
  obtain ⟨h1, -, -, h4, -⟩ := hok_iff.mp hh
  rw [w, show hl 3 = 1 from rfl] at h4
  have hst := b_op3 (E := E) (d := d + 3) (o := o) (g := g) (q := q) hC.2.1 hC.1 h60 (by rw [hcs]; exact w) (by omega) hC.2.2.1 (by omega)
  obtain ⟨S1, e1, b1, b2, b3, b4, b6, b7, b8⟩ := T_op3 hC
  rw [e1] at hst
  have st1 := cl_0 (x := x) (y := y) hst
  have hM1 : mrel M S1 := mrel_eq hM b6 b7
  obtain ⟨g1, g2⟩ := ih M (p + 1) k (q + 1) dr dp D S1 none none (by rw [out_a b2.1 rfl]; exact hcs) b1 h4 (by omega) (by omega) (by omega) (by omega) (by omega) (by omega) hM1
  rw [Gd_3 hh w]
  by_cases hg1 : Gd cs n f M (p + 1) k
  · obtain ⟨S2, r1, p1, p2, p3, p4, p5, p6, p7⟩ := g1 hg1
    obtain ⟨p', hp'⟩ := hg1.1
    obtain ⟨n1, n2, n3, n4, n5, n6, n7⟩ := cv_nums f M (p + 1) k p' hp'
    rw [cv_3 w]
    simp only
    generalize cv cs f M (p + 1) k = r at *
    have f11 := p2.2.1 11 (by omega) (by omega) (q + 1) (Nat.le_refl _)
    have f12 := p2.2.1 12 (by omega) (by omega) (q + 1) (Nat.le_refl _)
    have f13 := p2.2.1 13 (by omega) (by omega) (q + 1) (Nat.le_refl _)
    have hgo := go_pa3 (E := E) (d := d) (o := o) (g := g) (by omega) p1.2.2.1 (f11.trans b3) (f12.trans b4)
    obtain ⟨S3, e3, c1, c2, c3, c4, c5, c6, c7, c8, c9, c10⟩ := T_gopa p1 (f12.trans b4)
    rw [e3] at hgo
    have st2 := st1.tr (r1.tr (cl_g0 p1.2.2.1 (by omega) (by omega) hgo))
    have k3 : KA q dr S S3 := (b2.tr p2 (by omega) (by omega)).tr c2 (by omega) (by omega)
    have hM3 : mrel M S3 := mrel_eq (mrel_eq hM1 p5 p6) c8 c9
    obtain ⟨g3, g4⟩ := ih M r.2.2.1 r.2.2.2.1 (q + 1) (dr + tsum r.1) dp (max D (dp + r.2.2.2.2.1)) S3 none none (by rw [out_a k3.1 rfl]; exact hcs) c1 (by omega) (by omega) (by omega) (by omega) (by omega) (by omega) (by omega) hM3
    refine ⟨fun hg => ?_, fun hg => ?_⟩
    · obtain ⟨S4, r4, q1, q2, q3, q4, q5, q6, q7⟩ := g3 hg.2
      obtain ⟨p'', hp''⟩ := hg.2.1
      obtain ⟨m1, m2, m3, m4, m5, m6, m7⟩ := cv_nums f M r.2.2.1 r.2.2.2.1 p'' hp''
      generalize cv cs f M r.2.2.1 r.2.2.2.1 = s at *
      have d11 := q2.2.1 11 (by omega) (by omega) (q + 1) (Nat.le_refl _)
      have d12 := q2.2.1 12 (by omega) (by omega) (q + 1) (Nat.le_refl _)
      have d13 := q2.2.1 13 (by omega) (by omega) (q + 1) (Nat.le_refl _)
      have d15 := q2.2.1 15 (by omega) (by omega) (q + 1) (Nat.le_refl _)
      have d16 := q2.2.1 16 (by omega) (by omega) (q + 1) (Nat.le_refl _)
      have hgo2 := go_pb3 (E := E) (d := d) (o := o) (g := g) (dr := dr + tsum r.1 + tsum s.1) (by omega) q1.2.2.1 (d11.trans (c3.trans (f11.trans b3))) (d12.trans c4) q1.2.2.2.1 (by omega)
      obtain ⟨S5, e5, a1, a2, a3, a4, a5, a6, a7⟩ := T_gopb3 q1 ⟨by omega, by omega, by omega⟩ (d15.trans (c6.trans p3)) (d16.trans (c7.trans p4))
      rw [e5] at hgo2
      refine ⟨S5, st2.tr (r4.tr (cl_g1 q1.2.2.1 (by omega) (by omega) hgo2)), ?_, ?_, a3, a4, ?_, ?_, ?_⟩
      · rw [show max (max D (dp + r.2.2.2.2.1)) (dp + s.2.2.2.2.1) = max D (dp + max r.2.2.2.2.1 s.2.2.2.2.1) by omega, show dr + tsum r.1 + tsum s.1 + 7 = dr + tsum (r.1 ++ (s.1 ++ [(3, nI s.2.2.2.1, 0, r.2.1, s.2.1)])) by simp only [tsum, tsum_app, isz]; omega] at a1
        exact a1
      · exact (k3.tr q2 (by omega) (by omega)).tr a2 (by omega) (by omega)
      · rw [a5, q5, c8, p5, b6]
      · rw [a6, q6, c9, p6, b7]
      · rw [a7, q3, q4]
        show TokAt _ dr (r.1 ++ (s.1 ++ [(3, nI s.2.2.2.1, 0, r.2.1, s.2.1)]))
        rw [TokAt_app, TokAt_app]
        refine ⟨TokAt_shift p7 (fun i hi => ?_), TokAt_shift q7 (fun i hi => ?_), ⟨?_, ?_, ?_, ?_, ?_, ?_, ?_⟩, trivial⟩
        · rw [rup_ne (by omega), rup_ne (by omega), rup_ne (by omega), rup_ne (by omega), rup_ne (by omega), rup_ne (by omega), rup_ne (by omega), q2.2.2 _ (by omega), c10]
        · rw [rup_ne (by omega), rup_ne (by omega), rup_ne (by omega), rup_ne (by omega), rup_ne (by omega), rup_ne (by omega), rup_ne (by omega)]
        · rw [rup_ne (by omega), rup_ne (by omega), rup_ne (by omega), rup_ne (by omega), rup_ne (by omega), rup_ne (by omega), rup_eq]
        · rw [rup_ne (by omega), rup_ne (by omega), rup_ne (by omega), rup_ne (by omega), rup_ne (by omega), rup_eq]
        · rw [rup_ne (by omega), rup_ne (by omega), rup_ne (by omega), rup_ne (by omega), rup_eq]
        · rw [rup_ne (by omega), rup_ne (by omega), rup_ne (by omega), rup_eq]
        · rw [rup_ne (by omega), rup_ne (by omega), rup_eq]
        · rw [rup_ne (by omega), rup_eq]
        · rw [rup_eq]
    · obtain ⟨S', r4, r5⟩ := g4 (fun z => hg ⟨hg1, z⟩)
      exact ⟨S', Rk.tr st2 r4, r5.trans k3.1⟩
  · refine ⟨fun hg => absurd hg.1 hg1, fun _ => ?_⟩
    obtain ⟨S', r1, r2⟩ := g2 hg1
    exact ⟨S', Rk.tr st1 r1, r2.trans b2.1⟩
theorem sim_5 {f : Nat} (h60 : n ≤ 60) (ih : SimS E g o d cs n f) {M : Mn} {p k q dr dp D : Nat} {S : MSt} {x y : Option Value} (hcs : S.2 2 = cs) (hC : CS n p q dr k dp D S) (hf : n < f + 1 + p) (hq : q ≤ p) (hk : k ≤ p) (hdp : dp ≤ p) (hD : dp ≤ D ∧ D ≤ p) (hdr : dr ≤ 11 * p) (hM : mrel M S) (hh : hok cs n p = true) (w : cs p = 5) :
    (Gd cs n (f + 1) M p k → ∃ S', Ex E (d + 5) (C53 o x y) (mh g o S) (C79 o) (mh g o S') ∧ Post n q dr dp D S (cv cs (f + 1) M p k) S') ∧ (¬ Gd cs n (f + 1) M p k → ∃ S', Rk E (d + 5) (C53 o x y) (mh g o S) (some (.int 0)) (mh g o S') ∧ out S' = out S) := by
  obtain ⟨h1, -, -, h4, -, -, -, h5⟩ := hok_iff.mp hh
  rw [w, show hl 5 = 2 from rfl] at h4
  have hst := b_op5 (E := E) (d := d + 3) (o := o) (g := g) (q := q) hC.2.1 hC.1 h60 (by rw [hcs]; exact w) (by omega) hC.2.2.1 (by omega) (by rw [hcs]; exact Int32.not_lt.mpr (h5 w).1) (by rw [hcs]; exact (h5 w).2)
  obtain ⟨S1, e1, b1, b2, b3, b4, b5, b6, b7, b8⟩ := T_op5 (v := S.2 2 (p + 1)) hC
  rw [e1] at hst
  rw [hcs] at b5
  have st1 := cl_0 (x := x) (y := y) hst
  have hM1 : mrel M S1 := mrel_eq hM b6 b7
  obtain ⟨g1, g2⟩ := ih M (p + 2) k (q + 1) dr dp D S1 none none (by rw [out_a b2.1 rfl]; exact hcs) b1 h4 (by omega) (by omega) (by omega) (by omega) (by omega) (by omega) hM1
  rw [Gd_5 hh w]
  by_cases hg1 : Gd cs n f M (p + 2) k
  · obtain ⟨S2, r1, p1, p2, p3, p4, p5, p6, p7⟩ := g1 hg1
    obtain ⟨p', hp'⟩ := hg1.1
    obtain ⟨n1, n2, n3, n4, n5, n6, n7⟩ := cv_nums f M (p + 2) k p' hp'
    rw [cv_5 w]
    simp only
    generalize cv cs f M (p + 2) k = r at *
    have f11 := p2.2.1 11 (by omega) (by omega) (q + 1) (Nat.le_refl _)
    have f12 := p2.2.1 12 (by omega) (by omega) (q + 1) (Nat.le_refl _)
    have f13 := p2.2.1 13 (by omega) (by omega) (q + 1) (Nat.le_refl _)
    have hgo := go_pa5 (E := E) (d := d) (o := o) (g := g) (by omega) p1.2.2.1 (f11.trans b3) (f12.trans b4)
    obtain ⟨S3, e3, c1, c2, c3, c4, c5, c6, c7, c8, c9, c10⟩ := T_gopa p1 (f12.trans b4)
    rw [e3] at hgo
    have st2 := st1.tr (r1.tr (cl_g0 p1.2.2.1 (by omega) (by omega) hgo))
    have k3 : KA q dr S S3 := (b2.tr p2 (by omega) (by omega)).tr c2 (by omega) (by omega)
    have hM3 : mrel M S3 := mrel_eq (mrel_eq hM1 p5 p6) c8 c9
    obtain ⟨g3, g4⟩ := ih M r.2.2.1 r.2.2.2.1 (q + 1) (dr + tsum r.1) dp (max D (dp + r.2.2.2.2.1)) S3 none none (by rw [out_a k3.1 rfl]; exact hcs) c1 (by omega) (by omega) (by omega) (by omega) (by omega) (by omega) (by omega) hM3
    refine ⟨fun hg => ?_, fun hg => ?_⟩
    · obtain ⟨S4, r4, q1, q2, q3, q4, q5, q6, q7⟩ := g3 hg.2
      obtain ⟨p'', hp''⟩ := hg.2.1
      obtain ⟨m1, m2, m3, m4, m5, m6, m7⟩ := cv_nums f M r.2.2.1 r.2.2.2.1 p'' hp''
      generalize cv cs f M r.2.2.1 r.2.2.2.1 = s at *
      have d11 := q2.2.1 11 (by omega) (by omega) (q + 1) (Nat.le_refl _)
      have d12 := q2.2.1 12 (by omega) (by omega) (q + 1) (Nat.le_refl _)
      have d13 := q2.2.1 13 (by omega) (by omega) (q + 1) (Nat.le_refl _)
      have d15 := q2.2.1 15 (by omega) (by omega) (q + 1) (Nat.le_refl _)
      have d16 := q2.2.1 16 (by omega) (by omega) (q + 1) (Nat.le_refl _)
      have hgo2 := go_pb5 (E := E) (d := d) (o := o) (g := g) (dr := dr + tsum r.1 + tsum s.1) (by omega) q1.2.2.1 (d11.trans (c3.trans (f11.trans b3))) (d12.trans c4) q1.2.2.2.1 (by omega)
      obtain ⟨S5, e5, a1, a2, a3, a4, a5, a6, a7⟩ := T_gopb5 q1 ⟨by omega, by omega, by omega⟩ (d15.trans (c6.trans p3)) (d16.trans (c7.trans p4))
      rw [e5] at hgo2
      refine ⟨S5, st2.tr (r4.tr (cl_g1 q1.2.2.1 (by omega) (by omega) hgo2)), ?_, ?_, a3, a4, ?_, ?_, ?_⟩
      · rw [show max (max D (dp + r.2.2.2.2.1)) (dp + s.2.2.2.2.1) = max D (dp + max r.2.2.2.2.1 s.2.2.2.2.1) by omega, show dr + tsum r.1 + tsum s.1 + 8 = dr + tsum (r.1 ++ (s.1 ++ [(5, nI s.2.2.2.1, cs (p + 1), r.2.1, s.2.1)])) by simp only [tsum, tsum_app, isz]; omega] at a1
        exact a1
      · exact (k3.tr q2 (by omega) (by omega)).tr a2 (by omega) (by omega)
      · rw [a5, q5, c8, p5, b6]
      · rw [a6, q6, c9, p6, b7]
      · rw [a7, q3, q4, d13.trans (c5.trans (f13.trans b5))]
        show TokAt _ dr (r.1 ++ (s.1 ++ [(5, nI s.2.2.2.1, cs (p + 1), r.2.1, s.2.1)]))
        rw [TokAt_app, TokAt_app]
        refine ⟨TokAt_shift p7 (fun i hi => ?_), TokAt_shift q7 (fun i hi => ?_), ⟨?_, ?_, ?_, ?_, ?_, ?_, ?_, ?_⟩, trivial⟩
        · rw [rup_ne (by omega), rup_ne (by omega), rup_ne (by omega), rup_ne (by omega), rup_ne (by omega), rup_ne (by omega), rup_ne (by omega), rup_ne (by omega), q2.2.2 _ (by omega), c10]
        · rw [rup_ne (by omega), rup_ne (by omega), rup_ne (by omega), rup_ne (by omega), rup_ne (by omega), rup_ne (by omega), rup_ne (by omega), rup_ne (by omega)]
        · rw [rup_ne (by omega), rup_ne (by omega), rup_ne (by omega), rup_ne (by omega), rup_ne (by omega), rup_ne (by omega), rup_ne (by omega), rup_eq]
        · rw [rup_ne (by omega), rup_ne (by omega), rup_ne (by omega), rup_ne (by omega), rup_ne (by omega), rup_ne (by omega), rup_eq]
        · rw [rup_ne (by omega), rup_ne (by omega), rup_ne (by omega), rup_ne (by omega), rup_ne (by omega), rup_eq]
        · rw [rup_ne (by omega), rup_ne (by omega), rup_ne (by omega), rup_ne (by omega), rup_eq]
        · rw [rup_ne (by omega), rup_ne (by omega), rup_ne (by omega), rup_eq]
        · rw [rup_ne (by omega), rup_ne (by omega), rup_eq]
        · rw [rup_ne (by omega), rup_eq]
        · rw [rup_eq]
    · obtain ⟨S', r4, r5⟩ := g4 (fun z => hg ⟨hg1, z⟩)
      exact ⟨S', Rk.tr st2 r4, r5.trans k3.1⟩
  · refine ⟨fun hg => absurd hg.1 hg1, fun _ => ?_⟩
    obtain ⟨S', r1, r2⟩ := g2 hg1
    exact ⟨S', Rk.tr st1 r1, r2.trans b2.1⟩
theorem sim_6 {f : Nat} (h60 : n ≤ 60) (ih : SimS E g o d cs n f) {M : Mn} {p k q dr dp D : Nat} {S : MSt} {x y : Option Value} (hcs : S.2 2 = cs) (hC : CS n p q dr k dp D S) (hf : n < f + 1 + p) (hq : q ≤ p) (hk : k ≤ p) (hdp : dp ≤ p) (hD : dp ≤ D ∧ D ≤ p) (hdr : dr ≤ 11 * p) (hM : mrel M S) (hh : hok cs n p = true) (w : cs p = 6) :
    (Gd cs n (f + 1) M p k → ∃ S', Ex E (d + 5) (C53 o x y) (mh g o S) (C79 o) (mh g o S') ∧ Post n q dr dp D S (cv cs (f + 1) M p k) S') ∧ (¬ Gd cs n (f + 1) M p k → ∃ S', Rk E (d + 5) (C53 o x y) (mh g o S) (some (.int 0)) (mh g o S') ∧ out S' = out S) := by
  obtain ⟨h1, -, -, h4, -⟩ := hok_iff.mp hh
  rw [w, show hl 6 = 1 from rfl] at h4
  have hst := b_op6 (E := E) (d := d + 3) (o := o) (g := g) (q := q) hC.2.1 hC.1 h60 (by rw [hcs]; exact w) (by omega) hC.2.2.1 (by omega)
  obtain ⟨S1, e1, b1, b2, b3, b4, b6, b7, b8⟩ := T_op6 hC
  rw [e1] at hst
  have st1 := cl_0 (x := x) (y := y) hst
  have hM1 : mrel M S1 := mrel_eq hM b6 b7
  obtain ⟨g1, g2⟩ := ih M (p + 1) k (q + 1) dr dp D S1 none none (by rw [out_a b2.1 rfl]; exact hcs) b1 h4 (by omega) (by omega) (by omega) (by omega) (by omega) (by omega) hM1
  rw [Gd_6 hh w]
  by_cases hg1 : Gd cs n f M (p + 1) k
  · obtain ⟨S2, r1, p1, p2, p3, p4, p5, p6, p7⟩ := g1 hg1
    obtain ⟨p', hp'⟩ := hg1.1
    obtain ⟨n1, n2, n3, n4, n5, n6, n7⟩ := cv_nums f M (p + 1) k p' hp'
    rw [cv_6 w]
    simp only
    generalize cv cs f M (p + 1) k = r at *
    have f11 := p2.2.1 11 (by omega) (by omega) (q + 1) (Nat.le_refl _)
    have f12 := p2.2.1 12 (by omega) (by omega) (q + 1) (Nat.le_refl _)
    have hgo := go_if0 (E := E) (d := d) (o := o) (g := g) (dr := dr + tsum r.1) (by omega) p1.2.2.1 (f11.trans b3) (f12.trans b4) p1.2.2.2.1 (by omega)
    obtain ⟨S3, e3, c1, c2, c3, c4, c5, c6, c7, c8⟩ := T_goif0 p1 ⟨by omega, by omega, by omega⟩ (f12.trans b4)
    rw [e3] at hgo
    have st2 := st1.tr (r1.tr (cl_g0 p1.2.2.1 (by omega) (by omega) hgo))
    have k3 : KA q dr S S3 := (b2.tr p2 (by omega) (by omega)).tr c2 (by omega) (by omega)
    have hM3 : mrel M S3 := mrel_eq (mrel_eq hM1 p5 p6) c6 c7
    obtain ⟨g3, g4⟩ := ih M r.2.2.1 r.2.2.2.1 (q + 1) (dr + tsum r.1 + 5) (dp + 1) (max (max D (dp + r.2.2.2.2.1)) (dp + 1)) S3 none none (by rw [out_a k3.1 rfl]; exact hcs) c1 (by omega) (by omega) (by omega) (by omega) (by omega) (by omega) (by omega) hM3
    by_cases hg2 : Gd cs n f M r.2.2.1 r.2.2.2.1
    · obtain ⟨S4, r4, q1, q2, q3, q4, q5, q6, q7⟩ := g3 hg2
      obtain ⟨p'', hp''⟩ := hg2.1
      obtain ⟨m1, m2, m3, m4, m5, m6, m7⟩ := cv_nums f M r.2.2.1 r.2.2.2.1 p'' hp''
      generalize cv cs f M r.2.2.1 r.2.2.2.1 = s at *
      have d11 := q2.2.1 11 (by omega) (by omega) (q + 1) (Nat.le_refl _)
      have d12 := q2.2.1 12 (by omega) (by omega) (q + 1) (Nat.le_refl _)
      have d14 := q2.2.1 14 (by omega) (by omega) (q + 1) (Nat.le_refl _)
      have hgo2 := go_if1 (E := E) (d := d) (o := o) (g := g) (dr := dr + tsum r.1 + 5 + tsum s.1) (by omega) q1.2.2.1 (d11.trans (c3.trans (f11.trans b3))) (d12.trans c4) q1.2.2.2.1 (by omega)
      obtain ⟨S5, e5, a1, a2, a3, a4, a5, a6, a7, a8⟩ := T_goif1 q1 ⟨by omega, by omega, by omega⟩ (d12.trans c4)
      rw [e5] at hgo2
      have st3 := st2.tr (r4.tr (cl_g0 q1.2.2.1 (by omega) (by omega) hgo2))
      have k5 : KA q dr S S5 := (k3.tr q2 (by omega) (by omega)).tr a2 (by omega) (by omega)
      have hM5 : mrel M S5 := mrel_eq (mrel_eq hM3 q5 q6) a6 a7
      obtain ⟨g5, g6⟩ := ih M s.2.2.1 s.2.2.2.1 (q + 1) (dr + tsum r.1 + 5 + tsum s.1 + 3) (dp + 1) (max (max (max D (dp + r.2.2.2.2.1)) (dp + 1)) (dp + 1 + s.2.2.2.2.1)) S5 none none (by rw [out_a k5.1 rfl]; exact hcs) a1 (by omega) (by omega) (by omega) (by omega) (by omega) (by omega) (by omega) hM5
      refine ⟨fun hg => ?_, fun hg => ?_⟩
      · obtain ⟨S6, r6, u1, u2, u3, u4, u5, u6, u7⟩ := g5 hg.2.2
        obtain ⟨p3', hp3⟩ := hg.2.2.1
        obtain ⟨l1, l2, l3, l4, l5, l6, l7⟩ := cv_nums f M s.2.2.1 s.2.2.2.1 p3' hp3
        generalize cv cs f M s.2.2.1 s.2.2.2.1 = u at *
        have v11 := u2.2.1 11 (by omega) (by omega) (q + 1) (Nat.le_refl _)
        have v12 := u2.2.1 12 (by omega) (by omega) (q + 1) (Nat.le_refl _)
        have v14 := u2.2.1 14 (by omega) (by omega) (q + 1) (Nat.le_refl _)
        have h14 : S6.2 14 (q + 1) = nI (dr + tsum r.1) := v14.trans (a5.trans (d14.trans c5))
        have hgo3 := go_if2 (E := E) (d := d) (o := o) (g := g) (hd := dr + tsum r.1) (dr := dr + tsum r.1 + 5 + tsum s.1 + 3 + tsum u.1) (by omega) u1.2.2.1 (v11.trans (a3.trans (d11.trans (c3.trans (f11.trans b3))))) (v12.trans a4) h14 (by omega) u1.2.2.2.1 (by omega)
        obtain ⟨S7, e7, w1, w2, w3, w4, w5, w6, w7⟩ := T_goif2 (hd := dr + tsum r.1) u1 ⟨by omega, by omega, by omega⟩ (by omega) (by omega)
        rw [e7] at hgo3
        refine ⟨S7, st3.tr (r6.tr (cl_g1 u1.2.2.1 (by omega) (by omega) hgo3)), ?_, ?_, w3, w4, ?_, ?_, ?_⟩
        · rw [show max (max (max (max D (dp + r.2.2.2.2.1)) (dp + 1)) (dp + 1 + s.2.2.2.2.1)) (dp + 1 + u.2.2.2.2.1) = max D (dp + max r.2.2.2.2.1 (max (s.2.2.2.2.1 + 1) (u.2.2.2.2.1 + 1))) by omega, show dr + tsum r.1 + 5 + tsum s.1 + 3 + tsum u.1 + 3 = dr + tsum (r.1 ++ (6, nI u.2.2.2.1, 0, r.2.1, (0, 0)) :: (s.1 ++ iRes s.2.1 :: (u.1 ++ [iRes u.2.1]))) by simp only [tsum, tsum_app, isz, iRes]; omega, Nat.add_sub_cancel] at w1
          exact w1
        · exact (k5.tr u2 (by omega) (by omega)).tr w2 (by omega) (by omega)
        · rw [w5, u5, a6, q5, c6, p5, b6]
        · rw [w6, u6, a7, q6, c7, p6, b7]
        · have hR4 : ∀ i, i < dr + tsum r.1 + 5 → S4.2 25 i = S3.2 25 i := q2.2.2
          have hR6 : ∀ i, i < dr + tsum r.1 + 5 + tsum s.1 + 3 → S6.2 25 i = S5.2 25 i := u2.2.2
          rw [w7, u3, u4]
          rw [p3, p4] at c8
          rw [q3, q4] at a8
          show TokAt _ dr (r.1 ++ (6, nI u.2.2.2.1, 0, r.2.1, (0, 0)) :: (s.1 ++ iRes s.2.1 :: (u.1 ++ [iRes u.2.1])))
          rw [TokAt_app]
          refine ⟨TokAt_shift p7 (fun i hi => ?_), ⟨?_, ?_, ?_, ?_, ?_⟩, ?_⟩
          · rw [rup_ne (by omega), rup_ne (by omega), rup_ne (by omega), rup_ne (by omega), hR6 _ (by omega), a8, rup_ne (by omega), rup_ne (by omega), rup_ne (by omega), hR4 _ (by omega), c8, rup_ne (by omega), rup_ne (by omega), rup_ne (by omega), rup_ne (by omega), rup_ne (by omega)]
          · rw [rup_ne (by omega), rup_ne (by omega), rup_ne (by omega), rup_ne (by omega), hR6 _ (by omega), a8, rup_ne (by omega), rup_ne (by omega), rup_ne (by omega), hR4 _ (by omega), c8, rup_ne (by omega), rup_ne (by omega), rup_ne (by omega), rup_ne (by omega), rup_eq]
          · rw [rup_eq]
          · rw [rup_ne (by omega), rup_ne (by omega), rup_ne (by omega), rup_ne (by omega), hR6 _ (by omega), a8, rup_ne (by omega), rup_ne (by omega), rup_ne (by omega), hR4 _ (by omega), c8, rup_ne (by omega), rup_ne (by omega), rup_eq]
          · rw [rup_ne (by omega), rup_ne (by omega), rup_ne (by omega), rup_ne (by omega), hR6 _ (by omega), a8, rup_ne (by omega), rup_ne (by omega), rup_ne (by omega), hR4 _ (by omega), c8, rup_ne (by omega), rup_eq]
          · rw [rup_ne (by omega), rup_ne (by omega), rup_ne (by omega), rup_ne (by omega), hR6 _ (by omega), a8, rup_ne (by omega), rup_ne (by omega), rup_ne (by omega), hR4 _ (by omega), c8, rup_eq]
          · show TokAt _ (dr + tsum r.1 + 5) (s.1 ++ iRes s.2.1 :: (u.1 ++ [iRes u.2.1]))
            rw [TokAt_app]
            refine ⟨TokAt_shift q7 (fun i hi => ?_), ⟨?_, ?_, ?_⟩, ?_⟩
            · rw [rup_ne (by omega), rup_ne (by omega), rup_ne (by omega), rup_ne (by omega), hR6 _ (by omega), a8, rup_ne (by omega), rup_ne (by omega), rup_ne (by omega)]
            · rw [rup_ne (by omega), rup_ne (by omega), rup_ne (by omega), rup_ne (by omega), hR6 _ (by omega), a8, rup_ne (by omega), rup_ne (by omega), rup_eq]
            · rw [rup_ne (by omega), rup_ne (by omega), rup_ne (by omega), rup_ne (by omega), hR6 _ (by omega), a8, rup_ne (by omega), rup_eq]; rfl
            · rw [rup_ne (by omega), rup_ne (by omega), rup_ne (by omega), rup_ne (by omega), hR6 _ (by omega), a8, rup_eq]; rfl
            · show TokAt _ (dr + tsum r.1 + 5 + tsum s.1 + 3) (u.1 ++ [iRes u.2.1])
              rw [TokAt_app]
              refine ⟨TokAt_shift u7 (fun i hi => ?_), ⟨?_, ?_, ?_⟩, trivial⟩
              · rw [rup_ne (by omega), rup_ne (by omega), rup_ne (by omega), rup_ne (by omega)]
              · rw [rup_ne (by omega), rup_ne (by omega), rup_ne (by omega), rup_eq]
              · rw [rup_ne (by omega), rup_ne (by omega), rup_eq]; rfl
              · rw [rup_ne (by omega), rup_eq]; rfl
      · obtain ⟨S', r6, r7⟩ := g6 (fun z => hg ⟨hg1, hg2, z⟩)
        exact ⟨S', Rk.tr st3 r6, r7.trans k5.1⟩
    · refine ⟨fun hg => absurd hg.2.1 hg2, fun _ => ?_⟩
      obtain ⟨S', r4, r5⟩ := g4 hg2
      exact ⟨S', Rk.tr st2 r4, r5.trans k3.1⟩
  · refine ⟨fun hg => absurd hg.1 hg1, fun _ => ?_⟩
    obtain ⟨S', r1, r2⟩ := g2 hg1
    exact ⟨S', Rk.tr st1 r1, r2.trans b2.1⟩
theorem cv_sim (h60 : n ≤ 60) : ∀ f, SimS E g o d cs n f := by
  intro f
  induction f with
  | zero =>
    intro M p k q dr dp D S x y hcs hC hp hf
    omega
  | succ f ih =>
    intro M p k q dr dp D S x y hcs hC hp hf hq hk hdp hD hdr hM
    by_cases hh : hok cs n p = true
    · obtain ⟨h1, h2, h3, h4, h5, -⟩ := hok_iff.mp hh
      rcases kd7 h2 h3 with w | w | w | w | w | w | w
      · rw [w, show hl 0 = 2 from rfl] at h4
        refine ⟨fun _ => ?_, fun hg => absurd (Gd_01 hh w) hg⟩
        have hst := b_num (E := E) (d := d + 3) (o := o) (g := g) hC.2.1 hC.1 h60 (by rw [hcs]; exact w) (by omega)
        obtain ⟨S1, e1, b1, b2, b3, b4, b5, b6, b7⟩ := T_at (a := 0) (b := S.2 2 (p + 1)) hC
        rw [e1] at hst
        refine ⟨S1, cl_1 hst, ?_⟩
        rw [cv_0 w]
        refine ⟨?_, b2, b3, by rw [b4, hcs], b5, b6, trivial⟩
        show CS n (p + 2) q (dr + 0) k dp (max D (dp + 0)) S1
        by_cases hd : dp ≤ D
        · rw [show max D (dp + 0) = D by omega]; exact b1
        · exact absurd hd (by omega)
      · rw [w, show hl 1 = 2 from rfl] at h4
        obtain ⟨j, hj, ej⟩ := le_nat (m := 9) (by decide) (h5 w).1 (h5 w).2
        cases hx : M j with
        | none =>
          have hx' : M (cs (p + 1)).toNatClampNeg = none := by rw [ej, nI_clamp (by omega)]; exact hx
          refine ⟨fun hg => ?_, fun _ => ?_⟩
          · have := hg.2
            rw [cv_1n w hx'] at this
            cases this
          · have hst := b_varF (E := E) (d := d + 3) (o := o) (g := g) (x := j) hC.2.1 hC.1 h60 (by rw [hcs]; exact w) (by omega) (by omega) (by rw [hcs]; exact ej) ((hM j (by omega)).1 hx)
            exact ⟨_, cl_f hst, out_next.trans out_next⟩
        | some a =>
          have hx' : M (cs (p + 1)).toNatClampNeg = some a := by rw [ej, nI_clamp (by omega)]; exact hx
          obtain ⟨m1, m2, m3⟩ := (hM j (by omega)).2 a hx
          refine ⟨fun _ => ?_, fun hg => absurd ⟨⟨_, sy_01 hh (Or.inr w)⟩, by rw [cv_1s w hx']⟩ hg⟩
          have hst := b_var (E := E) (d := d + 3) (o := o) (g := g) (x := j) hC.2.1 hC.1 h60 (by rw [hcs]; exact w) (by omega) (by omega) (by rw [hcs]; exact ej) (by rw [m1]; exact m3)
          obtain ⟨S1, e1, b1, b2, b3, b4, b5, b6, b7⟩ := T_at (a := S.2 19 j) (b := S.2 20 j) hC
          rw [e1] at hst
          refine ⟨S1, cl_1 hst, ?_⟩
          rw [cv_1s w hx']
          refine ⟨?_, b2, b3.trans m1, b4.trans m2, b5, b6, trivial⟩
          show CS n (p + 2) q (dr + 0) k dp (max D (dp + 0)) S1
          rw [show max D (dp + 0) = D by omega]
          exact b1
      · exact sim_2 h60 ih hcs hC hf hq hk hdp hD hdr hM hh w
      · exact sim_3 h60 ih hcs hC hf hq hk hdp hD hdr hM hh w
      · exact sim_4 h60 ih hcs hC hf hq hk hdp hD hdr hM hh w
      · exact sim_5 h60 ih hcs hC hf hq hk hdp hD hdr hM hh w
      · exact sim_6 h60 ih hcs hC hf hq hk hdp hD hdr hM hh w
    · refine ⟨fun hg => ?_, fun _ => ?_⟩
      · obtain ⟨p', hp'⟩ := hg.1
        exact absurd (sy_hok hp') hh
      · obtain ⟨S', r1, r2⟩ := begins_bad (E := E) (d := d + 3) (o := o) (g := g) h60 hcs hC hp hq (by cases hb : hok cs n p with | false => rfl | true => exact absurd hb hh)
        exact ⟨S', cl_f r1, r2⟩
end SIM2
