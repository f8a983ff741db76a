/-! ===== the class: every term is converted ===== -/
theorem pset_comm {h : PH} {a b : Nat} {c c' : PC} (e : a ≠ b) : pset (pset h a c) b c' = pset (pset h b c') a c := by
  refine Prod.ext (funext fun q => ?_) rfl
  show (if q = b then _ else if q = a then _ else h.1 q) = (if q = a then _ else if q = b then _ else h.1 q)
  by_cases e1 : q = a
  · have e2 : ¬ q = b := fun z => e (e1.symm.trans z)
    simp only [if_pos e1, if_neg e2]
  · simp only [if_neg e1]
section M59
variable {E : PE} {d : Nat} {h : PH} {O : Nat → Nat × Nat} {G : PG} {kz at0 k dr : Nat} {cs : Nat → Int32} {len : Int32} {M : Mn} {fr : Bool}
theorem AtE.pre {run run1 : Nat → PH → Prop} {h1 : PH} {a R p : Nat} {bs : List Nat} {r : Int32 × Int32} {c : Cv} (hw : Wf h) (c0 : ChP kz (kz + 2) (kz + 2) O h O h1) (e1 : h1.2 = h.2) (hr : ∀ xa h', run1 xa h' → run xa h') (g : AtE E kz cs len M run1 h1 O G a bs r fr R dr p c) : AtE E kz cs len M run h O G a bs r fr R dr p c := by
  obtain ⟨h', O', G', xa, Q, bs', a1, a2, a3, a4, a5, a6, a7, a8, a9, a10, a11, a12⟩ := g
  have e2 : h1.2.1 = h.2.1 := by rw [e1]
  have e3 : h1.2.2 = h.2.2 := by rw [e1]
  exact ⟨h', O', G', xa, Q, bs', hr _ _ a1, a2, a3, a4, a5, a6, a7, a8, a9.later (by omega), c0.tr hw a10, by omega, by omega⟩
theorem at_all (kz : Nat) (cs : Nat → Int32) (n : Nat) : ∀ f, AtP E kz cs n f := by
  intro f
  induction f with
  | zero =>
    intro d h O G len a bs r p p' k M fr R dr D hy
    exact absurd hy.1 (by intro z; cases z)
  | succ f IH =>
    intro d h O G len a bs r p p' k M fr R dr D hy
    obtain ⟨hsy, hG, x, ha, hb, hD, hR, hRd, hdr, hn⟩ := hy
    have hw := hG.1
    obtain ⟨-, u2, u3, -⟩ := cv_nums (f + 1) M p k p' hsy
    have hk := sy_hok hsy
    obtain ⟨k1, k2, k3, k4, k5, k6, k7, k8⟩ := hok_iff.mp hk
    have nx := c_nexti (E := E) (d := d + 3 * f + 12) hG x (by omega)
    obtain ⟨x1, G1, c1⟩ := KvH.put (len' := len) (at' := p + 1) (fr' := fr) (k' := k) (dr' := dr) hG x
    have z1 : (pset h kz (3, kcl kz len (p + 1) fr k dr)).2 = h.2 := rfl
    generalize hh1 : pset h kz (3, kcl kz len (p + 1) fr k dr) = h1 at nx x1 G1 c1 z1
    have zx := x.1
    have zy := x1.1
    have e1 : h1.2.1 = h.2.1 := by rw [z1]
    have e1' : h1.2.2 = h.2.2 := by rw [z1]
    have eD : d + 3 * (f + 1) + 10 = d + 3 * f + 13 := by omega
    rw [eD]
    rcases kd7 k2 k3 with w | w | w | w | w | w | w
    · -- a number
      rw [cv_0 w]
      rw [sy_01 hk (Or.inl w)] at hsy
      cases hsy
      rw [w] at nx
      have Ga : GH E (mkA h1 (0, cs (p + 1))) O G := mkA_G G1
      have ca : Ch O h1 O (mkA h1 (0, cs (p + 1))) := mkA_ch G1.1
      have xa := x1.ch G1.1 ca
      obtain ⟨x2, G2, c2⟩ := KvH.put (len' := len) (at' := p + 2) (fr' := fr) (k' := k) (dr' := dr) Ga xa
      have A2 := xa.at c2 (mkA_at (h := h1) (v := (0, cs (p + 1))) (Or.inl rfl))
      have wn : Wf (pnew h1 (1, pdef 1)) := G1.1.new
      have Gn : GH E (pnew h1 (1, pdef 1)) O G := G1.mono wn (fun _ _ => rfl) (fun q t fs hq _ => pnew_old G1.1 hq)
      have xn := x1.ch G1.1 (Ch.new (c := (1, pdef 1)) G1.1)
      have nx2 := c_nexti (E := E) (d := d + 3 * f + 12) Gn xn (by omega)
      have kne : kz ≠ h1.2.1 := by have := G1.1 _ _ zy; omega
      have ce : (pset (pnew h1 (1, pdef 1)) kz (3, kcl kz len (p + 1 + 1) fr k dr)).1 h1.2.1 = some (1, pdef 1) := (pset_ne (Ne.symm kne)).trans pnew_at
      have hat := c_atom0 (E := E) (d := d + 3 * f + 12) (n := h1.2.1) (fs := pdef 1) (v1 := 0) (v2 := cs (p + 1)) ce rfl (Or.inl rfl)
      have ef : pset (pset (pnew h1 (1, pdef 1)) kz (3, kcl kz len (p + 1 + 1) fr k dr)) h1.2.1 (1, [.int 0, .int (cs (p + 1))]) = pset (mkA h1 (0, cs (p + 1))) kz (3, kcl kz len (p + 2) fr k dr) := pset_comm kne
      rw [ef] at hat
      have xnz := xn.1
      refine ⟨_, O, G, h1.2.1, [], [], Rn.of (Nat.le_of_ble_eq_true rfl) ?_, G2, ?_, A2, by rw [List.append_nil]; exact ha, rfl, fun b p0 s0 => by rw [List.append_nil]; rfl, Nat.zero_le _, NewG.nil, (c1.tr hw ca.p).tr hw c2, ?_, ?_⟩
      · refine Rk.tr (F1 := (91, 1, _, _)) (x_iload_n rfl rfl) ?_
        refine Rk.tr (F1 := (91, 3, _, _)) (x_bipush rfl) ?_
        refine Rk.tr (F1 := (91, 16, _, _)) (x_icT rfl (tg := 16) rfl (show nI D ≤ nI 40 from nI_le (by omega) (by omega))) ?_
        refine Rk.tr (F1 := (91, 17, _, _)) (x_aload_n rfl rfl rfl) ?_
        refine Rk.tr (F1 := (91, 20, _, _)) (x_callv (As := []) rfl rfl rfl (Or.inr rfl) rfl rfl zx (by decide) rfl (Nat.le_of_ble_eq_true rfl) nx rfl) ?_
        refine Rk.tr (F1 := (91, 22, [_, _, _, _, _], _)) (x_istore (i := 4) rfl (Nat.le_of_ble_eq_true rfl)) ?_
        refine Rk.tr (F1 := (91, 24, _, _)) (x_iload rfl rfl) ?_
        refine Rk.tr (F1 := (91, 64, _, _)) (x_tswIn rfl (by decide) (by decide) rfl rfl) ?_
        refine Rk.tr (F1 := (91, 67, _, _)) (x_new rfl rfl (by decide)) ?_
        refine Rk.tr (F1 := (91, 68, _, _)) (x_dup rfl rfl) ?_
        refine Rk.tr (F1 := (91, 69, _, _)) (x_iconst rfl) ?_
        refine Rk.tr (F1 := (91, 70, _, _)) (x_aload_n rfl rfl rfl) ?_
        refine Rk.tr (F1 := (91, 73, _, _)) (x_callv (As := []) rfl rfl rfl (Or.inr rfl) rfl rfl xnz (by decide) rfl (Nat.le_of_ble_eq_true rfl) nx2 rfl) ?_
        refine Rk.tr (F1 := (91, 76, _, _)) (x_calli (As := [_, _]) rfl rfl rfl rfl rfl rfl (Nat.le_of_ble_eq_true rfl) hat rfl) ?_
        exact Rk.end rfl (Or.inr (Or.inr (Or.inr ⟨rfl, _, _, rfl, Or.inl ⟨_, rfl⟩, Or.inr ⟨_, rfl⟩, rfl, rfl⟩)))
      · show KvH _ O kz cs len (p + 2) M (fr || false) k (max dr (R + 0))
        rw [Bool.or_false, show max dr (R + 0) = dr by omega]
        exact x2
      · show h1.2.1 + 1 ≤ h.2.1 + 12 * (p + 2 - p)
        omega
      · show h1.2.2 + 2 ≤ h.2.2 + 300 * (p + 2 - p)
        omega
    · -- a variable
      obtain ⟨j, hj, hjc⟩ := le_nat (m := 9) (by decide) (k5 w).1 (k5 w).2
      have hcl : (cs (p + 1)).toNatClampNeg = j := by rw [hjc]; exact nI_clamp (by omega)
      rw [sy_01 hk (Or.inr w)] at hsy
      cases hsy
      rw [w] at nx
      have nx2 := c_nexti (E := E) (d := d + 3 * f + 12) G1 x1 (by omega)
      rw [hjc] at nx2
      obtain ⟨x2, G2, c2⟩ := KvH.put (len' := len) (at' := p + 2) (fr' := fr) (k' := k) (dr' := dr) G1 x1
      have z2 : (pset h1 kz (3, kcl kz len (p + 1 + 1) fr k dr)).2 = h1.2 := rfl
      have c12 := c1.tr hw c2
      have zz := x2.1
      rcases c_mean (E := E) (d := d + 3 * f + 11) G2 x2 (v := j) (by omega) with ⟨b, y, q1, q2, q3⟩ | ⟨q1, q3⟩
      · rw [cv_1s w (by rw [hcl]; exact q1)]
        refine ⟨_, O, G, y, [], [], Rn.of (Nat.le_of_ble_eq_true rfl) ?_, G2, ?_, q2, by rw [List.append_nil]; exact ha, rfl, fun b p0 s0 => by rw [List.append_nil]; rfl, Nat.zero_le _, NewG.nil, c12, ?_, ?_⟩
        · refine Rk.tr (F1 := (91, 1, _, _)) (x_iload_n rfl rfl) ?_
          refine Rk.tr (F1 := (91, 3, _, _)) (x_bipush rfl) ?_
          refine Rk.tr (F1 := (91, 16, _, _)) (x_icT rfl (tg := 16) rfl (show nI D ≤ nI 40 from nI_le (by omega) (by omega))) ?_
          refine Rk.tr (F1 := (91, 17, _, _)) (x_aload_n rfl rfl rfl) ?_
          refine Rk.tr (F1 := (91, 20, _, _)) (x_callv (As := []) rfl rfl rfl (Or.inr rfl) rfl rfl zx (by decide) rfl (Nat.le_of_ble_eq_true rfl) nx rfl) ?_
          refine Rk.tr (F1 := (91, 22, [_, _, _, _, _], _)) (x_istore (i := 4) rfl (Nat.le_of_ble_eq_true rfl)) ?_
          refine Rk.tr (F1 := (91, 24, _, _)) (x_iload rfl rfl) ?_
          refine Rk.tr (F1 := (91, 77, _, _)) (x_tswIn rfl (by decide) (by decide) rfl rfl) ?_
          refine Rk.tr (F1 := (91, 78, _, _)) (x_aload_n rfl rfl rfl) ?_
          refine Rk.tr (F1 := (91, 79, _, _)) (x_aload_n rfl rfl rfl) ?_
          refine Rk.tr (F1 := (91, 82, _, _)) (x_callv (As := []) rfl rfl rfl (Or.inr rfl) rfl rfl zy (by decide) rfl (Nat.le_of_ble_eq_true rfl) nx2 rfl) ?_
          refine Rk.tr (F1 := (91, 85, _, _)) (x_callv (As := [_]) rfl rfl rfl (Or.inr rfl) rfl rfl zz (by decide) rfl (Nat.le_of_ble_eq_true rfl) q3 rfl) ?_
          exact Rk.end rfl (Or.inr (Or.inr (Or.inr ⟨rfl, _, _, rfl, Or.inl ⟨_, rfl⟩, Or.inr ⟨_, rfl⟩, rfl, rfl⟩)))
        · show KvH _ O kz cs len (p + 2) M (fr || false) k (max dr (R + 0))
          rw [Bool.or_false, show max dr (R + 0) = dr by omega]
          exact x2
        · show h1.2.1 ≤ h.2.1 + 12 * (p + 2 - p)
          omega
        · show h1.2.2 ≤ h.2.2 + 300 * (p + 2 - p)
          omega
      · rw [cv_1n w (by rw [hcl]; exact q1)]
        obtain ⟨x3, G3, c3⟩ := KvH.put (len' := len) (at' := p + 2) (fr' := true) (k' := k) (dr' := dr) G2 x2
        have G4 : GH E (mkA (pset (pset h1 kz (3, kcl kz len (p + 2) fr k dr)) kz (3, kcl kz len (p + 2) true k dr)) (0, 0)) O G := mkA_G G3
        have c4 : Ch O _ O (mkA (pset (pset h1 kz (3, kcl kz len (p + 2) fr k dr)) kz (3, kcl kz len (p + 2) true k dr)) (0, 0)) := mkA_ch G3.1
        have x4 := x3.ch G3.1 c4
        have A4 := mkA_at (h := pset (pset h1 kz (3, kcl kz len (p + 2) fr k dr)) kz (3, kcl kz len (p + 2) true k dr)) (v := (0, 0)) (Or.inl rfl)
        refine ⟨_, O, G, h1.2.1, [], [], Rn.of (Nat.le_of_ble_eq_true rfl) ?_, G4, ?_, A4, by rw [List.append_nil]; exact ha, rfl, fun b p0 s0 => by rw [List.append_nil]; rfl, Nat.zero_le _, NewG.nil, (c12.tr hw c3).tr hw c4.p, ?_, ?_⟩
        · refine Rk.tr (F1 := (91, 1, _, _)) (x_iload_n rfl rfl) ?_
          refine Rk.tr (F1 := (91, 3, _, _)) (x_bipush rfl) ?_
          refine Rk.tr (F1 := (91, 16, _, _)) (x_icT rfl (tg := 16) rfl (show nI D ≤ nI 40 from nI_le (by omega) (by omega))) ?_
          refine Rk.tr (F1 := (91, 17, _, _)) (x_aload_n rfl rfl rfl) ?_
          refine Rk.tr (F1 := (91, 20, _, _)) (x_callv (As := []) rfl rfl rfl (Or.inr rfl) rfl rfl zx (by decide) rfl (Nat.le_of_ble_eq_true rfl) nx rfl) ?_
          refine Rk.tr (F1 := (91, 22, [_, _, _, _, _], _)) (x_istore (i := 4) rfl (Nat.le_of_ble_eq_true rfl)) ?_
          refine Rk.tr (F1 := (91, 24, _, _)) (x_iload rfl rfl) ?_
          refine Rk.tr (F1 := (91, 77, _, _)) (x_tswIn rfl (by decide) (by decide) rfl rfl) ?_
          refine Rk.tr (F1 := (91, 78, _, _)) (x_aload_n rfl rfl rfl) ?_
          refine Rk.tr (F1 := (91, 79, _, _)) (x_aload_n rfl rfl rfl) ?_
          refine Rk.tr (F1 := (91, 82, _, _)) (x_callv (As := []) rfl rfl rfl (Or.inr rfl) rfl rfl zy (by decide) rfl (Nat.le_of_ble_eq_true rfl) nx2 rfl) ?_
          refine Rk.tr (F1 := (91, 85, _, _)) (x_callv (As := [_]) rfl rfl rfl (Or.inr rfl) rfl rfl zz (by decide) rfl (Nat.le_of_ble_eq_true rfl) q3 rfl) ?_
          exact Rk.end rfl (Or.inr (Or.inr (Or.inr ⟨rfl, _, _, rfl, Or.inl ⟨_, rfl⟩, Or.inr ⟨_, rfl⟩, rfl, rfl⟩)))
        · show KvH _ O kz cs len (p + 2) M (fr || true) k (max dr (R + 0))
          rw [Bool.or_true, show max dr (R + 0) = dr by omega]
          exact x4
        · show h1.2.1 + 1 ≤ h.2.1 + 12 * (p + 2 - p)
          omega
        · show h1.2.2 + 2 ≤ h.2.2 + 300 * (p + 2 - p)
          omega
    · -- a function
      obtain ⟨j, hj, hjc⟩ := le_nat (m := 9) (by decide) (k6 w).1 (k6 w).2
      have hcl : (cs (p + 1)).toNatClampNeg = j := by rw [hjc]; exact nI_clamp (by omega)
      rw [sy_2 hk w] at hsy
      rw [cv_2 w, hcl]
      rw [w] at nx
      have g := fun_core (E := E) (d := d) IH hjc (by omega) (by omega) hsy G1 x1 ha hb hD hR hRd hdr hn rfl
      refine AtE.pre hw c1 z1 (fun xa h' kk => Rn.of (Nat.le_of_ble_eq_true rfl) ?_) g
      refine Rk.tr (F1 := (91, 1, _, _)) (x_iload_n rfl rfl) ?_
      refine Rk.tr (F1 := (91, 3, _, _)) (x_bipush rfl) ?_
      refine Rk.tr (F1 := (91, 16, _, _)) (x_icT rfl (tg := 16) rfl (show nI D ≤ nI 40 from nI_le (by omega) (by omega))) ?_
      refine Rk.tr (F1 := (91, 17, _, _)) (x_aload_n rfl rfl rfl) ?_
      refine Rk.tr (F1 := (91, 20, _, _)) (x_callv (As := []) rfl rfl rfl (Or.inr rfl) rfl rfl zx (by decide) rfl (Nat.le_of_ble_eq_true rfl) nx rfl) ?_
      refine Rk.tr (F1 := (91, 22, [_, _, _, _, _], _)) (x_istore (i := 4) rfl (Nat.le_of_ble_eq_true rfl)) ?_
      refine Rk.tr (F1 := (91, 24, _, _)) (x_iload rfl rfl) ?_
      refine Rk.tr (F1 := (91, 86, _, _)) (x_tswIn rfl (by decide) (by decide) rfl rfl) ?_
      refine Rk.tr (F1 := (91, 87, _, _)) (x_aload_n rfl rfl rfl) ?_
      refine Rk.tr (F1 := (91, 88, _, _)) (x_aload_n rfl rfl rfl) ?_
      refine Rk.tr (F1 := (91, 89, _, _)) (x_iload_n rfl rfl) ?_
      refine Rk.tr (F1 := (91, 90, _, _)) (x_iload_n rfl rfl) ?_
      refine Rk.tr (F1 := (91, 91, _, _)) (x_iconst rfl) ?_
      refine Rk.tr (F1 := (91, 92, _, _)) (x_iadd rfl) ?_
      refine Rk.tr (F1 := (91, 92, _, _)) (x_top (nI_1 D)) ?_
      refine Rk.tr (F1 := (91, 95, _, _)) (x_callv (As := [_, _, _]) rfl rfl rfl (Or.inr rfl) rfl rfl zy (by decide) rfl (Nat.le_of_ble_eq_true rfl) kk rfl) ?_
      exact Rk.end rfl (Or.inr (Or.inr (Or.inr ⟨rfl, _, _, rfl, Or.inl ⟨_, rfl⟩, Or.inr ⟨_, rfl⟩, rfl, rfl⟩)))
    · -- apply
      rw [sy_345 hk (Or.inl w), w, show hl (3 : Int32) = 1 by decide] at hsy
      obtain ⟨q, s1, s2⟩ := bind_some hsy
      have nq := (cv_nums f M (p + 1) k q s1).1
      rw [cv_3 w]
      simp only [nq]
      rw [w] at nx
      have g := pair_core (E := E) (d := d) (q := p + 1) (p := p) (kd := 3) (dt := 0) IH s1 s2 G1 x1 ha hb (by omega) hD hR hRd hdr hn rfl rfl rfl (Or.inl rfl)
      refine AtE.pre hw c1 z1 (fun xa h' kk => ?_) g
      have km : Rn E (d + 3 * f + 12) 97 [.ref kz, .ref a, .int 3, .int (nI R), .int (nI (D + 1))] h1 (some (.ref xa)) h' := by
        refine Rn.of (Nat.le_of_ble_eq_true rfl) ?_
        refine Rk.tr (F1 := (97, 1, _, _)) (x_iload_n rfl rfl) ?_
        refine Rk.tr (F1 := (97, 2, _, _)) (x_iconst rfl) ?_
        refine Rk.tr (F1 := (97, 12, _, _)) (x_icT rfl (tg := 12) rfl (show ¬ (3 : Int32) = 5 by decide)) ?_
        refine Rk.tr (F1 := (97, 13, _, _)) (x_iconst rfl) ?_
        refine Rk.tr (F1 := (97, 15, [_, _, _, _, _, _, _, _], _)) (x_istore (i := 5) rfl (Nat.le_of_ble_eq_true rfl)) ?_
        exact kk
      refine Rn.of (Nat.le_of_ble_eq_true rfl) ?_
      refine Rk.tr (F1 := (91, 1, _, _)) (x_iload_n rfl rfl) ?_
      refine Rk.tr (F1 := (91, 3, _, _)) (x_bipush rfl) ?_
      refine Rk.tr (F1 := (91, 16, _, _)) (x_icT rfl (tg := 16) rfl (show nI D ≤ nI 40 from nI_le (by omega) (by omega))) ?_
      refine Rk.tr (F1 := (91, 17, _, _)) (x_aload_n rfl rfl rfl) ?_
      refine Rk.tr (F1 := (91, 20, _, _)) (x_callv (As := []) rfl rfl rfl (Or.inr rfl) rfl rfl zx (by decide) rfl (Nat.le_of_ble_eq_true rfl) nx rfl) ?_
      refine Rk.tr (F1 := (91, 22, [_, _, _, _, _], _)) (x_istore (i := 4) rfl (Nat.le_of_ble_eq_true rfl)) ?_
      refine Rk.tr (F1 := (91, 24, _, _)) (x_iload rfl rfl) ?_
      refine Rk.tr (F1 := (91, 96, _, _)) (x_tswIn rfl (by decide) (by decide) rfl rfl) ?_
      refine Rk.tr (F1 := (91, 97, _, _)) (x_aload_n rfl rfl rfl) ?_
      refine Rk.tr (F1 := (91, 98, _, _)) (x_aload_n rfl rfl rfl) ?_
      refine Rk.tr (F1 := (91, 99, _, _)) (x_iconst rfl) ?_
      refine Rk.tr (F1 := (91, 100, _, _)) (x_iload_n rfl rfl) ?_
      refine Rk.tr (F1 := (91, 101, _, _)) (x_iload_n rfl rfl) ?_
      refine Rk.tr (F1 := (91, 102, _, _)) (x_iconst rfl) ?_
      refine Rk.tr (F1 := (91, 103, _, _)) (x_iadd rfl) ?_
      refine Rk.tr (F1 := (91, 103, _, _)) (x_top (nI_1 D)) ?_
      refine Rk.tr (F1 := (91, 106, _, _)) (x_callv (As := [_, _, _, _]) rfl rfl rfl (Or.inr rfl) rfl rfl zy (by decide) rfl (Nat.le_of_ble_eq_true rfl) km rfl) ?_
      exact Rk.end rfl (Or.inr (Or.inr (Or.inr ⟨rfl, _, _, rfl, Or.inl ⟨_, rfl⟩, Or.inr ⟨_, rfl⟩, rfl, rfl⟩)))
    · -- let
      obtain ⟨j, hj, hjc⟩ := le_nat (m := 9) (by decide) (k7 w).1 (k7 w).2
      have hcl : (cs (p + 1)).toNatClampNeg = j := by rw [hjc]; exact nI_clamp (by omega)
      rw [sy_345 hk (Or.inr (Or.inl w)), w, show hl (4 : Int32) = 2 by decide] at hsy
      obtain ⟨q, s1, s2⟩ := bind_some hsy
      have nq := (cv_nums f M (p + 2) k q s1).1
      rw [cv_4 w, hcl]
      simp only [nq]
      rw [w] at nx
      have g := let_core (E := E) (d := d) (p := p) IH hjc (by omega) (by omega) s1 s2 G1 x1 ha hb hD hR hRd hdr hn rfl rfl
      refine AtE.pre hw c1 z1 (fun xa h' kk => Rn.of (Nat.le_of_ble_eq_true rfl) ?_) g
      refine Rk.tr (F1 := (91, 1, _, _)) (x_iload_n rfl rfl) ?_
      refine Rk.tr (F1 := (91, 3, _, _)) (x_bipush rfl) ?_
      refine Rk.tr (F1 := (91, 16, _, _)) (x_icT rfl (tg := 16) rfl (show nI D ≤ nI 40 from nI_le (by omega) (by omega))) ?_
      refine Rk.tr (F1 := (91, 17, _, _)) (x_aload_n rfl rfl rfl) ?_
      refine Rk.tr (F1 := (91, 20, _, _)) (x_callv (As := []) rfl rfl rfl (Or.inr rfl) rfl rfl zx (by decide) rfl (Nat.le_of_ble_eq_true rfl) nx rfl) ?_
      refine Rk.tr (F1 := (91, 22, [_, _, _, _, _], _)) (x_istore (i := 4) rfl (Nat.le_of_ble_eq_true rfl)) ?_
      refine Rk.tr (F1 := (91, 24, _, _)) (x_iload rfl rfl) ?_
      refine Rk.tr (F1 := (91, 107, _, _)) (x_tswIn rfl (by decide) (by decide) rfl rfl) ?_
      refine Rk.tr (F1 := (91, 108, _, _)) (x_aload_n rfl rfl rfl) ?_
      refine Rk.tr (F1 := (91, 109, _, _)) (x_aload_n rfl rfl rfl) ?_
      refine Rk.tr (F1 := (91, 110, _, _)) (x_iload_n rfl rfl) ?_
      refine Rk.tr (F1 := (91, 111, _, _)) (x_iload_n rfl rfl) ?_
      refine Rk.tr (F1 := (91, 112, _, _)) (x_iconst rfl) ?_
      refine Rk.tr (F1 := (91, 113, _, _)) (x_iadd rfl) ?_
      refine Rk.tr (F1 := (91, 113, _, _)) (x_top (nI_1 D)) ?_
      refine Rk.tr (F1 := (91, 116, _, _)) (x_callv (As := [_, _, _]) rfl rfl rfl (Or.inr rfl) rfl rfl zy (by decide) rfl (Nat.le_of_ble_eq_true rfl) kk rfl) ?_
      exact Rk.end rfl (Or.inr (Or.inr (Or.inr ⟨rfl, _, _, rfl, Or.inl ⟨_, rfl⟩, Or.inr ⟨_, rfl⟩, rfl, rfl⟩)))
    · -- an operation
      rw [sy_345 hk (Or.inr (Or.inr w)), w, show hl (5 : Int32) = 2 by decide] at hsy
      obtain ⟨q, s1, s2⟩ := bind_some hsy
      have nq := (cv_nums f M (p + 2) k q s1).1
      rw [cv_5 w]
      simp only [nq]
      rw [w] at nx
      have nx2 := c_nexti (E := E) (d := d + 3 * f + 11) G1 x1 (by omega)
      obtain ⟨x2, G2, c2⟩ := KvH.put (len' := len) (at' := p + 2) (fr' := fr) (k' := k) (dr' := dr) G1 x1
      have g := pair_core (E := E) (d := d) (q := p + 2) (p := p) (kd := 5) (dt := cs (p + 1)) IH s1 s2 G2 x2 ha hb (by omega) hD hR hRd hdr hn rfl rfl rfl (Or.inr rfl)
      refine AtE.pre hw (c1.tr hw c2) z1 (fun xa h' kk => ?_) g
      have km : Rn E (d + 3 * f + 12) 97 [.ref kz, .ref a, .int 5, .int (nI R), .int (nI (D + 1))] h1 (some (.ref xa)) h' := by
        refine Rn.of (Nat.le_of_ble_eq_true rfl) ?_
        refine Rk.tr (F1 := (97, 1, _, _)) (x_iload_n rfl rfl) ?_
        refine Rk.tr (F1 := (97, 2, _, _)) (x_iconst rfl) ?_
        refine Rk.tr (F1 := (97, 5, _, _)) (x_icF rfl (tg := 12) rfl (fun z => z rfl)) ?_
        refine Rk.tr (F1 := (97, 6, _, _)) (x_aload_n rfl rfl rfl) ?_
        refine Rk.tr (F1 := (97, 9, _, _)) (x_callv (As := []) rfl rfl rfl (Or.inr rfl) rfl rfl zy (by decide) rfl (Nat.le_of_ble_eq_true rfl) nx2 rfl) ?_
        refine Rk.tr (F1 := (97, 13, _, _)) (x_goto rfl rfl) ?_
        refine Rk.tr (F1 := (97, 15, [_, _, _, _, _, _, _, _], _)) (x_istore (i := 5) rfl (Nat.le_of_ble_eq_true rfl)) ?_
        exact kk
      refine Rn.of (Nat.le_of_ble_eq_true rfl) ?_
      refine Rk.tr (F1 := (91, 1, _, _)) (x_iload_n rfl rfl) ?_
      refine Rk.tr (F1 := (91, 3, _, _)) (x_bipush rfl) ?_
      refine Rk.tr (F1 := (91, 16, _, _)) (x_icT rfl (tg := 16) rfl (show nI D ≤ nI 40 from nI_le (by omega) (by omega))) ?_
      refine Rk.tr (F1 := (91, 17, _, _)) (x_aload_n rfl rfl rfl) ?_
      refine Rk.tr (F1 := (91, 20, _, _)) (x_callv (As := []) rfl rfl rfl (Or.inr rfl) rfl rfl zx (by decide) rfl (Nat.le_of_ble_eq_true rfl) nx rfl) ?_
      refine Rk.tr (F1 := (91, 22, [_, _, _, _, _], _)) (x_istore (i := 4) rfl (Nat.le_of_ble_eq_true rfl)) ?_
      refine Rk.tr (F1 := (91, 24, _, _)) (x_iload rfl rfl) ?_
      refine Rk.tr (F1 := (91, 117, _, _)) (x_tswIn rfl (by decide) (by decide) rfl rfl) ?_
      refine Rk.tr (F1 := (91, 118, _, _)) (x_aload_n rfl rfl rfl) ?_
      refine Rk.tr (F1 := (91, 119, _, _)) (x_aload_n rfl rfl rfl) ?_
      refine Rk.tr (F1 := (91, 120, _, _)) (x_iconst rfl) ?_
      refine Rk.tr (F1 := (91, 121, _, _)) (x_iload_n rfl rfl) ?_
      refine Rk.tr (F1 := (91, 122, _, _)) (x_iload_n rfl rfl) ?_
      refine Rk.tr (F1 := (91, 123, _, _)) (x_iconst rfl) ?_
      refine Rk.tr (F1 := (91, 124, _, _)) (x_iadd rfl) ?_
      refine Rk.tr (F1 := (91, 124, _, _)) (x_top (nI_1 D)) ?_
      refine Rk.tr (F1 := (91, 127, _, _)) (x_callv (As := [_, _, _, _]) rfl rfl rfl (Or.inr rfl) rfl rfl zy (by decide) rfl (Nat.le_of_ble_eq_true rfl) km rfl) ?_
      exact Rk.end rfl (Or.inr (Or.inr (Or.inr ⟨rfl, _, _, rfl, Or.inl ⟨_, rfl⟩, Or.inr ⟨_, rfl⟩, rfl, rfl⟩)))
    · -- an if
      rw [sy_6 hk w] at hsy
      obtain ⟨q1, s1, s2'⟩ := bind_some hsy
      obtain ⟨q2, s2, s3⟩ := bind_some s2'
      have nq1 := (cv_nums f M (p + 1) k q1 s1).1
      have nq2 := (cv_nums f M q1 (cv cs f M (p + 1) k).2.2.2.1 q2 s2).1
      rw [cv_6 w]
      simp only [nq1, nq2]
      rw [w] at nx
      have g := if_core (E := E) (d := d) (p := p) IH s1 s2 s3 G1 x1 ha hb hD hR hRd hdr hn rfl rfl rfl
      refine AtE.pre hw c1 z1 (fun xa h' kk => Rn.of (Nat.le_of_ble_eq_true rfl) ?_) g
      refine Rk.tr (F1 := (91, 1, _, _)) (x_iload_n rfl rfl) ?_
      refine Rk.tr (F1 := (91, 3, _, _)) (x_bipush rfl) ?_
      refine Rk.tr (F1 := (91, 16, _, _)) (x_icT rfl (tg := 16) rfl (show nI D ≤ nI 40 from nI_le (by omega) (by omega))) ?_
      refine Rk.tr (F1 := (91, 17, _, _)) (x_aload_n rfl rfl rfl) ?_
      refine Rk.tr (F1 := (91, 20, _, _)) (x_callv (As := []) rfl rfl rfl (Or.inr rfl) rfl rfl zx (by decide) rfl (Nat.le_of_ble_eq_true rfl) nx rfl) ?_
      refine Rk.tr (F1 := (91, 22, [_, _, _, _, _], _)) (x_istore (i := 4) rfl (Nat.le_of_ble_eq_true rfl)) ?_
      refine Rk.tr (F1 := (91, 24, _, _)) (x_iload rfl rfl) ?_
      refine Rk.tr (F1 := (91, 128, _, _)) (x_tswOut rfl (Or.inr (by decide)) rfl) ?_
      refine Rk.tr (F1 := (91, 129, _, _)) (x_aload_n rfl rfl rfl) ?_
      refine Rk.tr (F1 := (91, 130, _, _)) (x_aload_n rfl rfl rfl) ?_
      refine Rk.tr (F1 := (91, 131, _, _)) (x_iload_n rfl rfl) ?_
      refine Rk.tr (F1 := (91, 132, _, _)) (x_iload_n rfl rfl) ?_
      refine Rk.tr (F1 := (91, 133, _, _)) (x_iconst rfl) ?_
      refine Rk.tr (F1 := (91, 134, _, _)) (x_iadd rfl) ?_
      refine Rk.tr (F1 := (91, 134, _, _)) (x_top (nI_1 D)) ?_
      refine Rk.tr (F1 := (91, 137, _, _)) (x_callv (As := [_, _, _]) rfl rfl rfl (Or.inr rfl) rfl rfl zy (by decide) rfl (Nat.le_of_ble_eq_true rfl) kk rfl) ?_
      exact Rk.end rfl (Or.inr (Or.inr (Or.inr ⟨rfl, _, _, rfl, Or.inl ⟨_, rfl⟩, Or.inr ⟨_, rfl⟩, rfl, rfl⟩)))
end M59
