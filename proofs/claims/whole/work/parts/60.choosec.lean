/-! ===== the class: choose ===== -/
theorem WA_last {G : PG} {c : Nat} : ∀ (n : Nat) {Q : List AI} {p : List Nat}, Q.length ≤ n → WA G [(c, p)] Q [] → ∃ (X : List AI) (e : It), Q = X ++ [(e, c)] ∧ e.1 = 9
  | 0, Q, p, hn, h => by
    have : Q = [] := List.length_eq_zero_iff.mp (Nat.le_zero.mp hn)
    rw [this] at h; cases h
  | n + 1, Q, p, hn, h => by
    rcases WA_row h with ⟨it, eQ, e9, -⟩ | ⟨it, x, rs, R, Q', eQ, -, -, -, -, w⟩
    · exact ⟨[], it, eQ, e9⟩
    · obtain ⟨X, e, e1, e2⟩ := WA_last n (by rw [eQ, List.length_cons, List.length_append] at hn; omega) w
      exact ⟨(it, x) :: (R ++ X), e, by rw [eQ, e1]; simp, e2⟩
section M37
variable {E : PE} {d pz pa pl y root st : Nat} {nn : Int32} {h : PH} {O : Nat → Nat × Nat} {G : PG} {pf : Nat → Value} {lf c : Nat → Int32}
theorem if_kd {it : It} (h2 : it.1 ≠ 2) (h3 : it.1 ≠ 3) (h5 : it.1 ≠ 5) (h9 : it.1 ≠ 9) : iat it = 1 ∧ irw it = 2 ∧ ikd it = 6 := by
  refine ⟨?_, ?_, ?_⟩
  · unfold iat
    split <;> first | rfl | (rename_i z; exact absurd z (by assumption))
  · unfold irw
    split <;> first | rfl | (rename_i z; exact absurd z (by assumption))
  · unfold ikd
    split <;> first | rfl | (rename_i z; exact absurd z (by assumption))
theorem one_of {xs : List Nat} (h : xs.length = 1) : ∃ a, xs = [a] := by
  match xs, h with
  | [a], _ => exact ⟨a, rfl⟩
theorem c_chooseN {A B : List AI} {s : ES} {a x dp : Nat} {p : List Nat} {it : It} (hP : PSt E pz pa pl y root st nn h O G A ((it, x) :: B) ((a, p) :: s) pf lf c) (h2 : it.1 ≠ 2) (h3 : it.1 ≠ 3) (h5 : it.1 ≠ 5) (h9 : it.1 ≠ 9) (hc : ¬ it.2.2.2.1.1 = 0) : Rn E (d + 74) 105 [.ref pz, .ref y, .ref x, .int (nI dp)] h (some (.int 0)) h := by
  obtain ⟨rs, R, C, rest, r, e1, e2, e3, e4, e5, e6, e7, e8⟩ := hP.at h9
  obtain ⟨g1, g2, g3, g4, g5, g6⟩ := hP
  obtain ⟨at0, ar, xs, dt, b1, b2, b3, b4, b5, b6, b7, b8⟩ := g1.2.2.2 x it rs e1
  obtain ⟨k1, k2, k3⟩ := if_kd h2 h3 h5 h9
  obtain ⟨z1, ez⟩ := one_of (b4.trans k1)
  subst ez
  have a1 := b5 0 z1 rfl
  refine Rn.of (Nat.le_of_ble_eq_true rfl) ?_
  refine Rk.tr (F1 := (105, 1, _, _)) (x_aload_n rfl rfl rfl) ?_
  refine Rk.tr (F1 := (105, 4, _, _)) (x_getf rfl rfl b1 rfl) ?_
  refine Rk.tr (F1 := (105, 5, _, _)) (x_iconst rfl) ?_
  refine Rk.tr (F1 := (105, 6, _, _)) (x_aald (n := 0) rfl b3 rfl rfl rfl (by omega) rfl) ?_
  refine Rk.tr (F1 := (105, 8, [_, _, _, _, _, _], _)) (x_astore (i := 4) rfl (Nat.le_of_ble_eq_true rfl)) ?_
  refine Rk.tr (F1 := (105, 10, _, _)) (x_aload rfl rfl rfl) ?_
  refine Rk.tr (F1 := (105, 13, _, _)) (x_getf rfl rfl a1.1 rfl) ?_
  refine Rk.tr (F1 := (105, 16, _, _)) (x_ifF rfl (tg := 18) rfl hc) ?_
  refine Rk.tr (F1 := (105, 17, _, _)) (x_iconst rfl) ?_
  exact Rk.end rfl (Or.inr (Or.inl ⟨rfl, _, .boolean, rfl, rfl, rfl, rfl⟩))
theorem c_chooseY {A B : List AI} {s : ES} {a x dp : Nat} {p : List Nat} {it : It} (hP : PSt E pz pa pl y root st nn h O G A ((it, x) :: B) ((a, p) :: s) pf lf c) (h2 : it.1 ≠ 2) (h3 : it.1 ≠ 3) (h5 : it.1 ≠ 5) (h9 : it.1 ≠ 9) (hpf : pf dp = .ref a) (hlf : lf dp = nI p.length) (hdp : dp < 40) (hc : it.2.2.2.1.1 = 0) :
    ∃ (h' : PH) (O' : Nat → Nat × Nat) (G' : PG) (R1 R2 C X : List AI) (e : It), B = R1 ++ (R2 ++ C) ∧ closes 1 (AP R1) ∧ closes 1 (AP R2) ∧ (if it.2.2.2.1.2 = 0 then AP R2 else AP R1) = AP X ++ [e] ∧ Rn E (d + 74) 105 [.ref pz, .ref y, .ref x, .int (nI dp)] h (some (.int 1)) h' ∧ PSt E pz pa pl y root st nn h' O' G' (A.map (mb it.2.1 e.2.2.2.1)) ((X ++ C).map (mb it.2.1 e.2.2.2.1)) ((a, p) :: s) pf lf (rup c 1 (c 1 + 1)) ∧ ChP pa pl st O h O' h' ∧ h'.2.1 ≤ h.2.1 + 53 ∧ h'.2.2 ≤ h.2.2 + 5930 := by
  obtain ⟨rs, R, C, rest, r, e1, e2, e3, e4, e5, e6, e7, e8⟩ := hP.at h9
  obtain ⟨g1, g2, g3, g4, g5, g6⟩ := hP
  obtain ⟨x1, x2, x3, x4, x5, x6, x7⟩ := id g2
  obtain ⟨at0, ar, xs, dt, b1, b2, b3, b4, b5, b6, b7, b8⟩ := g1.2.2.2 x it rs e1
  obtain ⟨kk1, kk2, kk3⟩ := if_kd h2 h3 h5 h9
  obtain ⟨z1, ez⟩ := one_of (b4.trans kk1)
  subst ez
  have a1 := b5 0 z1 rfl
  obtain ⟨r1, r2, er⟩ := two_of (e2.trans kk2)
  subst er
  obtain ⟨R1, R2', eR, v1, v2'⟩ := WA_rows e4
  obtain ⟨R2, R3, eR2, v2, v3⟩ := WA_rows v2'
  have eR3 : R3 = [] := (WA_nil v3).1
  rw [eR3, List.append_nil] at eR2
  subst eR2
  subst eR
  have eB : B = R1 ++ (R2' ++ C) := by rw [e3, List.append_assoc]
  -- the chosen row
  obtain ⟨i, rc, Rc, hi, hir, wc, hRc, hsub⟩ : ∃ (i rc : Nat) (Rc : List AI), i = (if it.2.2.2.1.2 = 0 then 1 else 0) ∧ [r1, r2][i]? = some rc ∧ WA G [(rc, [])] Rc [] ∧ AP Rc = (if it.2.2.2.1.2 = 0 then AP R2' else AP R1) ∧ Rc.Sublist (R1 ++ R2') := by
    by_cases z : it.2.2.2.1.2 = 0
    · exact ⟨1, r2, R2', by rw [if_pos z], rfl, v2, by rw [if_pos z], List.sublist_append_right _ _⟩
    · exact ⟨0, r1, R1, by rw [if_neg z], rfl, v1, by rw [if_neg z], List.sublist_append_left _ _⟩
  obtain ⟨X, e, eX, ee9⟩ := WA_last Rc.length (Nat.le_refl _) wc
  have nd0 : (((R1 ++ R2') ++ C).map Prod.snd).Nodup := by
    rw [e3, List.map_append, List.map_cons] at g5
    exact (List.nodup_cons.mp (List.nodup_append.mp g5).2.1).2
  have ndR : (Rc.map Prod.snd).Nodup := by
    rw [List.map_append] at nd0
    exact (List.nodup_append.mp nd0).1.sublist (hsub.map _)
  have haC := (WA_mem e5 List.mem_cons_self).2
  have nRa : ∀ q ∈ Rc, q.2 ≠ a := fun q hq => nd_mem nd0 haC q (hsub.subset hq)
  have hca : rc ≠ a := nRa (e, rc) (by rw [eX]; simp)
  have nX : ∀ q ∈ X, q.2 ≠ rc := fun q hq z => by
    rw [eX, List.map_append] at ndR
    exact (List.nodup_append.mp ndR).2.2 rc (List.mem_map.mpr ⟨q, hq, z⟩) rc (by simp) rfl
  rw [eX] at wc
  obtain ⟨cs, hcs, hin⟩ := WA_inner wc ee9 nX
  have lcs := WA_rlen (rest := cs) wc List.mem_cons_self hcs
  have l4 := cnt4 (AP A ++ AP ((it, x) :: B))
  have ecn : cntB (AP Rc) ≤ cntB (AP R1) + cntB (AP R2') := by
    rw [hRc]
    split <;> omega
  have hlen : p.length + cs.length + rest.length ≤ 52 := by
    rw [eB] at l4 g6
    rw [← eX] at lcs
    simp only [cntB_app, AP_cons, AP_app, cntB, tsum_app, tsum] at l4 g6
    omega
  have ndC : ((A ++ C).map Prod.snd).Nodup := nd_sub g5 (by rw [e3, List.map_cons, List.map_append]; exact (List.sublist_append_right _ _).cons _)
  -- its bindings are put in place
  obtain ⟨h1, O1, k1, k2, k3, k4, k5⟩ := c_put (E := E) (d := d + 67) (M := 52) hca hlen (by omega) g1 e6 hcs
  have sp := WA_splice (cs := cs) (X := X) (rs := [r1, r2]) g3 e5 (hin a p s) e6 ndC (fun q hq => nRa q (by rw [eX]; exact List.mem_append_left _ hq))
  have P1 := g2.ch g1.1 k3
  have hw1 := WA_app.mpr ⟨_, sp.1, sp.2⟩
  have htR : tsum (AP Rc) ≤ tsum (AP R1) + tsum (AP R2') := by
    rw [hRc]
    split <;> omega
  have ht : tsum (AP A ++ AP (X ++ C)) ≤ 210 := by
    rw [eB] at g6
    rw [eX] at htR
    simp only [tsum_app, AP_cons, AP_app, tsum] at g6 htR ⊢
    omega
  obtain ⟨lc, ec, capc, xc, c1, c2, c3, c4, c5, c6⟩ := k2.2.2.1 rc cs e.2.2.2.1 ((gR_ne hca).trans hcs)
  -- the name stands for its result
  obtain ⟨h2', G2, m1, m2, m3⟩ := c_repl (E := E) (d := d) (nm := it.2.1) k2 c2 hw1 (by rw [AP_app]; exact ht)
  have sq := Sb_split m2.2.1 sp.1 m3
  have P2 := P1.ch k2.1 m2.ch
  obtain ⟨n1, n2⟩ := PsH.step m2.1 P2 1 (c 1 + 1)
  have b1h1 := k3.2.2.2 _ _ _ b1 (by decide) (by decide) (by decide) (by omega)
  obtain ⟨⟨bs0, r0, hr0⟩, -⟩ := WA_mem hw1 List.mem_cons_self
  obtain ⟨l0, e0, cap0, x0, q1, -⟩ := k2.2.2.1 root _ r0 hr0
  obtain ⟨l1, e10, cap1, x10, q2, -⟩ := g1.2.2.1 a _ r e6
  obtain ⟨u1, u2, u3, u4, u5, u6, u7⟩ := id P1
  obtain ⟨y1, y2, y3, y4, y5, y6, y7⟩ := id P2
  have hpa : (par pf)[dp]? = some (.ref a) := (par_at hdp).trans (congrArg some hpf)
  have hla : (iar 40 lf)[dp]? = some (.int (nI p.length)) := (iar_at hdp).trans (by rw [hlf])
  have hsz : cs.length * (10 + 2 * 52) ≤ 52 * 114 := Nat.mul_le_mul (by omega) (by omega)
  refine ⟨_, O1, _, R1, R2', C, X, e, eB, WA_closes (u := [(r1, [])]) (s := []) (by simp) v1, WA_closes (u := [(r2, [])]) (s := []) (by simp) v2, ?_, ?_, ⟨n1, n2, sq.1, sq.2, ?_, ?_⟩, ((k3.tr g1.1 m2.ch).p).tr g1.1 (ChP.set (Or.inr (Or.inr rfl))), ?_, ?_⟩
  · rw [← hRc, eX, AP_app]; rfl
  · rw [← iar_set]
    refine Rn.of (Nat.le_of_ble_eq_true rfl) ?_
    by_cases z : it.2.2.2.1.2 = 0
    · rw [if_pos z] at hi
      subst hi
      refine Rk.tr (F1 := (105, 1, _, _)) (x_aload_n rfl rfl rfl) ?_
      refine Rk.tr (F1 := (105, 4, _, _)) (x_getf rfl rfl b1 rfl) ?_
      refine Rk.tr (F1 := (105, 5, _, _)) (x_iconst rfl) ?_
      refine Rk.tr (F1 := (105, 6, _, _)) (x_aald (n := 0) rfl b3 rfl rfl rfl (by omega) rfl) ?_
      refine Rk.tr (F1 := (105, 8, [_, _, _, _, _, _], _)) (x_astore (i := 4) rfl (Nat.le_of_ble_eq_true rfl)) ?_
      refine Rk.tr (F1 := (105, 10, _, _)) (x_aload rfl rfl rfl) ?_
      refine Rk.tr (F1 := (105, 13, _, _)) (x_getf rfl rfl a1.1 rfl) ?_
      refine Rk.tr (F1 := (105, 18, _, _)) (x_ifT rfl (tg := 18) rfl hc) ?_
      refine Rk.tr (F1 := (105, 19, _, _)) (x_aload_n rfl rfl rfl) ?_
      refine Rk.tr (F1 := (105, 22, _, _)) (x_getf rfl rfl b1 rfl) ?_
      refine Rk.tr (F1 := (105, 24, _, _)) (x_aload rfl rfl rfl) ?_
      refine Rk.tr (F1 := (105, 27, _, _)) (x_getf rfl rfl a1.1 rfl) ?_
      refine Rk.tr (F1 := (105, 30, _, _)) (x_ifF rfl (tg := 34) rfl (fun q => q z)) ?_
      refine Rk.tr (F1 := (105, 31, _, _)) (x_iconst rfl) ?_
      refine Rk.tr (F1 := (105, 35, _, _)) (x_goto rfl rfl) ?_
      refine Rk.tr (F1 := (105, 36, _, _)) (x_aald (n := 1) rfl b7 rfl rfl rfl (by omega) (refs_at hir)) ?_
      refine Rk.tr (F1 := (105, 38, [_, _, _, _, _, _], _)) (x_astore (i := 5) rfl (Nat.le_of_ble_eq_true rfl)) ?_
      refine Rk.tr (F1 := (105, 39, _, _)) (x_aload_n rfl rfl rfl) ?_
      refine Rk.tr (F1 := (105, 42, _, _)) (x_getf rfl rfl x1 rfl) ?_
      refine Rk.tr (F1 := (105, 43, _, _)) (x_iload_n rfl rfl) ?_
      refine Rk.tr (F1 := (105, 44, _, _)) (x_aald (n := dp) rfl x2 rfl rfl rfl (by omega) hpa) ?_
      refine Rk.tr (F1 := (105, 45, _, _)) (x_aload_n rfl rfl rfl) ?_
      refine Rk.tr (F1 := (105, 48, _, _)) (x_getf rfl rfl x1 rfl) ?_
      refine Rk.tr (F1 := (105, 49, _, _)) (x_iload_n rfl rfl) ?_
      refine Rk.tr (F1 := (105, 50, _, _)) (x_iald (n := dp) rfl x4 rfl rfl (by omega) hla) ?_
      refine Rk.tr (F1 := (105, 52, _, _)) (x_aload rfl rfl rfl) ?_
      refine Rk.tr (F1 := (105, 55, _, _)) (x_callv (As := [_, _]) rfl rfl rfl (Or.inl rfl) rfl rfl q2 (by decide) rfl (Nat.le_of_ble_eq_true rfl) k1 rfl) ?_
      refine Rk.tr (F1 := (105, 56, _, _)) (x_aload_n rfl rfl rfl) ?_
      refine Rk.tr (F1 := (105, 59, _, _)) (x_getf rfl rfl u5 rfl) ?_
      refine Rk.tr (F1 := (105, 60, _, _)) (x_aload_n rfl rfl rfl) ?_
      refine Rk.tr (F1 := (105, 63, _, _)) (x_getf rfl rfl b1h1 rfl) ?_
      refine Rk.tr (F1 := (105, 65, _, _)) (x_aload rfl rfl rfl) ?_
      refine Rk.tr (F1 := (105, 68, _, _)) (x_getf rfl rfl c1 rfl) ?_
      refine Rk.tr (F1 := (105, 71, _, _)) (x_callv (As := [_, _]) rfl rfl rfl (Or.inl rfl) rfl rfl q1 (by decide) rfl (Nat.le_of_ble_eq_true rfl) m1 rfl) ?_
      refine Rk.tr (F1 := (105, 72, _, _)) (x_aload_n rfl rfl rfl) ?_
      refine Rk.tr (F1 := (105, 75, _, _)) (x_getf rfl rfl y5 rfl) ?_
      refine Rk.tr (F1 := (105, 76, _, _)) (x_iconst rfl) ?_
      refine Rk.tr (F1 := (105, 77, _, _)) (x_dup2 rfl rfl rfl) ?_
      refine Rk.tr (F1 := (105, 78, _, _)) (x_iald (n := 1) rfl y6 rfl rfl (by omega) (iar_at (by omega))) ?_
      refine Rk.tr (F1 := (105, 79, _, _)) (x_iconst rfl) ?_
      refine Rk.tr (F1 := (105, 80, _, _)) (x_iadd rfl) ?_
      refine Rk.tr (F1 := (105, 81, _, _)) (x_iast (n := 1) rfl y6 rfl (by decide) rfl (by omega) (by rw [iar_len]; omega)) ?_
      refine Rk.tr (F1 := (105, 82, _, _)) (x_iconst rfl) ?_
      exact Rk.end rfl (Or.inr (Or.inl ⟨rfl, _, .boolean, rfl, rfl, rfl, rfl⟩))
    · rw [if_neg z] at hi
      subst hi
      refine Rk.tr (F1 := (105, 1, _, _)) (x_aload_n rfl rfl rfl) ?_
      refine Rk.tr (F1 := (105, 4, _, _)) (x_getf rfl rfl b1 rfl) ?_
      refine Rk.tr (F1 := (105, 5, _, _)) (x_iconst rfl) ?_
      refine Rk.tr (F1 := (105, 6, _, _)) (x_aald (n := 0) rfl b3 rfl rfl rfl (by omega) rfl) ?_
      refine Rk.tr (F1 := (105, 8, [_, _, _, _, _, _], _)) (x_astore (i := 4) rfl (Nat.le_of_ble_eq_true rfl)) ?_
      refine Rk.tr (F1 := (105, 10, _, _)) (x_aload rfl rfl rfl) ?_
      refine Rk.tr (F1 := (105, 13, _, _)) (x_getf rfl rfl a1.1 rfl) ?_
      refine Rk.tr (F1 := (105, 18, _, _)) (x_ifT rfl (tg := 18) rfl hc) ?_
      refine Rk.tr (F1 := (105, 19, _, _)) (x_aload_n rfl rfl rfl) ?_
      refine Rk.tr (F1 := (105, 22, _, _)) (x_getf rfl rfl b1 rfl) ?_
      refine Rk.tr (F1 := (105, 24, _, _)) (x_aload rfl rfl rfl) ?_
      refine Rk.tr (F1 := (105, 27, _, _)) (x_getf rfl rfl a1.1 rfl) ?_
      refine Rk.tr (F1 := (105, 34, _, _)) (x_ifT rfl (tg := 34) rfl z) ?_
      refine Rk.tr (F1 := (105, 35, _, _)) (x_iconst rfl) ?_
      refine Rk.tr (F1 := (105, 36, _, _)) (x_aald (n := 0) rfl b7 rfl rfl rfl (by omega) (refs_at hir)) ?_
      refine Rk.tr (F1 := (105, 38, [_, _, _, _, _, _], _)) (x_astore (i := 5) rfl (Nat.le_of_ble_eq_true rfl)) ?_
      refine Rk.tr (F1 := (105, 39, _, _)) (x_aload_n rfl rfl rfl) ?_
      refine Rk.tr (F1 := (105, 42, _, _)) (x_getf rfl rfl x1 rfl) ?_
      refine Rk.tr (F1 := (105, 43, _, _)) (x_iload_n rfl rfl) ?_
      refine Rk.tr (F1 := (105, 44, _, _)) (x_aald (n := dp) rfl x2 rfl rfl rfl (by omega) hpa) ?_
      refine Rk.tr (F1 := (105, 45, _, _)) (x_aload_n rfl rfl rfl) ?_
      refine Rk.tr (F1 := (105, 48, _, _)) (x_getf rfl rfl x1 rfl) ?_
      refine Rk.tr (F1 := (105, 49, _, _)) (x_iload_n rfl rfl) ?_
      refine Rk.tr (F1 := (105, 50, _, _)) (x_iald (n := dp) rfl x4 rfl rfl (by omega) hla) ?_
      refine Rk.tr (F1 := (105, 52, _, _)) (x_aload rfl rfl rfl) ?_
      refine Rk.tr (F1 := (105, 55, _, _)) (x_callv (As := [_, _]) rfl rfl rfl (Or.inl rfl) rfl rfl q2 (by decide) rfl (Nat.le_of_ble_eq_true rfl) k1 rfl) ?_
      refine Rk.tr (F1 := (105, 56, _, _)) (x_aload_n rfl rfl rfl) ?_
      refine Rk.tr (F1 := (105, 59, _, _)) (x_getf rfl rfl u5 rfl) ?_
      refine Rk.tr (F1 := (105, 60, _, _)) (x_aload_n rfl rfl rfl) ?_
      refine Rk.tr (F1 := (105, 63, _, _)) (x_getf rfl rfl b1h1 rfl) ?_
      refine Rk.tr (F1 := (105, 65, _, _)) (x_aload rfl rfl rfl) ?_
      refine Rk.tr (F1 := (105, 68, _, _)) (x_getf rfl rfl c1 rfl) ?_
      refine Rk.tr (F1 := (105, 71, _, _)) (x_callv (As := [_, _]) rfl rfl rfl (Or.inl rfl) rfl rfl q1 (by decide) rfl (Nat.le_of_ble_eq_true rfl) m1 rfl) ?_
      refine Rk.tr (F1 := (105, 72, _, _)) (x_aload_n rfl rfl rfl) ?_
      refine Rk.tr (F1 := (105, 75, _, _)) (x_getf rfl rfl y5 rfl) ?_
      refine Rk.tr (F1 := (105, 76, _, _)) (x_iconst rfl) ?_
      refine Rk.tr (F1 := (105, 77, _, _)) (x_dup2 rfl rfl rfl) ?_
      refine Rk.tr (F1 := (105, 78, _, _)) (x_iald (n := 1) rfl y6 rfl rfl (by omega) (iar_at (by omega))) ?_
      refine Rk.tr (F1 := (105, 79, _, _)) (x_iconst rfl) ?_
      refine Rk.tr (F1 := (105, 80, _, _)) (x_iadd rfl) ?_
      refine Rk.tr (F1 := (105, 81, _, _)) (x_iast (n := 1) rfl y6 rfl (by decide) rfl (by omega) (by rw [iar_len]; omega)) ?_
      refine Rk.tr (F1 := (105, 82, _, _)) (x_iconst rfl) ?_
      exact Rk.end rfl (Or.inr (Or.inl ⟨rfl, _, .boolean, rfl, rfl, rfl, rfl⟩))
  · rw [← List.map_append, mb_snd]
    refine nd_sub g5 ?_
    rw [eB, ← List.append_assoc, List.map_cons, List.map_append, List.map_append]
    refine (List.Sublist.append ?_ (List.Sublist.refl _)).cons _
    refine List.Sublist.trans ?_ (hsub.map _)
    rw [eX, List.map_append]
    exact List.sublist_append_left _ _
  · rw [mb_AP, mb_AP, ← List.map_append, isb_sum]; exact ht
  · show h2'.2.1 ≤ _
    rw [m2.2.2.1]
    omega
  · show h2'.2.2 ≤ _
    rw [m2.2.2.1]
    omega
end M37
