/-! ===== the class: one step of a pass; how deep rows lie ===== -/
def nz : ES → Nat
  | [] => 0
  | (_, q) :: s => (if q = [] then 0 else 1) + nz s
theorem PthR_nz {pf : Nat → Value} {lf : Nat → Int32} : ∀ {s : ES} {d : Nat}, PthR pf lf s d → d = nz s
  | [], d, h => h
  | (a, q) :: s, d, h => by
    rcases h with ⟨h1, h2⟩ | ⟨h1, d', h2, -, -, h5⟩
    · simp only [nz, if_pos h1]
      have := PthR_nz h2
      omega
    · simp only [nz, if_neg h1]
      have := PthR_nz h5
      omega
theorem nz_le : ∀ s : ES, nz s ≤ s.length
  | [] => Nat.le_refl _
  | (a, q) :: s => by
    have := nz_le s
    simp only [nz, List.length_cons]
    split <;> omega
theorem nz_tail : ∀ s : ES, nz s.tail ≤ nz s
  | [] => Nat.le_refl _
  | (a, q) :: s => by
    simp only [nz, List.tail_cons]
    omega
theorem WA_nz {G : PG} : ∀ {Q : List AI} {s s' : ES}, WA G s Q s' → 4 * nz s'.tail ≤ 4 * nz s.tail + tsum (AP Q)
  | [], s, s', h => by cases h; exact Nat.le_add_right _ _
  | (it, x) :: Q, [], s', h => h.elim
  | (it, x) :: Q, (a, p) :: s, s', h => by
    have e : tsum (AP ((it, x) :: Q)) = isz it + tsum (AP Q) := rfl
    have e3 := isz_ge it
    show 4 * nz s'.tail ≤ 4 * nz s + _
    rcases h with ⟨h9, hx, hg, h⟩ | ⟨h9, rs, hg, hl, h⟩
    · have k1 := WA_nz h
      have k2 := nz_tail s
      omega
    · have k1 := WA_nz h
      have e4 := isz_ge4 h9
      have hr := irw_le it
      have k2 : nz (rs.map (fun r => (r, [])) ++ (a, p ++ [x]) :: s).tail ≤ 1 + nz s := by
        match rs, hl with
        | [], _ => show nz s ≤ _; omega
        | [r1], _ =>
          show nz ((a, p ++ [x]) :: s) ≤ _
          simp only [nz]
          split <;> omega
        | [r1, r2], _ =>
          show nz ((r2, []) :: (a, p ++ [x]) :: s) ≤ _
          have q1 : nz ((r2, []) :: (a, p ++ [x]) :: s) = 0 + ((if p ++ [x] = [] then 0 else 1) + nz s) := rfl
          rw [q1]
          split <;> omega
        | _ :: _ :: _ :: _, hl => simp at hl; omega
      omega
theorem WA_dep {G : PG} : ∀ {Q : List AI} {s : ES}, WA G s Q [] → 3 * s.length ≤ tsum (AP Q)
  | [], s, h => by cases h; exact Nat.le_refl _
  | (it, x) :: Q, [], h => h.elim
  | (it, x) :: Q, (a, p) :: s, h => by
    have e : tsum (AP ((it, x) :: Q)) = isz it + tsum (AP Q) := rfl
    have e3 := isz_ge it
    rcases h with ⟨h9, hx, hg, h⟩ | ⟨h9, rs, hg, hl, h⟩
    · have := WA_dep h
      rw [List.length_cons]
      omega
    · have := WA_dep h
      rw [List.length_append, List.length_map, List.length_cons] at this
      rw [List.length_cons]
      omega
section M42
variable {E : PE} {d pz pa pl y root st : Nat} {nn nm : Int32} {h : PH} {O : Nat → Nat × Nat} {G : PG} {pf : Nat → Value} {lf c : Nat → Int32}
theorem PSt.deep {A B : List AI} {s : ES} {a dp : Nat} {p : List Nat} (hP : PSt E pz pa pl y root st nn h O G A B ((a, p) :: s) pf lf c) (hp : PthR pf lf s dp) : dp ≤ 30 := by
  obtain ⟨-, -, g3, g4, -, g6⟩ := hP
  have k1 := WA_nz g3
  have k2 := WA_dep g4
  have k3 := PthR_nz hp
  have k4 := nz_le s
  have k5 : nz ([(root, [])] : ES).tail = 0 := rfl
  rw [tsum_app] at g6
  rw [List.length_cons] at k2
  have k6 : nz ((a, p) :: s).tail = nz s := rfl
  omega
theorem PthR_top {a x dp : Nat} {p : List Nat} {s : ES} : PthR pf lf ((a, p ++ [x]) :: s) (dp + 1) ↔ pf dp = .ref a ∧ lf dp = nI p.length ∧ PthR pf lf s dp := by
  constructor
  · rintro (⟨z, -⟩ | ⟨-, d', z1, z2, z3, z4⟩)
    · simp at z
    · have : d' = dp := by omega
      subst this
      refine ⟨z2, ?_, z4⟩
      rw [z3, List.length_append, List.length_singleton, Nat.add_sub_cancel]
  · rintro ⟨z1, z2, z3⟩
    exact Or.inr ⟨by simp, dp, rfl, z1, by rw [z2, List.length_append, List.length_singleton, Nat.add_sub_cancel], z3⟩
theorem c_stepN {A B : List AI} {s : ES} {a x dp : Nat} {p : List Nat} {it : It} (hP : PSt E pz pa pl y root st nn h O G A ((it, x) :: B) ((a, p) :: s) pf lf c) (h9 : it.1 ≠ 9) (hI : Inv (AP A ++ it :: AP B)) (hp : PthR pf lf ((a, p ++ [x]) :: s) (dp + 1)) (hdp : dp < 40) (hs : stp (AP A) it (AP B) = none) : Rn E (d + 75) 103 [.ref pz, .ref y, .ref x, .int (nI dp)] h (some (.int 0)) h := by
  obtain ⟨rs, R, C, rest, r, e1, e2, e3, e4, e5, e6, e7, e8⟩ := hP.at h9
  obtain ⟨at0, ar, xs, dt, b1, -⟩ := hP.1.2.2.2 x it rs e1
  have x1 := hP.2.1.1
  refine Rn.of (Nat.le_of_ble_eq_true rfl) ?_
  by_cases h5 : it.1 = 5
  · have ek : ikd it = 5 := by unfold ikd; rw [h5]; rfl
    rw [ek] at b1
    have hc := c_foldN (d := d) (dp := dp) hP h5 (fun hc => by
      unfold stp at hs
      rw [if_neg h9, if_pos h5, if_pos hc] at hs
      cases hs)
    refine Rk.tr (F1 := (103, 1, _, _)) (x_aload_n rfl rfl rfl) ?_
    refine Rk.tr (F1 := (103, 4, _, _)) (x_getf rfl rfl b1 rfl) ?_
    refine Rk.tr (F1 := (103, 36, _, _)) (x_tswIn rfl (by decide) (by decide) rfl rfl) ?_
    refine Rk.tr (F1 := (103, 37, _, _)) (x_aload_n rfl rfl rfl) ?_
    refine Rk.tr (F1 := (103, 38, _, _)) (x_aload_n rfl rfl rfl) ?_
    refine Rk.tr (F1 := (103, 39, _, _)) (x_aload_n rfl rfl rfl) ?_
    refine Rk.tr (F1 := (103, 40, _, _)) (x_iload_n rfl rfl) ?_
    refine Rk.tr (F1 := (103, 43, _, _)) (x_callv (As := [_, _, _]) rfl rfl rfl (Or.inr rfl) rfl rfl x1 (by decide) rfl (Nat.le_of_ble_eq_true rfl) hc rfl) ?_
    exact Rk.end rfl (Or.inr (Or.inl ⟨rfl, _, .boolean, rfl, rfl, rfl, rfl⟩))
  by_cases h3 : it.1 = 3
  · have ek : ikd it = 3 := by unfold ikd; rw [h3]; rfl
    rw [ek] at b1
    have hc := c_inlineN (d := d) hP h3 hI hp hdp hs
    refine Rk.tr (F1 := (103, 1, _, _)) (x_aload_n rfl rfl rfl) ?_
    refine Rk.tr (F1 := (103, 4, _, _)) (x_getf rfl rfl b1 rfl) ?_
    refine Rk.tr (F1 := (103, 52, _, _)) (x_tswIn rfl (by decide) (by decide) rfl rfl) ?_
    refine Rk.tr (F1 := (103, 53, _, _)) (x_aload_n rfl rfl rfl) ?_
    refine Rk.tr (F1 := (103, 54, _, _)) (x_aload_n rfl rfl rfl) ?_
    refine Rk.tr (F1 := (103, 55, _, _)) (x_aload_n rfl rfl rfl) ?_
    refine Rk.tr (F1 := (103, 56, _, _)) (x_iload_n rfl rfl) ?_
    refine Rk.tr (F1 := (103, 59, _, _)) (x_callv (As := [_, _, _]) rfl rfl rfl (Or.inr rfl) rfl rfl x1 (by decide) rfl (Nat.le_of_ble_eq_true rfl) hc rfl) ?_
    exact Rk.end rfl (Or.inr (Or.inl ⟨rfl, _, .boolean, rfl, rfl, rfl, rfl⟩))
  by_cases h2 : it.1 = 2
  · have ek : ikd it = 2 := by unfold ikd; rw [h2]; rfl
    rw [ek] at b1
    have hc := c_dropN (d := d) (dp := dp) hP h9 (Nat.pos_of_ne_zero (fun ho => by
      unfold stp at hs
      rw [if_neg h9, if_neg h5, if_neg h3, if_pos h2, if_pos (show occ it.2.1 (AP A ++ it :: AP B) = 0 from ho)] at hs
      cases hs))
    refine Rk.tr (F1 := (103, 1, _, _)) (x_aload_n rfl rfl rfl) ?_
    refine Rk.tr (F1 := (103, 4, _, _)) (x_getf rfl rfl b1 rfl) ?_
    refine Rk.tr (F1 := (103, 60, _, _)) (x_tswOut rfl (Or.inl (by decide)) rfl) ?_
    refine Rk.tr (F1 := (103, 61, _, _)) (x_aload_n rfl rfl rfl) ?_
    refine Rk.tr (F1 := (103, 62, _, _)) (x_aload_n rfl rfl rfl) ?_
    refine Rk.tr (F1 := (103, 63, _, _)) (x_aload_n rfl rfl rfl) ?_
    refine Rk.tr (F1 := (103, 64, _, _)) (x_iload_n rfl rfl) ?_
    refine Rk.tr (F1 := (103, 67, _, _)) (x_callv (As := [_, _, _]) rfl rfl rfl (Or.inr rfl) rfl rfl x1 (by decide) rfl (Nat.le_of_ble_eq_true rfl) hc rfl) ?_
    exact Rk.end rfl (Or.inr (Or.inl ⟨rfl, _, .boolean, rfl, rfl, rfl, rfl⟩))
  · have ek : ikd it = 6 := (if_kd h2 h3 h5 h9).2.2
    rw [ek] at b1
    have hc := c_chooseN (d := d) (dp := dp) hP h2 h3 h5 h9 (fun hc => by
      unfold stp at hs
      rw [if_neg h9, if_neg h5, if_neg h3, if_neg h2, if_pos hc] at hs
      cases hs)
    refine Rk.tr (F1 := (103, 1, _, _)) (x_aload_n rfl rfl rfl) ?_
    refine Rk.tr (F1 := (103, 4, _, _)) (x_getf rfl rfl b1 rfl) ?_
    refine Rk.tr (F1 := (103, 44, _, _)) (x_tswIn rfl (by decide) (by decide) rfl rfl) ?_
    refine Rk.tr (F1 := (103, 45, _, _)) (x_aload_n rfl rfl rfl) ?_
    refine Rk.tr (F1 := (103, 46, _, _)) (x_aload_n rfl rfl rfl) ?_
    refine Rk.tr (F1 := (103, 47, _, _)) (x_aload_n rfl rfl rfl) ?_
    refine Rk.tr (F1 := (103, 48, _, _)) (x_iload_n rfl rfl) ?_
    refine Rk.tr (F1 := (103, 51, _, _)) (x_callv (As := [_, _, _]) rfl rfl rfl (Or.inr rfl) rfl rfl x1 (by decide) rfl (Nat.le_of_ble_eq_true rfl) hc rfl) ?_
    exact Rk.end rfl (Or.inr (Or.inl ⟨rfl, _, .boolean, rfl, rfl, rfl, rfl⟩))
theorem c_stepY {A B : List AI} {s : ES} {a x dp w : Nat} {p : List Nat} {it : It} {A' B' : List It} (hP : PSt E pz pa pl y root st nn h O G A ((it, x) :: B) ((a, p) :: s) pf lf c) (h9 : it.1 ≠ 9) (hI : Inv (AP A ++ it :: AP B)) (hp : PthR pf lf ((a, p ++ [x]) :: s) (dp + 1)) (hdp : dp < 40) (hs : stp (AP A) it (AP B) = some (w, A', B')) :
    ∃ (h' : PH) (O' : Nat → Nat × Nat) (G' : PG) (A1 B1 : List AI) (s' : ES) (p' : List Nat) (lf' : Nat → Int32), Rn E (d + 75) 103 [.ref pz, .ref y, .ref x, .int (nI dp)] h (some (.int 1)) h' ∧ PSt E pz pa pl y root st nn h' O' G' A1 B1 ((a, p') :: s') pf lf' (rup c w (c w + 1)) ∧ AP A1 = A' ∧ AP B1 = B' ∧ pf dp = .ref a ∧ lf' dp = nI p'.length ∧ PthR pf lf' s' dp ∧ Shr s s' ∧ ChP pa pl st O h O' h' ∧ h'.2.1 ≤ h.2.1 + 53 ∧ h'.2.2 ≤ h.2.2 + 5930 := by
  obtain ⟨rs, R, C, rest, r, e1, e2, e3, e4, e5, e6, e7, e8⟩ := hP.at h9
  obtain ⟨at0, ar, xs, dt, b1, -⟩ := hP.1.2.2.2 x it rs e1
  have x1 := hP.2.1.1
  obtain ⟨hp1, hp2, hp3⟩ := PthR_top.mp hp
  unfold stp at hs
  rw [if_neg h9] at hs
  by_cases h5 : it.1 = 5
  · rw [if_pos h5] at hs
    have ek : ikd it = 5 := by unfold ikd; rw [h5]; rfl
    rw [ek] at b1
    by_cases hc : it.2.2.2.1.1 = 0 ∧ it.2.2.2.2.1 = 0 ∧ ¬ (it.2.2.1 = 3 ∧ it.2.2.2.2.2 = 0)
    · rw [if_pos hc] at hs
      cases hs
      obtain ⟨h', O', G', k1, k2, k3, k4, k5⟩ := c_foldY (d := d) hP h5 hp1 hp2 hdp hc rfl
      refine ⟨h', O', G', _, _, s, p, lf, Rn.of (Nat.le_of_ble_eq_true rfl) ?_, k2, mb_AP _ _ _, mb_AP _ _ _, hp1, hp2, hp3, Shr.rf s, k3, k4, k5⟩
      refine Rk.tr (F1 := (103, 1, _, _)) (x_aload_n rfl rfl rfl) ?_
      refine Rk.tr (F1 := (103, 4, _, _)) (x_getf rfl rfl b1 rfl) ?_
      refine Rk.tr (F1 := (103, 36, _, _)) (x_tswIn rfl (by decide) (by decide) rfl rfl) ?_
      refine Rk.tr (F1 := (103, 37, _, _)) (x_aload_n rfl rfl rfl) ?_
      refine Rk.tr (F1 := (103, 38, _, _)) (x_aload_n rfl rfl rfl) ?_
      refine Rk.tr (F1 := (103, 39, _, _)) (x_aload_n rfl rfl rfl) ?_
      refine Rk.tr (F1 := (103, 40, _, _)) (x_iload_n rfl rfl) ?_
      refine Rk.tr (F1 := (103, 43, _, _)) (x_callv (As := [_, _, _]) rfl rfl rfl (Or.inr rfl) rfl rfl x1 (by decide) rfl (Nat.le_of_ble_eq_true rfl) k1 rfl) ?_
      exact Rk.end rfl (Or.inr (Or.inl ⟨rfl, _, .boolean, rfl, rfl, rfl, rfl⟩))
    · rw [if_neg hc] at hs; cases hs
  rw [if_neg h5] at hs
  by_cases h3 : it.1 = 3
  · rw [if_pos h3] at hs
    have ek : ikd it = 3 := by unfold ikd; rw [h3]; rfl
    rw [ek] at b1
    by_cases hc : it.2.2.2.1.1 = 1 ∧ occ it.2.2.2.1.2 (AP A ++ it :: AP B) = 1
    · rw [if_pos hc] at hs
      rcases inl_where (f := it.2.2.2.1.2) hI.1 hI.2.1 h3 (Prod.ext hc.1 rfl) with z | ⟨B1, F, X, r', B2, y1, y2, y3, y4, y5, y6, y7⟩
      · rw [ffn_none (fun i hi => z i (List.mem_append_left _ hi))] at hs
        cases hs
      · rw [y1, ffn_some ⟨y2, y3⟩ y6] at hs
        simp only [rwl_of _ _ _ y5, drop_app, dl_app, rlast_of, List.nil_append] at hs
        cases hs
        have ho := hc.2
        rw [← y3] at ho
        obtain ⟨h', O', G', A1, B1', s', p', lf', k1, k2, k3, k4, k5, k6, k7, k8, k9, k10, k11⟩ := c_inlineY (d := d) hP h3 hI hp hdp (Prod.ext hc.1 y3.symm) y1 y2 y4 y5 ho
        refine ⟨h', O', G', A1, B1', s', p', lf', Rn.of (Nat.le_of_ble_eq_true rfl) ?_, k2, k3, k4, k5, k6, k7, k8, k9, k10, k11⟩
        refine Rk.tr (F1 := (103, 1, _, _)) (x_aload_n rfl rfl rfl) ?_
        refine Rk.tr (F1 := (103, 4, _, _)) (x_getf rfl rfl b1 rfl) ?_
        refine Rk.tr (F1 := (103, 52, _, _)) (x_tswIn rfl (by decide) (by decide) rfl rfl) ?_
        refine Rk.tr (F1 := (103, 53, _, _)) (x_aload_n rfl rfl rfl) ?_
        refine Rk.tr (F1 := (103, 54, _, _)) (x_aload_n rfl rfl rfl) ?_
        refine Rk.tr (F1 := (103, 55, _, _)) (x_aload_n rfl rfl rfl) ?_
        refine Rk.tr (F1 := (103, 56, _, _)) (x_iload_n rfl rfl) ?_
        refine Rk.tr (F1 := (103, 59, _, _)) (x_callv (As := [_, _, _]) rfl rfl rfl (Or.inr rfl) rfl rfl x1 (by decide) rfl (Nat.le_of_ble_eq_true rfl) k1 rfl) ?_
        exact Rk.end rfl (Or.inr (Or.inl ⟨rfl, _, .boolean, rfl, rfl, rfl, rfl⟩))
    · rw [if_neg hc] at hs; cases hs
  rw [if_neg h3] at hs
  by_cases h2 : it.1 = 2
  · rw [if_pos h2] at hs
    have ek : ikd it = 2 := by unfold ikd; rw [h2]; rfl
    rw [ek] at b1
    by_cases hc : occ it.2.1 (AP A ++ it :: AP B) = 0
    · rw [if_pos hc] at hs
      obtain ⟨h', O', G', R', C', k0, k00, k1, k2, k3, k4⟩ := c_dropY (d := d) hP h2 hp1 hp2 hdp hc
      rw [k0, AP_app, rwl_of _ _ _ k00, drop_app] at hs
      cases hs
      refine ⟨h', O', G', _, _, s, p, lf, Rn.of (Nat.le_of_ble_eq_true rfl) ?_, k2, rfl, rfl, hp1, hp2, hp3, Shr.rf s, k3, by rw [k4]; omega, by rw [k4]; omega⟩
      refine Rk.tr (F1 := (103, 1, _, _)) (x_aload_n rfl rfl rfl) ?_
      refine Rk.tr (F1 := (103, 4, _, _)) (x_getf rfl rfl b1 rfl) ?_
      refine Rk.tr (F1 := (103, 60, _, _)) (x_tswOut rfl (Or.inl (by decide)) rfl) ?_
      refine Rk.tr (F1 := (103, 61, _, _)) (x_aload_n rfl rfl rfl) ?_
      refine Rk.tr (F1 := (103, 62, _, _)) (x_aload_n rfl rfl rfl) ?_
      refine Rk.tr (F1 := (103, 63, _, _)) (x_aload_n rfl rfl rfl) ?_
      refine Rk.tr (F1 := (103, 64, _, _)) (x_iload_n rfl rfl) ?_
      refine Rk.tr (F1 := (103, 67, _, _)) (x_callv (As := [_, _, _]) rfl rfl rfl (Or.inr rfl) rfl rfl x1 (by decide) rfl (Nat.le_of_ble_eq_true rfl) k1 rfl) ?_
      exact Rk.end rfl (Or.inr (Or.inl ⟨rfl, _, .boolean, rfl, rfl, rfl, rfl⟩))
    · rw [if_neg hc] at hs; cases hs
  rw [if_neg h2] at hs
  have ek : ikd it = 6 := (if_kd h2 h3 h5 h9).2.2
  rw [ek] at b1
  by_cases hc : it.2.2.2.1.1 = 0
  · rw [if_pos hc] at hs
    obtain ⟨h', O', G', R1, R2, C', X, e, k0, k00, k01, k02, k1, k2, k3, k4, k5⟩ := c_chooseY (d := d) hP h2 h3 h5 h9 hp1 hp2 hdp hc
    rw [k0, AP_app, AP_app] at hs
    simp only [rwl_of _ _ _ k00, drop_app, rwl_of _ _ _ k01, k02, rlast_of, dl_app] at hs
    cases hs
    refine ⟨h', O', G', _, _, s, p, lf, Rn.of (Nat.le_of_ble_eq_true rfl) ?_, k2, mb_AP _ _ _, by rw [mb_AP, AP_app], hp1, hp2, hp3, Shr.rf s, k3, k4, k5⟩
    refine Rk.tr (F1 := (103, 1, _, _)) (x_aload_n rfl rfl rfl) ?_
    refine Rk.tr (F1 := (103, 4, _, _)) (x_getf rfl rfl b1 rfl) ?_
    refine Rk.tr (F1 := (103, 44, _, _)) (x_tswIn rfl (by decide) (by decide) rfl rfl) ?_
    refine Rk.tr (F1 := (103, 45, _, _)) (x_aload_n rfl rfl rfl) ?_
    refine Rk.tr (F1 := (103, 46, _, _)) (x_aload_n rfl rfl rfl) ?_
    refine Rk.tr (F1 := (103, 47, _, _)) (x_aload_n rfl rfl rfl) ?_
    refine Rk.tr (F1 := (103, 48, _, _)) (x_iload_n rfl rfl) ?_
    refine Rk.tr (F1 := (103, 51, _, _)) (x_callv (As := [_, _, _]) rfl rfl rfl (Or.inr rfl) rfl rfl x1 (by decide) rfl (Nat.le_of_ble_eq_true rfl) k1 rfl) ?_
    exact Rk.end rfl (Or.inr (Or.inl ⟨rfl, _, .boolean, rfl, rfl, rfl, rfl⟩))
  · rw [if_neg hc] at hs; cases hs
end M42
