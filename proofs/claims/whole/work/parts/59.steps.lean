/-! ===== the class: drop, fold, choose ===== -/
theorem cnt4 (P : List It) : 4 * cntB P ≤ tsum P := by
  induction P with
  | nil => exact Nat.le_refl _
  | cons a A ih =>
    simp only [cntB, tsum]
    by_cases e : a.1 = 9
    · rw [if_pos e]; omega
    · rw [if_neg e]; have := isz_ge4 e; omega
/-- a program in the midst of a pass: A is done, B is to come, S are the open rows -/
def PSt (E : PE) (pz pa pl y root st : Nat) (nn : Int32) (h : PH) (O : Nat → Nat × Nat) (G : PG) (A B : List AI) (S : ES) (pf : Nat → Value) (lf c : Nat → Int32) : Prop :=
  GH E h O G ∧ PsH pz pa pl y root st nn h O pf lf c ∧ WA G [(root, [])] A S ∧ WA G S B [] ∧ ((A ++ B).map Prod.snd).Nodup ∧ tsum (AP A ++ AP B) ≤ 210
section M36
variable {E : PE} {d pz pa pl y root st : Nat} {nn : Int32} {h : PH} {O : Nat → Nat × Nat} {G : PG} {pf : Nat → Value} {lf c : Nat → Int32}
/-- what stands at the next binding -/
theorem PSt.at {A B : List AI} {s : ES} {a x : Nat} {p : List Nat} {it : It} (hP : PSt E pz pa pl y root st nn h O G A ((it, x) :: B) ((a, p) :: s) pf lf c) (h9 : it.1 ≠ 9) :
    ∃ (rs : List Nat) (R C : List AI) (rest : List Nat) (r : Int32 × Int32), G.2 x = some (it, rs) ∧ rs.length = irw it ∧ B = R ++ C ∧ WA G (rs.map (fun r => (r, []))) R [] ∧ WA G ((a, p ++ [x]) :: s) C [] ∧ G.1 a = some (p ++ x :: rest, r) ∧ p.length ≤ cntB (AP A) ∧ rest.length ≤ cntB (AP C) := by
  obtain ⟨g1, g2, g3, g4, g5, g6⟩ := hP
  rcases g4 with ⟨z, -⟩ | ⟨-, rs, hg, hl, w⟩
  · exact absurd z h9
  · obtain ⟨R, C, e, w1, w2⟩ := WA_split w
    obtain ⟨⟨rest, r, k⟩, -⟩ := WA_mem w2 List.mem_cons_self
    have l1 := WA_len g3
    have l2 := elen_mem (c := a) (q := p) (s := (a, p) :: s) List.mem_cons_self
    have l3 : elen [(root, [])] = 0 := rfl
    have l4 := WA_rlen w2 List.mem_cons_self k
    refine ⟨rs, R, C, rest, r, hg, hl, e, w1, w2, by rw [k, List.append_assoc]; rfl, by omega, l4⟩
theorem nd_sub {A B B' : List AI} (nd : ((A ++ B).map Prod.snd).Nodup) (h : (B'.map Prod.snd).Sublist (B.map Prod.snd)) : ((A ++ B').map Prod.snd).Nodup := by
  rw [List.map_append] at nd ⊢
  exact nd.sublist (List.Sublist.append (List.Sublist.refl _) h)
theorem c_dropN {A B : List AI} {s : ES} {a x dp : Nat} {p : List Nat} {it : It} (hP : PSt E pz pa pl y root st nn h O G A ((it, x) :: B) ((a, p) :: s) pf lf c) (h9 : it.1 ≠ 9) (ho : 0 < occ it.2.1 (AP A ++ AP ((it, x) :: B))) : Rn E (d + 74) 108 [.ref pz, .ref y, .ref x, .int (nI dp)] h (some (.int 0)) h := by
  obtain ⟨rs, R, C, rest, r, e1, e2, e3, e4, e5, e6, e7, e8⟩ := hP.at h9
  obtain ⟨g1, ⟨x1, x2, x3, x4, x5, x6, x7⟩, g3, g4, g5, g6⟩ := hP
  obtain ⟨at0, ar, xs, dt, b1, b2, b3, b4, b5, b6, b7, b8⟩ := g1.2.2.2 x it rs e1
  have hw := WA_app.mpr ⟨_, g3, g4⟩
  have hoc := c_occs (E := E) (d := d) (nm := it.2.1) g1 hw (by rw [AP_app]; exact g6)
  rw [AP_app] at hoc
  have hlt := occ_le it.2.1 (AP A ++ AP ((it, x) :: B))
  obtain ⟨⟨bs0, r0, hr0⟩, -⟩ := WA_mem hw List.mem_cons_self
  obtain ⟨l0, e0, cap0, x0, q1, -⟩ := g1.2.2.1 root _ r0 hr0
  refine Rn.of (Nat.le_of_ble_eq_true rfl) ?_
  refine Rk.tr (F1 := (108, 1, _, _)) (x_aload_n rfl rfl rfl) ?_
  refine Rk.tr (F1 := (108, 4, _, _)) (x_getf rfl rfl x5 rfl) ?_
  refine Rk.tr (F1 := (108, 5, _, _)) (x_aload_n rfl rfl rfl) ?_
  refine Rk.tr (F1 := (108, 8, _, _)) (x_getf rfl rfl b1 rfl) ?_
  refine Rk.tr (F1 := (108, 11, _, _)) (x_callv (As := [_]) rfl rfl rfl (Or.inl rfl) rfl rfl q1 (by decide) rfl (Nat.le_of_ble_eq_true rfl) hoc rfl) ?_
  refine Rk.tr (F1 := (108, 14, _, _)) (x_ifF rfl (tg := 16) rfl (show ¬ nI (occ it.2.1 (AP A ++ AP ((it, x) :: B))) ≤ nI 0 from nI_ge (by omega) (by omega))) ?_
  refine Rk.tr (F1 := (108, 15, _, _)) (x_iconst rfl) ?_
  exact Rk.end rfl (Or.inr (Or.inl ⟨rfl, _, .boolean, rfl, rfl, rfl, rfl⟩))
theorem c_dropY {A B : List AI} {s : ES} {a x dp : Nat} {p : List Nat} {it : It} (hP : PSt E pz pa pl y root st nn h O G A ((it, x) :: B) ((a, p) :: s) pf lf c) (h2 : it.1 = 2) (hpf : pf dp = .ref a) (hlf : lf dp = nI p.length) (hdp : dp < 40) (ho : occ it.2.1 (AP A ++ AP ((it, x) :: B)) = 0) :
    ∃ (h' : PH) (O' : Nat → Nat × Nat) (G' : PG) (R C : List AI), B = R ++ C ∧ closes 1 (AP R) ∧ Rn E (d + 74) 108 [.ref pz, .ref y, .ref x, .int (nI dp)] h (some (.int 1)) h' ∧ PSt E pz pa pl y root st nn h' O' G' A C ((a, p) :: s) pf lf (rup c 3 (c 3 + 1)) ∧ ChP pa pl st O h O' h' ∧ h'.2 = h.2 := by
  have h9 : it.1 ≠ 9 := by omega
  obtain ⟨rs, R, C, rest, r, e1, e2, e3, e4, e5, e6, e7, e8⟩ := hP.at h9
  obtain ⟨g1, g2, g3, g4, g5, g6⟩ := hP
  obtain ⟨x1, x2, x3, x4, x5, x6, x7⟩ := id g2
  obtain ⟨at0, ar, xs, dt, b1, b2, b3, b4, b5, b6, b7, b8⟩ := g1.2.2.2 x it rs e1
  have hw := WA_app.mpr ⟨_, g3, g4⟩
  have hoc := c_occs (E := E) (d := d) (nm := it.2.1) g1 hw (by rw [AP_app]; exact g6)
  rw [AP_app, ho] at hoc
  obtain ⟨⟨bs0, r0, hr0⟩, -⟩ := WA_mem hw List.mem_cons_self
  obtain ⟨l0, e0, cap0, x0, q1, -⟩ := g1.2.2.1 root _ r0 hr0
  obtain ⟨l1, e10, cap1, x10, q2, -⟩ := g1.2.2.1 a _ r e6
  have hir : irw it = 1 := by unfold irw; rw [h2]; rfl
  have ndC : ((A ++ C).map Prod.snd).Nodup := nd_sub g5 (by rw [e3, List.map_cons, List.map_append]; exact (List.sublist_append_right _ _).cons _)
  obtain ⟨h1, O1, k1, k2, k3, k4⟩ := c_take (E := E) (d := d + 70) g1 e6
  have sp := WA_splice (cs := []) (X := []) (rs := rs) g3 e5 (by rw [List.append_nil]; rfl) e6 ndC (fun q hq => by cases hq)
  have g2' := g2.ch g1.1 k3
  obtain ⟨y1, y2, y3, y4, y5, y6, y7⟩ := id g2'
  obtain ⟨m1, m2⟩ := PsH.step k2 g2' 3 (c 3 + 1)
  have hpa : (par pf)[dp]? = some (.ref a) := (par_at hdp).trans (congrArg some hpf)
  have hla : (iar 40 lf)[dp]? = some (.int (nI p.length)) := (iar_at hdp).trans (by rw [hlf])
  have ht : tsum (AP A ++ AP C) ≤ 210 := by
    rw [e3] at g6
    simp only [tsum_app, AP_cons, AP_app, tsum] at g6 ⊢
    omega
  refine ⟨_, O1, _, R, C, e3, ?_, ?_, ⟨m1, m2, sp.1, sp.2, ndC, ht⟩, (k3.p).tr g1.1 (ChP.set (Or.inr (Or.inr rfl))), k4⟩
  · have := WA_closes (u := rs.map (fun r => (r, []))) (s := []) (by
      intro z
      have : rs = [] := by simpa using z
      rw [this] at e2; simp at e2; omega) e4
    rw [List.length_map, e2, hir] at this
    exact this
  · rw [← iar_set]
    refine Rn.of (Nat.le_of_ble_eq_true rfl) ?_
    refine Rk.tr (F1 := (108, 1, _, _)) (x_aload_n rfl rfl rfl) ?_
    refine Rk.tr (F1 := (108, 4, _, _)) (x_getf rfl rfl x5 rfl) ?_
    refine Rk.tr (F1 := (108, 5, _, _)) (x_aload_n rfl rfl rfl) ?_
    refine Rk.tr (F1 := (108, 8, _, _)) (x_getf rfl rfl b1 rfl) ?_
    refine Rk.tr (F1 := (108, 11, _, _)) (x_callv (As := [_]) rfl rfl rfl (Or.inl rfl) rfl rfl q1 (by decide) rfl (Nat.le_of_ble_eq_true rfl) hoc rfl) ?_
    refine Rk.tr (F1 := (108, 16, _, _)) (x_ifT rfl (tg := 16) rfl (Int32.le_refl _)) ?_
    refine Rk.tr (F1 := (108, 17, _, _)) (x_aload_n rfl rfl rfl) ?_
    refine Rk.tr (F1 := (108, 20, _, _)) (x_getf rfl rfl x1 rfl) ?_
    refine Rk.tr (F1 := (108, 21, _, _)) (x_iload_n rfl rfl) ?_
    refine Rk.tr (F1 := (108, 22, _, _)) (x_aald (n := dp) rfl x2 rfl rfl rfl (by omega) hpa) ?_
    refine Rk.tr (F1 := (108, 23, _, _)) (x_aload_n rfl rfl rfl) ?_
    refine Rk.tr (F1 := (108, 26, _, _)) (x_getf rfl rfl x1 rfl) ?_
    refine Rk.tr (F1 := (108, 27, _, _)) (x_iload_n rfl rfl) ?_
    refine Rk.tr (F1 := (108, 28, _, _)) (x_iald (n := dp) rfl x4 rfl rfl (by omega) hla) ?_
    refine Rk.tr (F1 := (108, 31, _, _)) (x_callv (As := [_]) rfl rfl rfl (Or.inl rfl) rfl rfl q2 (by decide) rfl (Nat.le_of_ble_eq_true rfl) k1 rfl) ?_
    refine Rk.tr (F1 := (108, 32, _, _)) (x_aload_n rfl rfl rfl) ?_
    refine Rk.tr (F1 := (108, 35, _, _)) (x_getf rfl rfl y5 rfl) ?_
    refine Rk.tr (F1 := (108, 36, _, _)) (x_iconst rfl) ?_
    refine Rk.tr (F1 := (108, 37, _, _)) (x_dup2 rfl rfl rfl) ?_
    refine Rk.tr (F1 := (108, 38, _, _)) (x_iald (n := 3) rfl y6 rfl rfl (by omega) (iar_at (by omega))) ?_
    refine Rk.tr (F1 := (108, 39, _, _)) (x_iconst rfl) ?_
    refine Rk.tr (F1 := (108, 40, _, _)) (x_iadd rfl) ?_
    refine Rk.tr (F1 := (108, 41, _, _)) (x_iast (n := 3) rfl y6 rfl (by decide) rfl (by omega) (by rw [iar_len]; omega)) ?_
    refine Rk.tr (F1 := (108, 42, _, _)) (x_iconst rfl) ?_
    exact Rk.end rfl (Or.inr (Or.inl ⟨rfl, _, .boolean, rfl, rfl, rfl, rfl⟩))
theorem two_of {xs : List Nat} (h : xs.length = 2) : ∃ a b, xs = [a, b] := by
  match xs, h with
  | [a, b], _ => exact ⟨a, b, rfl⟩
theorem c_foldN {A B : List AI} {s : ES} {a x dp : Nat} {p : List Nat} {it : It} (hP : PSt E pz pa pl y root st nn h O G A ((it, x) :: B) ((a, p) :: s) pf lf c) (h5 : it.1 = 5) (hc : ¬ (it.2.2.2.1.1 = 0 ∧ it.2.2.2.2.1 = 0 ∧ ¬ (it.2.2.1 = 3 ∧ it.2.2.2.2.2 = 0))) : Rn E (d + 74) 104 [.ref pz, .ref y, .ref x, .int (nI dp)] h (some (.int 0)) h := by
  have h9 : it.1 ≠ 9 := by omega
  obtain ⟨rs, R, C, rest, r, e1, e2, e3, e4, e5, e6, e7, e8⟩ := hP.at h9
  obtain ⟨g1, g2, g3, g4, g5, g6⟩ := hP
  obtain ⟨at0, ar, xs, dt, b1, b2, b3, b4, b5, b6, b7, b8⟩ := g1.2.2.2 x it rs e1
  have hi : iat it = 2 := by unfold iat; rw [h5]; rfl
  obtain ⟨z1, z2, ez⟩ := two_of (b4.trans hi)
  subst ez
  have a1 := b5 0 z1 rfl
  have a2 := b5 1 z2 rfl
  have ed := b2 (Or.inr h5)
  subst ed
  have hdz := c_divz (E := E) (d := d + 73) (h := h) (o := it.2.2.1) (b := it.2.2.2.2.2)
  refine Rn.of (Nat.le_of_ble_eq_true rfl) ?_
  have z0 : (iatm it 0).1 = it.2.2.2.1.1 := rfl
  have z00 : (iatm it 1).1 = it.2.2.2.2.1 := rfl
  by_cases n1 : it.2.2.2.1.1 = 0
  · by_cases n2 : it.2.2.2.2.1 = 0
    · have n3 : it.2.2.1 = 3 ∧ it.2.2.2.2.2 = 0 := Classical.byContradiction fun z => hc ⟨n1, n2, z⟩
      rw [if_pos n3] at hdz
      refine Rk.tr (F1 := (104, 1, _, _)) (x_aload_n rfl rfl rfl) ?_
      refine Rk.tr (F1 := (104, 4, _, _)) (x_getf rfl rfl b1 rfl) ?_
      refine Rk.tr (F1 := (104, 5, _, _)) (x_iconst rfl) ?_
      refine Rk.tr (F1 := (104, 6, _, _)) (x_aald (n := 0) rfl b3 rfl rfl rfl (by omega) rfl) ?_
      refine Rk.tr (F1 := (104, 8, [_, _, _, _, _, _, _], _)) (x_astore (i := 4) rfl (Nat.le_of_ble_eq_true rfl)) ?_
      refine Rk.tr (F1 := (104, 9, _, _)) (x_aload_n rfl rfl rfl) ?_
      refine Rk.tr (F1 := (104, 12, _, _)) (x_getf rfl rfl b1 rfl) ?_
      refine Rk.tr (F1 := (104, 13, _, _)) (x_iconst rfl) ?_
      refine Rk.tr (F1 := (104, 14, _, _)) (x_aald (n := 1) rfl b3 rfl rfl rfl (by omega) rfl) ?_
      refine Rk.tr (F1 := (104, 16, [_, _, _, _, _, _, _], _)) (x_astore (i := 5) rfl (Nat.le_of_ble_eq_true rfl)) ?_
      refine Rk.tr (F1 := (104, 18, _, _)) (x_aload rfl rfl rfl) ?_
      refine Rk.tr (F1 := (104, 21, _, _)) (x_getf rfl rfl a1.1 rfl) ?_
      refine Rk.tr (F1 := (104, 24, _, _)) (x_ifF rfl (tg := 47) rfl (fun z => z n1)) ?_
      refine Rk.tr (F1 := (104, 26, _, _)) (x_aload rfl rfl rfl) ?_
      refine Rk.tr (F1 := (104, 29, _, _)) (x_getf rfl rfl a2.1 rfl) ?_
      refine Rk.tr (F1 := (104, 32, _, _)) (x_ifF rfl (tg := 47) rfl (fun z => z n2)) ?_
      refine Rk.tr (F1 := (104, 33, _, _)) (x_aload_n rfl rfl rfl) ?_
      refine Rk.tr (F1 := (104, 36, _, _)) (x_getf rfl rfl b1 rfl) ?_
      refine Rk.tr (F1 := (104, 38, _, _)) (x_aload rfl rfl rfl) ?_
      refine Rk.tr (F1 := (104, 41, _, _)) (x_getf rfl rfl a2.1 rfl) ?_
      refine Rk.tr (F1 := (104, 44, _, _)) (x_calln (As := [_, _]) rfl rfl rfl rfl rfl rfl (Nat.le_of_ble_eq_true rfl) hdz rfl) ?_
      refine Rk.tr (F1 := (104, 47, _, _)) (x_ifF rfl (tg := 49) rfl (show ¬ (1 : Int32) = 0 by decide)) ?_
      refine Rk.tr (F1 := (104, 48, _, _)) (x_iconst rfl) ?_
      exact Rk.end rfl (Or.inr (Or.inl ⟨rfl, _, .boolean, rfl, rfl, rfl, rfl⟩))
    · have n2' := n2
      refine Rk.tr (F1 := (104, 1, _, _)) (x_aload_n rfl rfl rfl) ?_
      refine Rk.tr (F1 := (104, 4, _, _)) (x_getf rfl rfl b1 rfl) ?_
      refine Rk.tr (F1 := (104, 5, _, _)) (x_iconst rfl) ?_
      refine Rk.tr (F1 := (104, 6, _, _)) (x_aald (n := 0) rfl b3 rfl rfl rfl (by omega) rfl) ?_
      refine Rk.tr (F1 := (104, 8, [_, _, _, _, _, _, _], _)) (x_astore (i := 4) rfl (Nat.le_of_ble_eq_true rfl)) ?_
      refine Rk.tr (F1 := (104, 9, _, _)) (x_aload_n rfl rfl rfl) ?_
      refine Rk.tr (F1 := (104, 12, _, _)) (x_getf rfl rfl b1 rfl) ?_
      refine Rk.tr (F1 := (104, 13, _, _)) (x_iconst rfl) ?_
      refine Rk.tr (F1 := (104, 14, _, _)) (x_aald (n := 1) rfl b3 rfl rfl rfl (by omega) rfl) ?_
      refine Rk.tr (F1 := (104, 16, [_, _, _, _, _, _, _], _)) (x_astore (i := 5) rfl (Nat.le_of_ble_eq_true rfl)) ?_
      refine Rk.tr (F1 := (104, 18, _, _)) (x_aload rfl rfl rfl) ?_
      refine Rk.tr (F1 := (104, 21, _, _)) (x_getf rfl rfl a1.1 rfl) ?_
      refine Rk.tr (F1 := (104, 24, _, _)) (x_ifF rfl (tg := 47) rfl (fun z => z n1)) ?_
      refine Rk.tr (F1 := (104, 26, _, _)) (x_aload rfl rfl rfl) ?_
      refine Rk.tr (F1 := (104, 29, _, _)) (x_getf rfl rfl a2.1 rfl) ?_
      refine Rk.tr (F1 := (104, 47, _, _)) (x_ifT rfl (tg := 47) rfl n2) ?_
      refine Rk.tr (F1 := (104, 48, _, _)) (x_iconst rfl) ?_
      exact Rk.end rfl (Or.inr (Or.inl ⟨rfl, _, .boolean, rfl, rfl, rfl, rfl⟩))
  · have n1' := n1
    refine Rk.tr (F1 := (104, 1, _, _)) (x_aload_n rfl rfl rfl) ?_
    refine Rk.tr (F1 := (104, 4, _, _)) (x_getf rfl rfl b1 rfl) ?_
    refine Rk.tr (F1 := (104, 5, _, _)) (x_iconst rfl) ?_
    refine Rk.tr (F1 := (104, 6, _, _)) (x_aald (n := 0) rfl b3 rfl rfl rfl (by omega) rfl) ?_
    refine Rk.tr (F1 := (104, 8, [_, _, _, _, _, _, _], _)) (x_astore (i := 4) rfl (Nat.le_of_ble_eq_true rfl)) ?_
    refine Rk.tr (F1 := (104, 9, _, _)) (x_aload_n rfl rfl rfl) ?_
    refine Rk.tr (F1 := (104, 12, _, _)) (x_getf rfl rfl b1 rfl) ?_
    refine Rk.tr (F1 := (104, 13, _, _)) (x_iconst rfl) ?_
    refine Rk.tr (F1 := (104, 14, _, _)) (x_aald (n := 1) rfl b3 rfl rfl rfl (by omega) rfl) ?_
    refine Rk.tr (F1 := (104, 16, [_, _, _, _, _, _, _], _)) (x_astore (i := 5) rfl (Nat.le_of_ble_eq_true rfl)) ?_
    refine Rk.tr (F1 := (104, 18, _, _)) (x_aload rfl rfl rfl) ?_
    refine Rk.tr (F1 := (104, 21, _, _)) (x_getf rfl rfl a1.1 rfl) ?_
    refine Rk.tr (F1 := (104, 47, _, _)) (x_ifT rfl (tg := 47) rfl n1) ?_
    refine Rk.tr (F1 := (104, 48, _, _)) (x_iconst rfl) ?_
    exact Rk.end rfl (Or.inr (Or.inl ⟨rfl, _, .boolean, rfl, rfl, rfl, rfl⟩))
theorem c_foldY {A B : List AI} {s : ES} {a x dp : Nat} {p : List Nat} {it : It} {v : Int32 × Int32} (hP : PSt E pz pa pl y root st nn h O G A ((it, x) :: B) ((a, p) :: s) pf lf c) (h5 : it.1 = 5) (hpf : pf dp = .ref a) (hlf : lf dp = nI p.length) (hdp : dp < 40) (hc : it.2.2.2.1.1 = 0 ∧ it.2.2.2.2.1 = 0 ∧ ¬ (it.2.2.1 = 3 ∧ it.2.2.2.2.2 = 0)) (hv : v = (0, opv it.2.2.1 it.2.2.2.1.2 it.2.2.2.2.2)) :
    ∃ (h' : PH) (O' : Nat → Nat × Nat) (G' : PG), Rn E (d + 74) 104 [.ref pz, .ref y, .ref x, .int (nI dp)] h (some (.int 1)) h' ∧ PSt E pz pa pl y root st nn h' O' G' (A.map (mb it.2.1 v)) (B.map (mb it.2.1 v)) ((a, p) :: s) pf lf (rup c 0 (c 0 + 1)) ∧ ChP pa pl st O h O' h' ∧ h'.2.1 ≤ h.2.1 + 53 ∧ h'.2.2 ≤ h.2.2 + 5930 := by
  have h9 : it.1 ≠ 9 := by omega
  obtain ⟨rs, R, C, rest, r, e1, e2, e3, e4, e5, e6, e7, e8⟩ := hP.at h9
  obtain ⟨g1, g2, g3, g4, g5, g6⟩ := hP
  obtain ⟨x1, x2, x3, x4, x5, x6, x7⟩ := id g2
  obtain ⟨at0, ar, xs, dt, b1, b2, b3, b4, b5, b6, b7, b8⟩ := g1.2.2.2 x it rs e1
  have hi : iat it = 2 := by unfold iat; rw [h5]; rfl
  obtain ⟨z1, z2, ez⟩ := two_of (b4.trans hi)
  subst ez
  have a1 := b5 0 z1 rfl
  have a2 := b5 1 z2 rfl
  have ed := b2 (Or.inr h5)
  subst ed
  have hir : irw it = 0 := by unfold irw; rw [h5]; rfl
  have ers : rs = [] := List.length_eq_zero_iff.mp (e2.trans hir)
  have eR : R = [] := by rw [ers] at e4; exact (WA_nil e4).1
  rw [eR, List.nil_append] at e3
  subst e3
  have hw := WA_app.mpr ⟨_, g3, g4⟩
  have hdz := c_divz (E := E) (d := d + 73) (h := h) (o := it.2.2.1) (b := it.2.2.2.2.2)
  rw [if_neg hc.2.2] at hdz
  have hca := c_calc (E := E) (d := d + 73) (h := pnew h (1, pdef 1)) (x := it.2.2.1) (a := it.2.2.2.1.2) (b := it.2.2.2.2.2) (fun q w => hc.2.2 ⟨q, w⟩)
  have hat := c_atom0 (E := E) (d := d + 73) (h := pnew h (1, pdef 1)) (n := h.2.1) (fs := pdef 1) (v1 := 0) (v2 := opv it.2.2.1 it.2.2.2.1.2 it.2.2.2.2.2) pnew_at rfl (Or.inl rfl)
  have hb1 := pnew_old g1.1 (c := (1, pdef 1)) b1
  have ha1 := pnew_old g1.1 (c := (1, pdef 1)) a1.1
  have ha2 := pnew_old g1.1 (c := (1, pdef 1)) a2.1
  have ndC : ((A ++ B).map Prod.snd).Nodup := nd_sub g5 (by rw [List.map_cons]; exact (List.Sublist.refl _).cons _)
  have hmk : mkA h v = pset (pnew h (1, pdef 1)) h.2.1 (1, [.int 0, .int (opv it.2.2.1 it.2.2.2.1.2 it.2.2.2.2.2)]) := by rw [hv]; rfl
  -- the new atom
  have G0 : GH E (mkA h v) O G := mkA_G g1
  have c0 : Ch O h O (mkA h v) := mkA_ch g1.1
  have P0 := g2.ch g1.1 c0
  have A0 : AtH (mkA h v) h.2.1 v := mkA_at (Or.inl (by rw [hv]))
  obtain ⟨l1, e10, cap1, x10, q2, -⟩ := G0.2.2.1 a _ r e6
  -- the binding goes
  obtain ⟨h1, O1, k1, k2, k3, k4⟩ := c_take (E := E) (d := d + 70) G0 e6
  have sp := WA_splice (cs := []) (X := []) (rs := rs) g3 e5 (by rw [List.append_nil]; rfl) e6 ndC (fun q hq => by cases hq)
  have P1 := P0.ch G0.1 k3
  have A1 := A0.fr k3.2.2.2
  have hw1 := WA_app.mpr ⟨_, sp.1, sp.2⟩
  have ht : tsum (AP A ++ AP B) ≤ 210 := by
    simp only [tsum_app, AP_cons, tsum] at g6 ⊢
    omega
  -- the name stands for the number
  obtain ⟨h2, G2, m1, m2, m3⟩ := c_repl (E := E) (d := d) (nm := it.2.1) k2 A1 hw1 (by rw [AP_app]; exact ht)
  have sq := Sb_split m2.2.1 sp.1 m3
  have P2 := P1.ch k2.1 m2.ch
  obtain ⟨n1, n2⟩ := PsH.step m2.1 P2 0 (c 0 + 1)
  have b1h1 := k3.2.2.2 _ _ _ (mkA_old (v := v) g1.1 b1) (by decide) (by decide) (by decide) (by omega)
  obtain ⟨⟨bs0, r0, hr0⟩, -⟩ := WA_mem hw1 List.mem_cons_self
  obtain ⟨l0, e0, cap0, x0, q1, -⟩ := k2.2.2.1 root _ r0 hr0
  obtain ⟨w1, w2, w3, w4, w5, w6, w7⟩ := id P0
  obtain ⟨u1, u2, u3, u4, u5, u6, u7⟩ := id P1
  obtain ⟨y1, y2, y3, y4, y5, y6, y7⟩ := id P2
  have hpa : (par pf)[dp]? = some (.ref a) := (par_at hdp).trans (congrArg some hpf)
  have hla : (iar 40 lf)[dp]? = some (.int (nI p.length)) := (iar_at hdp).trans (by rw [hlf])
  refine ⟨_, O1, _, ?_, ⟨n1, n2, sq.1, sq.2, ?_, ?_⟩, ((c0.tr g1.1 (k3.tr G0.1 m2.ch)).p).tr g1.1 (ChP.set (Or.inr (Or.inr rfl))), ?_, ?_⟩
  · rw [← iar_set]
    refine Rn.of (Nat.le_of_ble_eq_true rfl) ?_
    rw [hmk] at k1 q2 w1 w2 w4
    have d1 := hc.1
    have d2 := hc.2.1
    refine Rk.tr (F1 := (104, 1, _, _)) (x_aload_n rfl rfl rfl) ?_
    refine Rk.tr (F1 := (104, 4, _, _)) (x_getf rfl rfl b1 rfl) ?_
    refine Rk.tr (F1 := (104, 5, _, _)) (x_iconst rfl) ?_
    refine Rk.tr (F1 := (104, 6, _, _)) (x_aald (n := 0) rfl b3 rfl rfl rfl (by omega) rfl) ?_
    refine Rk.tr (F1 := (104, 8, [_, _, _, _, _, _, _], _)) (x_astore (i := 4) rfl (Nat.le_of_ble_eq_true rfl)) ?_
    refine Rk.tr (F1 := (104, 9, _, _)) (x_aload_n rfl rfl rfl) ?_
    refine Rk.tr (F1 := (104, 12, _, _)) (x_getf rfl rfl b1 rfl) ?_
    refine Rk.tr (F1 := (104, 13, _, _)) (x_iconst rfl) ?_
    refine Rk.tr (F1 := (104, 14, _, _)) (x_aald (n := 1) rfl b3 rfl rfl rfl (by omega) rfl) ?_
    refine Rk.tr (F1 := (104, 16, [_, _, _, _, _, _, _], _)) (x_astore (i := 5) rfl (Nat.le_of_ble_eq_true rfl)) ?_
    refine Rk.tr (F1 := (104, 18, _, _)) (x_aload rfl rfl rfl) ?_
    refine Rk.tr (F1 := (104, 21, _, _)) (x_getf rfl rfl a1.1 rfl) ?_
    refine Rk.tr (F1 := (104, 24, _, _)) (x_ifF rfl (tg := 47) rfl (fun z => z d1)) ?_
    refine Rk.tr (F1 := (104, 26, _, _)) (x_aload rfl rfl rfl) ?_
    refine Rk.tr (F1 := (104, 29, _, _)) (x_getf rfl rfl a2.1 rfl) ?_
    refine Rk.tr (F1 := (104, 32, _, _)) (x_ifF rfl (tg := 47) rfl (fun z => z d2)) ?_
    refine Rk.tr (F1 := (104, 33, _, _)) (x_aload_n rfl rfl rfl) ?_
    refine Rk.tr (F1 := (104, 36, _, _)) (x_getf rfl rfl b1 rfl) ?_
    refine Rk.tr (F1 := (104, 38, _, _)) (x_aload rfl rfl rfl) ?_
    refine Rk.tr (F1 := (104, 41, _, _)) (x_getf rfl rfl a2.1 rfl) ?_
    refine Rk.tr (F1 := (104, 44, _, _)) (x_calln (As := [_, _]) rfl rfl rfl rfl rfl rfl (Nat.le_of_ble_eq_true rfl) hdz rfl) ?_
    refine Rk.tr (F1 := (104, 49, _, _)) (x_ifT rfl (tg := 49) rfl rfl) ?_
    refine Rk.tr (F1 := (104, 52, _, _)) (x_new rfl rfl (by decide)) ?_
    refine Rk.tr (F1 := (104, 53, _, _)) (x_dup rfl rfl) ?_
    refine Rk.tr (F1 := (104, 54, _, _)) (x_iconst rfl) ?_
    refine Rk.tr (F1 := (104, 55, _, _)) (x_aload_n rfl rfl rfl) ?_
    refine Rk.tr (F1 := (104, 58, _, _)) (x_getf rfl rfl hb1 rfl) ?_
    refine Rk.tr (F1 := (104, 60, _, _)) (x_aload rfl rfl rfl) ?_
    refine Rk.tr (F1 := (104, 63, _, _)) (x_getf rfl rfl ha1 rfl) ?_
    refine Rk.tr (F1 := (104, 65, _, _)) (x_aload rfl rfl rfl) ?_
    refine Rk.tr (F1 := (104, 68, _, _)) (x_getf rfl rfl ha2 rfl) ?_
    refine Rk.tr (F1 := (104, 71, _, _)) (x_calln (As := [_, _, _]) rfl rfl rfl rfl rfl rfl (Nat.le_of_ble_eq_true rfl) hca rfl) ?_
    refine Rk.tr (F1 := (104, 74, _, _)) (x_calli (As := [_, _]) rfl rfl rfl rfl rfl rfl (Nat.le_of_ble_eq_true rfl) hat rfl) ?_
    refine Rk.tr (F1 := (104, 76, [_, _, _, _, _, _, _], _)) (x_astore (i := 6) rfl (Nat.le_of_ble_eq_true rfl)) ?_
    refine Rk.tr (F1 := (104, 77, _, _)) (x_aload_n rfl rfl rfl) ?_
    refine Rk.tr (F1 := (104, 80, _, _)) (x_getf rfl rfl w1 rfl) ?_
    refine Rk.tr (F1 := (104, 81, _, _)) (x_iload_n rfl rfl) ?_
    refine Rk.tr (F1 := (104, 82, _, _)) (x_aald (n := dp) rfl w2 rfl rfl rfl (by omega) hpa) ?_
    refine Rk.tr (F1 := (104, 83, _, _)) (x_aload_n rfl rfl rfl) ?_
    refine Rk.tr (F1 := (104, 86, _, _)) (x_getf rfl rfl w1 rfl) ?_
    refine Rk.tr (F1 := (104, 87, _, _)) (x_iload_n rfl rfl) ?_
    refine Rk.tr (F1 := (104, 88, _, _)) (x_iald (n := dp) rfl w4 rfl rfl (by omega) hla) ?_
    refine Rk.tr (F1 := (104, 91, _, _)) (x_callv (As := [_]) rfl rfl rfl (Or.inl rfl) rfl rfl q2 (by decide) rfl (Nat.le_of_ble_eq_true rfl) k1 rfl) ?_
    refine Rk.tr (F1 := (104, 92, _, _)) (x_aload_n rfl rfl rfl) ?_
    refine Rk.tr (F1 := (104, 95, _, _)) (x_getf rfl rfl u5 rfl) ?_
    refine Rk.tr (F1 := (104, 96, _, _)) (x_aload_n rfl rfl rfl) ?_
    refine Rk.tr (F1 := (104, 99, _, _)) (x_getf rfl rfl b1h1 rfl) ?_
    refine Rk.tr (F1 := (104, 101, _, _)) (x_aload rfl rfl rfl) ?_
    refine Rk.tr (F1 := (104, 104, _, _)) (x_callv (As := [_, _]) rfl rfl rfl (Or.inl rfl) rfl rfl q1 (by decide) rfl (Nat.le_of_ble_eq_true rfl) m1 rfl) ?_
    refine Rk.tr (F1 := (104, 105, _, _)) (x_aload_n rfl rfl rfl) ?_
    refine Rk.tr (F1 := (104, 108, _, _)) (x_getf rfl rfl y5 rfl) ?_
    refine Rk.tr (F1 := (104, 109, _, _)) (x_iconst rfl) ?_
    refine Rk.tr (F1 := (104, 110, _, _)) (x_dup2 rfl rfl rfl) ?_
    refine Rk.tr (F1 := (104, 111, _, _)) (x_iald (n := 0) rfl y6 rfl rfl (by omega) (iar_at (by omega))) ?_
    refine Rk.tr (F1 := (104, 112, _, _)) (x_iconst rfl) ?_
    refine Rk.tr (F1 := (104, 113, _, _)) (x_iadd rfl) ?_
    refine Rk.tr (F1 := (104, 114, _, _)) (x_iast (n := 0) rfl y6 rfl (by decide) rfl (by omega) (by rw [iar_len]; omega)) ?_
    refine Rk.tr (F1 := (104, 115, _, _)) (x_iconst rfl) ?_
    exact Rk.end rfl (Or.inr (Or.inl ⟨rfl, _, .boolean, rfl, rfl, rfl, rfl⟩))
  · rw [← List.map_append, mb_snd]; exact ndC
  · rw [mb_AP, mb_AP, ← List.map_append, isb_sum]; exact ht
  · show h2.2.1 ≤ _
    rw [m2.2.2.1, k4]
    show h.2.1 + 1 ≤ _
    omega
  · show h2.2.2 ≤ _
    rw [m2.2.2.1, k4]
    show h.2.2 + 2 ≤ _
    omega
end M36
