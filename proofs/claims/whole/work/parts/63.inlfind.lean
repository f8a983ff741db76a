/-! ===== the class: a function is put where it is used ===== -/
theorem ecn_mem {x c : Nat} {q : List Nat} : ∀ {s : ES}, (c, q) ∈ s → q.count x ≤ ecn x s
  | [], h => by cases h
  | (b, p) :: s, h => by
    have e0 : ecn x ((b, p) :: s) = p.count x + ecn x s := by unfold ecn; rw [List.flatMap_cons, List.count_append]
    rcases List.mem_cons.mp h with h | h
    · cases h; omega
    · have := ecn_mem (x := x) h
      omega
theorem cnt_pos {x : Nat} {q : List Nat} (h : x ∈ q) : 1 ≤ q.count x := List.one_le_count_iff.mpr h
theorem cnt_nd {x : Nat} {l : List Nat} (h : l.Nodup) : l.count x ≤ 1 := List.nodup_iff_count.mp h x
section M40
variable {E : PE} {d pz pa pl y root st : Nat} {nn nm : Int32} {h : PH} {O : Nat → Nat × Nat} {G : PG} {pf : Nat → Value} {lf c : Nat → Int32}
/-- where the class finds the function: the walk there, and the walk without it -/
theorem inl_find {A B : List AI} {s : ES} {a x dp : Nat} {p : List Nat} {it F r : It} {B1 X B2 : List It} (hP : PSt E pz pa pl y root st nn h O G A ((it, x) :: B) ((a, p) :: s) pf lf c) (h3 : it.1 = 3) (hI : Inv (AP A ++ it :: AP B)) (hp : PthR pf lf ((a, p ++ [x]) :: s) (dp + 1)) (hdp : dp < 40) (ha : it.2.2.2.1 = (1, F.2.1)) (hA : AP A = B1 ++ F :: ((X ++ [r]) ++ B2)) (hF : F.1 = 2) (hr : r.1 = 9) (hX : closes 1 (X ++ [r])) :
    ∃ (A1 RF A2 : List AI) (xF rb c0 L : Nat) (p1 p2 rest : List Nat) (rr : Int32 × Int32) (u sc : ES), A = A1 ++ (F, xF) :: (RF ++ A2) ∧ AP A1 = B1 ∧ AP RF = X ++ [r] ∧ AP A2 = B2 ∧ G.2 xF = some (F, [rb]) ∧ WA G [(rb, [])] RF [] ∧ WA G [(root, [])] A1 ((c0, p1) :: sc) ∧ G.1 c0 = some (p1 ++ xF :: (p2 ++ rest), rr) ∧ (a, p ++ [x]) :: s = u ++ (c0, (p1 ++ [xF]) ++ p2) :: sc ∧ p2 ≠ [] ∧ (∀ (b : Nat) (p0 : List Nat) (s0 : ES), WA G ((b, p0) :: s0) (A2 ++ [(it, x)]) (u ++ (b, p0 ++ p2) :: s0)) ∧ PthR pf lf sc L ∧ L < dp + 1 ∧ pf L = .ref c0 ∧
      Rn E (d + 4) 82 [.ref c0, .int F.2.1] h (some (.int (nI p1.length))) h ∧ Rn E (d + 4) 107 [.ref pz, .int F.2.1, .int (nI dp)] h (some (.int (nI L))) h ∧ (∀ q ∈ A, q.2 ≠ c0) ∧ (∃ itc : It, (itc, c0) ∈ B) := by
  have h9 : it.1 ≠ 9 := by omega
  obtain ⟨rs, R, C, rest0, r0, e1, e2, e3, e4, e5, e6, e7, e8⟩ := hP.at h9
  obtain ⟨g1, g2, g3, g4, g5, g6⟩ := hP
  have hir : irw it = 0 := by unfold irw; rw [h3]; rfl
  have ers : rs = [] := List.length_eq_zero_iff.mp (e2.trans hir)
  have eR : R = [] := by rw [ers] at e4; exact (WA_nil e4).1
  rw [eR, List.nil_append] at e3
  subst e3
  subst ers
  -- the pieces of A
  obtain ⟨A1, A', eA, eA1, eA'⟩ := AP_dec hA
  obtain ⟨xF, A'', eA'', eT⟩ := AP_decc eA'
  obtain ⟨RF, A2, eRA, eRF, eA2⟩ := AP_dec eT
  rw [eA'', eRA] at eA
  have g3' := g3
  rw [eA] at g3'
  obtain ⟨S1, w1, w2⟩ := WA_app.mp g3'
  match S1, w1, w2 with
  | [], w1, w2 => exact w2.elim
  | (c0, p1) :: sc, w1, w2 =>
    rcases w2 with ⟨z, -⟩ | ⟨nF9, rsF, hgF, hlF, w3⟩
    · exact absurd z (by omega)
    · have hrF : irw F = 1 := by unfold irw; rw [hF]; rfl
      obtain ⟨rb, erb⟩ := one_of (hlF.trans hrF)
      subst erb
      obtain ⟨m, w4, w5⟩ := WA_app.mp w3
      obtain ⟨em, wRF⟩ := WA_cl (u := [(rb, [])]) (s := (c0, p1 ++ [xF]) :: sc) (by simp) (by rw [eRF]; exact hX) w4
      subst em
      have wx : WA G ((a, p) :: s) [(it, x)] ((a, p ++ [x]) :: s) := Or.inr ⟨h9, [], e1, e2, rfl⟩
      have w6 := WA_app.mpr ⟨_, w5, wx⟩
      have wA : WA G [(root, [])] (A ++ [(it, x)]) ((a, p ++ [x]) :: s) := WA_app.mpr ⟨_, g3, wx⟩
      have hall := WA_all wA e5
      have eAll : (A ++ [(it, x)]) ++ B = A1 ++ (F, xF) :: (RF ++ A2 ++ (it, x) :: B) := by rw [eA]; simp
      have hNd : (dfs (AP ((A ++ [(it, x)]) ++ B))).Nodup := by
        have : AP ((A ++ [(it, x)]) ++ B) = AP A ++ it :: AP B := by rw [AP_app, AP_app, List.append_assoc]; rfl
        rw [this]; exact hI.2.1
      have nd2 : (((A ++ [(it, x)]) ++ B).map Prod.snd).Nodup := by rw [List.append_assoc]; exact g5
      have hxFA : xF ∈ A.map Prod.snd := by rw [eA]; simp
      have nxB : ∀ it' : It, (it', xF) ∉ B := fun it' hm => by
        rw [List.map_append, List.map_cons] at g5
        exact (List.nodup_append.mp g5).2.2 xF hxFA xF (List.mem_cons_of_mem _ (List.mem_map.mpr ⟨_, hm, rfl⟩)) rfl
      have nA : (A.map Prod.snd).Nodup := by rw [List.map_append] at g5; exact (List.nodup_append.mp g5).1
      have nx2 : xF ∉ (A2 ++ [(it, x)]).map Prod.snd := fun hm => by
        rw [List.map_append] at hm
        rcases List.mem_append.mp hm with hm | hm
        · have nA' := nA
          rw [eA, List.map_append, List.map_cons, List.map_append] at nA'
          exact (List.nodup_cons.mp (List.nodup_append.mp nA').2.1).1 (List.mem_append_right _ hm)
        · have : xF = x := by simpa using hm
          rw [List.map_append, List.map_cons] at g5
          exact (List.nodup_append.mp g5).2.2 xF hxFA xF (by rw [this]; exact List.mem_cons_self) rfl
      have wS1 : WA G [(root, [])] (A1 ++ (F, xF) :: RF) ((c0, p1 ++ [xF]) :: sc) := WA_app.mpr ⟨_, w1, Or.inr ⟨nF9, [rb], hgF, hlF, w4⟩⟩
      have cnt1 : ecn xF ((c0, p1 ++ [xF]) :: sc) ≤ 1 := by
        have k1 := WA_cnt xF wS1
        have k2 : ecn xF [(root, [])] = 0 := rfl
        have k3 : ((A1 ++ (F, xF) :: RF).map Prod.snd).count xF ≤ 1 := cnt_nd (by
          have nA' := nA
          rw [eA, show A1 ++ (F, xF) :: (RF ++ A2) = (A1 ++ (F, xF) :: RF) ++ A2 by simp, List.map_append] at nA'
          exact (List.nodup_append.mp nA').1)
        omega
      have cnt2 : ecn xF ((c0, p1 ++ [xF]) :: sc) = p1.count xF + 1 + ecn xF sc := by
        unfold ecn
        rw [List.flatMap_cons, List.count_append, List.count_append]
        simp
      rcases c_level (E := E) (d := d) (nm := F.2.1) g1 g2 hp hdp (fun e he => by
        obtain ⟨bs, r, k1, -, k2⟩ := hall e he
        exact ⟨bs, r, k1, fun b hb => by obtain ⟨i, j, -, -, k⟩ := k2 b hb; exact ⟨i, j, k⟩⟩) with ⟨u, b, q, sc', L, bs, rr, k, x', it', rs', v0, v1, v2, v3, v4, v5, v6, v7, v8, v9, v10⟩ | ⟨v1, -⟩
      · have hbm : (b, q) ∈ (a, p ++ [x]) :: s := by rw [v0]; simp
        obtain ⟨bs', r', k1, ⟨rest, k2, k3⟩, k4⟩ := hall (b, q) hbm
        have k1' : G.1 b = some (bs', r') := k1
        rw [v5] at k1'
        have ebs : bs' = bs := by cases k1'; rfl
        rw [ebs] at k2 k4
        have hxb := List.mem_of_getElem? v6
        obtain ⟨it2, rs2, m2, n92, k5⟩ := k4 x' hxb
        rw [v7] at k5
        have e2' : it2 = it' := by cases k5; rfl
        rw [e2'] at m2 n92
        rw [eAll] at m2 hNd
        obtain ⟨eit, ex'⟩ := nm_uniq (by omega) hNd m2 n92 v8
        subst ex'
        have k2' : bs = q ++ rest := k2
        have nrest : x' ∉ rest := fun z => by obtain ⟨i, hi⟩ := k3 x' z; exact nxB i hi
        have hxq : x' ∈ q := by
          rw [k2'] at hxb
          exact (List.mem_append.mp hxb).resolve_right nrest
        obtain ⟨q0, f1, f2⟩ := WA_from w6 hbm hxq nx2
        have hb0 : b = c0 := by
          rcases List.mem_cons.mp f1 with f1 | f1
          · exact congrArg Prod.fst f1
          · exfalso
            have := ecn_mem (x := x') f1
            have := cnt_pos f2
            omega
        subst hb0
        have hcB := (WA_mem e5 hbm).2
        have hcA : ∀ q ∈ A ++ [(it, x)], q.2 ≠ b := nd_mem nd2 hcB
        obtain ⟨u', p2, s1, s2, s3⟩ := WA_ren (u := []) w6 (fun q hq _ => hcA q (by
          rcases List.mem_append.mp hq with hq | hq
          · rw [eA]; simp [hq]
          · exact List.mem_append_right _ hq))
        have hp2 : p2 ≠ [] := fun z => by have := (s2 rfl z).1; simp at this
        have ndS : (((a, p ++ [x]) :: s).map Prod.fst).Nodup := by
          refine List.Nodup.sublist (WA_sub e5) ?_
          rw [List.map_append] at nd2
          exact (List.nodup_append.mp nd2).2.1
        obtain ⟨d1, d2, d3⟩ := dec_uniq (v0.symm.trans s1) (by rw [← v0]; exact ndS)
        subst d1 d3
        have cnt3 : ecn x' ((a, p ++ [x]) :: s) ≤ 1 := by
          have k1 := WA_cnt x' wA
          have k2 : ecn x' [(root, [])] = 0 := rfl
          have k3 : ((A ++ [(it, x)]).map Prod.snd).count x' ≤ 1 := cnt_nd (by
            rw [List.map_append] at nd2
            exact (List.nodup_append.mp nd2).1)
          omega
        have cnt4 := ecn_mem (x := x') hbm
        have cq : q.count x' = p1.count x' + 1 + p2.count x' := by
          rw [d2, List.count_append, List.count_append]
          simp
        have np1 : x' ∉ p1 := fun z => by have := cnt_pos z; omega
        have np2 : x' ∉ p2 := fun z => by have := cnt_pos z; omega
        have ebs2 : bs = p1 ++ x' :: (p2 ++ rest) := by rw [k2', d2]; simp
        have hk : k = p1.length := by
          rw [ebs2] at v6
          exact idx_uniq v6 np1 (fun z => (List.mem_append.mp z).elim np2 nrest)
        rw [hk] at v9
        exact ⟨A1, RF, A2, x', rb, b, L, p1, p2, rest, rr, u, sc', eA, eA1, eRF, eA2, hgF, wRF, w1, by rw [v5, ebs2], s1, hp2, s3, v2, v3, v4, v9, v10, fun q hq => hcA q (List.mem_append_left _ hq), hcB.imp fun i hi => hi.1⟩
      · exfalso
        obtain ⟨e, stk', hre, hsc, -⟩ := Sco_at hI.1
        have hfe : F.2.1 ∈ e := by
          have h9 := hsc 0 (by unfold iat; rw [h3]; decide)
          have e0 : iatm it 0 = (1, F.2.1) := ha
          rw [e0] at h9
          rcases h9 with h9 | h9
          · exact absurd h9 (show ¬ (1 : Int32) = 0 by decide)
          · exact h9.2
        have sr := ScR_go (Pr := prs (AP A)) (es := [[]]) g3 ⟨fun f hf => absurd hf List.not_mem_nil, trivial⟩ (fun f hf => hf)
        rw [hre] at sr
        rcases sr.1 F.2.1 hfe with z | ⟨en, m, x', mx, it', rs', k1, k2⟩
        · have hN := hI.2.1
          rw [dfs_app] at hN
          have hN' := (List.nodup_append.mp hN).1
          rw [hA] at z hN'
          exact prs_no hF hN' z
        · have hen : ∃ en' ∈ (a, p ++ [x]) :: s, x' ∈ en'.2 := by
            rcases List.mem_cons.mp m with m | m
            · exact ⟨_, List.mem_cons_self, by rw [m] at mx; exact List.mem_append_left _ mx⟩
            · exact ⟨en, List.mem_cons_of_mem _ m, mx⟩
          obtain ⟨en', m', mx'⟩ := hen
          obtain ⟨bs, r, j1, ⟨rest, j2, -⟩, -⟩ := hall en' m'
          exact v1 en' m' (fun z => by rw [z] at mx'; cases mx') bs r j1 x' (by rw [j2]; exact List.mem_append_left _ mx') it' rs' k1 k2
end M40
