/-! ===== the class: inline ===== -/
theorem PFit.less {E : PE} {D : PD} {p : Program} {R : Room} {s : State} {m : MethodId} {args : Array Value} {meth : Method} {c : Code} {mi d : Nat} (h : PFit E D p R s m args meth c mi (d + 1)) : PFit E D p R s m args meth c mi d := by
  obtain ⟨a1, a2, a3, a4, a5, a6, a7, a8, a9⟩ := h
  exact ⟨a1, a2, a3, a4, a5, a6, by omega, by omega, a9⟩
theorem Ex.up {E : PE} {d : Nat} {F F' : PF} {h h' : PH} (x : Ex E d F h F' h') : Ex E (d + 1) F h F' h' := by
  obtain ⟨a1, b1, c1, d1, k1⟩ := x
  exact ⟨a1, b1, c1, d1, fun D p l e R s m args below meth c Q en es H locs ls hF => k1 D p l e R s m args below meth c Q en es H locs ls hF.less⟩
theorem Rn.up {E : PE} {d m : Nat} {As : List Value} {h h' : PH} {v : Option Value} (x : Rn E d m As h v h') : Rn E (d + 1) m As h v h' := by
  obtain ⟨a, pc, L, st, i, b, k⟩ := x
  exact ⟨a, pc, L, st, i, b.up, k⟩
theorem x_iasti {E : PE} {d mi pc : Nat} {L : PL} {st : List Value} {h : PH} {i x : Int32} {a m n : Nat} {f : Nat → Int32} (hi : pin mi pc = some (.iastore, 1)) (ha : h.1 a = some (100, iar m f)) (he : i = nI n) (hb : n < 2 ^ 31) (hn : n < m) : Ex E d (mi, pc, L, .int x :: .int i :: .ref a :: st) h (mi, pc + 1, L, st) (pset h a (100, iar m (rup f n x))) := by
  rw [← iar_set]
  exact x_iast hi ha rfl (by decide) he hb (by rw [iar_len]; exact hn)
theorem AP_dec {A : List AI} {L1 L2 : List It} (h : AP A = L1 ++ L2) : ∃ A1 A2, A = A1 ++ A2 ∧ AP A1 = L1 ∧ AP A2 = L2 := by
  obtain ⟨A1, A2, e1, e2, e3⟩ := List.map_eq_append_iff.mp h
  exact ⟨A1, A2, e1, e2, e3⟩
theorem AP_decc {A : List AI} {F : It} {L : List It} (h : AP A = F :: L) : ∃ x A', A = (F, x) :: A' ∧ AP A' = L := by
  match A, h with
  | (F', x) :: A', h =>
    have h' : F' :: AP A' = F :: L := h
    rw [List.cons.injEq] at h'
    exact ⟨x, A', by rw [h'.1], h'.2⟩
theorem AP_mb {nm : Int32} {v : Int32 × Int32} : ∀ {Q : List AI}, (AP Q).map (isb nm v) = AP Q → Q.map (mb nm v) = Q
  | [], _ => rfl
  | (it, x) :: Q, h => by
    have h' : isb nm v it :: (AP Q).map (isb nm v) = it :: AP Q := h
    rw [List.cons.injEq] at h'
    show (isb nm v it, x) :: Q.map (mb nm v) = (it, x) :: Q
    rw [h'.1, AP_mb h'.2]
theorem idf_nm {it : It} (h : it.1 ≠ 9) : it.2.1 ∈ idf it := by
  unfold idf
  rw [if_neg h]
  split <;> exact List.mem_cons_self
theorem nm_uniq {P1 P2 : List AI} {F it : It} {xF x : Nat} (hF : F.1 ≠ 9) (nd : (dfs (AP (P1 ++ (F, xF) :: P2))).Nodup) (hm : (it, x) ∈ P1 ++ (F, xF) :: P2) (h9 : it.1 ≠ 9) (hn : it.2.1 = F.2.1) : it = F ∧ x = xF := by
  rw [AP_app, AP_cons, dfs_app, dfs_cons] at nd
  obtain ⟨-, n2, n3⟩ := List.nodup_append.mp nd
  obtain ⟨-, -, n4⟩ := List.nodup_append.mp n2
  rcases List.mem_append.mp hm with m | m
  · exfalso
    exact n3 F.2.1 (by rw [← hn]; exact dfs_mem (List.mem_map_of_mem (f := Prod.fst) m) (idf_nm h9)) F.2.1 (List.mem_append_left _ (idf_nm hF)) rfl
  · rcases List.mem_cons.mp m with m | m
    · cases m; exact ⟨rfl, rfl⟩
    · exfalso
      exact n4 F.2.1 (idf_nm hF) F.2.1 (by rw [← hn]; exact dfs_mem (List.mem_map_of_mem (f := Prod.fst) m) (idf_nm h9)) rfl
theorem idx_uniq {x k : Nat} {l2 : List Nat} : ∀ {p1 : List Nat}, (p1 ++ x :: l2)[k]? = some x → x ∉ p1 → x ∉ l2 → k = p1.length := fun {p1} h h1 h2 => by
  by_cases c1 : k < p1.length
  · rw [List.getElem?_append_left c1] at h
    exact absurd (List.mem_of_getElem? h) h1
  · rw [List.getElem?_append_right (by omega)] at h
    by_cases c2 : k = p1.length
    · exact c2
    · rw [show k - p1.length = (k - p1.length - 1) + 1 by omega, List.getElem?_cons_succ] at h
      exact absurd (List.mem_of_getElem? h) h2
def Shr : ES → ES → Prop
  | [], [] => True
  | (a, q) :: s, (b, q') :: s' => a = b ∧ q.getLast? = q'.getLast? ∧ Shr s s'
  | _, _ => False
theorem Shr.rf : ∀ s : ES, Shr s s
  | [] => trivial
  | (a, q) :: s => ⟨rfl, rfl, Shr.rf s⟩
theorem Shr.tr : ∀ {s t u : ES}, Shr s t → Shr t u → Shr s u
  | [], [], [], _, _ => trivial
  | (a, q) :: s, (b, q') :: t, (c, q'') :: u, h, k => ⟨h.1.trans k.1, h.2.1.trans k.2.1, Shr.tr h.2.2 k.2.2⟩
  | [], [], _ :: _, _, k => k.elim
  | [], _ :: _, _, h, _ => h.elim
  | _ :: _, [], _, h, _ => h.elim
  | _ :: _, _ :: _, [], _, k => k.elim
theorem Shr_mid {c : Nat} {q q' : List Nat} {sc : ES} (h : q.getLast? = q'.getLast?) : ∀ u : ES, Shr (u ++ (c, q) :: sc) (u ++ (c, q') :: sc)
  | [] => ⟨rfl, h, Shr.rf sc⟩
  | (a, p) :: u => ⟨rfl, rfl, Shr_mid h u⟩
section M39
variable {E : PE} {d pz pa pl y root st : Nat} {nn nm : Int32} {h : PH} {O : Nat → Nat × Nat} {G : PG} {pf : Nat → Value} {lf c : Nat → Int32}
theorem WA_all {A C : List AI} {S : ES} (hA : WA G [(root, [])] A S) (hC : WA G S C []) : ∀ e ∈ S, ∃ bs r, G.1 e.1 = some (bs, r) ∧ (∃ rest, bs = e.2 ++ rest ∧ ∀ b ∈ rest, ∃ it : It, (it, b) ∈ C) ∧ ∀ b ∈ bs, ∃ it rs, (it, b) ∈ A ++ C ∧ it.1 ≠ 9 ∧ G.2 b = some (it, rs) := by
  rintro ⟨a, q⟩ he
  obtain ⟨⟨rest, r, k⟩, -⟩ := WA_mem hC he
  refine ⟨q ++ rest, r, k, ⟨rest, rfl, fun b hb => ?_⟩, fun b hb => ?_⟩
  · obtain ⟨it, rs, m, -⟩ := WA_rest hC he k hb
    exact ⟨it, m⟩
  · rcases List.mem_append.mp hb with hb | hb
    · rcases WA_in hA he hb with ⟨q0, m, z⟩ | ⟨it, rs, m, z⟩
      · have := List.mem_singleton.mp m
        cases this; cases z
      · exact ⟨it, rs, List.mem_append_left _ m, z⟩
    · obtain ⟨it, rs, m, z⟩ := WA_rest hC he k hb
      exact ⟨it, rs, List.mem_append_right _ m, z⟩
/-- levelThatBinds -/
theorem c_level (hG : GH E h O G) (hP : PsH pz pa pl y root st nn h O pf lf c) {s : ES} {dp : Nat} (hp : PthR pf lf s (dp + 1)) (h40 : dp < 40) (hk : ∀ e ∈ s, ∃ bs r, G.1 e.1 = some (bs, r) ∧ ∀ b ∈ bs, ∃ it rs, G.2 b = some (it, rs)) :
    (∃ (u : ES) (b : Nat) (q : List Nat) (sc : ES) (L : Nat) (bs : List Nat) (r : Int32 × Int32) (k x : Nat) (it : It) (rs : List Nat), s = u ++ (b, q) :: sc ∧ q ≠ [] ∧ PthR pf lf sc L ∧ L < dp + 1 ∧ pf L = .ref b ∧ G.1 b = some (bs, r) ∧ bs[k]? = some x ∧ G.2 x = some (it, rs) ∧ it.2.1 = nm ∧ Rn E (d + 4) 82 [.ref b, .int nm] h (some (.int (nI k))) h ∧ Rn E (d + 4) 107 [.ref pz, .int nm, .int (nI dp)] h (some (.int (nI L))) h) ∨
    ((∀ e ∈ s, e.2 ≠ [] → ∀ bs r, G.1 e.1 = some (bs, r) → ∀ x ∈ bs, ∀ it rs, G.2 x = some (it, rs) → it.2.1 ≠ nm) ∧ Rn E (d + 4) 107 [.ref pz, .int nm, .int (nI dp)] h (some (.int (-1))) h) := by
  have go : ∀ v, Rk E (d + 4) (107, 2, [some (.ref pz), some (.int nm), some (.int (nI dp)), some (.int (nI (dp + 1) - 1))], []) h v h → Rn E (d + 4) 107 [.ref pz, .int nm, .int (nI dp)] h v h := fun v kk => by
    rw [nI_m1 (by omega), Nat.add_sub_cancel] at kk
    refine Rn.of (Nat.le_of_ble_eq_true rfl) ?_
    refine Rk.tr (F1 := (107, 1, _, _)) (x_iload_n rfl rfl) ?_
    refine Rk.tr (F1 := (107, 2, [_, _, _, _], _)) (x_istore_n (i := 3) rfl (Nat.le_of_ble_eq_true rfl)) ?_
    exact kk
  rcases lp_level (E := E) (d := d) (nm := nm) (y2 := nI dp) hG hP s (dp + 1) hp (by omega) hk with ⟨u, b, q, sc, L, bs, r, k, x, it, rs, z0, z1, z2, z3, z4, z5, z6, z7, z8, z9, z10⟩ | ⟨z1, z2⟩
  · exact Or.inl ⟨u, b, q, sc, L, bs, r, k, x, it, rs, z0, z1, z2, z3, z4, z5, z6, z7, z8, z9.up, go _ z10⟩
  · exact Or.inr ⟨z1, go _ z2⟩
theorem ikd2 {it : It} : ikd it = 2 ↔ it.1 = 2 := by
  obtain ⟨k, q⟩ := it
  rcases kd5 k with rfl | rfl | rfl | rfl | ⟨n2, n3, n5, n9⟩
  · exact iff_of_true rfl rfl
  · exact iff_of_false (show ¬ (3 : Int32) = 2 by decide) (show ¬ (3 : Nat) = 2 by decide)
  · exact iff_of_false (show ¬ (5 : Int32) = 2 by decide) (show ¬ (5 : Nat) = 2 by decide)
  · exact iff_of_false (show ¬ (6 : Int32) = 2 by decide) (show ¬ (9 : Nat) = 2 by decide)
  · obtain ⟨-, -, z⟩ := if_kd (it := (k, q)) n2 n3 n5 n9
    rw [z]
    exact iff_of_false (by decide) n2
theorem c_inlineN {A B : List AI} {s : ES} {a x dp : Nat} {p : List Nat} {it : It} (hP : PSt E pz pa pl y root st nn h O G A ((it, x) :: B) ((a, p) :: s) pf lf c) (h3 : it.1 = 3) (hI : Inv (AP A ++ it :: AP B)) (hp : PthR pf lf ((a, p ++ [x]) :: s) (dp + 1)) (hdp : dp < 40) (hs : stp (AP A) it (AP B) = none) : Rn E (d + 74) 106 [.ref pz, .ref y, .ref x, .int (nI dp)] h (some (.int 0)) h := by
  have h9 : it.1 ≠ 9 := by omega
  obtain ⟨rs, R, C, rest, r, e1, e2, e3, e4, e5, e6, e7, e8⟩ := hP.at h9
  obtain ⟨g1, g2, g3, g4, g5, g6⟩ := hP
  obtain ⟨x1, x2, x3, x4, x5, x6, x7⟩ := id g2
  obtain ⟨at0, ar, xs, dt, b1, b2, b3, b4, b5, b6, b7, b8⟩ := g1.2.2.2 x it rs e1
  have hi : iat it = 2 := by unfold iat; rw [h3]; rfl
  obtain ⟨z1, z2, ez⟩ := two_of (b4.trans hi)
  subst ez
  have a1 := b5 0 z1 rfl
  have hir : irw it = 0 := by unfold irw; rw [h3]; rfl
  have ers : rs = [] := List.length_eq_zero_iff.mp (e2.trans hir)
  have eR : R = [] := by rw [ers] at e4; exact (WA_nil e4).1
  rw [eR, List.nil_append] at e3
  subst e3
  subst ers
  have hw := WA_app.mpr ⟨_, g3, g4⟩
  have a10 : (iatm it 0).1 = it.2.2.2.1.1 := rfl
  refine Rn.of (Nat.le_of_ble_eq_true rfl) ?_
  rcases a1.2 with q0 | q0
  · rw [a10] at q0
    refine Rk.tr (F1 := (106, 1, _, _)) (x_aload_n rfl rfl rfl) ?_
    refine Rk.tr (F1 := (106, 4, _, _)) (x_getf rfl rfl b1 rfl) ?_
    refine Rk.tr (F1 := (106, 5, _, _)) (x_iconst rfl) ?_
    refine Rk.tr (F1 := (106, 6, _, _)) (x_aald (n := 0) rfl b3 rfl rfl rfl (by omega) rfl) ?_
    refine Rk.tr (F1 := (106, 8, [_, _, _, _, _, _, _, _, _], _)) (x_astore (i := 4) rfl (Nat.le_of_ble_eq_true rfl)) ?_
    refine Rk.tr (F1 := (106, 10, _, _)) (x_aload rfl rfl rfl) ?_
    refine Rk.tr (F1 := (106, 13, _, _)) (x_getf rfl rfl a1.1 rfl) ?_
    refine Rk.tr (F1 := (106, 29, _, _)) (x_ifT rfl (tg := 29) rfl q0) ?_
    refine Rk.tr (F1 := (106, 30, _, _)) (x_iconst rfl) ?_
    refine Rk.tr (F1 := (106, 32, [_, _, _, _, _, _, _, _, _], _)) (x_istore (i := 5) rfl (Nat.le_of_ble_eq_true rfl)) ?_
    refine Rk.tr (F1 := (106, 34, _, _)) (x_iload rfl rfl) ?_
    refine Rk.tr (F1 := (106, 37, _, _)) (x_ifF rfl (tg := 39) rfl (show ¬ (0 : Int32) ≤ -1 by decide)) ?_
    refine Rk.tr (F1 := (106, 38, _, _)) (x_iconst rfl) ?_
    exact Rk.end rfl (Or.inr (Or.inl ⟨rfl, _, .boolean, rfl, rfl, rfl, rfl⟩))
  · rw [a10] at q0
    have q0' : ¬ it.2.2.2.1.1 = 0 := by rw [q0]; decide
    have wA : WA G [(root, [])] (A ++ [(it, x)]) ((a, p ++ [x]) :: s) := WA_app.mpr ⟨_, g3, Or.inr ⟨h9, [], e1, e2, rfl⟩⟩
    have hall := WA_all wA e5
    rcases c_level (E := E) (d := d + 69) (nm := it.2.2.2.1.2) g1 g2 hp hdp (fun e he => by
      obtain ⟨bs, r, k1, -, k2⟩ := hall e he
      exact ⟨bs, r, k1, fun b hb => by obtain ⟨i, j, -, -, k⟩ := k2 b hb; exact ⟨i, j, k⟩⟩) with ⟨u, b, q, sc, L, bs, rr, k, x', it', rs', w0, w1, w2, w3, w4, w5, w6, w7, w8, w9, w10⟩ | ⟨-, w10⟩
    · have hkl : k < bs.length := (List.getElem?_eq_some_iff.mp w6).1
      obtain ⟨l, e0, cap, x0, r1, r2, r3, r4, r5, r6⟩ := g1.2.2.1 b bs rr w5
      obtain ⟨mc, l1⟩ := id r3.1
      have hln := r3.len
      obtain ⟨at1, ar1, xs1, dt1, f1, f2, f3, f4, f5, f6, f7, f8⟩ := g1.2.2.2 x' it' rs' w7
      have hpa : (par pf)[L]? = some (.ref b) := (par_at (by omega)).trans (congrArg some w4)
      by_cases h2 : it'.1 = 2
      · have ho : ¬ occ it.2.2.2.1.2 (AP A ++ AP ((it, x) :: B)) = 1 := by
          intro ho
          have hmem : it' ∈ AP A ++ it :: AP B := by
            obtain ⟨bs', r', k1, -, k2⟩ := hall (b, q) (by rw [w0]; simp)
            have k1' : G.1 b = some (bs', r') := k1
            rw [w5] at k1'; cases k1'
            obtain ⟨it2, rs2, m, -, k3⟩ := k2 x' (List.mem_of_getElem? w6)
            rw [w7] at k3; cases k3
            have := List.mem_map_of_mem (f := Prod.fst) m
            rw [List.append_assoc, List.map_append] at this
            exact this
          rcases inl_where (f := it.2.2.2.1.2) hI.1 hI.2.1 h3 (Prod.ext q0 rfl) with z | ⟨A1, F, X, r, A2, y1, y2, y3, y4, y5, y6, y7⟩
          · exact z it' hmem ⟨h2, w8⟩
          · have ho' : occ it.2.2.2.1.2 ((A1 ++ F :: ((X ++ [r]) ++ A2)) ++ it :: AP B) = 1 := by rw [← y1]; exact ho
            have := stp_inl (B := AP B) h3 ⟨y2, y3⟩ y6 y5 q0 ho'
            rw [← y1, hs] at this
            cases this
        have hoc := c_occs (E := E) (d := d) (nm := it.2.2.2.1.2) g1 hw (by rw [AP_app]; exact g6)
        rw [AP_app] at hoc
        have hlt := occ_le it.2.2.2.1.2 (AP A ++ AP ((it, x) :: B))
        obtain ⟨⟨bs0, r0, hr0⟩, -⟩ := WA_mem hw List.mem_cons_self
        obtain ⟨l0, e0', cap0, x0', rt1, -⟩ := g1.2.2.1 root _ r0 hr0
        have hk2 : ikd it' = 2 := ikd2.mpr h2
        refine Rk.tr (F1 := (106, 1, _, _)) (x_aload_n rfl rfl rfl) ?_
        refine Rk.tr (F1 := (106, 4, _, _)) (x_getf rfl rfl b1 rfl) ?_
        refine Rk.tr (F1 := (106, 5, _, _)) (x_iconst rfl) ?_
        refine Rk.tr (F1 := (106, 6, _, _)) (x_aald (n := 0) rfl b3 rfl rfl rfl (by omega) rfl) ?_
        refine Rk.tr (F1 := (106, 8, [_, _, _, _, _, _, _, _, _], _)) (x_astore (i := 4) rfl (Nat.le_of_ble_eq_true rfl)) ?_
        refine Rk.tr (F1 := (106, 10, _, _)) (x_aload rfl rfl rfl) ?_
        refine Rk.tr (F1 := (106, 13, _, _)) (x_getf rfl rfl a1.1 rfl) ?_
        refine Rk.tr (F1 := (106, 16, _, _)) (x_ifF rfl (tg := 29) rfl q0') ?_
        refine Rk.tr (F1 := (106, 17, _, _)) (x_aload_n rfl rfl rfl) ?_
        refine Rk.tr (F1 := (106, 19, _, _)) (x_aload rfl rfl rfl) ?_
        refine Rk.tr (F1 := (106, 22, _, _)) (x_getf rfl rfl a1.1 rfl) ?_
        refine Rk.tr (F1 := (106, 23, _, _)) (x_iload_n rfl rfl) ?_
        refine Rk.tr (F1 := (106, 26, _, _)) (x_callv (As := [_, _]) rfl rfl rfl (Or.inr rfl) rfl rfl x1 (by decide) rfl (Nat.le_of_ble_eq_true rfl) w10 rfl) ?_
        refine Rk.tr (F1 := (106, 30, _, _)) (x_goto rfl rfl) ?_
        refine Rk.tr (F1 := (106, 32, [_, _, _, _, _, _, _, _, _], _)) (x_istore (i := 5) rfl (Nat.le_of_ble_eq_true rfl)) ?_
        refine Rk.tr (F1 := (106, 34, _, _)) (x_iload rfl rfl) ?_
        refine Rk.tr (F1 := (106, 39, _, _)) (x_ifT rfl (tg := 39) rfl (show nI 0 ≤ nI L from nI_le (by omega) (by omega))) ?_
        refine Rk.tr (F1 := (106, 40, _, _)) (x_aload_n rfl rfl rfl) ?_
        refine Rk.tr (F1 := (106, 43, _, _)) (x_getf rfl rfl x1 rfl) ?_
        refine Rk.tr (F1 := (106, 45, _, _)) (x_iload rfl rfl) ?_
        refine Rk.tr (F1 := (106, 46, _, _)) (x_aald (n := L) rfl x2 rfl rfl rfl (by omega) hpa) ?_
        refine Rk.tr (F1 := (106, 48, _, _)) (x_aload rfl rfl rfl) ?_
        refine Rk.tr (F1 := (106, 51, _, _)) (x_getf rfl rfl a1.1 rfl) ?_
        refine Rk.tr (F1 := (106, 54, _, _)) (x_callv (As := [_]) rfl rfl rfl (Or.inl rfl) rfl rfl r1 (by decide) rfl (Nat.le_of_ble_eq_true rfl) w9 rfl) ?_
        refine Rk.tr (F1 := (106, 56, [_, _, _, _, _, _, _, _, _], _)) (x_istore (i := 6) rfl (Nat.le_of_ble_eq_true rfl)) ?_
        refine Rk.tr (F1 := (106, 57, _, _)) (x_aload_n rfl rfl rfl) ?_
        refine Rk.tr (F1 := (106, 60, _, _)) (x_getf rfl rfl x1 rfl) ?_
        refine Rk.tr (F1 := (106, 62, _, _)) (x_iload rfl rfl) ?_
        refine Rk.tr (F1 := (106, 63, _, _)) (x_aald (n := L) rfl x2 rfl rfl rfl (by omega) hpa) ?_
        refine Rk.tr (F1 := (106, 66, _, _)) (x_getf rfl rfl r1 rfl) ?_
        refine Rk.tr (F1 := (106, 68, _, _)) (x_iload rfl rfl) ?_
        refine Rk.tr (F1 := (106, 71, _, _)) (x_callv (As := [_]) rfl rfl rfl (Or.inl rfl) rfl rfl l1 (by decide) rfl (Nat.le_of_ble_eq_true rfl) (c_get r3 w6) rfl) ?_
        refine Rk.tr (F1 := (106, 74, _, _)) (x_cast rfl rfl (by decide) f1) ?_
        refine Rk.tr (F1 := (106, 76, [_, _, _, _, _, _, _, _, _], _)) (x_astore (i := 7) rfl (Nat.le_of_ble_eq_true rfl)) ?_
        refine Rk.tr (F1 := (106, 78, _, _)) (x_aload rfl rfl rfl) ?_
        refine Rk.tr (F1 := (106, 81, _, _)) (x_getf rfl rfl f1 rfl) ?_
        refine Rk.tr (F1 := (106, 82, _, _)) (x_iconst rfl) ?_
        refine Rk.tr (F1 := (106, 85, _, _)) (x_icF rfl (tg := 101) rfl (fun z => z hk2)) ?_
        refine Rk.tr (F1 := (106, 86, _, _)) (x_aload_n rfl rfl rfl) ?_
        refine Rk.tr (F1 := (106, 89, _, _)) (x_getf rfl rfl x5 rfl) ?_
        refine Rk.tr (F1 := (106, 91, _, _)) (x_aload rfl rfl rfl) ?_
        refine Rk.tr (F1 := (106, 94, _, _)) (x_getf rfl rfl a1.1 rfl) ?_
        refine Rk.tr (F1 := (106, 97, _, _)) (x_callv (As := [_]) rfl rfl rfl (Or.inl rfl) rfl rfl rt1 (by decide) rfl (Nat.le_of_ble_eq_true rfl) hoc rfl) ?_
        refine Rk.tr (F1 := (106, 98, _, _)) (x_iconst rfl) ?_
        refine Rk.tr (F1 := (106, 101, _, _)) (x_icF rfl (tg := 103) rfl (show ¬ nI (occ it.2.2.2.1.2 (AP A ++ AP ((it, x) :: B))) = nI 1 from fun z => ho ((nI_eq (by omega) (by omega)).mp z))) ?_
        refine Rk.tr (F1 := (106, 102, _, _)) (x_iconst rfl) ?_
        exact Rk.end rfl (Or.inr (Or.inl ⟨rfl, _, .boolean, rfl, rfl, rfl, rfl⟩))
      · have hk2 : ¬ ikd it' = 2 := fun z => h2 (ikd2.mp z)
        refine Rk.tr (F1 := (106, 1, _, _)) (x_aload_n rfl rfl rfl) ?_
        refine Rk.tr (F1 := (106, 4, _, _)) (x_getf rfl rfl b1 rfl) ?_
        refine Rk.tr (F1 := (106, 5, _, _)) (x_iconst rfl) ?_
        refine Rk.tr (F1 := (106, 6, _, _)) (x_aald (n := 0) rfl b3 rfl rfl rfl (by omega) rfl) ?_
        refine Rk.tr (F1 := (106, 8, [_, _, _, _, _, _, _, _, _], _)) (x_astore (i := 4) rfl (Nat.le_of_ble_eq_true rfl)) ?_
        refine Rk.tr (F1 := (106, 10, _, _)) (x_aload rfl rfl rfl) ?_
        refine Rk.tr (F1 := (106, 13, _, _)) (x_getf rfl rfl a1.1 rfl) ?_
        refine Rk.tr (F1 := (106, 16, _, _)) (x_ifF rfl (tg := 29) rfl q0') ?_
        refine Rk.tr (F1 := (106, 17, _, _)) (x_aload_n rfl rfl rfl) ?_
        refine Rk.tr (F1 := (106, 19, _, _)) (x_aload rfl rfl rfl) ?_
        refine Rk.tr (F1 := (106, 22, _, _)) (x_getf rfl rfl a1.1 rfl) ?_
        refine Rk.tr (F1 := (106, 23, _, _)) (x_iload_n rfl rfl) ?_
        refine Rk.tr (F1 := (106, 26, _, _)) (x_callv (As := [_, _]) rfl rfl rfl (Or.inr rfl) rfl rfl x1 (by decide) rfl (Nat.le_of_ble_eq_true rfl) w10 rfl) ?_
        refine Rk.tr (F1 := (106, 30, _, _)) (x_goto rfl rfl) ?_
        refine Rk.tr (F1 := (106, 32, [_, _, _, _, _, _, _, _, _], _)) (x_istore (i := 5) rfl (Nat.le_of_ble_eq_true rfl)) ?_
        refine Rk.tr (F1 := (106, 34, _, _)) (x_iload rfl rfl) ?_
        refine Rk.tr (F1 := (106, 39, _, _)) (x_ifT rfl (tg := 39) rfl (show nI 0 ≤ nI L from nI_le (by omega) (by omega))) ?_
        refine Rk.tr (F1 := (106, 40, _, _)) (x_aload_n rfl rfl rfl) ?_
        refine Rk.tr (F1 := (106, 43, _, _)) (x_getf rfl rfl x1 rfl) ?_
        refine Rk.tr (F1 := (106, 45, _, _)) (x_iload rfl rfl) ?_
        refine Rk.tr (F1 := (106, 46, _, _)) (x_aald (n := L) rfl x2 rfl rfl rfl (by omega) hpa) ?_
        refine Rk.tr (F1 := (106, 48, _, _)) (x_aload rfl rfl rfl) ?_
        refine Rk.tr (F1 := (106, 51, _, _)) (x_getf rfl rfl a1.1 rfl) ?_
        refine Rk.tr (F1 := (106, 54, _, _)) (x_callv (As := [_]) rfl rfl rfl (Or.inl rfl) rfl rfl r1 (by decide) rfl (Nat.le_of_ble_eq_true rfl) w9 rfl) ?_
        refine Rk.tr (F1 := (106, 56, [_, _, _, _, _, _, _, _, _], _)) (x_istore (i := 6) rfl (Nat.le_of_ble_eq_true rfl)) ?_
        refine Rk.tr (F1 := (106, 57, _, _)) (x_aload_n rfl rfl rfl) ?_
        refine Rk.tr (F1 := (106, 60, _, _)) (x_getf rfl rfl x1 rfl) ?_
        refine Rk.tr (F1 := (106, 62, _, _)) (x_iload rfl rfl) ?_
        refine Rk.tr (F1 := (106, 63, _, _)) (x_aald (n := L) rfl x2 rfl rfl rfl (by omega) hpa) ?_
        refine Rk.tr (F1 := (106, 66, _, _)) (x_getf rfl rfl r1 rfl) ?_
        refine Rk.tr (F1 := (106, 68, _, _)) (x_iload rfl rfl) ?_
        refine Rk.tr (F1 := (106, 71, _, _)) (x_callv (As := [_]) rfl rfl rfl (Or.inl rfl) rfl rfl l1 (by decide) rfl (Nat.le_of_ble_eq_true rfl) (c_get r3 w6) rfl) ?_
        refine Rk.tr (F1 := (106, 74, _, _)) (x_cast rfl rfl (by decide) f1) ?_
        refine Rk.tr (F1 := (106, 76, [_, _, _, _, _, _, _, _, _], _)) (x_astore (i := 7) rfl (Nat.le_of_ble_eq_true rfl)) ?_
        refine Rk.tr (F1 := (106, 78, _, _)) (x_aload rfl rfl rfl) ?_
        refine Rk.tr (F1 := (106, 81, _, _)) (x_getf rfl rfl f1 rfl) ?_
        refine Rk.tr (F1 := (106, 82, _, _)) (x_iconst rfl) ?_
        refine Rk.tr (F1 := (106, 101, _, _)) (x_icT rfl (tg := 101) rfl hk2) ?_
        refine Rk.tr (F1 := (106, 102, _, _)) (x_iconst rfl) ?_
        exact Rk.end rfl (Or.inr (Or.inl ⟨rfl, _, .boolean, rfl, rfl, rfl, rfl⟩))
    · refine Rk.tr (F1 := (106, 1, _, _)) (x_aload_n rfl rfl rfl) ?_
      refine Rk.tr (F1 := (106, 4, _, _)) (x_getf rfl rfl b1 rfl) ?_
      refine Rk.tr (F1 := (106, 5, _, _)) (x_iconst rfl) ?_
      refine Rk.tr (F1 := (106, 6, _, _)) (x_aald (n := 0) rfl b3 rfl rfl rfl (by omega) rfl) ?_
      refine Rk.tr (F1 := (106, 8, [_, _, _, _, _, _, _, _, _], _)) (x_astore (i := 4) rfl (Nat.le_of_ble_eq_true rfl)) ?_
      refine Rk.tr (F1 := (106, 10, _, _)) (x_aload rfl rfl rfl) ?_
      refine Rk.tr (F1 := (106, 13, _, _)) (x_getf rfl rfl a1.1 rfl) ?_
      refine Rk.tr (F1 := (106, 16, _, _)) (x_ifF rfl (tg := 29) rfl q0') ?_
      refine Rk.tr (F1 := (106, 17, _, _)) (x_aload_n rfl rfl rfl) ?_
      refine Rk.tr (F1 := (106, 19, _, _)) (x_aload rfl rfl rfl) ?_
      refine Rk.tr (F1 := (106, 22, _, _)) (x_getf rfl rfl a1.1 rfl) ?_
      refine Rk.tr (F1 := (106, 23, _, _)) (x_iload_n rfl rfl) ?_
      refine Rk.tr (F1 := (106, 26, _, _)) (x_callv (As := [_, _]) rfl rfl rfl (Or.inr rfl) rfl rfl x1 (by decide) rfl (Nat.le_of_ble_eq_true rfl) w10 rfl) ?_
      refine Rk.tr (F1 := (106, 30, _, _)) (x_goto rfl rfl) ?_
      refine Rk.tr (F1 := (106, 32, [_, _, _, _, _, _, _, _, _], _)) (x_istore (i := 5) rfl (Nat.le_of_ble_eq_true rfl)) ?_
      refine Rk.tr (F1 := (106, 34, _, _)) (x_iload rfl rfl) ?_
      refine Rk.tr (F1 := (106, 37, _, _)) (x_ifF rfl (tg := 39) rfl (show ¬ (0 : Int32) ≤ -1 by decide)) ?_
      refine Rk.tr (F1 := (106, 38, _, _)) (x_iconst rfl) ?_
      exact Rk.end rfl (Or.inr (Or.inl ⟨rfl, _, .boolean, rfl, rfl, rfl, rfl⟩))
end M39
