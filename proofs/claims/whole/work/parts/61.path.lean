/-! ===== the class: the path of a pass, and where a function stands ===== -/
/-- the rows of the path below the stack's entries -/
def PthR (pf : Nat → Value) (lf : Nat → Int32) : ES → Nat → Prop
  | [], d => d = 0
  | (a, q) :: s, d => (q = [] ∧ PthR pf lf s d) ∨ (q ≠ [] ∧ ∃ d', d = d' + 1 ∧ pf d' = .ref a ∧ lf d' = nI (q.length - 1) ∧ PthR pf lf s d')
theorem PthR_mono {pf pf' : Nat → Value} {lf lf' : Nat → Int32} : ∀ {s : ES} {d : Nat}, PthR pf lf s d → (∀ k, k < d → pf' k = pf k ∧ lf' k = lf k) → PthR pf' lf' s d
  | [], d, h, _ => h
  | (a, q) :: s, d, h, k => by
    rcases h with ⟨h1, h2⟩ | ⟨h1, d', h2, h3, h4, h5⟩
    · exact Or.inl ⟨h1, PthR_mono h2 k⟩
    · exact Or.inr ⟨h1, d', h2, by rw [(k d' (by omega)).1]; exact h3, by rw [(k d' (by omega)).2]; exact h4, PthR_mono h5 (fun j hj => k j (by omega))⟩
theorem PthR_det {pf : Nat → Value} {lf : Nat → Int32} : ∀ {s : ES} {d d' : Nat}, PthR pf lf s d → PthR pf lf s d' → d = d'
  | [], d, d', h, h' => h.trans h'.symm
  | (a, q) :: s, d, d', h, h' => by
    rcases h with ⟨h1, h2⟩ | ⟨h1, e, h2, h3, h4, h5⟩ <;> rcases h' with ⟨k1, k2⟩ | ⟨k1, e', k2, k3, k4, k5⟩
    · exact PthR_det h2 k2
    · exact absurd h1 k1
    · exact absurd k1 h1
    · rw [h2, k2, PthR_det h5 k5]
theorem PthR_split {pf : Nat → Value} {lf : Nat → Int32} {c : Nat} {q : List Nat} {sc : ES} (hq : q ≠ []) : ∀ {u : ES} {D : Nat}, PthR pf lf (u ++ (c, q) :: sc) D → ∃ L, L < D ∧ pf L = .ref c ∧ lf L = nI (q.length - 1) ∧ PthR pf lf sc L ∧ ∀ (lf' : Nat → Int32) (q' : List Nat), q' ≠ [] → (∀ k, k ≠ L → lf' k = lf k) → lf' L = nI (q'.length - 1) → PthR pf lf' (u ++ (c, q') :: sc) D
  | [], D, h => by
    rcases h with ⟨h1, -⟩ | ⟨-, d', h2, h3, h4, h5⟩
    · exact absurd h1 hq
    · refine ⟨d', by omega, h3, h4, h5, fun lf' q' hq' hk hl => Or.inr ⟨hq', d', h2, h3, hl, PthR_mono h5 (fun k hk' => ⟨rfl, hk k (by omega)⟩)⟩⟩
  | (b, p) :: u, D, h => by
    rcases h with ⟨h1, h2⟩ | ⟨h1, d', h2, h3, h4, h5⟩
    · obtain ⟨L, l1, l2, l3, l4, l5⟩ := PthR_split hq h2
      exact ⟨L, l1, l2, l3, l4, fun lf' q' hq' hk hl => Or.inl ⟨h1, l5 lf' q' hq' hk hl⟩⟩
    · obtain ⟨L, l1, l2, l3, l4, l5⟩ := PthR_split hq h5
      exact ⟨L, by omega, l2, l3, l4, fun lf' q' hq' hk hl => Or.inr ⟨h1, d', h2, h3, by rw [hk d' (by omega)]; exact h4, l5 lf' q' hq' hk hl⟩⟩
theorem dec_uniq {c : Nat} {q q' : List Nat} {sc sc' : ES} : ∀ {u u' : ES}, u ++ (c, q) :: sc = u' ++ (c, q') :: sc' → ((u ++ (c, q) :: sc).map Prod.fst).Nodup → u = u' ∧ q = q' ∧ sc = sc'
  | [], [], h, _ => by
    simp at h
    exact ⟨rfl, h.1, h.2⟩
  | [], e :: u', h, nd => by
    exfalso
    rw [h] at nd
    have h' : (c, q) :: sc = e :: (u' ++ (c, q') :: sc') := h
    rw [List.cons.injEq] at h'
    rw [← h'.1] at nd
    simp at nd
  | e :: u, [], h, nd => by
    exfalso
    have h' : e :: (u ++ (c, q) :: sc) = (c, q') :: sc' := h
    rw [List.cons.injEq] at h'
    rw [h'.1] at nd
    simp at nd
  | e :: u, e' :: u', h, nd => by
    have h' : e :: (u ++ (c, q) :: sc) = e' :: (u' ++ (c, q') :: sc') := h
    rw [List.cons.injEq] at h'
    have nd' : (e.1 :: (u ++ (c, q) :: sc).map Prod.fst).Nodup := nd
    obtain ⟨k1, k2, k3⟩ := dec_uniq h'.2 (List.nodup_cons.mp nd').2
    exact ⟨by rw [h'.1, k1], k2, k3⟩
/-- rows that are closed within a stretch -/
theorem WA_cl {G : PG} : ∀ {Q : List AI} {u s m : ES}, u ≠ [] → closes u.length (AP Q) → WA G (u ++ s) Q m → m = s ∧ WA G u Q []
  | [], u, s, m, hu, hc, h => hc.elim
  | (it, x) :: Q, [], s, m, hu, hc, h => absurd rfl hu
  | (it, x) :: Q, (a, p) :: u, s, m, hu, hc, h => by
    have hc' : (if it.1 = 9 then (if ((a, p) :: u).length = 1 then AP Q = [] else closes (((a, p) :: u).length - 1) (AP Q)) else closes (((a, p) :: u).length + irw it) (AP Q)) := hc
    rcases h with ⟨h9, hx, hg, h⟩ | ⟨h9, rs, hg, hl, h⟩
    · rw [if_pos h9] at hc'
      by_cases h1 : u = []
      · rw [h1, if_pos (by rfl)] at hc'
        have : Q = [] := by
          cases Q with
          | nil => rfl
          | cons _ _ => cases hc'
        rw [h1] at h
        rw [this] at h ⊢
        exact ⟨h.symm, by rw [h1]; exact Or.inl ⟨h9, hx, hg, rfl⟩⟩
      · rw [if_neg (by simp; exact h1)] at hc'
        obtain ⟨k1, k2⟩ := WA_cl h1 hc' h
        exact ⟨k1, Or.inl ⟨h9, hx, hg, k2⟩⟩
    · rw [if_neg h9] at hc'
      have h' : WA G ((rs.map (fun r => (r, [])) ++ (a, p ++ [x]) :: u) ++ s) Q m := by simpa using h
      obtain ⟨k1, k2⟩ := WA_cl (by simp) (by simp only [List.length_append, List.length_map, List.length_cons] at hc' ⊢; rw [hl, show irw it + (u.length + 1) = u.length + 1 + irw it by omega]; exact hc') h'
      exact ⟨k1, Or.inr ⟨h9, rs, hg, hl, k2⟩⟩
def prs (P : List It) : List Int32 := P.flatMap (fun it => if it.1 = 2 then [it.2.2.1] else [])
/-- a name that is seen is a parameter, or bound in an open row -/
def ScR (G : PG) (Pr : List Int32) : List (List Int32) → ES → Prop
  | [], [] => True
  | e :: es, (c, q) :: s => (∀ f ∈ e, f ∈ Pr ∨ ∃ en ∈ (c, q) :: s, ∃ x ∈ en.2, ∃ it rs, G.2 x = some (it, rs) ∧ it.2.1 = f) ∧ ScR G Pr es s
  | _, _ => False
theorem ScR_go {G : PG} {Pr : List Int32} : ∀ {Q : List AI} {s s' : ES} {es : List (List Int32)}, WA G s Q s' → ScR G Pr es s → (∀ f ∈ prs (AP Q), f ∈ Pr) → ScR G Pr (rnk es (AP Q)) s'
  | [], s, s', es, h, k, _ => by cases h; exact k
  | (it, x) :: Q, [], s', es, h, k, _ => h.elim
  | (it, x) :: Q, (a, p) :: s, s', [], h, k, _ => k.elim
  | (it, x) :: Q, (a, p) :: s, s', e :: es, h, k, hp => by
    have hp1 : ∀ f ∈ prs (AP Q), f ∈ Pr := fun f hf => hp f (List.mem_append_right _ hf)
    show ScR G Pr (rnk (scn e es it) (AP Q)) s'
    rcases h with ⟨h9, hx, hg, h⟩ | ⟨h9, rs, hg, hl, h⟩
    · refine ScR_go h ?_ hp1
      unfold scn
      rw [if_pos h9]
      exact k.2
    · refine ScR_go h ?_ hp1
      have up : ∀ f, (∃ en ∈ (a, p) :: s, ∃ x ∈ en.2, ∃ it rs, G.2 x = some (it, rs) ∧ it.2.1 = f) → ∃ en ∈ (a, p ++ [x]) :: s, ∃ x ∈ en.2, ∃ it rs, G.2 x = some (it, rs) ∧ it.2.1 = f := by
        rintro f ⟨en, m, z, mz, kz⟩
        rcases List.mem_cons.mp m with m | m
        · rw [m] at mz
          exact ⟨_, List.mem_cons_self, z, List.mem_append_left _ mz, kz⟩
        · exact ⟨en, List.mem_cons_of_mem _ m, z, mz, kz⟩
      have new : ∃ en ∈ (a, p ++ [x]) :: s, ∃ y ∈ en.2, ∃ it' rs, G.2 y = some (it', rs) ∧ it'.2.1 = it.2.1 := ⟨_, List.mem_cons_self, x, by simp, it, rs, hg, rfl⟩
      have e1 : ∀ f ∈ e, f ∈ Pr ∨ ∃ en ∈ (a, p ++ [x]) :: s, ∃ x ∈ en.2, ∃ it rs, G.2 x = some (it, rs) ∧ it.2.1 = f := fun f hf => (k.1 f hf).imp id (up f)
      have e2 : ∀ f ∈ it.2.1 :: e, f ∈ Pr ∨ ∃ en ∈ (a, p ++ [x]) :: s, ∃ x ∈ en.2, ∃ it rs, G.2 x = some (it, rs) ∧ it.2.1 = f := fun f hf => by
        rcases List.mem_cons.mp hf with hf | hf
        · rw [hf]; exact Or.inr new
        · exact e1 f hf
      have more : ∀ (c : Nat) (s0 : ES) (f : Int32), (∃ en ∈ s0, ∃ x ∈ en.2, ∃ it rs, G.2 x = some (it, rs) ∧ it.2.1 = f) → ∃ en ∈ ((c, []) : Nat × List Nat) :: s0, ∃ x ∈ en.2, ∃ it rs, G.2 x = some (it, rs) ∧ it.2.1 = f := fun c s0 f ⟨en, m, kk⟩ => ⟨en, List.mem_cons_of_mem _ m, kk⟩
      unfold scn
      rw [if_neg h9]
      by_cases h2 : it.1 = 2
      · rw [if_pos h2]
        have hr : irw it = 1 := by unfold irw; rw [h2]; rfl
        obtain ⟨r1, er⟩ : ∃ r1, rs = [r1] := by
          match rs, hl.trans hr with
          | [r1], _ => exact ⟨r1, rfl⟩
        rw [er]
        refine ⟨fun f hf => ?_, e2, k.2⟩
        rcases List.mem_cons.mp hf with hf | hf
        · left
          refine hp f ?_
          rw [hf]
          refine List.mem_append_left _ ?_
          simp only [h2, if_true]
          exact List.mem_singleton.mpr rfl
        · exact (e1 f hf).imp id (more r1 _ f)
      · rw [if_neg h2]
        by_cases h3 : it.1 = 3
        · rw [if_pos h3]
          have hr : irw it = 0 := by unfold irw; rw [h3]; rfl
          have er : rs = [] := List.length_eq_zero_iff.mp (hl.trans hr)
          rw [er]
          exact ⟨e2, k.2⟩
        · rw [if_neg h3]
          by_cases h5 : it.1 = 5
          · rw [if_pos h5]
            have hr : irw it = 0 := by unfold irw; rw [h5]; rfl
            have er : rs = [] := List.length_eq_zero_iff.mp (hl.trans hr)
            rw [er]
            exact ⟨e2, k.2⟩
          · rw [if_neg h5]
            obtain ⟨-, hr, -⟩ := if_kd h2 h3 h5 h9
            obtain ⟨r1, r2, er⟩ := two_of (hl.trans hr)
            rw [er]
            exact ⟨fun f hf => (e1 f hf).imp id (fun z => more r1 _ f (more r2 _ f z)), fun f hf => (e1 f hf).imp id (more r2 _ f), e2, k.2⟩
theorem prs_dfs (P : List It) : ∀ f ∈ prs P, f ∈ dfs P := fun f hf => by
  obtain ⟨it, m, k⟩ := List.mem_flatMap.mp hf
  by_cases h2 : it.1 = 2
  · rw [if_pos h2] at k
    refine List.mem_flatMap.mpr ⟨it, m, ?_⟩
    unfold idf
    rw [if_neg (by omega), if_pos h2]
    exact List.mem_cons_of_mem _ k
  · rw [if_neg h2] at k; cases k
/-- a function's name is no parameter -/
theorem prs_no {P1 P2 : List It} {F : It} (hF : F.1 = 2) (nd : (dfs (P1 ++ F :: P2)).Nodup) : F.2.1 ∉ prs (P1 ++ F :: P2) := fun hf => by
  have hid : idf F = [F.2.1, F.2.2.1] := by unfold idf; rw [if_neg (by omega), if_pos hF]
  rw [dfs_app, dfs_cons, hid] at nd
  obtain ⟨-, n2, n3⟩ := List.nodup_append.mp nd
  have hf' : F.2.1 ∈ prs P1 ++ ([F.2.2.1] ++ prs P2) := by
    have : prs (P1 ++ F :: P2) = prs P1 ++ ([F.2.2.1] ++ prs P2) := by
      unfold prs
      rw [List.flatMap_append, List.flatMap_cons, if_pos hF]
    rw [← this]; exact hf
  rcases List.mem_append.mp hf' with h | h
  · exact n3 _ (prs_dfs _ _ h) _ List.mem_cons_self rfl
  · obtain ⟨m1, m2⟩ := List.nodup_cons.mp n2
    rcases List.mem_append.mp h with h | h
    · apply m1
      rw [List.mem_singleton.mp h]
      exact List.mem_cons_self
    · exact m1 (List.mem_cons_of_mem _ (prs_dfs _ _ h))
/-- the parameter is used in the function's row alone -/
theorem inl_nouse {A1 X A2 B : List It} {F r it : It} {b : Int32 × Int32} (hI : Inv ((A1 ++ F :: ((X ++ [r]) ++ A2)) ++ it :: B)) (hF : F.1 = 2) (hX : closes 1 (X ++ [r])) :
    A1.map (isb F.2.2.1 b) = A1 ∧ (A2 ++ it :: B).map (isb F.2.2.1 b) = A2 ++ it :: B := by
  have eA : (A1 ++ F :: ((X ++ [r]) ++ A2)) ++ it :: B = A1 ++ F :: ((X ++ [r]) ++ (A2 ++ it :: B)) := by simp
  rw [eA] at hI
  have hN := hI.2.1
  rw [dfs_app, dfs_cons, dfs_app] at hN
  have hidF : idf F = [F.2.1, F.2.2.1] := by unfold idf; rw [if_neg (by omega), if_pos hF]
  rw [hidF] at hN
  obtain ⟨N1, N2, N3⟩ := List.nodup_append.mp hN
  have p1 : F.2.2.1 ∉ dfs A1 := fun z => N3 _ z F.2.2.1 (by simp) rfl
  have p2 : F.2.2.1 ∉ dfs (A2 ++ it :: B) := fun z => by
    obtain ⟨-, n2⟩ := List.nodup_cons.mp N2
    exact (List.nodup_cons.mp n2).1 (show F.2.2.1 ∈ [] ++ (dfs (X ++ [r]) ++ dfs (A2 ++ it :: B)) from List.mem_append_right _ (List.mem_append_right _ z))
  have pf : F.2.2.1 ≠ F.2.1 := fun z => by
    obtain ⟨n1, -⟩ := List.nodup_cons.mp N2
    apply n1
    rw [z]
    exact List.mem_cons_self
  refine ⟨Sco_nouse hI.1 (fun e he hn => by rw [List.mem_singleton.mp he] at hn; cases hn) p1, ?_⟩
  obtain ⟨e0, stk0, hr0, -, hs0⟩ := Sco_at hI.1
  have eF : scn e0 stk0 F = (F.2.2.1 :: e0) :: (F.2.1 :: e0) :: stk0 := by
    unfold scn
    rw [if_neg (by omega), if_pos hF]
  rw [eF] at hs0
  obtain ⟨X', r', C', y1, y2, y3, y4, y5⟩ := Sco_row1 hs0
  obtain ⟨q1, q2, q3⟩ := row1_eq y1 hX y3
  subst q1 q2 q3
  have pr0 := fresh_rnk p1
  rw [hr0] at pr0
  refine Sco_nouse (B := []) (stk := (F.2.1 :: e0) :: stk0) (by rw [List.append_nil]; exact y5) (fun e he hn => ?_) p2
  rcases List.mem_cons.mp he with he | he
  · rw [he] at hn
    rcases List.mem_cons.mp hn with hn | hn
    · exact pf hn
    · exact pr0 e0 List.mem_cons_self hn
  · exact pr0 e (List.mem_cons_of_mem _ he) hn
section M38
variable {E : PE} {d pz pa pl y root st : Nat} {nn nm : Int32} {h : PH} {O : Nat → Nat × Nat} {G : PG} {pf : Nat → Value} {lf c : Nat → Int32}
theorem lp_level (hG : GH E h O G) (hP : PsH pz pa pl y root st nn h O pf lf c) {y2 : Int32} : ∀ (s : ES) (D : Nat), PthR pf lf s D → D ≤ 40 → (∀ e ∈ s, ∃ bs r, G.1 e.1 = some (bs, r) ∧ ∀ b ∈ bs, ∃ it rs, G.2 b = some (it, rs)) →
    (∃ (u : ES) (b : Nat) (q : List Nat) (sc : ES) (L : Nat) (bs : List Nat) (r : Int32 × Int32) (k x : Nat) (it : It) (rs : List Nat), s = u ++ (b, q) :: sc ∧ q ≠ [] ∧ PthR pf lf sc L ∧ L < D ∧ pf L = .ref b ∧ G.1 b = some (bs, r) ∧ bs[k]? = some x ∧ G.2 x = some (it, rs) ∧ it.2.1 = nm ∧ Rn E (d + 3) 82 [.ref b, .int nm] h (some (.int (nI k))) h ∧ Rk E (d + 4) (107, 2, [some (.ref pz), some (.int nm), some (.int y2), some (.int (nI D - 1))], []) h (some (.int (nI L))) h) ∨
    ((∀ e ∈ s, e.2 ≠ [] → ∀ bs r, G.1 e.1 = some (bs, r) → ∀ x ∈ bs, ∀ it rs, G.2 x = some (it, rs) → it.2.1 ≠ nm) ∧ Rk E (d + 4) (107, 2, [some (.ref pz), some (.int nm), some (.int y2), some (.int (nI D - 1))], []) h (some (.int (-1))) h) := by
  obtain ⟨x1, x2, x3, x4, x5, x6, x7⟩ := id hP
  intro s
  induction s with
  | nil =>
    intro D hD _ _
    right
    have hD : D = 0 := hD
    subst hD
    refine ⟨fun e he => absurd he (List.not_mem_nil), ?_⟩
    refine Rk.tr (F1 := (107, 3, _, _)) (x_iload_n rfl rfl) ?_
    refine Rk.tr (F1 := (107, 27, _, _)) (x_ifT rfl (tg := 27) rfl (show (nI 0 - 1 : Int32) < 0 by decide)) ?_
    refine Rk.tr (F1 := (107, 28, _, _)) (x_iconst rfl) ?_
    exact Rk.end rfl (Or.inr (Or.inl ⟨rfl, _, .int, rfl, rfl, rfl, rfl⟩))
  | cons e s ih =>
    obtain ⟨a, q⟩ := e
    intro D hD h40 hk
    rcases hD with ⟨h1, h2⟩ | ⟨h1, D', h2, h3, h4, h5⟩
    · rcases ih D h2 h40 (fun e he => hk e (List.mem_cons_of_mem _ he)) with ⟨u, b, q', sc, L, bs, r, k, x, it, rs, z0, z⟩ | ⟨z1, z2⟩
      · exact Or.inl ⟨(a, q) :: u, b, q', sc, L, bs, r, k, x, it, rs, by rw [z0]; rfl, z⟩
      · refine Or.inr ⟨fun e he hne => ?_, z2⟩
        rcases List.mem_cons.mp he with he | he
        · rw [he] at hne; exact absurd h1 hne
        · exact z1 e he hne
    · obtain ⟨bs, r, ga, gb⟩ := hk (a, q) List.mem_cons_self
      subst h2
      have em : nI (D' + 1) - 1 = nI D' := by rw [nI_m1 (by omega)]; rfl
      have hpa : (par pf)[D']? = some (.ref a) := (par_at (by omega)).trans (congrArg some h3)
      obtain ⟨l, e0, cap, x0, q1, q2, q3, -⟩ := hG.2.2.1 a bs r ga
      have hln := q3.len
      rw [em]
      rcases c_place (E := E) (d := d) (nm := nm) hG ga gb with ⟨k, x, it, rs, p1, p2, p3, p4⟩ | ⟨p1, p2⟩
      · left
        refine ⟨[], a, q, s, D', bs, r, k, x, it, rs, rfl, h1, h5, by omega, h3, ga, p1, p2, p3, p4, ?_⟩
        have hkl : k < bs.length := (List.getElem?_eq_some_iff.mp p1).1
        refine Rk.tr (F1 := (107, 3, _, _)) (x_iload_n rfl rfl) ?_
        refine Rk.tr (F1 := (107, 6, _, _)) (x_ifF rfl (tg := 27) rfl (show ¬ nI D' < nI 0 from Int32.not_lt.mpr (nI_le (by omega) (by omega)))) ?_
        refine Rk.tr (F1 := (107, 7, _, _)) (x_aload_n rfl rfl rfl) ?_
        refine Rk.tr (F1 := (107, 10, _, _)) (x_getf rfl rfl x1 rfl) ?_
        refine Rk.tr (F1 := (107, 11, _, _)) (x_iload_n rfl rfl) ?_
        refine Rk.tr (F1 := (107, 12, _, _)) (x_aald (n := D') rfl x2 rfl rfl rfl (by omega) hpa) ?_
        refine Rk.tr (F1 := (107, 13, _, _)) (x_iload_n rfl rfl) ?_
        refine Rk.tr (F1 := (107, 16, _, _)) (x_callv (As := [_]) rfl rfl rfl (Or.inl rfl) rfl rfl q1 (by decide) rfl (Nat.le_of_ble_eq_true rfl) p4 rfl) ?_
        refine Rk.tr (F1 := (107, 19, _, _)) (x_ifF rfl (tg := 21) rfl (show ¬ nI k < nI 0 from Int32.not_lt.mpr (nI_le (by omega) (by omega)))) ?_
        refine Rk.tr (F1 := (107, 20, _, _)) (x_iload_n rfl rfl) ?_
        exact Rk.end rfl (Or.inr (Or.inl ⟨rfl, _, .int, rfl, rfl, rfl, rfl⟩))
      · have go : ∀ v, Rk E (d + 4) (107, 2, [some (.ref pz), some (.int nm), some (.int y2), some (.int (nI D' - 1))], []) h v h → Rk E (d + 4) (107, 2, [some (.ref pz), some (.int nm), some (.int y2), some (.int (nI D'))], []) h v h := fun v kk => by
          have e2 : nI D' - 1 = nI D' + Int32.ofInt (-1) := by rw [Int32.sub_eq_add_neg]; rfl
          rw [e2] at kk
          refine Rk.tr (F1 := (107, 3, _, _)) (x_iload_n rfl rfl) ?_
          refine Rk.tr (F1 := (107, 6, _, _)) (x_ifF rfl (tg := 27) rfl (show ¬ nI D' < nI 0 from Int32.not_lt.mpr (nI_le (by omega) (by omega)))) ?_
          refine Rk.tr (F1 := (107, 7, _, _)) (x_aload_n rfl rfl rfl) ?_
          refine Rk.tr (F1 := (107, 10, _, _)) (x_getf rfl rfl x1 rfl) ?_
          refine Rk.tr (F1 := (107, 11, _, _)) (x_iload_n rfl rfl) ?_
          refine Rk.tr (F1 := (107, 12, _, _)) (x_aald (n := D') rfl x2 rfl rfl rfl (by omega) hpa) ?_
          refine Rk.tr (F1 := (107, 13, _, _)) (x_iload_n rfl rfl) ?_
          refine Rk.tr (F1 := (107, 16, _, _)) (x_callv (As := [_]) rfl rfl rfl (Or.inl rfl) rfl rfl q1 (by decide) rfl (Nat.le_of_ble_eq_true rfl) p2 rfl) ?_
          refine Rk.tr (F1 := (107, 21, _, _)) (x_ifT rfl (tg := 21) rfl (show (-1 : Int32) < 0 by decide)) ?_
          refine Rk.tr (F1 := (107, 24, [_, _, _, _], _)) (x_iinc (i := 3) rfl rfl) ?_
          refine Rk.tr (F1 := (107, 2, _, _)) (x_goto rfl rfl) ?_
          exact kk
        rcases ih D' h5 (by omega) (fun e he => hk e (List.mem_cons_of_mem _ he)) with ⟨u, b, q', sc, L, bs', r', k, x, it, rs, z0, z1, z2, z3, z4, z5, z6, z7, z8, z9, z10⟩ | ⟨z1, z2⟩
        · exact Or.inl ⟨(a, q) :: u, b, q', sc, L, bs', r', k, x, it, rs, by rw [z0]; rfl, z1, z2, by omega, z4, z5, z6, z7, z8, z9, go _ z10⟩
        · refine Or.inr ⟨fun e he hne bs' r' g' => ?_, go _ z2⟩
          rcases List.mem_cons.mp he with he | he
          · rw [he] at g'
            rw [ga] at g'; cases g'
            exact p1
          · exact z1 e he hne bs' r' g'
end M38
