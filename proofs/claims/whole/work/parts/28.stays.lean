/-! ===== a step keeps what holds of a program, put together ===== -/
theorem rnk_two : ∀ (U V : List It) (s : List (List Int32)), rnk s (U ++ V) = rnk (rnk s U) V
  | [], V, s => rfl
  | u :: U, V, [] => by
    show ([] : List (List Int32)) = rnk [] V
    cases V <;> rfl
  | u :: U, V, s0 :: s => rnk_two U V _
theorem Sco_row1 {e : List Int32} {s : List (List Int32)} {B : List It} (h : Sco (e :: s) B) : ∃ (X : List It) (r : It) (C : List It), B = (X ++ [r]) ++ C ∧ r.1 = 9 ∧ closes 1 (X ++ [r]) ∧ Sco [e] (X ++ [r]) ∧ Sco s C := by
  obtain ⟨Q, C, q1, q2, q3, q4⟩ := Sco_rows B [e] s (by simp) h
  obtain ⟨X, r, x1, x2⟩ := closes_last Q _ q2
  subst x1
  exact ⟨X, r, C, q1, x2, q2, q3, q4⟩
theorem row1_eq {X X' C C' : List It} {r r' : It} (h : (X ++ [r]) ++ C = (X' ++ [r']) ++ C') (k1 : closes 1 (X ++ [r])) (k2 : closes 1 (X' ++ [r'])) : X = X' ∧ r = r' ∧ C = C' := by
  have e1 := rwl_of _ C _ k1
  have e2 := rwl_of _ C' _ k2
  rw [h, e2] at e1
  rw [e1] at h
  have h3 := List.append_cancel_left h
  have h4 := List.append_inj_right' e1 rfl
  have h5 := List.append_inj_left' e1 rfl
  simp at h4
  exact ⟨h5.symm, h4.symm, h3⟩
theorem Sco_glue2 : ∀ {X Y B : List It} {es stk : List (List Int32)}, Sco es (X ++ Y) → Y ≠ [] → Sco (rnk es X ++ stk) B → Sco (es ++ stk) (X ++ B)
  | [], Y, B, es, stk, _, _, h => h
  | a :: X, Y, B, [], stk, h, _, _ => h.elim
  | a :: X, Y, B, e :: es, stk, h, hy, h2 => by
    refine ⟨h.1, ?_⟩
    show Sco (scn e (es ++ stk) a) (X ++ B)
    rw [scn_app]
    exact Sco_glue2 (X := X) (Y := Y) h.2 hy h2
/-- a new name is in none of the open rows -/
theorem fresh_rnk {A : List It} {v : Int32} (h : v ∉ dfs A) : ∀ e ∈ rnk [[]] A, v ∉ e := fun e he hv => by
  rcases rnk_in he hv with ⟨e0, h0, h1⟩ | h1
  · rw [List.mem_singleton.mp h0] at h1
    cases h1
  · exact h h1
theorem Inv_stay {A B P : List It} (hI : Inv (A ++ B)) (hs : Sco [[]] P) (hd : ∃ L : List Int32, (dfs P).Perm L ∧ L.Sublist (dfs (A ++ B))) (ht : tsum P ≤ tsum (A ++ B)) : Inv P := by
  obtain ⟨L, l1, l2⟩ := hd
  exact ⟨hs, l1.nodup_iff.mpr (l2.nodup hI.2.1), Nat.le_trans ht hI.2.2⟩
theorem stp_inv_fold {A B : List It} {it : It} {b : Int32} (hI : Inv (A ++ it :: B)) (h5 : it.1 = 5) : Inv (A.map (isb it.2.1 (0, b)) ++ B.map (isb it.2.1 (0, b))) := by
  obtain ⟨e, stk, hr, hs, hB⟩ := Sco_at hI.1
  have hN := hI.2.1
  rw [dfs_app, dfs_cons] at hN
  have hid : idf it = [it.2.1] := by unfold idf; rw [if_neg (by omega), if_neg (by omega)]
  rw [hid] at hN
  have nA : it.2.1 ∉ dfs A := fun z => (List.nodup_append.mp hN).2.2 _ z _ (by simp) rfl
  have nB : it.2.1 ∉ dfs B := fun z => (List.nodup_append.mp (List.nodup_append.mp hN).2.1).2.2 _ (by simp) _ z rfl
  have hf := fresh_rnk nA
  rw [hr] at hf
  have e1 : scn e stk it = (it.2.1 :: e) :: stk := by
    unfold scn
    rw [if_neg (by omega), if_neg (by omega), if_neg (by omega), if_pos h5]
  rw [e1] at hB
  have hA : A.map (isb it.2.1 (0, b)) = A := Sco_nouse hI.1 (fun e he => by rw [List.mem_singleton.mp he]; simp) nA
  have hB2 := Sco_sub (nm := it.2.1) (b := (0, b)) (stk' := e :: stk) hB ⟨⟨fun x hx hn => (List.mem_cons.mp hx).resolve_left hn, fun _ => Or.inl rfl⟩, Rls_rf (fun e' h' => hf e' (List.mem_cons_of_mem _ h'))⟩ nB
  rw [hA]
  refine Inv_stay hI (Sco_glue hI.1 (by rw [hr]; exact hB2)) ⟨_, List.Perm.refl _, ?_⟩ ?_
  · rw [dfs_app, isb_dfs, dfs_app, dfs_cons]
    exact List.Sublist.append (List.Sublist.refl _) (List.sublist_append_right _ _)
  · rw [tsum_app, tsum_app, isb_sum]
    simp only [tsum]
    omega
theorem stp_inv_drop {A X C : List It} {it r : It} (hI : Inv (A ++ it :: ((X ++ [r]) ++ C))) (h2 : it.1 = 2) (hX : closes 1 (X ++ [r])) (hc : occ it.2.1 (A ++ it :: ((X ++ [r]) ++ C)) = 0) : Inv (A ++ C) := by
  obtain ⟨e, stk, hr, hs, hB⟩ := Sco_at hI.1
  have hN := hI.2.1
  rw [dfs_app, dfs_cons, dfs_app] at hN
  have hid : idf it = [it.2.1, it.2.2.1] := by unfold idf; rw [if_neg (by omega), if_pos h2]
  rw [hid] at hN
  have nA : it.2.1 ∉ dfs A := fun z => (List.nodup_append.mp hN).2.2 _ z _ (by simp) rfl
  have nC : it.2.1 ∉ dfs C := fun z => (List.nodup_append.mp (List.nodup_append.mp hN).2.1).2.2 _ (by simp) _ (List.mem_append_right _ z) rfl
  have hf := fresh_rnk nA
  rw [hr] at hf
  have e1 : scn e stk it = (it.2.2.1 :: e) :: (it.2.1 :: e) :: stk := by
    unfold scn
    rw [if_neg (by omega), if_pos h2]
  rw [e1] at hB
  obtain ⟨X', r', C', y1, y2, y3, y4, y5⟩ := Sco_row1 hB
  obtain ⟨rfl, rfl, rfl⟩ := row1_eq y1 hX y3
  have o1 : occ it.2.1 C = 0 := by
    rw [occ_app] at hc
    simp only [occ] at hc
    rw [occ_app] at hc
    omega
  have hB2 := Sco_sub (nm := it.2.1) (b := (0, 0)) (stk' := e :: stk) y5 ⟨⟨fun x hx hn => (List.mem_cons.mp hx).resolve_left hn, fun _ => Or.inl rfl⟩, Rls_rf (fun e' h' => hf e' (List.mem_cons_of_mem _ h'))⟩ nC
  rw [occ0_map o1] at hB2
  refine Inv_stay hI (Sco_glue hI.1 (by rw [hr]; exact hB2)) ⟨_, List.Perm.refl _, ?_⟩ ?_
  · rw [dfs_app, dfs_app, dfs_cons, dfs_app]
    exact List.Sublist.append (List.Sublist.refl _) ((List.sublist_append_right _ _).trans (List.sublist_append_right _ _))
  · rw [tsum_app, tsum_app]
    simp only [tsum]
    rw [tsum_app]
    omega
/-- one row stands in the place of an item -/
theorem stp_inv_choose {A X C Z : List It} {it r : It} {e : List Int32} {stk : List (List Int32)} (hI : Inv (A ++ it :: Z)) (hr : rnk [[]] A = e :: stk) (h2 : it.1 ≠ 2) (h9 : it.1 ≠ 9) (r9 : r.1 = 9) (hX : Sco [e] (X ++ [r])) (hC : Sco ((it.2.1 :: e) :: stk) C) (hd : ((dfs X) ++ (dfs C)).Sublist (dfs Z)) (ht : tsum X + tsum C ≤ tsum Z) :
    Inv (A.map (isb it.2.1 r.2.2.2.1) ++ (X ++ C).map (isb it.2.1 r.2.2.2.1)) := by
  have hN := hI.2.1
  rw [dfs_app, dfs_cons] at hN
  have hid : idf it = [it.2.1] := by unfold idf; rw [if_neg h9, if_neg h2]
  rw [hid] at hN
  have nA : it.2.1 ∉ dfs A := fun z => (List.nodup_append.mp hN).2.2 _ z _ (by simp) rfl
  have nZ : it.2.1 ∉ dfs Z := fun z => (List.nodup_append.mp (List.nodup_append.mp hN).2.1).2.2 _ (by simp) _ z rfl
  have nX : it.2.1 ∉ dfs X := fun z => nZ (hd.subset (List.mem_append_left _ z))
  have nC : it.2.1 ∉ dfs C := fun z => nZ (hd.subset (List.mem_append_right _ z))
  have hf := fresh_rnk nA
  rw [hr] at hf
  obtain ⟨ec, k1, k2⟩ := Sco_row hX r9
  have hA : A.map (isb it.2.1 r.2.2.2.1) = A := Sco_nouse hI.1 (fun e he => by rw [List.mem_singleton.mp he]; simp) nA
  have hX2 : X.map (isb it.2.1 r.2.2.2.1) = X := Sco_nouse hX (fun e' he => by rw [List.mem_singleton.mp he]; exact hf e List.mem_cons_self) nX
  have hsub := rnk_last (s := []) (s' := []) k1
  have hB2 := Sco_sub (nm := it.2.1) (b := r.2.2.2.1) (stk' := ec :: stk) hC ⟨⟨fun x hx hn => hsub x ((List.mem_cons.mp hx).resolve_left hn), fun _ => k2⟩, Rls_rf (fun e' h' => hf e' (List.mem_cons_of_mem _ h'))⟩ nC
  rw [hA, List.map_append, hX2]
  refine Inv_stay hI (Sco_glue hI.1 (by rw [hr]; exact Sco_glue2 (es := [e]) hX (by simp) (by rw [k1]; exact hB2))) ⟨_, List.Perm.refl _, ?_⟩ ?_
  · rw [dfs_app, dfs_app, isb_dfs, dfs_app, dfs_cons]
    exact List.Sublist.append (List.Sublist.refl _) (hd.trans (List.sublist_append_right _ _))
  · rw [tsum_app, tsum_app, tsum_app, isb_sum]
    simp only [tsum]
    omega
theorem stp_inv_inl {A1 X A2 B : List It} {F r it : It} (hI : Inv ((A1 ++ F :: ((X ++ [r]) ++ A2)) ++ it :: B)) (h3 : it.1 = 3) (hF : F.1 = 2) (hFn : F.2.1 = it.2.2.2.1.2) (r9 : r.1 = 9) (hX : closes 1 (X ++ [r])) (ha : it.2.2.2.1.1 = 1) (hc : occ it.2.2.2.1.2 ((A1 ++ F :: ((X ++ [r]) ++ A2)) ++ it :: B) = 1) :
    Inv (((A1 ++ A2).map (isb F.2.2.1 it.2.2.2.2)).map (isb it.2.1 (sa F.2.2.1 it.2.2.2.2 r.2.2.2.1)) ++ ((X ++ B).map (isb F.2.2.1 it.2.2.2.2)).map (isb it.2.1 (sa F.2.2.1 it.2.2.2.2 r.2.2.2.1))) := by
  have eA : (A1 ++ F :: ((X ++ [r]) ++ A2)) ++ it :: B = A1 ++ F :: ((X ++ [r]) ++ (A2 ++ it :: B)) := by simp
  have hI0 := hI
  rw [eA] at hI hc
  have hat : it.2.2.2.1 = (1, F.2.1) := Prod.ext ha hFn.symm
  rw [← hFn] at hc
  have hN := hI.2.1
  rw [dfs_app, dfs_cons, dfs_app, dfs_app X, dfs_app A2, dfs_cons it] at hN
  have hidF : idf F = [F.2.1, F.2.2.1] := by unfold idf; rw [if_neg (by omega), if_pos hF]
  have hidr : dfs [r] = [] := by unfold dfs idf; simp [r9]
  have hidi : idf it = [it.2.1] := by unfold idf; rw [if_neg (by omega), if_neg (by omega)]
  rw [hidF, hidr, hidi, List.append_nil] at hN
  generalize hf : F.2.1 = f at hN hat hc
  generalize hp : F.2.2.1 = p at hN ⊢
  generalize hv : it.2.1 = v at hN ⊢
  generalize hb : it.2.2.2.2 = b at ⊢
  simp only [List.nodup_append, List.mem_append, List.mem_cons, List.not_mem_nil, or_false, List.nodup_cons, List.nodup_nil, and_true, not_false_eq_true] at hN
  obtain ⟨N1, ⟨nfp, ⟨NX, ⟨N2, ⟨-, NB, NvB'⟩, D2⟩, DX⟩, DF⟩, D1⟩ := hN
  have NvB : v ∉ dfs B := fun z => NvB' v rfl v z rfl
  have f1 : f ∉ dfs A1 := fun z => D1 f z f (Or.inl (Or.inl rfl)) rfl
  have p1 : p ∉ dfs A1 := fun z => D1 p z p (Or.inl (Or.inr rfl)) rfl
  have v1 : v ∉ dfs A1 := fun z => D1 v z v (Or.inr (Or.inr (Or.inr (Or.inl rfl)))) rfl
  have fX : f ∉ dfs X := fun z => DF f (Or.inl rfl) f (Or.inl z) rfl
  have pX : p ∉ dfs X := fun z => DF p (Or.inr rfl) p (Or.inl z) rfl
  have f2 : f ∉ dfs A2 := fun z => DF f (Or.inl rfl) f (Or.inr (Or.inl z)) rfl
  have p2 : p ∉ dfs A2 := fun z => DF p (Or.inr rfl) p (Or.inr (Or.inl z)) rfl
  have fv : f ≠ v := fun z => DF f (Or.inl rfl) v (Or.inr (Or.inr (Or.inl rfl))) z
  have pv : p ≠ v := fun z => DF p (Or.inr rfl) v (Or.inr (Or.inr (Or.inl rfl))) z
  have fB : f ∉ dfs B := fun z => DF f (Or.inl rfl) f (Or.inr (Or.inr (Or.inr z))) rfl
  have pB : p ∉ dfs B := fun z => DF p (Or.inr rfl) p (Or.inr (Or.inr (Or.inr z))) rfl
  have vX : v ∉ dfs X := fun z => DX v z v (Or.inr (Or.inl rfl)) rfl
  have v2 : v ∉ dfs A2 := fun z => D2 v z v (Or.inl rfl) rfl
  -- the stack at F
  obtain ⟨e0, stk0, hr0, -, hs0⟩ := Sco_at hI.1
  have eF : scn e0 stk0 F = (p :: e0) :: (f :: e0) :: stk0 := by
    unfold scn
    rw [if_neg (by omega), if_pos hF, hf, hp]
  rw [eF] at hs0
  obtain ⟨X', r', C', y1, y2, y3, y4, y5⟩ := Sco_row1 hs0
  obtain ⟨q1, q2, q3⟩ := row1_eq y1 hX y3
  subst q1 q2 q3
  have fr0 := fresh_rnk f1
  have pr0 := fresh_rnk p1
  have vr0 := fresh_rnk v1
  rw [hr0] at fr0 pr0 vr0
  -- f is used there alone
  have hi1 : 1 ≤ ioc it f 0 (iat it) := by
    have : iat it = 2 := by unfold iat; rw [h3]; rfl
    rw [this]
    simp only [ioc]
    rw [if_pos (show iatm it 0 = (1, f) from hat)]
    omega
  simp only [occ_app, occ] at hc
  have o2 : occ f A2 = 0 := by omega
  have oB : occ f B = 0 := by omega
  have hbn : b ≠ (1, f) := by
    intro z
    have : iat it = 2 := by unfold iat; rw [h3]; rfl
    rw [this] at hc
    simp only [ioc] at hc
    rw [if_pos (show iatm it 0 = (1, f) from hat), if_pos (show iatm it (0 + 1) = (1, f) from hb.trans z)] at hc
    omega
  have i2 : iat it = 2 := by unfold iat; rw [h3]; rfl
  -- without f
  have z1 := Sco_sub (nm := f) (b := (0, 0)) (stk' := e0 :: stk0) y5 ⟨⟨fun x hx hn => (List.mem_cons.mp hx).resolve_left hn, fun _ => Or.inl rfl⟩, Rls_rf (fun e' h' => fr0 e' (List.mem_cons_of_mem _ h'))⟩ (by
    rw [dfs_app, dfs_cons, hidi, hv]
    simp only [List.mem_append, List.mem_cons, List.not_mem_nil, or_false]
    rintro (z | z | z)
    · exact f2 z
    · exact fv z
    · exact fB z)
  rw [List.map_append, List.map_cons, occ0_map o2, occ0_map oB] at z1
  obtain ⟨eh, stkh, hrh, hsh, hBh⟩ := Sco_at z1
  have ebb : aok eh b := by
    have := hsh 1 (by show 1 < iat (isb f (0, 0) it); rw [show iat (isb f (0, 0) it) = iat it from (kd_eq rfl).2.1, i2]; decide)
    rw [isb_atm (by rw [i2]; decide), show iatm it 1 = b from hb] at this
    unfold sa at this
    rw [if_neg hbn] at this
    exact this
  have e9 : scn eh stkh (isb f (0, 0) it) = (v :: eh) :: stkh := by
    rw [isb_scn]
    unfold scn
    rw [if_neg (by omega), if_neg (by omega), if_pos h3, hv]
  rw [e9] at hBh
  -- what the APPLY sees
  obtain ⟨e, stk, hr, hs, -⟩ := Sco_at y5
  have hfe : f ∈ e := by
    have := hs 0 (by rw [i2]; decide)
    rw [show iatm it 0 = (1, f) from hat] at this
    rcases this with z | z
    · exact absurd z (show ¬ (1 : Int32) = 0 by decide)
    · exact z.2
  have sub0 : ∀ x ∈ e0, x ∈ e := by
    refine rnk_sees (f := f) (A := A2) (stk := (f :: e0) :: stk0) (fun e' he' hf' x hx => ?_) f2 e (by rw [hr]; exact List.mem_cons_self) hfe
    rcases List.mem_cons.mp he' with rfl | z
    · exact List.mem_cons_of_mem _ hx
    · exact absurd hf' (fr0 e' (List.mem_cons_of_mem _ z))
  have rr := Rls_rnk (nm := f) (b := (0, 0)) (A := A2) (stk := (f :: e0) :: stk0) (stk' := e0 :: stk0) ⟨⟨fun x hx hn => (List.mem_cons.mp hx).resolve_left hn, fun _ => Or.inl rfl⟩, Rls_rf (fun e' h' => fr0 e' (List.mem_cons_of_mem _ h'))⟩ f2
  rw [hr, hrh] at rr
  have subh : ∀ x ∈ e0, x ∈ eh := fun x hx => rr.1.1 x (sub0 x hx) (fun z => fr0 e0 List.mem_cons_self (z ▸ hx))
  -- fresh at the APPLY
  have frh : ∀ x, x ∉ dfs A1 → x ∉ dfs A2 → ∀ e' ∈ eh :: stkh, x ∉ e' := by
    intro x x1 x2 e' he' hx
    rw [← hrh] at he'
    rcases rnk_in he' hx with ⟨e1, g1, g2⟩ | g1
    · rw [← hr0] at g1
      exact fresh_rnk x1 e1 g1 g2
    · exact x2 g1
  -- the body
  have zX := Sco_sub (nm := p) (b := b) (stk' := [eh]) y4 ⟨⟨fun x hx hn => subh x ((List.mem_cons.mp hx).resolve_left hn), fun _ => ebb⟩, trivial⟩ (by rw [dfs_app, hidr, List.append_nil]; exact pX)
  rw [List.map_append, List.map_singleton] at zX
  obtain ⟨eb, k1, k2⟩ := Sco_row zX r9
  have hb2 : (isb p b r).2.2.2.1 = sa p b r.2.2.2.1 := isb_atm (it := r) (j := 0) (by unfold iat; rw [r9]; decide)
  rw [hb2] at k2
  generalize sa p b r.2.2.2.1 = b2 at k2 ⊢
  have hsub := rnk_last (s := []) (s' := []) k1
  have zB := Sco_sub (nm := v) (b := b2) (stk' := eb :: stkh) hBh ⟨⟨fun x hx hn => hsub x ((List.mem_cons.mp hx).resolve_left hn), fun _ => k2⟩, Rls_rf (fun e' h' => frh v v1 v2 e' (List.mem_cons_of_mem _ h'))⟩ NvB
  -- nothing else changes
  have m1 : ∀ (nm : Int32) (c : Int32 × Int32), nm ∉ dfs A1 → A1.map (isb nm c) = A1 := fun nm c hn => Sco_nouse hI.1 (fun e he => by rw [List.mem_singleton.mp he]; simp) hn
  have m2 : ∀ (nm : Int32) (c : Int32 × Int32), nm ∉ dfs A1 → nm ∉ dfs A2 → A2.map (isb nm c) = A2 := fun nm c hn hn2 => Sco_nouse z1 (fun e he => by rw [← hr0] at he; exact fresh_rnk hn e he) hn2
  have mB : B.map (isb p b) = B := by
    refine Sco_nouse (B := []) (by rw [List.append_nil]; exact hBh) (fun e' he' hx => ?_) pB
    rcases List.mem_cons.mp he' with z | z
    · rw [z] at hx
      rcases List.mem_cons.mp hx with z2 | z2
      · exact pv z2
      · exact frh p p1 p2 eh List.mem_cons_self z2
    · exact frh p p1 p2 e' (List.mem_cons_of_mem _ z) hx
  have mX : (X.map (isb p b)).map (isb v b2) = X.map (isb p b) := Sco_nouse zX (fun e' he => by rw [List.mem_singleton.mp he]; exact frh v v1 v2 eh List.mem_cons_self) (by rw [isb_dfs]; exact vX)
  have fin : ((A1 ++ A2).map (isb p b)).map (isb v b2) ++ ((X ++ B).map (isb p b)).map (isb v b2) = A1 ++ (A2 ++ (X.map (isb p b) ++ B.map (isb v b2))) := by
    rw [List.map_append, List.map_append, List.map_append, List.map_append, m1 p b p1, m1 v b2 v1, m2 p b p1 p2, m2 v b2 v1 v2, mB, mX, List.append_assoc]
  rw [fin]
  refine Inv_stay hI0 ?_ ⟨dfs A1 ++ (dfs X ++ (dfs A2 ++ dfs B)), ?_, ?_⟩ ?_
  · refine Sco_glue hI.1 ?_
    rw [hr0]
    refine Sco_glue z1 ?_
    rw [hrh]
    exact Sco_glue2 (es := [eh]) zX (by simp) (by rw [k1]; exact zB)
  · rw [dfs_app, dfs_app, dfs_app, isb_dfs, isb_dfs]
    refine List.Perm.append_left _ ?_
    rw [← List.append_assoc, ← List.append_assoc]
    exact List.Perm.append_right _ List.perm_append_comm
  · rw [eA, dfs_app, dfs_cons, dfs_app, dfs_app X, dfs_app A2, dfs_cons it, hidr, List.append_nil]
    refine List.Sublist.append (List.Sublist.refl _) (List.Sublist.trans ?_ (List.sublist_append_right _ _))
    exact List.Sublist.append (List.Sublist.refl _) (List.Sublist.append (List.Sublist.refl _) (List.sublist_append_right _ _))
  · rw [eA]
    simp only [tsum_app, tsum, isb_sum]
    omega
theorem stp_inv {A B A' B' : List It} {it : It} {w : Nat} (hI : Inv (A ++ it :: B)) (hs : stp A it B = some (w, A', B')) : Inv (A' ++ B') ∧ A'.length + B'.length ≤ A.length + B.length ∧ w < 4 := by
  rcases kd5 it.1 with h | h | h | h | ⟨n2, n3, n5, n9⟩
  · have hc : occ it.2.1 (A ++ it :: B) = 0 := Classical.byContradiction fun z => by
      unfold stp at hs
      rw [if_neg (by omega), if_neg (by omega), if_neg (by omega), if_pos h, if_neg z] at hs
      cases hs
    obtain ⟨X, r, C, rfl, x2, x3⟩ := Inv_fun hI h
    rw [stp_drop h x3 hc] at hs
    cases hs
    refine ⟨stp_inv_drop hI h x3 hc, ?_, by decide⟩
    simp only [List.length_append, List.length_cons, List.length_nil]
    omega
  · have hc : it.2.2.2.1.1 = 1 ∧ occ it.2.2.2.1.2 (A ++ it :: B) = 1 := Classical.byContradiction fun z => by
      unfold stp at hs
      rw [if_neg (by omega), if_neg (by omega), if_pos h, if_neg z] at hs
      cases hs
    obtain ⟨z1, z3⟩ := hc
    rcases inl_where (f := it.2.2.2.1.2) hI.1 hI.2.1 h (Prod.ext z1 rfl) with z | ⟨A1, F, X, r, A2, e1, e2, e3, e4, e5, e6, e7⟩
    · exfalso
      unfold stp at hs
      rw [if_neg (by omega), if_neg (by omega), if_pos h, if_pos ⟨z1, z3⟩, ffn_none (fun x hx => z x (List.mem_append_left _ hx))] at hs
      cases hs
    · subst e1
      rw [stp_inl h ⟨e2, e3⟩ e6 e5 z1 z3] at hs
      cases hs
      refine ⟨stp_inv_inl hI h e2 e3 e4 e5 z1 z3, ?_, by decide⟩
      simp only [List.length_append, List.length_cons, List.length_nil, List.length_map]
      omega
  · have hc : it.2.2.2.1.1 = 0 ∧ it.2.2.2.2.1 = 0 ∧ ¬ (it.2.2.1 = 3 ∧ it.2.2.2.2.2 = 0) := Classical.byContradiction fun z => by
      unfold stp at hs
      rw [if_neg (by omega), if_pos h, if_neg z] at hs
      cases hs
    unfold stp at hs
    rw [if_neg (by omega), if_pos h, if_pos hc] at hs
    cases hs
    refine ⟨stp_inv_fold hI h, ?_, by decide⟩
    simp only [List.length_map]
    omega
  · exfalso
    unfold stp at hs
    rw [if_pos h] at hs
    cases hs
  · have hc : it.2.2.2.1.1 = 0 := Classical.byContradiction fun z => by
      unfold stp at hs
      rw [if_neg n9, if_neg n5, if_neg n3, if_neg n2, if_neg z] at hs
      cases hs
    obtain ⟨e, stk, hr, hss, hB⟩ := Sco_at hI.1
    have e1 : scn e stk it = e :: e :: (it.2.1 :: e) :: stk := by
      unfold scn
      rw [if_neg n9, if_neg n2, if_neg n3, if_neg n5]
    rw [e1] at hB
    obtain ⟨X1, r1, C1, rfl, x2, x3, x4, x5⟩ := Sco_row1 hB
    obtain ⟨X2, r2, C, rfl, y2, y3, y4, y5⟩ := Sco_row1 x5
    rw [stp_if n2 n3 n5 n9 x3 y3 hc] at hs
    cases hs
    by_cases hz : it.2.2.2.1.2 = 0
    · simp only [if_pos hz]
      refine ⟨stp_inv_choose hI hr n2 n9 y2 y4 y5 ?_ ?_, ?_, by decide⟩
      · rw [dfs_app, dfs_app _ C, dfs_app X2]
        refine List.Sublist.trans ?_ (List.sublist_append_right _ _)
        exact List.Sublist.append (List.sublist_append_left _ _) (List.Sublist.refl _)
      · simp only [tsum_app]
        omega
      · simp only [List.length_append, List.length_cons, List.length_nil, List.length_map]
        omega
    · simp only [if_neg hz]
      refine ⟨stp_inv_choose hI hr n2 n9 x2 x4 y5 ?_ ?_, ?_, by decide⟩
      · rw [dfs_app, dfs_app _ C, dfs_app X1]
        exact List.Sublist.append (List.sublist_append_left _ _) (List.sublist_append_right _ _)
      · simp only [tsum_app]
        omega
      · simp only [List.length_append, List.length_cons, List.length_nil, List.length_map]
        omega
