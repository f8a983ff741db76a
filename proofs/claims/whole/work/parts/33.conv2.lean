/-! ===== a converted program: its scopes and names ===== -/
theorem aok_sub {e e' : List Int32} {a : Int32 × Int32} (h : ∀ x ∈ e, x ∈ e') (ha : aok e a) : aok e' a := ha.elim Or.inl (fun q => Or.inr ⟨q.1, h _ q.2⟩)
theorem sca_res {e : List Int32} {a : Int32 × Int32} (h : aok e a) : sca e (iRes a) := fun j hj => by
  have hj : j < 1 := hj
  have : j = 0 := by omega
  subst this
  exact h
theorem sca_2 {e : List Int32} {it : It} (h2 : iat it = 2) (h : aok e it.2.2.2.1) (h' : aok e it.2.2.2.2) : sca e it := fun j hj => by
  rw [h2] at hj
  rcases (show j = 0 ∨ j = 1 by omega) with rfl | rfl
  · exact h
  · exact h'
theorem cv_sco {cs : Nat → Int32} : ∀ (f : Nat) (M : Mn) (p k : Nat) (e : List Int32), (∀ x a, M x = some a → aok e a) →
    ∃ e' : List Int32, (∀ x ∈ e, x ∈ e') ∧ aok e' (cv cs f M p k).2.1 ∧ ∀ (stk : List (List Int32)) (B : List It), Sco (e' :: stk) B → Sco (e :: stk) ((cv cs f M p k).1 ++ B)
  | 0, M, p, k, e, hM => ⟨e, fun _ h => h, Or.inl rfl, fun _ _ h => h⟩
  | f + 1, M, p, k, e, hM => by
    by_cases w0 : cs p = 0
    · rw [cv_0 w0]
      exact ⟨e, fun _ h => h, Or.inl rfl, fun _ _ h => h⟩
    · by_cases w1 : cs p = 1
      · cases hx : M (cs (p + 1)).toNatClampNeg with
        | none => rw [cv_1n w1 hx]; exact ⟨e, fun _ h => h, Or.inl rfl, fun _ _ h => h⟩
        | some a => rw [cv_1s w1 hx]; exact ⟨e, fun _ h => h, hM _ _ hx, fun _ _ h => h⟩
      · by_cases w2 : cs p = 2
        · rw [cv_2 w2]
          simp only
          obtain ⟨e1, a1, a2, a3⟩ := cv_sco (cs := cs) f (mup M (cs (p + 1)).toNatClampNeg (1, nI k)) (p + 2) (k + 1) (nI k :: e) (fun x a h => by
            unfold mup at h
            split at h
            · cases h; exact Or.inr ⟨rfl, List.mem_cons_self⟩
            · exact aok_sub (fun y hy => List.mem_cons_of_mem _ hy) (hM x a h))
          generalize cv cs f (mup M (cs (p + 1)).toNatClampNeg (1, nI k)) (p + 2) (k + 1) = r at a2 a3 ⊢
          refine ⟨nI r.2.2.2.1 :: e, fun x hx => List.mem_cons_of_mem _ hx, Or.inr ⟨rfl, List.mem_cons_self⟩, fun stk B hB => ?_⟩
          refine ⟨fun j hj => absurd hj (Nat.not_lt_zero j), ?_⟩
          show Sco ((nI k :: e) :: (nI r.2.2.2.1 :: e) :: stk) ((r.1 ++ [iRes r.2.1]) ++ B)
          rw [List.append_assoc]
          exact a3 _ _ ⟨sca_res a2, hB⟩
        · by_cases w4 : cs p = 4
          · rw [cv_4 w4]
            simp only
            obtain ⟨e1, a1, a2, a3⟩ := cv_sco (cs := cs) f M (p + 2) k e hM
            generalize cv cs f M (p + 2) k = r at a2 a3 ⊢
            obtain ⟨e2, b1, b2, b3⟩ := cv_sco (cs := cs) f (mup M (cs (p + 1)).toNatClampNeg r.2.1) r.2.2.1 r.2.2.2.1 e1 (fun x a h => by
              unfold mup at h
              split at h
              · cases h; exact a2
              · exact aok_sub a1 (hM x a h))
            generalize cv cs f (mup M (cs (p + 1)).toNatClampNeg r.2.1) r.2.2.1 r.2.2.2.1 = s at b2 b3 ⊢
            exact ⟨e2, fun x hx => b1 x (a1 x hx), b2, fun stk B hB => by rw [List.append_assoc]; exact a3 _ _ (b3 _ _ hB)⟩
          · by_cases w6 : cs p = 6
            · rw [cv_6 w6]
              simp only
              obtain ⟨e1, a1, a2, a3⟩ := cv_sco (cs := cs) f M (p + 1) k e hM
              generalize cv cs f M (p + 1) k = r at a2 a3 ⊢
              obtain ⟨e2, b1, b2, b3⟩ := cv_sco (cs := cs) f M r.2.2.1 r.2.2.2.1 e1 (fun x a h => aok_sub a1 (hM x a h))
              generalize cv cs f M r.2.2.1 r.2.2.2.1 = s at b2 b3 ⊢
              obtain ⟨e3, c1, c2, c3⟩ := cv_sco (cs := cs) f M s.2.2.1 s.2.2.2.1 e1 (fun x a h => aok_sub a1 (hM x a h))
              generalize cv cs f M s.2.2.1 s.2.2.2.1 = u at c2 c3 ⊢
              refine ⟨nI u.2.2.2.1 :: e1, fun x hx => List.mem_cons_of_mem _ (a1 x hx), Or.inr ⟨rfl, List.mem_cons_self⟩, fun stk B hB => ?_⟩
              rw [List.append_assoc]
              refine a3 _ _ ⟨fun j hj => ?_, ?_⟩
              · have hj : j < 1 := hj
                have : j = 0 := by omega
                subst this
                exact a2
              · show Sco (e1 :: e1 :: (nI u.2.2.2.1 :: e1) :: stk) ((s.1 ++ iRes s.2.1 :: (u.1 ++ [iRes u.2.1])) ++ B)
                rw [List.append_assoc]
                refine b3 _ _ ⟨sca_res b2, ?_⟩
                show Sco (e1 :: (nI u.2.2.2.1 :: e1) :: stk) ((u.1 ++ [iRes u.2.1]) ++ B)
                rw [List.append_assoc]
                exact c3 _ _ ⟨sca_res c2, hB⟩
            · have hu : cv cs (f + 1) M p k = (let r := cv cs f M (p + hl (cs p)) k
                 let s := cv cs f M r.2.2.1 r.2.2.2.1
                 (r.1 ++ (s.1 ++ [(if cs p = 5 then 5 else 3, nI s.2.2.2.1, if cs p = 5 then cs (p + 1) else 0, r.2.1, s.2.1)]), (1, nI s.2.2.2.1), s.2.2.1, s.2.2.2.1 + 1, max r.2.2.2.2.1 s.2.2.2.2.1, r.2.2.2.2.2 || s.2.2.2.2.2)) := by
                conv => lhs; unfold cv
                rw [if_neg w0, if_neg w1, if_neg w2, if_neg w4, if_neg w6]
              rw [hu]
              simp only
              obtain ⟨e1, a1, a2, a3⟩ := cv_sco (cs := cs) f M (p + hl (cs p)) k e hM
              generalize cv cs f M (p + hl (cs p)) k = r at a2 a3 ⊢
              obtain ⟨e2, b1, b2, b3⟩ := cv_sco (cs := cs) f M r.2.2.1 r.2.2.2.1 e1 (fun x a h => aok_sub a1 (hM x a h))
              generalize cv cs f M r.2.2.1 r.2.2.2.1 = s at b2 b3 ⊢
              refine ⟨nI s.2.2.2.1 :: e2, fun x hx => List.mem_cons_of_mem _ (b1 x (a1 x hx)), Or.inr ⟨rfl, List.mem_cons_self⟩, fun stk B hB => ?_⟩
              rw [List.append_assoc]
              refine a3 _ _ ?_
              rw [List.append_assoc]
              refine b3 _ _ ?_
              by_cases w5 : cs p = 5
              · rw [if_pos w5]
                exact ⟨sca_2 rfl (aok_sub b1 a2) b2, hB⟩
              · rw [if_neg w5]
                exact ⟨sca_2 rfl (aok_sub b1 a2) b2, hB⟩
def Nm (a b : Nat) (L : List Int32) : Prop := (∀ x ∈ L, ∃ j, a ≤ j ∧ j < b ∧ x = nI j) ∧ L.Nodup
theorem Nm_nil {a b : Nat} : Nm a b [] := ⟨fun x hx => absurd hx (List.not_mem_nil), List.nodup_nil⟩
theorem Nm_one {j b : Nat} (h : j < b) : Nm j b [nI j] := ⟨fun x hx => ⟨j, Nat.le_refl _, h, List.mem_singleton.mp hx⟩, by simp⟩
theorem Nm_app {a b c : Nat} {L L' : List Int32} (h : Nm a b L) (h' : Nm b c L') (hab : a ≤ b) (hbc : b ≤ c) (hc : c < 2 ^ 31) : Nm a c (L ++ L') := by
  refine ⟨fun x hx => ?_, List.nodup_append.mpr ⟨h.2, h'.2, fun x hx y hy hxy => ?_⟩⟩
  · rcases List.mem_append.mp hx with hx | hx
    · obtain ⟨j, j1, j2, j3⟩ := h.1 x hx
      exact ⟨j, j1, by omega, j3⟩
    · obtain ⟨j, j1, j2, j3⟩ := h'.1 x hx
      exact ⟨j, by omega, j2, j3⟩
  · obtain ⟨j, j1, j2, j3⟩ := h.1 x hx
    obtain ⟨i, i1, i2, i3⟩ := h'.1 y hy
    have e : nI j = nI i := by rw [← j3, ← i3, hxy]
    have := (nI_eq (by omega) (by omega)).mp e
    omega
theorem Nm_perm {a b : Nat} {L L' : List Int32} (h : Nm a b L) (hp : L'.Perm L) : Nm a b L' := ⟨fun x hx => h.1 x (hp.mem_iff.mp hx), hp.nodup_iff.mpr h.2⟩
theorem dfs_one (it : It) : dfs [it] = idf it := by unfold dfs; simp
theorem cv_dfs {cs : Nat → Int32} {n : Nat} : ∀ (f : Nat) (M : Mn) (p k p' : Nat), sy cs n f p = some p' → k + n < 2 ^ 31 + p → Nm k (cv cs f M p k).2.2.2.1 (dfs (cv cs f M p k).1)
  | 0, M, p, k, p', h, _ => by cases h
  | f + 1, M, p, k, p', h, hb => by
    have hk := sy_hok h
    obtain ⟨h1, h2, h3, h4, -⟩ := hok_iff.mp hk
    rcases kd7 h2 h3 with w | w | w | w | w | w | w
    · rw [cv_0 w]; exact Nm_nil
    · cases hM : M (cs (p + 1)).toNatClampNeg with
      | none => rw [cv_1n w hM]; exact Nm_nil
      | some a => rw [cv_1s w hM]; exact Nm_nil
    · rw [sy_2 hk w] at h
      rw [cv_2 w]
      obtain ⟨a1, a2, a3, a4, a5, a6, a8⟩ := cv_nums f (mup M (cs (p + 1)).toNatClampNeg (1, nI k)) (p + 2) (k + 1) p' h
      have a7 := cv_dfs f (mup M (cs (p + 1)).toNatClampNeg (1, nI k)) (p + 2) (k + 1) p' h (by omega)
      simp only
      generalize cv cs f (mup M (cs (p + 1)).toNatClampNeg (1, nI k)) (p + 2) (k + 1) = r at *
      rw [dfs_cons, dfs_app, dfs_one, show idf (iRes r.2.1) = [] from rfl, List.append_nil, show idf (2, nI r.2.2.2.1, nI k, (0, 0), (0, 0)) = [nI r.2.2.2.1, nI k] from rfl]
      refine Nm_perm (Nm_app (Nm_one (Nat.lt_succ_self k)) (Nm_app a7 (Nm_one (Nat.lt_succ_self _)) (by omega) (by omega) (by omega)) (by omega) (by omega) (by omega)) ?_
      show (nI r.2.2.2.1 :: ([nI k] ++ dfs r.1)).Perm ([nI k] ++ (dfs r.1 ++ [nI r.2.2.2.1]))
      rw [← List.append_assoc]
      exact List.perm_append_comm (l₁ := [nI r.2.2.2.1])
    · rw [sy_345 hk (Or.inl w), w, show hl 3 = 1 from rfl] at h
      obtain ⟨b, hbb, hc⟩ := bind_some h
      rw [cv_3 w]
      obtain ⟨a1, a2, a3, a4, a5, a6, a8⟩ := cv_nums f M (p + 1) k b hbb
      have a7 := cv_dfs f M (p + 1) k b hbb (by omega)
      simp only
      generalize cv cs f M (p + 1) k = r at *
      subst a1
      obtain ⟨c1, c2, c3, c4, c5, c6, c8⟩ := cv_nums f M r.2.2.1 r.2.2.2.1 p' hc
      have c7 := cv_dfs f M r.2.2.1 r.2.2.2.1 p' hc (by omega)
      generalize cv cs f M r.2.2.1 r.2.2.2.1 = s at *
      rw [dfs_app, dfs_app, dfs_one, show idf (3, nI s.2.2.2.1, 0, r.2.1, s.2.1) = [nI s.2.2.2.1] from rfl]
      exact Nm_app a7 (Nm_app c7 (Nm_one (Nat.lt_succ_self _)) (by omega) (by omega) (by omega)) (by omega) (by omega) (by omega)
    · rw [sy_345 hk (Or.inr (Or.inl w)), w, show hl 4 = 2 from rfl] at h
      obtain ⟨b, hbb, hc⟩ := bind_some h
      rw [cv_4 w]
      obtain ⟨a1, a2, a3, a4, a5, a6, a8⟩ := cv_nums f M (p + 2) k b hbb
      have a7 := cv_dfs f M (p + 2) k b hbb (by omega)
      simp only
      generalize cv cs f M (p + 2) k = r at *
      subst a1
      obtain ⟨c1, c2, c3, c4, c5, c6, c8⟩ := cv_nums f (mup M (cs (p + 1)).toNatClampNeg r.2.1) r.2.2.1 r.2.2.2.1 p' hc
      have c7 := cv_dfs f (mup M (cs (p + 1)).toNatClampNeg r.2.1) r.2.2.1 r.2.2.2.1 p' hc (by omega)
      generalize cv cs f (mup M (cs (p + 1)).toNatClampNeg r.2.1) r.2.2.1 r.2.2.2.1 = s at *
      rw [dfs_app]
      exact Nm_app a7 c7 (by omega) (by omega) (by omega)
    · rw [sy_345 hk (Or.inr (Or.inr w)), w, show hl 5 = 2 from rfl] at h
      obtain ⟨b, hbb, hc⟩ := bind_some h
      rw [cv_5 w]
      obtain ⟨a1, a2, a3, a4, a5, a6, a8⟩ := cv_nums f M (p + 2) k b hbb
      have a7 := cv_dfs f M (p + 2) k b hbb (by omega)
      simp only
      generalize cv cs f M (p + 2) k = r at *
      subst a1
      obtain ⟨c1, c2, c3, c4, c5, c6, c8⟩ := cv_nums f M r.2.2.1 r.2.2.2.1 p' hc
      have c7 := cv_dfs f M r.2.2.1 r.2.2.2.1 p' hc (by omega)
      generalize cv cs f M r.2.2.1 r.2.2.2.1 = s at *
      rw [dfs_app, dfs_app, dfs_one, show idf (5, nI s.2.2.2.1, cs (p + 1), r.2.1, s.2.1) = [nI s.2.2.2.1] from rfl]
      exact Nm_app a7 (Nm_app c7 (Nm_one (Nat.lt_succ_self _)) (by omega) (by omega) (by omega)) (by omega) (by omega) (by omega)
    · rw [sy_6 hk w] at h
      obtain ⟨b, hbb, h⟩ := bind_some h
      obtain ⟨c, hc, hd⟩ := bind_some h
      rw [cv_6 w]
      obtain ⟨a1, a2, a3, a4, a5, a6, a8⟩ := cv_nums f M (p + 1) k b hbb
      have a7 := cv_dfs f M (p + 1) k b hbb (by omega)
      simp only
      generalize cv cs f M (p + 1) k = r at *
      subst a1
      obtain ⟨c1, c2, c3, c4, c5, c6, c8⟩ := cv_nums f M r.2.2.1 r.2.2.2.1 c hc
      have c7 := cv_dfs f M r.2.2.1 r.2.2.2.1 c hc (by omega)
      generalize cv cs f M r.2.2.1 r.2.2.2.1 = s at *
      subst c1
      obtain ⟨d1, d2, d3, d4, d5, d6, d8⟩ := cv_nums f M s.2.2.1 s.2.2.2.1 p' hd
      have d7 := cv_dfs f M s.2.2.1 s.2.2.2.1 p' hd (by omega)
      generalize cv cs f M s.2.2.1 s.2.2.2.1 = u at *
      rw [dfs_app, dfs_cons, dfs_app, dfs_cons, dfs_app, dfs_one, show idf (iRes s.2.1) = [] from rfl, show idf (iRes u.2.1) = [] from rfl, List.append_nil, List.nil_append, show idf (6, nI u.2.2.2.1, 0, r.2.1, (0, 0)) = [nI u.2.2.2.1] from rfl]
      refine Nm_perm (Nm_app a7 (Nm_app (Nm_app c7 d7 (by omega) (by omega) (by omega)) (Nm_one (Nat.lt_succ_self _)) (by omega) (by omega) (by omega)) (by omega) (by omega) (by omega)) ?_
      exact List.Perm.append_left _ List.perm_append_comm
/-- a whole converted program -/
def cvP (cs : Nat → Int32) : List It := (cv cs 61 (fun _ => none) 0 0).1 ++ [iRes (cv cs 61 (fun _ => none) 0 0).2.1]
theorem cvP_inv {cs : Nat → Int32} {n : Nat} (hn : n ≤ 60) (h : sy cs n 61 0 = some n) : Inv (cvP cs) := by
  obtain ⟨a1, a2, a3, a4, a5, a6, a8⟩ := cv_nums 61 (fun _ => none) 0 0 n h
  refine ⟨?_, ?_, ?_⟩
  · obtain ⟨e', b1, b2, b3⟩ := cv_sco (cs := cs) 61 (fun _ => none) 0 0 [] (fun x a h => by cases h)
    exact b3 [] [iRes (cv cs 61 (fun _ => none) 0 0).2.1] ⟨sca_res b2, rfl⟩
  · have := (cv_dfs 61 (fun _ => none) 0 0 n h (by omega)).2
    unfold cvP
    rw [dfs_app, dfs_one, show idf (iRes (cv cs 61 (fun _ => none) 0 0).2.1) = [] from rfl, List.append_nil]
    exact this
  · unfold cvP
    rw [tsum_app]
    have : tsum [iRes (cv cs 61 (fun _ => none) 0 0).2.1] = 3 := rfl
    omega
