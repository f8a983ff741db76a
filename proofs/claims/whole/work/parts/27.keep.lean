/-! ===== a step keeps what holds of a program ===== -/
theorem isb_idf (nm : Int32) (b : Int32 × Int32) (it : It) : idf (isb nm b it) = idf it := rfl
theorem isb_dfs (nm : Int32) (b : Int32 × Int32) (Q : List It) : dfs (Q.map (isb nm b)) = dfs Q := by
  induction Q with
  | nil => rfl
  | cons a Q ih => rw [List.map_cons, dfs_cons, dfs_cons, ih, isb_idf]
theorem isb_scn (nm : Int32) (b : Int32 × Int32) (e : List Int32) (stk : List (List Int32)) (it : It) : scn e stk (isb nm b it) = scn e stk it := rfl
theorem isb_rnk (nm : Int32) (b : Int32 × Int32) : ∀ (Q : List It) (stk : List (List Int32)), rnk stk (Q.map (isb nm b)) = rnk stk Q
  | [], stk => rfl
  | a :: Q, [] => rfl
  | a :: Q, e :: stk => isb_rnk nm b Q _
theorem isb_atm {nm : Int32} {b : Int32 × Int32} {it : It} {j : Nat} (hj : j < iat it) : iatm (isb nm b it) j = sa nm b (iatm it j) := by
  have h2 : iat it ≤ 2 := by unfold iat; split <;> decide
  rcases (show j = 0 ∨ j = 1 by omega) with rfl | rfl
  · show (if 0 < iat it then _ else _) = _
    rw [if_pos hj]
    rfl
  · show (if 1 < iat it then _ else _) = _
    rw [if_pos hj]
    rfl
/-- a name that is not used: nothing changes -/
theorem isb_id {nm : Int32} {b : Int32 × Int32} {it : It} (h : ∀ j, j < iat it → iatm it j ≠ (1, nm)) : isb nm b it = it := by
  have h2 : iat it ≤ 2 := by unfold iat; split <;> decide
  obtain ⟨k, n, dt, a, c⟩ := it
  unfold isb ipt
  have e1 : (if 0 < iat (k, n, dt, a, c) then sa nm b a else a) = a := by
    split
    next q => exact if_neg (h 0 q)
    next => rfl
  have e2 : (if 1 < iat (k, n, dt, a, c) then sa nm b c else c) = c := by
    split
    next q => exact if_neg (h 1 q)
    next => rfl
  simp only [e1, e2]
theorem ioc0 {it : It} {nm : Int32} : ∀ {r k : Nat}, ioc it nm k r = 0 → ∀ j, k ≤ j → j < k + r → iatm it j ≠ (1, nm)
  | 0, k, _, j, h1, h2 => by omega
  | r + 1, k, h, j, h1, h2 => by
    simp only [ioc] at h
    by_cases e : j = k
    · subst e
      intro z
      rw [if_pos z] at h
      omega
    · exact ioc0 (r := r) (k := k + 1) (by omega) j (by omega) (by omega)
theorem occ_app (nm : Int32) (A B : List It) : occ nm (A ++ B) = occ nm A + occ nm B := by
  induction A with
  | nil => simp [occ]
  | cons a A ih => simp only [List.cons_append, occ, ih]; omega
theorem occ0_map {nm : Int32} {b : Int32 × Int32} : ∀ {Q : List It}, occ nm Q = 0 → Q.map (isb nm b) = Q
  | [], _ => rfl
  | a :: Q, h => by
    simp only [occ] at h
    rw [List.map_cons, occ0_map (Q := Q) (by omega), isb_id (fun j hj => ioc0 (k := 0) (r := iat a) (by omega) j (by omega) (by omega))]
theorem Sco_nouse {nm : Int32} {b : Int32 × Int32} : ∀ {A B : List It} {stk : List (List Int32)}, Sco stk (A ++ B) → (∀ e ∈ stk, nm ∉ e) → nm ∉ dfs A → A.map (isb nm b) = A
  | [], B, stk, _, _, _ => rfl
  | a :: A, B, [], h, _, _ => h.elim
  | a :: A, B, e :: stk, h, hs, hn => by
    rw [dfs_cons] at hn
    have hn1 : nm ∉ idf a := fun z => hn (List.mem_append_left _ z)
    have hn2 : nm ∉ dfs A := fun z => hn (List.mem_append_right _ z)
    rw [List.map_cons, Sco_nouse (A := A) (B := B) (stk := scn e stk a) h.2 (fun e' h1 h2 => ?_) hn2, isb_id (fun j hj z => ?_)]
    · have h3 := h.1 j hj
      rw [z] at h3
      rcases h3 with h3 | h3
      · exact absurd h3 (show ¬ (1 : Int32) = 0 by decide)
      · exact hs e List.mem_cons_self h3.2
    · rcases scn_in h1 h2 with ⟨e0, q1, q2⟩ | q
      · exact hs e0 q1 q2
      · exact hn1 q
/-- an atom that is seen in e -/
def aok (e : List Int32) (b : Int32 × Int32) : Prop := b.1 = 0 ∨ (b.1 = 1 ∧ b.2 ∈ e)
def Rl (nm : Int32) (b : Int32 × Int32) (e e' : List Int32) : Prop := (∀ x ∈ e, x ≠ nm → x ∈ e') ∧ (nm ∈ e → aok e' b)
def Rls (nm : Int32) (b : Int32 × Int32) : List (List Int32) → List (List Int32) → Prop
  | [], [] => True
  | e :: s, e' :: s' => Rl nm b e e' ∧ Rls nm b s s'
  | _, _ => False
theorem aok_cons {e : List Int32} {b : Int32 × Int32} {x : Int32} (h : aok e b) : aok (x :: e) b := h.elim Or.inl (fun q => Or.inr ⟨q.1, List.mem_cons_of_mem _ q.2⟩)
theorem Rl_cons {nm x : Int32} {b : Int32 × Int32} {e e' : List Int32} (h : Rl nm b e e') (hx : x ≠ nm) : Rl nm b (x :: e) (x :: e') := by
  refine ⟨fun y hy hn => ?_, fun hm => ?_⟩
  · rcases List.mem_cons.mp hy with rfl | hy
    · exact List.mem_cons_self
    · exact List.mem_cons_of_mem _ (h.1 y hy hn)
  · rcases List.mem_cons.mp hm with z | z
    · exact absurd z.symm hx
    · exact aok_cons (h.2 z)
theorem Rls_scn {nm : Int32} {b : Int32 × Int32} {e e' : List Int32} {s s' : List (List Int32)} {it : It} (h1 : Rl nm b e e') (h2 : Rls nm b s s') (hn : nm ∉ idf it) : Rls nm b (scn e s it) (scn e' s' it) := by
  unfold idf at hn
  unfold scn
  by_cases h9 : it.1 = 9
  · rw [if_pos h9, if_pos h9]; exact h2
  · rw [if_neg h9, if_neg h9]
    rw [if_neg h9] at hn
    by_cases k2 : it.1 = 2
    · rw [if_pos k2, if_pos k2]
      rw [if_pos k2] at hn
      simp only [List.mem_cons, List.not_mem_nil, or_false, not_or] at hn
      exact ⟨Rl_cons h1 (Ne.symm hn.2), Rl_cons h1 (Ne.symm hn.1), h2⟩
    · rw [if_neg k2, if_neg k2]
      rw [if_neg k2] at hn
      simp only [List.mem_cons, List.not_mem_nil, or_false] at hn
      by_cases k3 : it.1 = 3
      · rw [if_pos k3, if_pos k3]; exact ⟨Rl_cons h1 (Ne.symm hn), h2⟩
      · rw [if_neg k3, if_neg k3]
        by_cases k5 : it.1 = 5
        · rw [if_pos k5, if_pos k5]; exact ⟨Rl_cons h1 (Ne.symm hn), h2⟩
        · rw [if_neg k5, if_neg k5]; exact ⟨h1, h1, Rl_cons h1 (Ne.symm hn), h2⟩
theorem Sco_sub {nm : Int32} {b : Int32 × Int32} : ∀ {Q : List It} {stk stk' : List (List Int32)}, Sco stk Q → Rls nm b stk stk' → nm ∉ dfs Q → Sco stk' (Q.map (isb nm b))
  | [], stk, stk', h, hr, _ => by
    have h : stk = [] := h
    subst h
    cases stk' with
    | nil => rfl
    | cons a s => exact hr.elim
  | it :: Q, [], stk', h, hr, _ => h.elim
  | it :: Q, e :: stk, [], h, hr, _ => hr.elim
  | it :: Q, e :: stk, e' :: stk', h, hr, hn => by
    rw [dfs_cons] at hn
    have hn1 : nm ∉ idf it := fun z => hn (List.mem_append_left _ z)
    have hn2 : nm ∉ dfs Q := fun z => hn (List.mem_append_right _ z)
    refine ⟨fun j hj => ?_, Sco_sub h.2 (Rls_scn hr.1 hr.2 hn1) hn2⟩
    have hj : j < iat it := hj
    rw [isb_atm hj]
    have h1 := h.1 j hj
    unfold sa
    split
    next q =>
      rw [q] at h1
      rcases h1 with h1 | h1
      · exact absurd h1 (show ¬ (1 : Int32) = 0 by decide)
      · exact hr.1.2 h1.2
    next q =>
      rcases h1 with h1 | h1
      · exact Or.inl h1
      · exact Or.inr ⟨h1.1, hr.1.1 _ h1.2 (fun z => q (Prod.ext h1.1 z))⟩
theorem Rls_rnk {nm : Int32} {b : Int32 × Int32} : ∀ {A : List It} {stk stk' : List (List Int32)}, Rls nm b stk stk' → nm ∉ dfs A → Rls nm b (rnk stk A) (rnk stk' A)
  | [], stk, stk', h, _ => h
  | it :: A, [], [], h, _ => trivial
  | it :: A, [], e' :: s', h, _ => h.elim
  | it :: A, e :: s, [], h, _ => h.elim
  | it :: A, e :: s, e' :: s', h, hn => by
    rw [dfs_cons] at hn
    show Rls nm b (rnk (scn e s it) A) (rnk (scn e' s' it) A)
    exact Rls_rnk (A := A) (stk := scn e s it) (stk' := scn e' s' it) (Rls_scn h.1 h.2 (fun z => hn (List.mem_append_left _ z))) (fun z => hn (List.mem_append_right _ z))
theorem Rls_rf {nm : Int32} {b : Int32 × Int32} : ∀ {s : List (List Int32)}, (∀ e ∈ s, nm ∉ e) → Rls nm b s s
  | [], _ => trivial
  | e :: s, h => ⟨⟨fun _ hx _ => hx, fun z => absurd z (h e List.mem_cons_self)⟩, Rls_rf (fun e' h' => h e' (List.mem_cons_of_mem _ h'))⟩
theorem Sco_glue : ∀ {A X B : List It} {stk : List (List Int32)}, Sco stk (A ++ X) → Sco (rnk stk A) B → Sco stk (A ++ B)
  | [], X, B, stk, _, h => h
  | a :: A, X, B, [], h, _ => h.elim
  | a :: A, X, B, e :: stk, h, h2 => ⟨h.1, Sco_glue (A := A) h.2 h2⟩
/-- a row's last stack -/
theorem Sco_row {e : List Int32} {X : List It} {r : It} (h : Sco [e] (X ++ [r])) (h9 : r.1 = 9) : ∃ e' : List Int32, rnk [e] X = [e'] ∧ aok e' r.2.2.2.1 := by
  obtain ⟨e', s', h1, h2, h3⟩ := Sco_at h
  have h4 : scn e' s' r = s' := by unfold scn; rw [if_pos h9]
  rw [h4] at h3
  have h3 : s' = [] := h3
  subst h3
  refine ⟨e', h1, ?_⟩
  exact h2 0 (by unfold iat; rw [h9]; decide)
/-- the lowest row's names grow -/
theorem rnk_last : ∀ {A : List It} {s : List (List Int32)} {e e' : List Int32} {s' : List (List Int32)}, rnk (s ++ [e]) A = s' ++ [e'] → ∀ x ∈ e, x ∈ e'
  | [], s, e, e', s', h, x, hx => by
    have h : s ++ [e] = s' ++ [e'] := h
    have := List.append_inj_right' h rfl
    simp at this
    rw [← this]
    exact hx
  | it :: A, [], e, e', s', h, x, hx => by
    have h : rnk (scn e [] it) A = s' ++ [e'] := h
    unfold scn at h
    by_cases h9 : it.1 = 9
    · rw [if_pos h9] at h
      cases A with
      | nil => simp [rnk] at h
      | cons b A => simp [rnk] at h
    · rw [if_neg h9] at h
      by_cases k2 : it.1 = 2
      · rw [if_pos k2] at h
        exact rnk_last (A := A) (s := [it.2.2.1 :: e]) (e := it.2.1 :: e) h x (List.mem_cons_of_mem _ hx)
      · rw [if_neg k2] at h
        by_cases k3 : it.1 = 3
        · rw [if_pos k3] at h
          exact rnk_last (A := A) (s := []) (e := it.2.1 :: e) h x (List.mem_cons_of_mem _ hx)
        · rw [if_neg k3] at h
          by_cases k5 : it.1 = 5
          · rw [if_pos k5] at h
            exact rnk_last (A := A) (s := []) (e := it.2.1 :: e) h x (List.mem_cons_of_mem _ hx)
          · rw [if_neg k5] at h
            exact rnk_last (A := A) (s := [e, e]) (e := it.2.1 :: e) h x (List.mem_cons_of_mem _ hx)
  | it :: A, e0 :: s, e, e', s', h, x, hx => by
    have h : rnk (scn e0 (s ++ [e]) it) A = s' ++ [e'] := h
    rw [scn_app] at h
    exact rnk_last (A := A) (s := scn e0 s it) (e := e) h x hx
/-- who sees f sees what f's row began with -/
theorem rnk_sees {f : Int32} {e0 : List Int32} : ∀ {A : List It} {stk : List (List Int32)}, (∀ e ∈ stk, f ∈ e → ∀ x ∈ e0, x ∈ e) → f ∉ dfs A → ∀ e ∈ rnk stk A, f ∈ e → ∀ x ∈ e0, x ∈ e
  | [], stk, h, _ => h
  | it :: A, [], h, _ => fun e he => by simp [rnk] at he
  | it :: A, e1 :: stk, h, hn => by
    rw [dfs_cons] at hn
    have hn1 : f ∉ idf it := fun z => hn (List.mem_append_left _ z)
    refine rnk_sees (A := A) (stk := scn e1 stk it) (fun e he hf x hx => ?_) (fun z => hn (List.mem_append_right _ z))
    have base : ∀ y : Int32, y ≠ f → f ∈ y :: e1 → x ∈ y :: e1 := fun y hy hm => by
      rcases List.mem_cons.mp hm with z | z
      · exact absurd z.symm hy
      · exact List.mem_cons_of_mem _ (h e1 List.mem_cons_self z x hx)
    unfold scn at he
    unfold idf at hn1
    by_cases h9 : it.1 = 9
    · rw [if_pos h9] at he
      exact h e (List.mem_cons_of_mem _ he) hf x hx
    · rw [if_neg h9] at he hn1
      by_cases k2 : it.1 = 2
      · rw [if_pos k2] at he hn1
        simp only [List.mem_cons, List.not_mem_nil, or_false, not_or] at hn1
        simp only [List.mem_cons] at he
        rcases he with rfl | rfl | he
        · exact base _ (Ne.symm hn1.2) hf
        · exact base _ (Ne.symm hn1.1) hf
        · exact h e (List.mem_cons_of_mem _ he) hf x hx
      · rw [if_neg k2] at he hn1
        simp only [List.mem_cons, List.not_mem_nil, or_false] at hn1
        by_cases k3 : it.1 = 3
        · rw [if_pos k3] at he
          rcases List.mem_cons.mp he with rfl | he
          · exact base _ (Ne.symm hn1) hf
          · exact h e (List.mem_cons_of_mem _ he) hf x hx
        · rw [if_neg k3] at he
          by_cases k5 : it.1 = 5
          · rw [if_pos k5] at he
            rcases List.mem_cons.mp he with rfl | he
            · exact base _ (Ne.symm hn1) hf
            · exact h e (List.mem_cons_of_mem _ he) hf x hx
          · rw [if_neg k5] at he
            simp only [List.mem_cons] at he
            rcases he with rfl | rfl | rfl | he
            · exact h _ List.mem_cons_self hf x hx
            · exact h _ List.mem_cons_self hf x hx
            · exact base _ (Ne.symm hn1) hf
            · exact h e (List.mem_cons_of_mem _ he) hf x hx
