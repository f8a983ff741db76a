/-! ===== programs: scopes, names, rows ===== -/
/-- the names that an item defines -/
def idf (it : It) : List Int32 := if it.1 = 9 then [] else if it.1 = 2 then [it.2.1, it.2.2.1] else [it.2.1]
def dfs (P : List It) : List Int32 := P.flatMap idf
/-- the open rows' names behind an item -/
def scn (e : List Int32) (stk : List (List Int32)) (it : It) : List (List Int32) :=
  if it.1 = 9 then stk else if it.1 = 2 then (it.2.2.1 :: e) :: (it.2.1 :: e) :: stk else if it.1 = 3 then (it.2.1 :: e) :: stk else if it.1 = 5 then (it.2.1 :: e) :: stk else e :: e :: (it.2.1 :: e) :: stk
/-- an item's atoms are numbers or names that are seen -/
def sca (e : List Int32) (it : It) : Prop := ∀ j, j < iat it → (iatm it j).1 = 0 ∨ ((iatm it j).1 = 1 ∧ (iatm it j).2 ∈ e)
def Sco : List (List Int32) → List It → Prop
  | stk, [] => stk = []
  | [], _ :: _ => False
  | e :: stk, it :: Q => sca e it ∧ Sco (scn e stk it) Q
/-- the stack behind a stretch -/
def rnk : List (List Int32) → List It → List (List Int32)
  | stk, [] => stk
  | [], _ :: _ => []
  | e :: stk, it :: Q => rnk (scn e stk it) Q
theorem Sco_rnk : ∀ {A B : List It} {stk : List (List Int32)}, Sco stk (A ++ B) → Sco (rnk stk A) B
  | [], B, stk, h => h
  | it :: A, B, [], h => h.elim
  | it :: A, B, e :: stk, h => Sco_rnk (A := A) h.2
theorem Sco_at {A B : List It} {it : It} {stk : List (List Int32)} (h : Sco stk (A ++ it :: B)) : ∃ (e : List Int32) (stk' : List (List Int32)), rnk stk A = e :: stk' ∧ sca e it ∧ Sco (scn e stk' it) B := by
  have h1 := Sco_rnk h
  cases hr : rnk stk A with
  | nil => rw [hr] at h1; exact h1.elim
  | cons e stk' => rw [hr] at h1; exact ⟨e, stk', rfl, h1.1, h1.2⟩
theorem dfs_app (A B : List It) : dfs (A ++ B) = dfs A ++ dfs B := by unfold dfs; rw [List.flatMap_append]
theorem dfs_cons (a : It) (B : List It) : dfs (a :: B) = idf a ++ dfs B := by unfold dfs; rw [List.flatMap_cons]
/-- what the stack holds came from it before, or was defined -/
theorem scn_in {e : List Int32} {stk : List (List Int32)} {it : It} {e' : List Int32} {x : Int32} (h : e' ∈ scn e stk it) (hx : x ∈ e') : (∃ e0 ∈ e :: stk, x ∈ e0) ∨ x ∈ idf it := by
  unfold scn at h
  unfold idf
  split at h
  · exact Or.inl ⟨e', List.mem_cons_of_mem _ h, hx⟩
  · rename_i h9
    rw [if_neg h9]
    split at h
    · rename_i h2
      rw [if_pos h2]
      simp only [List.mem_cons] at h
      rcases h with rfl | rfl | h
      · rcases List.mem_cons.mp hx with rfl | hx
        · exact Or.inr (by simp)
        · exact Or.inl ⟨e, List.mem_cons_self, hx⟩
      · rcases List.mem_cons.mp hx with rfl | hx
        · exact Or.inr (by simp)
        · exact Or.inl ⟨e, List.mem_cons_self, hx⟩
      · exact Or.inl ⟨e', List.mem_cons_of_mem _ h, hx⟩
    · rename_i h2
      rw [if_neg h2]
      split at h
      · simp only [List.mem_cons] at h
        rcases h with rfl | h
        · rcases List.mem_cons.mp hx with rfl | hx
          · exact Or.inr (by simp)
          · exact Or.inl ⟨e, List.mem_cons_self, hx⟩
        · exact Or.inl ⟨e', List.mem_cons_of_mem _ h, hx⟩
      · split at h
        · simp only [List.mem_cons] at h
          rcases h with rfl | h
          · rcases List.mem_cons.mp hx with rfl | hx
            · exact Or.inr (by simp)
            · exact Or.inl ⟨e, List.mem_cons_self, hx⟩
          · exact Or.inl ⟨e', List.mem_cons_of_mem _ h, hx⟩
        · simp only [List.mem_cons] at h
          rcases h with rfl | rfl | rfl | h
          · exact Or.inl ⟨_, List.mem_cons_self, hx⟩
          · exact Or.inl ⟨_, List.mem_cons_self, hx⟩
          · rcases List.mem_cons.mp hx with rfl | hx
            · exact Or.inr (by simp)
            · exact Or.inl ⟨e, List.mem_cons_self, hx⟩
          · exact Or.inl ⟨e', List.mem_cons_of_mem _ h, hx⟩
theorem rnk_in : ∀ {A : List It} {stk : List (List Int32)} {e' : List Int32} {x : Int32}, e' ∈ rnk stk A → x ∈ e' → (∃ e0 ∈ stk, x ∈ e0) ∨ x ∈ dfs A
  | [], stk, e', x, h, hx => Or.inl ⟨e', h, hx⟩
  | it :: A, [], e', x, h, hx => by simp [rnk] at h
  | it :: A, e :: stk, e', x, h, hx => by
    rw [dfs_cons]
    rcases rnk_in (A := A) (stk := scn e stk it) h hx with ⟨e0, h0, h1⟩ | h0
    · rcases scn_in h0 h1 with h2 | h2
      · exact Or.inl h2
      · exact Or.inr (List.mem_append_left _ h2)
    · exact Or.inr (List.mem_append_right _ h0)
theorem scn_app (e : List Int32) (es stk : List (List Int32)) (it : It) : scn e (es ++ stk) it = scn e es it ++ stk := by
  unfold scn
  split
  · rfl
  · split
    · rfl
    · split
      · rfl
      · split <;> rfl
theorem rnk_app : ∀ {A B : List It} {es stk : List (List Int32)}, Sco es (A ++ B) → B ≠ [] → rnk (es ++ stk) A = rnk es A ++ stk
  | [], B, es, stk, _, _ => rfl
  | it :: A, B, [], stk, h, _ => h.elim
  | it :: A, B, e :: es, stk, h, hB => by
    show rnk (scn e (es ++ stk) it) A = rnk (scn e es it) A ++ stk
    rw [scn_app]
    exact rnk_app h.2 hB
/-- the rows that are open, closed one after another -/
theorem scn_len (e : List Int32) (stk : List (List Int32)) (it : It) : (scn e stk it).length = if it.1 = 9 then stk.length else stk.length + 1 + irw it := by
  unfold scn irw
  rcases kd5 it.1 with h | h | h | h | ⟨n2, n3, n5, n9⟩
  · rw [h]; rfl
  · rw [h]; rfl
  · rw [h]; rfl
  · rw [h]; rfl
  · rw [if_neg n9, if_neg n2, if_neg n3, if_neg n5, if_neg n9]
    split <;> first | (rename_i z; exact absurd z (by assumption)) | rfl
theorem Sco_rows : ∀ (B : List It) (es stk : List (List Int32)), es ≠ [] → Sco (es ++ stk) B → ∃ Q C : List It, B = Q ++ C ∧ closes es.length Q ∧ Sco es Q ∧ Sco stk C
  | [], es, stk, hne, h => by
    have h : es ++ stk = [] := h
    exact absurd (List.append_eq_nil_iff.mp h).1 hne
  | it :: B, [], stk, hne, h => absurd rfl hne
  | it :: B, e :: es, stk, hne, h => by
    obtain ⟨h1, h2⟩ := h
    have h2 : Sco (scn e (es ++ stk) it) B := h2
    rw [scn_app] at h2
    have hl := scn_len e es it
    by_cases h9 : it.1 = 9
    · have e1 : scn e es it = es := by unfold scn; rw [if_pos h9]
      by_cases hes : es = []
      · refine ⟨[it], B, rfl, ?_, ⟨h1, ?_⟩, ?_⟩
        · show closes (e :: es).length [it]
          simp only [closes]
          rw [if_pos h9, hes]
          exact trivial
        · show Sco (scn e es it) []
          rw [e1, hes]
          rfl
        · rw [e1, hes] at h2
          exact h2
      · obtain ⟨Q, C, q1, q2, q3, q4⟩ := Sco_rows B (scn e es it) stk (by rw [e1]; exact hes) h2
        refine ⟨it :: Q, C, by rw [q1]; rfl, ?_, ⟨h1, q3⟩, q4⟩
        simp only [closes]
        rw [if_pos h9]
        have : 0 < es.length := List.length_pos_iff.mpr hes
        rw [if_neg (by simp only [List.length_cons]; omega)]
        rw [e1] at q2
        exact q2
    · rw [if_neg h9] at hl
      obtain ⟨Q, C, q1, q2, q3, q4⟩ := Sco_rows B (scn e es it) stk (fun z => by rw [z] at hl; simp only [List.length_nil] at hl; omega) h2
      refine ⟨it :: Q, C, by rw [q1]; rfl, ?_, ⟨h1, q3⟩, q4⟩
      simp only [closes]
      rw [if_neg h9]
      rw [hl] at q2
      rw [List.length_cons]
      exact q2
theorem closes_last : ∀ (Q : List It) (k : Nat), closes k Q → ∃ (X : List It) (r : It), Q = X ++ [r] ∧ r.1 = 9
  | [], k, h => h.elim
  | it :: Q, k, h => by
    simp only [closes] at h
    by_cases h9 : it.1 = 9
    · rw [if_pos h9] at h
      by_cases h1 : k = 1
      · rw [if_pos h1] at h
        exact ⟨[], it, by rw [h]; rfl, h9⟩
      · rw [if_neg h1] at h
        obtain ⟨X, r, q1, q2⟩ := closes_last Q _ h
        exact ⟨it :: X, r, by rw [q1]; rfl, q2⟩
    · rw [if_neg h9] at h
      obtain ⟨X, r, q1, q2⟩ := closes_last Q _ h
      exact ⟨it :: X, r, by rw [q1]; rfl, q2⟩
/-- the prefix that closes k rows -/
def rwl : Nat → List It → List It
  | _, [] => []
  | k, it :: Q => it :: (if it.1 = 9 then (if k = 1 then [] else rwl (k - 1) Q) else rwl (k + irw it) Q)
theorem rwl_of : ∀ (Q C : List It) (k : Nat), closes k Q → rwl k (Q ++ C) = Q
  | [], C, k, h => h.elim
  | it :: Q, C, k, h => by
    simp only [closes] at h
    simp only [List.cons_append, rwl]
    by_cases h9 : it.1 = 9
    · rw [if_pos h9] at h ⊢
      by_cases h1 : k = 1
      · rw [if_pos h1] at h ⊢
        rw [h]
      · rw [if_neg h1] at h ⊢
        rw [rwl_of Q C _ h]
    · rw [if_neg h9] at h ⊢
      rw [rwl_of Q C _ h]
/-! ===== where a function stands that is applied ===== -/
def ffn (f : Int32) : List It → List It → Option (List It × It × List It)
  | _, [] => none
  | pre, it :: Q => if it.1 = 2 ∧ it.2.1 = f then some (pre, it, Q) else ffn f (pre ++ [it]) Q
def noF (f : Int32) (P : List It) : Prop := ∀ it ∈ P, ¬ (it.1 = 2 ∧ it.2.1 = f)
theorem ffn_none {f : Int32} : ∀ {P pre : List It}, noF f P → ffn f pre P = none
  | [], pre, h => rfl
  | it :: P, pre, h => by
    unfold ffn
    rw [if_neg (h it List.mem_cons_self)]
    exact ffn_none (fun x hx => h x (List.mem_cons_of_mem _ hx))
theorem ffn_some {f : Int32} {F : It} {Q : List It} (hF : F.1 = 2 ∧ F.2.1 = f) : ∀ {A pre : List It}, noF f A → ffn f pre (A ++ F :: Q) = some (pre ++ A, F, Q)
  | [], pre, h => by
    show ffn f pre (F :: Q) = _
    unfold ffn
    rw [if_pos hF, List.append_nil]
  | it :: A, pre, h => by
    show ffn f pre (it :: (A ++ F :: Q)) = _
    unfold ffn
    rw [if_neg (h it List.mem_cons_self), ffn_some hF (fun x hx => h x (List.mem_cons_of_mem _ hx)), List.append_assoc]
    rfl
theorem fnd_none {f : Int32} : ∀ {P : List It} {p : Nat} {x : Int32}, noF f P → fnd f P p x = x
  | [], p, x, h => rfl
  | it :: P, p, x, h => by
    unfold fnd
    rw [if_neg (h it List.mem_cons_self)]
    exact fnd_none (fun y hy => h y (List.mem_cons_of_mem _ hy))
theorem fnd_some {f : Int32} {F : It} {Q : List It} (hF : F.1 = 2 ∧ F.2.1 = f) (hQ : noF f Q) : ∀ {A : List It} {p : Nat} {x : Int32}, noF f A → fnd f (A ++ F :: Q) p x = nI (p + tsum A)
  | [], p, x, h => by
    show fnd f (F :: Q) p x = _
    unfold fnd
    rw [if_pos hF, fnd_none hQ]
    rfl
  | it :: A, p, x, h => by
    show fnd f (it :: (A ++ F :: Q)) p x = _
    unfold fnd
    rw [if_neg (h it List.mem_cons_self), fnd_some hF hQ (fun y hy => h y (List.mem_cons_of_mem _ hy))]
    simp only [tsum]
    congr 1
    omega
theorem idf_F {F : It} {f : Int32} (hF : F.1 = 2 ∧ F.2.1 = f) : f ∈ idf F := by
  unfold idf
  rw [if_neg (by omega), if_pos hF.1, hF.2]
  exact List.mem_cons_self
theorem dfs_mem {f : Int32} {it : It} {P : List It} (h : it ∈ P) (hf : f ∈ idf it) : f ∈ dfs P := List.mem_flatMap.mpr ⟨it, h, hf⟩
/-- the function that an APPLY names: none in the program, or one whose row is over before the APPLY -/
theorem inl_where {A B : List It} {it : It} {f : Int32} (hS : Sco [[]] (A ++ it :: B)) (hN : (dfs (A ++ it :: B)).Nodup) (h3 : it.1 = 3) (ha : it.2.2.2.1 = (1, f)) :
    noF f (A ++ it :: B) ∨ ∃ (A1 : List It) (F : It) (X : List It) (r : It) (A2 : List It), A = A1 ++ F :: ((X ++ [r]) ++ A2) ∧ F.1 = 2 ∧ F.2.1 = f ∧ r.1 = 9 ∧ closes 1 (X ++ [r]) ∧ noF f A1 ∧ noF f ((X ++ [r]) ++ (A2 ++ it :: B)) := by
  by_cases hno : noF f (A ++ it :: B)
  · exact Or.inl hno
  · right
    -- the FUN
    have hex : ∃ F ∈ A ++ it :: B, F.1 = 2 ∧ F.2.1 = f := Classical.byContradiction fun z => hno (fun x hx hy => z ⟨x, hx, hy⟩)
    obtain ⟨F, hFm, hF⟩ := hex
    obtain ⟨P1, P2, hP⟩ := List.append_of_mem hFm
    -- names elsewhere
    have hN2 : (dfs P1 ++ (idf F ++ dfs P2)).Nodup := by rw [hP, dfs_app, dfs_cons] at hN; exact hN
    have n1 : f ∉ dfs P1 := fun z => (List.nodup_append.mp hN2).2.2 f z f (List.mem_append_left _ (idf_F hF)) rfl
    have n2 : f ∉ dfs P2 := fun z => (List.nodup_append.mp (List.nodup_append.mp hN2).2.1).2.2 f (idf_F hF) f z rfl
    have nP1 : noF f P1 := fun x hx hy => n1 (dfs_mem hx (idf_F hy))
    have nP2 : noF f P2 := fun x hx hy => n2 (dfs_mem hx (idf_F hy))
    have nD : f ≠ F.2.2.1 := by
      intro z
      have := (List.nodup_append.mp (List.nodup_append.mp hN2).2.1).1
      unfold idf at this
      rw [if_neg (by omega), if_pos hF.1, hF.2, z] at this
      simp at this
    -- the APPLY sees f
    obtain ⟨e, stk', hr, hsc, -⟩ := Sco_at hS
    have hfe : f ∈ e := by
      have h9 := hsc 0 (by unfold iat; rw [h3]; decide)
      have e0 : iatm it 0 = (1, f) := ha
      rw [e0] at h9
      rcases h9 with h9 | h9
      · exact absurd h9 (show ¬ (1 : Int32) = 0 by decide)
      · exact h9.2
    -- the stack at F
    have hS2 : Sco [[]] (P1 ++ F :: P2) := by rw [← hP]; exact hS
    obtain ⟨e0, stk0, hr0, -, hs0⟩ := Sco_at hS2
    have out : ∀ x ∈ rnk [[]] P1, f ∉ x := fun x hx hfx => by
      rcases rnk_in hx hfx with ⟨e1, h1, h2⟩ | h1
      · rw [List.mem_singleton.mp h1] at h2
        cases h2
      · exact n1 h1
    have hsF : scn e0 stk0 F = [F.2.2.1 :: e0] ++ ((F.2.1 :: e0) :: stk0) := by
      unfold scn
      rw [if_neg (by omega), if_pos hF.1]
      rfl
    rw [hsF] at hs0
    obtain ⟨Q, C, q1, q2, q3, q4⟩ := Sco_rows P2 [F.2.2.1 :: e0] _ (by simp) hs0
    obtain ⟨X, r, x1, x2⟩ := closes_last Q _ q2
    have fe0 : f ∉ e0 := out e0 (by rw [hr0]; exact List.mem_cons_self)
    -- where the APPLY stands
    rcases List.append_eq_append_iff.mp hP with ⟨a', h1, h2⟩ | ⟨c', h1, h2⟩
    · -- A ends before F
      exfalso
      cases a' with
      | nil =>
        simp at h2
        have := hF.1
        rw [← h2.1] at this
        omega
      | cons b a' =>
        have : rnk [[]] A = e :: stk' := hr
        rcases rnk_in (A := A) (stk := [[]]) (e' := e) (x := f) (by rw [this]; exact List.mem_cons_self) hfe with ⟨e1, g1, g2⟩ | g1
        · rw [List.mem_singleton.mp g1] at g2
          cases g2
        · apply n1
          rw [h1, dfs_app]
          exact List.mem_append_left _ g1
    · -- F lies in A
      cases c' with
      | nil =>
        exfalso
        simp at h2
        have := hF.1
        rw [h2.1] at this
        omega
      | cons b c' =>
        simp only [List.cons_append, List.cons.injEq] at h2
        obtain ⟨rfl, h2⟩ := h2
        -- A = P1 ++ F :: c', P2 = c' ++ it :: B = Q ++ C
        rw [q1] at h2
        rcases List.append_eq_append_iff.mp h2 with ⟨a2, g1, g2⟩ | ⟨c2, g1, g2⟩
        · -- Q is a prefix of c'
          refine ⟨P1, F, X, r, a2, by rw [h1, g1, x1], hF.1, hF.2, x2, by rw [← x1]; exact q2, nP1, ?_⟩
          rw [q1, g2, x1] at nP2
          exact nP2
        · -- the APPLY inside the row
          cases c2 with
          | nil =>
            refine ⟨P1, F, X, r, [], by rw [h1, List.append_nil, ← x1]; rw [g1]; simp, hF.1, hF.2, x2, by rw [← x1]; exact q2, nP1, ?_⟩
            rw [List.nil_append]
            rw [q1, x1] at nP2
            simp at g2
            rw [← g2] at nP2
            exact nP2
          | cons b2 c2 =>
            exfalso
            simp only [List.cons_append, List.cons.injEq] at g2
            obtain ⟨rfl, g2⟩ := g2
            rw [g1] at q3
            have ra := rnk_app (stk := (F.2.1 :: e0) :: stk0) q3 (by simp)
            have hA : rnk [[]] A = rnk ([F.2.2.1 :: e0] ++ ((F.2.1 :: e0) :: stk0)) c' := by
              rw [h1]
              have : ∀ (U V : List It) (s : List (List Int32)), rnk s (U ++ V) = rnk (rnk s U) V := by
                intro U
                induction U with
                | nil => intro V s; rfl
                | cons u U ih =>
                  intro V s
                  cases s with
                  | nil =>
                    show ([] : List (List Int32)) = rnk [] V
                    cases V <;> rfl
                  | cons s0 s => exact ih V _
              rw [this, hr0]
              show rnk (scn e0 stk0 F) c' = _
              rw [hsF]
            rw [ra, hr] at hA
            have hne := Sco_at q3
            obtain ⟨e3, s3, k1, -, -⟩ := hne
            rw [k1] at hA
            simp only [List.cons_append, List.cons.injEq] at hA
            have he3 : f ∈ e3 := by rw [← hA.1]; exact hfe
            rcases rnk_in (A := c') (stk := [F.2.2.1 :: e0]) (e' := e3) (x := f) (by rw [k1]; exact List.mem_cons_self) he3 with ⟨e4, w1, w2⟩ | w1
            · rw [List.mem_singleton.mp w1] at w2
              rcases List.mem_cons.mp w2 with w2 | w2
              · exact nD w2
              · exact fe0 w2
            · apply n2
              rw [q1, g1, dfs_app, dfs_app]
              exact List.mem_append_left _ (List.mem_append_left _ w1)
