/-! ===== the class: the graph of rows and bindings, and the walk over it ===== -/
abbrev AI : Type := It × Nat
abbrev ES : Type := List (Nat × List Nat)
/-- rows by address: their bindings, their result; bindings by address: item, rows -/
abbrev PG : Type := (Nat → Option (List Nat × (Int32 × Int32))) × (Nat → Option (It × List Nat))
/-- from a stack of open rows (each with the bindings that are done) over annotated items to a stack -/
def WA (G : PG) : ES → List AI → ES → Prop
  | s, [], s' => s = s'
  | [], _ :: _, _ => False
  | (a, p) :: s, (it, x) :: Q, s' => (it.1 = 9 ∧ x = a ∧ G.1 a = some (p, it.2.2.2.1) ∧ WA G s Q s') ∨ (it.1 ≠ 9 ∧ ∃ rs : List Nat, G.2 x = some (it, rs) ∧ rs.length = irw it ∧ WA G (rs.map (fun r => (r, [])) ++ (a, p ++ [x]) :: s) Q s')
def AP (Q : List AI) : List It := Q.map Prod.fst
theorem AP_app (Q R : List AI) : AP (Q ++ R) = AP Q ++ AP R := List.map_append
section M26
variable {G : PG}
theorem WA_app : ∀ {Q1 Q2 : List AI} {s s' : ES}, WA G s (Q1 ++ Q2) s' ↔ ∃ m, WA G s Q1 m ∧ WA G m Q2 s'
  | [], Q2, s, s' => ⟨fun h => ⟨s, rfl, h⟩, fun ⟨m, h1, h2⟩ => by cases h1; exact h2⟩
  | (it, x) :: Q1, Q2, [], s' => ⟨fun h => h.elim, fun ⟨m, h1, h2⟩ => h1.elim⟩
  | (it, x) :: Q1, Q2, (a, p) :: s, s' => by
    constructor
    · rintro (⟨h9, hx, hg, h⟩ | ⟨h9, rs, hg, hl, h⟩)
      · obtain ⟨m, h1, h2⟩ := WA_app.mp h
        exact ⟨m, Or.inl ⟨h9, hx, hg, h1⟩, h2⟩
      · obtain ⟨m, h1, h2⟩ := WA_app.mp h
        exact ⟨m, Or.inr ⟨h9, rs, hg, hl, h1⟩, h2⟩
    · rintro ⟨m, (⟨h9, hx, hg, h⟩ | ⟨h9, rs, hg, hl, h⟩), h2⟩
      · exact Or.inl ⟨h9, hx, hg, WA_app.mpr ⟨m, h, h2⟩⟩
      · exact Or.inr ⟨h9, rs, hg, hl, WA_app.mpr ⟨m, h, h2⟩⟩
theorem WA_tail : ∀ {Q : List AI} {u u' : ES} (s : ES), WA G u Q u' → WA G (u ++ s) Q (u' ++ s)
  | [], u, u', s, h => by cases h; rfl
  | (it, x) :: Q, [], u', s, h => h.elim
  | (it, x) :: Q, (a, p) :: u, u', s, h => by
    rcases h with ⟨h9, hx, hg, h⟩ | ⟨h9, rs, hg, hl, h⟩
    · exact Or.inl ⟨h9, hx, hg, WA_tail s h⟩
    · refine Or.inr ⟨h9, rs, hg, hl, ?_⟩
      have := WA_tail s h
      simpa using this
theorem WA_split : ∀ {Q : List AI} {u s : ES}, WA G (u ++ s) Q [] → ∃ Q1 Q2, Q = Q1 ++ Q2 ∧ WA G u Q1 [] ∧ WA G s Q2 []
  | Q, [], s, h => ⟨[], Q, rfl, rfl, h⟩
  | [], (a, p) :: u, s, h => by cases h
  | (it, x) :: Q, (a, p) :: u, s, h => by
    rcases h with ⟨h9, hx, hg, h⟩ | ⟨h9, rs, hg, hl, h⟩
    · obtain ⟨Q1, Q2, e, h1, h2⟩ := WA_split (Q := Q) (u := u) h
      exact ⟨(it, x) :: Q1, Q2, by rw [e]; rfl, Or.inl ⟨h9, hx, hg, h1⟩, h2⟩
    · have h' : WA G ((rs.map (fun r => (r, [])) ++ (a, p ++ [x]) :: u) ++ s) Q [] := by simpa using h
      obtain ⟨Q1, Q2, e, h1, h2⟩ := WA_split (Q := Q) h'
      exact ⟨(it, x) :: Q1, Q2, by rw [e]; rfl, Or.inr ⟨h9, rs, hg, hl, h1⟩, h2⟩
/-- what comes next in a row -/
theorem WA_row {a : Nat} {p : List Nat} {Q : List AI} (h : WA G [(a, p)] Q []) : (∃ it : It, Q = [(it, a)] ∧ it.1 = 9 ∧ G.1 a = some (p, it.2.2.2.1)) ∨
    ∃ (it : It) (x : Nat) (rs : List Nat) (R Q' : List AI), Q = (it, x) :: (R ++ Q') ∧ it.1 ≠ 9 ∧ G.2 x = some (it, rs) ∧ rs.length = irw it ∧ WA G (rs.map (fun r => (r, []))) R [] ∧ WA G [(a, p ++ [x])] Q' [] := by
  match Q, h with
  | [], h => cases h
  | (it, x) :: Q, h =>
    rcases h with ⟨h9, hx, hg, h⟩ | ⟨h9, rs, hg, hl, h⟩
    · left
      match Q, h with
      | [], _ => exact ⟨it, by rw [hx], h9, hg⟩
      | _ :: _, h => exact h.elim
    · right
      obtain ⟨R, Q', e, h1, h2⟩ := WA_split h
      exact ⟨it, x, rs, R, Q', by rw [e], h9, hg, hl, h1, h2⟩
theorem WA_nil {Q : List AI} {s : ES} (h : WA G [] Q s) : Q = [] ∧ s = [] := by
  match Q, h with
  | [], h => exact ⟨rfl, h.symm⟩
  | _ :: _, h => exact h.elim
theorem WA_rows {r : Nat} {rs : List Nat} {R : List AI} (h : WA G ((r :: rs).map (fun r => (r, []))) R []) : ∃ R1 R2, R = R1 ++ R2 ∧ WA G [(r, [])] R1 [] ∧ WA G (rs.map (fun r => (r, []))) R2 [] :=
  WA_split (u := [(r, [])]) h
theorem WA_mem : ∀ {Q : List AI} {s : ES} {a : Nat} {p : List Nat}, WA G s Q [] → (a, p) ∈ s → (∃ (rest : List Nat) (r : Int32 × Int32), G.1 a = some (p ++ rest, r)) ∧ ∃ it : It, (it, a) ∈ Q ∧ it.1 = 9
  | [], s, a, p, h, hm => by cases h; cases hm
  | (it, x) :: Q, [], a, p, h, hm => h.elim
  | (it, x) :: Q, (b, q) :: s, a, p, h, hm => by
    rcases h with ⟨h9, hx, hg, h⟩ | ⟨h9, rs, hg, hl, h⟩
    · rcases List.mem_cons.mp hm with e | e
      · cases e
        exact ⟨⟨[], _, by rw [List.append_nil]; exact hg⟩, it, by rw [hx]; exact List.mem_cons_self, h9⟩
      · obtain ⟨h1, it', h2, h3⟩ := WA_mem h e
        exact ⟨h1, it', List.mem_cons_of_mem _ h2, h3⟩
    · rcases List.mem_cons.mp hm with e | e
      · cases e
        obtain ⟨⟨rest, r, h1⟩, it', h2, h3⟩ := WA_mem h (List.mem_append_right _ List.mem_cons_self)
        exact ⟨⟨x :: rest, r, by rw [h1, List.append_assoc]; rfl⟩, it', List.mem_cons_of_mem _ h2, h3⟩
      · obtain ⟨h1, it', h2, h3⟩ := WA_mem h (List.mem_append_right _ (List.mem_cons_of_mem _ e))
        exact ⟨h1, it', List.mem_cons_of_mem _ h2, h3⟩
theorem WA_closes : ∀ {Q : List AI} {u s : ES} , u ≠ [] → WA G u Q [] → closes u.length (AP Q)
  | [], u, s, hu, h => absurd h hu
  | (it, x) :: Q, [], s, hu, h => h.elim
  | (it, x) :: Q, (a, p) :: u, s, hu, h => by
    show (if it.1 = 9 then _ else _)
    rcases h with ⟨h9, hx, hg, h⟩ | ⟨h9, rs, hg, hl, h⟩
    · rw [if_pos h9]
      by_cases h1 : u = []
      · rw [h1] at h ⊢
        rw [if_pos (by rfl), (WA_nil h).1]
        rfl
      · have hu : 0 < u.length := List.length_pos_iff.mpr h1
        rw [if_neg (by simp; exact h1)]
        exact WA_closes (s := s) h1 h
    · rw [if_neg h9]
      have := WA_closes (s := s) (by simp) h
      simp only [List.length_append, List.length_map, List.length_cons] at this ⊢
      rw [show u.length + 1 + irw it = rs.length + (u.length + 1) by omega]
      exact this
theorem WA_frame {G' : PG} : ∀ {Q : List AI} {s s' : ES}, (∀ q ∈ Q, (q.1.1 = 9 → G'.1 q.2 = G.1 q.2) ∧ (q.1.1 ≠ 9 → G'.2 q.2 = G.2 q.2)) → WA G s Q s' → WA G' s Q s'
  | [], s, s', _, h => h
  | (it, x) :: Q, [], s', _, h => h.elim
  | (it, x) :: Q, (a, p) :: s, s', hf, h => by
    have hf' := fun q hq => hf q (List.mem_cons_of_mem _ hq)
    have h0 := hf (it, x) List.mem_cons_self
    rcases h with ⟨h9, hx, hg, h⟩ | ⟨h9, rs, hg, hl, h⟩
    · refine Or.inl ⟨h9, hx, ?_, WA_frame hf' h⟩
      have := h0.1 h9
      rw [← hx]
      simp only at this
      rw [this, hx]; exact hg
    · exact Or.inr ⟨h9, rs, (h0.2 h9).trans hg, hl, WA_frame hf' h⟩
/-- a row that is open all the way: its bindings so far may be others -/
theorem WA_open {a : Nat} : ∀ {Q : List AI} {u s s' : ES} {p : List Nat}, WA G (u ++ (a, p) :: s) Q s' → (∀ q ∈ Q, q.1.1 = 9 → q.2 ≠ a) → ∃ (u' : ES) (p' : List Nat), s' = u' ++ (a, p ++ p') :: s ∧ ∀ p0 : List Nat, WA G (u ++ (a, p0) :: s) Q (u' ++ (a, p0 ++ p') :: s)
  | [], u, s, s', p, h, _ => ⟨u, [], by rw [List.append_nil]; exact h.symm, fun p0 => by rw [List.append_nil]; rfl⟩
  | (it, x) :: Q, [], s, s', p, h, hn => by
    have hn' := fun q hq => hn q (List.mem_cons_of_mem _ hq)
    rcases h with ⟨h9, hx, hg, h⟩ | ⟨h9, rs, hg, hl, h⟩
    · exact absurd hx (hn (it, x) List.mem_cons_self h9)
    · obtain ⟨u', p', e, k⟩ := WA_open (u := rs.map (fun r => (r, []))) h hn'
      refine ⟨u', x :: p', by rw [e]; simp, fun p0 => Or.inr ⟨h9, rs, hg, hl, ?_⟩⟩
      have := k (p0 ++ [x])
      simpa using this
  | (it, x) :: Q, (b, q) :: u, s, s', p, h, hn => by
    have hn' := fun q hq => hn q (List.mem_cons_of_mem _ hq)
    rcases h with ⟨h9, hx, hg, h⟩ | ⟨h9, rs, hg, hl, h⟩
    · obtain ⟨u', p', e, k⟩ := WA_open (u := u) h hn'
      exact ⟨u', p', e, fun p0 => Or.inl ⟨h9, hx, hg, k p0⟩⟩
    · have h' : WA G ((rs.map (fun r => (r, [])) ++ (b, q ++ [x]) :: u) ++ (a, p) :: s) Q s' := by simpa using h
      obtain ⟨u', p', e, k⟩ := WA_open h' hn'
      refine ⟨u', p', e, fun p0 => Or.inr ⟨h9, rs, hg, hl, ?_⟩⟩
      have := k p0
      simpa using this
/-- an open row whose bindings so far are others is closed with others -/
theorem WA_move {G' : PG} {a : Nat} {p1 p2 : List Nat} (hG : ∀ (rest : List Nat) (r : Int32 × Int32), G.1 a = some (p1 ++ rest, r) → G'.1 a = some (p2 ++ rest, r)) : ∀ {Q : List AI} {u s : ES} {p : List Nat}, WA G (u ++ (a, p1 ++ p) :: s) Q [] → (∀ q ∈ Q, (q.1.1 = 9 → q.2 ≠ a → G'.1 q.2 = G.1 q.2) ∧ (q.1.1 ≠ 9 → G'.2 q.2 = G.2 q.2)) → (Q.map Prod.snd).Nodup → WA G' (u ++ (a, p2 ++ p) :: s) Q []
  | [], u, s, p, h, _, _ => by
    have h' : u ++ (a, p1 ++ p) :: s = [] := h
    simp at h'
  | (it, x) :: Q, [], s, p, h, hf, hn => by
    have hf' := fun q hq => hf q (List.mem_cons_of_mem _ hq)
    have hn' := List.nodup_cons.mp hn
    rcases h with ⟨h9, hx, hg, h⟩ | ⟨h9, rs, hg, hl, h⟩
    · refine Or.inl ⟨h9, hx, hG _ _ hg, WA_frame (fun q hq => ⟨fun z => (hf' q hq).1 z (fun e => hn'.1 ?_), (hf' q hq).2⟩) h⟩
      exact List.mem_map.mpr ⟨q, hq, e.trans hx.symm⟩
    · refine Or.inr ⟨h9, rs, ((hf (it, x) List.mem_cons_self).2 h9).trans hg, hl, ?_⟩
      have := WA_move hG (Q := Q) (u := rs.map (fun r => (r, []))) (s := s) (p := p ++ [x]) (by simpa using h) hf' hn'.2
      simpa using this
  | (it, x) :: Q, (b, q) :: u, s, p, h, hf, hn => by
    have hf' := fun q hq => hf q (List.mem_cons_of_mem _ hq)
    have hn' := List.nodup_cons.mp hn
    rcases h with ⟨h9, hx, hg, h⟩ | ⟨h9, rs, hg, hl, h⟩
    · refine Or.inl ⟨h9, hx, ?_, WA_move hG h hf' hn'.2⟩
      have hba : b ≠ a := fun e => hn'.1 (by
        obtain ⟨-, it', m1, m2⟩ := WA_mem (a := a) (p := p1 ++ p) h (by simp)
        exact List.mem_map.mpr ⟨_, m1, (hx.trans e).symm⟩)
      have := (hf (it, x) List.mem_cons_self).1 h9 (by rw [hx]; exact hba)
      simp only at this
      rw [hx] at this
      rw [this]; exact hg
    · refine Or.inr ⟨h9, rs, ((hf (it, x) List.mem_cons_self).2 h9).trans hg, hl, ?_⟩
      have := WA_move hG (Q := Q) (u := rs.map (fun r => (r, [])) ++ (b, q ++ [x]) :: u) (s := s) (p := p) (by simpa using h) hf' hn'.2
      simpa using this
end M26
