/-! ===== the class: walks, for the steps of a pass ===== -/
section M34
variable {G : PG}
def ksn (Q : List AI) : List (Nat × Nat) := Q.map (fun q => (q.1.1, q.2))
theorem WA_det : ∀ {Q Q' : List AI} {s m m' : ES}, ksn Q = ksn Q' → WA G s Q m → WA G s Q' m' → m = m'
  | [], [], s, m, m', _, h, h' => h.symm.trans h'
  | [], _ :: _, s, m, m', e, _, _ => by cases e
  | _ :: _, [], s, m, m', e, _, _ => by cases e
  | (it, x) :: Q, (it', x') :: Q', [], m, m', _, h, _ => h.elim
  | (it, x) :: Q, (it', x') :: Q', (a, p) :: s, m, m', e, h, h' => by
    have e0 : (it.1, x) :: ksn Q = (it'.1, x') :: ksn Q' := e
    rw [List.cons.injEq, Prod.mk.injEq] at e0
    obtain ⟨⟨e1, e2⟩, e3⟩ := e0
    rcases h with ⟨h9, hx, hg, h⟩ | ⟨h9, rs, hg, hl, h⟩ <;> rcases h' with ⟨k9, kx, kg, k⟩ | ⟨k9, rs', kg, kl, k⟩
    · exact WA_det e3 h k
    · exact absurd (e1 ▸ h9) k9
    · exact absurd (e1 ▸ k9) h9
    · rw [← e2, hg] at kg; cases kg
      rw [← e2] at k
      exact WA_det e3 h k
theorem mb_ksn (nm : Int32) (v : Int32 × Int32) (Q : List AI) : ksn (Q.map (mb nm v)) = ksn Q := by unfold ksn; rw [List.map_map]; rfl
/-- the walk is cut where it was -/
theorem Sb_split {nm : Int32} {v : Int32 × Int32} {G' : PG} (hS : Sb nm v G G') {A B : List AI} {s0 m : ES} (hA : WA G s0 A m) (h : WA G' s0 ((A ++ B).map (mb nm v)) []) : WA G' s0 (A.map (mb nm v)) m ∧ WA G' m (B.map (mb nm v)) [] := by
  rw [List.map_append] at h
  obtain ⟨m', h1, h2⟩ := WA_app.mp h
  obtain ⟨A', w, e⟩ := Sb_WA hS hA
  have : m' = m := WA_det (by rw [← mb_ksn nm v A', e]) h1 w
  rw [this] at h1 h2
  exact ⟨h1, h2⟩
/-- an open row's walk holds in any other row -/
theorem WA_ren {a : Nat} : ∀ {Q : List AI} {u s s' : ES} {p : List Nat}, WA G (u ++ (a, p) :: s) Q s' → (∀ q ∈ Q, q.1.1 = 9 → q.2 ≠ a) → ∃ (u' : ES) (p' : List Nat), s' = u' ++ (a, p ++ p') :: s ∧ (u = [] → p' = [] → Q = [] ∧ u' = []) ∧ ∀ (b : Nat) (p0 : List Nat) (s0 : ES), WA G (u ++ (b, p0) :: s0) Q (u' ++ (b, p0 ++ p') :: s0)
  | [], u, s, s', p, h, _ => ⟨u, [], by rw [List.append_nil]; exact h.symm, fun z _ => ⟨rfl, z⟩, fun b p0 s0 => by rw [List.append_nil]; rfl⟩
  | (it, x) :: Q, [], s, s', p, h, hn => by
    have hn' := fun q hq => hn q (List.mem_cons_of_mem _ hq)
    rcases h with ⟨h9, hx, hg, h⟩ | ⟨h9, rs, hg, hl, h⟩
    · exact absurd hx (hn (it, x) List.mem_cons_self h9)
    · obtain ⟨u', p', e, -, k⟩ := WA_ren (u := rs.map (fun r => (r, []))) h hn'
      refine ⟨u', x :: p', by rw [e]; simp, (fun _ z => by simp at z), fun b p0 s0 => Or.inr ⟨h9, rs, hg, hl, ?_⟩⟩
      have := k b (p0 ++ [x]) s0
      simpa using this
  | (it, x) :: Q, (b, q) :: u, s, s', p, h, hn => by
    have hn' := fun q hq => hn q (List.mem_cons_of_mem _ hq)
    rcases h with ⟨h9, hx, hg, h⟩ | ⟨h9, rs, hg, hl, h⟩
    · obtain ⟨u', p', e, -, k⟩ := WA_ren (u := u) h hn'
      exact ⟨u', p', e, (fun z => by simp at z), fun b p0 s0 => Or.inl ⟨h9, hx, hg, k b p0 s0⟩⟩
    · have h' : WA G ((rs.map (fun r => (r, [])) ++ (b, q ++ [x]) :: u) ++ (a, p) :: s) Q s' := by simpa using h
      obtain ⟨u', p', e, -, k⟩ := WA_ren h' hn'
      refine ⟨u', p', e, (fun z => by simp at z), fun b p0 s0 => Or.inr ⟨h9, rs, hg, hl, ?_⟩⟩
      have := k b p0 s0
      simpa using this
theorem WA_sub : ∀ {Q : List AI} {s : ES}, WA G s Q [] → (s.map Prod.fst).Sublist (Q.map Prod.snd)
  | [], s, h => by cases h; exact List.Sublist.refl _
  | (it, x) :: Q, [], h => h.elim
  | (it, x) :: Q, (a, p) :: s, h => by
    rcases h with ⟨h9, hx, hg, h⟩ | ⟨h9, rs, hg, hl, h⟩
    · show (a :: s.map Prod.fst).Sublist (x :: Q.map Prod.snd)
      rw [hx]
      exact (WA_sub h).cons₂ _
    · have := WA_sub h
      rw [List.map_append, List.map_cons] at this
      exact ((List.sublist_append_right _ _).trans this).cons _
theorem nd_mem {A C : List AI} {a : Nat} (nd : ((A ++ C).map Prod.snd).Nodup) (hC : ∃ it : It, (it, a) ∈ C ∧ it.1 = 9) : ∀ q ∈ A, q.2 ≠ a := fun q hq e => by
  rw [List.map_append] at nd
  obtain ⟨it, hm, -⟩ := hC
  exact (List.nodup_append.mp nd).2.2 a (List.mem_map.mpr ⟨q, hq, e⟩) a (List.mem_map.mpr ⟨_, hm, rfl⟩) rfl
/-- a binding's place is taken by others -/
theorem WA_splice {root a x : Nat} {p rest cs rs : List Nat} {r : Int32 × Int32} {A X C : List AI} {s : ES} (hA : WA G [(root, [])] A ((a, p) :: s)) (hC : WA G ((a, p ++ [x]) :: s) C []) (hX : WA G ((a, p) :: s) X ((a, p ++ cs) :: s)) (ha : G.1 a = some (p ++ x :: rest, r)) (nd : ((A ++ C).map Prod.snd).Nodup) (ndX : ∀ q ∈ X, q.2 ≠ a) :
    WA (gR G a (p ++ (cs ++ rest), r)) [(root, [])] A ((a, p) :: s) ∧ WA (gR G a (p ++ (cs ++ rest), r)) ((a, p) :: s) (X ++ C) [] := by
  have nA := nd_mem nd (WA_mem hC List.mem_cons_self).2
  refine ⟨WA_frame (fun q hq => ⟨fun _ => gR_ne (nA q hq), fun _ => rfl⟩) hA, WA_app.mpr ⟨_, WA_frame (fun q hq => ⟨fun _ => gR_ne (ndX q hq), fun _ => rfl⟩) hX, ?_⟩⟩
  have ndC : (C.map Prod.snd).Nodup := by rw [List.map_append] at nd; exact (List.nodup_append.mp nd).2.1
  have := WA_move (G := G) (G' := gR G a (p ++ (cs ++ rest), r)) (a := a) (p1 := p ++ [x]) (p2 := p ++ cs) (fun rest' r' h => by
    rw [ha] at h
    have h1 := congrArg Prod.fst (Option.some.inj h)
    have h2 := congrArg Prod.snd (Option.some.inj h)
    simp only at h1 h2
    rw [List.append_assoc] at h1
    have h3 := List.append_cancel_left h1
    have h4 : rest = rest' := by
      have := congrArg List.tail h3
      exact this
    rw [gR_at, ← h2, ← h4, List.append_assoc]) (Q := C) (u := []) (s := s) (p := []) (by rw [List.append_nil]; exact hC) (fun q hq => ⟨fun _ z => gR_ne z, fun _ => rfl⟩) ndC
  rw [List.append_nil] at this
  exact this
/-- a row's walk as a walk in another row -/
theorem WA_inner {c : Nat} {X : List AI} {e : It} (h : WA G [(c, [])] (X ++ [(e, c)]) []) (h9 : e.1 = 9) (nX : ∀ q ∈ X, q.2 ≠ c) : ∃ cs : List Nat, G.1 c = some (cs, e.2.2.2.1) ∧ ∀ (b : Nat) (p0 : List Nat) (s0 : ES), WA G ((b, p0) :: s0) X ((b, p0 ++ cs) :: s0) := by
  obtain ⟨m, h1, h2⟩ := WA_app.mp h
  obtain ⟨u', p', e1, -, k⟩ := WA_ren (u := []) h1 (fun q hq _ => nX q hq)
  match m, h2 with
  | [], h2 => exact h2.elim
  | (a, p) :: s, h2 =>
    rcases h2 with ⟨-, hx, hg, h⟩ | ⟨z, -⟩
    · have hs : s = [] := h
      rw [hs] at e1
      have hu : u' = [] ∧ (a, p) = (c, [] ++ p') := by
        match u', e1 with
        | [], e1 => exact ⟨rfl, by simpa using e1⟩
        | y :: u'', e1 =>
          exfalso
          have := congrArg List.length e1
          simp at this
      have h3 : p = p' := by have := congrArg Prod.snd hu.2; simpa using this
      refine ⟨p', by rw [← h3, hx]; exact hg, fun b p0 s0 => ?_⟩
      have := k b p0 s0
      rw [hu.1] at this
      simpa using this
    · exact absurd h9 z
/-- where a binding that is done stands -/
theorem WA_from : ∀ {Q : List AI} {s s' : ES} {c x : Nat} {q : List Nat}, WA G s Q s' → (c, q) ∈ s' → x ∈ q → x ∉ Q.map Prod.snd → ∃ q0, (c, q0) ∈ s ∧ x ∈ q0
  | [], s, s', c, x, q, h, hc, hx, _ => by cases h; exact ⟨q, hc, hx⟩
  | (it, y) :: Q, [], s', c, x, q, h, _, _, _ => h.elim
  | (it, y) :: Q, (a, p) :: s, s', c, x, q, h, hc, hx, hn => by
    have hn' : x ≠ y ∧ x ∉ Q.map Prod.snd := by
      rw [List.map_cons, List.mem_cons, not_or] at hn; exact hn
    rcases h with ⟨h9, hxx, hg, h⟩ | ⟨h9, rs, hg, hl, h⟩
    · obtain ⟨q0, m, k⟩ := WA_from h hc hx hn'.2
      exact ⟨q0, List.mem_cons_of_mem _ m, k⟩
    · obtain ⟨q0, m, k⟩ := WA_from h hc hx hn'.2
      rcases List.mem_append.mp m with m | m
      · obtain ⟨r, -, e⟩ := List.mem_map.mp m
        cases e; cases k
      · rcases List.mem_cons.mp m with m | m
        · cases m
          refine ⟨p, List.mem_cons_self, ?_⟩
          rcases List.mem_append.mp k with k | k
          · exact k
          · exact absurd (List.mem_singleton.mp k) hn'.1
        · exact ⟨q0, List.mem_cons_of_mem _ m, k⟩
def ecn (x : Nat) (s : ES) : Nat := (s.flatMap Prod.snd).count x
theorem WA_cnt : ∀ {Q : List AI} {s s' : ES} (x : Nat), WA G s Q s' → ecn x s' ≤ ecn x s + (Q.map Prod.snd).count x
  | [], s, s', x, h => by cases h; exact Nat.le_add_right _ _
  | (it, y) :: Q, [], s', x, h => h.elim
  | (it, y) :: Q, (a, p) :: s, s', x, h => by
    have e0 : ecn x ((a, p) :: s) = p.count x + ecn x s := by unfold ecn; rw [List.flatMap_cons, List.count_append]
    have e1 : (((it, y) :: Q).map Prod.snd).count x = (Q.map Prod.snd).count x + (if y = x then 1 else 0) := by
      rw [List.map_cons, List.count_cons]
      simp
    rcases h with ⟨h9, hxx, hg, h⟩ | ⟨h9, rs, hg, hl, h⟩
    · have := WA_cnt x h
      omega
    · have := WA_cnt x h
      have e2 : ecn x (rs.map (fun r => (r, [])) ++ (a, p ++ [y]) :: s) = (p.count x + (if y = x then 1 else 0)) + ecn x s := by
        unfold ecn
        rw [List.flatMap_append, List.flatMap_cons, List.count_append, List.count_append]
        have : (rs.map (fun r => ((r, []) : Nat × List Nat))).flatMap Prod.snd = [] := by
          rw [List.flatMap_eq_nil_iff]
          intro z hz
          obtain ⟨r, -, e⟩ := List.mem_map.mp hz
          rw [← e]
        rw [this]
        simp [List.count_cons]
      omega
theorem WA_in : ∀ {Q : List AI} {s s' : ES} {c y : Nat} {q : List Nat}, WA G s Q s' → (c, q) ∈ s' → y ∈ q → (∃ q0, (c, q0) ∈ s ∧ y ∈ q0) ∨ ∃ (it : It) (rs : List Nat), (it, y) ∈ Q ∧ it.1 ≠ 9 ∧ G.2 y = some (it, rs)
  | [], s, s', c, y, q, h, hc, hy => by cases h; exact Or.inl ⟨q, hc, hy⟩
  | (it, x) :: Q, [], s', c, y, q, h, _, _ => h.elim
  | (it, x) :: Q, (a, p) :: s, s', c, y, q, h, hc, hy => by
    rcases h with ⟨h9, hxx, hg, h⟩ | ⟨h9, rs, hg, hl, h⟩
    · rcases WA_in h hc hy with ⟨q0, m, k⟩ | ⟨it', rs', m, k⟩
      · exact Or.inl ⟨q0, List.mem_cons_of_mem _ m, k⟩
      · exact Or.inr ⟨it', rs', List.mem_cons_of_mem _ m, k⟩
    · rcases WA_in h hc hy with ⟨q0, m, k⟩ | ⟨it', rs', m, k⟩
      · rcases List.mem_append.mp m with m | m
        · obtain ⟨r, -, e⟩ := List.mem_map.mp m
          cases e; cases k
        · rcases List.mem_cons.mp m with m | m
          · cases m
            rcases List.mem_append.mp k with k | k
            · exact Or.inl ⟨p, List.mem_cons_self, k⟩
            · rw [List.mem_singleton.mp k]
              exact Or.inr ⟨it, rs, List.mem_cons_self, h9, hg⟩
          · exact Or.inl ⟨q0, List.mem_cons_of_mem _ m, k⟩
      · exact Or.inr ⟨it', rs', List.mem_cons_of_mem _ m, k⟩
theorem WA_rest : ∀ {Q : List AI} {s : ES} {c y : Nat} {q rest : List Nat} {r : Int32 × Int32}, WA G s Q [] → (c, q) ∈ s → G.1 c = some (q ++ rest, r) → y ∈ rest → ∃ (it : It) (rs : List Nat), (it, y) ∈ Q ∧ it.1 ≠ 9 ∧ G.2 y = some (it, rs)
  | [], s, c, y, q, rest, r, h, hc, _, _ => by cases h; cases hc
  | (it, x) :: Q, [], c, y, q, rest, r, h, _, _, _ => h.elim
  | (it, x) :: Q, (a, p) :: s, c, y, q, rest, r, h, hc, hG, hy => by
    rcases h with ⟨h9, hxx, hg, h⟩ | ⟨h9, rs, hg, hl, h⟩
    · rcases List.mem_cons.mp hc with m | m
      · cases m
        rw [hG] at hg
        have : p ++ rest = p := congrArg Prod.fst (Option.some.inj hg)
        have : rest = [] := by simpa using this
        rw [this] at hy; cases hy
      · obtain ⟨it', rs', m', k⟩ := WA_rest h m hG hy
        exact ⟨it', rs', List.mem_cons_of_mem _ m', k⟩
    · rcases List.mem_cons.mp hc with m | m
      · cases m
        obtain ⟨⟨rest', r', e⟩, -⟩ := WA_mem (a := a) (p := p ++ [x]) h (List.mem_append_right _ List.mem_cons_self)
        have e' : p ++ rest = p ++ [x] ++ rest' := by rw [hG] at e; exact congrArg Prod.fst (Option.some.inj e)
        have e'' : rest = x :: rest' := by
          rw [List.append_assoc] at e'
          exact List.append_cancel_left e'
        rw [e''] at hy
        rcases List.mem_cons.mp hy with hy | hy
        · rw [hy]; exact ⟨it, rs, List.mem_cons_self, h9, hg⟩
        · obtain ⟨it', rs', m', k⟩ := WA_rest h (List.mem_append_right _ List.mem_cons_self) (by rw [hG, e']) hy
          exact ⟨it', rs', List.mem_cons_of_mem _ m', k⟩
      · obtain ⟨it', rs', m', k⟩ := WA_rest h (List.mem_append_right _ (List.mem_cons_of_mem _ m)) hG hy
        exact ⟨it', rs', List.mem_cons_of_mem _ m', k⟩
def elen (s : ES) : Nat := (s.flatMap Prod.snd).length
theorem WA_len : ∀ {Q : List AI} {s s' : ES}, WA G s Q s' → elen s' ≤ elen s + cntB (AP Q)
  | [], s, s', h => by cases h; exact Nat.le_add_right _ _
  | (it, y) :: Q, [], s', h => h.elim
  | (it, y) :: Q, (a, p) :: s, s', h => by
    have e0 : elen ((a, p) :: s) = p.length + elen s := by unfold elen; rw [List.flatMap_cons, List.length_append]
    have e1 : cntB (AP ((it, y) :: Q)) = (if it.1 = 9 then 0 else 1) + cntB (AP Q) := rfl
    rcases h with ⟨h9, hxx, hg, h⟩ | ⟨h9, rs, hg, hl, h⟩
    · have := WA_len h
      omega
    · have := WA_len h
      rw [if_neg h9] at e1
      have e2 : elen (rs.map (fun r => (r, [])) ++ (a, p ++ [y]) :: s) = (p.length + 1) + elen s := by
        unfold elen
        rw [List.flatMap_append, List.flatMap_cons, List.length_append, List.length_append]
        have : (rs.map (fun r => ((r, []) : Nat × List Nat))).flatMap Prod.snd = [] := by
          rw [List.flatMap_eq_nil_iff]
          intro z hz
          obtain ⟨r, -, e⟩ := List.mem_map.mp hz
          rw [← e]
        rw [this]
        simp
      omega
theorem elen_mem {s : ES} {c : Nat} {q : List Nat} (h : (c, q) ∈ s) : q.length ≤ elen s := by
  induction s with
  | nil => cases h
  | cons e s ih =>
    unfold elen
    rw [List.flatMap_cons, List.length_append]
    rcases List.mem_cons.mp h with h | h
    · rw [← h]; exact Nat.le_add_right _ _
    · exact Nat.le_trans (ih h) (Nat.le_add_left _ _)
theorem WA_rlen : ∀ {Q : List AI} {s : ES} {c : Nat} {q rest : List Nat} {r : Int32 × Int32}, WA G s Q [] → (c, q) ∈ s → G.1 c = some (q ++ rest, r) → rest.length ≤ cntB (AP Q)
  | [], s, c, q, rest, r, h, hc, _ => by cases h; cases hc
  | (it, x) :: Q, [], c, q, rest, r, h, _, _ => h.elim
  | (it, x) :: Q, (a, p) :: s, c, q, rest, r, h, hc, hG => by
    have e1 : cntB (AP ((it, x) :: Q)) = (if it.1 = 9 then 0 else 1) + cntB (AP Q) := rfl
    rcases h with ⟨h9, hxx, hg, h⟩ | ⟨h9, rs, hg, hl, h⟩
    · rcases List.mem_cons.mp hc with m | m
      · cases m
        rw [hG] at hg
        have : p ++ rest = p := congrArg Prod.fst (Option.some.inj hg)
        have : rest = [] := by simpa using this
        rw [this]; exact Nat.zero_le _
      · have := WA_rlen h m hG
        omega
    · rw [if_neg h9] at e1
      rcases List.mem_cons.mp hc with m | m
      · cases m
        obtain ⟨⟨rest', r', e⟩, -⟩ := WA_mem (a := a) (p := p ++ [x]) h (List.mem_append_right _ List.mem_cons_self)
        have e' : p ++ rest = p ++ [x] ++ rest' := by rw [hG] at e; exact congrArg Prod.fst (Option.some.inj e)
        have e'' : rest = x :: rest' := by
          rw [List.append_assoc] at e'
          exact List.append_cancel_left e'
        have := WA_rlen h (List.mem_append_right _ List.mem_cons_self) (by rw [hG, e'])
        rw [e'', List.length_cons]
        omega
      · have := WA_rlen h (List.mem_append_right _ (List.mem_cons_of_mem _ m)) hG
        omega
end M34
