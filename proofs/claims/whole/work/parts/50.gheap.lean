/-! ===== the class: how the heap holds the graph ===== -/
def AtH (h : PH) (x : Nat) (v : Int32 × Int32) : Prop := h.1 x = some (1, [.int v.1, .int v.2]) ∧ (v.1 = 0 ∨ v.1 = 1)
def ikd (it : It) : Int32 := match it.1 with
  | 2 => 2
  | 3 => 3
  | 5 => 5
  | _ => 6
def refs (l : List Nat) : List Value := l.map Value.ref
theorem refs_at {l : List Nat} {j x : Nat} (h : l[j]? = some x) : (refs l)[j]? = some (.ref x) := by unfold refs; rw [List.getElem?_map, h]; rfl
theorem refs_inj : ∀ {l l' : List Nat}, refs l = refs l' → l = l'
  | [], [], _ => rfl
  | [], _ :: _, h => by cases h
  | _ :: _, [], h => by cases h
  | x :: l, y :: l', h => by
    have h' : Value.ref x :: refs l = Value.ref y :: refs l' := h
    rw [List.cons.injEq] at h'
    rw [refs_inj h'.2]
    have := h'.1
    cases this
    rfl
theorem refs_len (l : List Nat) : (refs l).length = l.length := List.length_map ..
/-- the row at a; O says whose a cell is -/
def rowH (E : PE) (h : PH) (O : Nat → Nat × Nat) (a : Nat) (bs : List Nat) (r : Int32 × Int32) : Prop :=
  ∃ l e cap x : Nat, h.1 a = some (7, [.ref l, .ref x]) ∧ AtH h x r ∧ LH E h l e bs cap ∧ O l = (a, 0) ∧ (e = E.2.1 2 ∨ O e = (a, 1)) ∧ bsH h bs
def bndH (h : PH) (O : Nat → Nat × Nat) (b : Nat) (it : It) (rs : List Nat) : Prop :=
  ∃ (at0 ar : Nat) (xs : List Nat) (dt : Int32), h.1 b = some (2, [.int it.2.1, .int (ikd it), .int dt, .ref at0, .ref ar]) ∧ (it.1 = 2 ∨ it.1 = 5 → dt = it.2.2.1) ∧ h.1 at0 = some (103, refs xs) ∧ xs.length = iat it ∧ (∀ j x, xs[j]? = some x → AtH h x (iatm it j)) ∧ O at0 = (b, 2) ∧ h.1 ar = some (104, refs rs) ∧ O ar = (b, 3)
def GH (E : PE) (h : PH) (O : Nat → Nat × Nat) (G : PG) : Prop := Wf h ∧ h.1 (E.2.1 2) = some (109, []) ∧ (∀ a bs r, G.1 a = some (bs, r) → rowH E h O a bs r) ∧ (∀ b it rs, G.2 b = some (it, rs) → bndH h O b it rs)
/-- cells that hold the graph -/
def gcl (O : Nat → Nat × Nat) (q t : Nat) : Prop := t = 0 ∨ t = 1 ∨ t = 2 ∨ t = 7 ∨ t = 106 ∨ t = 109 ∨ ((t = 103 ∨ t = 104) ∧ (O q).2 < 9)
theorem LH.mono {E : PE} {h h' : PH} {l e cap : Nat} {bs : List Nat} (hL : LH E h l e bs cap) (k : ∀ t fs q, (q = l ∨ q = e) → h.1 q = some (t, fs) → (t = 0 ∨ t = 106 ∨ t = 109) → h'.1 q = some (t, fs)) : LH E h' l e bs cap := by
  obtain ⟨⟨mc, h1⟩, h2, h3⟩ := hL
  refine ⟨⟨mc, k _ _ _ (Or.inl rfl) h1 (Or.inl rfl)⟩, ?_, h3⟩
  rcases h2 with ⟨a1, a2, a3, a4⟩ | ⟨fs, f1, f2⟩
  · exact Or.inl ⟨a1, a2, a3, k _ _ _ (Or.inr rfl) a4 (Or.inr (Or.inr rfl))⟩
  · exact Or.inr ⟨fs, k _ _ _ (Or.inr rfl) f1 (Or.inr (Or.inl rfl)), f2⟩
theorem rowH.mono {E : PE} {h h' : PH} {O O' : Nat → Nat × Nat} {a : Nat} {bs : List Nat} {r : Int32 × Int32} (hw : Wf h) (hR : rowH E h O a bs r) (hO : ∀ q, q < h.2.1 → O' q = O q) (k : ∀ q t fs, h.1 q = some (t, fs) → t = 7 ∧ q = a ∨ t = 1 ∨ t = 2 ∨ t = 0 ∧ O q = (a, 0) ∨ t = 109 ∨ t = 106 ∧ O q = (a, 1) → h'.1 q = some (t, fs)) : rowH E h' O' a bs r := by
  obtain ⟨l, e, cap, x, h1, h2, h3, h4, h5, h6⟩ := hR
  obtain ⟨⟨mc, l1⟩, -, -⟩ := id h3
  refine ⟨l, e, cap, x, k _ _ _ h1 (Or.inl ⟨rfl, rfl⟩), ⟨k _ _ _ h2.1 (Or.inr (Or.inl rfl)), h2.2⟩, h3.mono (fun t fs q hq hh ht => ?_), by rw [hO l (hw _ _ l1)]; exact h4, ?_, fun b hb => (h6 b hb).imp fun ys hy => k _ _ _ hy (Or.inr (Or.inr (Or.inl rfl)))⟩
  · rcases hq with rfl | rfl
    · rw [l1] at hh; cases hh
      exact k _ _ _ l1 (Or.inr (Or.inr (Or.inr (Or.inl ⟨rfl, h4⟩))))
    · rcases h3.2.1 with ⟨-, -, -, a4⟩ | ⟨gs, f1, -, -, -, f5, -⟩
      · rw [a4] at hh; cases hh
        exact k _ _ _ a4 (Or.inr (Or.inr (Or.inr (Or.inr (Or.inl rfl)))))
      · rw [f1] at hh; cases hh
        exact k _ _ _ f1 (Or.inr (Or.inr (Or.inr (Or.inr (Or.inr ⟨rfl, h5.resolve_left f5⟩)))))
  · rcases h5 with h5 | h5
    · exact Or.inl h5
    · right
      rcases h3.2.1 with ⟨-, -, -, a4⟩ | ⟨gs, f1, -⟩
      · rw [hO e (hw _ _ a4)]; exact h5
      · rw [hO e (hw _ _ f1)]; exact h5
theorem bndH.mono {h h' : PH} {O O' : Nat → Nat × Nat} {b : Nat} {it : It} {rs : List Nat} (hw : Wf h) (hB : bndH h O b it rs) (hO : ∀ q, q < h.2.1 → O' q = O q) (k : ∀ q t fs, h.1 q = some (t, fs) → t = 1 ∨ t = 2 ∧ q = b ∨ t = 103 ∧ O q = (b, 2) ∨ t = 104 ∧ O q = (b, 3) → h'.1 q = some (t, fs)) : bndH h' O' b it rs := by
  obtain ⟨at0, ar, xs, dt, h1, h2, h3, h4, h5, h6, h7, h8⟩ := hB
  exact ⟨at0, ar, xs, dt, k _ _ _ h1 (Or.inr (Or.inl ⟨rfl, rfl⟩)), h2, k _ _ _ h3 (Or.inr (Or.inr (Or.inl ⟨rfl, h6⟩))), h4, fun j x hj => ⟨k _ _ _ (h5 j x hj).1 (Or.inl rfl), (h5 j x hj).2⟩, by rw [hO _ (hw _ _ h3)]; exact h6, k _ _ _ h7 (Or.inr (Or.inr (Or.inr ⟨rfl, h8⟩))), by rw [hO _ (hw _ _ h7)]; exact h8⟩
theorem GH.mono {E : PE} {h h' : PH} {O O' : Nat → Nat × Nat} {G : PG} (hG : GH E h O G) (hw : Wf h') (hO : ∀ q, q < h.2.1 → O' q = O q) (k : ∀ q t fs, h.1 q = some (t, fs) → gcl O q t → h'.1 q = some (t, fs)) : GH E h' O' G := by
  obtain ⟨g1, g2, g3, g4⟩ := hG
  refine ⟨hw, k _ _ _ g2 (by unfold gcl; omega), fun a bs r ha => (g3 a bs r ha).mono g1 hO (fun q t fs hq ht => k q t fs hq (by unfold gcl; omega)), fun b it rs hb => (g4 b it rs hb).mono g1 hO (fun q t fs hq ht => k q t fs hq ?_)⟩
  unfold gcl
  rcases ht with ht | ht | ht | ht
  · omega
  · omega
  · rw [ht.2]; simp only; omega
  · rw [ht.2]; simp only; omega
def gR (G : PG) (a : Nat) (v : List Nat × (Int32 × Int32)) : PG := (fun q => if q = a then some v else G.1 q, G.2)
def gB (G : PG) (b : Nat) (v : It × List Nat) : PG := (G.1, fun q => if q = b then some v else G.2 q)
/-- a row's result is another -/
theorem GH.res {E : PE} {h : PH} {O : Nat → Nat × Nat} {G : PG} {a l x x' : Nat} {bs : List Nat} {r r' : Int32 × Int32} (hG : GH E h O G) (ha : G.1 a = some (bs, r)) (hc : h.1 a = some (7, [.ref l, .ref x])) (hx : AtH h x' r') : GH E (pset h a (7, [.ref l, .ref x'])) O (gR G a (bs, r')) := by
  obtain ⟨g1, g2, g3, g4⟩ := hG
  have hne : ∀ q t fs, h.1 q = some (t, fs) → t ≠ 7 ∨ q ≠ a → (pset h a (7, [.ref l, .ref x'])).1 q = some (t, fs) := fun q t fs hq ht => by
    rw [pset_ne]; exact hq
    intro e
    rw [e, hc] at hq; cases hq
    rcases ht with z | z
    · exact z rfl
    · exact z e
  refine ⟨g1.set (g1 _ _ hc), hne _ _ _ g2 (Or.inl (by decide)), fun a2 bs2 r2 h2 => ?_, fun b it rs hb => (g4 b it rs hb).mono g1 (fun _ _ => rfl) (fun q t fs hq ht => hne q t fs hq (by omega))⟩
  by_cases e : a2 = a
  · subst e
    have h2' : (bs, r') = (bs2, r2) := by
      have : (gR G a2 (bs, r')).1 a2 = some (bs, r') := if_pos rfl
      rw [this] at h2; exact Option.some.inj h2
    cases h2'
    obtain ⟨l0, e0, cap, x0, h1, h2, h3, h4, h5, h6⟩ := g3 a2 bs r ha
    rw [hc] at h1; cases h1
    exact ⟨l, e0, cap, x', pset_at, ⟨hne _ _ _ hx.1 (Or.inl (by decide)), hx.2⟩, h3.mono (fun t fs q hq hh ht => hne _ _ _ hh (by omega)), h4, h5, fun b hb => (h6 b hb).imp fun ys hy => hne _ _ _ hy (Or.inl (by decide))⟩
  · have h2' : G.1 a2 = some (bs2, r2) := by
      have : (gR G a (bs, r')).1 a2 = G.1 a2 := if_neg e
      rw [← this]; exact h2
    exact (g3 a2 bs2 r2 h2').mono g1 (fun _ _ => rfl) (fun q t fs hq ht => hne q t fs hq (by omega))
/-- an atom of a binding is another -/
theorem GH.atm {E : PE} {h : PH} {O : Nat → Nat × Nat} {G : PG} {b at0 ar j x' : Nat} {it : It} {rs xs : List Nat} {v : Int32 × Int32} {v1 v2 v3 : Value} (hG : GH E h O G) (hb : G.2 b = some (it, rs)) (hc : h.1 b = some (2, [v1, v2, v3, .ref at0, .ref ar])) (ht : h.1 at0 = some (103, refs xs)) (hx : AtH h x' v) (hj : j < iat it) : GH E (pset h at0 (103, refs (xs.set j x'))) O (gB G b (sta it j v, rs)) := by
  obtain ⟨g1, g2, g3, g4⟩ := hG
  obtain ⟨at1, ar1, xs1, dt, h1, h2, h3, h4, h5, h6, h7, h8⟩ := g4 b it rs hb
  rw [hc] at h1; cases h1
  have e0 := h3.symm.trans ht
  have e1 : xs1 = xs := by
    exact refs_inj (congrArg Prod.snd (Option.some.inj e0))
  subst e1
  have hne : ∀ q t fs, h.1 q = some (t, fs) → t ≠ 103 ∨ O q ≠ (b, 2) → (pset h at0 (103, refs (xs1.set j x'))).1 q = some (t, fs) := fun q t fs hq ht' => by
    rw [pset_ne]; exact hq
    intro e
    rw [e, h3] at hq; cases hq
    rcases ht' with z | z
    · exact z rfl
    · exact z (by rw [e]; exact h6)
  refine ⟨g1.set (g1 _ _ h3), hne _ _ _ g2 (Or.inl (by decide)), fun a2 bs2 r2 h2 => (g3 a2 bs2 r2 h2).mono g1 (fun _ _ => rfl) (fun q t fs hq ht => hne q t fs hq (by omega)), fun b2 it2 rs2 hb2 => ?_⟩
  by_cases e : b2 = b
  · subst e
    have h2' : (sta it j v, rs) = (it2, rs2) := by
      have : (gB G b2 (sta it j v, rs)).2 b2 = some (sta it j v, rs) := if_pos rfl
      rw [this] at hb2; exact Option.some.inj hb2
    cases h2'
    have k1 : (sta it j v).1 = it.1 := by unfold sta; split <;> rfl
    have k2 : (sta it j v).2.1 = it.2.1 := by unfold sta; split <;> rfl
    have k3 : (sta it j v).2.2.1 = it.2.2.1 := by unfold sta; split <;> rfl
    have k4 : ikd (sta it j v) = ikd it := by unfold ikd; rw [k1]
    have k5 : iat (sta it j v) = iat it := (kd_eq k1).2.1
    refine ⟨at0, ar, xs1.set j x', dt, ?_, by rw [k1, k3]; exact h2, pset_at, by rw [List.length_set, k5]; exact h4, fun i x hi => ?_, h6, hne _ _ _ h7 (Or.inl (by decide)), h8⟩
    · rw [k2, k4]; exact hne _ _ _ hc (Or.inl (by decide))
    · rw [List.getElem?_set] at hi
      by_cases eij : j = i
      · subst eij
        rw [if_pos rfl, if_pos (by omega)] at hi
        cases hi
        have : iatm (sta it j v) j = v := by
          have : iat it ≤ 2 := by unfold iat; split <;> decide
          unfold iatm sta
          by_cases e : j = 0
          · rw [if_pos e, if_pos e]
          · rw [if_neg e, if_neg e]
        rw [this]
        exact ⟨hne _ _ _ hx.1 (Or.inl (by decide)), hx.2⟩
      · rw [if_neg eij] at hi
        have hil : i < iat it := by rw [← h4]; exact (List.getElem?_eq_some_iff.mp hi).1
        have : iatm (sta it j v) i = iatm it i := by
          have : iat it ≤ 2 := by unfold iat; split <;> decide
          unfold iatm sta
          by_cases e : i = 0
          · rw [if_pos e, if_pos e, if_neg (by omega)]
          · rw [if_neg e, if_neg e, if_pos (by omega)]
        rw [this]
        exact ⟨hne _ _ _ (h5 i x hi).1 (Or.inl (by decide)), (h5 i x hi).2⟩
  · have h2' : G.2 b2 = some (it2, rs2) := by
      have : (gB G b (sta it j v, rs)).2 b2 = G.2 b2 := if_neg e
      rw [← this]; exact hb2
    exact (g4 b2 it2 rs2 h2').mono g1 (fun _ _ => rfl) (fun q t fs hq ht => hne q t fs hq (by
      by_cases e1 : t = 103
      · right
        intro z
        rcases ht with ht | ht | ht | ht
        · omega
        · omega
        · rw [ht.2] at z; cases z; exact e rfl
        · omega
      · exact Or.inl e1))
/-- a row's bindings are others -/
theorem GH.row {E : PE} {h h' : PH} {O : Nat → Nat × Nat} {G : PG} {a l x e e' cap cap' : Nat} {bs bs' : List Nat} {r : Int32 × Int32} (hG : GH E h O G) (ha : G.1 a = some (bs, r)) (hc : h.1 a = some (7, [.ref l, .ref x])) (hx : AtH h x r) (hL : LH E h l e bs cap) (hOl : O l = (a, 0)) (hOe : e = E.2.1 2 ∨ O e = (a, 1))
    (hL' : LH E h' l e' bs' cap') (he : e' = e ∨ (e' = h.2.1 ∧ bs' ≠ [])) (hs : h.2.1 ≤ h'.2.1) (hq : ∀ q, q ≠ l → q ≠ e' → h'.1 q = h.1 q) (hw : Wf h') (hb : bsH h bs') (hst : e' ≠ E.2.1 2) :
    GH E h' (fun q => if q = e' then (a, 1) else O q) (gR G a (bs', r)) := by
  obtain ⟨g1, g2, g3, g4⟩ := hG
  obtain ⟨⟨mc, l1⟩, l2, -⟩ := id hL
  have hle : l < h.2.1 := g1 _ _ l1
  have hee : e < h.2.1 := by rcases l2 with ⟨-, -, -, a4⟩ | ⟨gs, f1, -⟩; exact g1 _ _ a4; exact g1 _ _ f1
  have hO : ∀ q, q < h.2.1 → (fun q => if q = e' then (a, 1) else O q) q = O q := fun q hq => by
    show (if q = e' then (a, 1) else O q) = O q
    by_cases z : q = e'
    · rw [if_pos z]
      rcases he with he | he
      · rw [z, he]
        exact ((hOe.resolve_left (fun y => hst (he.trans y)))).symm
      · omega
    · rw [if_neg z]
  have hne : ∀ q t fs, h.1 q = some (t, fs) → (t ≠ 0 ∨ O q ≠ (a, 0)) → (t ≠ 106 ∧ t ≠ 109 ∨ O q ≠ (a, 1)) → h'.1 q = some (t, fs) := fun q t fs hh h0 h1 => by
    rw [hq q (fun z => ?_) (fun z => ?_)]; exact hh
    · rw [z, l1] at hh; cases hh
      rcases h0 with h0 | h0
      · exact h0 rfl
      · exact h0 (by rw [z]; exact hOl)
    · have hlt := g1 _ _ hh
      rcases he with he | he
      · have hO1 := hOe.resolve_left (fun y => hst (he.trans y))
        rcases l2 with ⟨-, -, a3, -⟩ | ⟨gs, f1, -⟩
        · exact hst (he.trans a3)
        · rw [z, he, f1] at hh; cases hh
          rcases h1 with h1 | h1
          · exact h1.1 rfl
          · exact h1 (by rw [z, he]; exact hO1)
      · omega
  have hst1 : h'.1 (E.2.1 2) = some (109, []) := by
    rw [hq _ (fun z => ?_) (Ne.symm hst)]; exact g2
    rw [z, l1] at g2; cases g2
  refine ⟨hw, hst1, fun a2 bs2 r2 h2 => ?_, fun b it rs hb => (g4 b it rs hb).mono g1 hO (fun q t fs hh ht => hne q t fs hh (by omega) (by omega))⟩
  by_cases ea : a2 = a
  · subst ea
    have h2' : (bs', r) = (bs2, r2) := by
      have : (gR G a2 (bs', r)).1 a2 = some (bs', r) := if_pos rfl
      rw [this] at h2; exact Option.some.inj h2
    cases h2'
    refine ⟨l, e', cap', x, hne _ _ _ hc (Or.inl (by decide)) (Or.inl (by decide)), ⟨hne _ _ _ hx.1 (Or.inl (by decide)) (Or.inl (by decide)), hx.2⟩, hL', by rw [hO l hle]; exact hOl, Or.inr (if_pos rfl), fun b hb' => (hb b hb').imp fun ys hy => hne _ _ _ hy (Or.inl (by decide)) (Or.inl (by decide))⟩
  · have h2' : G.1 a2 = some (bs2, r2) := by
      have : (gR G a (bs', r)).1 a2 = G.1 a2 := if_neg ea
      rw [← this]; exact h2
    refine (g3 a2 bs2 r2 h2').mono g1 hO (fun q t fs hh ht => ?_)
    rcases ht with ht | ht | ht | ht | ht | ht
    · exact hne q t fs hh (by omega) (by omega)
    · exact hne q t fs hh (by omega) (by omega)
    · exact hne q t fs hh (by omega) (by omega)
    · refine hne q t fs hh (Or.inr (fun z => ?_)) (Or.inl (by omega))
      rw [ht.2] at z; cases z; exact ea rfl
    · obtain ⟨l2', e2', -, -, -, -, ⟨-, d2, -⟩, -⟩ := g3 a2 bs2 r2 h2'
      by_cases z : q = E.2.1 2
      · rw [z] at hh ⊢
        rw [g2] at hh; cases hh; exact hst1
      · by_cases zz : O q = (a, 1)
        · refine (hq q (fun y => ?_) (fun y => ?_)).trans hh
          · rw [y, l1] at hh; cases hh; cases ht
          · have hlt := g1 _ _ hh
            rcases he with he | he
            · rcases l2 with ⟨-, -, a3, -⟩ | ⟨gs, f1, -⟩
              · exact hst (he.trans a3)
              · rw [y, he, f1] at hh; cases hh; cases ht
            · omega
        · exact hne q t fs hh (by omega) (Or.inr zz)
    · refine hne q t fs hh (by omega) (Or.inr (fun z => ?_))
      rw [ht.2] at z; cases z; exact ea rfl
