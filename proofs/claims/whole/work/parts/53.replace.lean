/-! ===== the class: a name stands for an atom (replace) ===== -/
/-- what is known stays, but for the graph's own cells that change -/
def Fr (O : Nat → Nat × Nat) (h h' : PH) : Prop := ∀ q t fs, h.1 q = some (t, fs) → t ≠ 7 → t ≠ 0 → t ≠ 106 → ¬ (t = 103 ∧ (O q).2 < 9) → h'.1 q = some (t, fs)
theorem Fr.rf {O : Nat → Nat × Nat} {h : PH} : Fr O h h := fun _ _ _ hq _ _ _ _ => hq
theorem Fr.tr {O O' : Nat → Nat × Nat} {h h' h'' : PH} (hw : Wf h) (x : Fr O h h') (y : Fr O' h' h'') (hO : ∀ q, q < h.2.1 → O' q = O q) : Fr O h h'' := fun q t fs hq a b c d => y q t fs (x q t fs hq a b c d) a b c (by rw [hO q (hw _ _ hq)]; exact d)
theorem Fr.set {O : Nat → Nat × Nat} {h : PH} {a t0 : Nat} {fs0 : List Value} {c : PC} (ha : h.1 a = some (t0, fs0)) (ht : t0 = 7 ∨ t0 = 0 ∨ t0 = 106 ∨ (t0 = 103 ∧ (O a).2 < 9)) : Fr O h (pset h a c) := fun q t fs hq e1 e2 e3 e4 => by
  rw [pset_ne]; exact hq
  intro e
  rw [e, ha] at hq; cases hq
  rw [e] at e4
  omega
def Sb1 (nm : Int32) (v : Int32 × Int32) (it it' : It) : Prop := it'.1 = it.1 ∧ it'.2.1 = it.2.1 ∧ it'.2.2.1 = it.2.2.1 ∧ (it'.2.2.2.1 = it.2.2.2.1 ∨ (0 < iat it ∧ it.2.2.2.1 = (1, nm) ∧ it'.2.2.2.1 = v)) ∧ (it'.2.2.2.2 = it.2.2.2.2 ∨ (1 < iat it ∧ it.2.2.2.2 = (1, nm) ∧ it'.2.2.2.2 = v))
/-- some of the atoms that were the name are v now -/
def Sb (nm : Int32) (v : Int32 × Int32) (G G' : PG) : Prop := (∀ a bs r, G.1 a = some (bs, r) → ∃ r', G'.1 a = some (bs, r') ∧ (r' = r ∨ (r = (1, nm) ∧ r' = v))) ∧ (∀ b it rs, G.2 b = some (it, rs) → ∃ it', G'.2 b = some (it', rs) ∧ Sb1 nm v it it')
theorem Sb1.rf {nm : Int32} {v : Int32 × Int32} {it : It} : Sb1 nm v it it := ⟨rfl, rfl, rfl, Or.inl rfl, Or.inl rfl⟩
theorem Sb1.tr {nm : Int32} {v : Int32 × Int32} {a b c : It} (x : Sb1 nm v a b) (y : Sb1 nm v b c) : Sb1 nm v a c := by
  obtain ⟨x1, x2, x3, x4, x5⟩ := x
  obtain ⟨y1, y2, y3, y4, y5⟩ := y
  have hi : iat b = iat a := (kd_eq x1).2.1
  refine ⟨y1.trans x1, y2.trans x2, y3.trans x3, ?_, ?_⟩
  · rcases y4 with y | ⟨y, y', y''⟩
    · rw [y]; exact x4
    · rcases x4 with x | ⟨x, x', x''⟩
      · exact Or.inr ⟨by omega, by rw [← x]; exact y', y''⟩
      · exact Or.inr ⟨x, x', y''⟩
  · rcases y5 with y | ⟨y, y', y''⟩
    · rw [y]; exact x5
    · rcases x5 with x | ⟨x, x', x''⟩
      · exact Or.inr ⟨by omega, by rw [← x]; exact y', y''⟩
      · exact Or.inr ⟨x, x', y''⟩
theorem Sb.rf {nm : Int32} {v : Int32 × Int32} {G : PG} : Sb nm v G G := ⟨fun _ _ r h => ⟨r, h, Or.inl rfl⟩, fun _ it _ h => ⟨it, h, Sb1.rf⟩⟩
theorem Sb.tr {nm : Int32} {v : Int32 × Int32} {G G1 G2 : PG} (x : Sb nm v G G1) (y : Sb nm v G1 G2) : Sb nm v G G2 := by
  refine ⟨fun a bs r h => ?_, fun b it rs h => ?_⟩
  · obtain ⟨r1, h1, k1⟩ := x.1 a bs r h
    obtain ⟨r2, h2, k2⟩ := y.1 a bs r1 h1
    refine ⟨r2, h2, ?_⟩
    rcases k2 with k2 | ⟨k2, k3⟩
    · rw [k2]; exact k1
    · rcases k1 with k1 | ⟨k1, -⟩
      · rw [k1] at k2; exact Or.inr ⟨k2, k3⟩
      · exact Or.inr ⟨k1, k3⟩
  · obtain ⟨i1, h1, k1⟩ := x.2 b it rs h
    obtain ⟨i2, h2, k2⟩ := y.2 b i1 rs h1
    exact ⟨i2, h2, k1.tr k2⟩
theorem sa_sa {nm : Int32} {v x : Int32 × Int32} : sa nm v (sa nm v x) = sa nm v x := by
  unfold sa
  by_cases e : x = (1, nm)
  · rw [if_pos e]
    split <;> rfl
  · rw [if_neg e, if_neg e]
theorem sa_of {nm : Int32} {v x y : Int32 × Int32} (h : y = x ∨ (x = (1, nm) ∧ y = v)) : sa nm v y = sa nm v x := by
  rcases h with h | ⟨h1, h2⟩
  · rw [h]
  · unfold sa
    rw [if_pos h1, h2]
    split <;> rfl
theorem sa_keep {nm : Int32} {v x y : Int32 × Int32} (h : y = x ∨ (x = (1, nm) ∧ y = v)) (hx : sa nm v x = x) : y = x := by
  rcases h with h | ⟨h1, h2⟩
  · exact h
  · unfold sa at hx
    rw [if_pos h1] at hx
    rw [h2, hx]
theorem isb_isb {nm : Int32} {v : Int32 × Int32} {it : It} : isb nm v (isb nm v it) = isb nm v it := by
  have hi : iat (isb nm v it) = iat it := (kd_eq (it := isb nm v it) (it' := it) rfl).2.1
  show ipt nm v (isb nm v it) (iat (isb nm v it)) = _
  rw [hi]
  unfold isb ipt
  refine Prod.ext rfl (Prod.ext rfl (Prod.ext rfl (Prod.ext ?_ ?_)))
  · show (if 0 < iat it then sa nm v (if 0 < iat it then _ else _) else (if 0 < iat it then _ else _)) = (if 0 < iat it then _ else _)
    split
    · exact sa_sa
    · rfl
  · show (if 1 < iat it then sa nm v (if 1 < iat it then _ else _) else (if 1 < iat it then _ else _)) = (if 1 < iat it then _ else _)
    split
    · exact sa_sa
    · rfl
theorem Sb1.same {nm : Int32} {v : Int32 × Int32} {it it' : It} (h : Sb1 nm v it it') : isb nm v it' = isb nm v it := by
  obtain ⟨h1, h2, h3, h4, h5⟩ := h
  have hi : iat it' = iat it := (kd_eq h1).2.1
  unfold isb ipt
  rw [hi, h1, h2, h3]
  refine Prod.ext rfl (Prod.ext rfl (Prod.ext rfl (Prod.ext ?_ ?_)))
  · show (if 0 < iat it then sa nm v it'.2.2.2.1 else it'.2.2.2.1) = (if 0 < iat it then sa nm v it.2.2.2.1 else it.2.2.2.1)
    split
    next z => exact sa_of (h4.imp id (fun q => q.2))
    next z => exact h4.resolve_right (fun q => z q.1)
  · show (if 1 < iat it then sa nm v it'.2.2.2.2 else it'.2.2.2.2) = (if 1 < iat it then sa nm v it.2.2.2.2 else it.2.2.2.2)
    split
    next z => exact sa_of (h5.imp id (fun q => q.2))
    next z => exact h5.resolve_right (fun q => z q.1)
theorem Sb1.keep {nm : Int32} {v : Int32 × Int32} {it it' : It} (h : Sb1 nm v it it') (hd : isb nm v it = it) : it' = it := by
  obtain ⟨h1, h2, h3, h4, h5⟩ := h
  have d1 : (if 0 < iat it then sa nm v it.2.2.2.1 else it.2.2.2.1) = it.2.2.2.1 := congrArg (fun i : It => i.2.2.2.1) hd
  have d2 : (if 1 < iat it then sa nm v it.2.2.2.2 else it.2.2.2.2) = it.2.2.2.2 := congrArg (fun i : It => i.2.2.2.2) hd
  refine Prod.ext h1 (Prod.ext h2 (Prod.ext h3 (Prod.ext ?_ ?_)))
  · rcases h4 with h4 | ⟨z, h4⟩
    · exact h4
    · rw [if_pos z] at d1
      exact sa_keep (Or.inr h4) d1
  · rcases h5 with h5 | ⟨z, h5⟩
    · exact h5
    · rw [if_pos z] at d2
      exact sa_keep (Or.inr h5) d2
def mb (nm : Int32) (v : Int32 × Int32) (q : AI) : AI := (isb nm v q.1, q.2)
theorem mb_AP (nm : Int32) (v : Int32 × Int32) (Q : List AI) : AP (Q.map (mb nm v)) = (AP Q).map (isb nm v) := by
  unfold AP
  rw [List.map_map, List.map_map]
  rfl
theorem mb_snd (nm : Int32) (v : Int32 × Int32) (Q : List AI) : (Q.map (mb nm v)).map Prod.snd = Q.map Prod.snd := by
  rw [List.map_map]
  rfl
theorem mb_mb {nm : Int32} {v : Int32 × Int32} {Q : List AI} : (Q.map (mb nm v)).map (mb nm v) = Q.map (mb nm v) := by
  rw [List.map_map]
  refine List.map_congr_left (fun q _ => ?_)
  show (isb nm v (isb nm v q.1), q.2) = (isb nm v q.1, q.2)
  rw [isb_isb]
/-- the walk after some atoms are replaced -/
theorem Sb_WA {nm : Int32} {v : Int32 × Int32} {G G' : PG} (hS : Sb nm v G G') : ∀ {Q : List AI} {s s' : ES}, WA G s Q s' → ∃ Q', WA G' s Q' s' ∧ Q'.map (mb nm v) = Q.map (mb nm v)
  | [], s, s', h => ⟨[], h, rfl⟩
  | (it, x) :: Q, [], s', h => h.elim
  | (it, x) :: Q, (a, p) :: s, s', h => by
    rcases h with ⟨h9, hx, hg, h⟩ | ⟨h9, rs, hg, hl, h⟩
    · obtain ⟨Q', w, e⟩ := Sb_WA hS h
      obtain ⟨r', g1, g2⟩ := hS.1 _ _ _ hg
      have hi : iat it = 1 := by unfold iat; rw [h9]; rfl
      refine ⟨((it.1, it.2.1, it.2.2.1, r', it.2.2.2.2), x) :: Q', Or.inl ⟨h9, hx, g1, w⟩, ?_⟩
      show (isb nm v (it.1, it.2.1, it.2.2.1, r', it.2.2.2.2), x) :: Q'.map (mb nm v) = (isb nm v it, x) :: Q.map (mb nm v)
      rw [e, Sb1.same (it := it) (it' := (it.1, it.2.1, it.2.2.1, r', it.2.2.2.2)) ⟨rfl, rfl, rfl, g2.imp id (fun q => ⟨by omega, q.1, q.2⟩), Or.inl rfl⟩]
    · obtain ⟨Q', w, e⟩ := Sb_WA hS h
      obtain ⟨it', g1, g2⟩ := hS.2 _ _ _ hg
      refine ⟨(it', x) :: Q', Or.inr ⟨by rw [g2.1]; exact h9, rs, g1, by rw [(kd_eq g2.1).2.2.2]; exact hl, w⟩, ?_⟩
      show (isb nm v it', x) :: Q'.map (mb nm v) = (isb nm v it, x) :: Q.map (mb nm v)
      rw [e, g2.same]
theorem Sb_done {nm : Int32} {v : Int32 × Int32} {G G' : PG} (hS : Sb nm v G G') {Q : List AI} {s s' : ES} (h : WA G s (Q.map (mb nm v)) s') : WA G' s (Q.map (mb nm v)) s' := by
  refine (fun (key : ∀ {Q : List AI} {s s' : ES}, WA G s Q s' → (∀ q ∈ Q, isb nm v q.1 = q.1) → WA G' s Q s') => key h (fun q hq => ?_)) ?_
  · obtain ⟨q0, -, e⟩ := List.mem_map.mp hq
    rw [← e]
    exact isb_isb
  · intro Q
    induction Q with
    | nil => intro s s' h _; exact h
    | cons q Q ih =>
      obtain ⟨it, x⟩ := q
      intro s s' h hd
      match s, h with
      | [], h => exact h.elim
      | (a, p) :: s, h =>
        have hd0 := hd (it, x) List.mem_cons_self
        rcases h with ⟨h9, hx, hg, h⟩ | ⟨h9, rs, hg, hl, h⟩
        · obtain ⟨r', g1, g2⟩ := hS.1 _ _ _ hg
          have hi : iat it = 1 := by unfold iat; rw [h9]; rfl
          have d1 : (if 0 < iat it then sa nm v it.2.2.2.1 else it.2.2.2.1) = it.2.2.2.1 := congrArg (fun i : It => i.2.2.2.1) hd0
          rw [if_pos (by omega)] at d1
          rw [sa_keep g2 d1] at g1
          exact Or.inl ⟨h9, hx, g1, ih h (fun q hq => hd q (List.mem_cons_of_mem _ hq))⟩
        · obtain ⟨it', g1, g2⟩ := hS.2 _ _ _ hg
          rw [g2.keep hd0] at g1
          exact Or.inr ⟨h9, rs, g1, hl, ih h (fun q hq => hd q (List.mem_cons_of_mem _ hq))⟩
theorem WA_join {G : PG} {a x : Nat} {p rs : List Nat} {it : It} {R Q : List AI} (h9 : it.1 ≠ 9) (hg : G.2 x = some (it, rs)) (hl : rs.length = irw it) (hR : WA G (rs.map (fun r => (r, []))) R []) (hQ : WA G [(a, p ++ [x])] Q []) : WA G [(a, p)] ((it, x) :: (R ++ Q)) [] :=
  Or.inr ⟨h9, rs, hg, hl, WA_app.mpr ⟨[(a, p ++ [x])], by have := WA_tail [(a, p ++ [x])] hR; simpa using this, hQ⟩⟩
theorem mb_len {nm : Int32} {v : Int32 × Int32} {Q Q' : List AI} (h : Q'.map (mb nm v) = Q.map (mb nm v)) : Q'.length = Q.length ∧ tsum (AP Q') = tsum (AP Q) := by
  refine ⟨by have := congrArg List.length h; simpa using this, ?_⟩
  have := congrArg (fun L => tsum (AP L)) h
  simp only [mb_AP, isb_sum] at this
  exact this
section M30
variable {E : PE} {d : Nat} {O : Nat → Nat × Nat}
/-- what replace makes of a heap -/
def RpH (E : PE) (O : Nat → Nat × Nat) (nm : Int32) (v : Int32 × Int32) (h : PH) (G : PG) (h' : PH) (G' : PG) : Prop := GH E h' O G' ∧ Sb nm v G G' ∧ h'.2 = h.2 ∧ Fr O h h'
theorem RpH.rf {nm : Int32} {v : Int32 × Int32} {h : PH} {G : PG} (hG : GH E h O G) : RpH E O nm v h G h G := ⟨hG, Sb.rf, rfl, Fr.rf⟩
theorem RpH.tr {nm : Int32} {v : Int32 × Int32} {h h1 h2 : PH} {G G1 G2 : PG} (hG : GH E h O G) (x : RpH E O nm v h G h1 G1) (y : RpH E O nm v h1 G1 h2 G2) : RpH E O nm v h G h2 G2 :=
  ⟨y.1, x.2.1.tr y.2.1, y.2.2.1.trans x.2.2.1, x.2.2.2.tr hG.1 y.2.2.2 (fun _ _ => rfl)⟩
theorem AtH.fr {h h' : PH} {x : Nat} {v : Int32 × Int32} (k : Fr O h h') (hx : AtH h x v) : AtH h' x v := ⟨k _ _ _ hx.1 (by decide) (by decide) (by decide) (by omega), hx.2⟩
theorem lp_repA {nm : Int32} {v : Int32 × Int32} {it : It} {a x b : Nat} {rs : List Nat} {dp k y7 y8 y9 : Option Value} : ∀ (r j : Nat) (h : PH) (G : PG), j + r = iat it → GH E h O G → AtH h x v → G.2 b = some (ipt nm v it j, rs) →
    ∃ (h' : PH) (G' : PG), Ex E (d + 1) (80, 54, [some (.ref a), some (.int nm), some (.ref x), dp, k, some (.ref b), some (.int (nI j)), y7, y8, y9], []) h (80, 95, [some (.ref a), some (.int nm), some (.ref x), dp, k, some (.ref b), none, none, none, none], []) h' ∧ RpH E O nm v h G h' G' ∧ G'.2 b = some (isb nm v it, rs) := by
  have hi2 : iat it ≤ 2 := by unfold iat; split <;> decide
  intro r
  induction r with
  | zero =>
    intro j h G hj hG hx hb
    obtain ⟨at0, ar, xs, dt, b1, b2, b3, b4, b5, b6, b7, b8⟩ := hG.2.2.2 b _ rs hb
    have b4' : xs.length = iat it := b4.trans (kd_eq (it := ipt nm v it j) (it' := it) rfl).2.1
    refine ⟨h, G, ?_, RpH.rf hG, by rw [hb]; show some (ipt nm v it j, rs) = some (ipt nm v it (iat it), rs); rw [show j = iat it by omega]⟩
    refine Ex.tr (F1 := (80, 56, _, _)) (x_iload rfl rfl) ?_
    refine Ex.tr (F1 := (80, 58, _, _)) (x_aload rfl rfl rfl) ?_
    refine Ex.tr (F1 := (80, 61, _, _)) (x_getf rfl rfl b1 rfl) ?_
    refine Ex.tr (F1 := (80, 62, _, _)) (x_alen rfl b3 rfl) ?_
    refine Ex.tr (F1 := (80, 62, _, _)) (x_top (congrArg nI (refs_len xs))) ?_
    refine Ex.tr (F1 := (80, 95, _, _)) (x_icT rfl (tg := 95) rfl (show nI xs.length ≤ nI j from nI_le (by omega) (by omega))) ?_
    exact x_wk ⟨Or.inr rfl, Or.inr rfl, Or.inr rfl, Or.inr rfl, Or.inr rfl, Or.inr rfl, Or.inl rfl, Or.inl rfl, Or.inl rfl, Or.inl rfl, trivial⟩
  | succ r ih =>
    intro j h G hj hG hx hb
    obtain ⟨at0, ar, xs, dt, b1, b2, b3, b4, b5, b6, b7, b8⟩ := hG.2.2.2 b _ rs hb
    have b4' : xs.length = iat it := b4.trans (kd_eq (it := ipt nm v it j) (it' := it) rfl).2.1
    have hz : ∃ z, xs[j]? = some z := ⟨xs[j]'(by omega), List.getElem?_eq_getElem (by omega)⟩
    obtain ⟨z, hz⟩ := hz
    have hA := b5 j z hz
    rw [ipt_atm (by omega)] at hA
    have hnm := c_isName (E := E) (d := d) (nm := nm) hA
    by_cases e : iatm it j = (1, nm)
    · have hg1 := hG.atm hb b1 b3 hx (j := j) (by rw [(kd_eq (it := ipt nm v it j) (it' := it) rfl).2.1]; omega)
      have es : sta (ipt nm v it j) j v = ipt nm v it (j + 1) := by rw [ipt_next (by omega), e]; congr 1; unfold sa; rw [if_pos rfl]
      rw [es] at hg1
      have f1 : Fr O h (pset h at0 (103, refs (xs.set j x))) := Fr.set b3 (Or.inr (Or.inr (Or.inr ⟨rfl, by rw [b6]; show 2 < 9; omega⟩)))
      have s1 : Sb nm v G (gB G b (ipt nm v it (j + 1), rs)) := by
        refine ⟨fun a0 bs0 r0 h0 => ⟨r0, h0, Or.inl rfl⟩, fun b0 it0 rs0 h0 => ?_⟩
        by_cases eb : b0 = b
        · rw [eb, hb] at h0; cases h0
          refine ⟨ipt nm v it (j + 1), if_pos eb, rfl, rfl, rfl, ?_, ?_⟩
          · show (if 0 < j + 1 then sa nm v it.2.2.2.1 else it.2.2.2.1) = (if 0 < j then sa nm v it.2.2.2.1 else it.2.2.2.1) ∨ (0 < iat it ∧ (if 0 < j then sa nm v it.2.2.2.1 else it.2.2.2.1) = (1, nm) ∧ (if 0 < j + 1 then sa nm v it.2.2.2.1 else it.2.2.2.1) = v)
            rw [if_pos (by omega)]
            by_cases e0 : j = 0
            · rw [if_neg (by omega)]
              right
              have e' : it.2.2.2.1 = (1, nm) := by rw [e0] at e; exact e
              exact ⟨by omega, e', by unfold sa; rw [if_pos e']⟩
            · rw [if_pos (by omega)]; exact Or.inl rfl
          · show (if 1 < j + 1 then sa nm v it.2.2.2.2 else it.2.2.2.2) = (if 1 < j then sa nm v it.2.2.2.2 else it.2.2.2.2) ∨ (1 < iat it ∧ (if 1 < j then sa nm v it.2.2.2.2 else it.2.2.2.2) = (1, nm) ∧ (if 1 < j + 1 then sa nm v it.2.2.2.2 else it.2.2.2.2) = v)
            by_cases e0 : j = 0
            · rw [if_neg (by omega), if_neg (by omega)]; exact Or.inl rfl
            · rw [if_pos (by omega), if_neg (by omega)]
              right
              have e' : it.2.2.2.2 = (1, nm) := by
                unfold iatm at e
                rw [if_neg e0] at e; exact e
              exact ⟨by omega, e', by unfold sa; rw [if_pos e']⟩
        · exact ⟨it0, by show (if b0 = b then _ else G.2 b0) = _; rw [if_neg eb]; exact h0, Sb1.rf⟩
      obtain ⟨h', G', k1, k2, k3⟩ := ih (j + 1) _ _ (by omega) hg1 (hx.fr f1) (if_pos rfl)
      refine ⟨h', G', ?_, RpH.tr hG ⟨hg1, s1, rfl, f1⟩ k2, k3⟩
      rw [← nI_1 j] at k1
      have em : (refs xs).set j (Value.ref x) = refs (xs.set j x) := by unfold refs; rw [List.map_set]
      rw [← em] at k1
      rw [if_pos e] at hnm
      refine Ex.tr (F1 := (80, 56, _, _)) (x_iload rfl rfl) ?_
      refine Ex.tr (F1 := (80, 58, _, _)) (x_aload rfl rfl rfl) ?_
      refine Ex.tr (F1 := (80, 61, _, _)) (x_getf rfl rfl b1 rfl) ?_
      refine Ex.tr (F1 := (80, 62, _, _)) (x_alen rfl b3 rfl) ?_
      refine Ex.tr (F1 := (80, 62, _, _)) (x_top (congrArg nI (refs_len xs))) ?_
      refine Ex.tr (F1 := (80, 65, _, _)) (x_icF rfl (tg := 95) rfl (show ¬ nI xs.length ≤ nI j from nI_ge (by omega) (by omega))) ?_
      refine Ex.tr (F1 := (80, 67, _, _)) (x_aload rfl rfl rfl) ?_
      refine Ex.tr (F1 := (80, 70, _, _)) (x_getf rfl rfl b1 rfl) ?_
      refine Ex.tr (F1 := (80, 72, _, _)) (x_iload rfl rfl) ?_
      refine Ex.tr (F1 := (80, 73, _, _)) (x_aald rfl b3 rfl rfl rfl (by omega) (refs_at hz)) ?_
      refine Ex.tr (F1 := (80, 74, _, _)) (x_iload_n rfl rfl) ?_
      refine Ex.tr (F1 := (80, 77, _, _)) (x_callv (As := [_]) rfl rfl rfl (Or.inl rfl) rfl rfl hA.1 (by decide) rfl (Nat.le_of_ble_eq_true rfl) hnm rfl) ?_
      refine Ex.tr (F1 := (80, 80, _, _)) (x_ifF rfl (tg := 89) rfl (show ¬ (1 : Int32) = 0 by decide)) ?_
      refine Ex.tr (F1 := (80, 82, _, _)) (x_aload rfl rfl rfl) ?_
      refine Ex.tr (F1 := (80, 85, _, _)) (x_getf rfl rfl b1 rfl) ?_
      refine Ex.tr (F1 := (80, 87, _, _)) (x_iload rfl rfl) ?_
      refine Ex.tr (F1 := (80, 88, _, _)) (x_aload_n rfl rfl rfl) ?_
      refine Ex.tr (F1 := (80, 89, _, _)) (x_aast rfl b3 hx.1 rfl rfl (by omega) (by rw [refs_len]; omega)) ?_
      refine Ex.tr (F1 := (80, 92, [_, _, _, _, _, _, _, _, _, _], _)) (x_iinc (i := 6) rfl rfl) ?_
      refine Ex.tr (F1 := (80, 54, _, _)) (x_goto rfl rfl) ?_
      exact k1
    · obtain ⟨h', G', k1, k2, k3⟩ := ih (j + 1) h G (by omega) hG hx (by rw [ipt_same (by omega) e]; exact hb)
      refine ⟨h', G', ?_, k2, k3⟩
      rw [← nI_1 j] at k1
      rw [if_neg e] at hnm
      refine Ex.tr (F1 := (80, 56, _, _)) (x_iload rfl rfl) ?_
      refine Ex.tr (F1 := (80, 58, _, _)) (x_aload rfl rfl rfl) ?_
      refine Ex.tr (F1 := (80, 61, _, _)) (x_getf rfl rfl b1 rfl) ?_
      refine Ex.tr (F1 := (80, 62, _, _)) (x_alen rfl b3 rfl) ?_
      refine Ex.tr (F1 := (80, 62, _, _)) (x_top (congrArg nI (refs_len xs))) ?_
      refine Ex.tr (F1 := (80, 65, _, _)) (x_icF rfl (tg := 95) rfl (show ¬ nI xs.length ≤ nI j from nI_ge (by omega) (by omega))) ?_
      refine Ex.tr (F1 := (80, 67, _, _)) (x_aload rfl rfl rfl) ?_
      refine Ex.tr (F1 := (80, 70, _, _)) (x_getf rfl rfl b1 rfl) ?_
      refine Ex.tr (F1 := (80, 72, _, _)) (x_iload rfl rfl) ?_
      refine Ex.tr (F1 := (80, 73, _, _)) (x_aald rfl b3 rfl rfl rfl (by omega) (refs_at hz)) ?_
      refine Ex.tr (F1 := (80, 74, _, _)) (x_iload_n rfl rfl) ?_
      refine Ex.tr (F1 := (80, 77, _, _)) (x_callv (As := [_]) rfl rfl rfl (Or.inl rfl) rfl rfl hA.1 (by decide) rfl (Nat.le_of_ble_eq_true rfl) hnm rfl) ?_
      refine Ex.tr (F1 := (80, 89, _, _)) (x_ifT rfl (tg := 89) rfl rfl) ?_
      refine Ex.tr (F1 := (80, 92, [_, _, _, _, _, _, _, _, _, _], _)) (x_iinc (i := 6) rfl rfl) ?_
      refine Ex.tr (F1 := (80, 54, _, _)) (x_goto rfl rfl) ?_
      exact k1
theorem lp_repR {nm : Int32} {v : Int32 × Int32} {D n dp a ar x b : Nat} {rs : List Nat} {it : It} {k : Option Value} (IH : ∀ (Q : List AI) (r : Nat) (h : PH) (G : PG), Q.length ≤ n → GH E h O G → AtH h x v → WA G [(r, [])] Q [] → 7 * (dp + 1) + tsum (AP Q) ≤ 210 → ∃ (h' : PH) (G' : PG), Rn E D 80 [.ref r, .int nm, .ref x, .int (nI (dp + 1))] h none h' ∧ RpH E O nm v h G h' G' ∧ WA G' [(r, [])] (Q.map (mb nm v)) []) (h2 : rs.length ≤ 2) : ∀ (rs2 rs1 : List Nat) (R : List AI) (h : PH) (G : PG) (y : Option Value), rs = rs1 ++ rs2 → h.1 ar = some (104, refs rs) → (O ar).2 < 9 → GH E h O G → AtH h x v → WA G (rs2.map (fun r => (r, []))) R [] → R.length ≤ n → 7 * (dp + 1) + tsum (AP R) ≤ 210 →
    ∃ (h' : PH) (G' : PG), Ex E (D + 1) (80, 110, [some (.ref a), some (.int nm), some (.ref x), some (.int (nI dp)), k, some (.ref b), some (.ref ar), some (.int (nI rs.length)), some (.int (nI rs1.length)), y], []) h (80, 140, [some (.ref a), some (.int nm), some (.ref x), some (.int (nI dp)), k, none, none, none, none, none], []) h' ∧ RpH E O nm v h G h' G' ∧ WA G' (rs2.map (fun r => (r, []))) (R.map (mb nm v)) [] := by
  intro rs2
  induction rs2 with
  | nil =>
    intro rs1 R h G y e har hO hG hx hW _ _
    have hR := (WA_nil hW).1
    rw [List.append_nil] at e
    rw [hR]
    refine ⟨h, G, ?_, RpH.rf hG, rfl⟩
    refine Ex.tr (F1 := (80, 112, _, _)) (x_iload rfl rfl) ?_
    refine Ex.tr (F1 := (80, 114, _, _)) (x_iload rfl rfl) ?_
    refine Ex.tr (F1 := (80, 140, _, _)) (x_icT rfl (tg := 140) rfl (show nI rs.length ≤ nI rs1.length by rw [e]; exact Int32.le_refl _)) ?_
    exact x_wk ⟨Or.inr rfl, Or.inr rfl, Or.inr rfl, Or.inr rfl, Or.inr rfl, Or.inl rfl, Or.inl rfl, Or.inl rfl, Or.inl rfl, Or.inl rfl, trivial⟩
  | cons r rs2 ih =>
    intro rs1 R h G y e har hO hG hx hW hn ht
    obtain ⟨R1, R2, eR, w1, w2⟩ := WA_rows hW
    have hrs : rs[rs1.length]? = some r := by rw [e, List.getElem?_append_right (Nat.le_refl _), Nat.sub_self]; rfl
    have hlen : rs.length = rs1.length + (rs2.length + 1) := by rw [e, List.length_append, List.length_cons]
    have et : tsum (AP R) = tsum (AP R1) + tsum (AP R2) := by rw [eR, AP_app, tsum_app]
    have el : R.length = R1.length + R2.length := by rw [eR, List.length_append]
    obtain ⟨h1, G1, c1, c2, c3⟩ := IH R1 r h G (by omega) hG hx w1 (by omega)
    obtain ⟨R2', w2', e2⟩ := Sb_WA c2.2.1 w2
    obtain ⟨q1, q2⟩ := mb_len e2
    obtain ⟨h', G', k1, k2, k3⟩ := ih (rs1 ++ [r]) R2' h1 G1 (some (.ref r)) (by rw [e, List.append_assoc]; rfl) (c2.2.2.2 _ _ _ har (by decide) (by decide) (by decide) (by omega)) hO c2.1 (hx.fr c2.2.2.2) w2' (by omega) (by omega)
    rw [List.length_append, List.length_singleton, ← nI_1 rs1.length] at k1
    refine ⟨h', G', ?_, RpH.tr hG c2 k2, ?_⟩
    · refine Ex.tr (F1 := (80, 112, _, _)) (x_iload rfl rfl) ?_
      refine Ex.tr (F1 := (80, 114, _, _)) (x_iload rfl rfl) ?_
      refine Ex.tr (F1 := (80, 117, _, _)) (x_icF rfl (tg := 140) rfl (show ¬ nI rs.length ≤ nI rs1.length from nI_ge (by omega) (by omega))) ?_
      refine Ex.tr (F1 := (80, 119, _, _)) (x_aload rfl rfl rfl) ?_
      refine Ex.tr (F1 := (80, 121, _, _)) (x_iload rfl rfl) ?_
      refine Ex.tr (F1 := (80, 122, _, _)) (x_aald rfl har rfl rfl rfl (by omega) (refs_at hrs)) ?_
      refine Ex.tr (F1 := (80, 124, [_, _, _, _, _, _, _, _, _, _], _)) (x_astore (i := 9) rfl (Nat.le_of_ble_eq_true rfl)) ?_
      refine Ex.tr (F1 := (80, 126, _, _)) (x_aload rfl rfl rfl) ?_
      refine Ex.tr (F1 := (80, 127, _, _)) (x_iload_n rfl rfl) ?_
      refine Ex.tr (F1 := (80, 128, _, _)) (x_aload_n rfl rfl rfl) ?_
      refine Ex.tr (F1 := (80, 129, _, _)) (x_iload_n rfl rfl) ?_
      refine Ex.tr (F1 := (80, 130, _, _)) (x_iconst rfl) ?_
      refine Ex.tr (F1 := (80, 131, _, _)) (x_iadd rfl) ?_
      refine Ex.tr (F1 := (80, 131, _, _)) (x_top (nI_1 dp)) ?_
      refine Ex.tr (F1 := (80, 134, _, _)) (x_calls (As := [_, _, _, _]) rfl rfl rfl rfl rfl rfl (Nat.le_of_ble_eq_true rfl) c1 rfl) ?_
      refine Ex.tr (F1 := (80, 137, [_, _, _, _, _, _, _, _, _, _], _)) (x_iinc (i := 8) rfl rfl) ?_
      refine Ex.tr (F1 := (80, 110, _, _)) (x_goto rfl rfl) ?_
      exact k1
    · rw [eR, List.map_append, ← e2]
      have := WA_tail (rs2.map (fun r => (r, []))) (Sb_done k2.2.1 c3)
      exact WA_app.mpr ⟨_, this, k3⟩
theorem lp_repB {nm : Int32} {v : Int32 × Int32} {D n dp a x : Nat} (IH : ∀ (Q : List AI) (r : Nat) (h : PH) (G : PG), Q.length ≤ n → GH E h O G → AtH h x v → WA G [(r, [])] Q [] → 7 * (dp + 1) + tsum (AP Q) ≤ 210 → ∃ (h' : PH) (G' : PG), Rn E (D + 2) 80 [.ref r, .int nm, .ref x, .int (nI (dp + 1))] h none h' ∧ RpH E O nm v h G h' G' ∧ WA G' [(r, [])] (Q.map (mb nm v)) []) : ∀ (m : Nat) (Q : List AI) (p bs : List Nat) (r : Int32 × Int32) (h : PH) (G : PG) (y1 y2 y3 y4 y5 : Option Value), Q.length ≤ m → m ≤ n + 1 → GH E h O G → AtH h x v → G.1 a = some (bs, r) → sa nm v r = r → WA G [(a, p)] Q [] → 7 * dp + tsum (AP Q) ≤ 210 →
    ∃ (h' : PH) (G' : PG), Rk E (D + 3) (80, 19, [some (.ref a), some (.int nm), some (.ref x), some (.int (nI dp)), some (.int (nI p.length)), y1, y2, y3, y4, y5], []) h none h' ∧ RpH E O nm v h G h' G' ∧ WA G' [(a, p)] (Q.map (mb nm v)) [] := by
  intro m
  induction m with
  | zero =>
    intro Q p bs r h G y1 y2 y3 y4 y5 hm _ _ _ _ _ hW _
    have : Q = [] := List.length_eq_zero_iff.mp (Nat.le_zero.mp hm)
    rw [this] at hW; cases hW
  | succ m ih =>
    intro Q p bs r h G y1 y2 y3 y4 y5 hm hmn hG hx ha hr hW ht
    obtain ⟨l, e, cap, x0, h1, h2, h3, h4, h5, h6⟩ := hG.2.2.1 a bs r ha
    obtain ⟨mc, l1⟩ := h3.1
    have hln := h3.len
    rcases WA_row hW with ⟨it, eQ, e9, eg⟩ | ⟨it, b, rs, R, Q', eQ, e9, eg, el, w1, w2⟩
    · refine ⟨h, G, ?_, RpH.rf hG, ?_⟩
      · rw [ha] at eg; cases eg
        refine Rk.tr (F1 := (80, 21, _, _)) (x_iload rfl rfl) ?_
        refine Rk.tr (F1 := (80, 22, _, _)) (x_aload_n rfl rfl rfl) ?_
        refine Rk.tr (F1 := (80, 25, _, _)) (x_getf rfl rfl h1 rfl) ?_
        refine Rk.tr (F1 := (80, 28, _, _)) (x_callv (As := []) rfl rfl rfl (Or.inl rfl) rfl rfl l1 (by decide) rfl (Nat.le_of_ble_eq_true rfl) (c_lsize l1) rfl) ?_
        refine Rk.tr (F1 := (80, 146, _, _)) (x_icT rfl (tg := 146) rfl (Int32.le_refl _)) ?_
        exact Rk.end rfl (Or.inl ⟨rfl, rfl, rfl, rfl⟩)
      · rw [eQ]
        refine Or.inl ⟨e9, rfl, ?_, rfl⟩
        rw [eg]
        rw [ha] at eg; cases eg
        show _ = some (_, if 0 < iat it then sa nm v it.2.2.2.1 else it.2.2.2.1)
        rw [if_pos (by unfold iat; rw [e9]; exact Nat.one_pos), hr]
    · obtain ⟨rest', eb, ek⟩ := WA_next ha w2
      have er : bs.length = p.length + (rest'.length + 1) := by rw [eb, List.length_append, List.length_cons]
      obtain ⟨at0, ar, xs, dt, b1, b2, b3, b4, b5, b6, b7, b8⟩ := hG.2.2.2 b it rs eg
      have et : tsum (AP Q) = isz it + (tsum (AP R) + tsum (AP Q')) := by rw [eQ, AP_cons, AP_app]; simp only [tsum, tsum_app]
      have eL : Q.length = 1 + (R.length + Q'.length) := by rw [eQ, List.length_cons, List.length_append]; omega
      have e4 := isz_ge4 e9
      have e3 := tsum_pos w2
      have hr2 : rs.length ≤ 2 := by rw [el]; exact irw_le it
      -- the atoms
      have hip : ipt nm v it 0 = it := rfl
      obtain ⟨g1, G1, a1, a2, a3⟩ := lp_repA (E := E) (d := D + 2) (O := O) (nm := nm) (v := v) (it := it) (a := a) (x := x) (b := b) (rs := rs) (dp := some (.int (nI dp))) (k := some (.int (nI p.length))) (y7 := y3) (y8 := y4) (y9 := y5) (iat it) 0 h G (Nat.zero_add _) hG hx eg
      obtain ⟨R1, w1', e1⟩ := Sb_WA a2.2.1 w1
      obtain ⟨q1, q2⟩ := mb_len e1
      have ar1 := a2.2.2.2 _ _ _ b7 (by decide) (by decide) (by decide) (by omega)
      have b11 := a2.2.2.2 _ _ _ b1 (by decide) (by decide) (by decide) (by omega)
      -- the rows
      obtain ⟨g2, G2, c1, c2, c3⟩ := lp_repR (it := it) (k := some (.int (nI p.length))) (a := a) (b := b) IH hr2 rs [] R1 g1 G1 none rfl ar1 (by rw [b8]; show 3 < 9; omega) a2.1 (hx.fr a2.2.2.2) w1' (by omega) (by omega)
      have t2 := RpH.tr hG a2 c2
      obtain ⟨Q2, w2', e2⟩ := Sb_WA t2.2.1 w2
      obtain ⟨q3, q4⟩ := mb_len e2
      obtain ⟨r2, ha2, hr2'⟩ := t2.2.1.1 _ _ _ ha
      rw [sa_keep hr2' hr] at ha2
      obtain ⟨h', G', k1, k2, k3⟩ := ih Q2 (p ++ [b]) bs r g2 G2 none none none none none (by omega) (by omega) c2.1 (hx.fr t2.2.2.2) ha2 hr w2' (by omega)
      rw [List.length_append, List.length_singleton, ← nI_1 p.length] at k1
      refine ⟨h', G', ?_, RpH.tr hG t2 k2, ?_⟩
      · refine Rk.tr (F1 := (80, 21, _, _)) (x_iload rfl rfl) ?_
        refine Rk.tr (F1 := (80, 22, _, _)) (x_aload_n rfl rfl rfl) ?_
        refine Rk.tr (F1 := (80, 25, _, _)) (x_getf rfl rfl h1 rfl) ?_
        refine Rk.tr (F1 := (80, 28, _, _)) (x_callv (As := []) rfl rfl rfl (Or.inl rfl) rfl rfl l1 (by decide) rfl (Nat.le_of_ble_eq_true rfl) (c_lsize l1) rfl) ?_
        refine Rk.tr (F1 := (80, 31, _, _)) (x_icF rfl (tg := 146) rfl (show ¬ nI bs.length ≤ nI p.length from nI_ge (by omega) (by omega))) ?_
        refine Rk.tr (F1 := (80, 32, _, _)) (x_iload_n rfl rfl) ?_
        refine Rk.tr (F1 := (80, 34, _, _)) (x_bipush rfl) ?_
        refine Rk.tr (F1 := (80, 37, _, _)) (x_icF rfl (tg := 146) rfl (show ¬ nI 40 ≤ nI dp from nI_ge (by omega) (by omega))) ?_
        refine Rk.tr (F1 := (80, 38, _, _)) (x_aload_n rfl rfl rfl) ?_
        refine Rk.tr (F1 := (80, 41, _, _)) (x_getf rfl rfl h1 rfl) ?_
        refine Rk.tr (F1 := (80, 43, _, _)) (x_iload rfl rfl) ?_
        refine Rk.tr (F1 := (80, 46, _, _)) (x_callv (As := [_]) rfl rfl rfl (Or.inl rfl) rfl rfl l1 (by decide) rfl (Nat.le_of_ble_eq_true rfl) (c_get h3 ek) rfl) ?_
        refine Rk.tr (F1 := (80, 49, _, _)) (x_cast rfl rfl (by decide) b1) ?_
        refine Rk.tr (F1 := (80, 51, [_, _, _, _, _, _, _, _, _, _], _)) (x_astore (i := 5) rfl (Nat.le_of_ble_eq_true rfl)) ?_
        refine Rk.tr (F1 := (80, 52, _, _)) (x_iconst rfl) ?_
        refine Rk.tr (F1 := (80, 54, [_, _, _, _, _, _, _, _, _, _], _)) (x_istore (i := 6) rfl (Nat.le_of_ble_eq_true rfl)) ?_
        refine Rk.tr a1 ?_
        refine Rk.tr (F1 := (80, 97, _, _)) (x_aload rfl rfl rfl) ?_
        refine Rk.tr (F1 := (80, 100, _, _)) (x_getf rfl rfl b11 rfl) ?_
        refine Rk.tr (F1 := (80, 102, [_, _, _, _, _, _, _, _, _, _], _)) (x_astore (i := 6) rfl (Nat.le_of_ble_eq_true rfl)) ?_
        refine Rk.tr (F1 := (80, 104, _, _)) (x_aload rfl rfl rfl) ?_
        refine Rk.tr (F1 := (80, 105, _, _)) (x_alen rfl ar1 rfl) ?_
        refine Rk.tr (F1 := (80, 105, _, _)) (x_top (congrArg nI (refs_len rs))) ?_
        refine Rk.tr (F1 := (80, 107, [_, _, _, _, _, _, _, _, _, _], _)) (x_istore (i := 7) rfl (Nat.le_of_ble_eq_true rfl)) ?_
        refine Rk.tr (F1 := (80, 108, _, _)) (x_iconst rfl) ?_
        refine Rk.tr (F1 := (80, 110, [_, _, _, _, _, _, _, _, _, _], _)) (x_istore (i := 8) rfl (Nat.le_of_ble_eq_true rfl)) ?_
        refine Rk.tr c1 ?_
        refine Rk.tr (F1 := (80, 143, [_, _, _, _, _, _, _, _, _, _], _)) (x_iinc (i := 4) rfl rfl) ?_
        refine Rk.tr (F1 := (80, 19, _, _)) (x_goto rfl rfl) ?_
        exact k1
      · rw [eQ, List.map_cons, List.map_append, ← e1, ← e2]
        obtain ⟨it', z1, z2⟩ := (c2.2.1.tr k2.2.1).2 _ _ _ a3
        rw [z2.keep isb_isb] at z1
        exact WA_join (it := isb nm v it) e9 z1 el (Sb_done k2.2.1 c3) k3
theorem c_repl0 {nm : Int32} {v : Int32 × Int32} {x : Nat} : ∀ (n d dp : Nat) (Q : List AI) (a : Nat) (h : PH) (G : PG), Q.length ≤ n → GH E h O G → AtH h x v → WA G [(a, [])] Q [] → 7 * dp + tsum (AP Q) ≤ 210 → ∃ (h' : PH) (G' : PG), Rn E (d + n + 2) 80 [.ref a, .int nm, .ref x, .int (nI dp)] h none h' ∧ RpH E O nm v h G h' G' ∧ WA G' [(a, [])] (Q.map (mb nm v)) [] := by
  intro n
  induction n with
  | zero =>
    intro d dp Q a h G hm _ _ hW _
    have : Q = [] := List.length_eq_zero_iff.mp (Nat.le_zero.mp hm)
    rw [this] at hW; cases hW
  | succ n ih =>
    intro d dp Q a h G hm hG hx hW ht
    obtain ⟨⟨bs, r, ha⟩, -⟩ := WA_mem hW List.mem_cons_self
    rw [List.nil_append] at ha
    obtain ⟨l, e, cap, x0, h1, h2, h3, h4, h5, h6⟩ := hG.2.2.1 a bs r ha
    rw [show d + (n + 1) + 2 = (d + n) + 3 by omega]
    have hnm := c_isName (E := E) (d := d + n + 2) (nm := nm) h2
    by_cases er : r = (1, nm)
    · have g1 := hG.res ha h1 hx
      have f1 : Fr O h (pset h a (7, [.ref l, .ref x])) := Fr.set h1 (Or.inl rfl)
      have s1 : Sb nm v G (gR G a (bs, v)) := by
        refine ⟨fun a0 bs0 r0 h0 => ?_, fun b0 it0 rs0 h0 => ⟨it0, h0, Sb1.rf⟩⟩
        by_cases ea : a0 = a
        · rw [ea, ha] at h0; cases h0
          exact ⟨v, if_pos ea, Or.inr ⟨er, rfl⟩⟩
        · exact ⟨r0, by show (if a0 = a then _ else G.1 a0) = _; rw [if_neg ea]; exact h0, Or.inl rfl⟩
      have rp : RpH E O nm v h G _ _ := ⟨g1, s1, rfl, f1⟩
      obtain ⟨Q1, w1, e1⟩ := Sb_WA s1 hW
      obtain ⟨q1, q2⟩ := mb_len e1
      have hv : sa nm v v = v := by unfold sa; split <;> rfl
      obtain ⟨h', G', k1, k2, k3⟩ := lp_repB (E := E) (D := d + n) (n := n) (dp := dp) (fun Q r h G q1 q2 q3 q4 q5 => ih d (dp + 1) Q r h G q1 q2 q3 q4 q5) Q1.length Q1 [] bs v _ _ none none none none none (Nat.le_refl _) (by omega) g1 (hx.fr f1) (if_pos rfl) hv w1 (by omega)
      refine ⟨h', G', Rn.of (Nat.le_of_ble_eq_true rfl) ?_, RpH.tr hG rp k2, by rw [← e1]; exact k3⟩
      rw [if_pos er] at hnm
      refine Rk.tr (F1 := (80, 1, _, _)) (x_aload_n rfl rfl rfl) ?_
      refine Rk.tr (F1 := (80, 4, _, _)) (x_getf rfl rfl h1 rfl) ?_
      refine Rk.tr (F1 := (80, 5, _, _)) (x_iload_n rfl rfl) ?_
      refine Rk.tr (F1 := (80, 8, _, _)) (x_callv (As := [_]) rfl rfl rfl (Or.inl rfl) rfl rfl h2.1 (by decide) rfl (Nat.le_of_ble_eq_true rfl) hnm rfl) ?_
      refine Rk.tr (F1 := (80, 11, _, _)) (x_ifF rfl (tg := 16) rfl (show ¬ (1 : Int32) = 0 by decide)) ?_
      refine Rk.tr (F1 := (80, 12, _, _)) (x_aload_n rfl rfl rfl) ?_
      refine Rk.tr (F1 := (80, 13, _, _)) (x_aload_n rfl rfl rfl) ?_
      refine Rk.tr (F1 := (80, 16, _, _)) (x_putf rfl rfl h1 rfl rfl rfl) ?_
      refine Rk.tr (F1 := (80, 17, _, _)) (x_iconst rfl) ?_
      refine Rk.tr (F1 := (80, 19, [_, _, _, _, _, _, _, _, _, _], _)) (x_istore (i := 4) rfl (Nat.le_of_ble_eq_true rfl)) ?_
      exact k1
    · have hv : sa nm v r = r := by unfold sa; rw [if_neg er]
      obtain ⟨h', G', k1, k2, k3⟩ := lp_repB (E := E) (D := d + n) (n := n) (dp := dp) (fun Q r h G q1 q2 q3 q4 q5 => ih d (dp + 1) Q r h G q1 q2 q3 q4 q5) Q.length Q [] bs r h G none none none none none (Nat.le_refl _) (by omega) hG hx ha hv hW (by omega)
      refine ⟨h', G', Rn.of (Nat.le_of_ble_eq_true rfl) ?_, k2, k3⟩
      rw [if_neg er] at hnm
      refine Rk.tr (F1 := (80, 1, _, _)) (x_aload_n rfl rfl rfl) ?_
      refine Rk.tr (F1 := (80, 4, _, _)) (x_getf rfl rfl h1 rfl) ?_
      refine Rk.tr (F1 := (80, 5, _, _)) (x_iload_n rfl rfl) ?_
      refine Rk.tr (F1 := (80, 8, _, _)) (x_callv (As := [_]) rfl rfl rfl (Or.inl rfl) rfl rfl h2.1 (by decide) rfl (Nat.le_of_ble_eq_true rfl) hnm rfl) ?_
      refine Rk.tr (F1 := (80, 16, _, _)) (x_ifT rfl (tg := 16) rfl rfl) ?_
      refine Rk.tr (F1 := (80, 17, _, _)) (x_iconst rfl) ?_
      refine Rk.tr (F1 := (80, 19, [_, _, _, _, _, _, _, _, _, _], _)) (x_istore (i := 4) rfl (Nat.le_of_ble_eq_true rfl)) ?_
      exact k1
theorem c_repl {nm : Int32} {v : Int32 × Int32} {x a : Nat} {P : List AI} {h : PH} {G : PG} (hG : GH E h O G) (hx : AtH h x v) (hW : WA G [(a, [])] P []) (ht : tsum (AP P) ≤ 210) : ∃ (h' : PH) (G' : PG), Rn E (d + 73) 79 [.ref a, .int nm, .ref x] h none h' ∧ RpH E O nm v h G h' G' ∧ WA G' [(a, [])] (P.map (mb nm v)) [] := by
  have hl : P.length ≤ 70 := by
    have := len_sum (AP P)
    have e : (AP P).length = P.length := List.length_map ..
    omega
  obtain ⟨h', G', k1, k2, k3⟩ := c_repl0 (E := E) (O := O) (nm := nm) (v := v) (x := x) 70 d 0 P a h G hl hG hx hW (by omega)
  refine ⟨h', G', Rn.of (Nat.le_of_ble_eq_true rfl) ?_, k2, k3⟩
  refine Rk.tr (F1 := (79, 1, _, _)) (x_aload_n rfl rfl rfl) ?_
  refine Rk.tr (F1 := (79, 2, _, _)) (x_iload_n rfl rfl) ?_
  refine Rk.tr (F1 := (79, 3, _, _)) (x_aload_n rfl rfl rfl) ?_
  refine Rk.tr (F1 := (79, 4, _, _)) (x_iconst rfl) ?_
  refine Rk.tr (F1 := (79, 7, _, _)) (x_calls (As := [_, _, _, _]) rfl rfl rfl rfl rfl rfl (Nat.le_of_ble_eq_true rfl) k1 rfl) ?_
  exact Rk.end rfl (Or.inl ⟨rfl, rfl, rfl, rfl⟩)
end M30
