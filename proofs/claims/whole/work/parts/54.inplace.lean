/-! ===== the class: bindings are taken away and put in place ===== -/
/-- what a method may do to a heap with a graph: only the graph's own cells change, whose they are stays -/
def Ch (O : Nat → Nat × Nat) (h : PH) (O' : Nat → Nat × Nat) (h' : PH) : Prop := (∀ q, q < h.2.1 → O' q = O q) ∧ h.2.1 ≤ h'.2.1 ∧ h.2.2 ≤ h'.2.2 ∧ Fr O h h'
theorem Ch.rf {O : Nat → Nat × Nat} {h : PH} : Ch O h O h := ⟨fun _ _ => rfl, Nat.le_refl _, Nat.le_refl _, Fr.rf⟩
theorem Ch.tr {O O1 O2 : Nat → Nat × Nat} {h h1 h2 : PH} (hw : Wf h) (x : Ch O h O1 h1) (y : Ch O1 h1 O2 h2) : Ch O h O2 h2 :=
  ⟨fun q hq => (y.1 q (Nat.lt_of_lt_of_le hq x.2.1)).trans (x.1 q hq), Nat.le_trans x.2.1 y.2.1, Nat.le_trans x.2.2.1 y.2.2.1, x.2.2.2.tr hw y.2.2.2 x.1⟩
theorem RpH.ch {E : PE} {O : Nat → Nat × Nat} {nm : Int32} {v : Int32 × Int32} {h h' : PH} {G G' : PG} (x : RpH E O nm v h G h' G') : Ch O h O h' := ⟨fun _ _ => rfl, by rw [x.2.2.1]; exact Nat.le_refl _, by rw [x.2.2.1]; exact Nat.le_refl _, x.2.2.2⟩
theorem er_app {x : Nat} {rest : List Nat} : ∀ p : List Nat, (p ++ x :: rest).eraseIdx p.length = p ++ rest
  | [] => rfl
  | y :: p => by
    show y :: (p ++ x :: rest).eraseIdx p.length = _
    rw [er_app p]; rfl
theorem ins_app {b : Nat} {rest : List Nat} : ∀ p : List Nat, (p ++ rest).insertIdx p.length b = p ++ b :: rest
  | [] => by simp
  | y :: p => by
    show (y :: (p ++ rest)).insertIdx (p.length + 1) b = _
    rw [List.insertIdx_succ_cons, ins_app p]; rfl
theorem gR_at {G : PG} {a : Nat} {v : List Nat × (Int32 × Int32)} : (gR G a v).1 a = some v := if_pos rfl
theorem gR_ne {G : PG} {a q : Nat} {v : List Nat × (Int32 × Int32)} (h : q ≠ a) : (gR G a v).1 q = G.1 q := if_neg h
theorem gR_gR {G : PG} {a : Nat} {v w : List Nat × (Int32 × Int32)} : gR (gR G a v) a w = gR G a w := by
  refine Prod.ext (funext fun q => ?_) rfl
  show (if q = a then _ else if q = a then _ else _) = (if q = a then _ else _)
  split <;> rfl
section M31
variable {E : PE} {d : Nat} {O : Nat → Nat × Nat} {G : PG} {h : PH}
theorem c_take {a x : Nat} {p rest : List Nat} {r : Int32 × Int32} (hG : GH E h O G) (ha : G.1 a = some (p ++ x :: rest, r)) :
    ∃ (h' : PH) (O' : Nat → Nat × Nat), Rn E (d + 3) 78 [.ref a, .int (nI p.length)] h none h' ∧ GH E h' O' (gR G a (p ++ rest, r)) ∧ Ch O h O' h' ∧ h'.2 = h.2 := by
  obtain ⟨l, e, cap, x0, h1, h2, h3, h4, h5, h6⟩ := hG.2.2.1 a _ r ha
  obtain ⟨mc, l1⟩ := id h3.1
  have hln := h3.len
  rw [List.length_append, List.length_cons] at hln
  have ek : (p ++ x :: rest)[p.length]? = some x := by rw [List.getElem?_append_right (Nat.le_refl _), Nat.sub_self]; rfl
  obtain ⟨h', k1, k2, k3, k4, k5⟩ := c_remove (E := E) (d := d) hG.1 h3 h6 ek
  rw [er_app] at k2
  have hst : e ≠ E.2.1 2 := by
    rcases h3.2.1 with ⟨-, a2, -⟩ | ⟨fs, -, -, -, -, f5, -⟩
    · simp at a2
    · exact f5
  have ht6 : ∃ fs, h.1 e = some (106, fs) := by
    rcases h3.2.1 with ⟨-, a2, -⟩ | ⟨fs, f1, -⟩
    · simp at a2
    · exact ⟨fs, f1⟩
  obtain ⟨gs, g6⟩ := ht6
  have hg := hG.row ha h1 h2 h3 h4 h5 k2 (Or.inl rfl) (by rw [k4]; exact Nat.le_refl _) k3 k5 (fun b hb => h6 b (by
    rcases List.mem_append.mp hb with z | z
    · exact List.mem_append_left _ z
    · exact List.mem_append_right _ (List.mem_cons_of_mem _ z))) hst
  refine ⟨h', _, Rn.of (Nat.le_of_ble_eq_true rfl) ?_, hg, ⟨fun q hq => ?_, by rw [k4]; exact Nat.le_refl _, by rw [k4]; exact Nat.le_refl _, fun q t fs hq e1 e2 e3 e4 => ?_⟩, k4⟩
  · refine Rk.tr (F1 := (78, 1, _, _)) (x_iload_n rfl rfl) ?_
    refine Rk.tr (F1 := (78, 4, _, _)) (x_ifF rfl (tg := 24) rfl (show ¬ nI p.length < nI 0 from Int32.not_lt.mpr (nI_le (by omega) (by omega)))) ?_
    refine Rk.tr (F1 := (78, 5, _, _)) (x_iload_n rfl rfl) ?_
    refine Rk.tr (F1 := (78, 6, _, _)) (x_aload_n rfl rfl rfl) ?_
    refine Rk.tr (F1 := (78, 9, _, _)) (x_getf rfl rfl h1 rfl) ?_
    refine Rk.tr (F1 := (78, 12, _, _)) (x_callv (As := []) rfl rfl rfl (Or.inl rfl) rfl rfl l1 (by decide) rfl (Nat.le_of_ble_eq_true rfl) (c_lsize l1) rfl) ?_
    refine Rk.tr (F1 := (78, 15, _, _)) (x_icF rfl (tg := 24) rfl (show ¬ nI (p ++ x :: rest).length ≤ nI p.length by rw [List.length_append, List.length_cons]; exact nI_ge (by omega) (by omega))) ?_
    refine Rk.tr (F1 := (78, 16, _, _)) (x_aload_n rfl rfl rfl) ?_
    refine Rk.tr (F1 := (78, 19, _, _)) (x_getf rfl rfl h1 rfl) ?_
    refine Rk.tr (F1 := (78, 20, _, _)) (x_iload_n rfl rfl) ?_
    refine Rk.tr (F1 := (78, 23, _, _)) (x_callv (As := [_]) rfl rfl rfl (Or.inl rfl) rfl rfl l1 (by decide) rfl (Nat.le_of_ble_eq_true rfl) k1 rfl) ?_
    refine Rk.tr (F1 := (78, 24, _, _)) (x_pop rfl rfl) ?_
    exact Rk.end rfl (Or.inl ⟨rfl, rfl, rfl, rfl⟩)
  · show (if q = e then (a, 1) else O q) = O q
    split
    next z => rw [z]; exact (h5.resolve_left hst).symm
    next => rfl
  · rw [k3 q (fun z => ?_) (fun z => ?_)]; exact hq
    · rw [z, l1] at hq; cases hq; exact e2 rfl
    · rw [z, g6] at hq; cases hq; exact e3 rfl
theorem lp_put {a c M : Nat} {p rest cs : List Nat} {r rc : Int32 × Int32} (hac : c ≠ a) (hM : p.length + cs.length + rest.length ≤ M) (hM4 : M < 400) : ∀ (q2 q : List Nat) (h : PH) (O : Nat → Nat × Nat) (G : PG), cs = q ++ q2 → GH E h O G → G.1 a = some (p ++ (q ++ rest), r) → G.1 c = some (cs, rc) →
    ∃ (h' : PH) (O' : Nat → Nat × Nat), Rk E (d + 6) (81, 7, [some (.ref a), some (.int (nI p.length)), some (.ref c), some (.int (nI q.length))], []) h none h' ∧ GH E h' O' (gR G a (p ++ (cs ++ rest), r)) ∧ Ch O h O' h' ∧ h'.2.1 ≤ h.2.1 + q2.length ∧ h'.2.2 ≤ h.2.2 + q2.length * (10 + 2 * M) := by
  intro q2
  induction q2 with
  | nil =>
    intro q h O G hc hG ha hgc
    rw [List.append_nil] at hc
    obtain ⟨l, e, cap, x0, h1, h2, h3, h4, h5, h6⟩ := hG.2.2.1 c _ rc hgc
    obtain ⟨mc, l1⟩ := h3.1
    refine ⟨h, O, ?_, ?_, Ch.rf, Nat.le_add_right _ _, Nat.le_add_right _ _⟩
    · refine Rk.tr (F1 := (81, 8, _, _)) (x_iload_n rfl rfl) ?_
      refine Rk.tr (F1 := (81, 9, _, _)) (x_aload_n rfl rfl rfl) ?_
      refine Rk.tr (F1 := (81, 12, _, _)) (x_getf rfl rfl h1 rfl) ?_
      refine Rk.tr (F1 := (81, 15, _, _)) (x_callv (As := []) rfl rfl rfl (Or.inl rfl) rfl rfl l1 (by decide) rfl (Nat.le_of_ble_eq_true rfl) (c_lsize l1) rfl) ?_
      refine Rk.tr (F1 := (81, 58, _, _)) (x_icT rfl (tg := 58) rfl (show nI cs.length ≤ nI q.length by rw [hc]; exact Int32.le_refl _)) ?_
      exact Rk.end rfl (Or.inl ⟨rfl, rfl, rfl, rfl⟩)
    · rw [hc]
      have : gR G a (p ++ (q ++ rest), r) = G := by
        refine Prod.ext (funext fun z => ?_) rfl
        show (if z = a then _ else G.1 z) = G.1 z
        split
        next e => rw [e, ha]
        next => rfl
      rw [this]; exact hG
  | cons b q2 ih =>
    intro q h O G hc hG ha hgc
    obtain ⟨lc, ec, capc, xc, c1, c2, c3, c4, c5, c6⟩ := hG.2.2.1 c _ rc hgc
    obtain ⟨mcc, lc1⟩ := c3.1
    obtain ⟨l, e, cap, x0, h1, h2, h3, h4, h5, h6⟩ := hG.2.2.1 a _ r ha
    obtain ⟨mc, l1⟩ := id h3.1
    have hcl : cs.length = q.length + (q2.length + 1) := by rw [hc, List.length_append, List.length_cons]
    have hal : (p ++ (q ++ rest)).length = p.length + (q.length + rest.length) := by rw [List.length_append, List.length_append]
    have ek : cs[q.length]? = some b := by rw [hc, List.getElem?_append_right (Nat.le_refl _), Nat.sub_self]; rfl
    obtain ⟨ys, hby⟩ := c6 b (List.mem_of_getElem? ek)
    obtain ⟨h', e', cap', k1, k2, k3, k4, k5, k6⟩ := c_addAt (E := E) (d := d) (k := p.length + q.length) hG.1 hG.2.1 h3 h6 hby (by omega) (by omega)
    have ei : (p ++ (q ++ rest)).insertIdx (p.length + q.length) b = p ++ ((q ++ [b]) ++ rest) := by
      have := ins_app (b := b) (rest := rest) (p ++ q)
      rw [List.length_append] at this
      rw [← List.append_assoc, this]
      simp
    rw [ei] at k2
    have hst : e' ≠ E.2.1 2 := by
      rcases k2.2.1 with ⟨-, a2, -⟩ | ⟨fs, -, -, -, -, f5, -⟩
      · simp at a2
      · exact f5
    have hsz : h.2.1 ≤ h'.2.1 ∧ h'.2.1 ≤ h.2.1 + 1 ∧ h'.2.2 ≤ h.2.2 + (10 + 2 * M) := by
      rcases k3 with ⟨-, z⟩ | ⟨-, z1, z2⟩
      · rw [z]; omega
      · omega
    have ee : e' = e ∨ (e' = h.2.1 ∧ p ++ ((q ++ [b]) ++ rest) ≠ []) := by
      rcases k3 with ⟨z, -⟩ | ⟨z, -⟩
      · exact Or.inl z
      · exact Or.inr ⟨z, by simp⟩
    have hg := hG.row ha h1 h2 h3 h4 h5 k2 ee hsz.1 k4 k5 (fun y hy => by
      simp only [List.mem_append, List.mem_singleton] at hy
      rcases hy with z | (z | z) | z
      · exact h6 y (by simp [z])
      · exact h6 y (by simp [z])
      · rw [z]; exact ⟨ys, hby⟩
      · exact h6 y (by simp [z])) hst
    have hch : Ch O h (fun q => if q = e' then (a, 1) else O q) h' := by
      refine ⟨fun z hz => ?_, hsz.1, k6, fun z t fs hz e1 e2 e3 e4 => ?_⟩
      · show (if z = e' then (a, 1) else O z) = O z
        split
        next y =>
          rcases ee with w | w
          · rw [y, w]; exact (h5.resolve_left (fun y => hst (w.trans y))).symm
          · omega
        next => rfl
      · rw [k4 z (fun y => ?_) (fun y => ?_)]; exact hz
        · rw [y, l1] at hz; cases hz; exact e2 rfl
        · rcases ee with w | w
          · rcases h3.2.1 with ⟨-, -, a3, -⟩ | ⟨fs', f1, -⟩
            · exact hst (w.trans a3)
            · rw [y, w, f1] at hz; cases hz; exact e3 rfl
          · have := hG.1 _ _ hz; omega
    obtain ⟨h2', O2, m1, m2, m3, m4, m5⟩ := ih (q ++ [b]) h' _ _ (by rw [hc, List.append_assoc]; rfl) hg gR_at ((gR_ne hac).trans hgc)
    rw [List.length_append, List.length_singleton, ← nI_1 q.length] at m1
    rw [gR_gR] at m2
    refine ⟨h2', O2, ?_, m2, hch.tr hG.1 m3, by rw [List.length_cons]; omega, ?_⟩
    · refine Rk.tr (F1 := (81, 8, _, _)) (x_iload_n rfl rfl) ?_
      refine Rk.tr (F1 := (81, 9, _, _)) (x_aload_n rfl rfl rfl) ?_
      refine Rk.tr (F1 := (81, 12, _, _)) (x_getf rfl rfl c1 rfl) ?_
      refine Rk.tr (F1 := (81, 15, _, _)) (x_callv (As := []) rfl rfl rfl (Or.inl rfl) rfl rfl lc1 (by decide) rfl (Nat.le_of_ble_eq_true rfl) (c_lsize lc1) rfl) ?_
      refine Rk.tr (F1 := (81, 18, _, _)) (x_icF rfl (tg := 58) rfl (show ¬ nI cs.length ≤ nI q.length from nI_ge (by omega) (by omega))) ?_
      refine Rk.tr (F1 := (81, 19, _, _)) (x_iload_n rfl rfl) ?_
      refine Rk.tr (F1 := (81, 20, _, _)) (x_iload_n rfl rfl) ?_
      refine Rk.tr (F1 := (81, 21, _, _)) (x_iadd rfl) ?_
      refine Rk.tr (F1 := (81, 21, _, _)) (x_top (nI_add p.length q.length)) ?_
      refine Rk.tr (F1 := (81, 22, _, _)) (x_aload_n rfl rfl rfl) ?_
      refine Rk.tr (F1 := (81, 25, _, _)) (x_getf rfl rfl h1 rfl) ?_
      refine Rk.tr (F1 := (81, 28, _, _)) (x_callv (As := []) rfl rfl rfl (Or.inl rfl) rfl rfl l1 (by decide) rfl (Nat.le_of_ble_eq_true rfl) (c_lsize l1) rfl) ?_
      refine Rk.tr (F1 := (81, 31, _, _)) (x_icF rfl (tg := 58) rfl (show ¬ nI (p ++ (q ++ rest)).length < nI (p.length + q.length) from Int32.not_lt.mpr (nI_le (by omega) (by omega)))) ?_
      refine Rk.tr (F1 := (81, 32, _, _)) (x_aload_n rfl rfl rfl) ?_
      refine Rk.tr (F1 := (81, 35, _, _)) (x_getf rfl rfl h1 rfl) ?_
      refine Rk.tr (F1 := (81, 36, _, _)) (x_iload_n rfl rfl) ?_
      refine Rk.tr (F1 := (81, 37, _, _)) (x_iload_n rfl rfl) ?_
      refine Rk.tr (F1 := (81, 38, _, _)) (x_iadd rfl) ?_
      refine Rk.tr (F1 := (81, 38, _, _)) (x_top (nI_add p.length q.length)) ?_
      refine Rk.tr (F1 := (81, 39, _, _)) (x_aload_n rfl rfl rfl) ?_
      refine Rk.tr (F1 := (81, 42, _, _)) (x_getf rfl rfl c1 rfl) ?_
      refine Rk.tr (F1 := (81, 43, _, _)) (x_iload_n rfl rfl) ?_
      refine Rk.tr (F1 := (81, 46, _, _)) (x_callv (As := [_]) rfl rfl rfl (Or.inl rfl) rfl rfl lc1 (by decide) rfl (Nat.le_of_ble_eq_true rfl) (c_get c3 ek) rfl) ?_
      refine Rk.tr (F1 := (81, 49, _, _)) (x_cast rfl rfl (by decide) hby) ?_
      refine Rk.tr (F1 := (81, 52, _, _)) (x_callv (As := [_, _]) rfl rfl rfl (Or.inl rfl) rfl rfl l1 (by decide) rfl (Nat.le_of_ble_eq_true rfl) k1 rfl) ?_
      refine Rk.tr (F1 := (81, 55, [_, _, _, _], _)) (x_iinc (i := 3) rfl rfl) ?_
      refine Rk.tr (F1 := (81, 7, _, _)) (x_goto rfl rfl) ?_
      exact m1
    · rw [List.length_cons, Nat.add_mul, Nat.one_mul]; omega
theorem c_put {a c x M : Nat} {p rest cs : List Nat} {r rc : Int32 × Int32} (hac : c ≠ a) (hM : p.length + cs.length + rest.length ≤ M) (hM4 : M < 400) (hG : GH E h O G) (ha : G.1 a = some (p ++ x :: rest, r)) (hc : G.1 c = some (cs, rc)) :
    ∃ (h' : PH) (O' : Nat → Nat × Nat), Rn E (d + 6) 81 [.ref a, .int (nI p.length), .ref c] h none h' ∧ GH E h' O' (gR G a (p ++ (cs ++ rest), r)) ∧ Ch O h O' h' ∧ h'.2.1 ≤ h.2.1 + cs.length ∧ h'.2.2 ≤ h.2.2 + cs.length * (10 + 2 * M) := by
  obtain ⟨g, O1, k1, k2, k3, k4⟩ := c_take (E := E) (d := d + 2) hG ha
  obtain ⟨l, e, cap, x0, h1, h2, h3, h4, h5, h6⟩ := hG.2.2.1 a _ r ha
  obtain ⟨h', O', m1, m2, m3, m4, m5⟩ := lp_put (E := E) (d := d) (a := a) (c := c) (M := M) (p := p) (rest := rest) (cs := cs) (r := r) (rc := rc) hac hM hM4 cs [] g O1 _ rfl k2 gR_at ((gR_ne hac).trans hc)
  rw [gR_gR] at m2
  rw [k4] at m4 m5
  refine ⟨h', O', Rn.of (Nat.le_of_ble_eq_true rfl) ?_, m2, k3.tr hG.1 m3, m4, m5⟩
  refine Rk.tr (F1 := (81, 1, _, _)) (x_aload_n rfl rfl rfl) ?_
  refine Rk.tr (F1 := (81, 2, _, _)) (x_iload_n rfl rfl) ?_
  refine Rk.tr (F1 := (81, 5, _, _)) (x_callv (As := [_]) rfl rfl rfl (Or.inl rfl) rfl rfl h1 (by decide) rfl (Nat.le_of_ble_eq_true rfl) k1 rfl) ?_
  refine Rk.tr (F1 := (81, 6, _, _)) (x_iconst rfl) ?_
  refine Rk.tr (F1 := (81, 7, [_, _, _, _], _)) (x_istore_n (i := 3) rfl (Nat.le_of_ble_eq_true rfl)) ?_
  exact m1
end M31
