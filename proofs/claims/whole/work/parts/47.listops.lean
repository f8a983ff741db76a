/-! ===== the class: add, remove, add at a place ===== -/
section M24
variable {E : PE} {d : Nat} {h : PH}
theorem c_add3n {l e b n : Nat} {mc : Int32} {fs ys : List Value} (hl : h.1 l = some (0, [.int mc, .ref e, .int (nI n)])) (he : h.1 e = some (106, fs)) (hb : h.1 b = some (2, ys)) (hn : n < fs.length) (h5 : fs.length < 2000) (hle : l ≠ e) : Rn E (d + 5) 128 [.ref l, .ref b, .ref e, .int (nI n)] h none (pset (pset h e (106, fs.set n (.ref b))) l (0, [.int mc, .ref e, .int (nI (n + 1))])) := by
  refine Rn.of (Nat.le_of_ble_eq_true rfl) ?_
  refine Rk.tr (F1 := (128, 1, _, _)) (x_iload_n rfl rfl) ?_
  refine Rk.tr (F1 := (128, 2, _, _)) (x_aload_n rfl rfl rfl) ?_
  refine Rk.tr (F1 := (128, 3, _, _)) (x_alen rfl he rfl) ?_
  refine Rk.tr (F1 := (128, 11, _, _)) (x_icT rfl (tg := 11) rfl (show ¬ nI n = nI fs.length from fun z => absurd ((nI_eq (by omega) (by omega)).mp z) (by omega))) ?_
  refine Rk.tr (F1 := (128, 12, _, _)) (x_aload_n rfl rfl rfl) ?_
  refine Rk.tr (F1 := (128, 13, _, _)) (x_iload_n rfl rfl) ?_
  refine Rk.tr (F1 := (128, 14, _, _)) (x_aload_n rfl rfl rfl) ?_
  refine Rk.tr (F1 := (128, 15, _, _)) (x_aast rfl he hb rfl rfl (by omega) hn) ?_
  refine Rk.tr (F1 := (128, 16, _, _)) (x_aload_n rfl rfl rfl) ?_
  refine Rk.tr (F1 := (128, 17, _, _)) (x_iload_n rfl rfl) ?_
  refine Rk.tr (F1 := (128, 18, _, _)) (x_iconst rfl) ?_
  refine Rk.tr (F1 := (128, 19, _, _)) (x_iadd rfl) ?_
  refine Rk.tr (F1 := (128, 19, _, _)) (x_top (nI_1 n)) ?_
  refine Rk.tr (F1 := (128, 22, _, _)) (x_putf rfl rfl ((pset_ne hle).trans hl) rfl rfl rfl) ?_
  exact Rk.end rfl (Or.inl ⟨rfl, rfl, rfl, rfl⟩)
theorem c_add3g {l e b n e' : Nat} {mc : Int32} {fs ys : List Value} {h2 : PH} {t0 : Nat} {gs : List Value} {ty : FieldType} (hl : h.1 l = some (0, [.int mc, .ref e, .int (nI n)])) (he : h.1 e = some (t0, gs)) (hty : ptag t0 = some ty) (hgs : gs.length = n) (hg : Rn E (d + 4) 129 [.ref l] h (some (.ref e')) h2) (hl2 : h2.1 l = some (0, [.int mc, .ref e', .int (nI n)])) (he2 : h2.1 e' = some (106, fs)) (hb : h2.1 b = some (2, ys)) (hn : n < fs.length) (h5 : fs.length < 2000) (hle : l ≠ e') : Rn E (d + 5) 128 [.ref l, .ref b, .ref e, .int (nI n)] h none (pset (pset h2 e' (106, fs.set n (.ref b))) l (0, [.int mc, .ref e', .int (nI (n + 1))])) := by
  refine Rn.of (Nat.le_of_ble_eq_true rfl) ?_
  refine Rk.tr (F1 := (128, 1, _, _)) (x_iload_n rfl rfl) ?_
  refine Rk.tr (F1 := (128, 2, _, _)) (x_aload_n rfl rfl rfl) ?_
  refine Rk.tr (F1 := (128, 3, _, _)) (x_alen rfl he hty) ?_
  refine Rk.tr (F1 := (128, 6, _, _)) (x_icF rfl (tg := 11) rfl (fun z => z (by rw [hgs]))) ?_
  refine Rk.tr (F1 := (128, 7, _, _)) (x_aload_n rfl rfl rfl) ?_
  refine Rk.tr (F1 := (128, 10, _, _)) (x_callv (As := []) rfl rfl rfl (Or.inr rfl) rfl rfl hl (by decide) rfl (Nat.le_of_ble_eq_true rfl) hg rfl) ?_
  refine Rk.tr (F1 := (128, 11, [_, _, _, _], _)) (x_astore_n (i := 2) rfl (Nat.le_of_ble_eq_true rfl)) ?_
  refine Rk.tr (F1 := (128, 12, _, _)) (x_aload_n rfl rfl rfl) ?_
  refine Rk.tr (F1 := (128, 13, _, _)) (x_iload_n rfl rfl) ?_
  refine Rk.tr (F1 := (128, 14, _, _)) (x_aload_n rfl rfl rfl) ?_
  refine Rk.tr (F1 := (128, 15, _, _)) (x_aast rfl he2 hb rfl rfl (by omega) hn) ?_
  refine Rk.tr (F1 := (128, 16, _, _)) (x_aload_n rfl rfl rfl) ?_
  refine Rk.tr (F1 := (128, 17, _, _)) (x_iload_n rfl rfl) ?_
  refine Rk.tr (F1 := (128, 18, _, _)) (x_iconst rfl) ?_
  refine Rk.tr (F1 := (128, 19, _, _)) (x_iadd rfl) ?_
  refine Rk.tr (F1 := (128, 19, _, _)) (x_top (nI_1 n)) ?_
  refine Rk.tr (F1 := (128, 22, _, _)) (x_putf rfl rfl ((pset_ne hle).trans hl2) rfl rfl rfl) ?_
  exact Rk.end rfl (Or.inl ⟨rfl, rfl, rfl, rfl⟩)
theorem set_take {fs : List Value} {bs : List Nat} {b : Nat} (ht : fs.take bs.length = bs.map Value.ref) (hl : bs.length < fs.length) : (fs.set bs.length (.ref b)).take (bs ++ [b]).length = (bs ++ [b]).map Value.ref := by
  refine take_of (by rw [List.length_set, List.length_append]; simp; omega) (fun k c hk => ?_)
  rw [List.getElem?_set]
  by_cases e : bs.length = k
  · rw [if_pos e, if_pos (by omega)]
    rw [← e, List.getElem?_append_right (Nat.le_refl _), Nat.sub_self] at hk
    cases hk
    rfl
  · rw [if_neg e]
    have hkl : k < (bs ++ [b]).length := (List.getElem?_eq_some_iff.mp hk).1
    rw [List.length_append] at hkl
    simp at hkl
    rw [List.getElem?_append_left (by omega)] at hk
    exact take_at ht hk
theorem c_add {l e b cap : Nat} {bs : List Nat} {ys : List Value} (hw : Wf h) (hst : h.1 (E.2.1 2) = some (109, [])) (hL : LH E h l e bs cap) (hb : bsH h bs) (hby : h.1 b = some (2, ys)) (h5 : bs.length < 400) :
    ∃ (h' : PH) (e' cap' : Nat), Rn E (d + 6) 127 [.ref l, .ref b] h (some (.int 1)) h' ∧ LH E h' l e' (bs ++ [b]) cap' ∧ ((e' = e ∧ h'.2 = h.2) ∨ (e' = h.2.1 ∧ h'.2.1 = h.2.1 + 1 ∧ h'.2.2 ≤ h.2.2 + 10 + 2 * bs.length)) ∧ (∀ q, q ≠ l → q ≠ e' → h'.1 q = h.1 q) ∧ Wf h' ∧ h.2.2 ≤ h'.2.2 := by
  obtain ⟨⟨mc, h1⟩, h2, h3⟩ := hL
  have hll := hw l _ h1
  have hsl := hw _ _ hst
  have tagb : b ≠ l := fun z => by rw [z, h1] at hby; cases hby
  generalize hh1 : pset h l (0, [.int (mc + 1), .ref e, .int (nI bs.length)]) = g1
  have w1 : Wf g1 := by rw [← hh1]; exact hw.set hll
  have l1 : g1.1 l = some (0, [.int (mc + 1), .ref e, .int (nI bs.length)]) := by rw [← hh1]; exact pset_at
  have s1 : ∀ q, q ≠ l → g1.1 q = h.1 q := fun q hq => by rw [← hh1]; exact pset_ne hq
  have z1 : g1.2 = h.2 := by rw [← hh1]; rfl
  have st1 : g1.1 (E.2.1 2) = some (109, []) := by rw [s1 _ (fun z => by rw [z, h1] at hst; cases hst)]; exact hst
  have b1 : g1.1 b = some (2, ys) := by rw [s1 b tagb]; exact hby
  have bs1 : bsH g1 bs := fun x hx => by
    obtain ⟨zs, hz⟩ := hb x hx
    exact ⟨zs, by rw [s1 x (fun z => by rw [z, h1] at hz; cases hz)]; exact hz⟩
  have call : ∀ h', Rn E (d + 5) 128 [.ref l, .ref b, .ref e, .int (nI bs.length)] g1 none h' → Rn E (d + 6) 127 [.ref l, .ref b] h (some (.int 1)) h' := fun h' k => by
    refine Rn.of (Nat.le_of_ble_eq_true rfl) ?_
    rw [← hh1] at k l1
    refine Rk.tr (F1 := (127, 1, _, _)) (x_aload_n rfl rfl rfl) ?_
    refine Rk.tr (F1 := (127, 2, _, _)) (x_dup rfl rfl) ?_
    refine Rk.tr (F1 := (127, 5, _, _)) (x_getf rfl rfl h1 rfl) ?_
    refine Rk.tr (F1 := (127, 6, _, _)) (x_iconst rfl) ?_
    refine Rk.tr (F1 := (127, 7, _, _)) (x_iadd rfl) ?_
    refine Rk.tr (F1 := (127, 10, _, _)) (x_putf rfl rfl h1 rfl rfl rfl) ?_
    refine Rk.tr (F1 := (127, 11, _, _)) (x_aload_n rfl rfl rfl) ?_
    refine Rk.tr (F1 := (127, 12, _, _)) (x_aload_n rfl rfl rfl) ?_
    refine Rk.tr (F1 := (127, 13, _, _)) (x_aload_n rfl rfl rfl) ?_
    refine Rk.tr (F1 := (127, 16, _, _)) (x_getf rfl rfl l1 rfl) ?_
    refine Rk.tr (F1 := (127, 17, _, _)) (x_aload_n rfl rfl rfl) ?_
    refine Rk.tr (F1 := (127, 20, _, _)) (x_getf rfl rfl l1 rfl) ?_
    refine Rk.tr (F1 := (127, 23, _, _)) (x_callv (As := [_, _, _]) rfl rfl rfl (Or.inr rfl) rfl rfl l1 (by decide) rfl (Nat.le_of_ble_eq_true rfl) k rfl) ?_
    refine Rk.tr (F1 := (127, 24, _, _)) (x_iconst rfl) ?_
    exact Rk.end rfl (Or.inr (Or.inl ⟨rfl, _, .boolean, rfl, rfl, rfl, rfl⟩))
  have e1 : eH E g1 e bs cap := by
    rcases h2 with ⟨a1, a2, a3, a4⟩ | ⟨fs, f1, f2⟩
    · exact Or.inl ⟨a1, a2, a3, by rw [a3]; exact st1⟩
    · exact Or.inr ⟨fs, by rw [s1 e (fun z => by rw [z, h1] at f1; cases f1)]; exact f1, f2⟩
  have L1 : LH E g1 l e bs cap := ⟨⟨mc + 1, l1⟩, e1, h3⟩
  by_cases hc : cap = bs.length
  · obtain ⟨g2, cap', k1, k2, k3, k4, k5, k6, k7, k8⟩ := c_grow (E := E) (d := d) w1 st1 L1 bs1 hc h5
    have hl2 := k8 _ _ _ l1
    obtain ⟨⟨mc2, m1⟩, m2, m3⟩ := k2
    have n0 : g1.2.1 = h.2.1 := by rw [z1]
    rcases m2 with ⟨-, -, m4, -⟩ | ⟨fs, f1, f2, f3, f4, f5⟩
    · exfalso; omega
    · have hlg : l ≠ g1.2.1 := by omega
      have hbg : b ≠ g1.2.1 := by have := w1 b _ b1; omega
      have b2 : g2.1 b = some (2, ys) := by rw [k5 b tagb hbg]; exact b1
      have hee : ∃ (t0 : Nat) (gs : List Value) (ty : FieldType), g1.1 e = some (t0, gs) ∧ ptag t0 = some ty ∧ gs.length = bs.length := by
        rcases e1 with ⟨a1, a2, a3, a4⟩ | ⟨gs, q1, q2, -⟩
        · exact ⟨109, [], _, a4, rfl, by rw [a2]; rfl⟩
        · exact ⟨106, gs, _, q1, rfl, by omega⟩
      obtain ⟨t0, gs, ty, y1, y2, y3⟩ := hee
      have key := c_add3g (E := E) (d := d) (b := b) l1 y1 y2 y3 k1 hl2 f1 b2 (by omega) (by omega) hlg
      refine ⟨_, g1.2.1, cap', call _ key, ⟨⟨mc + 1, by rw [List.length_append]; exact pset_at⟩, Or.inr ⟨fs.set bs.length (.ref b), ?_, by rw [List.length_set]; exact f2, set_take f3 (by omega), by rw [List.length_append]; simp; omega, f5⟩, m3⟩, Or.inr ⟨n0, ?_, ?_⟩, fun q q1 q2 => ?_, ?_, ?_⟩
      · rw [pset_ne (Ne.symm hlg), pset_at]
      · show g2.2.1 = _; rw [k6]; show g1.2.1 + 1 = _; omega
      · show g2.2.2 ≤ _; rw [k6]; show g1.2.2 + cap' ≤ _; rw [z1]; omega
      · rw [pset_ne q1, pset_ne q2, k5 q q1 q2, s1 q q1]
      · refine (k7.set ?_).set ?_
        · rw [k6]; show g1.2.1 < g1.2.1 + 1; omega
        · show l < g2.2.1; rw [k6]; show l < g1.2.1 + 1; omega
      · show h.2.2 ≤ g2.2.2; rw [k6]; show h.2.2 ≤ g1.2.2 + cap'; rw [z1]; omega
  · rcases e1 with ⟨a1, a2, -⟩ | ⟨fs, f1, f2, f3, f4, f5⟩
    · exfalso; apply hc; rw [a1, a2]; rfl
    · have hle : l ≠ e := fun z => by rw [← z, l1] at f1; cases f1
      have key := c_add3n (E := E) (d := d) (b := b) (n := bs.length) l1 f1 b1 (by omega) (by omega) hle
      refine ⟨_, e, cap, call _ key, ⟨⟨mc + 1, by rw [List.length_append]; exact pset_at⟩, Or.inr ⟨fs.set bs.length (.ref b), ?_, by rw [List.length_set]; exact f2, set_take f3 (by omega), by rw [List.length_append]; simp; omega, f5⟩, h3⟩, Or.inl ⟨rfl, z1⟩, fun q q1 q2 => ?_, ?_, ?_⟩
      · rw [pset_ne (Ne.symm hle), pset_at]
      · rw [pset_ne q1, pset_ne q2, s1 q q1]
      · exact (w1.set (w1 _ _ f1)).set (w1 _ _ l1)
      · show h.2.2 ≤ g1.2.2; rw [z1]; exact Nat.le_refl _
theorem c_frem {l e n k : Nat} {mc : Int32} {fs : List Value} (hl : h.1 l = some (0, [.int mc, .ref e, .int (nI n)])) (he : h.1 e = some (106, fs)) (hk : k < n) (hn : n ≤ fs.length) (h5 : fs.length < 2000) (hle : l ≠ e) (hel : ∀ i : Nat, i < n → fs.getD i .null = .null ∨ ∃ (y : Nat) (ys : List Value), fs.getD i .null = .ref y ∧ h.1 y = some (2, ys)) :
    Rn E (d + 1) 135 [.ref l, .ref e, .int (nI k)] h none (pset (pset (pset h l (0, [.int (mc + 1), .ref e, .int (nI n)])) l (0, [.int (mc + 1), .ref e, .int (nI (n - 1))])) e (106, (if k < n - 1 then pcpy fs fs (k + 1) k (n - 1 - k) else fs).set (n - 1) .null)) := by
  refine Rn.of (Nat.le_of_ble_eq_true rfl) ?_
  have l1 : (pset h l (0, [.int (mc + 1), .ref e, .int (nI n)])).1 l = some (0, [.int (mc + 1), .ref e, .int (nI n)]) := pset_at
  have e1 : (pset h l (0, [.int (mc + 1), .ref e, .int (nI n)])).1 e = some (106, fs) := (pset_ne (Ne.symm hle)).trans he
  have hm : nI n - 1 = nI (n - 1) := nI_m1 (by omega)
  by_cases hc : k < n - 1
  · rw [if_pos hc]
    have sw : pset (pset (pset h l (0, [.int (mc + 1), .ref e, .int (nI n)])) e (106, pcpy fs fs (k + 1) k (n - 1 - k))) l (0, [.int (mc + 1), .ref e, .int (nI (n - 1))]) = pset (pset (pset h l (0, [.int (mc + 1), .ref e, .int (nI n)])) l (0, [.int (mc + 1), .ref e, .int (nI (n - 1))])) e (106, pcpy fs fs (k + 1) k (n - 1 - k)) := by
      refine Prod.ext (funext fun q => ?_) rfl
      show (if q = l then _ else if q = e then _ else _) = (if q = e then _ else if q = l then _ else _)
      by_cases q1 : q = l
      · rw [if_pos q1, if_neg (fun z => hle (q1.symm.trans z)), if_pos q1]
      · rw [if_neg q1]
        by_cases q2 : q = e
        · rw [if_pos q2, if_pos q2]
        · rw [if_neg q2, if_neg q2, if_neg q1]
    have tw : pset (pset (pset (pset h l (0, [.int (mc + 1), .ref e, .int (nI n)])) l (0, [.int (mc + 1), .ref e, .int (nI (n - 1))])) e (106, pcpy fs fs (k + 1) k (n - 1 - k))) e (106, (pcpy fs fs (k + 1) k (n - 1 - k)).set (n - 1) .null) = pset (pset (pset h l (0, [.int (mc + 1), .ref e, .int (nI n)])) l (0, [.int (mc + 1), .ref e, .int (nI (n - 1))])) e (106, (pcpy fs fs (k + 1) k (n - 1 - k)).set (n - 1) .null) := by
      refine Prod.ext (funext fun q => ?_) rfl
      show (if q = e then _ else if q = e then _ else _) = (if q = e then _ else _)
      by_cases q2 : q = e
      · rw [if_pos q2, if_pos q2]
      · rw [if_neg q2, if_neg q2, if_neg q2]
    rw [← tw, ← sw]
    refine Rk.tr (F1 := (135, 1, _, _)) (x_aload_n rfl rfl rfl) ?_
    refine Rk.tr (F1 := (135, 2, _, _)) (x_dup rfl rfl) ?_
    refine Rk.tr (F1 := (135, 5, _, _)) (x_getf rfl rfl hl rfl) ?_
    refine Rk.tr (F1 := (135, 6, _, _)) (x_iconst rfl) ?_
    refine Rk.tr (F1 := (135, 7, _, _)) (x_iadd rfl) ?_
    refine Rk.tr (F1 := (135, 10, _, _)) (x_putf rfl rfl hl rfl rfl rfl) ?_
    refine Rk.tr (F1 := (135, 11, _, _)) (x_aload_n rfl rfl rfl) ?_
    refine Rk.tr (F1 := (135, 14, _, _)) (x_getf rfl rfl l1 rfl) ?_
    refine Rk.tr (F1 := (135, 15, _, _)) (x_iconst rfl) ?_
    refine Rk.tr (F1 := (135, 16, _, _)) (x_isub rfl) ?_
    refine Rk.tr (F1 := (135, 16, _, _)) (x_top hm) ?_
    refine Rk.tr (F1 := (135, 17, _, _)) (x_dup rfl rfl) ?_
    refine Rk.tr (F1 := (135, 18, [_, _, _, _], _)) (x_istore_n (i := 3) rfl (Nat.le_of_ble_eq_true rfl)) ?_
    refine Rk.tr (F1 := (135, 19, _, _)) (x_iload_n rfl rfl) ?_
    refine Rk.tr (F1 := (135, 22, _, _)) (x_icF rfl (tg := 34) rfl (show ¬ nI (n - 1) ≤ nI k from nI_ge (by omega) (by omega))) ?_
    refine Rk.tr (F1 := (135, 23, _, _)) (x_aload_n rfl rfl rfl) ?_
    refine Rk.tr (F1 := (135, 24, _, _)) (x_iload_n rfl rfl) ?_
    refine Rk.tr (F1 := (135, 25, _, _)) (x_iconst rfl) ?_
    refine Rk.tr (F1 := (135, 26, _, _)) (x_iadd rfl) ?_
    refine Rk.tr (F1 := (135, 26, _, _)) (x_top (nI_1 k)) ?_
    refine Rk.tr (F1 := (135, 27, _, _)) (x_aload_n rfl rfl rfl) ?_
    refine Rk.tr (F1 := (135, 28, _, _)) (x_iload_n rfl rfl) ?_
    refine Rk.tr (F1 := (135, 29, _, _)) (x_iload_n rfl rfl) ?_
    refine Rk.tr (F1 := (135, 30, _, _)) (x_iload_n rfl rfl) ?_
    refine Rk.tr (F1 := (135, 31, _, _)) (x_isub rfl) ?_
    refine Rk.tr (F1 := (135, 31, _, _)) (x_top (y := nI (n - 1 - k)) (by show nI (n - 1) - nI k = _; rw [show nI (n - 1) = nI (n - 1 - k) + nI k by rw [nI_add, Nat.sub_add_cancel (by omega)]]; exact Int32.add_sub_cancel _ _)) ?_
    refine Rk.tr (F1 := (135, 34, _, _)) (x_copy (sp := k + 1) (dp := k) (n := n - 1 - k) rfl rfl rfl (Nat.le_of_ble_eq_true rfl) e1 e1 rfl rfl rfl (by omega) (by omega) ⟨by omega, by omega⟩ (fun i hi => (hel (k + 1 + i) (by omega)).imp id (fun ⟨y, ys, a, b⟩ => ⟨y, ys, a, (pset_ne (fun z => by rw [z, hl] at b; cases b)).trans b⟩))) ?_
    refine Rk.tr (F1 := (135, 35, _, _)) (x_aload_n rfl rfl rfl) ?_
    refine Rk.tr (F1 := (135, 36, _, _)) (x_aload_n rfl rfl rfl) ?_
    refine Rk.tr (F1 := (135, 37, _, _)) (x_iload_n rfl rfl) ?_
    refine Rk.tr (F1 := (135, 38, _, _)) (x_dup_x1 rfl rfl rfl) ?_
    refine Rk.tr (F1 := (135, 41, _, _)) (x_putf rfl rfl ((pset_ne hle).trans l1) rfl rfl rfl) ?_
    refine Rk.tr (F1 := (135, 42, _, _)) (x_null rfl) ?_
    refine Rk.tr (F1 := (135, 43, _, _)) (x_aastN (n := n - 1) (fs := pcpy fs fs (k + 1) k (n - 1 - k)) rfl ((pset_ne (Ne.symm hle)).trans pset_at) rfl (by decide) rfl (by omega) (by rw [pcpy_len]; omega)) ?_
    exact Rk.end rfl (Or.inl ⟨rfl, rfl, rfl, rfl⟩)
  · rw [if_neg hc]
    refine Rk.tr (F1 := (135, 1, _, _)) (x_aload_n rfl rfl rfl) ?_
    refine Rk.tr (F1 := (135, 2, _, _)) (x_dup rfl rfl) ?_
    refine Rk.tr (F1 := (135, 5, _, _)) (x_getf rfl rfl hl rfl) ?_
    refine Rk.tr (F1 := (135, 6, _, _)) (x_iconst rfl) ?_
    refine Rk.tr (F1 := (135, 7, _, _)) (x_iadd rfl) ?_
    refine Rk.tr (F1 := (135, 10, _, _)) (x_putf rfl rfl hl rfl rfl rfl) ?_
    refine Rk.tr (F1 := (135, 11, _, _)) (x_aload_n rfl rfl rfl) ?_
    refine Rk.tr (F1 := (135, 14, _, _)) (x_getf rfl rfl l1 rfl) ?_
    refine Rk.tr (F1 := (135, 15, _, _)) (x_iconst rfl) ?_
    refine Rk.tr (F1 := (135, 16, _, _)) (x_isub rfl) ?_
    refine Rk.tr (F1 := (135, 16, _, _)) (x_top hm) ?_
    refine Rk.tr (F1 := (135, 17, _, _)) (x_dup rfl rfl) ?_
    refine Rk.tr (F1 := (135, 18, [_, _, _, _], _)) (x_istore_n (i := 3) rfl (Nat.le_of_ble_eq_true rfl)) ?_
    refine Rk.tr (F1 := (135, 19, _, _)) (x_iload_n rfl rfl) ?_
    refine Rk.tr (F1 := (135, 34, _, _)) (x_icT rfl (tg := 34) rfl (show nI (n - 1) ≤ nI k from nI_le (by omega) (by omega))) ?_
    refine Rk.tr (F1 := (135, 35, _, _)) (x_aload_n rfl rfl rfl) ?_
    refine Rk.tr (F1 := (135, 36, _, _)) (x_aload_n rfl rfl rfl) ?_
    refine Rk.tr (F1 := (135, 37, _, _)) (x_iload_n rfl rfl) ?_
    refine Rk.tr (F1 := (135, 38, _, _)) (x_dup_x1 rfl rfl rfl) ?_
    refine Rk.tr (F1 := (135, 41, _, _)) (x_putf rfl rfl l1 rfl rfl rfl) ?_
    refine Rk.tr (F1 := (135, 42, _, _)) (x_null rfl) ?_
    refine Rk.tr (F1 := (135, 43, _, _)) (x_aastN (n := n - 1) (fs := fs) rfl ((pset_ne (Ne.symm hle)).trans e1) rfl (by decide) rfl (by omega) (by omega)) ?_
    exact Rk.end rfl (Or.inl ⟨rfl, rfl, rfl, rfl⟩)
theorem erase_at {bs : List Nat} {k j : Nat} : (bs.eraseIdx k)[j]? = if j < k then bs[j]? else bs[j + 1]? := List.getElem?_eraseIdx
theorem c_remove {l e b cap k : Nat} {bs : List Nat} (hw : Wf h) (hL : LH E h l e bs cap) (hb : bsH h bs) (hk : bs[k]? = some b) :
    ∃ h' : PH, Rn E (d + 2) 134 [.ref l, .int (nI k)] h (some (.ref b)) h' ∧ LH E h' l e (bs.eraseIdx k) cap ∧ (∀ q, q ≠ l → q ≠ e → h'.1 q = h.1 q) ∧ h'.2 = h.2 ∧ Wf h' := by
  obtain ⟨⟨mc, h1⟩, h2, h3⟩ := hL
  have hkl : k < bs.length := (List.getElem?_eq_some_iff.mp hk).1
  rcases h2 with ⟨-, h2, -⟩ | ⟨fs, f1, f2, f3, f4, f5⟩
  · rw [h2] at hkl; exact absurd hkl (Nat.not_lt_zero _)
  · have hle : l ≠ e := fun z => by rw [← z, h1] at f1; cases f1
    have key := c_frem (E := E) (d := d) (k := k) h1 f1 hkl (by omega) (by omega) hle (hb.el f3)
    have hne : (bs.eraseIdx k).length = bs.length - 1 := by rw [List.length_eraseIdx, if_pos hkl]
    refine ⟨pset (pset (pset h l (0, [.int (mc + 1), .ref e, .int (nI bs.length)])) l (0, [.int (mc + 1), .ref e, .int (nI (bs.length - 1))])) e (106, (if k < bs.length - 1 then pcpy fs fs (k + 1) k (bs.length - 1 - k) else fs).set (bs.length - 1) .null), Rn.of (Nat.le_of_ble_eq_true rfl) ?_, ⟨⟨mc + 1, ?_⟩, Or.inr ⟨(if k < bs.length - 1 then pcpy fs fs (k + 1) k (bs.length - 1 - k) else fs).set (bs.length - 1) .null, pset_at, ?_, ?_, by omega, f5⟩, h3⟩, fun q q1 q2 => ?_, rfl, ?_⟩
    · refine Rk.tr (F1 := (134, 1, _, _)) (x_iload_n rfl rfl) ?_
      refine Rk.tr (F1 := (134, 2, _, _)) (x_aload_n rfl rfl rfl) ?_
      refine Rk.tr (F1 := (134, 5, _, _)) (x_getf rfl rfl h1 rfl) ?_
      refine Rk.tr (F1 := (134, 8, _, _)) (x_calls (As := [_, _]) rfl rfl rfl rfl rfl rfl (Nat.le_of_ble_eq_true rfl) (c_chk (d := d) hkl (by omega)) rfl) ?_
      refine Rk.tr (F1 := (134, 9, _, _)) (x_pop rfl rfl) ?_
      refine Rk.tr (F1 := (134, 10, _, _)) (x_aload_n rfl rfl rfl) ?_
      refine Rk.tr (F1 := (134, 13, _, _)) (x_getf rfl rfl h1 rfl) ?_
      refine Rk.tr (F1 := (134, 14, [_, _, _, _], _)) (x_astore_n (i := 2) rfl (Nat.le_of_ble_eq_true rfl)) ?_
      refine Rk.tr (F1 := (134, 15, _, _)) (x_aload_n rfl rfl rfl) ?_
      refine Rk.tr (F1 := (134, 16, _, _)) (x_iload_n rfl rfl) ?_
      refine Rk.tr (F1 := (134, 17, _, _)) (x_aald rfl f1 rfl rfl rfl (by omega) (take_at f3 hk)) ?_
      refine Rk.tr (F1 := (134, 18, [_, _, _, _], _)) (x_astore_n (i := 3) rfl (Nat.le_of_ble_eq_true rfl)) ?_
      refine Rk.tr (F1 := (134, 19, _, _)) (x_aload_n rfl rfl rfl) ?_
      refine Rk.tr (F1 := (134, 20, _, _)) (x_aload_n rfl rfl rfl) ?_
      refine Rk.tr (F1 := (134, 21, _, _)) (x_iload_n rfl rfl) ?_
      refine Rk.tr (F1 := (134, 24, _, _)) (x_callv (As := [_, _]) rfl rfl rfl (Or.inr rfl) rfl rfl h1 (by decide) rfl (Nat.le_of_ble_eq_true rfl) key rfl) ?_
      refine Rk.tr (F1 := (134, 25, _, _)) (x_aload_n rfl rfl rfl) ?_
      exact Rk.end rfl (Or.inr (Or.inr (Or.inr ⟨rfl, _, _, rfl, Or.inl ⟨_, rfl⟩, Or.inr ⟨_, rfl⟩, rfl, rfl⟩)))
    · rw [pset_ne hle, pset_at, hne]
    · rw [List.length_set]
      split
      · rw [pcpy_len]; exact f2
      · exact f2
    · refine take_of (by rw [List.length_set]; split <;> (try rw [pcpy_len]) <;> omega) (fun j c hj => ?_)
      have hjl : j < (bs.eraseIdx k).length := (List.getElem?_eq_some_iff.mp hj).1
      rw [List.getElem?_set, if_neg (by omega)]
      rw [erase_at] at hj
      by_cases hjk : j < k
      · rw [if_pos hjk] at hj
        split
        · rw [pcpy_at (by omega), if_neg (by omega), getD_at (take_at f3 hj)]
        · exact take_at f3 hj
      · rw [if_neg hjk] at hj
        rw [if_pos (by omega), pcpy_at (by omega), if_pos (by omega), show k + 1 + (j - k) = j + 1 by omega, getD_at (take_at f3 hj)]
    · rw [pset_ne q2, pset_ne q1, pset_ne q1]
    · exact ((hw.set (hw _ _ h1)).set (hw _ _ h1)).set (hw _ _ f1)
end M24
