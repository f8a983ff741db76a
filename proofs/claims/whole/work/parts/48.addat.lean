/-! ===== the class: add at a place ===== -/
section M25
variable {E : PE} {d : Nat} {h : PH}
theorem c_rng {l k n : Nat} {mc e : Value} (hl : h.1 l = some (0, [mc, e, .int (nI n)])) (hk : k ≤ n) (hn : n < 2000) : Rn E d 137 [.ref l, .int (nI k)] h none h := by
  refine Rn.of (Nat.le_of_ble_eq_true rfl) ?_
  refine Rk.tr (F1 := (137, 1, _, _)) (x_iload_n rfl rfl) ?_
  refine Rk.tr (F1 := (137, 2, _, _)) (x_aload_n rfl rfl rfl) ?_
  refine Rk.tr (F1 := (137, 5, _, _)) (x_getf rfl rfl hl rfl) ?_
  refine Rk.tr (F1 := (137, 8, _, _)) (x_icF rfl (tg := 12) rfl (show ¬ nI n < nI k from Int32.not_lt.mpr (nI_le (by omega) (by omega)))) ?_
  refine Rk.tr (F1 := (137, 9, _, _)) (x_iload_n rfl rfl) ?_
  refine Rk.tr (F1 := (137, 25, _, _)) (x_ifT rfl (tg := 25) rfl (show nI 0 ≤ nI k from nI_le (by omega) (by omega))) ?_
  exact Rk.end rfl (Or.inl ⟨rfl, rfl, rfl, rfl⟩)
theorem pset2 {a : Nat} {c c' : PC} : pset (pset h a c) a c' = pset h a c' := by
  refine Prod.ext (funext fun q => ?_) rfl
  show (if q = a then _ else if q = a then _ else _) = (if q = a then _ else _)
  by_cases e : q = a
  · rw [if_pos e, if_pos e]
  · rw [if_neg e, if_neg e, if_neg e]
theorem t_add {l e b k n : Nat} {mc : Int32} {fs ys : List Value} {x4 : Option Value} (hx : x4 = some (.ref e)) (hl : h.1 l = some (0, [.int mc, .ref e, .int (nI n)])) (he : h.1 e = some (106, fs)) (hb : h.1 b = some (2, ys)) (hk : k ≤ n) (hn : n < fs.length) (h5 : fs.length < 2000) (hle : l ≠ e) (hel : ∀ i : Nat, i < n → fs.getD i .null = .null ∨ ∃ (y : Nat) (ys : List Value), fs.getD i .null = .ref y ∧ h.1 y = some (2, ys)) :
    Rk E (d + 5) (136, 38, [some (.ref l), some (.int (nI k)), some (.ref b), some (.int (nI n)), x4], []) h none (pset (pset h e (106, (pcpy fs fs k (k + 1) (n - k)).set k (.ref b))) l (0, [.int mc, .ref e, .int (nI (n + 1))])) := by
  subst hx
  have hbe : b ≠ e := fun z => by rw [z, he] at hb; cases hb
  rw [← pset2 (h := h) (a := e) (c := (106, pcpy fs fs k (k + 1) (n - k)))]
  refine Rk.tr (F1 := (136, 40, _, _)) (x_aload rfl rfl rfl) ?_
  refine Rk.tr (F1 := (136, 41, _, _)) (x_iload_n rfl rfl) ?_
  refine Rk.tr (F1 := (136, 43, _, _)) (x_aload rfl rfl rfl) ?_
  refine Rk.tr (F1 := (136, 44, _, _)) (x_iload_n rfl rfl) ?_
  refine Rk.tr (F1 := (136, 45, _, _)) (x_iconst rfl) ?_
  refine Rk.tr (F1 := (136, 46, _, _)) (x_iadd rfl) ?_
  refine Rk.tr (F1 := (136, 46, _, _)) (x_top (nI_1 k)) ?_
  refine Rk.tr (F1 := (136, 47, _, _)) (x_iload_n rfl rfl) ?_
  refine Rk.tr (F1 := (136, 48, _, _)) (x_iload_n rfl rfl) ?_
  refine Rk.tr (F1 := (136, 49, _, _)) (x_isub rfl) ?_
  refine Rk.tr (F1 := (136, 49, _, _)) (x_top (y := nI (n - k)) (by show nI n - nI k = _; rw [show nI n = nI (n - k) + nI k by rw [nI_add, Nat.sub_add_cancel (by omega)]]; exact Int32.add_sub_cancel _ _)) ?_
  refine Rk.tr (F1 := (136, 52, _, _)) (x_copy (sp := k) (dp := k + 1) (n := n - k) rfl rfl rfl (Nat.le_of_ble_eq_true rfl) he he rfl rfl rfl (by omega) (by omega) ⟨by omega, by omega⟩ (fun i hi => hel (k + i) (by omega))) ?_
  refine Rk.tr (F1 := (136, 54, _, _)) (x_aload rfl rfl rfl) ?_
  refine Rk.tr (F1 := (136, 55, _, _)) (x_iload_n rfl rfl) ?_
  refine Rk.tr (F1 := (136, 56, _, _)) (x_aload_n rfl rfl rfl) ?_
  refine Rk.tr (F1 := (136, 57, _, _)) (x_aast rfl pset_at ((pset_ne hbe).trans hb) rfl rfl (by omega) (by rw [pcpy_len]; omega)) ?_
  refine Rk.tr (F1 := (136, 58, _, _)) (x_aload_n rfl rfl rfl) ?_
  refine Rk.tr (F1 := (136, 59, _, _)) (x_iload_n rfl rfl) ?_
  refine Rk.tr (F1 := (136, 60, _, _)) (x_iconst rfl) ?_
  refine Rk.tr (F1 := (136, 61, _, _)) (x_iadd rfl) ?_
  refine Rk.tr (F1 := (136, 61, _, _)) (x_top (nI_1 n)) ?_
  refine Rk.tr (F1 := (136, 64, _, _)) (x_putf rfl rfl ((pset_ne hle).trans ((pset_ne hle).trans hl)) rfl rfl rfl) ?_
  exact Rk.end rfl (Or.inl ⟨rfl, rfl, rfl, rfl⟩)
theorem ins_take {fs : List Value} {bs : List Nat} {b k : Nat} (ht : fs.take bs.length = bs.map Value.ref) (hl : bs.length < fs.length) (hk : k ≤ bs.length) : ((pcpy fs fs k (k + 1) (bs.length - k)).set k (.ref b)).take (bs.insertIdx k b).length = (bs.insertIdx k b).map Value.ref := by
  have hlen : (bs.insertIdx k b).length = bs.length + 1 := by rw [List.length_insertIdx, if_pos hk]
  refine take_of (by rw [List.length_set, pcpy_len, hlen]; omega) (fun j c hj => ?_)
  have hjl : j < (bs.insertIdx k b).length := (List.getElem?_eq_some_iff.mp hj).1
  rw [List.getElem?_insertIdx] at hj
  rw [List.getElem?_set, pcpy_len]
  by_cases e1 : j < k
  · rw [if_pos e1] at hj
    rw [if_neg (by omega), pcpy_at (by omega), if_neg (by omega), getD_at (take_at ht hj)]
  · rw [if_neg e1] at hj
    by_cases e2 : j = k
    · rw [if_pos e2, if_pos (by omega)] at hj
      cases hj
      rw [if_pos e2.symm, if_pos (by omega)]
    · rw [if_neg e2] at hj
      rw [if_neg (fun z => e2 z.symm), pcpy_at (by omega), if_pos (by omega), show k + (j - (k + 1)) = j - 1 by omega, getD_at (take_at ht hj)]
theorem c_addAt {l e b cap k : Nat} {bs : List Nat} {ys : List Value} (hw : Wf h) (hst : h.1 (E.2.1 2) = some (109, [])) (hL : LH E h l e bs cap) (hb : bsH h bs) (hby : h.1 b = some (2, ys)) (h5 : bs.length < 400) (hk : k ≤ bs.length) :
    ∃ (h' : PH) (e' cap' : Nat), Rn E (d + 5) 136 [.ref l, .int (nI k), .ref b] h none h' ∧ LH E h' l e' (bs.insertIdx k b) cap' ∧ ((e' = e ∧ h'.2 = h.2) ∨ (e' = h.2.1 ∧ h'.2.1 = h.2.1 + 1 ∧ h'.2.2 ≤ h.2.2 + 10 + 2 * bs.length)) ∧ (∀ q, q ≠ l → q ≠ e' → h'.1 q = h.1 q) ∧ Wf h' ∧ h.2.2 ≤ h'.2.2 := by
  obtain ⟨⟨mc, h1⟩, h2, h3⟩ := hL
  have hll := hw l _ h1
  have hsl := hw _ _ hst
  have tagb : b ≠ l := fun z => by rw [z, h1] at hby; cases hby
  have hlen : (bs.insertIdx k b).length = bs.length + 1 := by rw [List.length_insertIdx, if_pos hk]
  generalize hh1 : pset h l (0, [.int (mc + 1), .ref e, .int (nI bs.length)]) = g1
  have w1 : Wf g1 := by rw [← hh1]; exact hw.set hll
  have l1 : g1.1 l = some (0, [.int (mc + 1), .ref e, .int (nI bs.length)]) := by rw [← hh1]; exact pset_at
  have s1 : ∀ q, q ≠ l → g1.1 q = h.1 q := fun q hq => by rw [← hh1]; exact pset_ne hq
  have z1 : g1.2 = h.2 := by rw [← hh1]; rfl
  have st1 : g1.1 (E.2.1 2) = some (109, []) := by rw [s1 _ (fun z => by rw [z, h1] at hst; cases hst)]; exact hst
  have b1 : g1.1 b = some (2, ys) := by rw [s1 b tagb]; exact hby
  have bs1 : bsH g1 bs := fun x hx => by
    obtain ⟨zs, hz⟩ := hb x hx
    exact ⟨zs, by rw [s1 x (fun z => by rw [z, h1] at hz; cases hz)]; exact hz⟩
  have e1 : eH E g1 e bs cap := by
    rcases h2 with ⟨a1, a2, a3, a4⟩ | ⟨fs, f1, f2⟩
    · exact Or.inl ⟨a1, a2, a3, by rw [a3]; exact st1⟩
    · exact Or.inr ⟨fs, by rw [s1 e (fun z => by rw [z, h1] at f1; cases f1)]; exact f1, f2⟩
  have L1 : LH E g1 l e bs cap := ⟨⟨mc + 1, l1⟩, e1, h3⟩
  have hee : ∃ (t0 : Nat) (gs : List Value) (ty : FieldType), g1.1 e = some (t0, gs) ∧ ptag t0 = some ty ∧ gs.length = cap := by
    rcases e1 with ⟨a1, a2, a3, a4⟩ | ⟨gs, q1, q2, -⟩
    · exact ⟨109, [], _, a4, rfl, a1.symm⟩
    · exact ⟨106, gs, _, q1, rfl, q2⟩
  obtain ⟨t0, gs, ty, y1, y2, y3⟩ := hee
  by_cases hc : cap = bs.length
  · obtain ⟨g2, cap', k1, k2, k3, k4, k5, k6, k7, k8⟩ := c_grow (E := E) (d := d) w1 st1 L1 bs1 hc h5
    have hl2 := k8 _ _ _ l1
    obtain ⟨⟨mc2, m1⟩, m2, m3⟩ := k2
    have n0 : g1.2.1 = h.2.1 := by rw [z1]
    rcases m2 with ⟨-, -, m4, -⟩ | ⟨fs, f1, f2, f3, f4, f5⟩
    · exfalso; omega
    · have hlg : l ≠ g1.2.1 := by omega
      have hbg : b ≠ g1.2.1 := by have := w1 b _ b1; omega
      have b2 : g2.1 b = some (2, ys) := by rw [k5 b tagb hbg]; exact b1
      have bs2 : bsH g2 bs := fun x hx => by
        obtain ⟨zs, hz⟩ := bs1 x hx
        exact ⟨zs, by rw [k5 x (fun z => by rw [z, l1] at hz; cases hz) (by have := w1 x _ hz; omega)]; exact hz⟩
      have key := t_add (E := E) (d := d) (b := b) (k := k) (x4 := some (.ref g1.2.1)) rfl hl2 f1 b2 hk (by omega) (by omega) hlg (bs2.el f3)
      refine ⟨pset (pset g2 g1.2.1 (106, (pcpy fs fs k (k + 1) (bs.length - k)).set k (.ref b))) l (0, [.int (mc + 1), .ref g1.2.1, .int (nI (bs.length + 1))]), g1.2.1, cap', Rn.of (Nat.le_of_ble_eq_true rfl) ?_, ⟨⟨mc + 1, by rw [hlen]; exact pset_at⟩, Or.inr ⟨(pcpy fs fs k (k + 1) (bs.length - k)).set k (.ref b), (pset_ne (Ne.symm hlg)).trans pset_at, by rw [List.length_set, pcpy_len]; exact f2, ins_take f3 (by omega) hk, by omega, f5⟩, m3⟩, Or.inr ⟨n0, ?_, ?_⟩, fun q q1 q2 => ?_, ?_, ?_⟩
      · subst hh1
        refine Rk.tr (F1 := (136, 1, _, _)) (x_aload_n rfl rfl rfl) ?_
        refine Rk.tr (F1 := (136, 2, _, _)) (x_iload_n rfl rfl) ?_
        refine Rk.tr (F1 := (136, 5, _, _)) (x_callv (As := [_]) rfl rfl rfl (Or.inr rfl) rfl rfl h1 (by decide) rfl (Nat.le_of_ble_eq_true rfl) (c_rng (d := d + 4) h1 hk (by omega)) rfl) ?_
        refine Rk.tr (F1 := (136, 6, _, _)) (x_aload_n rfl rfl rfl) ?_
        refine Rk.tr (F1 := (136, 7, _, _)) (x_dup rfl rfl) ?_
        refine Rk.tr (F1 := (136, 10, _, _)) (x_getf rfl rfl h1 rfl) ?_
        refine Rk.tr (F1 := (136, 11, _, _)) (x_iconst rfl) ?_
        refine Rk.tr (F1 := (136, 12, _, _)) (x_iadd rfl) ?_
        refine Rk.tr (F1 := (136, 15, _, _)) (x_putf rfl rfl h1 rfl rfl rfl) ?_
        refine Rk.tr (F1 := (136, 16, _, _)) (x_aload_n rfl rfl rfl) ?_
        refine Rk.tr (F1 := (136, 19, _, _)) (x_getf rfl rfl l1 rfl) ?_
        refine Rk.tr (F1 := (136, 20, _, _)) (x_dup rfl rfl) ?_
        refine Rk.tr (F1 := (136, 21, [_, _, _, _, _], _)) (x_istore_n (i := 3) rfl (Nat.le_of_ble_eq_true rfl)) ?_
        refine Rk.tr (F1 := (136, 22, _, _)) (x_aload_n rfl rfl rfl) ?_
        refine Rk.tr (F1 := (136, 25, _, _)) (x_getf rfl rfl l1 rfl) ?_
        refine Rk.tr (F1 := (136, 26, _, _)) (x_dup rfl rfl) ?_
        refine Rk.tr (F1 := (136, 28, [_, _, _, _, _], _)) (x_astore (i := 4) rfl (Nat.le_of_ble_eq_true rfl)) ?_
        refine Rk.tr (F1 := (136, 29, _, _)) (x_alen rfl y1 y2) ?_
        refine Rk.tr (F1 := (136, 32, _, _)) (x_icF rfl (tg := 38) rfl (fun z => z (by rw [y3, hc]))) ?_
        refine Rk.tr (F1 := (136, 33, _, _)) (x_aload_n rfl rfl rfl) ?_
        refine Rk.tr (F1 := (136, 36, _, _)) (x_callv (As := []) rfl rfl rfl (Or.inr rfl) rfl rfl l1 (by decide) rfl (Nat.le_of_ble_eq_true rfl) k1 rfl) ?_
        refine Rk.tr (F1 := (136, 38, [_, _, _, _, _], _)) (x_astore (i := 4) rfl (Nat.le_of_ble_eq_true rfl)) ?_
        exact key
      · show g2.2.1 = _; rw [k6]; show g1.2.1 + 1 = _; omega
      · show g2.2.2 ≤ _; rw [k6]; show g1.2.2 + cap' ≤ _; rw [z1]; omega
      · rw [pset_ne q1, pset_ne q2, k5 q q1 q2, s1 q q1]
      · refine (k7.set ?_).set ?_
        · rw [k6]; show g1.2.1 < g1.2.1 + 1; omega
        · show l < g2.2.1; rw [k6]; show l < g1.2.1 + 1; omega
      · show h.2.2 ≤ g2.2.2; rw [k6]; show h.2.2 ≤ g1.2.2 + cap'; rw [z1]; omega
  · rcases e1 with ⟨a1, a2, -⟩ | ⟨fs, f1, f2, f3, f4, f5⟩
    · exfalso; apply hc; rw [a1, a2]; rfl
    · have hle : l ≠ e := fun z => by rw [← z, l1] at f1; cases f1
      have key := t_add (E := E) (d := d) (b := b) (k := k) (x4 := some (.ref e)) rfl l1 f1 b1 hk (by omega) (by omega) hle (bs1.el f3)
      refine ⟨pset (pset g1 e (106, (pcpy fs fs k (k + 1) (bs.length - k)).set k (.ref b))) l (0, [.int (mc + 1), .ref e, .int (nI (bs.length + 1))]), e, cap, Rn.of (Nat.le_of_ble_eq_true rfl) ?_, ⟨⟨mc + 1, by rw [hlen]; exact pset_at⟩, Or.inr ⟨(pcpy fs fs k (k + 1) (bs.length - k)).set k (.ref b), (pset_ne (Ne.symm hle)).trans pset_at, by rw [List.length_set, pcpy_len]; exact f2, ins_take f3 (by omega) hk, by omega, f5⟩, h3⟩, Or.inl ⟨rfl, z1⟩, fun q q1 q2 => ?_, ?_, ?_⟩
      · subst hh1
        refine Rk.tr (F1 := (136, 1, _, _)) (x_aload_n rfl rfl rfl) ?_
        refine Rk.tr (F1 := (136, 2, _, _)) (x_iload_n rfl rfl) ?_
        refine Rk.tr (F1 := (136, 5, _, _)) (x_callv (As := [_]) rfl rfl rfl (Or.inr rfl) rfl rfl h1 (by decide) rfl (Nat.le_of_ble_eq_true rfl) (c_rng (d := d + 4) h1 hk (by omega)) rfl) ?_
        refine Rk.tr (F1 := (136, 6, _, _)) (x_aload_n rfl rfl rfl) ?_
        refine Rk.tr (F1 := (136, 7, _, _)) (x_dup rfl rfl) ?_
        refine Rk.tr (F1 := (136, 10, _, _)) (x_getf rfl rfl h1 rfl) ?_
        refine Rk.tr (F1 := (136, 11, _, _)) (x_iconst rfl) ?_
        refine Rk.tr (F1 := (136, 12, _, _)) (x_iadd rfl) ?_
        refine Rk.tr (F1 := (136, 15, _, _)) (x_putf rfl rfl h1 rfl rfl rfl) ?_
        refine Rk.tr (F1 := (136, 16, _, _)) (x_aload_n rfl rfl rfl) ?_
        refine Rk.tr (F1 := (136, 19, _, _)) (x_getf rfl rfl l1 rfl) ?_
        refine Rk.tr (F1 := (136, 20, _, _)) (x_dup rfl rfl) ?_
        refine Rk.tr (F1 := (136, 21, [_, _, _, _, _], _)) (x_istore_n (i := 3) rfl (Nat.le_of_ble_eq_true rfl)) ?_
        refine Rk.tr (F1 := (136, 22, _, _)) (x_aload_n rfl rfl rfl) ?_
        refine Rk.tr (F1 := (136, 25, _, _)) (x_getf rfl rfl l1 rfl) ?_
        refine Rk.tr (F1 := (136, 26, _, _)) (x_dup rfl rfl) ?_
        refine Rk.tr (F1 := (136, 28, [_, _, _, _, _], _)) (x_astore (i := 4) rfl (Nat.le_of_ble_eq_true rfl)) ?_
        refine Rk.tr (F1 := (136, 29, _, _)) (x_alen rfl y1 y2) ?_
        refine Rk.tr (F1 := (136, 38, _, _)) (x_icT rfl (tg := 38) rfl (show ¬ nI bs.length = nI gs.length from fun z => hc (by have := (nI_eq (by omega) (by omega)).mp z; omega))) ?_
        exact key
      · rw [pset_ne q1, pset_ne q2, s1 q q1]
      · exact (w1.set (w1 _ _ f1)).set (w1 _ _ l1)
      · show h.2.2 ≤ g1.2.2; rw [z1]; exact Nat.le_refl _
end M25
