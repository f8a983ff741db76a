/-! ===== the class: a binding is made ===== -/
theorem GH.addR {E : PE} {h : PH} {O : Nat → Nat × Nat} {G : PG} {a : Nat} {bs : List Nat} {r : Int32 × Int32} (hG : GH E h O G) (hr : rowH E h O a bs r) : GH E h O (gR G a (bs, r)) := by
  refine ⟨hG.1, hG.2.1, fun a2 bs2 r2 h2 => ?_, hG.2.2.2⟩
  by_cases e : a2 = a
  · have h2' : (gR G a (bs, r)).1 a2 = some (bs, r) := if_pos e
    rw [h2'] at h2; cases h2
    rw [e]; exact hr
  · have h2' : (gR G a (bs, r)).1 a2 = G.1 a2 := if_neg e
    rw [h2'] at h2
    exact hG.2.2.1 a2 bs2 r2 h2
theorem GH.addB {E : PE} {h : PH} {O : Nat → Nat × Nat} {G : PG} {b : Nat} {it : It} {rs : List Nat} (hG : GH E h O G) (hb : bndH h O b it rs) : GH E h O (gB G b (it, rs)) := by
  refine ⟨hG.1, hG.2.1, hG.2.2.1, fun b2 it2 rs2 h2 => ?_⟩
  by_cases e : b2 = b
  · have h2' : (gB G b (it, rs)).2 b2 = some (it, rs) := if_pos e
    rw [h2'] at h2; cases h2
    rw [e]; exact hb
  · have h2' : (gB G b (it, rs)).2 b2 = G.2 b2 := if_neg e
    rw [h2'] at h2
    exact hG.2.2.2 b2 it2 rs2 h2
theorem Ch.new {O : Nat → Nat × Nat} {h : PH} {c : PC} (hw : Wf h) : Ch O h O (pnew h c) := ⟨fun _ _ => rfl, Nat.le_succ _, Nat.le_add_right _ _, fun q t fs hq _ _ _ _ => pnew_old hw hq⟩
section M54
variable {E : PE} {d : Nat} {h : PH} {O : Nat → Nat × Nat} {G : PG} {kz at0 k dr : Nat} {cs : Nat → Int32} {len : Int32} {M : Mn} {fr : Bool}
theorem c_bindC {a aa ar : Nat} {bs xs rs : List Nat} {r : Int32 × Int32} {it : It} {kd dt : Int32} (hG : GH E h O G) (x : KvH h O kz cs len at0 M fr k dr) (ha : G.1 a = some (bs, r)) (hb : bs.length < 400) (haa : h.1 aa = some (103, refs xs)) (har : h.1 ar = some (104, refs rs)) (hOa : O aa = (h.2.1 + 1, 2)) (hOr : O ar = (h.2.1 + 1, 3)) (hnm : it.2.1 = nI k) (hkd : ikd it = kd) (hdt : it.1 = 2 ∨ it.1 = 5 → dt = it.2.2.1) (hxl : xs.length = iat it) (hxs : ∀ j y, xs[j]? = some y → AtH h y (iatm it j)) :
    ∃ (h' : PH) (O' : Nat → Nat × Nat), Rn E (d + 7) 96 [.ref kz, .ref a, .int kd, .int dt, .ref aa, .ref ar] h (some (.ref h.2.1)) h' ∧ GH E h' O' (gR (gB G (h.2.1 + 1) (it, rs)) a (bs ++ [h.2.1 + 1], r)) ∧ KvH h' O' kz cs len at0 M fr (k + 1) dr ∧ AtH h' h.2.1 (1, nI k) ∧ ChP kz (kz + 2) (kz + 2) O h O' h' ∧ h.2.1 + 2 ≤ h'.2.1 ∧ h'.2.1 ≤ h.2.1 + 3 ∧ h'.2.2 ≤ h.2.2 + 17 + 2 * bs.length := by
  have hw := hG.1
  have cn := c_name (E := E) (d := d + 5) hG x
  -- the name
  have G0 : GH E (mkA h (1, nI k)) O G := mkA_G hG
  have c0 : Ch O h O (mkA h (1, nI k)) := mkA_ch hw
  have x0 := x.ch hw c0
  obtain ⟨x1, G1, c1⟩ := KvH.put (len' := len) (at' := at0) (fr' := fr) (k' := k + 1) (dr' := dr) G0 x0
  have A0 : AtH (mkA h (1, nI k)) h.2.1 (1, nI k) := mkA_at (Or.inr rfl)
  have A1 := x0.at c1 A0
  have sz1 : (pset (mkA h (1, nI k)) kz (3, kcl kz len at0 fr (k + 1) dr)).2 = (h.2.1 + 1, h.2.2 + 2) := rfl
  have c01 : ChP kz (kz + 2) (kz + 2) O h O (pset (mkA h (1, nI k)) kz (3, kcl kz len at0 fr (k + 1) dr)) := c0.p.tr hw c1
  generalize hh1 : pset (mkA h (1, nI k)) kz (3, kcl kz len at0 fr (k + 1) dr) = h1 at cn x1 G1 c1 A1 sz1 c01
  have s1a : h1.2.1 = h.2.1 + 1 := by rw [sz1]
  have s1b : h1.2.2 = h.2.2 + 2 := by rw [sz1]
  -- the binding
  have w2 : Wf (pnew h1 (2, pdef 2)) := G1.1.new
  have b2 := c_bnd0 (E := E) (d := d + 6) (h := pnew h1 (2, pdef 2)) (n := h1.2.1) (fs := pdef 2) (i1 := nI k) (i2 := kd) (i3 := dt) (a := aa) (b := ar) pnew_at rfl
  have sz2 : (pset (pnew h1 (2, pdef 2)) h1.2.1 (2, [.int (nI k), .int kd, .int dt, .ref aa, .ref ar])).2 = (h1.2.1 + 1, h1.2.2 + 5) := rfl
  have old2 : ∀ q c, h1.1 q = some c → (pset (pnew h1 (2, pdef 2)) h1.2.1 (2, [.int (nI k), .int kd, .int dt, .ref aa, .ref ar])).1 q = some c := fun q c hq => by
    have : q ≠ h1.2.1 := fun z => by have := G1.1 q c hq; omega
    exact ((pset_ne this).trans (pnew_ne this)).trans hq
  have cb : (pset (pnew h1 (2, pdef 2)) h1.2.1 (2, [.int (nI k), .int kd, .int dt, .ref aa, .ref ar])).1 h1.2.1 = some (2, [.int (nI k), .int kd, .int dt, .ref aa, .ref ar]) := pset_at
  have wf2 : Wf (pset (pnew h1 (2, pdef 2)) h1.2.1 (2, [.int (nI k), .int kd, .int dt, .ref aa, .ref ar])) := w2.set (Nat.lt_succ_self _)
  generalize hh2 : pset (pnew h1 (2, pdef 2)) h1.2.1 (2, [.int (nI k), .int kd, .int dt, .ref aa, .ref ar]) = h2 at b2 sz2 old2 cb wf2
  have c2 : Ch O h1 O h2 := ⟨fun _ _ => rfl, by rw [sz2]; exact Nat.le_succ _, by rw [sz2]; exact Nat.le_add_right _ _, fun q t fs hq _ _ _ _ => old2 q _ hq⟩
  have G2 : GH E h2 O G := G1.mono wf2 (fun _ _ => rfl) (fun q t fs hq _ => old2 q _ hq)
  obtain ⟨kk1, kk2, kk3, ms, kk4, kk5⟩ := id x0
  have k103 : ∀ q, h.1 q = some (103, refs xs) → (O q).2 < 9 → h1.1 q = some (103, refs xs) := fun q hq hlt => by
    rw [← hh1, pset_ne]
    · exact mkA_old hw hq
    · intro z
      have := mkA_old (v := (1, nI k)) hw hq
      rw [z, kk1] at this; cases this
  have k104 : ∀ q, h.1 q = some (104, refs rs) → h1.1 q = some (104, refs rs) := fun q hq => by
    rw [← hh1, pset_ne]
    · exact mkA_old hw hq
    · intro z
      have := mkA_old (v := (1, nI k)) hw hq
      rw [z, kk1] at this; cases this
  have eb : h1.2.1 = h.2.1 + 1 := s1a
  have B2 : bndH h2 O (h.2.1 + 1) it rs := by
    refine ⟨aa, ar, xs, dt, by rw [hnm, hkd, ← eb]; exact cb, hdt, old2 _ _ (k103 aa haa (by rw [hOa]; show 2 < 9; omega)), hxl, fun j y hj => ?_, hOa, old2 _ _ (k104 ar har), hOr⟩
    have := x.at c01 (hxs j y hj)
    exact ⟨old2 _ _ this.1, this.2⟩
  have G3 : GH E h2 O (gB G (h.2.1 + 1) (it, rs)) := G2.addB B2
  have ha3 : (gB G (h.2.1 + 1) (it, rs)).1 a = some (bs, r) := ha
  -- the list
  obtain ⟨l, e, cap, x9, q1, q2, q3, q4, q5, q6⟩ := G3.2.2.1 a bs r ha3
  obtain ⟨mc, l1⟩ := id q3.1
  have hby : h2.1 (h.2.1 + 1) = some (2, [.int (nI k), .int kd, .int dt, .ref aa, .ref ar]) := by rw [← eb]; exact cb
  obtain ⟨h3, e', cap', k1, k2, k3, k4, k5, k6⟩ := c_add (E := E) (d := d) G3.1 G3.2.1 q3 q6 hby hb
  have hst : e' ≠ E.2.1 2 := by
    rcases k2.2.1 with ⟨-, a2, -⟩ | ⟨fs, -, -, -, -, f5, -⟩
    · simp at a2
    · exact f5
  have s2a : h2.2.1 = h.2.1 + 2 := by rw [sz2]; show h1.2.1 + 1 = _; omega
  have s2b : h2.2.2 = h.2.2 + 7 := by rw [sz2]; show h1.2.2 + 5 = _; omega
  have hsz : h2.2.1 ≤ h3.2.1 ∧ h3.2.1 ≤ h2.2.1 + 1 ∧ h3.2.2 ≤ h2.2.2 + 10 + 2 * bs.length := by
    rcases k3 with ⟨-, z⟩ | ⟨-, z1, z2⟩
    · rw [z]; omega
    · omega
  have ee : e' = e ∨ (e' = h2.2.1 ∧ bs ++ [h.2.1 + 1] ≠ []) := by
    rcases k3 with ⟨z, -⟩ | ⟨z, -⟩
    · exact Or.inl z
    · exact Or.inr ⟨z, by simp⟩
  have hg := G3.row ha3 q1 q2 q3 q4 q5 k2 ee hsz.1 k4 k5 (fun y hy => by
    rcases List.mem_append.mp hy with z | z
    · exact q6 y z
    · rw [List.mem_singleton.mp z]; exact ⟨_, hby⟩) hst
  have hch : Ch O h2 (fun q => if q = e' then (a, 1) else O q) h3 := by
    refine ⟨fun z hz => ?_, hsz.1, k6, fun z t fs hz e1 e2 e3 e4 => ?_⟩
    · show (if z = e' then (a, 1) else O z) = O z
      split
      next y =>
        rcases ee with w | w
        · rw [y, w]; exact (q5.resolve_left (fun y => hst (w.trans y))).symm
        · omega
      next => rfl
    · rw [k4 z (fun y => ?_) (fun y => ?_)]; exact hz
      · rw [y, l1] at hz; cases hz; exact e2 rfl
      · rcases ee with w | w
        · rcases q3.2.1 with ⟨-, -, a3, -⟩ | ⟨fs', f1, -⟩
          · exact hst (w.trans a3)
          · rw [y, w, f1] at hz; cases hz; exact e3 rfl
        · have := G3.1 _ _ hz; omega
  have x2 := x1.ch G1.1 c2
  have x3 := x2.ch G2.1 hch
  have c23 := c2.tr G1.1 hch
  refine ⟨h3, _, Rn.of (Nat.le_of_ble_eq_true rfl) ?_, hg, x3, A1.fr c23.2.2.2, c01.tr hw c23.p, by omega, by omega, by omega⟩
  -- the walk
  have r1 : h1.1 a = some (7, [.ref l, .ref x9]) := by
    obtain ⟨l', e9, cap9, x9', p1, -⟩ := G1.2.2.1 a bs r ha
    have := old2 _ _ p1
    rw [q1] at this
    rw [p1]; exact this.symm
  have A2 := pnew_old G1.1 (c := (2, pdef 2)) A1.1
  have lp : h2.1 l = some (0, [.int mc, .ref e, .int (nI bs.length)]) := l1
  rw [← eb] at k1
  subst hh2
  refine Rk.tr (F1 := (96, 1, _, _)) (x_aload_n rfl rfl rfl) ?_
  refine Rk.tr (F1 := (96, 4, _, _)) (x_callv (As := []) rfl rfl rfl (Or.inr rfl) rfl rfl x.1 (by decide) rfl (Nat.le_of_ble_eq_true rfl) cn rfl) ?_
  refine Rk.tr (F1 := (96, 6, [_, _, _, _, _, _, _], _)) (x_astore (i := 6) rfl (Nat.le_of_ble_eq_true rfl)) ?_
  refine Rk.tr (F1 := (96, 7, _, _)) (x_aload_n rfl rfl rfl) ?_
  refine Rk.tr (F1 := (96, 10, _, _)) (x_getf rfl rfl r1 rfl) ?_
  refine Rk.tr (F1 := (96, 13, _, _)) (x_new rfl rfl (by decide)) ?_
  refine Rk.tr (F1 := (96, 14, _, _)) (x_dup rfl rfl) ?_
  refine Rk.tr (F1 := (96, 16, _, _)) (x_aload rfl rfl rfl) ?_
  refine Rk.tr (F1 := (96, 19, _, _)) (x_getf rfl rfl A2 rfl) ?_
  refine Rk.tr (F1 := (96, 20, _, _)) (x_iload_n rfl rfl) ?_
  refine Rk.tr (F1 := (96, 21, _, _)) (x_iload_n rfl rfl) ?_
  refine Rk.tr (F1 := (96, 23, _, _)) (x_aload rfl rfl rfl) ?_
  refine Rk.tr (F1 := (96, 25, _, _)) (x_aload rfl rfl rfl) ?_
  refine Rk.tr (F1 := (96, 28, _, _)) (x_calli (As := [_, _, _, _, _]) rfl rfl rfl rfl rfl rfl (Nat.le_of_ble_eq_true rfl) b2 rfl) ?_
  refine Rk.tr (F1 := (96, 31, _, _)) (x_callv (As := [_]) rfl rfl rfl (Or.inl rfl) rfl rfl lp (by decide) rfl (Nat.le_of_ble_eq_true rfl) k1 rfl) ?_
  refine Rk.tr (F1 := (96, 32, _, _)) (x_pop rfl rfl) ?_
  refine Rk.tr (F1 := (96, 34, _, _)) (x_aload rfl rfl rfl) ?_
  exact Rk.end rfl (Or.inr (Or.inr (Or.inr ⟨rfl, _, _, rfl, Or.inl ⟨_, rfl⟩, Or.inr ⟨_, rfl⟩, rfl, rfl⟩)))
end M54
