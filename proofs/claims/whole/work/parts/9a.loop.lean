/-! ===== the law's loop ===== -/
theorem nI_2 (i : Nat) : nI i + Int32.ofInt 2 = nI (i + 2) := by
  have h1 := nI_1 i
  have h2 := nI_1 (i + 1)
  rw [← h2, ← h1, Int32.add_assoc]
  rfl
theorem nI_end {N i : Nat} (hN : N ≤ 60000) (hi : i ≤ 60000) : nI N - Int32.ofInt 2 < nI i ↔ N < i + 2 := by
  rw [Int32.lt_iff_toInt_lt, Int32.toInt_sub]
  have e1 : (nI N).toInt = (N : Int) := Int32.toInt_ofNat_of_lt (by omega)
  have e2 : (nI i).toInt = (i : Int) := Int32.toInt_ofNat_of_lt (by omega)
  have e3 : (Int32.ofInt 2).toInt = 2 := rfl
  rw [e1, e2, e3, Int.bmod_eq_of_le (by omega) (by omega)]
  omega
section M100
variable {E : PE} {h h0 h1 h2 : PH} {x b i A B : Nat} {p5 p6 : Option Value} {fs : List Value} {tb : Nat}
theorem JI.cell {t q : Nat} {gs : List Value} (hJ : JI E h0 h x A B) (hq : h0.1 q = some (t, gs)) (ht : 107 ≤ t) : h.1 q = some (t, gs) := by
  obtain ⟨O, G, S, n, cs, W, rn, j1, j2, j3, j4⟩ := hJ
  exact j4 q t gs hq ht
theorem JI.sz (hJ : JI E h0 h x A B) : h.2.1 ≤ A ∧ h.2.2 ≤ B := by
  obtain ⟨O, G, S, n, cs, W, rn, j1, j2, j3, j4⟩ := hJ
  exact ⟨by omega, by omega⟩
theorem y_back {o5 o6 : Option Value} : Ey E 200 (151, 453, LL b x i o5 o6, []) h (151, 23, LL b x (i + 2) o5 o6, []) h := by
  refine Ey.tx (F1 := (151, 456, LL b x (i + 2) o5 o6, _)) ?_ (Ey.of (x_goto rfl rfl))
  have h1 := x_iinc (E := E) (d := 200) (mi := 151) (pc := 453) (L := LL b x i o5 o6) (st := []) (h := h) (i := 4) (n := 2) rfl rfl
  rw [nI_2] at h1
  exact h1
theorem y_turn (hJ : JI E h0 h x A B) (ht7 : 107 ≤ tb) (hpt : ptag tb = some .int) (hb : h0.1 b = some (tb, fs)) (hf : ∀ j, j < fs.length → ∃ v : Int32, fs[j]? = some (.int v)) (hN : fs.length ≤ 60000) (hi : i + 2 ≤ fs.length) : ∃ h2 o5 o6, Ey E 200 (151, 23, LL b x i p5 p6, []) h (151, 23, LL b x (i + 2) o5 o6, []) h2 ∧ JI E h0 h2 x (A + 80) (B + 7320) := by
  have hb1 := hJ.cell hb ht7
  obtain ⟨v0, hv0⟩ := hf i (by omega)
  obtain ⟨v, hv⟩ := hf (i + 1) (by omega)
  have head : Ey E 200 (151, 23, LL b x i p5 p6, []) h (151, 39, LL b x i p5 p6, [.int (v0 &&& (Int8.ofInt 7).toInt32)]) h := by
    refine Ey.tx (F1 := (151, 25, _, _)) (x_iload (i := 4) rfl rfl) ?_
    refine Ey.tx (F1 := (151, 26, _, _)) (x_aload_n rfl rfl rfl) ?_
    refine Ey.tx (F1 := (151, 27, _, _)) (x_alen (ty := .int) rfl hb1 hpt) ?_
    refine Ey.tx (F1 := (151, 28, _, _)) (x_iconst rfl) ?_
    refine Ey.tx (F1 := (151, 29, _, _)) (x_isub rfl) ?_
    refine Ey.tx (F1 := (151, 32, _, _)) (x_icF rfl (tg := 459) rfl (fun z => absurd ((nI_end hN (by omega)).mp z) (by omega))) ?_
    refine Ey.tx (F1 := (151, 33, _, _)) (x_aload_n rfl rfl rfl) ?_
    refine Ey.tx (F1 := (151, 35, _, _)) (x_iload (i := 4) rfl rfl) ?_
    refine Ey.tx (F1 := (151, 36, _, _)) (x_iald (n := i) rfl hb1 hpt rfl (by omega) hv0) ?_
    refine Ey.tx (F1 := (151, 38, _, _)) (x_bipush rfl) ?_
    exact Ey.of (x_iand rfl)
  have fin : ∀ {h2 : PH} {tg : Nat} {o5 o6 : Option Value}, Ex E 200 (151, 39, LL b x i p5 p6, [.int (v0 &&& (Int8.ofInt 7).toInt32)]) h (151, tg, LL b x i p5 p6, []) h → Ey E 200 (151, tg, LL b x i p5 p6, []) h (151, 453, LL b x i o5 o6, []) h2 → Ey E 200 (151, 23, LL b x i p5 p6, []) h (151, 23, LL b x (i + 2) o5 o6, []) h2 :=
    fun z1 z2 => head.tr (Ey.tx z1 (z2.tr y_back))
  generalize v0 &&& (Int8.ofInt 7).toInt32 = w at head fin
  by_cases hout : w.toInt < 0 ∨ 7 < w.toInt
  · exact ⟨h, p5, p6, fin (tg := 453) (x_tswOut rfl hout rfl) (Ey.of Ex.rf), hJ.mono (Nat.le_add_right _ _) (Nat.le_add_right _ _)⟩
  · have hlo : ¬ w.toInt < 0 := fun z => hout (Or.inl z)
    have hhi : ¬ 7 < w.toInt := fun z => hout (Or.inr z)
    rcases (show w.toInt = 0 ∨ w.toInt = 1 ∨ w.toInt = 2 ∨ w.toInt = 3 ∨ w.toInt = 4 ∨ w.toInt = 5 ∨ w.toInt = 6 ∨ w.toInt = 7 by omega) with e | e | e | e | e | e | e | e
    · obtain ⟨r, h1, h2, g1, g2, ⟨f1, g3⟩, ⟨f2, g4⟩, g5, g6⟩ := J_type (v := v) hJ
      exact ⟨h2, p5, p6, fin (tg := 84) (x_tswIn (off := 45) rfl hlo hhi (by rw [e]; rfl) rfl) (y_84 hpt hb1 (g5 b tb fs hb ht7) (by omega) hv g3 g4 g1 g2), g6⟩
    · obtain ⟨h2, g1, g2⟩ := J_conv hJ
      obtain ⟨o5, o6, g3⟩ := y_109 (b := b) (i := i) (p5 := p5) (p6 := p6) g1
      exact ⟨h2, o5, o6, fin (tg := 109) (x_tswIn (off := 70) rfl hlo hhi (by rw [e]; rfl) rfl) g3, g2⟩
    · obtain ⟨h2, g1, g2⟩ := J_pass hJ
      obtain ⟨o5, o6, g3⟩ := y_153 (b := b) (i := i) (p5 := p5) (p6 := p6) g1
      exact ⟨h2, o5, o6, fin (tg := 153) (x_tswIn (off := 114) rfl hlo hhi (by rw [e]; rfl) rfl) g3, g2⟩
    · obtain ⟨h2, g1, g2⟩ := J_simp hJ
      obtain ⟨o5, o6, g3⟩ := y_197 (b := b) (i := i) (p5 := p5) (p6 := p6) g1
      exact ⟨h2, o5, o6, fin (tg := 197) (x_tswIn (off := 158) rfl hlo hhi (by rw [e]; rfl) rfl) g3, g2⟩
    · obtain ⟨h2, g1, g2⟩ := J_count (v := v) hJ
      obtain ⟨o5, o6, g3⟩ := y_241 (p5 := p5) (p6 := p6) ht7 hpt hb1 hb (by omega) hv g1
      exact ⟨h2, o5, o6, fin (tg := 241) (x_tswIn (off := 202) rfl hlo hhi (by rw [e]; rfl) rfl) g3, g2⟩
    · obtain ⟨h2, g1, g2⟩ := J_written (v := v) hJ
      obtain ⟨o5, o6, g3⟩ := y_297 (p5 := p5) (p6 := p6) ht7 hpt hb1 hb (by omega) hv g1
      exact ⟨h2, o5, o6, fin (tg := 297) (x_tswIn (off := 258) rfl hlo hhi (by rw [e]; rfl) rfl) g3, g2⟩
    · obtain ⟨h2, g1, g2⟩ := J_run hJ
      obtain ⟨o5, o6, g3⟩ := y_353 (b := b) (i := i) (p5 := p5) (p6 := p6) g1
      exact ⟨h2, o5, o6, fin (tg := 353) (x_tswIn (off := 314) rfl hlo hhi (by rw [e]; rfl) rfl) g3, g2⟩
    · obtain ⟨h2, g1, g2⟩ := J_ran (v := v) hJ
      obtain ⟨o5, o6, g3⟩ := y_397 (p5 := p5) (p6 := p6) ht7 hpt hb1 hb (by omega) hv g1
      exact ⟨h2, o5, o6, fin (tg := 397) (x_tswIn (off := 358) rfl hlo hhi (by rw [e]; rfl) rfl) g3, g2⟩
theorem y_loop (ht7 : 107 ≤ tb) (hpt : ptag tb = some .int) (hb : h0.1 b = some (tb, fs)) (hf : ∀ j, j < fs.length → ∃ v : Int32, fs[j]? = some (.int v)) (hN : fs.length ≤ 50000) : ∀ (t i : Nat) (h : PH) (A B : Nat) (p5 p6 : Option Value), JI E h0 h x A B → i ≤ fs.length → fs.length < i + 2 + 2 * t → ∃ h2 L2, Ey E 200 (151, 23, LL b x i p5 p6, []) h (151, 460, L2, [.int 1]) h2 ∧ h2.2.1 ≤ A + 80 * t ∧ h2.2.2 ≤ B + 7320 * t := by
  intro t
  induction t with
  | zero =>
    intro i h A B p5 p6 hJ hi ht
    have hb1 := hJ.cell hb ht7
    refine ⟨h, LL b x i p5 p6, ?_, by have := hJ.sz.1; omega, by have := hJ.sz.2; omega⟩
    refine Ey.tx (F1 := (151, 25, _, _)) (x_iload (i := 4) rfl rfl) ?_
    refine Ey.tx (F1 := (151, 26, _, _)) (x_aload_n rfl rfl rfl) ?_
    refine Ey.tx (F1 := (151, 27, _, _)) (x_alen (ty := .int) rfl hb1 hpt) ?_
    refine Ey.tx (F1 := (151, 28, _, _)) (x_iconst rfl) ?_
    refine Ey.tx (F1 := (151, 29, _, _)) (x_isub rfl) ?_
    refine Ey.tx (F1 := (151, 459, _, _)) (x_icT rfl (tg := 459) rfl ((nI_end (by omega) (by omega)).mpr (by omega))) ?_
    exact Ey.of (x_iconst (n := 1) rfl)
  | succ t ih =>
    intro i h A B p5 p6 hJ hi ht
    by_cases hgo : i + 2 ≤ fs.length
    · obtain ⟨h2, o5, o6, g1, g2⟩ := y_turn (p5 := p5) (p6 := p6) hJ ht7 hpt hb hf (by omega) hgo
      obtain ⟨h3, L3, g3, g4, g5⟩ := ih (i + 2) h2 _ _ o5 o6 g2 hgo (by omega)
      exact ⟨h3, L3, g1.tr g3, by omega, by omega⟩
    · have hb1 := hJ.cell hb ht7
      refine ⟨h, LL b x i p5 p6, ?_, by have := hJ.sz.1; omega, by have := hJ.sz.2; omega⟩
      refine Ey.tx (F1 := (151, 25, _, _)) (x_iload (i := 4) rfl rfl) ?_
      refine Ey.tx (F1 := (151, 26, _, _)) (x_aload_n rfl rfl rfl) ?_
      refine Ey.tx (F1 := (151, 27, _, _)) (x_alen (ty := .int) rfl hb1 hpt) ?_
      refine Ey.tx (F1 := (151, 28, _, _)) (x_iconst rfl) ?_
      refine Ey.tx (F1 := (151, 29, _, _)) (x_isub rfl) ?_
      refine Ey.tx (F1 := (151, 459, _, _)) (x_icT rfl (tg := 459) rfl ((nI_end (by omega) (by omega)).mpr (by omega))) ?_
      exact Ey.of (x_iconst (n := 1) rfl)
/-- everything stays, more may be there -/
theorem ClH.more {O : Nat → Nat × Nat} {G : PG} {n : Nat} {cs rn : Nat → Int32} {W : Option PW} (hC : ClH E h O G x n cs W rn) (hw : Wf h1) (k : ∀ q c, h.1 q = some c → h1.1 q = some c) : ClH E h1 O G x n cs W rn := by
  obtain ⟨c1, c2, c3, c4, c5, c6, c7, c8, c9⟩ := hC
  refine ⟨c1.mono hw (fun _ _ => rfl) (fun q t fs hq _ => k q _ hq), c2.keep (fun q t fs _ hq => k q _ hq), c3, k _ _ c4, c5.keep (fun q t fs _ hq => k q _ hq) rfl, c6.keep (fun q t fs _ hq => k q _ hq) rfl, c7.keep (fun q t fs _ hq => k q _ hq), c8.keep (fun q t fs _ _ hq => k q _ hq), fun w hw => ?_⟩
  obtain ⟨p1, p2, p3, p4, p5⟩ := c9 w hw
  exact ⟨k _ _ p1, k _ _ p2, p3, p4, p5⟩
/-- the law begins -/
theorem y_begin (hw : Wf h0) (hs : stH E h0) (hst : h0.1 (E.2.1 2) = some (109, [])) (hb : b < h0.2.1) : ∃ h2, Ey E 200 (151, 0, pent [.ref b] (mmax 151), []) h0 (151, 23, LL b h0.2.1 0 none none, []) h2 ∧ JI E h0 h2 h0.2.1 (h0.2.1 + 42) (h0.2.2 + 3778 + 43 + msum 25 + 1) := by
  obtain ⟨g1, r1, C1, z1, z2, k1⟩ := c_new (d := 198) hw hs hst
  have r2 := c_init0 (E := E) (d := 199) (h0 := g1)
  have C1w : Wf g1 := C1.1.1
  generalize hg2 : mh (g1.1, g1.2.1 + 26, g1.2.2 + 43 + msum 25) g1.2.1 (fun _ => 0, fun _ _ => 0) = g2 at r2
  have e21 : g2.2.1 = g1.2.1 + 26 := by rw [← hg2]; rfl
  have e22 : g2.2.2 = g1.2.2 + 43 + msum 25 := by rw [← hg2]; rfl
  have o2 : ∀ q, q < g1.2.1 → g2.1 q = g1.1 q := fun q hq => by rw [← hg2, mh_ne (by omega)]
  have n2 : ∀ q, g1.2.1 + 26 ≤ q → g2.1 q = none := fun q hq => by
    rw [← hg2, mh_ne (by omega)]
    show g1.1 q = none
    cases e : g1.1 q with
    | none => rfl
    | some c => have := C1w _ _ e; omega
  have m2 : ∃ S : MSt, g2 = mh g2 (h0.2.1 + 15) S ∧ S = (fun _ => 0, fun _ _ => 0) := ⟨_, by rw [← hg2, ← z1, mh_mh], rfl⟩
  obtain ⟨S, m2, eS⟩ := m2
  have w3 : Wf (pnew g2 (101, [.long 0])) := fun q c hq => by
    show q < g2.2.1 + 1
    by_cases e : q = g2.2.1
    · omega
    · rw [pnew_ne e] at hq
      rcases Nat.lt_or_ge q (g1.2.1 + 26) with z | z
      · omega
      · rw [n2 q z] at hq; cases hq
  have k3 : ∀ q c, g1.1 q = some c → (pnew g2 (101, [.long 0])).1 q = some c := fun q c hq => by
    have := C1w _ _ hq
    rw [pnew_ne (by omega), o2 q this]
    exact hq
  have C3 := C1.more w3 k3
  have m3 : pnew g2 (101, [.long 0]) = mh (pnew g2 (101, [.long 0])) (h0.2.1 + 15) S := mh_of (g := g2) (fun q t fs h1 h2 hq => by
    rw [pnew_ne (by omega), m2]
    exact hq)
  have hR : RfR S 0 (fun _ => 0) none (fun _ => 0) := by
    rw [eS]
    exact ⟨rfl, rfl, fun _ _ => rfl, fun _ => ⟨rfl, fun _ _ => rfl⟩, fun w hw => nomatch hw⟩
  have a3 : (pnew g2 (101, [.long 0])).1 (h0.2.1 + 41) = some (101, [.long 0]) := by
    rw [show h0.2.1 + 41 = g2.2.1 by omega]
    exact pnew_at
  refine ⟨pnew g2 (101, [.long 0]), ?_, _, _, S, 0, _, none, _, ⟨C3, m3, hR, by show h0.2.1 + 42 ≤ g2.2.1 + 1; omega, 0, a3⟩, ?_, ?_, fun q t fs hq _ => k3 q _ (k1 q _ hq)⟩
  · refine Ey.tx (F1 := (151, 3, _, _)) (x_new rfl rfl (by decide)) ?_
    refine Ey.tx (F1 := (151, 4, _, _)) (x_dup rfl rfl) ?_
    refine Ey.tx (F1 := (151, 7, _, _)) (x_calli (As := []) rfl rfl rfl rfl rfl rfl (Nat.le_of_ble_eq_true rfl) r1 rfl) ?_
    refine Ey.tx (F1 := (151, 8, [some (.ref b), some (.ref h0.2.1), none, none, none, none, none], _)) (x_astore_n (i := 1) rfl (Nat.le_of_ble_eq_true rfl)) ?_
    refine Ey.tx (F1 := (151, 11, _, _)) (x_new rfl rfl (by decide)) ?_
    refine Ey.tx (F1 := (151, 12, _, _)) (x_dup rfl rfl) ?_
    refine Ey.tx (F1 := (151, 15, _, _)) (x_calli (As := []) rfl rfl rfl rfl rfl rfl (Nat.le_of_ble_eq_true rfl) r2 rfl) ?_
    rw [z1]
    refine Ey.tx (F1 := (151, 16, [some (.ref b), some (.ref h0.2.1), some (.ref (h0.2.1 + 15)), none, none, none, none], _)) (x_astore_n (i := 2) rfl (Nat.le_of_ble_eq_true rfl)) ?_
    refine Ey.tx (F1 := (151, 17, _, _)) (x_iconst rfl) ?_
    refine Ey.tx (F1 := (151, 19, _, _)) (x_newa (j := 1) (n := 1) rfl rfl rfl (by decide) ac_long rfl (by decide) (by decide)) ?_
    rw [show g2.2.1 = h0.2.1 + 41 by omega]
    refine Ey.tx (F1 := (151, 20, [some (.ref b), some (.ref h0.2.1), some (.ref (h0.2.1 + 15)), some (.ref (h0.2.1 + 41)), none, none, none], _)) (x_astore_n (i := 3) rfl (Nat.le_of_ble_eq_true rfl)) ?_
    refine Ey.tx (F1 := (151, 21, _, _)) (x_iconst rfl) ?_
    exact Ey.of (x_istore (i := 4) rfl (Nat.le_of_ble_eq_true rfl))
  · show g2.2.1 + 1 + 53 * 0 + 74 * 0 ≤ _
    omega
  · show g2.2.2 + 1 + 5930 * 0 + 7219 * 0 ≤ _
    omega
/-- the law from its entry to its end -/
theorem y_law (hw : Wf h0) (hs : stH E h0) (hst : h0.1 (E.2.1 2) = some (109, [])) (ht7 : 107 ≤ tb) (hpt : ptag tb = some .int) (hb : h0.1 b = some (tb, fs)) (hf : ∀ j, j < fs.length → ∃ v : Int32, fs[j]? = some (.int v)) (hN : fs.length ≤ 1024) : ∃ h2 L2, Ey E 200 (151, 0, pent [.ref b] (mmax 151), []) h0 (151, 460, L2, [.int 1]) h2 ∧ h2.2.1 ≤ h0.2.1 + 41050 ∧ h2.2.2 ≤ h0.2.2 + 3822 + msum 25 + 3747840 := by
  obtain ⟨h1, g1, g2⟩ := y_begin (b := b) hw hs hst (hw _ _ hb)
  obtain ⟨h2, L2, g3, g4, g5⟩ := y_loop ht7 hpt hb hf (by omega) 512 0 h1 _ _ none none g2 (Nat.zero_le _) (by omega)
  exact ⟨h2, L2, g1.tr g3, by omega, by omega⟩
end M100
