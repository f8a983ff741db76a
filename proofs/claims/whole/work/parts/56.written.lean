/-! ===== the class: rows written ===== -/
section M33
variable {E : PE} {d : Nat} {g : PH} {z nu : Nat} {O : Nat → Nat × Nat} {G : PG}
theorem sch_same (hz : z ≠ nu) {T T' : Nat → Int32} {n k' q t : Nat} {fs : List Value} (hq : (sch g z nu T n).1 q = some (t, fs)) (e1 : t ≠ 8) (e2 : t ≠ 100) : (sch g z nu T' k').1 q = some (t, fs) := by
  have q1 : q ≠ z := fun e => by rw [e, sch_z] at hq; cases hq; exact e1 rfl
  have q2 : q ≠ nu := fun e => by rw [e, sch_n hz] at hq; cases hq; exact e2 rfl
  have a1 : (sch g z nu T n).1 q = g.1 q := (pset_ne q1).trans (pset_ne q2)
  have a2 : (sch g z nu T' k').1 q = g.1 q := (pset_ne q1).trans (pset_ne q2)
  rw [a2, ← a1]; exact hq
theorem lp_wriR (hz : z ≠ nu) {D n dp ar b : Nat} {rs : List Nat} (IH : ∀ (Q : List AI) (r : Nat) (T : Nat → Int32) (k : Nat), Q.length ≤ n → WA G [(r, [])] Q [] → 7 * (dp + 1) + tsum (AP Q) ≤ 210 → k + tsum (AP Q) ≤ 400 → ∃ T' : Nat → Int32, Rn E (D + 2) 71 [.ref z, .ref r, .int (nI (dp + 1))] (sch g z nu T k) none (sch g z nu T' (k + tsum (AP Q))) ∧ TokAt T' k (AP Q) ∧ ∀ j, j < k → T' j = T j) (har : ∀ T k, (sch g z nu T k).1 ar = some (104, refs rs)) (h2 : rs.length ≤ 2) : ∀ (rs2 rs1 : List Nat) (R : List AI) (T : Nat → Int32) (k : Nat) (y : Option Value), rs = rs1 ++ rs2 → WA G (rs2.map (fun r => (r, []))) R [] → R.length ≤ n → 7 * (dp + 1) + tsum (AP R) ≤ 210 → k + tsum (AP R) ≤ 400 →
    ∃ T' : Nat → Int32, Rk E (D + 3) (72, 95, [some (.ref z), some (.ref b), some (.int (nI dp)), some (.ref ar), some (.int (nI rs.length)), some (.int (nI rs1.length)), y], []) (sch g z nu T k) none (sch g z nu T' (k + tsum (AP R))) ∧ TokAt T' k (AP R) ∧ ∀ j, j < k → T' j = T j := by
  intro rs2
  induction rs2 with
  | nil =>
    intro rs1 R T k y e hW _ _ _
    have hR := (WA_nil hW).1
    rw [List.append_nil] at e
    rw [hR]
    refine ⟨T, ?_, trivial, fun _ _ => rfl⟩
    refine Rk.tr (F1 := (72, 97, _, _)) (x_iload rfl rfl) ?_
    refine Rk.tr (F1 := (72, 99, _, _)) (x_iload rfl rfl) ?_
    refine Rk.tr (F1 := (72, 123, _, _)) (x_icT rfl (tg := 123) rfl (show nI rs.length ≤ nI rs1.length by rw [e]; exact Int32.le_refl _)) ?_
    exact Rk.end rfl (Or.inl ⟨rfl, rfl, rfl, rfl⟩)
  | cons r rs2 ih =>
    intro rs1 R T k y e hW hn ht hk
    obtain ⟨R1, R2, eR, w1, w2⟩ := WA_rows hW
    have hrs : rs[rs1.length]? = some r := by rw [e, List.getElem?_append_right (Nat.le_refl _), Nat.sub_self]; rfl
    have hlen : rs.length = rs1.length + (rs2.length + 1) := by rw [e, List.length_append, List.length_cons]
    have et : tsum (AP R) = tsum (AP R1) + tsum (AP R2) := by rw [eR, AP_app, tsum_app]
    have el : R.length = R1.length + R2.length := by rw [eR, List.length_append]
    obtain ⟨T1, c1, c2, c3⟩ := IH R1 r T k (by omega) w1 (by omega) (by omega)
    obtain ⟨T2, k1, k2, k3⟩ := ih (rs1 ++ [r]) R2 T1 (k + tsum (AP R1)) (some (.ref r)) (by rw [e, List.append_assoc]; rfl) w2 (by omega) (by omega) (by omega)
    rw [List.length_append, List.length_singleton, ← nI_1 rs1.length] at k1
    rw [Nat.add_assoc, ← et] at k1
    refine ⟨T2, ?_, ?_, fun j hj => (k3 j (by omega)).trans (c3 j hj)⟩
    · refine Rk.tr (F1 := (72, 97, _, _)) (x_iload rfl rfl) ?_
      refine Rk.tr (F1 := (72, 99, _, _)) (x_iload rfl rfl) ?_
      refine Rk.tr (F1 := (72, 102, _, _)) (x_icF rfl (tg := 123) rfl (show ¬ nI rs.length ≤ nI rs1.length from nI_ge (by omega) (by omega))) ?_
      refine Rk.tr (F1 := (72, 103, _, _)) (x_aload_n rfl rfl rfl) ?_
      refine Rk.tr (F1 := (72, 105, _, _)) (x_iload rfl rfl) ?_
      refine Rk.tr (F1 := (72, 106, _, _)) (x_aald rfl (har _ _) rfl rfl rfl (by omega) (refs_at hrs)) ?_
      refine Rk.tr (F1 := (72, 108, [_, _, _, _, _, _, _], _)) (x_astore (i := 6) rfl (Nat.le_of_ble_eq_true rfl)) ?_
      refine Rk.tr (F1 := (72, 109, _, _)) (x_aload_n rfl rfl rfl) ?_
      refine Rk.tr (F1 := (72, 111, _, _)) (x_aload rfl rfl rfl) ?_
      refine Rk.tr (F1 := (72, 112, _, _)) (x_iload_n rfl rfl) ?_
      refine Rk.tr (F1 := (72, 113, _, _)) (x_iconst rfl) ?_
      refine Rk.tr (F1 := (72, 114, _, _)) (x_iadd rfl) ?_
      refine Rk.tr (F1 := (72, 114, _, _)) (x_top (nI_1 dp)) ?_
      refine Rk.tr (F1 := (72, 117, _, _)) (x_callv (As := [_, _]) rfl rfl rfl (Or.inr rfl) rfl rfl sch_z (by decide) rfl (Nat.le_of_ble_eq_true rfl) c1 rfl) ?_
      refine Rk.tr (F1 := (72, 120, [_, _, _, _, _, _, _], _)) (x_iinc (i := 5) rfl rfl) ?_
      refine Rk.tr (F1 := (72, 95, _, _)) (x_goto rfl rfl) ?_
      exact k1
    · rw [eR, AP_app]
      exact TokAt_app.mpr ⟨TokAt_shift c2 (fun j hj => k3 (k + j) (by omega)), k2⟩
theorem c_wbind (hz : z ≠ nu) (hG : ∀ T k, GH E (sch g z nu T k) O G) {D n dp b : Nat} {rs : List Nat} {it : It} (IH : ∀ (Q : List AI) (r : Nat) (T : Nat → Int32) (k : Nat), Q.length ≤ n → WA G [(r, [])] Q [] → 7 * (dp + 1) + tsum (AP Q) ≤ 210 → k + tsum (AP Q) ≤ 400 → ∃ T' : Nat → Int32, Rn E (D + 2) 71 [.ref z, .ref r, .int (nI (dp + 1))] (sch g z nu T k) none (sch g z nu T' (k + tsum (AP Q))) ∧ TokAt T' k (AP Q) ∧ ∀ j, j < k → T' j = T j) (hb : G.2 b = some (it, rs)) (h9 : it.1 ≠ 9) (h2 : rs.length ≤ 2) {R : List AI} (hW : WA G (rs.map (fun r => (r, []))) R []) (hR : R.length ≤ n) (ht : 7 * (dp + 1) + tsum (AP R) ≤ 210) {T : Nat → Int32} {k : Nat} (hk : k + (isz it + tsum (AP R)) ≤ 400) :
    ∃ T' : Nat → Int32, Rn E (D + 3) 72 [.ref z, .ref b, .int (nI dp)] (sch g z nu T k) none (sch g z nu T' (k + (isz it + tsum (AP R)))) ∧ TokAt T' k (it :: AP R) ∧ ∀ j, j < k → T' j = T j := by
  obtain ⟨T1, a1, a2, a3⟩ := t_bhead (E := E) (d := D + 1) (dp := nI dp) hz hG hb h9 (T := T) (n := k) (by omega)
  have bc := fun T k => (hG T k).2.2.2 b it rs hb
  obtain ⟨at0, ar, xs, dt, b1, b2, b3, b4, b5, b6, b7, b8⟩ := bc T1 (k + isz it)
  have har : ∀ T k, (sch g z nu T k).1 ar = some (104, refs rs) := fun T' k' => sch_same hz b7 (by decide) (by decide)
  obtain ⟨T2, k1, k2, k3⟩ := lp_wriR (E := E) hz (b := b) IH har h2 rs [] R T1 (k + isz it) none rfl hW hR ht (by omega)
  rw [Nat.add_assoc] at k1
  refine ⟨T2, Rn.of (Nat.le_of_ble_eq_true rfl) ?_, ⟨Tok1_shift a2 (fun j hj => k3 (k + j) (by omega)), k2⟩, fun j hj => (k3 j (by omega)).trans (a3 j hj)⟩
  refine Rk.tr a1 ?_
  refine Rk.tr (F1 := (72, 84, _, _)) (x_aload_n rfl rfl rfl) ?_
  refine Rk.tr (F1 := (72, 87, _, _)) (x_getf rfl rfl b1 rfl) ?_
  refine Rk.tr (F1 := (72, 88, [_, _, _, _, _, _, _], _)) (x_astore_n (i := 3) rfl (Nat.le_of_ble_eq_true rfl)) ?_
  refine Rk.tr (F1 := (72, 89, _, _)) (x_aload_n rfl rfl rfl) ?_
  refine Rk.tr (F1 := (72, 90, _, _)) (x_alen rfl b7 rfl) ?_
  refine Rk.tr (F1 := (72, 90, _, _)) (x_top (congrArg nI (refs_len rs))) ?_
  refine Rk.tr (F1 := (72, 92, [_, _, _, _, _, _, _], _)) (x_istore (i := 4) rfl (Nat.le_of_ble_eq_true rfl)) ?_
  refine Rk.tr (F1 := (72, 93, _, _)) (x_iconst rfl) ?_
  refine Rk.tr (F1 := (72, 95, [_, _, _, _, _, _, _], _)) (x_istore (i := 5) rfl (Nat.le_of_ble_eq_true rfl)) ?_
  exact k1
theorem lp_wri (hz : z ≠ nu) (hG : ∀ T k, GH E (sch g z nu T k) O G) {D n dp a : Nat} {bs : List Nat} {r : Int32 × Int32} (ha : G.1 a = some (bs, r)) (IH : ∀ (Q : List AI) (r : Nat) (T : Nat → Int32) (k : Nat), Q.length ≤ n → WA G [(r, [])] Q [] → 7 * (dp + 1) + tsum (AP Q) ≤ 210 → k + tsum (AP Q) ≤ 400 → ∃ T' : Nat → Int32, Rn E (D + 2) 71 [.ref z, .ref r, .int (nI (dp + 1))] (sch g z nu T k) none (sch g z nu T' (k + tsum (AP Q))) ∧ TokAt T' k (AP Q) ∧ ∀ j, j < k → T' j = T j) : ∀ (m : Nat) (Q : List AI) (p : List Nat) (T : Nat → Int32) (k : Nat), Q.length ≤ m → m ≤ n + 1 → WA G [(a, p)] Q [] → 7 * dp + tsum (AP Q) ≤ 210 → k + tsum (AP Q) ≤ 400 →
    ∃ T' : Nat → Int32, Rk E (D + 4) (71, 2, [some (.ref z), some (.ref a), some (.int (nI dp)), some (.int (nI p.length))], []) (sch g z nu T k) none (sch g z nu T' (k + tsum (AP Q))) ∧ TokAt T' k (AP Q) ∧ ∀ j, j < k → T' j = T j := by
  intro m
  induction m with
  | zero =>
    intro Q p T k hm _ hW _ _
    have : Q = [] := List.length_eq_zero_iff.mp (Nat.le_zero.mp hm)
    rw [this] at hW; cases hW
  | succ m ih =>
    intro Q p T k hm hmn hW ht hk
    obtain ⟨l, e, cap, x0, h1, h2, h3, h4, h5, h6⟩ := (hG T k).2.2.1 a bs r ha
    obtain ⟨mc, l1⟩ := id h3.1
    have hln := h3.len
    rcases WA_row hW with ⟨it, eQ, e9, eg⟩ | ⟨it, x, rs, R, Q', eQ, e9, eg, el, w1, w2⟩
    · rw [ha] at eg; cases eg
      have ez : tsum (AP Q) = 3 := by
        rw [eQ]
        show isz it + 0 = 3
        have : isz it = 3 := by unfold isz; rw [e9]; rfl
        omega
      have hy : ∀ T k, AtH (sch g z nu T k) x0 it.2.2.2.1 := fun T' k' => ⟨sch_same hz h2.1 (by decide) (by decide), h2.2⟩
      have h1' : ∀ T k, (sch g z nu T k).1 a = some (7, [.ref l, .ref x0]) := fun T' k' => sch_same hz h1 (by decide) (by decide)
      rw [ez] at hk ⊢
      have p1 := c_sput (E := E) (d := D + 3) (g := g) hz (T := T) (n := k) (x := 9) (by omega)
      have p2 := c_satom (E := E) (d := D + 2) (g := g) hz (T := rup T k 9) (n := k + 1) (v := it.2.2.2.1) (by omega) hy
      refine ⟨rup (rup (rup T k 9) (k + 1) it.2.2.2.1.1) (k + 1 + 1) it.2.2.2.1.2, ?_, ?_, ?_⟩
      · refine Rk.tr (F1 := (71, 3, _, _)) (x_iload_n rfl rfl) ?_
        refine Rk.tr (F1 := (71, 4, _, _)) (x_aload_n rfl rfl rfl) ?_
        refine Rk.tr (F1 := (71, 7, _, _)) (x_getf rfl rfl h1 rfl) ?_
        refine Rk.tr (F1 := (71, 10, _, _)) (x_callv (As := []) rfl rfl rfl (Or.inl rfl) rfl rfl l1 (by decide) rfl (Nat.le_of_ble_eq_true rfl) (c_lsize l1) rfl) ?_
        refine Rk.tr (F1 := (71, 41, _, _)) (x_icT rfl (tg := 41) rfl (Int32.le_refl _)) ?_
        refine Rk.tr (F1 := (71, 42, _, _)) (x_aload_n rfl rfl rfl) ?_
        refine Rk.tr (F1 := (71, 44, _, _)) (x_bipush rfl) ?_
        refine Rk.tr (F1 := (71, 47, _, _)) (x_callv (As := [_]) rfl rfl rfl (Or.inr rfl) rfl rfl sch_z (by decide) rfl (Nat.le_of_ble_eq_true rfl) p1 rfl) ?_
        refine Rk.tr (F1 := (71, 48, _, _)) (x_aload_n rfl rfl rfl) ?_
        refine Rk.tr (F1 := (71, 49, _, _)) (x_aload_n rfl rfl rfl) ?_
        refine Rk.tr (F1 := (71, 52, _, _)) (x_getf rfl rfl (h1' _ _) rfl) ?_
        refine Rk.tr (F1 := (71, 55, _, _)) (x_callv (As := [_]) rfl rfl rfl (Or.inr rfl) rfl rfl sch_z (by decide) rfl (Nat.le_of_ble_eq_true rfl) p2 rfl) ?_
        exact Rk.end rfl (Or.inl ⟨rfl, rfl, rfl, rfl⟩)
      · rw [eQ]
        refine ⟨?_, trivial⟩
        obtain ⟨kk, q⟩ := it
        simp only at e9
        subst e9
        simp [Tok1, rup, AP]
        omega
      · intro j hj
        simp only [rup]
        rw [if_neg (by omega), if_neg (by omega), if_neg (by omega)]
    · obtain ⟨rest', eb, ek⟩ := WA_next ha w2
      have er : bs.length = p.length + (rest'.length + 1) := by rw [eb, List.length_append, List.length_cons]
      obtain ⟨at0, ar, xs, dt, b1, -⟩ := (hG T k).2.2.2 x it rs eg
      have et : tsum (AP Q) = isz it + (tsum (AP R) + tsum (AP Q')) := by rw [eQ, AP_cons, AP_app]; simp only [tsum, tsum_app]
      have eL : Q.length = 1 + (R.length + Q'.length) := by rw [eQ, List.length_cons, List.length_append]; omega
      have e4 := isz_ge4 e9
      have e3 := tsum_pos w2
      have hr2 : rs.length ≤ 2 := by rw [el]; exact irw_le it
      obtain ⟨T1, c1, c2, c3⟩ := c_wbind (E := E) hz hG IH eg e9 hr2 w1 (by omega) (by omega) (T := T) (k := k) (by omega)
      obtain ⟨T2, k1, k2, k3⟩ := ih Q' (p ++ [x]) T1 (k + (isz it + tsum (AP R))) (by omega) (by omega) w2 (by omega) (by omega)
      rw [List.length_append, List.length_singleton, ← nI_1 p.length] at k1
      rw [show k + (isz it + tsum (AP R)) + tsum (AP Q') = k + tsum (AP Q) by omega] at k1
      refine ⟨T2, ?_, ?_, fun j hj => (k3 j (by omega)).trans (c3 j hj)⟩
      · refine Rk.tr (F1 := (71, 3, _, _)) (x_iload_n rfl rfl) ?_
        refine Rk.tr (F1 := (71, 4, _, _)) (x_aload_n rfl rfl rfl) ?_
        refine Rk.tr (F1 := (71, 7, _, _)) (x_getf rfl rfl h1 rfl) ?_
        refine Rk.tr (F1 := (71, 10, _, _)) (x_callv (As := []) rfl rfl rfl (Or.inl rfl) rfl rfl l1 (by decide) rfl (Nat.le_of_ble_eq_true rfl) (c_lsize l1) rfl) ?_
        refine Rk.tr (F1 := (71, 13, _, _)) (x_icF rfl (tg := 41) rfl (show ¬ nI bs.length ≤ nI p.length from nI_ge (by omega) (by omega))) ?_
        refine Rk.tr (F1 := (71, 14, _, _)) (x_iload_n rfl rfl) ?_
        refine Rk.tr (F1 := (71, 16, _, _)) (x_bipush rfl) ?_
        refine Rk.tr (F1 := (71, 19, _, _)) (x_icF rfl (tg := 41) rfl (show ¬ nI 40 ≤ nI dp from nI_ge (by omega) (by omega))) ?_
        refine Rk.tr (F1 := (71, 20, _, _)) (x_aload_n rfl rfl rfl) ?_
        refine Rk.tr (F1 := (71, 21, _, _)) (x_aload_n rfl rfl rfl) ?_
        refine Rk.tr (F1 := (71, 24, _, _)) (x_getf rfl rfl h1 rfl) ?_
        refine Rk.tr (F1 := (71, 25, _, _)) (x_iload_n rfl rfl) ?_
        refine Rk.tr (F1 := (71, 28, _, _)) (x_callv (As := [_]) rfl rfl rfl (Or.inl rfl) rfl rfl l1 (by decide) rfl (Nat.le_of_ble_eq_true rfl) (c_get h3 ek) rfl) ?_
        refine Rk.tr (F1 := (71, 31, _, _)) (x_cast rfl rfl (by decide) b1) ?_
        refine Rk.tr (F1 := (71, 32, _, _)) (x_iload_n rfl rfl) ?_
        refine Rk.tr (F1 := (71, 35, _, _)) (x_callv (As := [_, _]) rfl rfl rfl (Or.inr rfl) rfl rfl sch_z (by decide) rfl (Nat.le_of_ble_eq_true rfl) c1 rfl) ?_
        refine Rk.tr (F1 := (71, 38, [_, _, _, _], _)) (x_iinc (i := 3) rfl rfl) ?_
        refine Rk.tr (F1 := (71, 2, _, _)) (x_goto rfl rfl) ?_
        exact k1
      · rw [eQ, AP_cons, AP_app, ← List.cons_append]
        have ets : tsum (it :: AP R) = isz it + tsum (AP R) := rfl
        refine TokAt_app.mpr ⟨TokAt_shift c2 (fun j hj => k3 (k + j) (by rw [ets] at hj; omega)), ?_⟩
        rw [ets]; exact k2
theorem c_wrow (hz : z ≠ nu) (hG : ∀ T k, GH E (sch g z nu T k) O G) : ∀ (n d dp : Nat) (Q : List AI) (a : Nat) (T : Nat → Int32) (k : Nat), Q.length ≤ n → WA G [(a, [])] Q [] → 7 * dp + tsum (AP Q) ≤ 210 → k + tsum (AP Q) ≤ 400 → ∃ T' : Nat → Int32, Rn E (d + 2 * n + 2) 71 [.ref z, .ref a, .int (nI dp)] (sch g z nu T k) none (sch g z nu T' (k + tsum (AP Q))) ∧ TokAt T' k (AP Q) ∧ ∀ j, j < k → T' j = T j := by
  intro n
  induction n with
  | zero =>
    intro d dp Q a T k hm hW _ _
    have : Q = [] := List.length_eq_zero_iff.mp (Nat.le_zero.mp hm)
    rw [this] at hW; cases hW
  | succ n ih =>
    intro d dp Q a T k hm hW ht hk
    obtain ⟨⟨bs, r, ha⟩, -⟩ := WA_mem hW List.mem_cons_self
    rw [List.nil_append] at ha
    rw [show d + 2 * (n + 1) + 2 = (d + 2 * n) + 4 by omega]
    obtain ⟨T', k1, k2, k3⟩ := lp_wri (E := E) (D := d + 2 * n) (n := n) (dp := dp) hz hG ha (fun Q r T k q1 q2 q3 q4 => ih d (dp + 1) Q r T k q1 q2 q3 q4) Q.length Q [] T k (Nat.le_refl _) hm hW ht hk
    refine ⟨T', Rn.of (Nat.le_of_ble_eq_true rfl) ?_, k2, k3⟩
    refine Rk.tr (F1 := (71, 1, _, _)) (x_iconst rfl) ?_
    refine Rk.tr (F1 := (71, 2, [_, _, _, _], _)) (x_istore_n (i := 3) rfl (Nat.le_of_ble_eq_true rfl)) ?_
    exact k1
theorem sch_zero (hz : z ≠ nu) {T : Nat → Int32} {n m : Nat} : pset (sch g z nu T n) z (8, [.ref nu, .int (nI m)]) = sch g z nu T m := pset2
/-- the program written -/
theorem c_wprog (hz : z ≠ nu) (hG : ∀ T k, GH E (sch g z nu T k) O G) {P : List AI} {a y st : Nat} {nn : Value} {T : Nat → Int32} {k : Nat} (hy : g.1 y = some (6, [.ref a, nn, .ref st])) (hyz : y ≠ z) (hyn : y ≠ nu) (hW : WA G [(a, [])] P []) (ht : tsum (AP P) ≤ 210) :
    ∃ T' : Nat → Int32, Rn E (d + 143) 70 [.ref z, .ref y] (sch g z nu T k) none (sch g z nu T' (tsum (AP P))) ∧ TokAt T' 0 (AP P) := by
  have hl : P.length ≤ 70 := by
    have := len_sum (AP P)
    have e : (AP P).length = P.length := List.length_map ..
    omega
  obtain ⟨T', k1, k2, -⟩ := c_wrow (E := E) hz hG 70 d 0 P a T 0 hl hW (by omega) (by omega)
  rw [Nat.zero_add] at k1
  refine ⟨T', Rn.of (Nat.le_of_ble_eq_true rfl) ?_, k2⟩
  have hp : (sch g z nu T 0).1 y = some (6, [.ref a, nn, .ref st]) := ((pset_ne hyz).trans (pset_ne hyn)).trans hy
  rw [← sch_zero hz (n := k)] at k1 hp
  refine Rk.tr (F1 := (70, 1, _, _)) (x_aload_n rfl rfl rfl) ?_
  refine Rk.tr (F1 := (70, 2, _, _)) (x_iconst rfl) ?_
  refine Rk.tr (F1 := (70, 5, _, _)) (x_putf rfl rfl sch_z rfl rfl rfl) ?_
  refine Rk.tr (F1 := (70, 6, _, _)) (x_aload_n rfl rfl rfl) ?_
  refine Rk.tr (F1 := (70, 7, _, _)) (x_aload_n rfl rfl rfl) ?_
  refine Rk.tr (F1 := (70, 10, _, _)) (x_getf rfl rfl hp rfl) ?_
  refine Rk.tr (F1 := (70, 11, _, _)) (x_iconst rfl) ?_
  refine Rk.tr (F1 := (70, 14, _, _)) (x_callv (As := [_, _]) rfl rfl rfl (Or.inr rfl) rfl rfl pset_at (by decide) rfl (Nat.le_of_ble_eq_true rfl) k1 rfl) ?_
  exact Rk.end rfl (Or.inl ⟨rfl, rfl, rfl, rfl⟩)
end M33
