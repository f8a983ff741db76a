/-! ===== the class: a row is run ===== -/
def EvC (G : PG) (T : MT) (nc nf dp bg : Nat) (r : EvR) (v : Int64) (T' : MT) : Prop := bg ≤ r.2.2.2.2.1 ∧ ((r.1 = 0 ∧ v = vL r.2.1 ∧ VOk r.2.2.2.1 r.2.1 ∧ nf ≤ r.2.2.2.1 ∧ ∃ nc', nc ≤ nc' ∧ RC G T' nc' dp r.2.2 ∧ KCc nc T T') ∨ (r.1 ≠ 0 ∧ r.1 ≤ 5 ∧ T'.1 7 = nI r.1 ∧ T'.1 10 = nI r.2.2.2.2.1 ∧ T'.1 11 = nI r.2.2.2.2.2))
theorem EvC.up {G : PG} {T T2 T' : MT} {nc nc2 nf nf2 dp bg bg2 : Nat} {r : EvR} {v : Int64} (h : EvC G T2 nc2 nf2 dp bg2 r v T') (hk : KCc nc T T2) (hc : nc ≤ nc2) (hn : nf ≤ nf2) (hb : bg ≤ bg2) : EvC G T nc nf dp bg r v T' := by
  obtain ⟨h0, h⟩ := h
  refine ⟨by omega, ?_⟩
  rcases h with ⟨a1, a2, a3, a4, nc', a5, a6, a7⟩ | h
  · exact Or.inl ⟨a1, a2, a3, by omega, nc', by omega, a6, hk.tr a7 hc⟩
  · exact Or.inr h
theorem RC_bg {G : PG} {T : MT} {nc dp dp' : Nat} {σ : RSt} (h : RC G T nc dp σ) (hb : σ.2.2.1 < 400) (hd : nc + dp' ≤ 2 * (σ.2.2.1 + 1)) : RC G (tI T 10 (nI (σ.2.2.1 + 1))) nc dp' (σ.1, σ.2.1, σ.2.2.1 + 1, σ.2.2.2) := by
  obtain ⟨a1, a2, a3, a4, a5, a6, a7, a8, a9, a10⟩ := h
  have e : (tI T 10 (nI (σ.2.2.1 + 1))).1 = rup T.1 10 (nI (σ.2.2.1 + 1)) := rfl
  exact ⟨by rw [e, rup_ne (by decide)]; exact a1, hd, by show σ.2.2.1 + 1 ≤ 400; omega, by rw [e, rup_ne (by decide)]; exact a4, by show σ.2.1 ≤ σ.2.2.1 + 1; omega, by rw [e, rup_ne (by decide)]; exact a6, by rw [e, rup_eq], by rw [e, rup_ne (by decide)]; exact a8, a9, a10⟩
theorem RC_mx {G : PG} {T : MT} {nc dp m : Nat} {σ : RSt} (h : RC G T nc dp σ) (hm : m ≤ 12) : RC G (tI T 11 (nI (max σ.2.2.2 m))) nc dp (σ.1, σ.2.1, σ.2.2.1, max σ.2.2.2 m) := by
  obtain ⟨a1, a2, a3, a4, a5, a6, a7, a8, a9, a10⟩ := h
  have e : (tI T 11 (nI (max σ.2.2.2 m))).1 = rup T.1 11 (nI (max σ.2.2.2 m)) := rfl
  exact ⟨by rw [e, rup_ne (by decide)]; exact a1, a2, a3, by rw [e, rup_ne (by decide)]; exact a4, a5, by rw [e, rup_ne (by decide)]; exact a6, by rw [e, rup_ne (by decide)]; exact a7, by rw [e, rup_eq], by show max σ.2.2.2 m ≤ 12; omega, a10⟩
section M48
variable {E : PE} {d : Nat} {g : PH} {z : Nat} {T : MT} {O : Nat → Nat × Nat} {G : PG}
theorem c_vb5 {x : Nat} {c dv : Int32} (h10 : T.1 10 = nI 400) : Rn E (d + 1) 113 [.ref z, .ref x, .int c, .int dv] (mch g z T) (some (.long 0)) (mch g z (tI T 7 5)) := by
  have e1 := c_endw (E := E) (d := d) (g := g) (z := z) (T := T) (k := 5)
  have zT : (mch g z T).1 z = some (4, [.ref (z + 1), .ref (z + 2), .ref (z + 3), .int (T.1 3), .ref (z + 4), .ref (z + 5), .int (T.1 6), .int (T.1 7), .int (T.1 8), .int (T.1 9), .int (nI 400), .int (T.1 11)]) := by
    rw [mch_z]
    unfold mcf
    rw [h10]
  refine Rn.of (Nat.le_of_ble_eq_true rfl) ?_
  refine Rk.tr (F1 := (113, 1, _, _)) (x_aload_n rfl rfl rfl) ?_
  refine Rk.tr (F1 := (113, 4, _, _)) (x_getf rfl rfl zT rfl) ?_
  refine Rk.tr (F1 := (113, 7, _, _)) (x_sipush rfl) ?_
  refine Rk.tr (F1 := (113, 10, _, _)) (x_icF rfl (tg := 16) rfl (show ¬ nI 400 < nI 400 from Int32.not_lt.mpr (nI_le (by omega) (by omega)))) ?_
  refine Rk.tr (F1 := (113, 11, _, _)) (x_aload_n rfl rfl rfl) ?_
  refine Rk.tr (F1 := (113, 12, _, _)) (x_iconst rfl) ?_
  refine Rk.tr (F1 := (113, 15, _, _)) (x_callv (As := [_]) rfl rfl rfl (Or.inr rfl) rfl rfl mch_z (by decide) rfl (Nat.le_of_ble_eq_true rfl) e1 rfl) ?_
  exact Rk.end rfl (Or.inr (Or.inr (Or.inl ⟨rfl, rfl, _, rfl, rfl⟩)))
theorem c_vb_2 {x bg : Nat} {c dv : Int32} {v1 v3 v4 v5 : Value} {w : Int64} {T' : MT} (h10 : T.1 10 = nI bg) (hb : bg < 400) (hx : ∀ T, (mch g z T).1 x = some (2, [v1, .int 2, v3, v4, v5])) (hr : Rn E d 114 [.ref z, .ref x, .int c] (mch g z (tI T 10 (nI (bg + 1)))) (some (.long w)) (mch g z T')) : Rn E (d + 1) 113 [.ref z, .ref x, .int c, .int dv] (mch g z T) (some (.long w)) (mch g z T') := by
  have zT : (mch g z T).1 z = some (4, [.ref (z + 1), .ref (z + 2), .ref (z + 3), .int (T.1 3), .ref (z + 4), .ref (z + 5), .int (T.1 6), .int (T.1 7), .int (T.1 8), .int (T.1 9), .int (nI bg), .int (T.1 11)]) := by
    rw [mch_z]
    unfold mcf
    rw [h10]
  have xT := hx (tI T 10 (nI (bg + 1)))
  refine Rn.of (Nat.le_of_ble_eq_true rfl) ?_
  refine Rk.tr (F1 := (113, 1, _, _)) (x_aload_n rfl rfl rfl) ?_
  refine Rk.tr (F1 := (113, 4, _, _)) (x_getf rfl rfl zT rfl) ?_
  refine Rk.tr (F1 := (113, 7, _, _)) (x_sipush rfl) ?_
  refine Rk.tr (F1 := (113, 16, _, _)) (x_icT rfl (tg := 16) rfl (show nI bg < nI 400 from Int32.not_le.mp (nI_ge (by omega) (by omega)))) ?_
  refine Rk.tr (F1 := (113, 17, _, _)) (x_aload_n rfl rfl rfl) ?_
  refine Rk.tr (F1 := (113, 18, _, _)) (x_dup rfl rfl) ?_
  refine Rk.tr (F1 := (113, 21, _, _)) (x_getf rfl rfl zT rfl) ?_
  refine Rk.tr (F1 := (113, 22, _, _)) (x_iconst rfl) ?_
  refine Rk.tr (F1 := (113, 23, _, _)) (x_iadd rfl) ?_
  refine Rk.tr (F1 := (113, 23, _, _)) (x_top (nI_1 bg)) ?_
  refine Rk.tr (F1 := (113, 26, _, _)) (mc_put rfl rfl rfl rfl rfl rfl) ?_
  refine Rk.tr (F1 := (113, 27, _, _)) (x_aload_n rfl rfl rfl) ?_
  refine Rk.tr (F1 := (113, 30, _, _)) (x_getf rfl rfl xT rfl) ?_
  refine Rk.tr (F1 := (113, 60, _, _)) (x_tswIn rfl (by decide) (by decide) rfl rfl) ?_
  refine Rk.tr (F1 := (113, 61, _, _)) (x_aload_n rfl rfl rfl) ?_
  refine Rk.tr (F1 := (113, 62, _, _)) (x_aload_n rfl rfl rfl) ?_
  refine Rk.tr (F1 := (113, 63, _, _)) (x_iload_n rfl rfl) ?_
  refine Rk.tr (F1 := (113, 66, _, _)) (x_callv (As := [_, _]) rfl rfl rfl (Or.inr rfl) rfl rfl mch_z (by decide) rfl (Nat.le_of_ble_eq_true rfl) hr rfl) ?_
  exact Rk.end rfl (Or.inr (Or.inr (Or.inl ⟨rfl, rfl, _, rfl, rfl⟩)))
theorem c_vb_3 {x bg : Nat} {c dv : Int32} {v1 v3 v4 v5 : Value} {w : Int64} {T' : MT} (h10 : T.1 10 = nI bg) (hb : bg < 400) (hx : ∀ T, (mch g z T).1 x = some (2, [v1, .int 3, v3, v4, v5])) (hr : Rn E d 115 [.ref z, .ref x, .int c, .int dv] (mch g z (tI T 10 (nI (bg + 1)))) (some (.long w)) (mch g z T')) : Rn E (d + 1) 113 [.ref z, .ref x, .int c, .int dv] (mch g z T) (some (.long w)) (mch g z T') := by
  have zT : (mch g z T).1 z = some (4, [.ref (z + 1), .ref (z + 2), .ref (z + 3), .int (T.1 3), .ref (z + 4), .ref (z + 5), .int (T.1 6), .int (T.1 7), .int (T.1 8), .int (T.1 9), .int (nI bg), .int (T.1 11)]) := by
    rw [mch_z]
    unfold mcf
    rw [h10]
  have xT := hx (tI T 10 (nI (bg + 1)))
  refine Rn.of (Nat.le_of_ble_eq_true rfl) ?_
  refine Rk.tr (F1 := (113, 1, _, _)) (x_aload_n rfl rfl rfl) ?_
  refine Rk.tr (F1 := (113, 4, _, _)) (x_getf rfl rfl zT rfl) ?_
  refine Rk.tr (F1 := (113, 7, _, _)) (x_sipush rfl) ?_
  refine Rk.tr (F1 := (113, 16, _, _)) (x_icT rfl (tg := 16) rfl (show nI bg < nI 400 from Int32.not_le.mp (nI_ge (by omega) (by omega)))) ?_
  refine Rk.tr (F1 := (113, 17, _, _)) (x_aload_n rfl rfl rfl) ?_
  refine Rk.tr (F1 := (113, 18, _, _)) (x_dup rfl rfl) ?_
  refine Rk.tr (F1 := (113, 21, _, _)) (x_getf rfl rfl zT rfl) ?_
  refine Rk.tr (F1 := (113, 22, _, _)) (x_iconst rfl) ?_
  refine Rk.tr (F1 := (113, 23, _, _)) (x_iadd rfl) ?_
  refine Rk.tr (F1 := (113, 23, _, _)) (x_top (nI_1 bg)) ?_
  refine Rk.tr (F1 := (113, 26, _, _)) (mc_put rfl rfl rfl rfl rfl rfl) ?_
  refine Rk.tr (F1 := (113, 27, _, _)) (x_aload_n rfl rfl rfl) ?_
  refine Rk.tr (F1 := (113, 30, _, _)) (x_getf rfl rfl xT rfl) ?_
  refine Rk.tr (F1 := (113, 67, _, _)) (x_tswIn rfl (by decide) (by decide) rfl rfl) ?_
  refine Rk.tr (F1 := (113, 68, _, _)) (x_aload_n rfl rfl rfl) ?_
  refine Rk.tr (F1 := (113, 69, _, _)) (x_aload_n rfl rfl rfl) ?_
  refine Rk.tr (F1 := (113, 70, _, _)) (x_iload_n rfl rfl) ?_
  refine Rk.tr (F1 := (113, 71, _, _)) (x_iload_n rfl rfl) ?_
  refine Rk.tr (F1 := (113, 74, _, _)) (x_callv (As := [_, _, _]) rfl rfl rfl (Or.inr rfl) rfl rfl mch_z (by decide) rfl (Nat.le_of_ble_eq_true rfl) hr rfl) ?_
  exact Rk.end rfl (Or.inr (Or.inr (Or.inl ⟨rfl, rfl, _, rfl, rfl⟩)))
theorem c_vb_5 {x bg : Nat} {c dv : Int32} {v1 v3 v4 v5 : Value} {w : Int64} {T' : MT} (h10 : T.1 10 = nI bg) (hb : bg < 400) (hx : ∀ T, (mch g z T).1 x = some (2, [v1, .int 5, v3, v4, v5])) (hr : Rn E d 120 [.ref z, .ref x, .int c] (mch g z (tI T 10 (nI (bg + 1)))) (some (.long w)) (mch g z T')) : Rn E (d + 1) 113 [.ref z, .ref x, .int c, .int dv] (mch g z T) (some (.long w)) (mch g z T') := by
  have zT : (mch g z T).1 z = some (4, [.ref (z + 1), .ref (z + 2), .ref (z + 3), .int (T.1 3), .ref (z + 4), .ref (z + 5), .int (T.1 6), .int (T.1 7), .int (T.1 8), .int (T.1 9), .int (nI bg), .int (T.1 11)]) := by
    rw [mch_z]
    unfold mcf
    rw [h10]
  have xT := hx (tI T 10 (nI (bg + 1)))
  refine Rn.of (Nat.le_of_ble_eq_true rfl) ?_
  refine Rk.tr (F1 := (113, 1, _, _)) (x_aload_n rfl rfl rfl) ?_
  refine Rk.tr (F1 := (113, 4, _, _)) (x_getf rfl rfl zT rfl) ?_
  refine Rk.tr (F1 := (113, 7, _, _)) (x_sipush rfl) ?_
  refine Rk.tr (F1 := (113, 16, _, _)) (x_icT rfl (tg := 16) rfl (show nI bg < nI 400 from Int32.not_le.mp (nI_ge (by omega) (by omega)))) ?_
  refine Rk.tr (F1 := (113, 17, _, _)) (x_aload_n rfl rfl rfl) ?_
  refine Rk.tr (F1 := (113, 18, _, _)) (x_dup rfl rfl) ?_
  refine Rk.tr (F1 := (113, 21, _, _)) (x_getf rfl rfl zT rfl) ?_
  refine Rk.tr (F1 := (113, 22, _, _)) (x_iconst rfl) ?_
  refine Rk.tr (F1 := (113, 23, _, _)) (x_iadd rfl) ?_
  refine Rk.tr (F1 := (113, 23, _, _)) (x_top (nI_1 bg)) ?_
  refine Rk.tr (F1 := (113, 26, _, _)) (mc_put rfl rfl rfl rfl rfl rfl) ?_
  refine Rk.tr (F1 := (113, 27, _, _)) (x_aload_n rfl rfl rfl) ?_
  refine Rk.tr (F1 := (113, 30, _, _)) (x_getf rfl rfl xT rfl) ?_
  refine Rk.tr (F1 := (113, 75, _, _)) (x_tswIn rfl (by decide) (by decide) rfl rfl) ?_
  refine Rk.tr (F1 := (113, 76, _, _)) (x_aload_n rfl rfl rfl) ?_
  refine Rk.tr (F1 := (113, 77, _, _)) (x_aload_n rfl rfl rfl) ?_
  refine Rk.tr (F1 := (113, 78, _, _)) (x_iload_n rfl rfl) ?_
  refine Rk.tr (F1 := (113, 81, _, _)) (x_callv (As := [_, _]) rfl rfl rfl (Or.inr rfl) rfl rfl mch_z (by decide) rfl (Nat.le_of_ble_eq_true rfl) hr rfl) ?_
  exact Rk.end rfl (Or.inr (Or.inr (Or.inl ⟨rfl, rfl, _, rfl, rfl⟩)))
theorem c_vb_6 {x bg : Nat} {c dv : Int32} {v1 v3 v4 v5 : Value} {w : Int64} {T' : MT} (h10 : T.1 10 = nI bg) (hb : bg < 400) (hx : ∀ T, (mch g z T).1 x = some (2, [v1, .int 6, v3, v4, v5])) (hr : Rn E d 121 [.ref z, .ref x, .int c, .int dv] (mch g z (tI T 10 (nI (bg + 1)))) (some (.long w)) (mch g z T')) : Rn E (d + 1) 113 [.ref z, .ref x, .int c, .int dv] (mch g z T) (some (.long w)) (mch g z T') := by
  have zT : (mch g z T).1 z = some (4, [.ref (z + 1), .ref (z + 2), .ref (z + 3), .int (T.1 3), .ref (z + 4), .ref (z + 5), .int (T.1 6), .int (T.1 7), .int (T.1 8), .int (T.1 9), .int (nI bg), .int (T.1 11)]) := by
    rw [mch_z]
    unfold mcf
    rw [h10]
  have xT := hx (tI T 10 (nI (bg + 1)))
  refine Rn.of (Nat.le_of_ble_eq_true rfl) ?_
  refine Rk.tr (F1 := (113, 1, _, _)) (x_aload_n rfl rfl rfl) ?_
  refine Rk.tr (F1 := (113, 4, _, _)) (x_getf rfl rfl zT rfl) ?_
  refine Rk.tr (F1 := (113, 7, _, _)) (x_sipush rfl) ?_
  refine Rk.tr (F1 := (113, 16, _, _)) (x_icT rfl (tg := 16) rfl (show nI bg < nI 400 from Int32.not_le.mp (nI_ge (by omega) (by omega)))) ?_
  refine Rk.tr (F1 := (113, 17, _, _)) (x_aload_n rfl rfl rfl) ?_
  refine Rk.tr (F1 := (113, 18, _, _)) (x_dup rfl rfl) ?_
  refine Rk.tr (F1 := (113, 21, _, _)) (x_getf rfl rfl zT rfl) ?_
  refine Rk.tr (F1 := (113, 22, _, _)) (x_iconst rfl) ?_
  refine Rk.tr (F1 := (113, 23, _, _)) (x_iadd rfl) ?_
  refine Rk.tr (F1 := (113, 23, _, _)) (x_top (nI_1 bg)) ?_
  refine Rk.tr (F1 := (113, 26, _, _)) (mc_put rfl rfl rfl rfl rfl rfl) ?_
  refine Rk.tr (F1 := (113, 27, _, _)) (x_aload_n rfl rfl rfl) ?_
  refine Rk.tr (F1 := (113, 30, _, _)) (x_getf rfl rfl xT rfl) ?_
  refine Rk.tr (F1 := (113, 82, _, _)) (x_tswOut rfl (Or.inr (by decide)) rfl) ?_
  refine Rk.tr (F1 := (113, 83, _, _)) (x_aload_n rfl rfl rfl) ?_
  refine Rk.tr (F1 := (113, 84, _, _)) (x_aload_n rfl rfl rfl) ?_
  refine Rk.tr (F1 := (113, 85, _, _)) (x_iload_n rfl rfl) ?_
  refine Rk.tr (F1 := (113, 86, _, _)) (x_iload_n rfl rfl) ?_
  refine Rk.tr (F1 := (113, 89, _, _)) (x_callv (As := [_, _, _]) rfl rfl rfl (Or.inr rfl) rfl rfl mch_z (by decide) rfl (Nat.le_of_ble_eq_true rfl) hr rfl) ?_
  exact Rk.end rfl (Or.inr (Or.inr (Or.inl ⟨rfl, rfl, _, rfl, rfl⟩)))
theorem c_lpE (hG : ∀ T, GH E (mch g z T) O G) {a x D e : Nat} {p rest rs : List Nat} {r : Int32 × Int32} {it : It} {c dv y2 : Int32} {y6 y7 y8 : Option Value} {w : Int64} {T1 : MT} (ha : G.1 a = some (p ++ x :: rest, r)) (hx : G.2 x = some (it, rs)) (hb : Rn E (D + 2) 113 [.ref z, .ref x, .int c, .int dv] (mch g z T) (some (.long w)) (mch g z T1)) (he : T1.1 7 = nI e) (h0 : e ≠ 0) (h5 : e ≤ 5) :
    Rk E (D + 3) (111, 30, [some (.ref z), some (.ref a), some (.int y2), some (.int dv), some (.int c), some (.int (nI p.length)), y6, y7, y8], []) (mch g z T) (some (.long 0)) (mch g z T1) := by
  obtain ⟨l, e0, cap, x0, q1, q2, q3, -⟩ := (hG T).2.2.1 a _ r ha
  obtain ⟨mc, l1⟩ := id q3.1
  have hln := q3.len
  have hlp : (p ++ x :: rest).length = p.length + (rest.length + 1) := by rw [List.length_append, List.length_cons]
  have ek : (p ++ x :: rest)[p.length]? = some x := by rw [List.getElem?_append_right (Nat.le_refl _), Nat.sub_self]; rfl
  obtain ⟨at0, ar, xs, dt, b1, -⟩ := (hG T).2.2.2 x it rs hx
  have zT : (mch g z T1).1 z = some (4, [.ref (z + 1), .ref (z + 2), .ref (z + 3), .int (T1.1 3), .ref (z + 4), .ref (z + 5), .int (T1.1 6), .int (nI e), .int (T1.1 8), .int (T1.1 9), .int (T1.1 10), .int (T1.1 11)]) := by
    rw [mch_z]
    unfold mcf
    rw [he]
  refine Rk.tr (F1 := (111, 32, _, _)) (x_iload rfl rfl) ?_
  refine Rk.tr (F1 := (111, 33, _, _)) (x_aload_n rfl rfl rfl) ?_
  refine Rk.tr (F1 := (111, 36, _, _)) (x_getf rfl rfl q1 rfl) ?_
  refine Rk.tr (F1 := (111, 39, _, _)) (x_callv (As := []) rfl rfl rfl (Or.inl rfl) rfl rfl l1 (by decide) rfl (Nat.le_of_ble_eq_true rfl) (c_lsize l1) rfl) ?_
  refine Rk.tr (F1 := (111, 42, _, _)) (x_icF rfl (tg := 97) rfl (show ¬ nI (p ++ x :: rest).length ≤ nI p.length by rw [hlp]; exact nI_ge (by omega) (by omega))) ?_
  refine Rk.tr (F1 := (111, 43, _, _)) (x_aload_n rfl rfl rfl) ?_
  refine Rk.tr (F1 := (111, 46, _, _)) (x_getf rfl rfl q1 rfl) ?_
  refine Rk.tr (F1 := (111, 48, _, _)) (x_iload rfl rfl) ?_
  refine Rk.tr (F1 := (111, 51, _, _)) (x_callv (As := [_]) rfl rfl rfl (Or.inl rfl) rfl rfl l1 (by decide) rfl (Nat.le_of_ble_eq_true rfl) (c_get q3 ek) rfl) ?_
  refine Rk.tr (F1 := (111, 54, _, _)) (x_cast rfl rfl (by decide) b1) ?_
  refine Rk.tr (F1 := (111, 56, [_, _, _, _, _, _, _, _, _], _)) (x_astore (i := 6) rfl (Nat.le_of_ble_eq_true rfl)) ?_
  refine Rk.tr (F1 := (111, 57, _, _)) (x_aload_n rfl rfl rfl) ?_
  refine Rk.tr (F1 := (111, 59, _, _)) (x_aload rfl rfl rfl) ?_
  refine Rk.tr (F1 := (111, 61, _, _)) (x_iload rfl rfl) ?_
  refine Rk.tr (F1 := (111, 62, _, _)) (x_iload_n rfl rfl) ?_
  refine Rk.tr (F1 := (111, 65, _, _)) (x_callv (As := [_, _, _]) rfl rfl rfl (Or.inr rfl) rfl rfl mch_z (by decide) rfl (Nat.le_of_ble_eq_true rfl) hb rfl) ?_
  refine Rk.tr (F1 := (111, 67, [_, _, _, _, _, _, _, _, _], _)) (x_lstore (i := 7) rfl (Nat.le_of_ble_eq_true rfl)) ?_
  refine Rk.tr (F1 := (111, 68, _, _)) (x_aload_n rfl rfl rfl) ?_
  refine Rk.tr (F1 := (111, 71, _, _)) (x_getf rfl rfl zT rfl) ?_
  refine Rk.tr (F1 := (111, 74, _, _)) (x_ifF rfl (tg := 76) rfl (show ¬ nI e = nI 0 from fun q => h0 ((nI_eq (by omega) (by omega)).mp q))) ?_
  refine Rk.tr (F1 := (111, 75, _, _)) (x_lconst rfl) ?_
  exact Rk.end rfl (Or.inr (Or.inr (Or.inl ⟨rfl, rfl, _, rfl, rfl⟩)))
theorem c_lpK (hG : ∀ T, GH E (mch g z T) O G) {a x D nc1 : Nat} {p rest rs : List Nat} {r : Int32 × Int32} {it : It} {c dv y2 : Int32} {y6 y7 y8 : Option Value} {w v : Int64} {T1 T' : MT} (ha : G.1 a = some (p ++ x :: rest, r)) (hx : G.2 x = some (it, rs)) (hb : Rn E (D + 2) 113 [.ref z, .ref x, .int c, .int dv] (mch g z T) (some (.long w)) (mch g z T1)) (he : T1.1 7 = 0) (h3 : T1.1 3 = nI nc1) (hn : nc1 < 800)
    (hr : Rk E (D + 3) (111, 30, [some (.ref z), some (.ref a), some (.int y2), some (.int dv), some (.int (nI nc1)), some (.int (nI (p.length + 1))), some (.ref x), some (.long w), none], []) (mch g z (tC T1 nc1 it.2.1 w c)) (some (.long v)) (mch g z T')) :
    Rk E (D + 3) (111, 30, [some (.ref z), some (.ref a), some (.int y2), some (.int dv), some (.int c), some (.int (nI p.length)), y6, y7, y8], []) (mch g z T) (some (.long v)) (mch g z T') := by
  obtain ⟨l, e0, cap, x0, q1, q2, q3, -⟩ := (hG T).2.2.1 a _ r ha
  obtain ⟨mc, l1⟩ := id q3.1
  have hln := q3.len
  have hlp : (p ++ x :: rest).length = p.length + (rest.length + 1) := by rw [List.length_append, List.length_cons]
  have ek : (p ++ x :: rest)[p.length]? = some x := by rw [List.getElem?_append_right (Nat.le_refl _), Nat.sub_self]; rfl
  obtain ⟨at0, ar, xs, dt, b1, -⟩ := (hG T).2.2.2 x it rs hx
  obtain ⟨at1, ar1, xs1, dt1, b11, -⟩ := (hG T1).2.2.2 x it rs hx
  have zT : (mch g z T1).1 z = some (4, [.ref (z + 1), .ref (z + 2), .ref (z + 3), .int (T1.1 3), .ref (z + 4), .ref (z + 5), .int (T1.1 6), .int 0, .int (T1.1 8), .int (T1.1 9), .int (T1.1 10), .int (T1.1 11)]) := by
    rw [mch_z]
    unfold mcf
    rw [he]
  have ncl := c_newc (E := E) (d := D + 2) (g := g) (z := z) (x := it.2.1) (c := c) (v := w) h3 hn
  rw [← nI_1 p.length] at hr
  refine Rk.tr (F1 := (111, 32, _, _)) (x_iload rfl rfl) ?_
  refine Rk.tr (F1 := (111, 33, _, _)) (x_aload_n rfl rfl rfl) ?_
  refine Rk.tr (F1 := (111, 36, _, _)) (x_getf rfl rfl q1 rfl) ?_
  refine Rk.tr (F1 := (111, 39, _, _)) (x_callv (As := []) rfl rfl rfl (Or.inl rfl) rfl rfl l1 (by decide) rfl (Nat.le_of_ble_eq_true rfl) (c_lsize l1) rfl) ?_
  refine Rk.tr (F1 := (111, 42, _, _)) (x_icF rfl (tg := 97) rfl (show ¬ nI (p ++ x :: rest).length ≤ nI p.length by rw [hlp]; exact nI_ge (by omega) (by omega))) ?_
  refine Rk.tr (F1 := (111, 43, _, _)) (x_aload_n rfl rfl rfl) ?_
  refine Rk.tr (F1 := (111, 46, _, _)) (x_getf rfl rfl q1 rfl) ?_
  refine Rk.tr (F1 := (111, 48, _, _)) (x_iload rfl rfl) ?_
  refine Rk.tr (F1 := (111, 51, _, _)) (x_callv (As := [_]) rfl rfl rfl (Or.inl rfl) rfl rfl l1 (by decide) rfl (Nat.le_of_ble_eq_true rfl) (c_get q3 ek) rfl) ?_
  refine Rk.tr (F1 := (111, 54, _, _)) (x_cast rfl rfl (by decide) b1) ?_
  refine Rk.tr (F1 := (111, 56, [_, _, _, _, _, _, _, _, _], _)) (x_astore (i := 6) rfl (Nat.le_of_ble_eq_true rfl)) ?_
  refine Rk.tr (F1 := (111, 57, _, _)) (x_aload_n rfl rfl rfl) ?_
  refine Rk.tr (F1 := (111, 59, _, _)) (x_aload rfl rfl rfl) ?_
  refine Rk.tr (F1 := (111, 61, _, _)) (x_iload rfl rfl) ?_
  refine Rk.tr (F1 := (111, 62, _, _)) (x_iload_n rfl rfl) ?_
  refine Rk.tr (F1 := (111, 65, _, _)) (x_callv (As := [_, _, _]) rfl rfl rfl (Or.inr rfl) rfl rfl mch_z (by decide) rfl (Nat.le_of_ble_eq_true rfl) hb rfl) ?_
  refine Rk.tr (F1 := (111, 67, [_, _, _, _, _, _, _, _, _], _)) (x_lstore (i := 7) rfl (Nat.le_of_ble_eq_true rfl)) ?_
  refine Rk.tr (F1 := (111, 68, _, _)) (x_aload_n rfl rfl rfl) ?_
  refine Rk.tr (F1 := (111, 71, _, _)) (x_getf rfl rfl zT rfl) ?_
  refine Rk.tr (F1 := (111, 76, _, _)) (x_ifT rfl (tg := 76) rfl rfl) ?_
  refine Rk.tr (F1 := (111, 77, _, _)) (x_aload_n rfl rfl rfl) ?_
  refine Rk.tr (F1 := (111, 79, _, _)) (x_aload rfl rfl rfl) ?_
  refine Rk.tr (F1 := (111, 82, _, _)) (x_getf rfl rfl b11 rfl) ?_
  refine Rk.tr (F1 := (111, 84, _, _)) (x_lload rfl rfl) ?_
  refine Rk.tr (F1 := (111, 86, _, _)) (x_iload rfl rfl) ?_
  refine Rk.tr (F1 := (111, 89, _, _)) (x_callv (As := [_, _, _]) rfl rfl rfl (Or.inr rfl) rfl rfl mch_z (by decide) rfl (Nat.le_of_ble_eq_true rfl) ncl rfl) ?_
  refine Rk.tr (F1 := (111, 91, [_, _, _, _, _, _, _, _, _], _)) (x_istore (i := 4) rfl (Nat.le_of_ble_eq_true rfl)) ?_
  refine Rk.tr (F1 := (111, 94, [_, _, _, _, _, _, _, _, _], _)) (x_iinc (i := 5) rfl rfl) ?_
  refine Rk.tr (F1 := (111, 30, _, _)) (x_goto rfl rfl) ?_
  exact hr
end M48
