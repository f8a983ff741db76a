/-! ===== the class's methods where they throw ===== -/
section M95
variable {E : PE} {d : Nat} {h : PH} {O : Nat → Nat × Nat} {G : PG} {x n : Nat} {cs rn : Nat → Int32} {W : Option PW}
theorem Wf.thr (hw : Wf h) : Wf (hthr h) := fun q c hq => Nat.lt_succ_of_lt (hw q c hq)
theorem ClH.thr (hC : ClH E h O G x n cs W rn) : ClH E (hthr h) O G x n cs W rn := by
  obtain ⟨c1, c2, c3, c4, c5, c6, c7, c8, c9⟩ := hC
  exact ⟨c1.mono c1.1.thr (fun _ _ => rfl) (fun q t fs hq _ => hq), c2, c3, c4, c5, c6, c7, c8, c9⟩
theorem Kp.thr {h' : PH} (hk : Kp h h' x) : Kp h (hthr h') x := hk
/-- convert, where the code is no term -/
theorem t_conv1 (hC : ClH E h O G x n cs W rn) (hx : x + 42 ≤ h.2.1) (hg : ¬ GdP cs n) : ∃ (h' : PH) (O' : Nat → Nat × Nat) (G' : PG), Rt E (d + 197) 55 [.ref x] h 0 (hthr h') ∧ ClH E h' O' G' x 0 cs W rn ∧ Kp h h' x ∧ h.2.1 ≤ h'.2.1 ∧ h'.2.1 ≤ h.2.1 + 5 + 12 * n ∧ h'.2.2 ≤ h.2.2 + 14 + 300 * n := by
  obtain ⟨c1, c2, c3, c4, ⟨at0, k0, dr, fr, c5⟩, c6, c7, c8, c9⟩ := id hC
  have zk := c5.1
  by_cases hsy : sy cs n 61 0 = some n
  · obtain ⟨h1, O1, G1, a, Q, a1, a2, a3, a4, a5, a6, a7, a8, a9, a10, -⟩ := c_takeY (E := E) (d := d) c1 c5 c2 c3 hsy
    have hb : (cv cs 61 (fun _ => none) 0 0).2.2.2.2.2 = true := by
      cases hh : (cv cs 61 (fun _ => none) 0 0).2.2.2.2.2 with
      | true => rfl
      | false => exact absurd ⟨hsy, hh⟩ hg
    have r1 := a10 hb
    obtain ⟨e1, e2⟩ := hC.ext a1 (n' := 0) ⟨_, _, _, _, a2⟩ (by omega) a6 a5 a7
    refine ⟨h1, O1, G1, ⟨Nat.le_of_ble_eq_true rfl, (55, 12, 0, 49, 51, 53, "the code is no term"), [some (.ref x), some .null], h1, by unfold xsite; simp, rfl, rfl, ?_, rfl⟩, e1, e2, a7.2.1, by omega, by omega⟩
    refine Ex.tr (F1 := (55, 1, _, _)) (x_aload_n rfl rfl rfl) ?_
    refine Ex.tr (F1 := (55, 4, _, _)) (x_getf rfl rfl c4 rfl) ?_
    refine Ex.tr (F1 := (55, 7, _, _)) (x_callv (As := []) rfl rfl rfl (Or.inl rfl) rfl rfl zk (by decide) rfl (Nat.le_of_ble_eq_true rfl) r1 rfl) ?_
    refine Ex.tr (F1 := (55, 8, [_, _], _)) (x_astore_nN (i := 1) rfl (Nat.le_of_ble_eq_true rfl)) ?_
    refine Ex.tr (F1 := (55, 9, _, _)) (x_aload_n rfl rfl rfl) ?_
    exact x_nnullF rfl
  · have r1 := c_takeN (E := E) (d := d + 194) c1 c5 c2 c3 hsy
    obtain ⟨x1, G1, k1⟩ := KvH.put (len' := 0) (at' := at0) (fr' := fr) (k' := k0) (dr' := dr) c1 c5
    obtain ⟨e1, e2⟩ := hC.ext G1 (n' := 0) ⟨_, _, _, _, x1⟩ (by omega) (a := h.2.1) (Q := []) ⟨fun _ _ _ => rfl, fun _ _ => rfl, (fun _ hq => nomatch hq), List.nodup_nil⟩ (Nat.le_refl _) k1
    refine ⟨_, O, G, ⟨Nat.le_of_ble_eq_true rfl, (55, 12, 0, 49, 51, 53, "the code is no term"), [some (.ref x), some .null], _, by unfold xsite; simp, rfl, rfl, ?_, rfl⟩, e1, e2, Nat.le_refl _, by show h.2.1 ≤ _; omega, by show h.2.2 ≤ _; omega⟩
    refine Ex.tr (F1 := (55, 1, _, _)) (x_aload_n rfl rfl rfl) ?_
    refine Ex.tr (F1 := (55, 4, _, _)) (x_getf rfl rfl c4 rfl) ?_
    refine Ex.tr (F1 := (55, 7, _, _)) (x_callv (As := []) rfl rfl rfl (Or.inl rfl) rfl rfl zk (by decide) rfl (Nat.le_of_ble_eq_true rfl) r1 rfl) ?_
    refine Ex.tr (F1 := (55, 8, [_, _], _)) (x_astore_nN (i := 1) rfl (Nat.le_of_ble_eq_true rfl)) ?_
    refine Ex.tr (F1 := (55, 9, _, _)) (x_aload_n rfl rfl rfl) ?_
    exact x_nnullF rfl
/-- convert, where the rows lie too deep -/
theorem t_conv2 (hC : ClH E h O G x n cs W rn) (hx : x + 42 ≤ h.2.1) (hg : GdP cs n) (hd : 8 < (cv cs 61 (fun _ => none) 0 0).2.2.2.2.1) (hd2 : (cv cs 61 (fun _ => none) 0 0).2.2.2.2.1 < 1000) : ∃ (h' : PH) (O' : Nat → Nat × Nat) (G' : PG), Rt E (d + 197) 55 [.ref x] h 1 (hthr h') ∧ ClH E h' O' G' x 0 cs W rn ∧ Kp h h' x ∧ h.2.1 ≤ h'.2.1 ∧ h'.2.1 ≤ h.2.1 + 5 + 12 * n ∧ h'.2.2 ≤ h.2.2 + 14 + 300 * n := by
  obtain ⟨c1, c2, c3, c4, ⟨at0, k0, dr, fr, c5⟩, c6, c7, c8, c9⟩ := id hC
  obtain ⟨h1, O1, G1, a, Q, a1, a2, a3, a4, a5, a6, a7, a8, a9, -, a11⟩ := c_takeY (E := E) (d := d) c1 c5 c2 c3 hg.1
  have r1 := a11 hg.2
  obtain ⟨e1, e2⟩ := hC.ext a1 (n' := 0) ⟨_, _, _, _, a2⟩ (by omega) a6 a5 a7
  obtain ⟨f1, f2⟩ := e1.mkP (a := a) (nn := nI (cv cs 61 (fun _ => none) 0 0).2.2.2.1)
  have s1 := a7.2.1
  have zk := c5.1
  have zk1 := mkP_old (row := a) (nn := nI (cv cs 61 (fun _ => none) 0 0).2.2.2.1) a1.1 a2.1
  generalize hc : cv cs 61 (fun _ => none) 0 0 = c at *
  generalize hm : mkP h1 a (nI c.2.2.2.1) = hp at *
  have hsz : hp.2 = (h1.2.1 + 2, h1.2.2 + 7) := by rw [← hm]; rfl
  have d4 := f1.2.2.2.1
  have hs1 : hp.2.1 = h1.2.1 + 2 := by rw [hsz]
  have hs2 : hp.2.2 = h1.2.2 + 7 := by rw [hsz]
  refine ⟨hp, O1, G1, ⟨Nat.le_of_ble_eq_true rfl, (55, 34, 1, 60, 62, 64, "the rows lie too deep"), [some (.ref x), some (.ref h1.2.1)], hp, by unfold xsite; simp, rfl, rfl, ?_, rfl⟩, f1, e2.tr f2, by omega, by omega, by omega⟩
  refine Ex.tr (F1 := (55, 1, _, _)) (x_aload_n rfl rfl rfl) ?_
  refine Ex.tr (F1 := (55, 4, _, _)) (x_getf rfl rfl c4 rfl) ?_
  refine Ex.tr (F1 := (55, 7, _, _)) (x_callv (As := []) rfl rfl rfl (Or.inl rfl) rfl rfl zk (by decide) rfl (Nat.le_of_ble_eq_true rfl) r1 rfl) ?_
  refine Ex.tr (F1 := (55, 8, [_, _], _)) (x_astore_n (i := 1) rfl (Nat.le_of_ble_eq_true rfl)) ?_
  refine Ex.tr (F1 := (55, 9, _, _)) (x_aload_n rfl rfl rfl) ?_
  refine Ex.tr (F1 := (55, 22, _, _)) (x_nnullT rfl (tg := 22) rfl) ?_
  refine Ex.tr (F1 := (55, 23, _, _)) (x_aload_n rfl rfl rfl) ?_
  refine Ex.tr (F1 := (55, 26, _, _)) (x_getf rfl rfl d4 rfl) ?_
  refine Ex.tr (F1 := (55, 29, _, _)) (x_getf rfl rfl zk1 rfl) ?_
  refine Ex.tr (F1 := (55, 31, _, _)) (x_bipush rfl) ?_
  exact x_icF rfl (tg := 44) rfl (show ¬ nI c.2.2.2.2.1 ≤ nI 8 from Int32.not_le.mpr (nI_lt (by omega) (by omega)))
theorem t_pass0 (hC : ClH E h O G x n cs none rn) : Rt E d 56 [.ref x] h 2 (hthr h) := by
  have c4 : h.1 x = some (9, [.ref (x + 1), .ref (x + 4), .ref (x + 7), .ref (x + 9), .null]) := hC.2.2.2.1
  refine ⟨Nat.le_of_ble_eq_true rfl, (56, 7, 2, 77, 79, 81, "no program"), pent [.ref x] (mmax 56), h, by unfold xsite; simp, rfl, rfl, ?_, rfl⟩
  refine Ex.tr (F1 := (56, 1, _, _)) (x_aload_n rfl rfl rfl) ?_
  refine Ex.tr (F1 := (56, 4, _, _)) (x_getf rfl rfl c4 rfl) ?_
  exact x_nnullF rfl
theorem t_simp0 (hC : ClH E h O G x n cs none rn) : Rt E d 59 [.ref x] h 2 (hthr h) := by
  have c4 : h.1 x = some (9, [.ref (x + 1), .ref (x + 4), .ref (x + 7), .ref (x + 9), .null]) := hC.2.2.2.1
  refine ⟨Nat.le_of_ble_eq_true rfl, (59, 7, 2, 77, 79, 81, "no program"), pent [.ref x] (mmax 59), h, by unfold xsite; simp, rfl, rfl, ?_, rfl⟩
  refine Ex.tr (F1 := (59, 1, _, _)) (x_aload_n rfl rfl rfl) ?_
  refine Ex.tr (F1 := (59, 4, _, _)) (x_getf rfl rfl c4 rfl) ?_
  exact x_nnullF rfl
theorem t_run0 (hC : ClH E h O G x n cs none rn) : Rt E d 62 [.ref x] h 2 (hthr h) := by
  have c4 : h.1 x = some (9, [.ref (x + 1), .ref (x + 4), .ref (x + 7), .ref (x + 9), .null]) := hC.2.2.2.1
  refine ⟨Nat.le_of_ble_eq_true rfl, (62, 7, 2, 77, 79, 81, "no program"), pent [.ref x] (mmax 62), h, by unfold xsite; simp, rfl, rfl, ?_, rfl⟩
  refine Ex.tr (F1 := (62, 1, _, _)) (x_aload_n rfl rfl rfl) ?_
  refine Ex.tr (F1 := (62, 4, _, _)) (x_getf rfl rfl c4 rfl) ?_
  exact x_nnullF rfl
theorem t_cntX {k : Int32} (hk : k < 0 ∨ 5 < k) : Rt E d 60 [.ref x, .int k] h 3 (hthr h) := by
  refine ⟨Nat.le_of_ble_eq_true rfl, (60, 9, 3, 87, 89, 91, "no such count"), pent [.ref x, .int k] (mmax 60), h, by unfold xsite; simp, rfl, rfl, ?_, rfl⟩
  by_cases h0 : k < 0
  · refine Ex.tr (F1 := (60, 1, _, _)) (x_iload_n rfl rfl) ?_
    exact x_ifT rfl (tg := 9) rfl h0
  · refine Ex.tr (F1 := (60, 1, _, _)) (x_iload_n rfl rfl) ?_
    refine Ex.tr (F1 := (60, 4, _, _)) (x_ifF rfl (tg := 9) rfl h0) ?_
    refine Ex.tr (F1 := (60, 5, _, _)) (x_iload_n rfl rfl) ?_
    refine Ex.tr (F1 := (60, 6, _, _)) (x_iconst rfl) ?_
    exact x_icF rfl (tg := 19) rfl (Int32.not_le.mpr (hk.resolve_left h0))
theorem t_wri0 {k : Int32} (hC : ClH E h O G x n cs none rn) : Rt E d 61 [.ref x, .int k] h 3 (hthr h) := by
  have c4 : h.1 x = some (9, [.ref (x + 1), .ref (x + 4), .ref (x + 7), .ref (x + 9), .null]) := hC.2.2.2.1
  refine ⟨Nat.le_of_ble_eq_true rfl, (61, 40, 3, 87, 106, 91, "no such number"), pent [.ref x, .int k] (mmax 61), h, by unfold xsite; simp, rfl, rfl, ?_, rfl⟩
  refine Ex.tr (F1 := (61, 1, _, _)) (x_aload_n rfl rfl rfl) ?_
  refine Ex.tr (F1 := (61, 4, _, _)) (x_getf rfl rfl c4 rfl) ?_
  refine Ex.tr (F1 := (61, 18, _, _)) (x_nullT rfl (tg := 18) rfl) ?_
  refine Ex.tr (F1 := (61, 19, _, _)) (x_aload_n rfl rfl rfl) ?_
  refine Ex.tr (F1 := (61, 22, _, _)) (x_getf rfl rfl c4 rfl) ?_
  exact x_nullT rfl (tg := 40) rfl
theorem Rt.wri {k : Int32} {h' : PH} (hx : Ex E d (61, 0, pent [.ref x, .int k] (mmax 61), []) h (61, 40, pent [.ref x, .int k] (mmax 61), []) h') : Rt E d 61 [.ref x, .int k] h 3 (hthr h') :=
  ⟨Nat.le_of_ble_eq_true rfl, (61, 40, 3, 87, 106, 91, "no such number"), pent [.ref x, .int k] (mmax 61), h', by unfold xsite; simp, rfl, rfl, hx, rfl⟩
theorem t_ranX {k : Int32} (hk : k < 0 ∨ 3 < k) : Rt E d 63 [.ref x, .int k] h 3 (hthr h) := by
  refine ⟨Nat.le_of_ble_eq_true rfl, (63, 72, 3, 87, 127, 91, "nothing such of a run"), pent [.ref x, .int k] (mmax 63), h, by unfold xsite; simp, rfl, rfl, ?_, rfl⟩
  refine Ex.tr (F1 := (63, 1, _, _)) (x_iload_n rfl rfl) ?_
  exact x_tswOut rfl (hk.imp (fun z => Int32.lt_iff_toInt_lt.mp z) (fun z => show (3 : Int32).toInt < k.toInt from Int32.lt_iff_toInt_lt.mp z)) (tg := 72) rfl
end M95
