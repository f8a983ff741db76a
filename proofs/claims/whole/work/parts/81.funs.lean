/-! ===== the class: functions, ifs ===== -/
section M58
variable {E : PE} {d : Nat} {h : PH} {O : Nat → Nat × Nat} {G : PG} {kz at0 k dr : Nat} {cs : Nat → Int32} {len : Int32} {M : Mn} {fr : Bool}
theorem fun_core {n f p' R D a p j : Nat} {bs : List Nat} {r : Int32 × Int32} (IH : AtP E kz cs n f) (hv : cs (p + 1) = nI j) (hj : j < 10) (hp60 : p + 1 < 60) (s1 : sy cs n f (p + 2) = some p') (hG : GH E h O G) (x : KvH h O kz cs len (p + 1) M fr k dr) (ha : G.1 a = some (bs, r)) (hb : bs.length ≤ p) (hD : 2 * D + (p' - p) ≤ 60) (hR : R ≤ D) (hRd : R ≤ dr) (hdr : dr ≤ 60) (hn : n ≤ 60)
    {cr : Cv} (hcr : cv cs f (mup M j (1, nI k)) (p + 2) (k + 1) = cr) :
    AtE E kz cs len M (fun xa h' => Rn E (d + 3 * f + 12) 94 [.ref kz, .ref a, .int (nI R), .int (nI (D + 1))] h (some (.ref xa)) h') h O G a bs r fr R dr p
      ((2, nI cr.2.2.2.1, nI k, (0, 0), (0, 0)) :: (cr.1 ++ [iRes cr.2.1]), (1, nI cr.2.2.2.1), cr.2.2.1, cr.2.2.2.1 + 1, cr.2.2.2.2.1 + 1, cr.2.2.2.2.2) := by
  have hw := hG.1
  obtain ⟨u1, u2, u3, -, -, -, u7⟩ := cv_nums f (mup M j (1, nI k)) (p + 2) (k + 1) p' s1
  rw [hcr] at u1 u7
  have hal : a < h.2.1 := by
    obtain ⟨l, e, cap, x9, q1, -⟩ := hG.2.2.1 a bs r ha
    exact hw _ _ q1
  have nx := c_nexti (E := E) (d := d + 3 * f + 11) hG x hp60
  rw [hv] at nx
  obtain ⟨x0, G0, c0⟩ := KvH.put (len' := len) (at' := p + 2) (fr' := fr) (k' := k) (dr' := dr) hG x
  have z0 : (pset h kz (3, kcl kz len (p + 2) fr k dr)).2 = h.2 := rfl
  generalize hh0 : pset h kz (3, kcl kz len (p + 2) fr k dr) = h0 at x0 G0 c0 z0 nx
  have e0 : h0.2.1 = h.2.1 := by rw [z0]
  have e0' : h0.2.2 = h.2.2 := by rw [z0]
  -- the parameter
  have nn := c_name (E := E) (d := d + 3 * f + 10) G0 x0
  have Ga : GH E (mkA h0 (1, nI k)) O G := mkA_G G0
  have ca : Ch O h0 O (mkA h0 (1, nI k)) := mkA_ch G0.1
  have xa := x0.ch G0.1 ca
  have Aa : AtH (mkA h0 (1, nI k)) h0.2.1 (1, nI k) := mkA_at (Or.inr rfl)
  obtain ⟨x1, G1, c1⟩ := KvH.put (len' := len) (at' := p + 2) (fr' := fr) (k' := k + 1) (dr' := dr) Ga xa
  have A1 := xa.at c1 Aa
  have z1 : (pset (mkA h0 (1, nI k)) kz (3, kcl kz len (p + 2) fr (k + 1) dr)).2 = (h0.2.1 + 1, h0.2.2 + 2) := rfl
  have c01 := ca.p.tr G0.1 c1
  generalize hh1 : pset (mkA h0 (1, nI k)) kz (3, kcl kz len (p + 2) fr (k + 1) dr) = h1 at x1 G1 c1 A1 z1 nn c01
  have e1 : h1.2.1 = h.2.1 + 1 := by rw [z1]; show h0.2.1 + 1 = _; omega
  have e1' : h1.2.2 = h.2.2 + 2 := by rw [z1]; show h0.2.2 + 2 = _; omega
  -- the meaning
  obtain ⟨ms, m1, m2, m3⟩ := KvH.mean (v := j) G1 x1
  obtain ⟨x2, G2, c2'⟩ := m3 (.ref h0.2.1) (some (1, nI k)) (Or.inr ⟨_, _, rfl, rfl, A1⟩)
  have z2 : (pset h1 (kz + 2) (103, mar (vup ms j (.ref h0.2.1)))).2 = h1.2 := rfl
  generalize hh2 : pset h1 (kz + 2) (103, mar (vup ms j (.ref h0.2.1))) = h2 at x2 G2 c2' z2
  have e2 : h2.2.1 = h1.2.1 := by rw [z2]
  have e2' : h2.2.2 = h1.2.2 := by rw [z2]
  -- the body
  obtain ⟨h3, O3, G3, rb, Q, b1, b2, b3, b4, b5, b6, b7, b8, b9, b10⟩ := c_rowT (E := E) (d := d) (M := mup M j (1, nI k)) (R := R + 1) (D := D + 1) IH s1 G2 x2 (by omega) (by omega) hdr hn
  rw [hcr] at b3 b5 b9 b10
  rw [u1] at b3 b9 b10
  -- back
  obtain ⟨ms3, m31, m32, m33⟩ := KvH.mean (v := j) b2 b3
  have c23 := c2'.tr G1.1 b8
  obtain ⟨x4, G4, c4⟩ := m33 (ms j) (M j) (by
    rcases m2 j hj with z | ⟨b, y, q1, q2, q3⟩
    · exact Or.inl z
    · exact Or.inr ⟨b, y, q1, q2, x1.at c23 q3⟩)
  have eM : (fun u => if u = j then M j else mup M j (1, nI k) u) = M := mup_back (o := some (1, nI k))
  rw [eM] at x4
  have A3 := x1.at c23 A1
  have A4 := b3.at c4 A3
  have z4 : (pset h3 (kz + 2) (103, mar (vup ms3 j (ms j)))).2 = h3.2 := rfl
  generalize hh4 : pset h3 (kz + 2) (103, mar (vup ms3 j (ms j))) = h4 at x4 G4 c4 A4 z4
  have e4 : h4.2.1 = h3.2.1 := by rw [z4]
  have e4' : h4.2.2 = h3.2.2 := by rw [z4]
  have s3 := b8.2.1
  have hne : a ≠ rb := by omega
  have ha3 : G3.1 a = some (bs, r) := by rw [b7.1 a (by omega) hne]; exact ha
  obtain ⟨⟨bsr, rr, hrb⟩, -⟩ := WA_mem b4 List.mem_cons_self
  obtain ⟨lr, er, capr, xr, rb4, -⟩ := G4.2.2.1 rb _ rr hrb
  -- the binding
  obtain ⟨h5, O5, d1, d3, d4, d5, d6, d7, d8, d9⟩ := c_bind2 (E := E) (d := d + 3 * f + 4) (xs := []) (rs := [rb]) (it := (2, nI cr.2.2.2.1, nI k, (0, 0), (0, 0))) (kd := 2) (dt := nI k) G4 x4 ha3 (by omega) rfl rfl (fun _ => rfl) rfl (fun j y hj => by cases hj) rfl
  have emax : max dr (R + 1 + cr.2.2.2.2.1) = max dr (R + (cr.2.2.2.2.1 + 1)) := by omega
  rw [emax] at d4
  refine ⟨h5, O5, _, h4.2.1 + 2, ((2, nI cr.2.2.2.1, nI k, (0, 0), (0, 0)), h4.2.1 + 3) :: Q, [h4.2.1 + 3], ?_, d3, ?_, d5, gR_at, ?_, fun b p0 s0 => ?_, ?_, ⟨fun q hq hn' => ?_, fun q hq => ?_, fun z hz => ?_, ?_⟩, ((((c0.tr hw c01).tr hw c2').tr hw b8).tr hw c4).tr hw d6, ?_, ?_⟩
  · have zx := x.1
    have za0 := x0.1
    have za1 := x1.1
    have za2 := x2.1
    have zb3 := b3.1
    have w4 := G4.1
    have em : pset (pnew (pnew h4 (103, List.replicate 0 Value.null)) (104, List.replicate 1 Value.null)) (h4.2.1 + 1) (104, [.ref rb]) = mk2 h4 [] [rb] := by
      rw [← mk2_eq (h := h4) (xs := []) (rs := [rb]) (c1 := (103, List.replicate 0 Value.null)) (c2 := (104, List.replicate 1 Value.null)) rfl rfl]
      have : pset (pnew h4 (103, List.replicate 0 Value.null)) h4.2.1 (103, refs []) = pnew h4 (103, List.replicate 0 Value.null) := pnew_self
      rw [this]
      rfl
    have rr1 : (pnew (pnew h4 (103, List.replicate 0 Value.null)) (104, List.replicate 1 Value.null)).1 rb = some (7, [.ref lr, .ref xr]) := by
      have h1' := pnew_old w4 (c := (103, List.replicate 0 Value.null)) rb4
      exact pnew_old w4.new h1'
    have ez : (mk2 h4 [] [rb]).1 kz = some (3, kcl kz len p' (fr || cr.2.2.2.2.2) cr.2.2.2.1 (max dr (R + 1 + cr.2.2.2.2.1))) := mk2_old w4 x4.1
    rw [← em] at d1 ez
    subst hh2
    subst hh4
    rcases m2 j hj with ⟨q1, q2⟩ | ⟨b, yo, q1, q2, q3⟩
    · have hmj : (mar ms)[j]? = some .null := (mar_at hj).trans (by rw [q2])
      rw [q2] at d1 ez A4 rr1
      refine Rn.of (Nat.le_of_ble_eq_true rfl) ?_
      refine Rk.tr (F1 := (94, 1, _, _)) (x_aload_n rfl rfl rfl) ?_
      refine Rk.tr (F1 := (94, 4, _, _)) (x_callv (As := []) rfl rfl rfl (Or.inr rfl) rfl rfl zx (by decide) rfl (Nat.le_of_ble_eq_true rfl) nx rfl) ?_
      refine Rk.tr (F1 := (94, 6, [_, _, _, _, _, _, _, _], _)) (x_istore (i := 4) rfl (Nat.le_of_ble_eq_true rfl)) ?_
      refine Rk.tr (F1 := (94, 7, _, _)) (x_aload_n rfl rfl rfl) ?_
      refine Rk.tr (F1 := (94, 10, _, _)) (x_callv (As := []) rfl rfl rfl (Or.inr rfl) rfl rfl za0 (by decide) rfl (Nat.le_of_ble_eq_true rfl) nn rfl) ?_
      refine Rk.tr (F1 := (94, 12, [_, _, _, _, _, _, _, _], _)) (x_astore (i := 5) rfl (Nat.le_of_ble_eq_true rfl)) ?_
      refine Rk.tr (F1 := (94, 13, _, _)) (x_aload_n rfl rfl rfl) ?_
      refine Rk.tr (F1 := (94, 16, _, _)) (x_getf rfl rfl za1 rfl) ?_
      refine Rk.tr (F1 := (94, 18, _, _)) (x_iload rfl rfl) ?_
      refine Rk.tr (F1 := (94, 19, _, _)) (x_aald (n := j) rfl m1 rfl rfl rfl (by omega) hmj) ?_
      refine Rk.tr (F1 := (94, 21, [_, _, _, _, _, _, _, _], _)) (x_astoreN (i := 6) rfl (Nat.le_of_ble_eq_true rfl)) ?_
      refine Rk.tr (F1 := (94, 22, _, _)) (x_aload_n rfl rfl rfl) ?_
      refine Rk.tr (F1 := (94, 25, _, _)) (x_getf rfl rfl za1 rfl) ?_
      refine Rk.tr (F1 := (94, 27, _, _)) (x_iload rfl rfl) ?_
      refine Rk.tr (F1 := (94, 29, _, _)) (x_aload rfl rfl rfl) ?_
      refine Rk.tr (F1 := (94, 30, _, _)) (x_aasta rfl m1 A1.1 rfl (by omega) hj) ?_
      refine Rk.tr (F1 := (94, 31, _, _)) (x_aload_n rfl rfl rfl) ?_
      refine Rk.tr (F1 := (94, 32, _, _)) (x_iload_n rfl rfl) ?_
      refine Rk.tr (F1 := (94, 33, _, _)) (x_iconst rfl) ?_
      refine Rk.tr (F1 := (94, 34, _, _)) (x_iadd rfl) ?_
      refine Rk.tr (F1 := (94, 34, _, _)) (x_top (nI_1 R)) ?_
      refine Rk.tr (F1 := (94, 35, _, _)) (x_iload_n rfl rfl) ?_
      refine Rk.tr (F1 := (94, 38, _, _)) (x_callv (As := [_, _]) rfl rfl rfl (Or.inr rfl) rfl rfl za2 (by decide) rfl (Nat.le_of_ble_eq_true rfl) b1 rfl) ?_
      refine Rk.tr (F1 := (94, 40, [_, _, _, _, _, _, _, _], _)) (x_astore (i := 7) rfl (Nat.le_of_ble_eq_true rfl)) ?_
      refine Rk.tr (F1 := (94, 41, _, _)) (x_aload_n rfl rfl rfl) ?_
      refine Rk.tr (F1 := (94, 44, _, _)) (x_getf rfl rfl zb3 rfl) ?_
      refine Rk.tr (F1 := (94, 46, _, _)) (x_iload rfl rfl) ?_
      refine Rk.tr (F1 := (94, 48, _, _)) (x_aload rfl rfl rfl) ?_
      refine Rk.tr (F1 := (94, 49, _, _)) (x_aastan rfl m31 rfl (by omega) hj) ?_
      refine Rk.tr (F1 := (94, 50, _, _)) (x_aload_n rfl rfl rfl) ?_
      refine Rk.tr (F1 := (94, 51, _, _)) (x_aload_n rfl rfl rfl) ?_
      refine Rk.tr (F1 := (94, 52, _, _)) (x_iconst rfl) ?_
      refine Rk.tr (F1 := (94, 54, _, _)) (x_aload rfl rfl rfl) ?_
      refine Rk.tr (F1 := (94, 57, _, _)) (x_getf rfl rfl A4.1 rfl) ?_
      refine Rk.tr (F1 := (94, 58, _, _)) (x_iconst rfl) ?_
      refine Rk.tr (F1 := (94, 61, _, _)) (x_anew (n := 0) rfl rfl (by decide) rfl (by decide)) ?_
      refine Rk.tr (F1 := (94, 62, _, _)) (x_iconst rfl) ?_
      refine Rk.tr (F1 := (94, 65, _, _)) (x_anew (n := 1) rfl rfl (by decide) rfl (by decide)) ?_
      refine Rk.tr (F1 := (94, 66, _, _)) (x_dup rfl rfl) ?_
      refine Rk.tr (F1 := (94, 67, _, _)) (x_iconst rfl) ?_
      refine Rk.tr (F1 := (94, 69, _, _)) (x_aload rfl rfl rfl) ?_
      refine Rk.tr (F1 := (94, 70, _, _)) (x_aast (n := 0) rfl pnew_at rr1 rfl rfl (by decide) (Nat.le_of_ble_eq_true rfl)) ?_
      refine Rk.tr (F1 := (94, 73, _, _)) (x_callv (As := [_, _, _, _, _]) rfl rfl rfl (Or.inr rfl) rfl rfl ez (by decide) rfl (Nat.le_of_ble_eq_true rfl) d1 rfl) ?_
      exact Rk.end rfl (Or.inr (Or.inr (Or.inr ⟨rfl, _, _, rfl, Or.inl ⟨_, rfl⟩, Or.inr ⟨_, rfl⟩, rfl, rfl⟩)))
    · have hmj : (mar ms)[j]? = some (.ref yo) := (mar_at hj).trans (by rw [q2])
      have hyo := (x1.at c23 q3).1
      rw [q2] at d1 ez A4 rr1
      refine Rn.of (Nat.le_of_ble_eq_true rfl) ?_
      refine Rk.tr (F1 := (94, 1, _, _)) (x_aload_n rfl rfl rfl) ?_
      refine Rk.tr (F1 := (94, 4, _, _)) (x_callv (As := []) rfl rfl rfl (Or.inr rfl) rfl rfl zx (by decide) rfl (Nat.le_of_ble_eq_true rfl) nx rfl) ?_
      refine Rk.tr (F1 := (94, 6, [_, _, _, _, _, _, _, _], _)) (x_istore (i := 4) rfl (Nat.le_of_ble_eq_true rfl)) ?_
      refine Rk.tr (F1 := (94, 7, _, _)) (x_aload_n rfl rfl rfl) ?_
      refine Rk.tr (F1 := (94, 10, _, _)) (x_callv (As := []) rfl rfl rfl (Or.inr rfl) rfl rfl za0 (by decide) rfl (Nat.le_of_ble_eq_true rfl) nn rfl) ?_
      refine Rk.tr (F1 := (94, 12, [_, _, _, _, _, _, _, _], _)) (x_astore (i := 5) rfl (Nat.le_of_ble_eq_true rfl)) ?_
      refine Rk.tr (F1 := (94, 13, _, _)) (x_aload_n rfl rfl rfl) ?_
      refine Rk.tr (F1 := (94, 16, _, _)) (x_getf rfl rfl za1 rfl) ?_
      refine Rk.tr (F1 := (94, 18, _, _)) (x_iload rfl rfl) ?_
      refine Rk.tr (F1 := (94, 19, _, _)) (x_aald (n := j) rfl m1 rfl rfl rfl (by omega) hmj) ?_
      refine Rk.tr (F1 := (94, 21, [_, _, _, _, _, _, _, _], _)) (x_astore (i := 6) rfl (Nat.le_of_ble_eq_true rfl)) ?_
      refine Rk.tr (F1 := (94, 22, _, _)) (x_aload_n rfl rfl rfl) ?_
      refine Rk.tr (F1 := (94, 25, _, _)) (x_getf rfl rfl za1 rfl) ?_
      refine Rk.tr (F1 := (94, 27, _, _)) (x_iload rfl rfl) ?_
      refine Rk.tr (F1 := (94, 29, _, _)) (x_aload rfl rfl rfl) ?_
      refine Rk.tr (F1 := (94, 30, _, _)) (x_aasta rfl m1 A1.1 rfl (by omega) hj) ?_
      refine Rk.tr (F1 := (94, 31, _, _)) (x_aload_n rfl rfl rfl) ?_
      refine Rk.tr (F1 := (94, 32, _, _)) (x_iload_n rfl rfl) ?_
      refine Rk.tr (F1 := (94, 33, _, _)) (x_iconst rfl) ?_
      refine Rk.tr (F1 := (94, 34, _, _)) (x_iadd rfl) ?_
      refine Rk.tr (F1 := (94, 34, _, _)) (x_top (nI_1 R)) ?_
      refine Rk.tr (F1 := (94, 35, _, _)) (x_iload_n rfl rfl) ?_
      refine Rk.tr (F1 := (94, 38, _, _)) (x_callv (As := [_, _]) rfl rfl rfl (Or.inr rfl) rfl rfl za2 (by decide) rfl (Nat.le_of_ble_eq_true rfl) b1 rfl) ?_
      refine Rk.tr (F1 := (94, 40, [_, _, _, _, _, _, _, _], _)) (x_astore (i := 7) rfl (Nat.le_of_ble_eq_true rfl)) ?_
      refine Rk.tr (F1 := (94, 41, _, _)) (x_aload_n rfl rfl rfl) ?_
      refine Rk.tr (F1 := (94, 44, _, _)) (x_getf rfl rfl zb3 rfl) ?_
      refine Rk.tr (F1 := (94, 46, _, _)) (x_iload rfl rfl) ?_
      refine Rk.tr (F1 := (94, 48, _, _)) (x_aload rfl rfl rfl) ?_
      refine Rk.tr (F1 := (94, 49, _, _)) (x_aasta rfl m31 hyo rfl (by omega) hj) ?_
      refine Rk.tr (F1 := (94, 50, _, _)) (x_aload_n rfl rfl rfl) ?_
      refine Rk.tr (F1 := (94, 51, _, _)) (x_aload_n rfl rfl rfl) ?_
      refine Rk.tr (F1 := (94, 52, _, _)) (x_iconst rfl) ?_
      refine Rk.tr (F1 := (94, 54, _, _)) (x_aload rfl rfl rfl) ?_
      refine Rk.tr (F1 := (94, 57, _, _)) (x_getf rfl rfl A4.1 rfl) ?_
      refine Rk.tr (F1 := (94, 58, _, _)) (x_iconst rfl) ?_
      refine Rk.tr (F1 := (94, 61, _, _)) (x_anew (n := 0) rfl rfl (by decide) rfl (by decide)) ?_
      refine Rk.tr (F1 := (94, 62, _, _)) (x_iconst rfl) ?_
      refine Rk.tr (F1 := (94, 65, _, _)) (x_anew (n := 1) rfl rfl (by decide) rfl (by decide)) ?_
      refine Rk.tr (F1 := (94, 66, _, _)) (x_dup rfl rfl) ?_
      refine Rk.tr (F1 := (94, 67, _, _)) (x_iconst rfl) ?_
      refine Rk.tr (F1 := (94, 69, _, _)) (x_aload rfl rfl rfl) ?_
      refine Rk.tr (F1 := (94, 70, _, _)) (x_aast (n := 0) rfl pnew_at rr1 rfl rfl (by decide) (Nat.le_of_ble_eq_true rfl)) ?_
      refine Rk.tr (F1 := (94, 73, _, _)) (x_callv (As := [_, _, _, _, _]) rfl rfl rfl (Or.inr rfl) rfl rfl ez (by decide) rfl (Nat.le_of_ble_eq_true rfl) d1 rfl) ?_
      exact Rk.end rfl (Or.inr (Or.inr (Or.inr ⟨rfl, _, _, rfl, Or.inl ⟨_, rfl⟩, Or.inr ⟨_, rfl⟩, rfl, rfl⟩)))
  · show KvH h5 O5 kz cs len cr.2.2.1 M _ _ _
    rw [u1]; exact d4
  · rw [AP_cons, b5]
  · refine Or.inr ⟨show (2 : Nat) ≠ 9 by decide, [rb], if_pos rfl, rfl, ?_⟩
    have w1 : WA (gR (gB G3 (h4.2.1 + 3) ((2, nI cr.2.2.2.1, nI k, (0, 0), (0, 0)), [rb])) a (bs ++ [h4.2.1 + 3], r)) [(rb, [])] Q [] := WA_frame (G := G3) (fun q hq => ⟨fun _ => (gR_ne (by have := b7.2.2.1 q hq; omega)), fun _ => if_neg (by have := b7.2.2.1 q hq; omega)⟩) b4
    have := WA_tail ((b, p0 ++ [h4.2.1 + 3]) :: s0) w1
    simpa using this
  · show 1 ≤ cr.2.2.1 - p
    rw [u1]
    omega
  · rw [gR_ne hn']
    exact b7.1 q (by omega) (by omega)
  · show (if q = h4.2.1 + 3 then _ else G3.2 q) = _
    rw [if_neg (by omega)]
    exact b7.2.1 q (by omega)
  · rcases List.mem_cons.mp hz with hz | hz
    · rw [hz]
      show h.2.1 ≤ h4.2.1 + 3 ∧ h4.2.1 + 3 < h5.2.1
      omega
    · have := b7.2.2.1 z hz
      omega
  · rw [List.map_cons]
    refine List.nodup_cons.mpr ⟨fun hm => ?_, b7.2.2.2⟩
    obtain ⟨z, hz, e⟩ := List.mem_map.mp hm
    have := b7.2.2.1 z hz
    have e' : z.2 = h4.2.1 + 3 := e
    omega
  · show _ ≤ h.2.1 + 12 * (cr.2.2.1 - p)
    rw [u1]
    omega
  · show _ ≤ h.2.2 + 300 * (cr.2.2.1 - p)
    rw [u1]
    omega
theorem if_core {n f q1 q2 p' R D a p : Nat} {bs : List Nat} {r : Int32 × Int32} (IH : AtP E kz cs n f) (s1 : sy cs n f (p + 1) = some q1) (s2 : sy cs n f q1 = some q2) (s3 : sy cs n f q2 = some p') (hG : GH E h O G) (x : KvH h O kz cs len (p + 1) M fr k dr) (ha : G.1 a = some (bs, r)) (hb : bs.length ≤ p) (hD : 2 * D + (p' - p) ≤ 60) (hR : R ≤ D) (hRd : R ≤ dr) (hdr : dr ≤ 60) (hn : n ≤ 60)
    {cr c2 c3 : Cv} (hcr : cv cs f M (p + 1) k = cr) (hc2 : cv cs f M q1 cr.2.2.2.1 = c2) (hc3 : cv cs f M q2 c2.2.2.2.1 = c3) :
    AtE E kz cs len M (fun xa h' => Rn E (d + 3 * f + 12) 99 [.ref kz, .ref a, .int (nI R), .int (nI (D + 1))] h (some (.ref xa)) h') h O G a bs r fr R dr p
      (cr.1 ++ (6, nI c3.2.2.2.1, 0, cr.2.1, (0, 0)) :: (c2.1 ++ iRes c2.2.1 :: (c3.1 ++ [iRes c3.2.1])), (1, nI c3.2.2.2.1), c3.2.2.1, c3.2.2.2.1 + 1, max cr.2.2.2.2.1 (max (c2.2.2.2.2.1 + 1) (c3.2.2.2.2.1 + 1)), cr.2.2.2.2.2 || (c2.2.2.2.2.2 || c3.2.2.2.2.2)) := by
  have hw := hG.1
  obtain ⟨u1, u2, u3, -, -, -, u7⟩ := cv_nums f M (p + 1) k q1 s1
  obtain ⟨v1, v2, v3, -, -, -, v7⟩ := cv_nums f M q1 cr.2.2.2.1 q2 s2
  obtain ⟨w1, w2, w3, -, -, -, w7⟩ := cv_nums f M q2 c2.2.2.2.1 p' s3
  rw [hcr] at u1 u7
  rw [hc2] at v1 v7
  rw [hc3] at w1 w7
  have hal : a < h.2.1 := by
    obtain ⟨l, e, cap, x9, q1, -⟩ := hG.2.2.1 a bs r ha
    exact hw _ _ q1
  obtain ⟨h1, O1, G1, xa1, Q1, bs1, a1, a2, a3, a4, a5, a6, a7, a8, a9, a10, a11, a12⟩ := IH (d + 1) h O G len a bs r (p + 1) q1 k M fr R dr (D + 1) ⟨s1, hG, x, ha, by omega, by omega, by omega, hRd, hdr, hn⟩
  rw [hcr] at a3 a4 a6 a8 a11 a12
  rw [u1] at a3 a8 a11 a12
  obtain ⟨h2, O2, G2, ra, Q2, b1, b2, b3, b4, b5, b6, b7, b8, b9, b10⟩ := c_rowT (E := E) (d := d) (R := R + 1) (D := D + 1) IH s2 a2 a3 (by omega) (by omega) (by omega) hn
  rw [hc2] at b3 b5 b9 b10
  rw [v1] at b3 b9 b10
  obtain ⟨h3, O3, G3, rb, Q3, d1, d2, d3, d4, d5, d6, d7, d8, d9, d10⟩ := c_rowT (E := E) (d := d) (R := R + 1) (D := D + 1) IH s3 b2 b3 (by omega) (by omega) (by omega) hn
  rw [hc3] at d3 d5 d9 d10
  rw [w1] at d3 d9 d10
  have s12 := a10.2.1
  have s23 := b8.2.1
  have s34 := d8.2.1
  have ha2 : G2.1 a = some (bs ++ bs1, r) := by rw [b7.1 a (by omega) (by omega)]; exact a5
  have ha3 : G3.1 a = some (bs ++ bs1, r) := by rw [d7.1 a (by omega) (by omega)]; exact ha2
  have A3 := (b3.at d8 (a3.at b8 a4))
  obtain ⟨⟨bsa, rra, hra⟩, itra, hma, -⟩ := WA_mem b4 List.mem_cons_self
  obtain ⟨⟨bsb, rrb, hrb⟩, -⟩ := WA_mem d4 List.mem_cons_self
  have hlt := b7.2.2.1 _ hma
  have hra3 : G3.1 ra = some ([] ++ bsa, rra) := by rw [d7.1 ra hlt.2 (by have h9 : ra < h2.2.1 := hlt.2; omega)]; exact hra
  obtain ⟨la, ea, capa, xa9, ra4, -⟩ := d2.2.2.1 ra _ rra hra3
  obtain ⟨lb, eb, capb, xb9, rb4, -⟩ := d2.2.2.1 rb _ rrb hrb
  obtain ⟨h5, O5, g1, g3, g4, g5, g6, g7, g8, g9⟩ := c_bind2 (E := E) (d := d + 3 * f + 4) (xs := [xa1]) (rs := [ra, rb]) (it := (6, nI c3.2.2.2.1, 0, cr.2.1, (0, 0))) (kd := 6) (dt := 0) d2 d3 ha3 (by rw [List.length_append]; omega) rfl rfl (fun z => by rcases z with z | z <;> cases z) rfl (fun j y hj => by
    match j, hj with
    | 0, hj => cases hj; exact A3
    | n + 1, hj => cases hj) rfl
  have emax : max (max (max dr (R + cr.2.2.2.2.1)) (R + 1 + c2.2.2.2.2.1)) (R + 1 + c3.2.2.2.2.1) = max dr (R + max cr.2.2.2.2.1 (max (c2.2.2.2.2.1 + 1) (c3.2.2.2.2.1 + 1))) := by omega
  rw [emax, Bool.or_assoc, Bool.or_assoc] at g4
  refine ⟨h5, O5, _, h3.2.1 + 2, Q1 ++ ((6, nI c3.2.2.2.1, 0, cr.2.1, (0, 0)), h3.2.1 + 3) :: (Q2 ++ Q3), bs1 ++ [h3.2.1 + 3], ?_, g3, ?_, g5, ?_, ?_, fun b p0 s0 => ?_, ?_, ⟨fun q hq hn' => ?_, fun q hq => ?_, fun z hz => ?_, ?_⟩, ((a10.tr hw b8).tr hw d8).tr hw g6, ?_, ?_⟩
  · have zx := x.1
    have za := a3.1
    have zb := b3.1
    have w4 := d2.1
    have y1 : (pnew h3 (103, List.replicate 1 Value.null)).1 xa1 = some (1, [.int cr.2.1.1, .int cr.2.1.2]) := pnew_old w4 A3.1
    have wf2 : Wf (pset (pnew h3 (103, List.replicate 1 Value.null)) h3.2.1 (103, [.ref xa1])) := w4.new.set (Nat.lt_succ_self _)
    have old : ∀ q c, h3.1 q = some c → (pnew (pset (pnew h3 (103, List.replicate 1 Value.null)) h3.2.1 (103, [.ref xa1])) (104, List.replicate 2 Value.null)).1 q = some c := fun q c hq => by
      have hne : q ≠ h3.2.1 := fun z => by have := w4 _ _ hq; omega
      exact pnew_old wf2 (((pset_ne hne).trans (pnew_ne hne)).trans hq)
    have y2 := old _ _ ra4
    have y3 : (pset (pnew (pset (pnew h3 (103, List.replicate 1 Value.null)) h3.2.1 (103, [.ref xa1])) (104, List.replicate 2 Value.null)) (h3.2.1 + 1) (104, [.ref ra, .null])).1 rb = some (7, [.ref lb, .ref xb9]) := by
      rw [pset_ne (fun z => by have := w4 _ _ rb4; omega)]
      exact old _ _ rb4
    have em : pset (pset (pnew (pset (pnew h3 (103, List.replicate 1 Value.null)) h3.2.1 (103, [.ref xa1])) (104, List.replicate 2 Value.null)) (h3.2.1 + 1) (104, [.ref ra, .null])) (h3.2.1 + 1) (104, [.ref ra, .ref rb]) = mk2 h3 [xa1] [ra, rb] := by
      rw [pset2]
      exact mk2_eq (h := h3) (xs := [xa1]) (rs := [ra, rb]) (c1 := (103, List.replicate 1 Value.null)) (c2 := (104, List.replicate 2 Value.null)) rfl rfl
    have ez : (mk2 h3 [xa1] [ra, rb]).1 kz = some (3, kcl kz len p' (fr || cr.2.2.2.2.2 || c2.2.2.2.2.2 || c3.2.2.2.2.2) c3.2.2.2.1 (max (max (max dr (R + cr.2.2.2.2.1)) (R + 1 + c2.2.2.2.2.1)) (R + 1 + c3.2.2.2.2.1))) := mk2_old w4 d3.1
    rw [← em] at g1 ez
    rw [show d + 1 + 3 * f + 10 = d + 3 * f + 11 by omega] at a1
    refine Rn.of (Nat.le_of_ble_eq_true rfl) ?_
    refine Rk.tr (F1 := (99, 1, _, _)) (x_aload_n rfl rfl rfl) ?_
    refine Rk.tr (F1 := (99, 2, _, _)) (x_aload_n rfl rfl rfl) ?_
    refine Rk.tr (F1 := (99, 3, _, _)) (x_iload_n rfl rfl) ?_
    refine Rk.tr (F1 := (99, 4, _, _)) (x_iload_n rfl rfl) ?_
    refine Rk.tr (F1 := (99, 7, _, _)) (x_callv (As := [_, _, _]) rfl rfl rfl (Or.inr rfl) rfl rfl zx (by decide) rfl (Nat.le_of_ble_eq_true rfl) a1 rfl) ?_
    refine Rk.tr (F1 := (99, 9, [_, _, _, _, _, _, _], _)) (x_astore (i := 4) rfl (Nat.le_of_ble_eq_true rfl)) ?_
    refine Rk.tr (F1 := (99, 10, _, _)) (x_aload_n rfl rfl rfl) ?_
    refine Rk.tr (F1 := (99, 11, _, _)) (x_iload_n rfl rfl) ?_
    refine Rk.tr (F1 := (99, 12, _, _)) (x_iconst rfl) ?_
    refine Rk.tr (F1 := (99, 13, _, _)) (x_iadd rfl) ?_
    refine Rk.tr (F1 := (99, 13, _, _)) (x_top (nI_1 R)) ?_
    refine Rk.tr (F1 := (99, 14, _, _)) (x_iload_n rfl rfl) ?_
    refine Rk.tr (F1 := (99, 17, _, _)) (x_callv (As := [_, _]) rfl rfl rfl (Or.inr rfl) rfl rfl za (by decide) rfl (Nat.le_of_ble_eq_true rfl) b1 rfl) ?_
    refine Rk.tr (F1 := (99, 19, [_, _, _, _, _, _, _], _)) (x_astore (i := 5) rfl (Nat.le_of_ble_eq_true rfl)) ?_
    refine Rk.tr (F1 := (99, 20, _, _)) (x_aload_n rfl rfl rfl) ?_
    refine Rk.tr (F1 := (99, 21, _, _)) (x_iload_n rfl rfl) ?_
    refine Rk.tr (F1 := (99, 22, _, _)) (x_iconst rfl) ?_
    refine Rk.tr (F1 := (99, 23, _, _)) (x_iadd rfl) ?_
    refine Rk.tr (F1 := (99, 23, _, _)) (x_top (nI_1 R)) ?_
    refine Rk.tr (F1 := (99, 24, _, _)) (x_iload_n rfl rfl) ?_
    refine Rk.tr (F1 := (99, 27, _, _)) (x_callv (As := [_, _]) rfl rfl rfl (Or.inr rfl) rfl rfl zb (by decide) rfl (Nat.le_of_ble_eq_true rfl) d1 rfl) ?_
    refine Rk.tr (F1 := (99, 29, [_, _, _, _, _, _, _], _)) (x_astore (i := 6) rfl (Nat.le_of_ble_eq_true rfl)) ?_
    refine Rk.tr (F1 := (99, 30, _, _)) (x_aload_n rfl rfl rfl) ?_
    refine Rk.tr (F1 := (99, 31, _, _)) (x_aload_n rfl rfl rfl) ?_
    refine Rk.tr (F1 := (99, 33, _, _)) (x_bipush rfl) ?_
    refine Rk.tr (F1 := (99, 34, _, _)) (x_iconst rfl) ?_
    refine Rk.tr (F1 := (99, 35, _, _)) (x_iconst rfl) ?_
    refine Rk.tr (F1 := (99, 38, _, _)) (x_anew (n := 1) rfl rfl (by decide) rfl (by decide)) ?_
    refine Rk.tr (F1 := (99, 39, _, _)) (x_dup rfl rfl) ?_
    refine Rk.tr (F1 := (99, 40, _, _)) (x_iconst rfl) ?_
    refine Rk.tr (F1 := (99, 42, _, _)) (x_aload rfl rfl rfl) ?_
    refine Rk.tr (F1 := (99, 43, _, _)) (x_aast (n := 0) rfl pnew_at y1 rfl rfl (by decide) (Nat.le_of_ble_eq_true rfl)) ?_
    refine Rk.tr (F1 := (99, 44, _, _)) (x_iconst rfl) ?_
    refine Rk.tr (F1 := (99, 47, _, _)) (x_anew (n := 2) rfl rfl (by decide) rfl (by decide)) ?_
    refine Rk.tr (F1 := (99, 48, _, _)) (x_dup rfl rfl) ?_
    refine Rk.tr (F1 := (99, 49, _, _)) (x_iconst rfl) ?_
    refine Rk.tr (F1 := (99, 51, _, _)) (x_aload rfl rfl rfl) ?_
    refine Rk.tr (F1 := (99, 52, _, _)) (x_aast (n := 0) rfl pnew_at y2 rfl rfl (by decide) (Nat.le_of_ble_eq_true rfl)) ?_
    refine Rk.tr (F1 := (99, 53, _, _)) (x_dup rfl rfl) ?_
    refine Rk.tr (F1 := (99, 54, _, _)) (x_iconst rfl) ?_
    refine Rk.tr (F1 := (99, 56, _, _)) (x_aload rfl rfl rfl) ?_
    refine Rk.tr (F1 := (99, 57, _, _)) (x_aast (n := 1) rfl pset_at y3 rfl rfl (by decide) (Nat.le_of_ble_eq_true rfl)) ?_
    refine Rk.tr (F1 := (99, 60, _, _)) (x_callv (As := [_, _, _, _, _]) rfl rfl rfl (Or.inr rfl) rfl rfl ez (by decide) rfl (Nat.le_of_ble_eq_true rfl) g1 rfl) ?_
    exact Rk.end rfl (Or.inr (Or.inr (Or.inr ⟨rfl, _, _, rfl, Or.inl ⟨_, rfl⟩, Or.inr ⟨_, rfl⟩, rfl, rfl⟩)))
  · show KvH h5 O5 kz cs len c3.2.2.1 M _ _ _
    rw [w1]; exact g4
  · rw [gR_at, List.append_assoc]
  · rw [AP_app, AP_cons, AP_app, a6, b5, d5]
    simp
  · have fr1 : ∀ q, q < h3.2.1 → q ≠ a → (gR (gB G3 (h3.2.1 + 3) ((6, nI c3.2.2.2.1, 0, cr.2.1, (0, 0)), [ra, rb])) a (bs ++ bs1 ++ [h3.2.1 + 3], r)).1 q = G3.1 q := fun q hq hn' => gR_ne hn'
    have fr2 : ∀ q, q < h3.2.1 → (gR (gB G3 (h3.2.1 + 3) ((6, nI c3.2.2.2.1, 0, cr.2.1, (0, 0)), [ra, rb])) a (bs ++ bs1 ++ [h3.2.1 + 3], r)).2 q = G3.2 q := fun q hq => if_neg (by omega)
    have y1 : WA (gR (gB G3 (h3.2.1 + 3) ((6, nI c3.2.2.2.1, 0, cr.2.1, (0, 0)), [ra, rb])) a (bs ++ bs1 ++ [h3.2.1 + 3], r)) ((b, p0) :: s0) Q1 ((b, p0 ++ bs1) :: s0) := WA_frame (fun q hq => by
      have k1 := a9.2.2.1 q hq
      exact ⟨fun _ => by rw [fr1 q.2 (by omega) (by omega), d7.1 q.2 (by omega) (by omega), b7.1 q.2 (by omega) (by omega)], fun _ => by rw [fr2 q.2 (by omega), d7.2.1 q.2 (by omega), b7.2.1 q.2 (by omega)]⟩) (a7 b p0 s0)
    have y2 : WA (gR (gB G3 (h3.2.1 + 3) ((6, nI c3.2.2.2.1, 0, cr.2.1, (0, 0)), [ra, rb])) a (bs ++ bs1 ++ [h3.2.1 + 3], r)) [(ra, [])] Q2 [] := WA_frame (fun q hq => by
      have k1 := b7.2.2.1 q hq
      exact ⟨fun _ => by rw [fr1 q.2 (by omega) (by omega), d7.1 q.2 (by omega) (by omega)], fun _ => by rw [fr2 q.2 (by omega), d7.2.1 q.2 (by omega)]⟩) b4
    have y3 : WA (gR (gB G3 (h3.2.1 + 3) ((6, nI c3.2.2.2.1, 0, cr.2.1, (0, 0)), [ra, rb])) a (bs ++ bs1 ++ [h3.2.1 + 3], r)) [(rb, [])] Q3 [] := WA_frame (fun q hq => by
      have k1 := d7.2.2.1 q hq
      exact ⟨fun _ => fr1 q.2 (by omega) (by omega), fun _ => fr2 q.2 (by omega)⟩) d4
    refine WA_app.mpr ⟨_, y1, Or.inr ⟨show (6 : Nat) ≠ 9 by decide, [ra, rb], if_pos rfl, rfl, ?_⟩⟩
    have t2 := WA_tail ((rb, []) :: (b, p0 ++ bs1 ++ [h3.2.1 + 3]) :: s0) y2
    have t3 := WA_tail ((b, p0 ++ bs1 ++ [h3.2.1 + 3]) :: s0) y3
    refine WA_app.mpr ⟨_, t2, ?_⟩
    rw [← List.append_assoc]
    exact t3
  · show _ ≤ c3.2.2.1 - p
    rw [w1, List.length_append, List.length_singleton]
    omega
  · rw [gR_ne hn']
    show G3.1 q = G.1 q
    rw [d7.1 q (by omega) (by omega), b7.1 q (by omega) (by omega)]
    exact a9.1 q hq hn'
  · show (if q = h3.2.1 + 3 then _ else G3.2 q) = _
    rw [if_neg (by omega), d7.2.1 q (by omega), b7.2.1 q (by omega)]
    exact a9.2.1 q hq
  · rcases List.mem_append.mp hz with hz | hz
    · have := a9.2.2.1 z hz; omega
    · rcases List.mem_cons.mp hz with hz | hz
      · rw [hz]
        show h.2.1 ≤ h3.2.1 + 3 ∧ h3.2.1 + 3 < h5.2.1
        omega
      · rcases List.mem_append.mp hz with hz | hz
        · have := b7.2.2.1 z hz; omega
        · have := d7.2.2.1 z hz; omega
  · rw [List.map_append, List.map_cons, List.map_append]
    refine List.nodup_append.mpr ⟨a9.2.2.2, List.nodup_cons.mpr ⟨fun hm => ?_, List.nodup_append.mpr ⟨b7.2.2.2, d7.2.2.2, fun u hu v hv e => ?_⟩⟩, fun u hu v hv e => ?_⟩
    · rcases List.mem_append.mp hm with hm | hm
      · obtain ⟨z, hz, e⟩ := List.mem_map.mp hm
        have := b7.2.2.1 z hz
        have e' : z.2 = h3.2.1 + 3 := e
        omega
      · obtain ⟨z, hz, e⟩ := List.mem_map.mp hm
        have := d7.2.2.1 z hz
        have e' : z.2 = h3.2.1 + 3 := e
        omega
    · obtain ⟨z, hz, rfl⟩ := List.mem_map.mp hu
      obtain ⟨w, hw', rfl⟩ := List.mem_map.mp hv
      have := b7.2.2.1 z hz
      have := d7.2.2.1 w hw'
      omega
    · obtain ⟨z, hz, rfl⟩ := List.mem_map.mp hu
      have := a9.2.2.1 z hz
      rcases List.mem_cons.mp hv with hv | hv
      · have hv' : v = h3.2.1 + 3 := hv
        omega
      · rcases List.mem_append.mp hv with hv | hv
        · obtain ⟨w, hw', rfl⟩ := List.mem_map.mp hv
          have := b7.2.2.1 w hw'
          omega
        · obtain ⟨w, hw', rfl⟩ := List.mem_map.mp hv
          have := d7.2.2.1 w hw'
          omega
  · show _ ≤ h.2.1 + 12 * (c3.2.2.1 - p)
    rw [w1]
    omega
  · show _ ≤ h.2.2 + 300 * (c3.2.2.1 - p)
    rw [w1]
    omega
end M58
