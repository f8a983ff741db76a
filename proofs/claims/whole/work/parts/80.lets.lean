/-! ===== the class: lets, functions, ifs ===== -/
theorem x_aasta {E : PE} {d mi pc : Nat} {L : PL} {st : List Value} {h : PH} {i : Int32} {a n v : Nat} {ms : Nat → Value} {gs : List Value} (hi : pin mi pc = some (.aastore, 1)) (ha : h.1 a = some (103, mar ms)) (hv : h.1 v = some (1, gs)) (he : i = nI n) (hb : n < 2 ^ 31) (hn : n < 10) : Ex E d (mi, pc, L, .ref v :: .int i :: .ref a :: st) h (mi, pc + 1, L, st) (pset h a (103, mar (vup ms n (.ref v)))) := by
  rw [← mar_set]
  exact x_aast hi ha hv rfl he hb (by rw [mar_len]; exact hn)
theorem x_aastan {E : PE} {d mi pc : Nat} {L : PL} {st : List Value} {h : PH} {i : Int32} {a n : Nat} {ms : Nat → Value} (hi : pin mi pc = some (.aastore, 1)) (ha : h.1 a = some (103, mar ms)) (he : i = nI n) (hb : n < 2 ^ 31) (hn : n < 10) : Ex E d (mi, pc, L, .null :: .int i :: .ref a :: st) h (mi, pc + 1, L, st) (pset h a (103, mar (vup ms n .null))) := by
  rw [← mar_set]
  exact x_aastN hi ha rfl (by decide) he hb (by rw [mar_len]; exact hn)
section M57
variable {E : PE} {d : Nat} {h : PH} {O : Nat → Nat × Nat} {G : PG} {kz at0 k dr : Nat} {cs : Nat → Int32} {len : Int32} {M : Mn} {fr : Bool}
theorem let_core {n f p1 p' R D a p j : Nat} {bs : List Nat} {r : Int32 × Int32} (IH : AtP E kz cs n f) (hv : cs (p + 1) = nI j) (hj : j < 10) (hp60 : p + 1 < 60) (s1 : sy cs n f (p + 2) = some p1) (s2 : sy cs n f p1 = some p') (hG : GH E h O G) (x : KvH h O kz cs len (p + 1) M fr k dr) (ha : G.1 a = some (bs, r)) (hb : bs.length ≤ p) (hD : 2 * D + (p' - p) ≤ 60) (hR : R ≤ D) (hRd : R ≤ dr) (hdr : dr ≤ 60) (hn : n ≤ 60)
    {cr c2 : Cv} (hcr : cv cs f M (p + 2) k = cr) (hcs : cv cs f (mup M j cr.2.1) p1 cr.2.2.2.1 = c2) :
    AtE E kz cs len M (fun xa h' => Rn E (d + 3 * f + 12) 98 [.ref kz, .ref a, .int (nI R), .int (nI (D + 1))] h (some (.ref xa)) h') h O G a bs r fr R dr p
      (cr.1 ++ c2.1, c2.2.1, c2.2.2.1, c2.2.2.2.1, max cr.2.2.2.2.1 c2.2.2.2.2.1, cr.2.2.2.2.2 || c2.2.2.2.2.2) := by
  have hw := hG.1
  obtain ⟨u1, u2, u3, -, -, -, u7⟩ := cv_nums f M (p + 2) k p1 s1
  obtain ⟨v1, v2, v3, -, -, -, v7⟩ := cv_nums f (mup M j cr.2.1) p1 cr.2.2.2.1 p' s2
  rw [hcr] at u1 u7
  rw [hcs] at v1 v7
  have hal : a < h.2.1 := by
    obtain ⟨l, e, cap, x9, q1, -⟩ := hG.2.2.1 a bs r ha
    exact hw _ _ q1
  have nx := c_nexti (E := E) (d := d + 3 * f + 11) hG x hp60
  rw [hv] at nx
  obtain ⟨x0, G0, c0⟩ := KvH.put (len' := len) (at' := p + 2) (fr' := fr) (k' := k) (dr' := dr) hG x
  have z0 : (pset h kz (3, kcl kz len (p + 2) fr k dr)).2 = h.2 := rfl
  generalize hh0 : pset h kz (3, kcl kz len (p + 2) fr k dr) = h0 at x0 G0 c0 z0 nx
  obtain ⟨h1, O1, G1, xa1, Q1, bs1, a1, a2, a3, a4, a5, a6, a7, a8, a9, a10, a11, a12⟩ := IH (d + 1) h0 O G len a bs r (p + 2) p1 k M fr R dr (D + 1) ⟨s1, G0, x0, ha, by omega, by omega, by omega, hRd, hdr, hn⟩
  rw [hcr] at a3 a4 a6 a8 a11 a12
  rw [u1] at a3 a8 a11 a12
  -- the meaning
  obtain ⟨ms, m1, m2, m3⟩ := KvH.mean (v := j) a2 a3
  obtain ⟨x2, G2, c2'⟩ := m3 (.ref xa1) (some cr.2.1) (Or.inr ⟨_, _, rfl, rfl, a4⟩)
  have z2 : (pset h1 (kz + 2) (103, mar (vup ms j (.ref xa1)))).2 = h1.2 := rfl
  have km2 : (pset h1 (kz + 2) (103, mar (vup ms j (.ref xa1)))).1 (kz + 2) = some (103, mar (vup ms j (.ref xa1))) := pset_at
  generalize hh2 : pset h1 (kz + 2) (103, mar (vup ms j (.ref xa1))) = h2 at x2 G2 c2' z2 km2
  obtain ⟨h3, O3, G3, xa2, Q2, bs2, b1, b2, b3, b4, b5, b6, b7, b8, b9, b10, b11, b12⟩ := IH (d + 1) h2 O1 G1 len a (bs ++ bs1) r p1 p' cr.2.2.2.1 (mup M j cr.2.1) (fr || cr.2.2.2.2.2) R (max dr (R + cr.2.2.2.2.1)) (D + 1) ⟨s2, G2, x2, a5, by rw [List.length_append]; omega, by omega, by omega, by omega, by omega, hn⟩
  rw [hcs] at b3 b4 b6 b8 b11 b12
  rw [v1] at b3 b8 b11 b12
  -- back
  obtain ⟨ms3, m31, m32, m33⟩ := KvH.mean (v := j) b2 b3
  have c23 := c2'.tr a2.1 b10
  obtain ⟨x4, G4, c4⟩ := m33 (ms j) (M j) (by
    rcases m2 j hj with z | ⟨b, y, q1, q2, q3⟩
    · exact Or.inl z
    · exact Or.inr ⟨b, y, q1, q2, a3.at c23 q3⟩)
  have eM : (fun u => if u = j then M j else mup M j cr.2.1 u) = M := mup_back (o := some cr.2.1)
  rw [eM] at x4
  have A2 := b3.at c4 b4
  have s12 : h.2.1 ≤ h1.2.1 := by have := a10.2.1; rw [z0] at this; exact this
  have e12 : h2.2.1 = h1.2.1 := by rw [z2]
  have e12' : h2.2.2 = h1.2.2 := by rw [z2]
  have s23 := b10.2.1
  have e0 : h0.2.1 = h.2.1 := by rw [z0]
  have e0' : h0.2.2 = h.2.2 := by rw [z0]
  have hN1 : NewG h G h1 G1 a Q1 := a9.later (by omega)
  have hN2 : NewG h1 G1 h3 G3 a Q2 := b9.later (by omega)
  have emax : max (max dr (R + cr.2.2.2.2.1)) (R + c2.2.2.2.2.1) = max dr (R + max cr.2.2.2.2.1 c2.2.2.2.2.1) := by omega
  rw [emax, Bool.or_assoc] at x4
  refine ⟨_, O3, G3, xa2, Q1 ++ Q2, bs1 ++ bs2, ?_, G4, ?_, A2, ?_, ?_, fun b p0 s0 => ?_, ?_, hN1.tr hN2 s12 (show h1.2.1 ≤ h3.2.1 by omega), (((c0.tr hw a10).tr hw c2').tr hw b10).tr hw c4, ?_, ?_⟩
  · have zx := x.1
    have za0 := x0.1
    have za1 := a3.1
    have za2 := x2.1
    have zb3 := b3.1
    rw [show d + 1 + 3 * f + 10 = d + 3 * f + 11 by omega] at a1 b1
    subst hh2
    rcases m2 j hj with ⟨q1, q2⟩ | ⟨b, yo, q1, q2, q3⟩
    · have hmj : (mar ms)[j]? = some .null := (mar_at hj).trans (by rw [q2])
      rw [q2]
      refine Rn.of (Nat.le_of_ble_eq_true rfl) ?_
      refine Rk.tr (F1 := (98, 1, _, _)) (x_aload_n rfl rfl rfl) ?_
      refine Rk.tr (F1 := (98, 4, _, _)) (x_callv (As := []) rfl rfl rfl (Or.inr rfl) rfl rfl zx (by decide) rfl (Nat.le_of_ble_eq_true rfl) nx rfl) ?_
      refine Rk.tr (F1 := (98, 6, [_, _, _, _, _, _, _, _], _)) (x_istore (i := 4) rfl (Nat.le_of_ble_eq_true rfl)) ?_
      refine Rk.tr (F1 := (98, 7, _, _)) (x_aload_n rfl rfl rfl) ?_
      refine Rk.tr (F1 := (98, 8, _, _)) (x_aload_n rfl rfl rfl) ?_
      refine Rk.tr (F1 := (98, 9, _, _)) (x_iload_n rfl rfl) ?_
      refine Rk.tr (F1 := (98, 10, _, _)) (x_iload_n rfl rfl) ?_
      refine Rk.tr (F1 := (98, 13, _, _)) (x_callv (As := [_, _, _]) rfl rfl rfl (Or.inr rfl) rfl rfl za0 (by decide) rfl (Nat.le_of_ble_eq_true rfl) a1 rfl) ?_
      refine Rk.tr (F1 := (98, 15, [_, _, _, _, _, _, _, _], _)) (x_astore (i := 5) rfl (Nat.le_of_ble_eq_true rfl)) ?_
      refine Rk.tr (F1 := (98, 16, _, _)) (x_aload_n rfl rfl rfl) ?_
      refine Rk.tr (F1 := (98, 19, _, _)) (x_getf rfl rfl za1 rfl) ?_
      refine Rk.tr (F1 := (98, 21, _, _)) (x_iload rfl rfl) ?_
      refine Rk.tr (F1 := (98, 22, _, _)) (x_aald (n := j) rfl m1 rfl rfl rfl (by omega) hmj) ?_
      refine Rk.tr (F1 := (98, 24, [_, _, _, _, _, _, _, _], _)) (x_astoreN (i := 6) rfl (Nat.le_of_ble_eq_true rfl)) ?_
      refine Rk.tr (F1 := (98, 25, _, _)) (x_aload_n rfl rfl rfl) ?_
      refine Rk.tr (F1 := (98, 28, _, _)) (x_getf rfl rfl za1 rfl) ?_
      refine Rk.tr (F1 := (98, 30, _, _)) (x_iload rfl rfl) ?_
      refine Rk.tr (F1 := (98, 32, _, _)) (x_aload rfl rfl rfl) ?_
      refine Rk.tr (F1 := (98, 33, _, _)) (x_aasta rfl m1 a4.1 rfl (by omega) hj) ?_
      refine Rk.tr (F1 := (98, 34, _, _)) (x_aload_n rfl rfl rfl) ?_
      refine Rk.tr (F1 := (98, 35, _, _)) (x_aload_n rfl rfl rfl) ?_
      refine Rk.tr (F1 := (98, 36, _, _)) (x_iload_n rfl rfl) ?_
      refine Rk.tr (F1 := (98, 37, _, _)) (x_iload_n rfl rfl) ?_
      refine Rk.tr (F1 := (98, 40, _, _)) (x_callv (As := [_, _, _]) rfl rfl rfl (Or.inr rfl) rfl rfl za2 (by decide) rfl (Nat.le_of_ble_eq_true rfl) b1 rfl) ?_
      refine Rk.tr (F1 := (98, 42, [_, _, _, _, _, _, _, _], _)) (x_astore (i := 7) rfl (Nat.le_of_ble_eq_true rfl)) ?_
      refine Rk.tr (F1 := (98, 43, _, _)) (x_aload_n rfl rfl rfl) ?_
      refine Rk.tr (F1 := (98, 46, _, _)) (x_getf rfl rfl zb3 rfl) ?_
      refine Rk.tr (F1 := (98, 48, _, _)) (x_iload rfl rfl) ?_
      refine Rk.tr (F1 := (98, 50, _, _)) (x_aload rfl rfl rfl) ?_
      refine Rk.tr (F1 := (98, 51, _, _)) (x_aastan rfl m31 rfl (by omega) hj) ?_
      refine Rk.tr (F1 := (98, 53, _, _)) (x_aload rfl rfl rfl) ?_
      exact Rk.end rfl (Or.inr (Or.inr (Or.inr ⟨rfl, _, _, rfl, Or.inl ⟨_, rfl⟩, Or.inr ⟨_, rfl⟩, rfl, rfl⟩)))
    · have hmj : (mar ms)[j]? = some (.ref yo) := (mar_at hj).trans (by rw [q2])
      have hyo := (a3.at c23 q3).1
      rw [q2]
      refine Rn.of (Nat.le_of_ble_eq_true rfl) ?_
      refine Rk.tr (F1 := (98, 1, _, _)) (x_aload_n rfl rfl rfl) ?_
      refine Rk.tr (F1 := (98, 4, _, _)) (x_callv (As := []) rfl rfl rfl (Or.inr rfl) rfl rfl zx (by decide) rfl (Nat.le_of_ble_eq_true rfl) nx rfl) ?_
      refine Rk.tr (F1 := (98, 6, [_, _, _, _, _, _, _, _], _)) (x_istore (i := 4) rfl (Nat.le_of_ble_eq_true rfl)) ?_
      refine Rk.tr (F1 := (98, 7, _, _)) (x_aload_n rfl rfl rfl) ?_
      refine Rk.tr (F1 := (98, 8, _, _)) (x_aload_n rfl rfl rfl) ?_
      refine Rk.tr (F1 := (98, 9, _, _)) (x_iload_n rfl rfl) ?_
      refine Rk.tr (F1 := (98, 10, _, _)) (x_iload_n rfl rfl) ?_
      refine Rk.tr (F1 := (98, 13, _, _)) (x_callv (As := [_, _, _]) rfl rfl rfl (Or.inr rfl) rfl rfl za0 (by decide) rfl (Nat.le_of_ble_eq_true rfl) a1 rfl) ?_
      refine Rk.tr (F1 := (98, 15, [_, _, _, _, _, _, _, _], _)) (x_astore (i := 5) rfl (Nat.le_of_ble_eq_true rfl)) ?_
      refine Rk.tr (F1 := (98, 16, _, _)) (x_aload_n rfl rfl rfl) ?_
      refine Rk.tr (F1 := (98, 19, _, _)) (x_getf rfl rfl za1 rfl) ?_
      refine Rk.tr (F1 := (98, 21, _, _)) (x_iload rfl rfl) ?_
      refine Rk.tr (F1 := (98, 22, _, _)) (x_aald (n := j) rfl m1 rfl rfl rfl (by omega) hmj) ?_
      refine Rk.tr (F1 := (98, 24, [_, _, _, _, _, _, _, _], _)) (x_astore (i := 6) rfl (Nat.le_of_ble_eq_true rfl)) ?_
      refine Rk.tr (F1 := (98, 25, _, _)) (x_aload_n rfl rfl rfl) ?_
      refine Rk.tr (F1 := (98, 28, _, _)) (x_getf rfl rfl za1 rfl) ?_
      refine Rk.tr (F1 := (98, 30, _, _)) (x_iload rfl rfl) ?_
      refine Rk.tr (F1 := (98, 32, _, _)) (x_aload rfl rfl rfl) ?_
      refine Rk.tr (F1 := (98, 33, _, _)) (x_aasta rfl m1 a4.1 rfl (by omega) hj) ?_
      refine Rk.tr (F1 := (98, 34, _, _)) (x_aload_n rfl rfl rfl) ?_
      refine Rk.tr (F1 := (98, 35, _, _)) (x_aload_n rfl rfl rfl) ?_
      refine Rk.tr (F1 := (98, 36, _, _)) (x_iload_n rfl rfl) ?_
      refine Rk.tr (F1 := (98, 37, _, _)) (x_iload_n rfl rfl) ?_
      refine Rk.tr (F1 := (98, 40, _, _)) (x_callv (As := [_, _, _]) rfl rfl rfl (Or.inr rfl) rfl rfl za2 (by decide) rfl (Nat.le_of_ble_eq_true rfl) b1 rfl) ?_
      refine Rk.tr (F1 := (98, 42, [_, _, _, _, _, _, _, _], _)) (x_astore (i := 7) rfl (Nat.le_of_ble_eq_true rfl)) ?_
      refine Rk.tr (F1 := (98, 43, _, _)) (x_aload_n rfl rfl rfl) ?_
      refine Rk.tr (F1 := (98, 46, _, _)) (x_getf rfl rfl zb3 rfl) ?_
      refine Rk.tr (F1 := (98, 48, _, _)) (x_iload rfl rfl) ?_
      refine Rk.tr (F1 := (98, 50, _, _)) (x_aload rfl rfl rfl) ?_
      refine Rk.tr (F1 := (98, 51, _, _)) (x_aasta rfl m31 hyo rfl (by omega) hj) ?_
      refine Rk.tr (F1 := (98, 53, _, _)) (x_aload rfl rfl rfl) ?_
      exact Rk.end rfl (Or.inr (Or.inr (Or.inr ⟨rfl, _, _, rfl, Or.inl ⟨_, rfl⟩, Or.inr ⟨_, rfl⟩, rfl, rfl⟩)))
  · show KvH _ O3 kz cs len c2.2.2.1 M _ _ _
    rw [v1]; exact x4
  · rw [b5, List.append_assoc]
  · rw [AP_app, a6, b6]
  · refine WA_app.mpr ⟨_, hN1.walk hN2 hal (a7 b p0 s0), ?_⟩
    have := b7 b (p0 ++ bs1) s0
    rw [List.append_assoc] at this
    exact this
  · show _ ≤ c2.2.2.1 - p
    rw [v1, List.length_append]
    omega
  · show h3.2.1 ≤ h.2.1 + 12 * (c2.2.2.1 - p)
    rw [v1]
    omega
  · show h3.2.2 ≤ h.2.2 + 300 * (c2.2.2.1 - p)
    rw [v1]
    omega
end M57
