/-! ===== the class: pairs, functions, lets, ifs ===== -/
def mk2 (h : PH) (xs rs : List Nat) : PH := (fun q => if q = h.2.1 then some (103, refs xs) else if q = h.2.1 + 1 then some (104, refs rs) else h.1 q, h.2.1 + 2, h.2.2 + xs.length + rs.length)
theorem mk2_old {h : PH} {xs rs : List Nat} {q : Nat} {c : PC} (hw : Wf h) (hq : h.1 q = some c) : (mk2 h xs rs).1 q = some c := by
  have := hw q c hq
  show (if q = h.2.1 then _ else if q = h.2.1 + 1 then _ else h.1 q) = _
  rw [if_neg (by omega), if_neg (by omega)]; exact hq
theorem mk2_wf {h : PH} {xs rs : List Nat} (hw : Wf h) : Wf (mk2 h xs rs) := fun q c hq => by
  show q < h.2.1 + 2
  by_cases e0 : q = h.2.1
  · omega
  · by_cases e1 : q = h.2.1 + 1
    · omega
    · have hq' : h.1 q = some c := by
        have : (mk2 h xs rs).1 q = h.1 q := by
          show (if q = h.2.1 then _ else if q = h.2.1 + 1 then _ else h.1 q) = _
          rw [if_neg e0, if_neg e1]
        rw [← this]; exact hq
      have := hw q c hq'
      omega
theorem mk2_eq {h : PH} {xs rs : List Nat} {c1 c2 : PC} (l1 : c1.2.length = xs.length) (l2 : c2.2.length = rs.length) : pset (pnew (pset (pnew h c1) h.2.1 (103, refs xs)) c2) (h.2.1 + 1) (104, refs rs) = mk2 h xs rs := by
  refine Prod.ext (funext fun q => ?_) (Prod.ext rfl ?_)
  · show (if q = h.2.1 + 1 then _ else if q = h.2.1 + 1 then _ else if q = h.2.1 then _ else if q = h.2.1 then _ else h.1 q) = (if q = h.2.1 then _ else if q = h.2.1 + 1 then _ else h.1 q)
    by_cases e0 : q = h.2.1
    · have e1 : ¬ q = h.2.1 + 1 := by omega
      simp only [if_pos e0, if_neg e1]
    · by_cases e1 : q = h.2.1 + 1
      · simp only [if_neg e0, if_pos e1]
      · simp only [if_neg e0, if_neg e1]
  · show h.2.2 + c1.2.length + c2.2.length = h.2.2 + xs.length + rs.length
    omega
theorem pnew_self {h : PH} {c : PC} : pset (pnew h c) h.2.1 c = pnew h c := by
  refine Prod.ext (funext fun q => ?_) rfl
  show (if q = h.2.1 then _ else if q = h.2.1 then _ else h.1 q) = (if q = h.2.1 then _ else h.1 q)
  split <;> rfl
section M56
variable {E : PE} {d : Nat} {h : PH} {O : Nat → Nat × Nat} {G : PG} {kz at0 k dr : Nat} {cs : Nat → Int32} {len : Int32} {M : Mn} {fr : Bool}
/-- arrays are made, then the binding -/
theorem c_bind2 {a : Nat} {bs xs rs : List Nat} {r : Int32 × Int32} {it : It} {kd dt : Int32} (hG : GH E h O G) (x : KvH h O kz cs len at0 M fr k dr) (ha : G.1 a = some (bs, r)) (hb : bs.length ≤ 60) (hnm : it.2.1 = nI k) (hkd : ikd it = kd) (hdt : it.1 = 2 ∨ it.1 = 5 → dt = it.2.2.1) (hxl : xs.length = iat it) (hxs : ∀ j y, xs[j]? = some y → AtH h y (iatm it j)) (hrl : rs.length = irw it) :
    ∃ (h' : PH) (O' : Nat → Nat × Nat), Rn E (d + 7) 96 [.ref kz, .ref a, .int kd, .int dt, .ref h.2.1, .ref (h.2.1 + 1)] (mk2 h xs rs) (some (.ref (h.2.1 + 2))) h' ∧ GH E h' O' (gR (gB G (h.2.1 + 3) (it, rs)) a (bs ++ [h.2.1 + 3], r)) ∧ KvH h' O' kz cs len at0 M fr (k + 1) dr ∧ AtH h' (h.2.1 + 2) (1, nI k) ∧ ChP kz (kz + 2) (kz + 2) O h O' h' ∧ h.2.1 + 4 ≤ h'.2.1 ∧ h'.2.1 ≤ h.2.1 + 5 ∧ h'.2.2 ≤ h.2.2 + 141 := by
  have hw := hG.1
  have hO : ∀ q, q < h.2.1 → (fun q => if q = h.2.1 then (h.2.1 + 3, 2) else if q = h.2.1 + 1 then (h.2.1 + 3, 3) else O q) q = O q := fun q hq => by
    show (if q = h.2.1 then _ else if q = h.2.1 + 1 then _ else O q) = _
    rw [if_neg (by omega), if_neg (by omega)]
  have c1 : Ch O h (fun q => if q = h.2.1 then (h.2.1 + 3, 2) else if q = h.2.1 + 1 then (h.2.1 + 3, 3) else O q) (mk2 h xs rs) := ⟨hO, by show h.2.1 ≤ h.2.1 + 2; omega, by show h.2.2 ≤ h.2.2 + xs.length + rs.length; omega, fun q t fs hq _ _ _ _ => mk2_old hw hq⟩
  have G1 := hG.mono (mk2_wf (xs := xs) (rs := rs) hw) hO (fun q t fs hq _ => mk2_old hw hq)
  have x1 := x.ch hw c1
  have e0 : (mk2 h xs rs).1 h.2.1 = some (103, refs xs) := if_pos rfl
  have e1 : (mk2 h xs rs).1 (h.2.1 + 1) = some (104, refs rs) := by
    show (if h.2.1 + 1 = h.2.1 then _ else if h.2.1 + 1 = h.2.1 + 1 then _ else _) = _
    rw [if_neg (by omega), if_pos rfl]
  have i2 : iat it ≤ 2 := by unfold iat; split <;> decide
  have r2 := irw_le it
  obtain ⟨h', O', k1, k2, k3, k4, k5, k6, k7, k8⟩ := c_bindC (E := E) (d := d) (xs := xs) (rs := rs) (it := it) (kd := kd) (dt := dt) G1 x1 ha (by omega) e0 e1 (if_pos rfl) (by show (if h.2.1 + 1 = h.2.1 then _ else if h.2.1 + 1 = h.2.1 + 1 then _ else _) = _; rw [if_neg (by omega), if_pos rfl]; rfl) hnm hkd hdt hxl (fun j y hj => ⟨mk2_old hw (hxs j y hj).1, (hxs j y hj).2⟩)
  have s1 : (mk2 h xs rs).2.1 = h.2.1 + 2 := rfl
  have s2 : (mk2 h xs rs).2.2 = h.2.2 + xs.length + rs.length := rfl
  rw [s1] at k1 k2 k4
  exact ⟨h', O', k1, k2, k3, k4, c1.p.tr hw k5, by omega, by omega, by omega⟩
/-- a meaning is set -/
theorem KvH.mean (hG : GH E h O G) (x : KvH h O kz cs len at0 M fr k dr) {v : Nat} : ∃ ms : Nat → Value, h.1 (kz + 2) = some (103, mar ms) ∧ mnH h M ms ∧ ∀ (w : Value) (o : Option (Int32 × Int32)), ((o = none ∧ w = .null) ∨ ∃ a xa, o = some a ∧ w = .ref xa ∧ AtH h xa a) → KvH (pset h (kz + 2) (103, mar (vup ms v w))) O kz cs len at0 (fun u => if u = v then o else M u) fr k dr ∧ GH E (pset h (kz + 2) (103, mar (vup ms v w))) O G ∧ ChP kz (kz + 2) (kz + 2) O h O (pset h (kz + 2) (103, mar (vup ms v w))) := by
  obtain ⟨x1, x2, x3, ms, x4, x5⟩ := x
  refine ⟨ms, x4, x5, fun w o hw => ?_⟩
  have ne : ∀ q t fs, h.1 q = some (t, fs) → t ≠ 103 → (pset h (kz + 2) (103, mar (vup ms v w))).1 q = some (t, fs) := fun q t fs hq ht => by
    rw [pset_ne]; exact hq
    intro z
    rw [z, x4] at hq; cases hq; exact ht rfl
  refine ⟨⟨ne _ _ _ x1 (by decide), ne _ _ _ x2 (by decide), x3, vup ms v w, pset_at, fun u hu => ?_⟩, hG.setn x4 (by unfold gcl; omega), ChP.set (Or.inr (Or.inl rfl))⟩
  by_cases e : u = v
  · have e1 : vup ms v w u = w := if_pos e
    show ((if u = v then o else M u) = none ∧ _) ∨ ∃ a xa, (if u = v then o else M u) = some a ∧ _
    rw [if_pos e, e1]
    rcases hw with hw | ⟨a, xa, z1, z2, z3⟩
    · exact Or.inl hw
    · exact Or.inr ⟨a, xa, z1, z2, ne _ _ _ z3.1 (by decide), z3.2⟩
  · have e1 : vup ms v w u = ms u := if_neg e
    show ((if u = v then o else M u) = none ∧ _) ∨ ∃ a xa, (if u = v then o else M u) = some a ∧ _
    rw [if_neg e, e1]
    rcases x5 u hu with hw | ⟨a, xa, z1, z2, z3⟩
    · exact Or.inl hw
    · exact Or.inr ⟨a, xa, z1, z2, ne _ _ _ z3.1 (by decide), z3.2⟩
theorem mup_back {M : Mn} {v : Nat} {o : Option (Int32 × Int32)} : (fun u => if u = v then M v else (if u = v then o else M u)) = M := by
  funext u
  by_cases e : u = v
  · rw [if_pos e, e]
  · rw [if_neg e, if_neg e]
/-- both terms of a pair, then the binding -/
theorem pair_core {n f q p1 p' R D a p : Nat} {bs : List Nat} {r : Int32 × Int32} {it : It} {kd dt : Int32} (IH : AtP E kz cs n f) (s1 : sy cs n f q = some p1) (s2 : sy cs n f p1 = some p') (hG : GH E h O G) (x : KvH h O kz cs len q M fr k dr) (ha : G.1 a = some (bs, r)) (hb : bs.length ≤ p) (hpq : p < q) (hD : 2 * D + (p' - p) ≤ 60) (hR : R ≤ D) (hRd : R ≤ dr) (hdr : dr ≤ 60) (hn : n ≤ 60)
    {cr c2 : Cv} (hcr : cv cs f M q k = cr) (hcs : cv cs f M p1 cr.2.2.2.1 = c2) (hit : it = (if kd = 5 then 5 else 3, nI c2.2.2.2.1, dt, cr.2.1, c2.2.1)) (hkd : kd = 3 ∨ kd = 5) :
    AtE E kz cs len M (fun xa h' => Rk E (d + 3 * f + 12) (97, 15, [some (.ref kz), some (.ref a), some (.int kd), some (.int (nI R)), some (.int (nI (D + 1))), some (.int dt), none, none], []) h (some (.ref xa)) h') h O G a bs r fr R dr p
      (cr.1 ++ (c2.1 ++ [it]), (1, nI c2.2.2.2.1), c2.2.2.1, c2.2.2.2.1 + 1, max cr.2.2.2.2.1 c2.2.2.2.2.1, cr.2.2.2.2.2 || c2.2.2.2.2.2) := by
  have hw := hG.1
  obtain ⟨u1, u2, u3, -, -, -, u7⟩ := cv_nums f M q k p1 s1
  obtain ⟨v1, v2, v3, -, -, -, v7⟩ := cv_nums f M p1 cr.2.2.2.1 p' s2
  rw [hcr] at u1 u7
  rw [hcs] at v1 v7
  have hal : a < h.2.1 := by
    obtain ⟨l, e, cap, x9, q1, -⟩ := hG.2.2.1 a bs r ha
    exact hw _ _ q1
  obtain ⟨h1, O1, G1, xa1, Q1, bs1, a1, a2, a3, a4, a5, a6, a7, a8, a9, a10, a11, a12⟩ := IH (d + 1) h O G len a bs r q p1 k M fr R dr (D + 1) ⟨s1, hG, x, ha, by omega, by omega, by omega, hRd, hdr, hn⟩
  rw [hcr] at a3 a4 a6 a8 a11 a12
  rw [u1] at a3 a8 a11 a12
  obtain ⟨h2, O2, G2, xa2, Q2, bs2, b1, b2, b3, b4, b5, b6, b7, b8, b9, b10, b11, b12⟩ := IH (d + 1) h1 O1 G1 len a (bs ++ bs1) r p1 p' cr.2.2.2.1 M (fr || cr.2.2.2.2.2) R (max dr (R + cr.2.2.2.2.1)) (D + 1) ⟨s2, a2, a3, a5, by rw [List.length_append]; omega, by omega, by omega, by omega, by omega, hn⟩
  rw [hcs] at b3 b4 b6 b8 b11 b12
  rw [v1] at b3 b8 b11 b12
  have A1 := a3.at b10 a4
  have hk : it.1 = (if kd = 5 then 5 else 3) := by rw [hit]
  have hi2 : iat it = 2 := by
    unfold iat; rw [hk]
    rcases hkd with rfl | rfl <;> rfl
  have hir : irw it = 0 := by
    unfold irw; rw [hk]
    rcases hkd with rfl | rfl <;> rfl
  have hik : ikd it = kd := by
    unfold ikd; rw [hk]
    rcases hkd with rfl | rfl <;> rfl
  have hi9 : it.1 ≠ 9 := by
    rw [hk]
    rcases hkd with rfl | rfl <;> decide
  obtain ⟨h3, O3, c1, c3, c4, c5, c6, c7, c8, c9⟩ := c_bind2 (E := E) (d := d + 3 * f + 4) (xs := [xa1, xa2]) (rs := []) (it := it) (kd := kd) (dt := dt) b2 b3 b5 (by rw [List.length_append, List.length_append]; omega) (by rw [hit]) hik (fun _ => by rw [hit]) hi2.symm (fun j y hj => by
    match j, hj with
    | 0, hj => cases hj; rw [hit]; exact A1
    | 1, hj => cases hj; rw [hit]; exact b4
    | n + 2, hj => cases hj) hir.symm
  have s12 := a10.2.1
  have s23 := b10.2.1
  have hN : NewG h2 G2 h3 (gR (gB G2 (h2.2.1 + 3) (it, [])) a (bs ++ bs1 ++ bs2 ++ [h2.2.1 + 3], r)) a [(it, h2.2.1 + 3)] := by
    refine ⟨fun z hz hne => gR_ne hne, fun z hz => if_neg (by omega), fun z hz => ?_, by simp⟩
    rw [List.mem_singleton.mp hz]
    show h2.2.1 ≤ h2.2.1 + 3 ∧ h2.2.1 + 3 < h3.2.1
    omega
  have hN2 := b9.tr hN s23 (by omega)
  have hN3 := a9.tr hN2 s12 (by omega)
  have emax : max (max dr (R + cr.2.2.2.2.1)) (R + c2.2.2.2.2.1) = max dr (R + max cr.2.2.2.2.1 c2.2.2.2.2.1) := by omega
  rw [emax, Bool.or_assoc] at c4
  refine ⟨h3, O3, _, h2.2.1 + 2, Q1 ++ (Q2 ++ [(it, h2.2.1 + 3)]), bs1 ++ (bs2 ++ [h2.2.1 + 3]), ?_, c3, ?_, c5, ?_, ?_, fun b p0 s0 => ?_, ?_, hN3, (a10.tr hw b10).tr hw c6, ?_, ?_⟩
  · have zx := x.1
    have zy := a3.1
    have zz := b3.1
    have w2 := b2.1
    have y1 : (pnew h2 (103, List.replicate 2 Value.null)).1 xa1 = some (1, [.int cr.2.1.1, .int cr.2.1.2]) := pnew_old w2 A1.1
    have y2 : (pset (pnew h2 (103, List.replicate 2 Value.null)) h2.2.1 (103, [.ref xa1, .null])).1 xa2 = some (1, [.int c2.2.1.1, .int c2.2.1.2]) := by
      have hne : xa2 ≠ h2.2.1 := fun z => by have := w2 _ _ b4.1; omega
      exact ((pset_ne hne).trans (pnew_ne hne)).trans b4.1
    have ez : (mk2 h2 [xa1, xa2] []).1 kz = some (3, kcl kz len p' (fr || cr.2.2.2.2.2 || c2.2.2.2.2.2) c2.2.2.2.1 (max (max dr (R + cr.2.2.2.2.1)) (R + c2.2.2.2.2.1))) := mk2_old w2 zz
    have em : pnew (pset (pset (pnew h2 (103, List.replicate 2 Value.null)) h2.2.1 (103, [.ref xa1, .null])) h2.2.1 (103, [.ref xa1, .ref xa2])) (104, List.replicate 0 Value.null) = mk2 h2 [xa1, xa2] [] := by
      rw [pset2, ← mk2_eq (h := h2) (xs := [xa1, xa2]) (rs := []) (c1 := (103, List.replicate 2 Value.null)) (c2 := (104, List.replicate 0 Value.null)) rfl rfl]
      exact pnew_self.symm
    rw [← em] at c1 ez
    rw [show d + 1 + 3 * f + 10 = d + 3 * f + 11 by omega] at a1 b1
    refine Rk.tr (F1 := (97, 16, _, _)) (x_aload_n rfl rfl rfl) ?_
    refine Rk.tr (F1 := (97, 17, _, _)) (x_aload_n rfl rfl rfl) ?_
    refine Rk.tr (F1 := (97, 18, _, _)) (x_iload_n rfl rfl) ?_
    refine Rk.tr (F1 := (97, 20, _, _)) (x_iload rfl rfl) ?_
    refine Rk.tr (F1 := (97, 23, _, _)) (x_callv (As := [_, _, _]) rfl rfl rfl (Or.inr rfl) rfl rfl zx (by decide) rfl (Nat.le_of_ble_eq_true rfl) a1 rfl) ?_
    refine Rk.tr (F1 := (97, 25, [_, _, _, _, _, _, _, _], _)) (x_astore (i := 6) rfl (Nat.le_of_ble_eq_true rfl)) ?_
    refine Rk.tr (F1 := (97, 26, _, _)) (x_aload_n rfl rfl rfl) ?_
    refine Rk.tr (F1 := (97, 27, _, _)) (x_aload_n rfl rfl rfl) ?_
    refine Rk.tr (F1 := (97, 28, _, _)) (x_iload_n rfl rfl) ?_
    refine Rk.tr (F1 := (97, 30, _, _)) (x_iload rfl rfl) ?_
    refine Rk.tr (F1 := (97, 33, _, _)) (x_callv (As := [_, _, _]) rfl rfl rfl (Or.inr rfl) rfl rfl zy (by decide) rfl (Nat.le_of_ble_eq_true rfl) b1 rfl) ?_
    refine Rk.tr (F1 := (97, 35, [_, _, _, _, _, _, _, _], _)) (x_astore (i := 7) rfl (Nat.le_of_ble_eq_true rfl)) ?_
    refine Rk.tr (F1 := (97, 36, _, _)) (x_aload_n rfl rfl rfl) ?_
    refine Rk.tr (F1 := (97, 37, _, _)) (x_aload_n rfl rfl rfl) ?_
    refine Rk.tr (F1 := (97, 38, _, _)) (x_iload_n rfl rfl) ?_
    refine Rk.tr (F1 := (97, 40, _, _)) (x_iload rfl rfl) ?_
    refine Rk.tr (F1 := (97, 41, _, _)) (x_iconst rfl) ?_
    refine Rk.tr (F1 := (97, 44, _, _)) (x_anew (n := 2) rfl rfl (by decide) rfl (by decide)) ?_
    refine Rk.tr (F1 := (97, 45, _, _)) (x_dup rfl rfl) ?_
    refine Rk.tr (F1 := (97, 46, _, _)) (x_iconst rfl) ?_
    refine Rk.tr (F1 := (97, 48, _, _)) (x_aload rfl rfl rfl) ?_
    refine Rk.tr (F1 := (97, 49, _, _)) (x_aast (n := 0) rfl pnew_at y1 rfl rfl (by decide) (Nat.le_of_ble_eq_true rfl)) ?_
    refine Rk.tr (F1 := (97, 50, _, _)) (x_dup rfl rfl) ?_
    refine Rk.tr (F1 := (97, 51, _, _)) (x_iconst rfl) ?_
    refine Rk.tr (F1 := (97, 53, _, _)) (x_aload rfl rfl rfl) ?_
    refine Rk.tr (F1 := (97, 54, _, _)) (x_aast (n := 1) rfl pset_at y2 rfl rfl (by decide) (Nat.le_of_ble_eq_true rfl)) ?_
    refine Rk.tr (F1 := (97, 55, _, _)) (x_iconst rfl) ?_
    refine Rk.tr (F1 := (97, 58, _, _)) (x_anew (n := 0) rfl rfl (by decide) rfl (by decide)) ?_
    refine Rk.tr (F1 := (97, 61, _, _)) (x_callv (As := [_, _, _, _, _]) rfl rfl rfl (Or.inr rfl) rfl rfl ez (by decide) rfl (Nat.le_of_ble_eq_true rfl) c1 rfl) ?_
    exact Rk.end rfl (Or.inr (Or.inr (Or.inr ⟨rfl, _, _, rfl, Or.inl ⟨_, rfl⟩, Or.inr ⟨_, rfl⟩, rfl, rfl⟩)))
  · show KvH h3 O3 kz cs len c2.2.2.1 M _ _ _
    rw [v1]; exact c4
  · rw [gR_at]
    simp
  · rw [AP_app, AP_app, a6, b6]
    rfl
  · refine WA_app.mpr ⟨_, a9.walk hN2 hal (a7 b p0 s0), WA_app.mpr ⟨_, b9.walk hN (by omega) (b7 b (p0 ++ bs1) s0), ?_⟩⟩
    refine Or.inr ⟨hi9, [], if_pos rfl, hir.symm, ?_⟩
    show (b, p0 ++ bs1 ++ bs2 ++ [h2.2.1 + 3]) :: s0 = (b, p0 ++ (bs1 ++ (bs2 ++ [h2.2.1 + 3]))) :: s0
    simp
  · show _ ≤ c2.2.2.1 - p
    rw [v1]
    simp only [List.length_append, List.length_singleton]
    omega
  · show _ ≤ h.2.1 + 12 * (c2.2.2.1 - p)
    rw [v1]
    omega
  · show _ ≤ h.2.2 + 300 * (c2.2.2.1 - p)
    rw [v1]
    omega
end M56
