/-! ===== the class: a pass goes over the rows ===== -/
def GoE (E : PE) (pz pa pl y root st : Nat) (nn : Int32) (run : PH → Prop) (h : PH) (O : Nat → Nat × Nat) (A B : List AI) (s : ES) (c : Nat → Int32) (m k dp : Nat) : Prop :=
  ∃ (h' : PH) (O' : Nat → Nat × Nat) (G' : PG) (A' B' : List AI) (s' : ES) (pf' : Nat → Value) (lf' c' : Nat → Int32) (m' k' : Nat), run h' ∧ PSt E pz pa pl y root st nn h' O' G' A' B' s' pf' lf' c' ∧ Inv (AP A' ++ AP B') ∧ PthR pf' lf' s' dp ∧ Shr s s' ∧ ChP pa pl st O h O' h' ∧ pas k (AP A) (AP B) m c = pas k' (AP A') (AP B') m' c' ∧ pfu (AP A') (AP B') ≤ k' ∧ k' ≤ k ∧ m ≤ m' ∧ h'.2.1 ≤ h.2.1 + (m' - m) * 53 ∧ h'.2.2 ≤ h.2.2 + (m' - m) * 5930
section M43
variable {E : PE} {d pz pa pl y root st : Nat} {nn nm : Int32} {h : PH} {O : Nat → Nat × Nat} {G : PG} {pf : Nat → Value} {lf c : Nat → Int32}
theorem GoE.chain {run run1 : PH → Prop} {h1 : PH} {O1 : Nat → Nat × Nat} {A B A1 B1 : List AI} {s s1 : ES} {c1 : Nat → Int32} {m m1 k k1 dp : Nat} (hw : Wf h) (hsh : Shr s s1) (hch : ChP pa pl st O h O1 h1) (hpas : pas k (AP A) (AP B) m c = pas k1 (AP A1) (AP B1) m1 c1) (hk : k1 ≤ k) (hm : m ≤ m1) (z1 : h1.2.1 ≤ h.2.1 + (m1 - m) * 53) (z2 : h1.2.2 ≤ h.2.2 + (m1 - m) * 5930) (hr : ∀ h', run1 h' → run h') (g : GoE E pz pa pl y root st nn run1 h1 O1 A1 B1 s1 c1 m1 k1 dp) : GoE E pz pa pl y root st nn run h O A B s c m k dp := by
  obtain ⟨h', O', G', A', B', s', pf', lf', c', m', k', g1, g2, g3, g4, g5, g6, g7, g8, g9, g10, g11, g12⟩ := g
  refine ⟨h', O', G', A', B', s', pf', lf', c', m', k', hr _ g1, g2, g3, g4, hsh.tr g5, hch.tr hw g6, hpas.trans g7, g8, by omega, by omega, ?_, ?_⟩
  · have : (m' - m) * 53 = (m' - m1) * 53 + (m1 - m) * 53 := by rw [← Nat.add_mul]; congr 1; omega
    omega
  · have : (m' - m) * 5930 = (m' - m1) * 5930 + (m1 - m) * 5930 := by rw [← Nat.add_mul]; congr 1; omega
    omega
theorem Shr_nil : ∀ {rs : List Nat} {S0 s1 : ES}, Shr (rs.map (fun r => (r, [])) ++ S0) s1 → ∃ S1, s1 = rs.map (fun r => (r, [])) ++ S1 ∧ Shr S0 S1
  | [], S0, s1, h => ⟨s1, rfl, h⟩
  | r :: rs, S0, [], h => h.elim
  | r :: rs, S0, (b, q) :: s1, h => by
    obtain ⟨h1, h2, h3⟩ := h
    obtain ⟨S1, e, k⟩ := Shr_nil h3
    refine ⟨S1, ?_, k⟩
    have : q = [] := List.getLast?_eq_none_iff.mp h2.symm
    rw [e, this, ← h1]
    rfl
theorem PthR_nils : ∀ {rs : List Nat} {S : ES} {D : Nat}, PthR pf lf (rs.map (fun r => (r, [])) ++ S) D ↔ PthR pf lf S D
  | [], S, D => Iff.rfl
  | r :: rs, S, D => by
    constructor
    · rintro (⟨-, h⟩ | ⟨z, -⟩)
      · exact PthR_nils.mp h
      · exact absurd rfl z
    · intro h
      exact Or.inl ⟨rfl, PthR_nils.mpr h⟩
/-- the rows of a binding that was no step -/
theorem lp_goR {K dp a x ar : Nat} {rs : List Nat} {tn : Int32}
    (IH : ∀ (k : Nat) (h : PH) (O : Nat → Nat × Nat) (G : PG) (A B : List AI) (r : Nat) (s : ES) (pf : Nat → Value) (lf c : Nat → Int32) (m : Nat), k ≤ K → PSt E pz pa pl y root st nn h O G A B ((r, []) :: s) pf lf c → Inv (AP A ++ AP B) → PthR pf lf s (dp + 1) → pfu (AP A) (AP B) ≤ k → GoE E pz pa pl y root st nn (fun h' => Rn E d 102 [.ref pz, .ref y, .ref r, .int (nI (dp + 1))] h none h') h O A B s c m k (dp + 1)) (h2 : rs.length ≤ 2) :
    ∀ (rs2 rs1 : List Nat) (k : Nat) (h : PH) (O : Nat → Nat × Nat) (G : PG) (A B : List AI) (S : ES) (pf : Nat → Value) (lf c : Nat → Int32) (m : Nat) (y9 : Option Value), rs = rs1 ++ rs2 → k ≤ K → h.1 ar = some (104, refs rs) → (O ar).2 = 3 → PSt E pz pa pl y root st nn h O G A B (rs2.map (fun r => (r, [])) ++ S) pf lf c → Inv (AP A ++ AP B) → PthR pf lf S (dp + 1) → pfu (AP A) (AP B) ≤ k →
      GoE E pz pa pl y root st nn (fun h' => Ex E (d + 1) (102, 91, [some (.ref pz), some (.ref y), some (.ref a), some (.int (nI dp)), some (.int tn), some (.ref x), some (.ref ar), some (.int (nI rs.length)), some (.int (nI rs1.length)), y9], []) h (102, 121, [some (.ref pz), some (.ref y), some (.ref a), some (.int (nI dp)), some (.int tn), none, none, none, none, none], []) h') h O A B S c m k (dp + 1) := by
  intro rs2
  induction rs2 with
  | nil =>
    intro rs1 k h O G A B S pf lf c m y9 e hk har hO hP hI hp hf
    rw [List.append_nil] at e
    refine ⟨h, O, G, A, B, S, pf, lf, c, m, k, ?_, hP, hI, hp, Shr.rf S, Ch.rf.p, rfl, hf, Nat.le_refl _, Nat.le_refl _, by omega, by omega⟩
    refine Ex.tr (F1 := (102, 93, _, _)) (x_iload rfl rfl) ?_
    refine Ex.tr (F1 := (102, 95, _, _)) (x_iload rfl rfl) ?_
    refine Ex.tr (F1 := (102, 121, _, _)) (x_icT rfl (tg := 121) rfl (show nI rs.length ≤ nI rs1.length by rw [e]; exact Int32.le_refl _)) ?_
    exact x_wk ⟨Or.inr rfl, Or.inr rfl, Or.inr rfl, Or.inr rfl, Or.inr rfl, Or.inl rfl, Or.inl rfl, Or.inl rfl, Or.inl rfl, Or.inl rfl, trivial⟩
  | cons r rs2 ih =>
    intro rs1 k h O G A B S pf lf c m y9 e hk har hO hP hI hp hf
    have hrs : rs[rs1.length]? = some r := by rw [e, List.getElem?_append_right (Nat.le_refl _), Nat.sub_self]; rfl
    have hlen : rs.length = rs1.length + (rs2.length + 1) := by rw [e, List.length_append, List.length_cons]
    have x1 := hP.2.1.1
    rw [List.map_cons, List.cons_append] at hP
    obtain ⟨h1, O1, G1, A1, B1, s1, pf1, lf1, c1, m1, k1, g1, g2, g3, g4, g5, g6, g7, g8, g9, g10, g11, g12⟩ := IH k h O G A B r (rs2.map (fun r => (r, [])) ++ S) pf lf c m hk hP hI (PthR_nils.mpr hp) hf
    obtain ⟨S1, eS, hS⟩ := Shr_nil g5
    subst eS
    have hpa : ar ≠ pa := fun z => by rw [z, hP.2.1.2.2.1] at hO; cases hO
    have hpl : ar ≠ pl := fun z => by rw [z, hP.2.1.2.2.2.1] at har; cases har
    have hst : ar ≠ st := fun z => by rw [z, hP.2.1.2.2.2.2.2.1] at har; cases har
    have har1 := g6.2.2.2 _ _ _ har (by decide) (by decide) (by decide) (by omega) hpa hpl hst
    have hO1 : (O1 ar).2 = 3 := by rw [g6.1 _ (hP.1.1 _ _ har)]; exact hO
    have nxt := ih (rs1 ++ [r]) k1 h1 O1 G1 A1 B1 S1 pf1 lf1 c1 m1 (some (.ref r)) (by rw [e, List.append_assoc]; rfl) (by omega) har1 hO1 g2 g3 (PthR_nils.mp g4) g8
    rw [List.length_append, List.length_singleton, ← nI_1 rs1.length] at nxt
    refine GoE.chain hP.1.1 hS g6 g7 g9 g10 g11 g12 (fun h' kk => ?_) nxt
    refine Ex.tr (F1 := (102, 93, _, _)) (x_iload rfl rfl) ?_
    refine Ex.tr (F1 := (102, 95, _, _)) (x_iload rfl rfl) ?_
    refine Ex.tr (F1 := (102, 98, _, _)) (x_icF rfl (tg := 121) rfl (show ¬ nI rs.length ≤ nI rs1.length from nI_ge (by omega) (by omega))) ?_
    refine Ex.tr (F1 := (102, 100, _, _)) (x_aload rfl rfl rfl) ?_
    refine Ex.tr (F1 := (102, 102, _, _)) (x_iload rfl rfl) ?_
    refine Ex.tr (F1 := (102, 103, _, _)) (x_aald rfl har rfl rfl rfl (by omega) (refs_at hrs)) ?_
    refine Ex.tr (F1 := (102, 105, [_, _, _, _, _, _, _, _, _, _], _)) (x_astore (i := 9) rfl (Nat.le_of_ble_eq_true rfl)) ?_
    refine Ex.tr (F1 := (102, 106, _, _)) (x_aload_n rfl rfl rfl) ?_
    refine Ex.tr (F1 := (102, 107, _, _)) (x_aload_n rfl rfl rfl) ?_
    refine Ex.tr (F1 := (102, 109, _, _)) (x_aload rfl rfl rfl) ?_
    refine Ex.tr (F1 := (102, 110, _, _)) (x_iload_n rfl rfl) ?_
    refine Ex.tr (F1 := (102, 111, _, _)) (x_iconst rfl) ?_
    refine Ex.tr (F1 := (102, 112, _, _)) (x_iadd rfl) ?_
    refine Ex.tr (F1 := (102, 112, _, _)) (x_top (nI_1 dp)) ?_
    refine Ex.tr (F1 := (102, 115, _, _)) (x_callv (As := [_, _, _]) rfl rfl rfl (Or.inr rfl) rfl rfl x1 (by decide) rfl (Nat.le_of_ble_eq_true rfl) g1 rfl) ?_
    refine Ex.tr (F1 := (102, 118, [_, _, _, _, _, _, _, _, _, _], _)) (x_iinc (i := 8) rfl rfl) ?_
    refine Ex.tr (F1 := (102, 91, _, _)) (x_goto rfl rfl) ?_
    exact kk
theorem pos_k {A B : List It} {it : It} {k : Nat} (h : pfu A (it :: B) ≤ k) : ∃ k0, k = k0 + 1 := ⟨k - 1, by unfold pfu at h; rw [List.length_cons] at h; omega⟩
/-- the loop of goOver -/
theorem lp_goB {K : Nat} (h20 : K ≤ 20000) (IH : ∀ (k : Nat) (h : PH) (O : Nat → Nat × Nat) (G : PG) (A B : List AI) (r : Nat) (s : ES) (pf : Nat → Value) (lf c : Nat → Int32) (m d dp : Nat), k ≤ K → PSt E pz pa pl y root st nn h O G A B ((r, []) :: s) pf lf c → Inv (AP A ++ AP B) → PthR pf lf s dp → pfu (AP A) (AP B) ≤ k → GoE E pz pa pl y root st nn (fun h' => Rn E (d + (40 - dp) + 76) 102 [.ref pz, .ref y, .ref r, .int (nI dp)] h none h') h O A B s c m k dp) :
    ∀ (k : Nat) (h : PH) (O : Nat → Nat × Nat) (G : PG) (A B : List AI) (a : Nat) (p : List Nat) (s : ES) (pf : Nat → Value) (lf c : Nat → Int32) (m d dp tn : Nat) (y5 y6 y7 y8 y9 : Option Value), k ≤ K + 1 → tn + k ≤ 30000 → PSt E pz pa pl y root st nn h O G A B ((a, p) :: s) pf lf c → Inv (AP A ++ AP B) → pf dp = .ref a → lf dp = nI p.length → PthR pf lf s dp → pfu (AP A) (AP B) ≤ k →
      GoE E pz pa pl y root st nn (fun h' => Rk E (d + (40 - dp) + 76) (102, 24, [some (.ref pz), some (.ref y), some (.ref a), some (.int (nI dp)), some (.int (nI tn)), y5, y6, y7, y8, y9], []) h none h') h O A B s c m k dp := by
  intro k
  induction k using Nat.strongRecOn with
  | _ k ih =>
  intro h O G A B a p s pf lf c m d dp tn y5 y6 y7 y8 y9 hk htn hP hI hpf hlf hp hf
  have hdp := hP.deep hp
  obtain ⟨g1, g2, g3, g4, g5, g6⟩ := id hP
  obtain ⟨x1, x2, x3, x4, x5, x6, x7⟩ := id g2
  have hpa : (par pf)[dp]? = some (.ref a) := (par_at (by omega)).trans (congrArg some hpf)
  have hla : (iar 40 lf)[dp]? = some (.int (nI p.length)) := (iar_at (by omega)).trans (by rw [hlf])
  match B, g4, hP, hI, hf, g5, g6 with
  | [], g4, _, _, _, _, _ => exact absurd g4 (by intro z; cases z)
  | (it, x) :: B, g4, hP, hI, hf, g5, g6 =>
    have hf' : pfu (AP A) (it :: AP B) ≤ k := hf
    obtain ⟨k0, ek⟩ := pos_k hf'
    have hI' : Inv (AP A ++ it :: AP B) := hI
    by_cases h9 : it.1 = 9
    · rcases id g4 with ⟨-, ex, hg, w⟩ | ⟨z, -⟩
      · have hs : stp (AP A) it (AP B) = none := by unfold stp; rw [if_pos h9]
        have hf1 := pfu_no (AP A) (AP B) it
        have eA : AP (A ++ [(it, x)]) = AP A ++ [it] := AP_app _ _
        obtain ⟨l, e, cap, x0, q1, q2, q3, -⟩ := g1.2.2.1 a p _ hg
        obtain ⟨mc, l1⟩ := id q3.1
        have hln := q3.len
        refine ⟨h, O, G, A ++ [(it, x)], B, s, pf, lf, c, m, k0, ?_, ⟨g1, g2, WA_app.mpr ⟨_, g3, Or.inl ⟨h9, ex, hg, rfl⟩⟩, w, by rw [List.append_assoc]; exact g5, by rw [eA, List.append_assoc]; exact g6⟩, by rw [eA, List.append_assoc]; exact hI, hp, Shr.rf s, Ch.rf.p, ?_, by rw [eA]; omega, by omega, Nat.le_refl _, by omega, by omega⟩
        · refine Rk.tr (F1 := (102, 26, _, _)) (x_iload rfl rfl) ?_
          refine Rk.tr (F1 := (102, 28, _, _)) (x_ldc rfl rfl) ?_
          refine Rk.tr (F1 := (102, 31, _, _)) (x_icF rfl (tg := 137) rfl (show ¬ nI 100000 ≤ nI tn from nI_ge (by omega) (by omega))) ?_
          refine Rk.tr (F1 := (102, 32, _, _)) (x_aload_n rfl rfl rfl) ?_
          refine Rk.tr (F1 := (102, 35, _, _)) (x_getf rfl rfl x1 rfl) ?_
          refine Rk.tr (F1 := (102, 36, _, _)) (x_iload_n rfl rfl) ?_
          refine Rk.tr (F1 := (102, 37, _, _)) (x_iald (n := dp) rfl x4 rfl rfl (by omega) hla) ?_
          refine Rk.tr (F1 := (102, 38, _, _)) (x_aload_n rfl rfl rfl) ?_
          refine Rk.tr (F1 := (102, 41, _, _)) (x_getf rfl rfl q1 rfl) ?_
          refine Rk.tr (F1 := (102, 44, _, _)) (x_callv (As := []) rfl rfl rfl (Or.inl rfl) rfl rfl l1 (by decide) rfl (Nat.le_of_ble_eq_true rfl) (c_lsize l1) rfl) ?_
          refine Rk.tr (F1 := (102, 137, _, _)) (x_icT rfl (tg := 137) rfl (Int32.le_refl _)) ?_
          exact Rk.end rfl (Or.inl ⟨rfl, rfl, rfl, rfl⟩)
        · rw [ek, eA]; exact pas_no hs
      · exact absurd h9 z
    · obtain ⟨rs, R, C, rest, r, e1, e2, e3, e4, e5, e6, e7, e8⟩ := hP.at h9
      obtain ⟨l, e, cap, x0, q1, q2, q3, -⟩ := g1.2.2.1 a _ _ e6
      obtain ⟨mc, l1⟩ := id q3.1
      have hln := q3.len
      have hlp : (p ++ x :: rest).length = p.length + (rest.length + 1) := by rw [List.length_append, List.length_cons]
      have ekx : (p ++ x :: rest)[p.length]? = some x := by rw [List.getElem?_append_right (Nat.le_refl _), Nat.sub_self]; rfl
      obtain ⟨at0, ar, xs, dt, b1, b2, b3, b4, b5, b6, b7, b8⟩ := g1.2.2.2 x it rs e1
      have hpt := (PthR_top (x := x)).mpr ⟨hpf, hlf, hp⟩
      have hlx : (Int32.ofInt 100000) = nI 100000 := by decide
      cases hs : stp (AP A) it (AP B) with
      | some wab =>
        obtain ⟨w, A', B'⟩ := wab
        obtain ⟨h1, O1, G1, A1, B1, s1, p1, lf1, k1, k2, k3, k4, k5, k6, k7, k8, k9, k10, k11⟩ := c_stepY (d := d + (40 - dp)) hP h9 hI' hpt (by omega) hs
        have hI1 := stp_inv hI' hs
        have hf1 := pfu_yes hI' hs
        rw [← k3, ← k4] at hf1
        have nxt := ih k0 (by omega) h1 O1 G1 A1 B1 a p1 s1 pf lf1 (rup c w (c w + 1)) (m + 1) d dp (tn + 1) (some (.ref x)) y6 y7 y8 y9 (by omega) (by omega) k2 (by rw [k3, k4]; exact hI1.1) k5 k6 k7 (by omega)
        rw [← nI_1 tn] at nxt
        refine GoE.chain hP.1.1 k8 k9 (by rw [ek, k3, k4]; exact pas_yes hs) (by omega) (by omega) (by omega) (by omega) (fun h' kk => ?_) nxt
        refine Rk.tr (F1 := (102, 26, _, _)) (x_iload rfl rfl) ?_
        refine Rk.tr (F1 := (102, 28, _, _)) (x_ldc rfl rfl) ?_
        refine Rk.tr (F1 := (102, 31, _, _)) (x_icF rfl (tg := 137) rfl (show ¬ nI 100000 ≤ nI tn from nI_ge (by omega) (by omega))) ?_
        refine Rk.tr (F1 := (102, 32, _, _)) (x_aload_n rfl rfl rfl) ?_
        refine Rk.tr (F1 := (102, 35, _, _)) (x_getf rfl rfl x1 rfl) ?_
        refine Rk.tr (F1 := (102, 36, _, _)) (x_iload_n rfl rfl) ?_
        refine Rk.tr (F1 := (102, 37, _, _)) (x_iald (n := dp) rfl x4 rfl rfl (by omega) hla) ?_
        refine Rk.tr (F1 := (102, 38, _, _)) (x_aload_n rfl rfl rfl) ?_
        refine Rk.tr (F1 := (102, 41, _, _)) (x_getf rfl rfl q1 rfl) ?_
        refine Rk.tr (F1 := (102, 44, _, _)) (x_callv (As := []) rfl rfl rfl (Or.inl rfl) rfl rfl l1 (by decide) rfl (Nat.le_of_ble_eq_true rfl) (c_lsize l1) rfl) ?_
        refine Rk.tr (F1 := (102, 47, _, _)) (x_icF rfl (tg := 137) rfl (show ¬ nI (p ++ x :: rest).length ≤ nI p.length by rw [hlp]; exact nI_ge (by omega) (by omega))) ?_
        refine Rk.tr (F1 := (102, 48, _, _)) (x_aload_n rfl rfl rfl) ?_
        refine Rk.tr (F1 := (102, 51, _, _)) (x_getf rfl rfl q1 rfl) ?_
        refine Rk.tr (F1 := (102, 52, _, _)) (x_aload_n rfl rfl rfl) ?_
        refine Rk.tr (F1 := (102, 55, _, _)) (x_getf rfl rfl x1 rfl) ?_
        refine Rk.tr (F1 := (102, 56, _, _)) (x_iload_n rfl rfl) ?_
        refine Rk.tr (F1 := (102, 57, _, _)) (x_iald (n := dp) rfl x4 rfl rfl (by omega) hla) ?_
        refine Rk.tr (F1 := (102, 60, _, _)) (x_callv (As := [_]) rfl rfl rfl (Or.inl rfl) rfl rfl l1 (by decide) rfl (Nat.le_of_ble_eq_true rfl) (c_get q3 ekx) rfl) ?_
        refine Rk.tr (F1 := (102, 63, _, _)) (x_cast rfl rfl (by decide) b1) ?_
        refine Rk.tr (F1 := (102, 65, [_, _, _, _, _, _, _, _, _, _], _)) (x_astore (i := 5) rfl (Nat.le_of_ble_eq_true rfl)) ?_
        refine Rk.tr (F1 := (102, 66, _, _)) (x_aload_n rfl rfl rfl) ?_
        refine Rk.tr (F1 := (102, 67, _, _)) (x_aload_n rfl rfl rfl) ?_
        refine Rk.tr (F1 := (102, 69, _, _)) (x_aload rfl rfl rfl) ?_
        refine Rk.tr (F1 := (102, 70, _, _)) (x_iload_n rfl rfl) ?_
        refine Rk.tr (F1 := (102, 73, _, _)) (x_callv (As := [_, _, _]) rfl rfl rfl (Or.inr rfl) rfl rfl x1 (by decide) rfl (Nat.le_of_ble_eq_true rfl) k1 rfl) ?_
        refine Rk.tr (F1 := (102, 131, _, _)) (x_ifT rfl (tg := 131) rfl (show ¬ (1 : Int32) = 0 by decide)) ?_
        refine Rk.tr (F1 := (102, 134, [_, _, _, _, _, _, _, _, _, _], _)) (x_iinc (i := 4) rfl rfl) ?_
        refine Rk.tr (F1 := (102, 24, _, _)) (x_goto rfl rfl) ?_
        exact kk
      | none =>
        have hst := c_stepN (d := d + (40 - dp)) hP h9 hI' hpt (by omega) hs
        have hf1 := pfu_no (AP A) (AP B) it
        have eA : AP (A ++ [(it, x)]) = AP A ++ [it] := AP_app _ _
        have hr2 : rs.length ≤ 2 := by rw [e2]; exact irw_le it
        have wB : WA G (rs.map (fun r => (r, [])) ++ (a, p ++ [x]) :: s) B [] := by
          rw [e3]
          exact WA_app.mpr ⟨_, by have := WA_tail ((a, p ++ [x]) :: s) e4; simpa using this, e5⟩
        have hP1 : PSt E pz pa pl y root st nn h O G (A ++ [(it, x)]) B (rs.map (fun r => (r, [])) ++ (a, p ++ [x]) :: s) pf lf c :=
          ⟨g1, g2, WA_app.mpr ⟨_, g3, Or.inr ⟨h9, rs, e1, e2, rfl⟩⟩, wB, by rw [List.append_assoc]; exact g5, by rw [eA, List.append_assoc]; exact g6⟩
        have rows := lp_goR (d := d + (40 - dp) + 75) (a := a) (x := x) (tn := nI tn) (fun k h O G A B r s pf lf c m q1 q2 q3 q4 q5 => by
          have := IH k h O G A B r s pf lf c m d (dp + 1) q1 q2 q3 q4 q5
          rw [show d + (40 - (dp + 1)) + 76 = d + (40 - dp) + 75 by omega] at this
          exact this) hr2 rs [] k0 h O G (A ++ [(it, x)]) B ((a, p ++ [x]) :: s) pf lf c m y9 rfl (by omega) b7 (by rw [b8]) hP1 (by rw [eA, List.append_assoc]; exact hI) hpt (by rw [eA]; omega)
        obtain ⟨h1, O1, G1, A1, B1, S1, pf1, lf1, c1, m1, k1, r1, r2, r3, r4, r5, r6, r7, r8, r9, r10, r11, r12⟩ := rows
        match S1, r5 with
        | [], r5 => exact r5.elim
        | (a1, q) :: s1, r5 =>
          obtain ⟨ea, el, hsh⟩ := r5
          subst ea
          have hq : ∃ p1, q = p1 ++ [x] := by
            rw [List.getLast?_append] at el
            have el' : q.getLast? = some x := el.symm
            rw [List.getLast?_eq_some_iff] at el'
            exact el'
          obtain ⟨p1, eq⟩ := hq
          subst eq
          obtain ⟨t1, t2, t3⟩ := PthR_top.mp r4
          obtain ⟨G2h, P2⟩ := PsH.place r2.1 r2.2.1 dp (lf1 dp + 1)
          have hP2 : PSt E pz pa pl y root st nn (pset h1 pl (100, iar 40 (rup lf1 dp (lf1 dp + 1)))) O1 G1 A1 B1 ((a, p1 ++ [x]) :: s1) pf1 (rup lf1 dp (lf1 dp + 1)) c1 := ⟨G2h, P2, r2.2.2.1, r2.2.2.2.1, r2.2.2.2.2.1, r2.2.2.2.2.2⟩
          have hlf2 : rup lf1 dp (lf1 dp + 1) dp = nI (p1 ++ [x]).length := by
            unfold rup
            rw [if_pos rfl, t2, nI_1, List.length_append, List.length_singleton]
          have hp2 : PthR pf1 (rup lf1 dp (lf1 dp + 1)) s1 dp := PthR_mono t3 (fun j hj => ⟨rfl, by unfold rup; rw [if_neg (by omega)]⟩)
          have nxt := ih k1 (by omega) _ O1 G1 A1 B1 a (p1 ++ [x]) s1 pf1 _ c1 m1 d dp (tn + 1) none none none none none (by omega) (by omega) hP2 r3 t1 hlf2 hp2 r8
          rw [← nI_1 tn] at nxt
          obtain ⟨v1, v2, v3, v4, v5, v6, v7⟩ := id r2.2.1
          refine GoE.chain hP.1.1 hsh (r6.tr hP.1.1 (ChP.set (Or.inr (Or.inl rfl)))) (by rw [ek, ← r7, eA]; exact pas_no hs) (by omega) r10 r11 r12 (fun h' kk => ?_) nxt
          refine Rk.tr (F1 := (102, 26, _, _)) (x_iload rfl rfl) ?_
          refine Rk.tr (F1 := (102, 28, _, _)) (x_ldc rfl rfl) ?_
          refine Rk.tr (F1 := (102, 31, _, _)) (x_icF rfl (tg := 137) rfl (show ¬ nI 100000 ≤ nI tn from nI_ge (by omega) (by omega))) ?_
          refine Rk.tr (F1 := (102, 32, _, _)) (x_aload_n rfl rfl rfl) ?_
          refine Rk.tr (F1 := (102, 35, _, _)) (x_getf rfl rfl x1 rfl) ?_
          refine Rk.tr (F1 := (102, 36, _, _)) (x_iload_n rfl rfl) ?_
          refine Rk.tr (F1 := (102, 37, _, _)) (x_iald (n := dp) rfl x4 rfl rfl (by omega) hla) ?_
          refine Rk.tr (F1 := (102, 38, _, _)) (x_aload_n rfl rfl rfl) ?_
          refine Rk.tr (F1 := (102, 41, _, _)) (x_getf rfl rfl q1 rfl) ?_
          refine Rk.tr (F1 := (102, 44, _, _)) (x_callv (As := []) rfl rfl rfl (Or.inl rfl) rfl rfl l1 (by decide) rfl (Nat.le_of_ble_eq_true rfl) (c_lsize l1) rfl) ?_
          refine Rk.tr (F1 := (102, 47, _, _)) (x_icF rfl (tg := 137) rfl (show ¬ nI (p ++ x :: rest).length ≤ nI p.length by rw [hlp]; exact nI_ge (by omega) (by omega))) ?_
          refine Rk.tr (F1 := (102, 48, _, _)) (x_aload_n rfl rfl rfl) ?_
          refine Rk.tr (F1 := (102, 51, _, _)) (x_getf rfl rfl q1 rfl) ?_
          refine Rk.tr (F1 := (102, 52, _, _)) (x_aload_n rfl rfl rfl) ?_
          refine Rk.tr (F1 := (102, 55, _, _)) (x_getf rfl rfl x1 rfl) ?_
          refine Rk.tr (F1 := (102, 56, _, _)) (x_iload_n rfl rfl) ?_
          refine Rk.tr (F1 := (102, 57, _, _)) (x_iald (n := dp) rfl x4 rfl rfl (by omega) hla) ?_
          refine Rk.tr (F1 := (102, 60, _, _)) (x_callv (As := [_]) rfl rfl rfl (Or.inl rfl) rfl rfl l1 (by decide) rfl (Nat.le_of_ble_eq_true rfl) (c_get q3 ekx) rfl) ?_
          refine Rk.tr (F1 := (102, 63, _, _)) (x_cast rfl rfl (by decide) b1) ?_
          refine Rk.tr (F1 := (102, 65, [_, _, _, _, _, _, _, _, _, _], _)) (x_astore (i := 5) rfl (Nat.le_of_ble_eq_true rfl)) ?_
          refine Rk.tr (F1 := (102, 66, _, _)) (x_aload_n rfl rfl rfl) ?_
          refine Rk.tr (F1 := (102, 67, _, _)) (x_aload_n rfl rfl rfl) ?_
          refine Rk.tr (F1 := (102, 69, _, _)) (x_aload rfl rfl rfl) ?_
          refine Rk.tr (F1 := (102, 70, _, _)) (x_iload_n rfl rfl) ?_
          refine Rk.tr (F1 := (102, 73, _, _)) (x_callv (As := [_, _, _]) rfl rfl rfl (Or.inr rfl) rfl rfl x1 (by decide) rfl (Nat.le_of_ble_eq_true rfl) hst rfl) ?_
          refine Rk.tr (F1 := (102, 76, _, _)) (x_ifF rfl (tg := 131) rfl (fun z => z rfl)) ?_
          refine Rk.tr (F1 := (102, 78, _, _)) (x_aload rfl rfl rfl) ?_
          refine Rk.tr (F1 := (102, 81, _, _)) (x_getf rfl rfl b1 rfl) ?_
          refine Rk.tr (F1 := (102, 83, [_, _, _, _, _, _, _, _, _, _], _)) (x_astore (i := 6) rfl (Nat.le_of_ble_eq_true rfl)) ?_
          refine Rk.tr (F1 := (102, 85, _, _)) (x_aload rfl rfl rfl) ?_
          refine Rk.tr (F1 := (102, 86, _, _)) (x_alen rfl b7 rfl) ?_
          refine Rk.tr (F1 := (102, 86, _, _)) (x_top (congrArg nI (refs_len rs))) ?_
          refine Rk.tr (F1 := (102, 88, [_, _, _, _, _, _, _, _, _, _], _)) (x_istore (i := 7) rfl (Nat.le_of_ble_eq_true rfl)) ?_
          refine Rk.tr (F1 := (102, 89, _, _)) (x_iconst rfl) ?_
          refine Rk.tr (F1 := (102, 91, [_, _, _, _, _, _, _, _, _, _], _)) (x_istore (i := 8) rfl (Nat.le_of_ble_eq_true rfl)) ?_
          refine Rk.tr r1 ?_
          refine Rk.tr (F1 := (102, 122, _, _)) (x_aload_n rfl rfl rfl) ?_
          refine Rk.tr (F1 := (102, 125, _, _)) (x_getf rfl rfl v1 rfl) ?_
          refine Rk.tr (F1 := (102, 126, _, _)) (x_iload_n rfl rfl) ?_
          refine Rk.tr (F1 := (102, 127, _, _)) (x_dup2 rfl rfl rfl) ?_
          refine Rk.tr (F1 := (102, 128, _, _)) (x_iald (n := dp) rfl v4 rfl rfl (by omega) (iar_at (by omega))) ?_
          refine Rk.tr (F1 := (102, 129, _, _)) (x_iconst rfl) ?_
          refine Rk.tr (F1 := (102, 130, _, _)) (x_iadd rfl) ?_
          refine Rk.tr (F1 := (102, 131, _, _)) (x_iasti (n := dp) rfl v4 rfl (by omega) (by omega)) ?_
          refine Rk.tr (F1 := (102, 134, [_, _, _, _, _, _, _, _, _, _], _)) (x_iinc (i := 4) rfl rfl) ?_
          refine Rk.tr (F1 := (102, 24, _, _)) (x_goto rfl rfl) ?_
          exact kk
end M43
