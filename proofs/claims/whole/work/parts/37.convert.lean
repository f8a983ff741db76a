/-! ===== the reference's converts and convert ===== -/
section M16
variable {cs : Nat → Int32} {n d o : Nat} {E : PE} {g : PH}
theorem lp_mi : ∀ (r i : Nat) (S : MSt), i + r = 10 → (∀ x, x < i → S.2 19 x = -1) → ∃ S', Ex E (d + 5) (4, 32, [some (.ref o), some (.int (nI i)), none, none], []) (mh g o S) (4, 51, [some (.ref o), none, none, none], []) (mh g o S') ∧ out S' = out S ∧ S'.1 = S.1 ∧ ∀ x, x < 10 → S'.2 19 x = -1 := by
  intro r
  induction r with
  | zero =>
    intro i S hi hS
    have : i = 10 := by omega
    subst this
    refine ⟨S, ?_, rfl, rfl, hS⟩
    refine Ex.tr (F1 := (4, 33, _, _)) (x_iload_n rfl rfl) ?_
    refine Ex.tr (F1 := (4, 35, _, _)) (x_bipush rfl) ?_
    refine Ex.tr (F1 := (4, 51, _, _)) (x_icT rfl (tg := 51) rfl (show nI 10 ≤ nI 10 from nI_le (by omega) (by omega))) ?_
    exact x_wk ⟨Or.inr rfl, Or.inl rfl, Or.inl rfl, Or.inl rfl, trivial⟩
  | succ r ih =>
    intro i S hi hS
    obtain ⟨S', r1, r2, r3, r4⟩ := ih (i + 1) (msA S 19 i (-1)) (by omega) (fun x hx => by
      by_cases e : x = i
      · rw [e]; exact msA_at
      · rw [msA_ne e]; exact hS x (by omega))
    refine ⟨S', ?_, r2.trans (out_A rfl), r3, r4⟩
    refine Ex.tr (F1 := (4, 33, _, _)) (x_iload_n rfl rfl) ?_
    refine Ex.tr (F1 := (4, 35, _, _)) (x_bipush rfl) ?_
    refine Ex.tr (F1 := (4, 38, _, _)) (x_icF rfl (tg := 51) rfl (show ¬ nI 10 ≤ nI i from nI_ge (by omega) (by omega))) ?_
    refine Ex.tr (F1 := (4, 39, _, _)) (x_aload_n rfl rfl rfl) ?_
    refine Ex.tr (F1 := (4, 42, _, _)) (m_get rfl rfl (Nat.le_of_ble_eq_true rfl)) ?_
    refine Ex.tr (F1 := (4, 43, _, _)) (x_iload_n rfl rfl) ?_
    refine Ex.tr (F1 := (4, 44, _, _)) (x_iconst rfl) ?_
    refine Ex.tr (F1 := (4, 45, _, _)) (m_iast (k := 19) (n := i) rfl rfl rfl (Nat.le_of_ble_eq_true rfl) rfl (show i < 10 by omega)) ?_
    refine Ex.tr (F1 := (4, 48, [_, _, _, _], _)) (x_iinc (i := 1) rfl rfl) ?_
    refine Ex.tr (F1 := (4, 32, [_, _, _, _], _)) (x_goto rfl rfl) ?_
    rw [show nI i + Int32.ofInt 1 = nI (i + 1) from nI_1 i]
    exact r1
/-- the code is one term without a free variable -/
def GdP (cs : Nat → Int32) (n : Nat) : Prop := sy cs n 61 0 = some n ∧ (cv cs 61 (fun _ => none) 0 0).2.2.2.2.2 = false
theorem c_converts (h60 : n ≤ 60) {S : MSt} (hn : S.1 1 = nI n) (hcs : S.2 2 = cs) :
    (GdP cs n → ∃ S', Rn E (d + 5) 4 [.ref o] (mh g o S) (some (.int 1)) (mh g o S') ∧ out S' = out S ∧ S'.1 23 = nI (tsum (cvP cs)) ∧ S'.1 24 = nI (cv cs 61 (fun _ => none) 0 0).2.2.2.1 ∧ S'.1 22 = nI (cv cs 61 (fun _ => none) 0 0).2.2.2.2.1 ∧ TokAt (S'.2 25) 0 (cvP cs)) ∧
    (¬ GdP cs n → ∃ S', Rn E (d + 5) 4 [.ref o] (mh g o S) (some (.int 0)) (mh g o S') ∧ out S' = out S) := by
  obtain ⟨S1, i1, i2, i3, i4⟩ := lp_mi (E := E) (d := d) (o := o) (g := g) 10 0 (msI (msI (msI (msI (msI (msI S 9 0) 10 0) 21 0) 22 0) 23 0) 24 0) rfl (fun x hx => absurd hx (Nat.not_lt_zero x))
  have o1 : out S1 = out S := i2.trans ((out_I rfl).trans ((out_I rfl).trans ((out_I rfl).trans ((out_I rfl).trans ((out_I rfl).trans (out_I rfl))))))
  have hC : CS n 0 0 0 0 0 0 S1 := ⟨(congrFun i3 1).trans hn, congrFun i3 9, congrFun i3 10, congrFun i3 23, congrFun i3 24, congrFun i3 21, congrFun i3 22⟩
  have hM : mrel (fun _ => none) S1 := fun x hx => ⟨fun _ => by rw [i4 x hx]; decide, fun a h => by cases h⟩
  have beg : Ex E (d + 5) (4, 0, pent [.ref o] (mmax 4), []) (mh g o S) (C53 o none none) (mh g o S1) := by
    refine Ex.tr (F1 := (4, 1, _, _)) (x_aload_n rfl rfl rfl) ?_
    refine Ex.tr (F1 := (4, 2, _, _)) (x_iconst rfl) ?_
    refine Ex.tr (F1 := (4, 5, _, _)) (m_put rfl rfl rfl rfl rfl rfl) ?_
    refine Ex.tr (F1 := (4, 6, _, _)) (x_aload_n rfl rfl rfl) ?_
    refine Ex.tr (F1 := (4, 7, _, _)) (x_iconst rfl) ?_
    refine Ex.tr (F1 := (4, 10, _, _)) (m_put rfl rfl rfl rfl rfl rfl) ?_
    refine Ex.tr (F1 := (4, 11, _, _)) (x_aload_n rfl rfl rfl) ?_
    refine Ex.tr (F1 := (4, 12, _, _)) (x_iconst rfl) ?_
    refine Ex.tr (F1 := (4, 15, _, _)) (m_put rfl rfl rfl rfl rfl rfl) ?_
    refine Ex.tr (F1 := (4, 16, _, _)) (x_aload_n rfl rfl rfl) ?_
    refine Ex.tr (F1 := (4, 17, _, _)) (x_iconst rfl) ?_
    refine Ex.tr (F1 := (4, 20, _, _)) (m_put rfl rfl rfl rfl rfl rfl) ?_
    refine Ex.tr (F1 := (4, 21, _, _)) (x_aload_n rfl rfl rfl) ?_
    refine Ex.tr (F1 := (4, 22, _, _)) (x_iconst rfl) ?_
    refine Ex.tr (F1 := (4, 25, _, _)) (m_put rfl rfl rfl rfl rfl rfl) ?_
    refine Ex.tr (F1 := (4, 26, _, _)) (x_aload_n rfl rfl rfl) ?_
    refine Ex.tr (F1 := (4, 27, _, _)) (x_iconst rfl) ?_
    refine Ex.tr (F1 := (4, 30, _, _)) (m_put rfl rfl rfl rfl rfl rfl) ?_
    refine Ex.tr (F1 := (4, 31, _, _)) (x_iconst rfl) ?_
    refine Ex.tr (F1 := (4, 32, [_, _, _, _], _)) (x_istore_n (i := 1) rfl (Nat.le_of_ble_eq_true rfl)) ?_
    refine Ex.tr i1 ?_
    refine Ex.tr (F1 := (4, 52, _, _)) (x_iconst rfl) ?_
    refine Ex.tr (F1 := (4, 53, [_, _, _, _], _)) (x_istore_n (i := 1) rfl (Nat.le_of_ble_eq_true rfl)) ?_
    exact Ex.rf
  obtain ⟨g1, g2⟩ := cv_sim (E := E) (d := d) (o := o) (g := g) (cs := cs) h60 61 (fun _ => none) 0 0 0 0 0 0 S1 none none ((out_a o1 rfl).trans hcs) hC (by omega) (by omega) (by omega) (by omega) (by omega) (by omega) (by omega) hM
  by_cases hg : Gd cs n 61 (fun _ => none) 0 0
  · obtain ⟨S2, r1, p1, p2, p3, p4, p5, p6, p7⟩ := g1 hg
    obtain ⟨p', hp'⟩ := hg.1
    obtain ⟨n1, n2, n3, n4, n5, n6, n7⟩ := cv_nums 61 (fun _ => none) 0 0 p' hp'
    have hfr := hg.2
    unfold GdP cvP
    generalize cv cs 61 (fun _ => none) 0 0 = r at *
    rw [Nat.zero_add] at p1
    have e25 : mRowE S2 = msI (msA (msI (msA (msI (msA S2 25 (tsum r.1) 9) 23 (nI (tsum r.1 + 1))) 25 (tsum r.1 + 1) r.2.1.1) 23 (nI (tsum r.1 + 1 + 1))) 25 (tsum r.1 + 1 + 1) r.2.1.2) 23 (nI (tsum r.1 + 1 + 1 + 1)) := by
      unfold mRowE
      rw [p3, p4, mE (S := S2) (m := tsum r.1) (v := 9) p1.2.2.2.1 (by omega), mE (m := tsum r.1 + 1) (v := r.2.1.1) rfl (by omega), mE (m := tsum r.1 + 1 + 1) (v := r.2.1.2) rfl (by omega)]
    have oE : out (mRowE S2) = out S := by
      rw [e25]
      exact ((out_I rfl).trans ((out_A rfl).trans ((out_I rfl).trans ((out_A rfl).trans ((out_I rfl).trans (out_A rfl)))))).trans (p2.1.trans o1)
    have h9 : S2.1 9 = nI p' := by rw [← n1]; exact p1.2.1
    by_cases hpn : p' = n
    · subst hpn
      refine ⟨fun _ => ⟨mRowE S2, ?_, oE, ?_, ?_, ?_, ?_⟩, fun z => absurd ⟨hp', hfr⟩ z⟩
      · refine Rn.of (Nat.le_of_ble_eq_true rfl) (Rk.tr beg (Rk.tr r1 ?_))
        refine Rk.tr (F1 := (4, 80, _, _)) (x_iload_n rfl rfl) ?_
        refine Rk.tr (F1 := (4, 83, _, _)) (x_ifF rfl (tg := 98) rfl (show ¬ (1 : Int32) = 0 by decide)) ?_
        refine Rk.tr (F1 := (4, 84, _, _)) (x_aload_n rfl rfl rfl) ?_
        refine Rk.tr (F1 := (4, 87, _, _)) (m_get rfl rfl (Nat.le_of_ble_eq_true rfl)) ?_
        refine Rk.tr (F1 := (4, 98, _, _)) (x_ifT rfl (tg := 98) rfl (by show S2.1 10 ≤ 0; rw [p1.2.2.1]; decide)) ?_
        refine Rk.tr (F1 := (4, 99, _, _)) (x_iload_n rfl rfl) ?_
        refine Rk.tr (F1 := (4, 106, _, _)) (x_ifT rfl (tg := 106) rfl (show ¬ (1 : Int32) = 0 by decide)) ?_
        refine Rk.tr (F1 := (4, 107, _, _)) (x_iconst rfl) ?_
        refine Rk.tr (F1 := (4, 108, [_, _, _, _], _)) (x_istore_n (i := 1) rfl (Nat.le_of_ble_eq_true rfl)) ?_
        refine Rk.tr (F1 := (4, 53, [_, _, _, _], _)) (x_goto rfl rfl) ?_
        refine Rk.tr (F1 := (4, 54, _, _)) (x_iload_n rfl rfl) ?_
        refine Rk.tr (F1 := (4, 111, _, _)) (x_ifT rfl (tg := 111) rfl rfl) ?_
        refine Rk.tr (F1 := (4, 112, _, _)) (x_aload_n rfl rfl rfl) ?_
        refine Rk.tr (F1 := (4, 114, _, _)) (x_bipush rfl) ?_
        refine Rk.tr (F1 := (4, 117, _, _)) (m_call (As := [_]) rfl rfl rfl (Or.inr rfl) rfl rfl rfl (Nat.le_of_ble_eq_true rfl) (c_emit (n := tsum r.1) p1.2.2.2.1 (by omega)) rfl) ?_
        refine Rk.tr (F1 := (4, 118, _, _)) (x_aload_n rfl rfl rfl) ?_
        refine Rk.tr (F1 := (4, 119, _, _)) (x_aload_n rfl rfl rfl) ?_
        refine Rk.tr (F1 := (4, 122, _, _)) (m_get rfl rfl (Nat.le_of_ble_eq_true rfl)) ?_
        refine Rk.tr (F1 := (4, 123, _, _)) (x_aload_n rfl rfl rfl) ?_
        refine Rk.tr (F1 := (4, 126, _, _)) (m_get rfl rfl (Nat.le_of_ble_eq_true rfl)) ?_
        refine Rk.tr (F1 := (4, 129, _, _)) (m_call (As := [_, _]) rfl rfl rfl (Or.inr rfl) rfl rfl rfl (Nat.le_of_ble_eq_true rfl) (c_emitAtom (n := tsum r.1 + 1) (by show S2.1 23 + 1 = _; rw [p1.2.2.2.1, nI_1]) (by omega)) rfl) ?_
        refine Rk.tr (F1 := (4, 130, _, _)) (x_aload_n rfl rfl rfl) ?_
        refine Rk.tr (F1 := (4, 133, _, _)) (m_get rfl rfl (Nat.le_of_ble_eq_true rfl)) ?_
        refine Rk.tr (F1 := (4, 134, _, _)) (x_aload_n rfl rfl rfl) ?_
        refine Rk.tr (F1 := (4, 137, _, _)) (m_get rfl rfl (Nat.le_of_ble_eq_true rfl)) ?_
        refine Rk.tr (F1 := (4, 140, _, _)) (x_icF rfl (tg := 144) rfl (fun q => q (by show S2.1 9 = S2.1 1; rw [h9, p1.1]))) ?_
        refine Rk.tr (F1 := (4, 141, _, _)) (x_iconst rfl) ?_
        refine Rk.tr (F1 := (4, 145, _, _)) (x_goto rfl rfl) ?_
        exact Rk.end rfl (Or.inr (Or.inl ⟨rfl, _, .boolean, rfl, rfl, rfl, rfl⟩))
      · rw [e25, tsum_app, show tsum [iRes r.2.1] = 3 from rfl]
        rfl
      · exact p1.2.2.2.2.1
      · have := p1.2.2.2.2.2.2
        rw [show max 0 (0 + r.2.2.2.2.1) = r.2.2.2.2.1 by omega] at this
        exact this
      · rw [TokAt_app]
        have e : (mRowE S2).2 25 = rup (rup (rup (S2.2 25) (tsum r.1) 9) (tsum r.1 + 1) r.2.1.1) (tsum r.1 + 1 + 1) r.2.1.2 := by
          rw [e25]
          funext j
          simp [msI, msA, rup]
        rw [e, Nat.zero_add]
        refine ⟨TokAt_shift p7 (fun i hi => ?_), ⟨?_, ?_, ?_⟩, trivial⟩
        · rw [rup_ne (by omega), rup_ne (by omega), rup_ne (by omega)]
        · rw [rup_ne (by omega), rup_ne (by omega), rup_eq]
        · rw [rup_ne (by omega), rup_eq]; rfl
        · rw [rup_eq]; rfl
    · refine ⟨fun z => ?_, fun _ => ⟨mRowE S2, ?_, oE⟩⟩
      · exact absurd (Option.some.inj (hp'.symm.trans z.1)) hpn
      · refine Rn.of (Nat.le_of_ble_eq_true rfl) (Rk.tr beg (Rk.tr r1 ?_))
        refine Rk.tr (F1 := (4, 80, _, _)) (x_iload_n rfl rfl) ?_
        refine Rk.tr (F1 := (4, 83, _, _)) (x_ifF rfl (tg := 98) rfl (show ¬ (1 : Int32) = 0 by decide)) ?_
        refine Rk.tr (F1 := (4, 84, _, _)) (x_aload_n rfl rfl rfl) ?_
        refine Rk.tr (F1 := (4, 87, _, _)) (m_get rfl rfl (Nat.le_of_ble_eq_true rfl)) ?_
        refine Rk.tr (F1 := (4, 98, _, _)) (x_ifT rfl (tg := 98) rfl (by show S2.1 10 ≤ 0; rw [p1.2.2.1]; decide)) ?_
        refine Rk.tr (F1 := (4, 99, _, _)) (x_iload_n rfl rfl) ?_
        refine Rk.tr (F1 := (4, 106, _, _)) (x_ifT rfl (tg := 106) rfl (show ¬ (1 : Int32) = 0 by decide)) ?_
        refine Rk.tr (F1 := (4, 107, _, _)) (x_iconst rfl) ?_
        refine Rk.tr (F1 := (4, 108, [_, _, _, _], _)) (x_istore_n (i := 1) rfl (Nat.le_of_ble_eq_true rfl)) ?_
        refine Rk.tr (F1 := (4, 53, [_, _, _, _], _)) (x_goto rfl rfl) ?_
        refine Rk.tr (F1 := (4, 54, _, _)) (x_iload_n rfl rfl) ?_
        refine Rk.tr (F1 := (4, 111, _, _)) (x_ifT rfl (tg := 111) rfl rfl) ?_
        refine Rk.tr (F1 := (4, 112, _, _)) (x_aload_n rfl rfl rfl) ?_
        refine Rk.tr (F1 := (4, 114, _, _)) (x_bipush rfl) ?_
        refine Rk.tr (F1 := (4, 117, _, _)) (m_call (As := [_]) rfl rfl rfl (Or.inr rfl) rfl rfl rfl (Nat.le_of_ble_eq_true rfl) (c_emit (n := tsum r.1) p1.2.2.2.1 (by omega)) rfl) ?_
        refine Rk.tr (F1 := (4, 118, _, _)) (x_aload_n rfl rfl rfl) ?_
        refine Rk.tr (F1 := (4, 119, _, _)) (x_aload_n rfl rfl rfl) ?_
        refine Rk.tr (F1 := (4, 122, _, _)) (m_get rfl rfl (Nat.le_of_ble_eq_true rfl)) ?_
        refine Rk.tr (F1 := (4, 123, _, _)) (x_aload_n rfl rfl rfl) ?_
        refine Rk.tr (F1 := (4, 126, _, _)) (m_get rfl rfl (Nat.le_of_ble_eq_true rfl)) ?_
        refine Rk.tr (F1 := (4, 129, _, _)) (m_call (As := [_, _]) rfl rfl rfl (Or.inr rfl) rfl rfl rfl (Nat.le_of_ble_eq_true rfl) (c_emitAtom (n := tsum r.1 + 1) (by show S2.1 23 + 1 = _; rw [p1.2.2.2.1, nI_1]) (by omega)) rfl) ?_
        refine Rk.tr (F1 := (4, 130, _, _)) (x_aload_n rfl rfl rfl) ?_
        refine Rk.tr (F1 := (4, 133, _, _)) (m_get rfl rfl (Nat.le_of_ble_eq_true rfl)) ?_
        refine Rk.tr (F1 := (4, 134, _, _)) (x_aload_n rfl rfl rfl) ?_
        refine Rk.tr (F1 := (4, 137, _, _)) (m_get rfl rfl (Nat.le_of_ble_eq_true rfl)) ?_
        refine Rk.tr (F1 := (4, 144, _, _)) (x_icT rfl (tg := 144) rfl (by show ¬ S2.1 9 = S2.1 1; rw [h9, p1.1]; exact fun z => hpn ((nI_eq (by omega) (by omega)).mp z))) ?_
        refine Rk.tr (F1 := (4, 145, _, _)) (x_iconst rfl) ?_
        exact Rk.end rfl (Or.inr (Or.inl ⟨rfl, _, .boolean, rfl, rfl, rfl, rfl⟩))
  · refine ⟨fun z => absurd ⟨⟨n, z.1⟩, z.2⟩ hg, fun _ => ?_⟩
    obtain ⟨S', r1, r2⟩ := g2 hg
    exact ⟨S', Rn.of (Nat.le_of_ble_eq_true rfl) (Rk.tr beg r1), r2.trans o1⟩
theorem out_out {S S' : MSt} {k : Nat} {x : Int32} (h : out S' = out S) : out (msI S' k x) = out (msI S k x) := by
  refine Prod.ext (funext fun j => ?_) (show (out S').2 = (out S).2 from congrArg Prod.snd h)
  have := congrFun (congrArg Prod.fst h) j
  show (if ckI j = true then 0 else if j = k then x else S'.1 j) = (if ckI j = true then 0 else if j = k then x else S.1 j)
  have this : (if ckI j = true then 0 else S'.1 j) = (if ckI j = true then 0 else S.1 j) := this
  by_cases e : j = k
  · rw [if_pos e, if_pos e]
  · rw [if_neg e, if_neg e]
    exact this
theorem lp_cp (len : Nat) (h8 : len ≤ 800) : ∀ (r i : Nat) (S : MSt), S.1 23 = nI len → i + r = len → (∀ j, j < i → S.2 5 j = S.2 25 j) → ∃ S', Ex E (d + 6) (3, 61, [some (.ref o), none, some (.int (nI i))], []) (mh g o S) (3, 87, [some (.ref o), none, none], []) (mh g o S') ∧ S'.1 = S.1 ∧ (∀ k, k ≠ 5 → S'.2 k = S.2 k) ∧ ∀ j, j < len → S'.2 5 j = S.2 25 j := by
  intro r
  induction r with
  | zero =>
    intro i S hl hi hS
    have : i = len := by omega
    subst this
    refine ⟨S, ?_, rfl, fun _ _ => rfl, hS⟩
    refine Ex.tr (F1 := (3, 62, _, _)) (x_iload_n rfl rfl) ?_
    refine Ex.tr (F1 := (3, 63, _, _)) (x_aload_n rfl rfl rfl) ?_
    refine Ex.tr (F1 := (3, 66, _, _)) (m_get rfl rfl (Nat.le_of_ble_eq_true rfl)) ?_
    refine Ex.tr (F1 := (3, 87, _, _)) (x_icT rfl (tg := 87) rfl (by show S.1 23 ≤ nI i; rw [hl]; exact nI_le (by omega) (by omega))) ?_
    exact x_wk ⟨Or.inr rfl, Or.inr rfl, Or.inl rfl, trivial⟩
  | succ r ih =>
    intro i S hl hi hS
    obtain ⟨S', r1, r2, r3, r4⟩ := ih (i + 1) (msA S 5 i (S.2 25 i)) hl (by omega) (fun j hj => by
      by_cases e : j = i
      · rw [e]; exact msA_at
      · rw [msA_ne e]; exact hS j (by omega))
    refine ⟨S', ?_, r2, fun k hk => (r3 k hk).trans (funext fun j => if_neg (fun z => hk z.1)), r4⟩
    refine Ex.tr (F1 := (3, 62, _, _)) (x_iload_n rfl rfl) ?_
    refine Ex.tr (F1 := (3, 63, _, _)) (x_aload_n rfl rfl rfl) ?_
    refine Ex.tr (F1 := (3, 66, _, _)) (m_get rfl rfl (Nat.le_of_ble_eq_true rfl)) ?_
    refine Ex.tr (F1 := (3, 69, _, _)) (x_icF rfl (tg := 87) rfl (by show ¬ S.1 23 ≤ nI i; rw [hl]; exact nI_ge (by omega) (by omega))) ?_
    refine Ex.tr (F1 := (3, 70, _, _)) (x_aload_n rfl rfl rfl) ?_
    refine Ex.tr (F1 := (3, 73, _, _)) (m_get rfl rfl (Nat.le_of_ble_eq_true rfl)) ?_
    refine Ex.tr (F1 := (3, 74, _, _)) (x_iload_n rfl rfl) ?_
    refine Ex.tr (F1 := (3, 75, _, _)) (x_aload_n rfl rfl rfl) ?_
    refine Ex.tr (F1 := (3, 78, _, _)) (m_get rfl rfl (Nat.le_of_ble_eq_true rfl)) ?_
    refine Ex.tr (F1 := (3, 79, _, _)) (x_iload_n rfl rfl) ?_
    refine Ex.tr (F1 := (3, 80, _, _)) (m_iald (k := 25) (n := i) rfl rfl rfl rfl (show i < 800 by omega)) ?_
    refine Ex.tr (F1 := (3, 81, _, _)) (m_iast (k := 5) (n := i) rfl rfl rfl (Nat.le_of_ble_eq_true rfl) rfl (show i < 800 by omega)) ?_
    refine Ex.tr (F1 := (3, 84, [_, _, _], _)) (x_iinc (i := 2) rfl rfl) ?_
    refine Ex.tr (F1 := (3, 61, [_, _, _], _)) (x_goto rfl rfl) ?_
    rw [show nI i + Int32.ofInt 1 = nI (i + 1) from nI_1 i]
    exact r1
theorem lp_c0 : ∀ (r i : Nat) (S : MSt), i + r = 4 → (∀ j, j < i → S.2 7 j = 0) → ∃ S', Ex E (d + 6) (3, 97, [some (.ref o), none, some (.int (nI i))], []) (mh g o S) (3, 115, [some (.ref o), none, none], []) (mh g o S') ∧ S'.1 = S.1 ∧ (∀ k, k ≠ 7 → S'.2 k = S.2 k) ∧ ∀ j, j < 4 → S'.2 7 j = 0 := by
  intro r
  induction r with
  | zero =>
    intro i S hi hS
    have : i = 4 := by omega
    subst this
    refine ⟨S, ?_, rfl, fun _ _ => rfl, hS⟩
    refine Ex.tr (F1 := (3, 98, _, _)) (x_iload_n rfl rfl) ?_
    refine Ex.tr (F1 := (3, 99, _, _)) (x_iconst rfl) ?_
    refine Ex.tr (F1 := (3, 115, _, _)) (x_icT rfl (tg := 115) rfl (show nI 4 ≤ nI 4 from nI_le (by omega) (by omega))) ?_
    exact x_wk ⟨Or.inr rfl, Or.inr rfl, Or.inl rfl, trivial⟩
  | succ r ih =>
    intro i S hi hS
    obtain ⟨S', r1, r2, r3, r4⟩ := ih (i + 1) (msA S 7 i 0) (by omega) (fun j hj => by
      by_cases e : j = i
      · rw [e]; exact msA_at
      · rw [msA_ne e]; exact hS j (by omega))
    refine ⟨S', ?_, r2, fun k hk => (r3 k hk).trans (funext fun j => if_neg (fun z => hk z.1)), r4⟩
    refine Ex.tr (F1 := (3, 98, _, _)) (x_iload_n rfl rfl) ?_
    refine Ex.tr (F1 := (3, 99, _, _)) (x_iconst rfl) ?_
    refine Ex.tr (F1 := (3, 102, _, _)) (x_icF rfl (tg := 115) rfl (show ¬ nI 4 ≤ nI i from nI_ge (by omega) (by omega))) ?_
    refine Ex.tr (F1 := (3, 103, _, _)) (x_aload_n rfl rfl rfl) ?_
    refine Ex.tr (F1 := (3, 106, _, _)) (m_get rfl rfl (Nat.le_of_ble_eq_true rfl)) ?_
    refine Ex.tr (F1 := (3, 107, _, _)) (x_iload_n rfl rfl) ?_
    refine Ex.tr (F1 := (3, 108, _, _)) (x_iconst rfl) ?_
    refine Ex.tr (F1 := (3, 109, _, _)) (m_iast (k := 7) (n := i) rfl rfl rfl (Nat.le_of_ble_eq_true rfl) rfl (show i < 4 by omega)) ?_
    refine Ex.tr (F1 := (3, 112, [_, _, _], _)) (x_iinc (i := 2) rfl rfl) ?_
    refine Ex.tr (F1 := (3, 97, [_, _, _], _)) (x_goto rfl rfl) ?_
    rw [show nI i + Int32.ofInt 1 = nI (i + 1) from nI_1 i]
    exact r1
theorem c_conv1 (h60 : n ≤ 60) {S : MSt} (hn : S.1 1 = nI n) (hcs : S.2 2 = cs) (hg : ¬ GdP cs n) : ∃ S', Rn E (d + 6) 3 [.ref o] (mh g o S) (some (.int 0)) (mh g o S') ∧ out S' = out (msI (msI S 1 0) 0 1) := by
  obtain ⟨S1, r1, r2⟩ := (c_converts (E := E) (d := d) (o := o) (g := g) h60 hn hcs).2 hg
  refine ⟨msI (msI S1 1 0) 0 1, Rn.of (Nat.le_of_ble_eq_true rfl) ?_, ?_⟩
  · refine Rk.tr (F1 := (3, 1, _, _)) (x_aload_n rfl rfl rfl) ?_
    refine Rk.tr (F1 := (3, 4, _, _)) (m_call (As := []) rfl rfl rfl (Or.inr rfl) rfl rfl rfl (Nat.le_of_ble_eq_true rfl) r1 rfl) ?_
    refine Rk.tr (F1 := (3, 5, [_, _, _], _)) (x_istore_n (i := 1) rfl (Nat.le_of_ble_eq_true rfl)) ?_
    refine Rk.tr (F1 := (3, 6, _, _)) (x_aload_n rfl rfl rfl) ?_
    refine Rk.tr (F1 := (3, 7, _, _)) (x_iconst rfl) ?_
    refine Rk.tr (F1 := (3, 10, _, _)) (m_put rfl rfl rfl rfl rfl rfl) ?_
    refine Rk.tr (F1 := (3, 11, _, _)) (x_aload_n rfl rfl rfl) ?_
    refine Rk.tr (F1 := (3, 12, _, _)) (x_iload_n rfl rfl) ?_
    refine Rk.tr (F1 := (3, 15, _, _)) (x_ifF rfl (tg := 19) rfl (fun q => q rfl)) ?_
    refine Rk.tr (F1 := (3, 16, _, _)) (x_iconst rfl) ?_
    refine Rk.tr (F1 := (3, 20, _, _)) (x_goto rfl rfl) ?_
    refine Rk.tr (F1 := (3, 21, _, _)) (x_iload_n rfl rfl) ?_
    refine Rk.tr (F1 := (3, 37, _, _)) (x_ifT rfl (tg := 37) rfl rfl) ?_
    refine Rk.tr (F1 := (3, 38, _, _)) (x_iconst rfl) ?_
    refine Rk.tr (F1 := (3, 41, _, _)) (m_call (As := [_, _]) rfl rfl rfl (Or.inr rfl) rfl rfl rfl (Nat.le_of_ble_eq_true rfl) c_fails1 rfl) ?_
    refine Rk.tr (F1 := (3, 44, _, _)) (x_ifF rfl (tg := 46) rfl (show ¬ (1 : Int32) = 0 by decide)) ?_
    refine Rk.tr (F1 := (3, 45, _, _)) (x_iconst rfl) ?_
    exact Rk.end rfl (Or.inr (Or.inl ⟨rfl, _, .int, rfl, rfl, rfl, rfl⟩))
  · exact out_out (out_out r2)
theorem c_conv2 (h60 : n ≤ 60) {S : MSt} (hn : S.1 1 = nI n) (hcs : S.2 2 = cs) (hg : GdP cs n) (hd : 8 < (cv cs 61 (fun _ => none) 0 0).2.2.2.2.1) : ∃ S', Rn E (d + 6) 3 [.ref o] (mh g o S) (some (.int 0)) (mh g o S') ∧ out S' = out (msI (msI S 1 0) 0 2) := by
  obtain ⟨S1, r1, r2, r3, r4, r5, r6⟩ := (c_converts (E := E) (d := d) (o := o) (g := g) h60 hn hcs).1 hg
  have hb := (cv_nums 61 (fun _ => none) 0 0 n hg.1).2.2.2.2.2.2
  refine ⟨msI (msI S1 1 0) 0 2, Rn.of (Nat.le_of_ble_eq_true rfl) ?_, ?_⟩
  · refine Rk.tr (F1 := (3, 1, _, _)) (x_aload_n rfl rfl rfl) ?_
    refine Rk.tr (F1 := (3, 4, _, _)) (m_call (As := []) rfl rfl rfl (Or.inr rfl) rfl rfl rfl (Nat.le_of_ble_eq_true rfl) r1 rfl) ?_
    refine Rk.tr (F1 := (3, 5, [_, _, _], _)) (x_istore_n (i := 1) rfl (Nat.le_of_ble_eq_true rfl)) ?_
    refine Rk.tr (F1 := (3, 6, _, _)) (x_aload_n rfl rfl rfl) ?_
    refine Rk.tr (F1 := (3, 7, _, _)) (x_iconst rfl) ?_
    refine Rk.tr (F1 := (3, 10, _, _)) (m_put rfl rfl rfl rfl rfl rfl) ?_
    refine Rk.tr (F1 := (3, 11, _, _)) (x_aload_n rfl rfl rfl) ?_
    refine Rk.tr (F1 := (3, 12, _, _)) (x_iload_n rfl rfl) ?_
    refine Rk.tr (F1 := (3, 19, _, _)) (x_ifT rfl (tg := 19) rfl (show ¬ (1 : Int32) = 0 by decide)) ?_
    refine Rk.tr (F1 := (3, 20, _, _)) (x_iconst rfl) ?_
    refine Rk.tr (F1 := (3, 21, _, _)) (x_iload_n rfl rfl) ?_
    refine Rk.tr (F1 := (3, 24, _, _)) (x_ifF rfl (tg := 37) rfl (show ¬ (1 : Int32) = 0 by decide)) ?_
    refine Rk.tr (F1 := (3, 25, _, _)) (x_aload_n rfl rfl rfl) ?_
    refine Rk.tr (F1 := (3, 28, _, _)) (m_get rfl rfl (Nat.le_of_ble_eq_true rfl)) ?_
    refine Rk.tr (F1 := (3, 30, _, _)) (x_bipush rfl) ?_
    refine Rk.tr (F1 := (3, 33, _, _)) (x_icF rfl (tg := 37) rfl (by show ¬ S1.1 22 ≤ nI 8; rw [r5]; exact nI_ge (by omega) (by omega))) ?_
    refine Rk.tr (F1 := (3, 34, _, _)) (x_iconst rfl) ?_
    refine Rk.tr (F1 := (3, 38, _, _)) (x_goto rfl rfl) ?_
    refine Rk.tr (F1 := (3, 41, _, _)) (m_call (As := [_, _]) rfl rfl rfl (Or.inr rfl) rfl rfl rfl (Nat.le_of_ble_eq_true rfl) c_fails2 rfl) ?_
    refine Rk.tr (F1 := (3, 44, _, _)) (x_ifF rfl (tg := 46) rfl (show ¬ (1 : Int32) = 0 by decide)) ?_
    refine Rk.tr (F1 := (3, 45, _, _)) (x_iconst rfl) ?_
    exact Rk.end rfl (Or.inr (Or.inl ⟨rfl, _, .int, rfl, rfl, rfl, rfl⟩))
  · exact out_out (out_out r2)
theorem c_conv (h60 : n ≤ 60) {S : MSt} (hn : S.1 1 = nI n) (hcs : S.2 2 = cs) (hg : GdP cs n) (hd : (cv cs 61 (fun _ => none) 0 0).2.2.2.2.1 ≤ 8) : ∃ S', Rn E (d + 6) 3 [.ref o] (mh g o S) (some (.int (nI (cntB (cvP cs))))) (mh g o S') ∧ S'.1 0 = 0 ∧ S'.1 1 = 0 ∧ S'.1 3 = 1 ∧ S'.1 4 = nI (tsum (cvP cs)) ∧ S'.1 8 = nI (cv cs 61 (fun _ => none) 0 0).2.2.2.1 ∧ TokAt (S'.2 5) 0 (cvP cs) ∧ (∀ j, j < 4 → S'.2 7 j = 0) ∧ S'.2 42 = S.2 42 ∧ S'.2 2 = S.2 2 := by
  obtain ⟨S1, r1, r2, r3, r4, r5, r6⟩ := (c_converts (E := E) (d := d) (o := o) (g := g) h60 hn hcs).1 hg
  have hb := (cv_nums 61 (fun _ => none) 0 0 n hg.1).2.2.2.2.2
  have hI := cvP_inv h60 hg.1
  have hl := hI.2.2
  obtain ⟨S2, a1, a2, a3, a4⟩ := lp_cp (E := E) (d := d) (o := o) (g := g) (tsum (cvP cs)) (by omega) (tsum (cvP cs)) 0 (msI (msI (msI (msI S1 1 0) 0 0) 3 1) 4 (S1.1 23)) r3 (by omega) (fun j hj => absurd hj (Nat.not_lt_zero j))
  obtain ⟨S3, b1, b2, b3, b4⟩ := lp_c0 (E := E) (d := d) (o := o) (g := g) 4 0 (msI S2 8 (S2.1 24)) (by omega) (fun j hj => absurd hj (Nat.not_lt_zero j))
  have e5 : TokAt (S3.2 5) 0 (cvP cs) := by
    rw [b3 5 (by decide)]
    refine TokAt_shift r6 (fun j hj => ?_)
    rw [Nat.zero_add]
    exact a4 j hj
  have e4 : S3.1 4 = nI (tsum (cvP cs)) := by
    rw [b2]
    show S2.1 4 = _
    rw [a2]
    exact r3
  refine ⟨S3, Rn.of (Nat.le_of_ble_eq_true rfl) ?_, ?_, ?_, ?_, e4, ?_, e5, b4, ?_, ?_⟩
  · refine Rk.tr (F1 := (3, 1, _, _)) (x_aload_n rfl rfl rfl) ?_
    refine Rk.tr (F1 := (3, 4, _, _)) (m_call (As := []) rfl rfl rfl (Or.inr rfl) rfl rfl rfl (Nat.le_of_ble_eq_true rfl) r1 rfl) ?_
    refine Rk.tr (F1 := (3, 5, [_, _, _], _)) (x_istore_n (i := 1) rfl (Nat.le_of_ble_eq_true rfl)) ?_
    refine Rk.tr (F1 := (3, 6, _, _)) (x_aload_n rfl rfl rfl) ?_
    refine Rk.tr (F1 := (3, 7, _, _)) (x_iconst rfl) ?_
    refine Rk.tr (F1 := (3, 10, _, _)) (m_put rfl rfl rfl rfl rfl rfl) ?_
    refine Rk.tr (F1 := (3, 11, _, _)) (x_aload_n rfl rfl rfl) ?_
    refine Rk.tr (F1 := (3, 12, _, _)) (x_iload_n rfl rfl) ?_
    refine Rk.tr (F1 := (3, 19, _, _)) (x_ifT rfl (tg := 19) rfl (show ¬ (1 : Int32) = 0 by decide)) ?_
    refine Rk.tr (F1 := (3, 20, _, _)) (x_iconst rfl) ?_
    refine Rk.tr (F1 := (3, 21, _, _)) (x_iload_n rfl rfl) ?_
    refine Rk.tr (F1 := (3, 24, _, _)) (x_ifF rfl (tg := 37) rfl (show ¬ (1 : Int32) = 0 by decide)) ?_
    refine Rk.tr (F1 := (3, 25, _, _)) (x_aload_n rfl rfl rfl) ?_
    refine Rk.tr (F1 := (3, 28, _, _)) (m_get rfl rfl (Nat.le_of_ble_eq_true rfl)) ?_
    refine Rk.tr (F1 := (3, 30, _, _)) (x_bipush rfl) ?_
    refine Rk.tr (F1 := (3, 37, _, _)) (x_icT rfl (tg := 37) rfl (by show S1.1 22 ≤ nI 8; rw [r5]; exact nI_le (by omega) (by omega))) ?_
    refine Rk.tr (F1 := (3, 38, _, _)) (x_iconst rfl) ?_
    refine Rk.tr (F1 := (3, 41, _, _)) (m_call (As := [_, _]) rfl rfl rfl (Or.inr rfl) rfl rfl rfl (Nat.le_of_ble_eq_true rfl) c_fails0 rfl) ?_
    refine Rk.tr (F1 := (3, 46, _, _)) (x_ifT rfl (tg := 46) rfl rfl) ?_
    refine Rk.tr (F1 := (3, 47, _, _)) (x_aload_n rfl rfl rfl) ?_
    refine Rk.tr (F1 := (3, 48, _, _)) (x_iconst rfl) ?_
    refine Rk.tr (F1 := (3, 51, _, _)) (m_put rfl rfl rfl rfl rfl rfl) ?_
    refine Rk.tr (F1 := (3, 52, _, _)) (x_aload_n rfl rfl rfl) ?_
    refine Rk.tr (F1 := (3, 53, _, _)) (x_aload_n rfl rfl rfl) ?_
    refine Rk.tr (F1 := (3, 56, _, _)) (m_get rfl rfl (Nat.le_of_ble_eq_true rfl)) ?_
    refine Rk.tr (F1 := (3, 59, _, _)) (m_put rfl rfl rfl rfl rfl rfl) ?_
    refine Rk.tr (F1 := (3, 60, _, _)) (x_iconst rfl) ?_
    refine Rk.tr (F1 := (3, 61, [_, _, _], _)) (x_istore_n (i := 2) rfl (Nat.le_of_ble_eq_true rfl)) ?_
    refine Rk.tr (F1 := (3, 61, [_, none, _], _)) (x_wk ⟨Or.inr rfl, Or.inl rfl, Or.inr rfl, trivial⟩) ?_
    refine Rk.tr a1 ?_
    refine Rk.tr (F1 := (3, 88, _, _)) (x_aload_n rfl rfl rfl) ?_
    refine Rk.tr (F1 := (3, 89, _, _)) (x_aload_n rfl rfl rfl) ?_
    refine Rk.tr (F1 := (3, 92, _, _)) (m_get rfl rfl (Nat.le_of_ble_eq_true rfl)) ?_
    refine Rk.tr (F1 := (3, 95, _, _)) (m_put rfl rfl rfl rfl rfl rfl) ?_
    refine Rk.tr (F1 := (3, 96, _, _)) (x_iconst rfl) ?_
    refine Rk.tr (F1 := (3, 97, [_, _, _], _)) (x_istore_n (i := 2) rfl (Nat.le_of_ble_eq_true rfl)) ?_
    refine Rk.tr b1 ?_
    refine Rk.tr (F1 := (3, 116, _, _)) (x_aload_n rfl rfl rfl) ?_
    refine Rk.tr (F1 := (3, 119, _, _)) (m_call (As := []) rfl rfl rfl (Or.inr rfl) rfl rfl rfl (Nat.le_of_ble_eq_true rfl) (c_bindings (d := d + 4) (len := tsum (cvP cs)) e4 (by omega) e5 rfl) rfl) ?_
    exact Rk.end rfl (Or.inr (Or.inl ⟨rfl, _, .int, rfl, rfl, rfl, rfl⟩))
  · rw [b2]; show S2.1 0 = _; rw [a2]; rfl
  · rw [b2]; show S2.1 1 = _; rw [a2]; rfl
  · rw [b2]; show S2.1 3 = _; rw [a2]; rfl
  · rw [b2]; show S2.1 24 = _; rw [a2]; exact r4
  · rw [b3 42 (by decide)]; show S2.2 42 = _; rw [a3 42 (by decide)]; exact out_a r2 rfl
  · rw [b3 2 (by decide)]; show S2.2 2 = _; rw [a3 2 (by decide)]; exact out_a r2 rfl
end M16
