/-! ===== the reference's run ===== -/
def sg0 : RSt := (fun _ => (0, [], []), 0, 0, 0)
/-- what a run of the program P comes to -/
def evP (P : List It) : EvR := ev 401 P [] 0 sg0
section M20
variable {E : PE} {d o : Nat} {g : PH}
theorem lp_r0 : ∀ (r i : Nat) (S : MSt), i + r = 4 → (∀ j, j < i → S.2 42 j = 0) → ∃ S', Ex E (d + 4) (42, 24, [some (.ref o), some (.int (nI i)), none, none], []) (mh g o S) (42, 42, [some (.ref o), none, none, none], []) (mh g o S') ∧ S'.1 = S.1 ∧ (∀ k, k ≠ 42 → S'.2 k = S.2 k) ∧ ∀ j, j < 4 → S'.2 42 j = 0 := by
  intro r
  induction r with
  | zero =>
    intro i S hi hS
    have : i = 4 := by omega
    subst this
    refine ⟨S, ?_, rfl, fun _ _ => rfl, hS⟩
    refine Ex.tr (F1 := (42, 25, _, _)) (x_iload_n rfl rfl) ?_
    refine Ex.tr (F1 := (42, 26, _, _)) (x_iconst rfl) ?_
    refine Ex.tr (F1 := (42, 42, _, _)) (x_icT rfl (tg := 42) rfl (show nI 4 ≤ nI 4 from nI_le (by omega) (by omega))) ?_
    exact x_wk ⟨Or.inr rfl, Or.inl rfl, Or.inl rfl, Or.inl rfl, trivial⟩
  | succ r ih =>
    intro i S hi hS
    obtain ⟨S', r1, r2, r3, r4⟩ := ih (i + 1) (msA S 42 i 0) (by omega) (fun j hj => by
      by_cases e : j = i
      · rw [e]; exact msA_at
      · rw [msA_ne e]; exact hS j (by omega))
    refine ⟨S', ?_, r2, fun k hk => (r3 k hk).trans (funext fun j => if_neg (fun z => hk z.1)), r4⟩
    refine Ex.tr (F1 := (42, 25, _, _)) (x_iload_n rfl rfl) ?_
    refine Ex.tr (F1 := (42, 26, _, _)) (x_iconst rfl) ?_
    refine Ex.tr (F1 := (42, 29, _, _)) (x_icF rfl (tg := 42) rfl (show ¬ nI 4 ≤ nI i from nI_ge (by omega) (by omega))) ?_
    refine Ex.tr (F1 := (42, 30, _, _)) (x_aload_n rfl rfl rfl) ?_
    refine Ex.tr (F1 := (42, 33, _, _)) (m_get rfl rfl (Nat.le_of_ble_eq_true rfl)) ?_
    refine Ex.tr (F1 := (42, 34, _, _)) (x_iload_n rfl rfl) ?_
    refine Ex.tr (F1 := (42, 35, _, _)) (x_iconst rfl) ?_
    refine Ex.tr (F1 := (42, 36, _, _)) (m_iast (k := 42) (n := i) rfl rfl rfl (Nat.le_of_ble_eq_true rfl) rfl (show i < 4 by omega)) ?_
    refine Ex.tr (F1 := (42, 39, [_, _, _, _], _)) (x_iinc (i := 1) rfl rfl) ?_
    refine Ex.tr (F1 := (42, 24, [_, _, _, _], _)) (x_goto rfl rfl) ?_
    rw [show nI i + Int32.ofInt 1 = nI (i + 1) from nI_1 i]
    exact r1
theorem c_run0 {S : MSt} (h : S.1 3 = 0) : Rn E (d + 4) 42 [.ref o] (mh g o S) (some (.int 0)) (mh g o (msI S 0 1)) := by
  refine Rn.of (Nat.le_of_ble_eq_true rfl) ?_
  refine Rk.tr (F1 := (42, 1, _, _)) (x_aload_n rfl rfl rfl) ?_
  refine Rk.tr (F1 := (42, 2, _, _)) (x_aload_n rfl rfl rfl) ?_
  refine Rk.tr (F1 := (42, 5, _, _)) (m_get rfl rfl (Nat.le_of_ble_eq_true rfl)) ?_
  refine Rk.tr (F1 := (42, 8, _, _)) (x_ifF rfl (tg := 12) rfl (fun q => q h)) ?_
  refine Rk.tr (F1 := (42, 9, _, _)) (x_iconst rfl) ?_
  refine Rk.tr (F1 := (42, 13, _, _)) (x_goto rfl rfl) ?_
  refine Rk.tr (F1 := (42, 14, _, _)) (x_iconst rfl) ?_
  refine Rk.tr (F1 := (42, 17, _, _)) (m_call (As := [_, _]) rfl rfl rfl (Or.inr rfl) rfl rfl rfl (Nat.le_of_ble_eq_true rfl) (c_fails1 (d := d + 3)) rfl) ?_
  refine Rk.tr (F1 := (42, 20, _, _)) (x_ifF rfl (tg := 22) rfl (show ¬ (1 : Int32) = 0 by decide)) ?_
  refine Rk.tr (F1 := (42, 21, _, _)) (x_iconst rfl) ?_
  exact Rk.end rfl (Or.inr (Or.inl ⟨rfl, _, .int, rfl, rfl, rfl, rfl⟩))
theorem c_run {P : List It} {S : MSt} (h3 : S.1 3 ≠ 0) (hI : Inv P) (hT : TokAt (S.2 5) 0 P) : ∃ S', Rn E (d + 4) 42 [.ref o] (mh g o S) (some (.int (nI (evP P).1))) (mh g o S') ∧ ouR S' = ouR (msI S 0 0) ∧ S'.2 42 0 = (if (evP P).1 = 0 then (if (evP P).2.1.1 = true then 0 else (evP P).2.1.2) else 0) ∧ S'.2 42 1 = (if (evP P).1 = 0 then bI (evP P).2.1.1 else 0) ∧ S'.2 42 2 = nI (evP P).2.2.2.2.1 ∧ S'.2 42 3 = nI (evP P).2.2.2.2.2 := by
  obtain ⟨S1, i1, i2, i3, i4⟩ := lp_r0 (E := E) (d := d) (o := o) (g := g) 4 0 (msI S 0 0) rfl (fun j hj => absurd hj (Nat.not_lt_zero j))
  have o1 : ouR S1 = ouR (msI S 0 0) := ouR_e (fun k _ => congrFun i2 k) (fun k hk => i3 k (fun z => by rw [z] at hk; cases hk))
  obtain ⟨S2, c1, c2, c3, c4, c5⟩ := c_enters (E := E) (d := d + 3) (o := o) (g := g) (S := msI (msI (msI S1 26 0) 31 0) 35 0) (fr := 0) (dm := 0) (a := 0) (b := -1) (c := 0) (e := 0) rfl (by decide) (i4 3 (by decide)) (by decide)
  have o2 : ouR S2 = ouR (msI S 0 0) := by
    refine Eq.trans (ouR_e (S := mEnt (msI (msI (msI S1 26 0) 31 0) 35 0) 0 0 (-1) 0 0) (fun k _ => by rw [c2]) (fun k hk => c3 k (fun z => by rw [z] at hk; cases hk))) ?_
    exact ((ouR_I rfl).trans ((ouR_A rfl).trans ((ouR_A rfl).trans ((ouR_A rfl).trans ((ouR_A rfl).trans ((ouR_I rfl).trans ((ouR_I rfl).trans (ouR_I rfl)))))))).trans o1
  have beg : Ex E (d + 4) (42, 0, pent [.ref o] (mmax 42), []) (mh g o S) (C66 o) (mh g o S2) := by
    refine Ex.tr (F1 := (42, 1, _, _)) (x_aload_n rfl rfl rfl) ?_
    refine Ex.tr (F1 := (42, 2, _, _)) (x_aload_n rfl rfl rfl) ?_
    refine Ex.tr (F1 := (42, 5, _, _)) (m_get rfl rfl (Nat.le_of_ble_eq_true rfl)) ?_
    refine Ex.tr (F1 := (42, 12, _, _)) (x_ifT rfl (tg := 12) rfl h3) ?_
    refine Ex.tr (F1 := (42, 13, _, _)) (x_iconst rfl) ?_
    refine Ex.tr (F1 := (42, 14, _, _)) (x_iconst rfl) ?_
    refine Ex.tr (F1 := (42, 17, _, _)) (m_call (As := [_, _]) rfl rfl rfl (Or.inr rfl) rfl rfl rfl (Nat.le_of_ble_eq_true rfl) (c_fails0 (d := d + 3)) rfl) ?_
    refine Ex.tr (F1 := (42, 22, _, _)) (x_ifT rfl (tg := 22) rfl rfl) ?_
    refine Ex.tr (F1 := (42, 23, _, _)) (x_iconst rfl) ?_
    refine Ex.tr (F1 := (42, 24, [_, _, _, _], _)) (x_istore_n (i := 1) rfl (Nat.le_of_ble_eq_true rfl)) ?_
    refine Ex.tr i1 ?_
    refine Ex.tr (F1 := (42, 43, _, _)) (x_aload_n rfl rfl rfl) ?_
    refine Ex.tr (F1 := (42, 44, _, _)) (x_iconst rfl) ?_
    refine Ex.tr (F1 := (42, 47, _, _)) (m_put rfl rfl rfl rfl rfl rfl) ?_
    refine Ex.tr (F1 := (42, 48, _, _)) (x_aload_n rfl rfl rfl) ?_
    refine Ex.tr (F1 := (42, 49, _, _)) (x_iconst rfl) ?_
    refine Ex.tr (F1 := (42, 52, _, _)) (m_put rfl rfl rfl rfl rfl rfl) ?_
    refine Ex.tr (F1 := (42, 53, _, _)) (x_aload_n rfl rfl rfl) ?_
    refine Ex.tr (F1 := (42, 54, _, _)) (x_iconst rfl) ?_
    refine Ex.tr (F1 := (42, 57, _, _)) (m_put rfl rfl rfl rfl rfl rfl) ?_
    refine Ex.tr (F1 := (42, 58, _, _)) (x_aload_n rfl rfl rfl) ?_
    refine Ex.tr (F1 := (42, 59, _, _)) (x_iconst rfl) ?_
    refine Ex.tr (F1 := (42, 60, _, _)) (x_iconst rfl) ?_
    refine Ex.tr (F1 := (42, 61, _, _)) (x_iconst rfl) ?_
    refine Ex.tr (F1 := (42, 62, _, _)) (x_iconst rfl) ?_
    refine Ex.tr (F1 := (42, 65, _, _)) (m_call (As := [_, _, _, _]) rfl rfl rfl (Or.inr rfl) rfl rfl rfl (Nat.le_of_ble_eq_true rfl) c1 rfl) ?_
    refine Ex.tr (F1 := (42, 66, _, _)) (x_pop rfl rfl) ?_
    exact Ex.rf
  have hT2 : TokAt (S2.2 5) 0 P := by rw [ouR_a o2 rfl]; exact hT
  have hFr : FrR P S2 0 0 [] P [] 0 := by
    refine ⟨rfl, by decide, by rw [c2]; rfl, ?_, ?_, [], [], rfl, fun x hx => by cases hx⟩
    · rw [c3 36 (by decide)]
      rfl
    · show S2.2 37 0 = -1
      rw [c3 37 (by decide)]
      rfl
  have hRR : RR P S2 0 0 sg0 := by
    refine ⟨by rw [c2]; rfl, by decide, by decide, by rw [c2]; rfl, by decide, ?_, ?_, ?_, c5, by decide, fun k hk => absurd hk (Nat.not_lt_zero k)⟩
    · rw [c4 0 (by decide)]; exact i4 0 (by decide)
    · rw [c4 1 (by decide)]; exact i4 1 (by decide)
    · rw [c4 2 (by decide)]; exact i4 2 (by decide)
  obtain ⟨g1, g2⟩ := run_sim (E := E) (g := g) (o := o) (d := d) hI 401 [] P [] 0 sg0 0 S2 hT2 hFr hRR (by decide)
  unfold evP
  generalize ev 401 P [] 0 sg0 = r at g1 g2 ⊢
  by_cases hz : r.1 = 0
  · obtain ⟨S3, nc3, s1, a1, a2, a3, a4, a5, a6, -⟩ := g1 hz
    obtain ⟨b26, -, -, -, -, b0, b1, b2, b3, -⟩ := a6
    rw [hz, if_pos rfl, if_pos rfl]
    cases hv : r.2.1.1 with
    | true =>
      rw [hv] at a3
      rw [if_pos rfl]
      refine ⟨msA (msA S3 42 0 0) 42 1 1, Rn.of (Nat.le_of_ble_eq_true rfl) (Rk.tr beg (Rk.tr s1 ?_)), (ouR_A rfl).trans ((ouR_A rfl).trans (a1.trans o2)), rfl, rfl, b2, b3⟩
      refine Rk.tr (F1 := (42, 67, _, _)) (x_aload_n rfl rfl rfl) ?_
      refine Rk.tr (F1 := (42, 70, _, _)) (m_get rfl rfl (Nat.le_of_ble_eq_true rfl)) ?_
      refine Rk.tr (F1 := (42, 123, _, _)) (x_ifT rfl (tg := 123) rfl (by show S3.1 35 ≤ 0; rw [a2]; decide)) ?_
      refine Rk.tr (F1 := (42, 124, _, _)) (x_aload_n rfl rfl rfl) ?_
      refine Rk.tr (F1 := (42, 127, _, _)) (m_get rfl rfl (Nat.le_of_ble_eq_true rfl)) ?_
      refine Rk.tr (F1 := (42, 128, _, _)) (x_iconst rfl) ?_
      refine Rk.tr (F1 := (42, 129, _, _)) (x_aload_n rfl rfl rfl) ?_
      refine Rk.tr (F1 := (42, 132, _, _)) (m_get rfl rfl (Nat.le_of_ble_eq_true rfl)) ?_
      refine Rk.tr (F1 := (42, 135, _, _)) (x_ifF rfl (tg := 139) rfl (by show ¬ S3.1 40 = 0; rw [a3]; decide)) ?_
      refine Rk.tr (F1 := (42, 136, _, _)) (x_iconst rfl) ?_
      refine Rk.tr (F1 := (42, 143, _, _)) (x_goto rfl rfl) ?_
      refine Rk.tr (F1 := (42, 144, _, _)) (m_iast (k := 42) (n := 0) rfl rfl rfl (Nat.le_of_ble_eq_true rfl) rfl (Nat.le_of_ble_eq_true rfl)) ?_
      refine Rk.tr (F1 := (42, 145, _, _)) (x_aload_n rfl rfl rfl) ?_
      refine Rk.tr (F1 := (42, 148, _, _)) (m_get rfl rfl (Nat.le_of_ble_eq_true rfl)) ?_
      refine Rk.tr (F1 := (42, 149, _, _)) (x_iconst rfl) ?_
      refine Rk.tr (F1 := (42, 150, _, _)) (x_aload_n rfl rfl rfl) ?_
      refine Rk.tr (F1 := (42, 153, _, _)) (m_get rfl rfl (Nat.le_of_ble_eq_true rfl)) ?_
      refine Rk.tr (F1 := (42, 156, _, _)) (x_ifF rfl (tg := 160) rfl (by show ¬ S3.1 40 = 0; rw [a3]; decide)) ?_
      refine Rk.tr (F1 := (42, 157, _, _)) (x_iconst rfl) ?_
      refine Rk.tr (F1 := (42, 161, _, _)) (x_goto rfl rfl) ?_
      refine Rk.tr (F1 := (42, 162, _, _)) (m_iast (k := 42) (n := 1) rfl rfl rfl (Nat.le_of_ble_eq_true rfl) rfl (Nat.le_of_ble_eq_true rfl)) ?_
      refine Rk.tr (F1 := (42, 163, _, _)) (x_iconst rfl) ?_
      exact Rk.end rfl (Or.inr (Or.inl ⟨rfl, _, .int, rfl, rfl, rfl, rfl⟩))
    | false =>
      rw [hv] at a3
      rw [if_neg (by decide)]
      refine ⟨msA (msA S3 42 0 (S3.1 41)) 42 1 0, Rn.of (Nat.le_of_ble_eq_true rfl) (Rk.tr beg (Rk.tr s1 ?_)), (ouR_A rfl).trans ((ouR_A rfl).trans (a1.trans o2)), a4, rfl, b2, b3⟩
      refine Rk.tr (F1 := (42, 67, _, _)) (x_aload_n rfl rfl rfl) ?_
      refine Rk.tr (F1 := (42, 70, _, _)) (m_get rfl rfl (Nat.le_of_ble_eq_true rfl)) ?_
      refine Rk.tr (F1 := (42, 123, _, _)) (x_ifT rfl (tg := 123) rfl (by show S3.1 35 ≤ 0; rw [a2]; decide)) ?_
      refine Rk.tr (F1 := (42, 124, _, _)) (x_aload_n rfl rfl rfl) ?_
      refine Rk.tr (F1 := (42, 127, _, _)) (m_get rfl rfl (Nat.le_of_ble_eq_true rfl)) ?_
      refine Rk.tr (F1 := (42, 128, _, _)) (x_iconst rfl) ?_
      refine Rk.tr (F1 := (42, 129, _, _)) (x_aload_n rfl rfl rfl) ?_
      refine Rk.tr (F1 := (42, 132, _, _)) (m_get rfl rfl (Nat.le_of_ble_eq_true rfl)) ?_
      refine Rk.tr (F1 := (42, 139, _, _)) (x_ifT rfl (tg := 139) rfl (by show S3.1 40 = 0; rw [a3]; rfl)) ?_
      refine Rk.tr (F1 := (42, 140, _, _)) (x_aload_n rfl rfl rfl) ?_
      refine Rk.tr (F1 := (42, 143, _, _)) (m_get rfl rfl (Nat.le_of_ble_eq_true rfl)) ?_
      refine Rk.tr (F1 := (42, 144, _, _)) (m_iast (k := 42) (n := 0) rfl rfl rfl (Nat.le_of_ble_eq_true rfl) rfl (Nat.le_of_ble_eq_true rfl)) ?_
      refine Rk.tr (F1 := (42, 145, _, _)) (x_aload_n rfl rfl rfl) ?_
      refine Rk.tr (F1 := (42, 148, _, _)) (m_get rfl rfl (Nat.le_of_ble_eq_true rfl)) ?_
      refine Rk.tr (F1 := (42, 149, _, _)) (x_iconst rfl) ?_
      refine Rk.tr (F1 := (42, 150, _, _)) (x_aload_n rfl rfl rfl) ?_
      refine Rk.tr (F1 := (42, 153, _, _)) (m_get rfl rfl (Nat.le_of_ble_eq_true rfl)) ?_
      refine Rk.tr (F1 := (42, 160, _, _)) (x_ifT rfl (tg := 160) rfl (by show S3.1 40 = 0; rw [a3]; rfl)) ?_
      refine Rk.tr (F1 := (42, 161, _, _)) (x_iconst rfl) ?_
      refine Rk.tr (F1 := (42, 162, _, _)) (m_iast (k := 42) (n := 1) rfl rfl rfl (Nat.le_of_ble_eq_true rfl) rfl (Nat.le_of_ble_eq_true rfl)) ?_
      refine Rk.tr (F1 := (42, 163, _, _)) (x_iconst rfl) ?_
      exact Rk.end rfl (Or.inr (Or.inl ⟨rfl, _, .int, rfl, rfl, rfl, rfl⟩))
  · obtain ⟨S3, s1, a1, b0, b1, b2, b3⟩ := g2 hz
    rw [if_neg hz, if_neg hz]
    exact ⟨S3, Rn.of (Nat.le_of_ble_eq_true rfl) (Rk.tr beg s1), a1.trans o2, b0, b1, b2, b3⟩
end M20
