/-! ===== the class: the scan of the code ===== -/
theorem sy_gt {cs : Nat → Int32} {n f p p' : Nat} (h : sy cs n f p = some p') : p + 2 ≤ p' := (cv_nums f (fun _ => none) p 0 p' h).2.1
theorem sy_no {cs : Nat → Int32} {n f p : Nat} (h : ¬ hok cs n p = true) : sy cs n f p = none := by
  cases f with
  | zero => rfl
  | succ f => show (if hok cs n p = true then _ else none) = none; rw [if_neg h]
theorem sy_fuel {cs : Nat → Int32} {n : Nat} : ∀ (f p : Nat), n + 1 ≤ f + p → sy cs n f p = sy cs n (f + 1) p
  | 0, p, h => by
    rw [sy_no (f := 0 + 1) (fun z => by have := (hok_iff.mp z).1; omega)]
    rfl
  | f + 1, p, h => by
    by_cases hk : hok cs n p = true
    · obtain ⟨h1, h2, h3, -⟩ := hok_iff.mp hk
      have bnd : ∀ q, p < q → (sy cs n f q).bind (fun a => sy cs n f a) = (sy cs n (f + 1) q).bind (fun a => sy cs n (f + 1) a) := fun q hq => by
        rw [sy_fuel f q (by omega)]
        cases hh : sy cs n (f + 1) q with
        | none => rfl
        | some a =>
          have := sy_gt hh
          exact sy_fuel f a (by omega)
      rcases kd7 h2 h3 with w | w | w | w | w | w | w
      · rw [sy_01 hk (Or.inl w), sy_01 hk (Or.inl w)]
      · rw [sy_01 hk (Or.inr w), sy_01 hk (Or.inr w)]
      · rw [sy_2 hk w, sy_2 hk w]; exact sy_fuel f (p + 2) (by omega)
      · rw [sy_345 hk (Or.inl w), sy_345 hk (Or.inl w)]
        exact bnd _ (by rw [w]; show p < p + 1; omega)
      · rw [sy_345 hk (Or.inr (Or.inl w)), sy_345 hk (Or.inr (Or.inl w))]
        exact bnd _ (by rw [w]; show p < p + 2; omega)
      · rw [sy_345 hk (Or.inr (Or.inr w)), sy_345 hk (Or.inr (Or.inr w))]
        exact bnd _ (by rw [w]; show p < p + 2; omega)
      · rw [sy_6 hk w, sy_6 hk w, sy_fuel f (p + 1) (by omega)]
        cases hh : sy cs n (f + 1) (p + 1) with
        | none => rfl
        | some a =>
          have := sy_gt hh
          exact bnd a (by omega)
    · rw [sy_no hk, sy_no hk]
/-- m terms one behind another -/
def sq (S : Nat → Option Nat) : Nat → Nat → Option Nat
  | 0, p => some p
  | m + 1, p => (S p).bind (fun a => sq S m a)
theorem bind_as {a : Option Nat} {F H : Nat → Option Nat} : (a.bind F).bind H = a.bind (fun x => (F x).bind H) := by cases a <;> rfl
/-- a head is read -/
theorem sq_step0 {S S' : Nat → Option Nat} {m p : Nat} (e60 : ∀ q, p < q → S' q = S q) (gt : ∀ q a, S q = some a → q + 2 ≤ a) :
    (S p = some (p + 2) → sq S (m + 1) p = sq S m (p + 2)) ∧ (S p = S' (p + 2) → sq S (m + 1) p = sq S (m + 1) (p + 2)) ∧ (∀ l, 0 < l → S p = (S' (p + l)).bind (fun a => S' a) → sq S (m + 1) p = sq S (m + 2) (p + l)) ∧ (S p = (S' (p + 1)).bind (fun a => (S' a).bind (fun b => S' b)) → sq S (m + 1) p = sq S (m + 3) (p + 1)) := by
  have b60 : ∀ q, p < q → (S' q).bind (fun a => S' a) = (S q).bind (fun a => S a) := fun q hq => by
    rw [e60 q hq]
    cases hh : S q with
    | none => rfl
    | some a => have := gt _ _ hh; exact e60 a (by omega)
  refine ⟨fun hh => ?_, fun hh => ?_, fun l hl hh => ?_, fun hh => ?_⟩
  · show (S p).bind (fun a => sq S m a) = _
    rw [hh]; rfl
  · show (S p).bind (fun a => sq S m a) = _
    rw [hh, e60 _ (by omega)]; rfl
  · show (S p).bind (fun a => sq S m a) = _
    rw [hh, b60 _ (by omega), bind_as]; rfl
  · show (S p).bind (fun a => sq S m a) = _
    rw [hh, e60 _ (by omega), bind_as]
    show _ = (S (p + 1)).bind (fun a => (S a).bind (fun b => (S b).bind (fun c => sq S m c)))
    cases hh : S (p + 1) with
    | none => rfl
    | some a =>
      have := gt _ _ hh
      show ((S' a).bind (fun b => S' b)).bind _ = _
      rw [b60 a (by omega), bind_as]
      rfl
theorem sq_step {cs : Nat → Int32} {n m p j : Nat} (hn : n ≤ 60) (hk : hok cs n p = true) (hj : j < 7) (hc : cs p = nI j) : sq (sy cs n 61) (m + 1) p = sq (sy cs n 61) (m + prt j) (p + hln j) := by
  obtain ⟨k1, k2, k3, k4⟩ := sq_step0 (S := sy cs n 61) (S' := sy cs n 60) (m := m) (p := p) (fun q hq => sy_fuel 60 q (by omega)) (fun q a hh => sy_gt hh)
  have a01 := fun w => sy_01 (f := 60) hk w
  have a2 := fun w => sy_2 (f := 60) hk w
  have a3 := fun w => sy_345 (f := 60) hk w
  have a6 := fun w => sy_6 (f := 60) hk w
  generalize sy cs n 60 = S' at *
  generalize sy cs n (60 + 1) = S at *
  rcases (show j = 0 ∨ j = 1 ∨ j = 2 ∨ j = 3 ∨ j = 4 ∨ j = 5 ∨ j = 6 by omega) with rfl | rfl | rfl | rfl | rfl | rfl | rfl
  · exact k1 (a01 (Or.inl hc))
  · exact k1 (a01 (Or.inr hc))
  · exact k2 (a2 hc)
  · have := a3 (Or.inl hc)
    rw [hc, show hl (nI 3) = 1 by decide] at this
    exact k3 1 (by omega) this
  · have := a3 (Or.inr (Or.inl hc))
    rw [hc, show hl (nI 4) = 2 by decide] at this
    exact k3 2 (by omega) this
  · have := a3 (Or.inr (Or.inr hc))
    rw [hc, show hl (nI 5) = 2 by decide] at this
    exact k3 2 (by omega) this
  · exact k4 (a6 hc)
section M53
variable {E : PE} {d : Nat} {h : PH} {O : Nat → Nat × Nat} {kz at0 k dr : Nat} {cs : Nat → Int32} {len : Int32} {M : Mn} {fr : Bool}
theorem lp_one (x : KvH h O kz cs len at0 M fr k dr) (hs : stH E h) {n : Nat} {S : Nat → Option Nat} (hn : n ≤ 60) (S0 : ∀ p, ¬ hok cs n p = true → S p = none) (S1 : ∀ m p j, hok cs n p = true → j < 7 → cs p = nI j → sq S (m + 1) p = sq S (m + prt j) (p + hln j)) : ∀ (r m p : Nat) (y : Option Value), n - p ≤ r → p ≤ n → m ≤ 2 * p + 1 →
    Rk E (d + 1) (88, 4, [some (.ref kz), some (.int (nI n)), some (.int (nI m)), some (.int (nI p)), y], []) h (some (.int (if sq S m p = some n then 1 else 0))) h := by
  obtain ⟨x1, x2, -⟩ := id x
  obtain ⟨s0, s1⟩ := id hs
  intro r
  induction r with
  | zero =>
    intro m p y hr hp hm
    have ep : p = n := by omega
    subst ep
    by_cases hm0 : m = 0
    · subst hm0
      rw [if_pos (show sq S 0 p = some p from rfl)]
      refine Rk.tr (F1 := (88, 5, _, _)) (x_iload_n rfl rfl) ?_
      refine Rk.tr (F1 := (88, 55, _, _)) (x_ifT rfl (tg := 55) rfl (Int32.le_refl _)) ?_
      refine Rk.tr (F1 := (88, 56, _, _)) (x_iload_n rfl rfl) ?_
      refine Rk.tr (F1 := (88, 59, _, _)) (x_ifF rfl (tg := 68) rfl (fun q => q rfl)) ?_
      refine Rk.tr (F1 := (88, 60, _, _)) (x_iload_n rfl rfl) ?_
      refine Rk.tr (F1 := (88, 61, _, _)) (x_iload_n rfl rfl) ?_
      refine Rk.tr (F1 := (88, 64, _, _)) (x_icF rfl (tg := 68) rfl (fun q => q rfl)) ?_
      refine Rk.tr (F1 := (88, 65, _, _)) (x_iconst rfl) ?_
      refine Rk.tr (F1 := (88, 69, _, _)) (x_goto rfl rfl) ?_
      exact Rk.end rfl (Or.inr (Or.inl ⟨rfl, _, .boolean, rfl, rfl, rfl, rfl⟩))
    · have hno : ¬ sq S m p = some p := by
        obtain ⟨m', rfl⟩ : ∃ m', m = m' + 1 := ⟨m - 1, by omega⟩
        show ¬ (S p).bind _ = _
        rw [S0 _ (fun z => by have := (hok_iff.mp z).1; omega)]
        exact fun z => by cases z
      rw [if_neg hno]
      refine Rk.tr (F1 := (88, 5, _, _)) (x_iload_n rfl rfl) ?_
      refine Rk.tr (F1 := (88, 8, _, _)) (x_ifF rfl (tg := 55) rfl (show ¬ nI m ≤ nI 0 from nI_ge (by omega) (by omega))) ?_
      refine Rk.tr (F1 := (88, 9, _, _)) (x_iload_n rfl rfl) ?_
      refine Rk.tr (F1 := (88, 10, _, _)) (x_iload_n rfl rfl) ?_
      refine Rk.tr (F1 := (88, 55, _, _)) (x_icT rfl (tg := 55) rfl (Int32.le_refl _)) ?_
      refine Rk.tr (F1 := (88, 56, _, _)) (x_iload_n rfl rfl) ?_
      refine Rk.tr (F1 := (88, 68, _, _)) (x_ifT rfl (tg := 68) rfl (show ¬ nI m = nI 0 from fun q => absurd ((nI_eq (by omega) (by omega)).mp q) (by omega))) ?_
      refine Rk.tr (F1 := (88, 69, _, _)) (x_iconst rfl) ?_
      exact Rk.end rfl (Or.inr (Or.inl ⟨rfl, _, .boolean, rfl, rfl, rfl, rfl⟩))
  | succ r ih =>
    intro m p y hr hp hm
    by_cases hm0 : m = 0
    · subst hm0
      by_cases ep : p = n
      · subst ep
        rw [if_pos (show sq S 0 p = some p from rfl)]
        refine Rk.tr (F1 := (88, 5, _, _)) (x_iload_n rfl rfl) ?_
        refine Rk.tr (F1 := (88, 55, _, _)) (x_ifT rfl (tg := 55) rfl (Int32.le_refl _)) ?_
        refine Rk.tr (F1 := (88, 56, _, _)) (x_iload_n rfl rfl) ?_
        refine Rk.tr (F1 := (88, 59, _, _)) (x_ifF rfl (tg := 68) rfl (fun q => q rfl)) ?_
        refine Rk.tr (F1 := (88, 60, _, _)) (x_iload_n rfl rfl) ?_
        refine Rk.tr (F1 := (88, 61, _, _)) (x_iload_n rfl rfl) ?_
        refine Rk.tr (F1 := (88, 64, _, _)) (x_icF rfl (tg := 68) rfl (fun q => q rfl)) ?_
        refine Rk.tr (F1 := (88, 65, _, _)) (x_iconst rfl) ?_
        refine Rk.tr (F1 := (88, 69, _, _)) (x_goto rfl rfl) ?_
        exact Rk.end rfl (Or.inr (Or.inl ⟨rfl, _, .boolean, rfl, rfl, rfl, rfl⟩))
      · rw [if_neg (show ¬ sq S 0 p = some n from fun z => ep (Option.some.inj (show some p = some n from z)))]
        refine Rk.tr (F1 := (88, 5, _, _)) (x_iload_n rfl rfl) ?_
        refine Rk.tr (F1 := (88, 55, _, _)) (x_ifT rfl (tg := 55) rfl (Int32.le_refl _)) ?_
        refine Rk.tr (F1 := (88, 56, _, _)) (x_iload_n rfl rfl) ?_
        refine Rk.tr (F1 := (88, 59, _, _)) (x_ifF rfl (tg := 68) rfl (fun q => q rfl)) ?_
        refine Rk.tr (F1 := (88, 60, _, _)) (x_iload_n rfl rfl) ?_
        refine Rk.tr (F1 := (88, 61, _, _)) (x_iload_n rfl rfl) ?_
        refine Rk.tr (F1 := (88, 68, _, _)) (x_icT rfl (tg := 68) rfl (show ¬ nI p = nI n from fun q => ep ((nI_eq (by omega) (by omega)).mp q))) ?_
        refine Rk.tr (F1 := (88, 69, _, _)) (x_iconst rfl) ?_
        exact Rk.end rfl (Or.inr (Or.inl ⟨rfl, _, .boolean, rfl, rfl, rfl, rfl⟩))
    · by_cases hpn : p < n
      · have ch := c_head (E := E) (d := d) x hs hpn hn
        obtain ⟨m', rfl⟩ : ∃ m', m = m' + 1 := ⟨m - 1, by omega⟩
        by_cases hk : hok cs n p = true
        · rw [if_pos hk] at ch
          obtain ⟨q1, q2, q3, q4, -⟩ := hok_iff.mp hk
          obtain ⟨j, hj, hc⟩ := le_nat (m := 6) (by decide) q2 q3
          have hj7 : j < 7 := by omega
          have ic : (iar 60 cs)[p]? = some (.int (nI j)) := (iar_at (by omega)).trans (by rw [hc])
          have ip := prt_at j hj7
          have il := hln_at j hj7
          rw [hc, hl_nI j hj7] at q4
          have hl1 : 1 ≤ hln j := by
            have : ∀ j, j < 7 → 1 ≤ hln j := by decide
            exact this j hj7
          have hp3 : prt j ≤ 3 ∧ prt j ≤ 2 * hln j + 1 := by
            have : ∀ j, j < 7 → prt j ≤ 3 ∧ prt j ≤ 2 * hln j + 1 := by decide
            exact this j hj7
          have nxt := ih (m' + prt j) (p + hln j) (some (.int (nI j))) (by omega) (by omega) (by omega)
          rw [S1 m' p j hk hj7 hc]
          have em : nI (m' + 1) + (nI (prt j) - 1) = nI (m' + prt j) := by
            rw [Int32.sub_eq_add_neg, ← Int32.add_assoc, ← Int32.sub_eq_add_neg, nI_add, nI_m1 (by omega)]
            congr 1
            omega
          refine Rk.tr (F1 := (88, 5, _, _)) (x_iload_n rfl rfl) ?_
          refine Rk.tr (F1 := (88, 8, _, _)) (x_ifF rfl (tg := 55) rfl (show ¬ nI (m' + 1) ≤ nI 0 from nI_ge (by omega) (by omega))) ?_
          refine Rk.tr (F1 := (88, 9, _, _)) (x_iload_n rfl rfl) ?_
          refine Rk.tr (F1 := (88, 10, _, _)) (x_iload_n rfl rfl) ?_
          refine Rk.tr (F1 := (88, 13, _, _)) (x_icF rfl (tg := 55) rfl (show ¬ nI n ≤ nI p from nI_ge (by omega) (by omega))) ?_
          refine Rk.tr (F1 := (88, 14, _, _)) (x_aload_n rfl rfl rfl) ?_
          refine Rk.tr (F1 := (88, 15, _, _)) (x_iload_n rfl rfl) ?_
          refine Rk.tr (F1 := (88, 16, _, _)) (x_iload_n rfl rfl) ?_
          refine Rk.tr (F1 := (88, 19, _, _)) (x_callv (As := [_, _]) rfl rfl rfl (Or.inr rfl) rfl rfl x1 (by decide) rfl (Nat.le_of_ble_eq_true rfl) ch rfl) ?_
          refine Rk.tr (F1 := (88, 24, _, _)) (x_ifT rfl (tg := 24) rfl (show ¬ (1 : Int32) = 0 by decide)) ?_
          refine Rk.tr (F1 := (88, 25, _, _)) (x_aload_n rfl rfl rfl) ?_
          refine Rk.tr (F1 := (88, 28, _, _)) (x_getf rfl rfl x1 rfl) ?_
          refine Rk.tr (F1 := (88, 29, _, _)) (x_iload_n rfl rfl) ?_
          refine Rk.tr (F1 := (88, 30, _, _)) (x_iald (n := p) rfl x2 rfl rfl (by omega) ic) ?_
          refine Rk.tr (F1 := (88, 32, [_, _, _, _, _], _)) (x_istore (i := 4) rfl (Nat.le_of_ble_eq_true rfl)) ?_
          refine Rk.tr (F1 := (88, 33, _, _)) (x_iload_n rfl rfl) ?_
          refine Rk.tr (F1 := (88, 36, _, _)) (x_gets rfl rfl) ?_
          refine Rk.tr (F1 := (88, 38, _, _)) (x_iload rfl rfl) ?_
          refine Rk.tr (F1 := (88, 39, _, _)) (x_iald (n := j) rfl s1 rfl rfl (by omega) ip) ?_
          refine Rk.tr (F1 := (88, 40, _, _)) (x_iconst rfl) ?_
          refine Rk.tr (F1 := (88, 41, _, _)) (x_isub rfl) ?_
          refine Rk.tr (F1 := (88, 42, _, _)) (x_iadd rfl) ?_
          refine Rk.tr (F1 := (88, 42, _, _)) (x_top em) ?_
          refine Rk.tr (F1 := (88, 43, [_, _, _, _, _], _)) (x_istore_n (i := 2) rfl (Nat.le_of_ble_eq_true rfl)) ?_
          refine Rk.tr (F1 := (88, 44, _, _)) (x_iload_n rfl rfl) ?_
          refine Rk.tr (F1 := (88, 47, _, _)) (x_gets rfl rfl) ?_
          refine Rk.tr (F1 := (88, 49, _, _)) (x_iload rfl rfl) ?_
          refine Rk.tr (F1 := (88, 50, _, _)) (x_iald (n := j) rfl s0 rfl rfl (by omega) il) ?_
          refine Rk.tr (F1 := (88, 51, _, _)) (x_iadd rfl) ?_
          refine Rk.tr (F1 := (88, 51, _, _)) (x_top (nI_add p (hln j))) ?_
          refine Rk.tr (F1 := (88, 52, [_, _, _, _, _], _)) (x_istore_n (i := 3) rfl (Nat.le_of_ble_eq_true rfl)) ?_
          refine Rk.tr (F1 := (88, 4, _, _)) (x_goto rfl rfl) ?_
          exact nxt
        · rw [if_neg hk] at ch
          have hno : ¬ sq S (m' + 1) p = some n := by
            show ¬ (S p).bind _ = _
            rw [S0 _ hk]
            exact fun z => by cases z
          rw [if_neg hno]
          refine Rk.tr (F1 := (88, 5, _, _)) (x_iload_n rfl rfl) ?_
          refine Rk.tr (F1 := (88, 8, _, _)) (x_ifF rfl (tg := 55) rfl (show ¬ nI (m' + 1) ≤ nI 0 from nI_ge (by omega) (by omega))) ?_
          refine Rk.tr (F1 := (88, 9, _, _)) (x_iload_n rfl rfl) ?_
          refine Rk.tr (F1 := (88, 10, _, _)) (x_iload_n rfl rfl) ?_
          refine Rk.tr (F1 := (88, 13, _, _)) (x_icF rfl (tg := 55) rfl (show ¬ nI n ≤ nI p from nI_ge (by omega) (by omega))) ?_
          refine Rk.tr (F1 := (88, 14, _, _)) (x_aload_n rfl rfl rfl) ?_
          refine Rk.tr (F1 := (88, 15, _, _)) (x_iload_n rfl rfl) ?_
          refine Rk.tr (F1 := (88, 16, _, _)) (x_iload_n rfl rfl) ?_
          refine Rk.tr (F1 := (88, 19, _, _)) (x_callv (As := [_, _]) rfl rfl rfl (Or.inr rfl) rfl rfl x1 (by decide) rfl (Nat.le_of_ble_eq_true rfl) ch rfl) ?_
          refine Rk.tr (F1 := (88, 22, _, _)) (x_ifF rfl (tg := 24) rfl (fun q => q rfl)) ?_
          refine Rk.tr (F1 := (88, 23, _, _)) (x_iconst rfl) ?_
          exact Rk.end rfl (Or.inr (Or.inl ⟨rfl, _, .boolean, rfl, rfl, rfl, rfl⟩))
      · have ep : p = n := by omega
        subst ep
        have hno : ¬ sq S m p = some p := by
          obtain ⟨m', rfl⟩ : ∃ m', m = m' + 1 := ⟨m - 1, by omega⟩
          show ¬ (S p).bind _ = _
          rw [S0 _ (fun z => by have := (hok_iff.mp z).1; omega)]
          exact fun z => by cases z
        rw [if_neg hno]
        refine Rk.tr (F1 := (88, 5, _, _)) (x_iload_n rfl rfl) ?_
        refine Rk.tr (F1 := (88, 8, _, _)) (x_ifF rfl (tg := 55) rfl (show ¬ nI m ≤ nI 0 from nI_ge (by omega) (by omega))) ?_
        refine Rk.tr (F1 := (88, 9, _, _)) (x_iload_n rfl rfl) ?_
        refine Rk.tr (F1 := (88, 10, _, _)) (x_iload_n rfl rfl) ?_
        refine Rk.tr (F1 := (88, 55, _, _)) (x_icT rfl (tg := 55) rfl (Int32.le_refl _)) ?_
        refine Rk.tr (F1 := (88, 56, _, _)) (x_iload_n rfl rfl) ?_
        refine Rk.tr (F1 := (88, 68, _, _)) (x_ifT rfl (tg := 68) rfl (show ¬ nI m = nI 0 from fun q => absurd ((nI_eq (by omega) (by omega)).mp q) (by omega))) ?_
        refine Rk.tr (F1 := (88, 69, _, _)) (x_iconst rfl) ?_
        exact Rk.end rfl (Or.inr (Or.inl ⟨rfl, _, .boolean, rfl, rfl, rfl, rfl⟩))
theorem c_oneT (x : KvH h O kz cs len at0 M fr k dr) (hs : stH E h) {n : Nat} (hn : n ≤ 60) : Rn E (d + 1) 88 [.ref kz, .int (nI n)] h (some (.int (if sy cs n 61 0 = some n then 1 else 0))) h := by
  have key := lp_one (E := E) (d := d) (S := sy cs n 61) x hs hn (fun p hp => sy_no hp) (fun m p j q1 q2 q3 => sq_step hn q1 q2 q3) n 1 0 none (by omega) (by omega) (by omega)
  generalize sy cs n 61 = S at *
  have e : sq S 1 0 = S 0 := by
    show (S 0).bind (fun a => some a) = _
    cases S 0 <;> rfl
  rw [e] at key
  refine Rn.of (Nat.le_of_ble_eq_true rfl) ?_
  refine Rk.tr (F1 := (88, 1, _, _)) (x_iconst rfl) ?_
  refine Rk.tr (F1 := (88, 2, [_, _, _, _, _], _)) (x_istore_n (i := 2) rfl (Nat.le_of_ble_eq_true rfl)) ?_
  refine Rk.tr (F1 := (88, 3, _, _)) (x_iconst rfl) ?_
  refine Rk.tr (F1 := (88, 4, [_, _, _, _, _], _)) (x_istore_n (i := 3) rfl (Nat.le_of_ble_eq_true rfl)) ?_
  exact key
end M53
