/-! ===== the reference's loops over its array ===== -/
def pwk : PL → PL → Prop
  | [], [] => True
  | x :: xs, y :: ys => (y = none ∨ y = x) ∧ pwk xs ys
  | _, _ => False
theorem pwk_ok : ∀ {L L' : PL}, pwk L L' → L'.length = L.length ∧ ∀ (i : Nat) (v : Value), L'[i]? = some (some v) → L[i]? = some (some v)
  | [], [], _ => ⟨rfl, fun i v h => by simp at h⟩
  | x :: xs, y :: ys, ⟨h1, h2⟩ => by
    obtain ⟨e, k⟩ := pwk_ok h2
    refine ⟨by simp [e], fun i v h => ?_⟩
    cases i with
    | zero =>
      simp only [List.getElem?_cons_zero, Option.some.injEq] at h ⊢
      rcases h1 with h1 | h1
      · rw [h1] at h; cases h
      · rw [← h1]; exact h
    | succ i => exact k i v h
theorem x_wk {E : PE} {d mi pc : Nat} {L L' : PL} {st : List Value} {h : PH} (hw : pwk L L') : Ex E d (mi, pc, L, st) h (mi, pc, L', st) h := Ex.wk (pwk_ok hw).1 (pwk_ok hw).2
theorem x_top {E : PE} {d mi pc : Nat} {L : PL} {st : List Value} {h : PH} {x y : Int32} (e : x = y) : Ex E d (mi, pc, L, .int x :: st) h (mi, pc, L, .int y :: st) h := by rw [e]; exact Ex.rf
def cntB : List It → Nat
  | [] => 0
  | it :: Q => (if it.1 = 9 then 0 else 1) + cntB Q
section M2
variable {E : PE} {d o len : Nat} {g : PH} {S : MSt}
theorem lp_bindings (hl : S.1 4 = nI len) (h8 : len ≤ 800) : ∀ (Q : List It) (p c : Nat), TokAt (S.2 5) p Q → p + tsum Q = len → Rk E (d + 1) (21, 4, [some (.ref o), some (.int (nI c)), some (.int (nI p))], []) (mh g o S) (some (.int (nI (c + cntB Q)))) (mh g o S) := by
  intro Q
  induction Q with
  | nil =>
    intro p c _ hp
    simp only [tsum] at hp
    refine Rk.tr (F1 := (21, 5, _, _)) (x_iload_n rfl rfl) ?_
    refine Rk.tr (F1 := (21, 6, _, _)) (x_aload_n rfl rfl rfl) ?_
    refine Rk.tr (F1 := (21, 9, _, _)) (m_get rfl rfl (Nat.le_of_ble_eq_true rfl)) ?_
    refine Rk.tr (F1 := (21, 42, _, _)) (x_icT rfl (tg := 42) rfl (by show S.1 4 ≤ nI p; rw [hl]; exact nI_le (by omega) (by omega))) ?_
    refine Rk.tr (F1 := (21, 43, _, _)) (x_iload_n rfl rfl) ?_
    exact Rk.end rfl (Or.inr (Or.inl ⟨rfl, _, .int, rfl, rfl, rfl, rfl⟩))
  | cons it Q ih =>
    intro p c hT hp
    obtain ⟨h1, h2⟩ := hT
    simp only [tsum] at hp
    have h3 := isz_ge it
    have hs := Tok1_sz h1
    refine Rk.tr (F1 := (21, 5, _, _)) (x_iload_n rfl rfl) ?_
    refine Rk.tr (F1 := (21, 6, _, _)) (x_aload_n rfl rfl rfl) ?_
    refine Rk.tr (F1 := (21, 9, _, _)) (m_get rfl rfl (Nat.le_of_ble_eq_true rfl)) ?_
    refine Rk.tr (F1 := (21, 12, _, _)) (x_icF rfl (tg := 42) rfl (by show ¬ S.1 4 ≤ nI p; rw [hl]; exact nI_ge (by omega) (by omega))) ?_
    have key : Ex E (d + 1) (21, 12, [some (.ref o), some (.int (nI c)), some (.int (nI p))], []) (mh g o S) (21, 29, [some (.ref o), some (.int (nI c)), some (.int (nI p))], [.int (nI (if it.1 = 9 then 0 else 1)), .int (nI c)]) (mh g o S) := by
      by_cases h9 : it.1 = 9
      · rw [if_pos h9]
        refine Ex.tr (F1 := (21, 13, _, _)) (x_iload_n rfl rfl) ?_
        refine Ex.tr (F1 := (21, 14, _, _)) (x_aload_n rfl rfl rfl) ?_
        refine Ex.tr (F1 := (21, 17, _, _)) (m_get rfl rfl (Nat.le_of_ble_eq_true rfl)) ?_
        refine Ex.tr (F1 := (21, 18, _, _)) (x_iload_n rfl rfl) ?_
        refine Ex.tr (F1 := (21, 19, _, _)) (m_iald (k := 5) (n := p) rfl rfl rfl rfl (show p < 800 by omega)) ?_
        refine Ex.tr (F1 := (21, 21, _, _)) (x_bipush rfl) ?_
        refine Ex.tr (F1 := (21, 28, _, _)) (x_icT rfl (tg := 28) rfl (fun z => (hs.2.2.2.2.1.mp z) h9)) ?_
        refine Ex.tr (F1 := (21, 29, _, _)) (x_iconst rfl) ?_
        exact Ex.rf
      · rw [if_neg h9]
        refine Ex.tr (F1 := (21, 13, _, _)) (x_iload_n rfl rfl) ?_
        refine Ex.tr (F1 := (21, 14, _, _)) (x_aload_n rfl rfl rfl) ?_
        refine Ex.tr (F1 := (21, 17, _, _)) (m_get rfl rfl (Nat.le_of_ble_eq_true rfl)) ?_
        refine Ex.tr (F1 := (21, 18, _, _)) (x_iload_n rfl rfl) ?_
        refine Ex.tr (F1 := (21, 19, _, _)) (m_iald (k := 5) (n := p) rfl rfl rfl rfl (show p < 800 by omega)) ?_
        refine Ex.tr (F1 := (21, 21, _, _)) (x_bipush rfl) ?_
        refine Ex.tr (F1 := (21, 24, _, _)) (x_icF rfl (tg := 28) rfl (fun q => q (hs.2.2.2.2.1.mpr h9))) ?_
        refine Ex.tr (F1 := (21, 25, _, _)) (x_iconst rfl) ?_
        refine Ex.tr (F1 := (21, 29, _, _)) (x_goto rfl rfl) ?_
        exact Ex.rf
    refine Rk.tr key ?_
    refine Rk.tr (F1 := (21, 30, _, _)) (x_iadd rfl) ?_
    refine Rk.tr (F1 := (21, 30, _, _)) (x_top (nI_add c _)) ?_
    refine Rk.tr (F1 := (21, 31, [_, _, _], _)) (x_istore_n (i := 1) rfl (Nat.le_of_ble_eq_true rfl)) ?_
    refine Rk.tr (F1 := (21, 32, _, _)) (x_iload_n rfl rfl) ?_
    refine Rk.tr (F1 := (21, 33, _, _)) (x_aload_n rfl rfl rfl) ?_
    refine Rk.tr (F1 := (21, 34, _, _)) (x_iload_n rfl rfl) ?_
    refine Rk.tr (F1 := (21, 37, _, _)) (m_call (As := [_]) rfl rfl rfl (Or.inr rfl) rfl rfl rfl (Nat.le_of_ble_eq_true rfl) (c_size (by omega)) rfl) ?_
    refine Rk.tr (F1 := (21, 38, _, _)) (x_iadd rfl) ?_
    refine Rk.tr (F1 := (21, 38, _, _)) (x_top (y := nI (p + isz it)) (by rw [hs.1]; exact nI_add p _)) ?_
    refine Rk.tr (F1 := (21, 39, [_, _, _], _)) (x_istore_n (i := 2) rfl (Nat.le_of_ble_eq_true rfl)) ?_
    refine Rk.tr (F1 := (21, 4, _, _)) (x_goto rfl rfl) ?_
    have := ih (p + isz it) (c + (if it.1 = 9 then 0 else 1)) h2 (by omega)
    rw [show c + (if it.1 = 9 then 0 else 1) + cntB Q = c + cntB (it :: Q) by simp only [cntB]; omega] at this
    exact this
theorem c_bindings {P : List It} (hl : S.1 4 = nI len) (h8 : len ≤ 800) (hT : TokAt (S.2 5) 0 P) (hp : tsum P = len) : Rn E (d + 1) 21 [.ref o] (mh g o S) (some (.int (nI (cntB P)))) (mh g o S) := by
  refine Rn.of (Nat.le_of_ble_eq_true rfl) ?_
  refine Rk.tr (F1 := (21, 1, _, _)) (x_iconst rfl) ?_
  refine Rk.tr (F1 := (21, 2, [_, _, _], _)) (x_istore_n (i := 1) rfl (Nat.le_of_ble_eq_true rfl)) ?_
  refine Rk.tr (F1 := (21, 3, _, _)) (x_iconst rfl) ?_
  refine Rk.tr (F1 := (21, 4, [_, _, _], _)) (x_istore_n (i := 2) rfl (Nat.le_of_ble_eq_true rfl)) ?_
  have := lp_bindings (E := E) (d := d) (o := o) (g := g) hl h8 P 0 0 hT (by omega)
  rw [Nat.zero_add] at this
  exact this
end M2
