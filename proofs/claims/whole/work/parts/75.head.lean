/-! ===== the class: is the code one term ===== -/
def stH (E : PE) (h : PH) : Prop := h.1 (E.2.1 0) = some (107, [.int 2, .int 2, .int 2, .int 1, .int 2, .int 2, .int 1]) ∧ h.1 (E.2.1 1) = some (108, [.int 0, .int 0, .int 1, .int 2, .int 2, .int 2, .int 3])
def prt (j : Nat) : Nat := [0, 0, 1, 2, 2, 2, 3].getD j 0
def hln (j : Nat) : Nat := [2, 2, 2, 1, 2, 2, 1].getD j 0
theorem prt_at : ∀ j, j < 7 → ([.int 0, .int 0, .int 1, .int 2, .int 2, .int 2, .int 3] : List Value)[j]? = some (.int (nI (prt j)))
  | 0, _ => rfl
  | 1, _ => rfl
  | 2, _ => rfl
  | 3, _ => rfl
  | 4, _ => rfl
  | 5, _ => rfl
  | 6, _ => rfl
  | _ + 7, h => absurd h (by omega)
theorem hln_at : ∀ j, j < 7 → ([.int 2, .int 2, .int 2, .int 1, .int 2, .int 2, .int 1] : List Value)[j]? = some (.int (nI (hln j)))
  | 0, _ => rfl
  | 1, _ => rfl
  | 2, _ => rfl
  | 3, _ => rfl
  | 4, _ => rfl
  | 5, _ => rfl
  | 6, _ => rfl
  | _ + 7, h => absurd h (by omega)
theorem hl_nI : ∀ j, j < 7 → hl (nI j) = hln j := by decide
theorem hok_v {cs : Nat → Int32} {n p : Nat} {w : Int32} (hw : cs p = w) (h : w = 1 ∨ w = 2 ∨ w = 4) (hp : p < n) : hok cs n p = true ↔ p + 2 ≤ n ∧ 0 ≤ cs (p + 1) ∧ cs (p + 1) ≤ 9 := by
  rw [hok_iff, hw]
  rcases h with rfl | rfl | rfl
  · have e : hl (1 : Int32) = 2 := by decide
    rw [e]
    exact ⟨fun ⟨_, _, _, a, b, _⟩ => ⟨a, b rfl⟩, fun ⟨a, b⟩ => ⟨hp, by decide, by decide, a, fun _ => b, fun z => absurd z (by decide), fun z => absurd z (by decide), fun z => absurd z (by decide)⟩⟩
  · have e : hl (2 : Int32) = 2 := by decide
    rw [e]
    exact ⟨fun ⟨_, _, _, a, _, b, _⟩ => ⟨a, b rfl⟩, fun ⟨a, b⟩ => ⟨hp, by decide, by decide, a, fun z => absurd z (by decide), fun _ => b, fun z => absurd z (by decide), fun z => absurd z (by decide)⟩⟩
  · have e : hl (4 : Int32) = 2 := by decide
    rw [e]
    exact ⟨fun ⟨_, _, _, a, _, _, b, _⟩ => ⟨a, b rfl⟩, fun ⟨a, b⟩ => ⟨hp, by decide, by decide, a, fun z => absurd z (by decide), fun z => absurd z (by decide), fun _ => b, fun z => absurd z (by decide)⟩⟩
theorem hok_5 {cs : Nat → Int32} {n p : Nat} (hw : cs p = 5) (hp : p < n) : hok cs n p = true ↔ p + 2 ≤ n ∧ 0 ≤ cs (p + 1) ∧ cs (p + 1) ≤ 4 := by
  rw [hok_iff, hw]
  have e : hl (5 : Int32) = 2 := by decide
  rw [e]
  exact ⟨fun ⟨_, _, _, a, _, _, _, b⟩ => ⟨a, b rfl⟩, fun ⟨a, b⟩ => ⟨hp, by decide, by decide, a, fun z => absurd z (by decide), fun z => absurd z (by decide), fun z => absurd z (by decide), fun _ => b⟩⟩
theorem hok_0 {cs : Nat → Int32} {n p : Nat} {w : Int32} (hw : cs p = w) (h : w = 0 ∨ w = 3 ∨ w = 6) (hp : p < n) : hok cs n p = true ↔ p + hl w ≤ n := by
  rw [hok_iff, hw]
  rcases h with rfl | rfl | rfl
  · exact ⟨fun ⟨_, _, _, a, _⟩ => a, fun a => ⟨hp, by decide, by decide, a, fun z => absurd z (by decide), fun z => absurd z (by decide), fun z => absurd z (by decide), fun z => absurd z (by decide)⟩⟩
  · exact ⟨fun ⟨_, _, _, a, _⟩ => a, fun a => ⟨hp, by decide, by decide, a, fun z => absurd z (by decide), fun z => absurd z (by decide), fun z => absurd z (by decide), fun z => absurd z (by decide)⟩⟩
  · exact ⟨fun ⟨_, _, _, a, _⟩ => a, fun a => ⟨hp, by decide, by decide, a, fun z => absurd z (by decide), fun z => absurd z (by decide), fun z => absurd z (by decide), fun z => absurd z (by decide)⟩⟩
section M52
variable {E : PE} {d : Nat} {h : PH} {O : Nat → Nat × Nat} {G : PG} {kz at0 k dr : Nat} {cs : Nat → Int32} {len : Int32} {M : Mn} {fr : Bool}
theorem le10 {x : Int32} : ¬ (10 : Int32) ≤ x ↔ x ≤ 9 := by
  rw [Int32.le_iff_toInt_le, Int32.le_iff_toInt_le]
  have e1 : (10 : Int32).toInt = 10 := by decide
  have e2 : (9 : Int32).toInt = 9 := by decide
  omega
theorem le5 {x : Int32} : ¬ (5 : Int32) ≤ x ↔ x ≤ 4 := by
  rw [Int32.le_iff_toInt_le, Int32.le_iff_toInt_le]
  have e1 : (5 : Int32).toInt = 5 := by decide
  have e2 : (4 : Int32).toInt = 4 := by decide
  omega
theorem c_head (x : KvH h O kz cs len at0 M fr k dr) (hs : stH E h) {p n : Nat} (hp : p < n) (hn : n ≤ 60) : Rn E d 89 [.ref kz, .int (nI p), .int (nI n)] h (some (.int (if hok cs n p = true then 1 else 0))) h := by
  obtain ⟨x1, x2, -⟩ := x
  obtain ⟨s0, s1⟩ := hs
  have ic : (iar 60 cs)[p]? = some (.int (cs p)) := iar_at (by omega)
  refine Rn.of (Nat.le_of_ble_eq_true rfl) ?_
  by_cases h0 : cs p < 0
  · rw [if_neg (fun z => by have := (hok_iff.mp z).2.1; exact absurd h0 (Int32.not_lt.mpr this))]
    refine Rk.tr (F1 := (89, 1, _, _)) (x_aload_n rfl rfl rfl) ?_
    refine Rk.tr (F1 := (89, 4, _, _)) (x_getf rfl rfl x1 rfl) ?_
    refine Rk.tr (F1 := (89, 5, _, _)) (x_iload_n rfl rfl) ?_
    refine Rk.tr (F1 := (89, 6, _, _)) (x_iald (n := p) rfl x2 rfl rfl (by omega) ic) ?_
    refine Rk.tr (F1 := (89, 7, [_, _, _, _, _], _)) (x_istore_n (i := 3) rfl (Nat.le_of_ble_eq_true rfl)) ?_
    refine Rk.tr (F1 := (89, 8, _, _)) (x_iload_n rfl rfl) ?_
    refine Rk.tr (F1 := (89, 28, _, _)) (x_ifT rfl (tg := 28) rfl h0) ?_
    refine Rk.tr (F1 := (89, 29, _, _)) (x_iconst rfl) ?_
    exact Rk.end rfl (Or.inr (Or.inl ⟨rfl, _, .boolean, rfl, rfl, rfl, rfl⟩))
  by_cases h6 : 6 < cs p
  · rw [if_neg (fun z => by have := (hok_iff.mp z).2.2.1; exact absurd h6 (Int32.not_lt.mpr this))]
    refine Rk.tr (F1 := (89, 1, _, _)) (x_aload_n rfl rfl rfl) ?_
    refine Rk.tr (F1 := (89, 4, _, _)) (x_getf rfl rfl x1 rfl) ?_
    refine Rk.tr (F1 := (89, 5, _, _)) (x_iload_n rfl rfl) ?_
    refine Rk.tr (F1 := (89, 6, _, _)) (x_iald (n := p) rfl x2 rfl rfl (by omega) ic) ?_
    refine Rk.tr (F1 := (89, 7, [_, _, _, _, _], _)) (x_istore_n (i := 3) rfl (Nat.le_of_ble_eq_true rfl)) ?_
    refine Rk.tr (F1 := (89, 8, _, _)) (x_iload_n rfl rfl) ?_
    refine Rk.tr (F1 := (89, 11, _, _)) (x_ifF rfl (tg := 28) rfl h0) ?_
    refine Rk.tr (F1 := (89, 12, _, _)) (x_iload_n rfl rfl) ?_
    refine Rk.tr (F1 := (89, 14, _, _)) (x_bipush rfl) ?_
    refine Rk.tr (F1 := (89, 28, _, _)) (x_icT rfl (tg := 28) rfl h6) ?_
    refine Rk.tr (F1 := (89, 29, _, _)) (x_iconst rfl) ?_
    exact Rk.end rfl (Or.inr (Or.inl ⟨rfl, _, .boolean, rfl, rfl, rfl, rfl⟩))
  rcases kd7 (Int32.not_lt.mp h0) (Int32.not_lt.mp h6) with w | w | w | w | w | w | w
  · rw [w] at ic
    have hk := hok_0 (n := n) w (by decide) hp
    have eh : hl (0 : Int32) = 2 := by decide
    rw [eh] at hk
    by_cases hle : p + 2 ≤ n
    · rw [if_pos (hk.mpr hle)]
      refine Rk.tr (F1 := (89, 1, _, _)) (x_aload_n rfl rfl rfl) ?_
      refine Rk.tr (F1 := (89, 4, _, _)) (x_getf rfl rfl x1 rfl) ?_
      refine Rk.tr (F1 := (89, 5, _, _)) (x_iload_n rfl rfl) ?_
      refine Rk.tr (F1 := (89, 6, _, _)) (x_iald (n := p) rfl x2 rfl rfl (by omega) ic) ?_
      refine Rk.tr (F1 := (89, 7, [_, _, _, _, _], _)) (x_istore_n (i := 3) rfl (Nat.le_of_ble_eq_true rfl)) ?_
      refine Rk.tr (F1 := (89, 8, _, _)) (x_iload_n rfl rfl) ?_
      refine Rk.tr (F1 := (89, 11, _, _)) (x_ifF rfl (tg := 28) rfl (show ¬ (0 : Int32) < 0 by decide)) ?_
      refine Rk.tr (F1 := (89, 12, _, _)) (x_iload_n rfl rfl) ?_
      refine Rk.tr (F1 := (89, 14, _, _)) (x_bipush rfl) ?_
      refine Rk.tr (F1 := (89, 17, _, _)) (x_icF rfl (tg := 28) rfl (show ¬ (6 : Int32) < 0 by decide)) ?_
      refine Rk.tr (F1 := (89, 18, _, _)) (x_iload_n rfl rfl) ?_
      refine Rk.tr (F1 := (89, 21, _, _)) (x_gets rfl rfl) ?_
      refine Rk.tr (F1 := (89, 22, _, _)) (x_iload_n rfl rfl) ?_
      refine Rk.tr (F1 := (89, 23, _, _)) (x_iald (n := 0) rfl s0 rfl rfl (by omega) rfl) ?_
      refine Rk.tr (F1 := (89, 24, _, _)) (x_iadd rfl) ?_
      refine Rk.tr (F1 := (89, 24, _, _)) (x_top (show nI p + nI 2 = nI (p + 2) from nI_add p 2)) ?_
      refine Rk.tr (F1 := (89, 25, _, _)) (x_iload_n rfl rfl) ?_
      refine Rk.tr (F1 := (89, 30, _, _)) (x_icT rfl (tg := 30) rfl (show nI (p + 2) ≤ nI n from nI_le (by omega) (by omega))) ?_
      refine Rk.tr (F1 := (89, 31, _, _)) (x_iload_n rfl rfl) ?_
      refine Rk.tr (F1 := (89, 43, _, _)) (x_ifT rfl (tg := 43) rfl rfl) ?_
      refine Rk.tr (F1 := (89, 44, _, _)) (x_iconst rfl) ?_
      exact Rk.end rfl (Or.inr (Or.inl ⟨rfl, _, .boolean, rfl, rfl, rfl, rfl⟩))
    · rw [if_neg (fun z => hle (hk.mp z))]
      refine Rk.tr (F1 := (89, 1, _, _)) (x_aload_n rfl rfl rfl) ?_
      refine Rk.tr (F1 := (89, 4, _, _)) (x_getf rfl rfl x1 rfl) ?_
      refine Rk.tr (F1 := (89, 5, _, _)) (x_iload_n rfl rfl) ?_
      refine Rk.tr (F1 := (89, 6, _, _)) (x_iald (n := p) rfl x2 rfl rfl (by omega) ic) ?_
      refine Rk.tr (F1 := (89, 7, [_, _, _, _, _], _)) (x_istore_n (i := 3) rfl (Nat.le_of_ble_eq_true rfl)) ?_
      refine Rk.tr (F1 := (89, 8, _, _)) (x_iload_n rfl rfl) ?_
      refine Rk.tr (F1 := (89, 11, _, _)) (x_ifF rfl (tg := 28) rfl (show ¬ (0 : Int32) < 0 by decide)) ?_
      refine Rk.tr (F1 := (89, 12, _, _)) (x_iload_n rfl rfl) ?_
      refine Rk.tr (F1 := (89, 14, _, _)) (x_bipush rfl) ?_
      refine Rk.tr (F1 := (89, 17, _, _)) (x_icF rfl (tg := 28) rfl (show ¬ (6 : Int32) < 0 by decide)) ?_
      refine Rk.tr (F1 := (89, 18, _, _)) (x_iload_n rfl rfl) ?_
      refine Rk.tr (F1 := (89, 21, _, _)) (x_gets rfl rfl) ?_
      refine Rk.tr (F1 := (89, 22, _, _)) (x_iload_n rfl rfl) ?_
      refine Rk.tr (F1 := (89, 23, _, _)) (x_iald (n := 0) rfl s0 rfl rfl (by omega) rfl) ?_
      refine Rk.tr (F1 := (89, 24, _, _)) (x_iadd rfl) ?_
      refine Rk.tr (F1 := (89, 24, _, _)) (x_top (show nI p + nI 2 = nI (p + 2) from nI_add p 2)) ?_
      refine Rk.tr (F1 := (89, 25, _, _)) (x_iload_n rfl rfl) ?_
      refine Rk.tr (F1 := (89, 28, _, _)) (x_icF rfl (tg := 30) rfl (show ¬ nI (p + 2) ≤ nI n from nI_ge (by omega) (by omega))) ?_
      refine Rk.tr (F1 := (89, 29, _, _)) (x_iconst rfl) ?_
      exact Rk.end rfl (Or.inr (Or.inl ⟨rfl, _, .boolean, rfl, rfl, rfl, rfl⟩))
  · rw [w] at ic
    have hk := hok_v (n := n) w (by decide) hp
    by_cases hle : p + 2 ≤ n
    · have id1 : (iar 60 cs)[p + 1]? = some (.int (cs (p + 1))) := iar_at (by omega)
      by_cases hd0 : cs (p + 1) < 0
      · rw [if_neg (fun z => absurd hd0 (Int32.not_lt.mpr (hk.mp z).2.1))]
        refine Rk.tr (F1 := (89, 1, _, _)) (x_aload_n rfl rfl rfl) ?_
        refine Rk.tr (F1 := (89, 4, _, _)) (x_getf rfl rfl x1 rfl) ?_
        refine Rk.tr (F1 := (89, 5, _, _)) (x_iload_n rfl rfl) ?_
        refine Rk.tr (F1 := (89, 6, _, _)) (x_iald (n := p) rfl x2 rfl rfl (by omega) ic) ?_
        refine Rk.tr (F1 := (89, 7, [_, _, _, _, _], _)) (x_istore_n (i := 3) rfl (Nat.le_of_ble_eq_true rfl)) ?_
        refine Rk.tr (F1 := (89, 8, _, _)) (x_iload_n rfl rfl) ?_
        refine Rk.tr (F1 := (89, 11, _, _)) (x_ifF rfl (tg := 28) rfl (show ¬ (1 : Int32) < 0 by decide)) ?_
        refine Rk.tr (F1 := (89, 12, _, _)) (x_iload_n rfl rfl) ?_
        refine Rk.tr (F1 := (89, 14, _, _)) (x_bipush rfl) ?_
        refine Rk.tr (F1 := (89, 17, _, _)) (x_icF rfl (tg := 28) rfl (show ¬ (6 : Int32) < 1 by decide)) ?_
        refine Rk.tr (F1 := (89, 18, _, _)) (x_iload_n rfl rfl) ?_
        refine Rk.tr (F1 := (89, 21, _, _)) (x_gets rfl rfl) ?_
        refine Rk.tr (F1 := (89, 22, _, _)) (x_iload_n rfl rfl) ?_
        refine Rk.tr (F1 := (89, 23, _, _)) (x_iald (n := 1) rfl s0 rfl rfl (by omega) rfl) ?_
        refine Rk.tr (F1 := (89, 24, _, _)) (x_iadd rfl) ?_
        refine Rk.tr (F1 := (89, 24, _, _)) (x_top (show nI p + nI 2 = nI (p + 2) from nI_add p 2)) ?_
        refine Rk.tr (F1 := (89, 25, _, _)) (x_iload_n rfl rfl) ?_
        refine Rk.tr (F1 := (89, 30, _, _)) (x_icT rfl (tg := 30) rfl (show nI (p + 2) ≤ nI n from nI_le (by omega) (by omega))) ?_
        refine Rk.tr (F1 := (89, 31, _, _)) (x_iload_n rfl rfl) ?_
        refine Rk.tr (F1 := (89, 34, _, _)) (x_ifF rfl (tg := 43) rfl (show ¬ (1 : Int32) = 0 by decide)) ?_
        refine Rk.tr (F1 := (89, 37, _, _)) (x_gets rfl rfl) ?_
        refine Rk.tr (F1 := (89, 38, _, _)) (x_iload_n rfl rfl) ?_
        refine Rk.tr (F1 := (89, 39, _, _)) (x_iald (n := 1) rfl s0 rfl rfl (by omega) rfl) ?_
        refine Rk.tr (F1 := (89, 40, _, _)) (x_iconst rfl) ?_
        refine Rk.tr (F1 := (89, 45, _, _)) (x_icT rfl (tg := 45) rfl (show ¬ (2 : Int32) = 1 by decide)) ?_
        refine Rk.tr (F1 := (89, 46, _, _)) (x_aload_n rfl rfl rfl) ?_
        refine Rk.tr (F1 := (89, 49, _, _)) (x_getf rfl rfl x1 rfl) ?_
        refine Rk.tr (F1 := (89, 50, _, _)) (x_iload_n rfl rfl) ?_
        refine Rk.tr (F1 := (89, 51, _, _)) (x_iconst rfl) ?_
        refine Rk.tr (F1 := (89, 52, _, _)) (x_iadd rfl) ?_
        refine Rk.tr (F1 := (89, 52, _, _)) (x_top (nI_1 p)) ?_
        refine Rk.tr (F1 := (89, 53, _, _)) (x_iald (n := p + 1) rfl x2 rfl rfl (by omega) id1) ?_
        refine Rk.tr (F1 := (89, 55, [_, _, _, _, _], _)) (x_istore (i := 4) rfl (Nat.le_of_ble_eq_true rfl)) ?_
        refine Rk.tr (F1 := (89, 57, _, _)) (x_iload rfl rfl) ?_
        refine Rk.tr (F1 := (89, 80, _, _)) (x_ifT rfl (tg := 80) rfl hd0) ?_
        refine Rk.tr (F1 := (89, 81, _, _)) (x_iconst rfl) ?_
        exact Rk.end rfl (Or.inr (Or.inl ⟨rfl, _, .boolean, rfl, rfl, rfl, rfl⟩))
      · by_cases hd9 : (10 : Int32) ≤ cs (p + 1)
        · rw [if_neg (fun z => absurd hd9 (le10.mpr (hk.mp z).2.2))]
          refine Rk.tr (F1 := (89, 1, _, _)) (x_aload_n rfl rfl rfl) ?_
          refine Rk.tr (F1 := (89, 4, _, _)) (x_getf rfl rfl x1 rfl) ?_
          refine Rk.tr (F1 := (89, 5, _, _)) (x_iload_n rfl rfl) ?_
          refine Rk.tr (F1 := (89, 6, _, _)) (x_iald (n := p) rfl x2 rfl rfl (by omega) ic) ?_
          refine Rk.tr (F1 := (89, 7, [_, _, _, _, _], _)) (x_istore_n (i := 3) rfl (Nat.le_of_ble_eq_true rfl)) ?_
          refine Rk.tr (F1 := (89, 8, _, _)) (x_iload_n rfl rfl) ?_
          refine Rk.tr (F1 := (89, 11, _, _)) (x_ifF rfl (tg := 28) rfl (show ¬ (1 : Int32) < 0 by decide)) ?_
          refine Rk.tr (F1 := (89, 12, _, _)) (x_iload_n rfl rfl) ?_
          refine Rk.tr (F1 := (89, 14, _, _)) (x_bipush rfl) ?_
          refine Rk.tr (F1 := (89, 17, _, _)) (x_icF rfl (tg := 28) rfl (show ¬ (6 : Int32) < 1 by decide)) ?_
          refine Rk.tr (F1 := (89, 18, _, _)) (x_iload_n rfl rfl) ?_
          refine Rk.tr (F1 := (89, 21, _, _)) (x_gets rfl rfl) ?_
          refine Rk.tr (F1 := (89, 22, _, _)) (x_iload_n rfl rfl) ?_
          refine Rk.tr (F1 := (89, 23, _, _)) (x_iald (n := 1) rfl s0 rfl rfl (by omega) rfl) ?_
          refine Rk.tr (F1 := (89, 24, _, _)) (x_iadd rfl) ?_
          refine Rk.tr (F1 := (89, 24, _, _)) (x_top (show nI p + nI 2 = nI (p + 2) from nI_add p 2)) ?_
          refine Rk.tr (F1 := (89, 25, _, _)) (x_iload_n rfl rfl) ?_
          refine Rk.tr (F1 := (89, 30, _, _)) (x_icT rfl (tg := 30) rfl (show nI (p + 2) ≤ nI n from nI_le (by omega) (by omega))) ?_
          refine Rk.tr (F1 := (89, 31, _, _)) (x_iload_n rfl rfl) ?_
          refine Rk.tr (F1 := (89, 34, _, _)) (x_ifF rfl (tg := 43) rfl (show ¬ (1 : Int32) = 0 by decide)) ?_
          refine Rk.tr (F1 := (89, 37, _, _)) (x_gets rfl rfl) ?_
          refine Rk.tr (F1 := (89, 38, _, _)) (x_iload_n rfl rfl) ?_
          refine Rk.tr (F1 := (89, 39, _, _)) (x_iald (n := 1) rfl s0 rfl rfl (by omega) rfl) ?_
          refine Rk.tr (F1 := (89, 40, _, _)) (x_iconst rfl) ?_
          refine Rk.tr (F1 := (89, 45, _, _)) (x_icT rfl (tg := 45) rfl (show ¬ (2 : Int32) = 1 by decide)) ?_
          refine Rk.tr (F1 := (89, 46, _, _)) (x_aload_n rfl rfl rfl) ?_
          refine Rk.tr (F1 := (89, 49, _, _)) (x_getf rfl rfl x1 rfl) ?_
          refine Rk.tr (F1 := (89, 50, _, _)) (x_iload_n rfl rfl) ?_
          refine Rk.tr (F1 := (89, 51, _, _)) (x_iconst rfl) ?_
          refine Rk.tr (F1 := (89, 52, _, _)) (x_iadd rfl) ?_
          refine Rk.tr (F1 := (89, 52, _, _)) (x_top (nI_1 p)) ?_
          refine Rk.tr (F1 := (89, 53, _, _)) (x_iald (n := p + 1) rfl x2 rfl rfl (by omega) id1) ?_
          refine Rk.tr (F1 := (89, 55, [_, _, _, _, _], _)) (x_istore (i := 4) rfl (Nat.le_of_ble_eq_true rfl)) ?_
          refine Rk.tr (F1 := (89, 57, _, _)) (x_iload rfl rfl) ?_
          refine Rk.tr (F1 := (89, 60, _, _)) (x_ifF rfl (tg := 80) rfl hd0) ?_
          refine Rk.tr (F1 := (89, 62, _, _)) (x_iload rfl rfl) ?_
          refine Rk.tr (F1 := (89, 63, _, _)) (x_iload_n rfl rfl) ?_
          refine Rk.tr (F1 := (89, 64, _, _)) (x_iconst rfl) ?_
          refine Rk.tr (F1 := (89, 71, _, _)) (x_icT rfl (tg := 71) rfl (show ¬ (1 : Int32) = 5 by decide)) ?_
          refine Rk.tr (F1 := (89, 73, _, _)) (x_bipush rfl) ?_
          refine Rk.tr (F1 := (89, 80, _, _)) (x_icT rfl (tg := 80) rfl hd9) ?_
          refine Rk.tr (F1 := (89, 81, _, _)) (x_iconst rfl) ?_
          exact Rk.end rfl (Or.inr (Or.inl ⟨rfl, _, .boolean, rfl, rfl, rfl, rfl⟩))
        · rw [if_pos (hk.mpr ⟨hle, Int32.not_lt.mp hd0, le10.mp hd9⟩)]
          refine Rk.tr (F1 := (89, 1, _, _)) (x_aload_n rfl rfl rfl) ?_
          refine Rk.tr (F1 := (89, 4, _, _)) (x_getf rfl rfl x1 rfl) ?_
          refine Rk.tr (F1 := (89, 5, _, _)) (x_iload_n rfl rfl) ?_
          refine Rk.tr (F1 := (89, 6, _, _)) (x_iald (n := p) rfl x2 rfl rfl (by omega) ic) ?_
          refine Rk.tr (F1 := (89, 7, [_, _, _, _, _], _)) (x_istore_n (i := 3) rfl (Nat.le_of_ble_eq_true rfl)) ?_
          refine Rk.tr (F1 := (89, 8, _, _)) (x_iload_n rfl rfl) ?_
          refine Rk.tr (F1 := (89, 11, _, _)) (x_ifF rfl (tg := 28) rfl (show ¬ (1 : Int32) < 0 by decide)) ?_
          refine Rk.tr (F1 := (89, 12, _, _)) (x_iload_n rfl rfl) ?_
          refine Rk.tr (F1 := (89, 14, _, _)) (x_bipush rfl) ?_
          refine Rk.tr (F1 := (89, 17, _, _)) (x_icF rfl (tg := 28) rfl (show ¬ (6 : Int32) < 1 by decide)) ?_
          refine Rk.tr (F1 := (89, 18, _, _)) (x_iload_n rfl rfl) ?_
          refine Rk.tr (F1 := (89, 21, _, _)) (x_gets rfl rfl) ?_
          refine Rk.tr (F1 := (89, 22, _, _)) (x_iload_n rfl rfl) ?_
          refine Rk.tr (F1 := (89, 23, _, _)) (x_iald (n := 1) rfl s0 rfl rfl (by omega) rfl) ?_
          refine Rk.tr (F1 := (89, 24, _, _)) (x_iadd rfl) ?_
          refine Rk.tr (F1 := (89, 24, _, _)) (x_top (show nI p + nI 2 = nI (p + 2) from nI_add p 2)) ?_
          refine Rk.tr (F1 := (89, 25, _, _)) (x_iload_n rfl rfl) ?_
          refine Rk.tr (F1 := (89, 30, _, _)) (x_icT rfl (tg := 30) rfl (show nI (p + 2) ≤ nI n from nI_le (by omega) (by omega))) ?_
          refine Rk.tr (F1 := (89, 31, _, _)) (x_iload_n rfl rfl) ?_
          refine Rk.tr (F1 := (89, 34, _, _)) (x_ifF rfl (tg := 43) rfl (show ¬ (1 : Int32) = 0 by decide)) ?_
          refine Rk.tr (F1 := (89, 37, _, _)) (x_gets rfl rfl) ?_
          refine Rk.tr (F1 := (89, 38, _, _)) (x_iload_n rfl rfl) ?_
          refine Rk.tr (F1 := (89, 39, _, _)) (x_iald (n := 1) rfl s0 rfl rfl (by omega) rfl) ?_
          refine Rk.tr (F1 := (89, 40, _, _)) (x_iconst rfl) ?_
          refine Rk.tr (F1 := (89, 45, _, _)) (x_icT rfl (tg := 45) rfl (show ¬ (2 : Int32) = 1 by decide)) ?_
          refine Rk.tr (F1 := (89, 46, _, _)) (x_aload_n rfl rfl rfl) ?_
          refine Rk.tr (F1 := (89, 49, _, _)) (x_getf rfl rfl x1 rfl) ?_
          refine Rk.tr (F1 := (89, 50, _, _)) (x_iload_n rfl rfl) ?_
          refine Rk.tr (F1 := (89, 51, _, _)) (x_iconst rfl) ?_
          refine Rk.tr (F1 := (89, 52, _, _)) (x_iadd rfl) ?_
          refine Rk.tr (F1 := (89, 52, _, _)) (x_top (nI_1 p)) ?_
          refine Rk.tr (F1 := (89, 53, _, _)) (x_iald (n := p + 1) rfl x2 rfl rfl (by omega) id1) ?_
          refine Rk.tr (F1 := (89, 55, [_, _, _, _, _], _)) (x_istore (i := 4) rfl (Nat.le_of_ble_eq_true rfl)) ?_
          refine Rk.tr (F1 := (89, 57, _, _)) (x_iload rfl rfl) ?_
          refine Rk.tr (F1 := (89, 60, _, _)) (x_ifF rfl (tg := 80) rfl hd0) ?_
          refine Rk.tr (F1 := (89, 62, _, _)) (x_iload rfl rfl) ?_
          refine Rk.tr (F1 := (89, 63, _, _)) (x_iload_n rfl rfl) ?_
          refine Rk.tr (F1 := (89, 64, _, _)) (x_iconst rfl) ?_
          refine Rk.tr (F1 := (89, 71, _, _)) (x_icT rfl (tg := 71) rfl (show ¬ (1 : Int32) = 5 by decide)) ?_
          refine Rk.tr (F1 := (89, 73, _, _)) (x_bipush rfl) ?_
          refine Rk.tr (F1 := (89, 76, _, _)) (x_icF rfl (tg := 80) rfl hd9) ?_
          refine Rk.tr (F1 := (89, 77, _, _)) (x_iconst rfl) ?_
          refine Rk.tr (F1 := (89, 81, _, _)) (x_goto rfl rfl) ?_
          exact Rk.end rfl (Or.inr (Or.inl ⟨rfl, _, .boolean, rfl, rfl, rfl, rfl⟩))
    · rw [if_neg (fun z => hle (hk.mp z).1)]
      refine Rk.tr (F1 := (89, 1, _, _)) (x_aload_n rfl rfl rfl) ?_
      refine Rk.tr (F1 := (89, 4, _, _)) (x_getf rfl rfl x1 rfl) ?_
      refine Rk.tr (F1 := (89, 5, _, _)) (x_iload_n rfl rfl) ?_
      refine Rk.tr (F1 := (89, 6, _, _)) (x_iald (n := p) rfl x2 rfl rfl (by omega) ic) ?_
      refine Rk.tr (F1 := (89, 7, [_, _, _, _, _], _)) (x_istore_n (i := 3) rfl (Nat.le_of_ble_eq_true rfl)) ?_
      refine Rk.tr (F1 := (89, 8, _, _)) (x_iload_n rfl rfl) ?_
      refine Rk.tr (F1 := (89, 11, _, _)) (x_ifF rfl (tg := 28) rfl (show ¬ (1 : Int32) < 0 by decide)) ?_
      refine Rk.tr (F1 := (89, 12, _, _)) (x_iload_n rfl rfl) ?_
      refine Rk.tr (F1 := (89, 14, _, _)) (x_bipush rfl) ?_
      refine Rk.tr (F1 := (89, 17, _, _)) (x_icF rfl (tg := 28) rfl (show ¬ (6 : Int32) < 1 by decide)) ?_
      refine Rk.tr (F1 := (89, 18, _, _)) (x_iload_n rfl rfl) ?_
      refine Rk.tr (F1 := (89, 21, _, _)) (x_gets rfl rfl) ?_
      refine Rk.tr (F1 := (89, 22, _, _)) (x_iload_n rfl rfl) ?_
      refine Rk.tr (F1 := (89, 23, _, _)) (x_iald (n := 1) rfl s0 rfl rfl (by omega) rfl) ?_
      refine Rk.tr (F1 := (89, 24, _, _)) (x_iadd rfl) ?_
      refine Rk.tr (F1 := (89, 24, _, _)) (x_top (show nI p + nI 2 = nI (p + 2) from nI_add p 2)) ?_
      refine Rk.tr (F1 := (89, 25, _, _)) (x_iload_n rfl rfl) ?_
      refine Rk.tr (F1 := (89, 28, _, _)) (x_icF rfl (tg := 30) rfl (show ¬ nI (p + 2) ≤ nI n from nI_ge (by omega) (by omega))) ?_
      refine Rk.tr (F1 := (89, 29, _, _)) (x_iconst rfl) ?_
      exact Rk.end rfl (Or.inr (Or.inl ⟨rfl, _, .boolean, rfl, rfl, rfl, rfl⟩))
  · rw [w] at ic
    have hk := hok_v (n := n) w (by decide) hp
    by_cases hle : p + 2 ≤ n
    · have id1 : (iar 60 cs)[p + 1]? = some (.int (cs (p + 1))) := iar_at (by omega)
      by_cases hd0 : cs (p + 1) < 0
      · rw [if_neg (fun z => absurd hd0 (Int32.not_lt.mpr (hk.mp z).2.1))]
        refine Rk.tr (F1 := (89, 1, _, _)) (x_aload_n rfl rfl rfl) ?_
        refine Rk.tr (F1 := (89, 4, _, _)) (x_getf rfl rfl x1 rfl) ?_
        refine Rk.tr (F1 := (89, 5, _, _)) (x_iload_n rfl rfl) ?_
        refine Rk.tr (F1 := (89, 6, _, _)) (x_iald (n := p) rfl x2 rfl rfl (by omega) ic) ?_
        refine Rk.tr (F1 := (89, 7, [_, _, _, _, _], _)) (x_istore_n (i := 3) rfl (Nat.le_of_ble_eq_true rfl)) ?_
        refine Rk.tr (F1 := (89, 8, _, _)) (x_iload_n rfl rfl) ?_
        refine Rk.tr (F1 := (89, 11, _, _)) (x_ifF rfl (tg := 28) rfl (show ¬ (2 : Int32) < 0 by decide)) ?_
        refine Rk.tr (F1 := (89, 12, _, _)) (x_iload_n rfl rfl) ?_
        refine Rk.tr (F1 := (89, 14, _, _)) (x_bipush rfl) ?_
        refine Rk.tr (F1 := (89, 17, _, _)) (x_icF rfl (tg := 28) rfl (show ¬ (6 : Int32) < 2 by decide)) ?_
        refine Rk.tr (F1 := (89, 18, _, _)) (x_iload_n rfl rfl) ?_
        refine Rk.tr (F1 := (89, 21, _, _)) (x_gets rfl rfl) ?_
        refine Rk.tr (F1 := (89, 22, _, _)) (x_iload_n rfl rfl) ?_
        refine Rk.tr (F1 := (89, 23, _, _)) (x_iald (n := 2) rfl s0 rfl rfl (by omega) rfl) ?_
        refine Rk.tr (F1 := (89, 24, _, _)) (x_iadd rfl) ?_
        refine Rk.tr (F1 := (89, 24, _, _)) (x_top (show nI p + nI 2 = nI (p + 2) from nI_add p 2)) ?_
        refine Rk.tr (F1 := (89, 25, _, _)) (x_iload_n rfl rfl) ?_
        refine Rk.tr (F1 := (89, 30, _, _)) (x_icT rfl (tg := 30) rfl (show nI (p + 2) ≤ nI n from nI_le (by omega) (by omega))) ?_
        refine Rk.tr (F1 := (89, 31, _, _)) (x_iload_n rfl rfl) ?_
        refine Rk.tr (F1 := (89, 34, _, _)) (x_ifF rfl (tg := 43) rfl (show ¬ (2 : Int32) = 0 by decide)) ?_
        refine Rk.tr (F1 := (89, 37, _, _)) (x_gets rfl rfl) ?_
        refine Rk.tr (F1 := (89, 38, _, _)) (x_iload_n rfl rfl) ?_
        refine Rk.tr (F1 := (89, 39, _, _)) (x_iald (n := 2) rfl s0 rfl rfl (by omega) rfl) ?_
        refine Rk.tr (F1 := (89, 40, _, _)) (x_iconst rfl) ?_
        refine Rk.tr (F1 := (89, 45, _, _)) (x_icT rfl (tg := 45) rfl (show ¬ (2 : Int32) = 1 by decide)) ?_
        refine Rk.tr (F1 := (89, 46, _, _)) (x_aload_n rfl rfl rfl) ?_
        refine Rk.tr (F1 := (89, 49, _, _)) (x_getf rfl rfl x1 rfl) ?_
        refine Rk.tr (F1 := (89, 50, _, _)) (x_iload_n rfl rfl) ?_
        refine Rk.tr (F1 := (89, 51, _, _)) (x_iconst rfl) ?_
        refine Rk.tr (F1 := (89, 52, _, _)) (x_iadd rfl) ?_
        refine Rk.tr (F1 := (89, 52, _, _)) (x_top (nI_1 p)) ?_
        refine Rk.tr (F1 := (89, 53, _, _)) (x_iald (n := p + 1) rfl x2 rfl rfl (by omega) id1) ?_
        refine Rk.tr (F1 := (89, 55, [_, _, _, _, _], _)) (x_istore (i := 4) rfl (Nat.le_of_ble_eq_true rfl)) ?_
        refine Rk.tr (F1 := (89, 57, _, _)) (x_iload rfl rfl) ?_
        refine Rk.tr (F1 := (89, 80, _, _)) (x_ifT rfl (tg := 80) rfl hd0) ?_
        refine Rk.tr (F1 := (89, 81, _, _)) (x_iconst rfl) ?_
        exact Rk.end rfl (Or.inr (Or.inl ⟨rfl, _, .boolean, rfl, rfl, rfl, rfl⟩))
      · by_cases hd9 : (10 : Int32) ≤ cs (p + 1)
        · rw [if_neg (fun z => absurd hd9 (le10.mpr (hk.mp z).2.2))]
          refine Rk.tr (F1 := (89, 1, _, _)) (x_aload_n rfl rfl rfl) ?_
          refine Rk.tr (F1 := (89, 4, _, _)) (x_getf rfl rfl x1 rfl) ?_
          refine Rk.tr (F1 := (89, 5, _, _)) (x_iload_n rfl rfl) ?_
          refine Rk.tr (F1 := (89, 6, _, _)) (x_iald (n := p) rfl x2 rfl rfl (by omega) ic) ?_
          refine Rk.tr (F1 := (89, 7, [_, _, _, _, _], _)) (x_istore_n (i := 3) rfl (Nat.le_of_ble_eq_true rfl)) ?_
          refine Rk.tr (F1 := (89, 8, _, _)) (x_iload_n rfl rfl) ?_
          refine Rk.tr (F1 := (89, 11, _, _)) (x_ifF rfl (tg := 28) rfl (show ¬ (2 : Int32) < 0 by decide)) ?_
          refine Rk.tr (F1 := (89, 12, _, _)) (x_iload_n rfl rfl) ?_
          refine Rk.tr (F1 := (89, 14, _, _)) (x_bipush rfl) ?_
          refine Rk.tr (F1 := (89, 17, _, _)) (x_icF rfl (tg := 28) rfl (show ¬ (6 : Int32) < 2 by decide)) ?_
          refine Rk.tr (F1 := (89, 18, _, _)) (x_iload_n rfl rfl) ?_
          refine Rk.tr (F1 := (89, 21, _, _)) (x_gets rfl rfl) ?_
          refine Rk.tr (F1 := (89, 22, _, _)) (x_iload_n rfl rfl) ?_
          refine Rk.tr (F1 := (89, 23, _, _)) (x_iald (n := 2) rfl s0 rfl rfl (by omega) rfl) ?_
          refine Rk.tr (F1 := (89, 24, _, _)) (x_iadd rfl) ?_
          refine Rk.tr (F1 := (89, 24, _, _)) (x_top (show nI p + nI 2 = nI (p + 2) from nI_add p 2)) ?_
          refine Rk.tr (F1 := (89, 25, _, _)) (x_iload_n rfl rfl) ?_
          refine Rk.tr (F1 := (89, 30, _, _)) (x_icT rfl (tg := 30) rfl (show nI (p + 2) ≤ nI n from nI_le (by omega) (by omega))) ?_
          refine Rk.tr (F1 := (89, 31, _, _)) (x_iload_n rfl rfl) ?_
          refine Rk.tr (F1 := (89, 34, _, _)) (x_ifF rfl (tg := 43) rfl (show ¬ (2 : Int32) = 0 by decide)) ?_
          refine Rk.tr (F1 := (89, 37, _, _)) (x_gets rfl rfl) ?_
          refine Rk.tr (F1 := (89, 38, _, _)) (x_iload_n rfl rfl) ?_
          refine Rk.tr (F1 := (89, 39, _, _)) (x_iald (n := 2) rfl s0 rfl rfl (by omega) rfl) ?_
          refine Rk.tr (F1 := (89, 40, _, _)) (x_iconst rfl) ?_
          refine Rk.tr (F1 := (89, 45, _, _)) (x_icT rfl (tg := 45) rfl (show ¬ (2 : Int32) = 1 by decide)) ?_
          refine Rk.tr (F1 := (89, 46, _, _)) (x_aload_n rfl rfl rfl) ?_
          refine Rk.tr (F1 := (89, 49, _, _)) (x_getf rfl rfl x1 rfl) ?_
          refine Rk.tr (F1 := (89, 50, _, _)) (x_iload_n rfl rfl) ?_
          refine Rk.tr (F1 := (89, 51, _, _)) (x_iconst rfl) ?_
          refine Rk.tr (F1 := (89, 52, _, _)) (x_iadd rfl) ?_
          refine Rk.tr (F1 := (89, 52, _, _)) (x_top (nI_1 p)) ?_
          refine Rk.tr (F1 := (89, 53, _, _)) (x_iald (n := p + 1) rfl x2 rfl rfl (by omega) id1) ?_
          refine Rk.tr (F1 := (89, 55, [_, _, _, _, _], _)) (x_istore (i := 4) rfl (Nat.le_of_ble_eq_true rfl)) ?_
          refine Rk.tr (F1 := (89, 57, _, _)) (x_iload rfl rfl) ?_
          refine Rk.tr (F1 := (89, 60, _, _)) (x_ifF rfl (tg := 80) rfl hd0) ?_
          refine Rk.tr (F1 := (89, 62, _, _)) (x_iload rfl rfl) ?_
          refine Rk.tr (F1 := (89, 63, _, _)) (x_iload_n rfl rfl) ?_
          refine Rk.tr (F1 := (89, 64, _, _)) (x_iconst rfl) ?_
          refine Rk.tr (F1 := (89, 71, _, _)) (x_icT rfl (tg := 71) rfl (show ¬ (2 : Int32) = 5 by decide)) ?_
          refine Rk.tr (F1 := (89, 73, _, _)) (x_bipush rfl) ?_
          refine Rk.tr (F1 := (89, 80, _, _)) (x_icT rfl (tg := 80) rfl hd9) ?_
          refine Rk.tr (F1 := (89, 81, _, _)) (x_iconst rfl) ?_
          exact Rk.end rfl (Or.inr (Or.inl ⟨rfl, _, .boolean, rfl, rfl, rfl, rfl⟩))
        · rw [if_pos (hk.mpr ⟨hle, Int32.not_lt.mp hd0, le10.mp hd9⟩)]
          refine Rk.tr (F1 := (89, 1, _, _)) (x_aload_n rfl rfl rfl) ?_
          refine Rk.tr (F1 := (89, 4, _, _)) (x_getf rfl rfl x1 rfl) ?_
          refine Rk.tr (F1 := (89, 5, _, _)) (x_iload_n rfl rfl) ?_
          refine Rk.tr (F1 := (89, 6, _, _)) (x_iald (n := p) rfl x2 rfl rfl (by omega) ic) ?_
          refine Rk.tr (F1 := (89, 7, [_, _, _, _, _], _)) (x_istore_n (i := 3) rfl (Nat.le_of_ble_eq_true rfl)) ?_
          refine Rk.tr (F1 := (89, 8, _, _)) (x_iload_n rfl rfl) ?_
          refine Rk.tr (F1 := (89, 11, _, _)) (x_ifF rfl (tg := 28) rfl (show ¬ (2 : Int32) < 0 by decide)) ?_
          refine Rk.tr (F1 := (89, 12, _, _)) (x_iload_n rfl rfl) ?_
          refine Rk.tr (F1 := (89, 14, _, _)) (x_bipush rfl) ?_
          refine Rk.tr (F1 := (89, 17, _, _)) (x_icF rfl (tg := 28) rfl (show ¬ (6 : Int32) < 2 by decide)) ?_
          refine Rk.tr (F1 := (89, 18, _, _)) (x_iload_n rfl rfl) ?_
          refine Rk.tr (F1 := (89, 21, _, _)) (x_gets rfl rfl) ?_
          refine Rk.tr (F1 := (89, 22, _, _)) (x_iload_n rfl rfl) ?_
          refine Rk.tr (F1 := (89, 23, _, _)) (x_iald (n := 2) rfl s0 rfl rfl (by omega) rfl) ?_
          refine Rk.tr (F1 := (89, 24, _, _)) (x_iadd rfl) ?_
          refine Rk.tr (F1 := (89, 24, _, _)) (x_top (show nI p + nI 2 = nI (p + 2) from nI_add p 2)) ?_
          refine Rk.tr (F1 := (89, 25, _, _)) (x_iload_n rfl rfl) ?_
          refine Rk.tr (F1 := (89, 30, _, _)) (x_icT rfl (tg := 30) rfl (show nI (p + 2) ≤ nI n from nI_le (by omega) (by omega))) ?_
          refine Rk.tr (F1 := (89, 31, _, _)) (x_iload_n rfl rfl) ?_
          refine Rk.tr (F1 := (89, 34, _, _)) (x_ifF rfl (tg := 43) rfl (show ¬ (2 : Int32) = 0 by decide)) ?_
          refine Rk.tr (F1 := (89, 37, _, _)) (x_gets rfl rfl) ?_
          refine Rk.tr (F1 := (89, 38, _, _)) (x_iload_n rfl rfl) ?_
          refine Rk.tr (F1 := (89, 39, _, _)) (x_iald (n := 2) rfl s0 rfl rfl (by omega) rfl) ?_
          refine Rk.tr (F1 := (89, 40, _, _)) (x_iconst rfl) ?_
          refine Rk.tr (F1 := (89, 45, _, _)) (x_icT rfl (tg := 45) rfl (show ¬ (2 : Int32) = 1 by decide)) ?_
          refine Rk.tr (F1 := (89, 46, _, _)) (x_aload_n rfl rfl rfl) ?_
          refine Rk.tr (F1 := (89, 49, _, _)) (x_getf rfl rfl x1 rfl) ?_
          refine Rk.tr (F1 := (89, 50, _, _)) (x_iload_n rfl rfl) ?_
          refine Rk.tr (F1 := (89, 51, _, _)) (x_iconst rfl) ?_
          refine Rk.tr (F1 := (89, 52, _, _)) (x_iadd rfl) ?_
          refine Rk.tr (F1 := (89, 52, _, _)) (x_top (nI_1 p)) ?_
          refine Rk.tr (F1 := (89, 53, _, _)) (x_iald (n := p + 1) rfl x2 rfl rfl (by omega) id1) ?_
          refine Rk.tr (F1 := (89, 55, [_, _, _, _, _], _)) (x_istore (i := 4) rfl (Nat.le_of_ble_eq_true rfl)) ?_
          refine Rk.tr (F1 := (89, 57, _, _)) (x_iload rfl rfl) ?_
          refine Rk.tr (F1 := (89, 60, _, _)) (x_ifF rfl (tg := 80) rfl hd0) ?_
          refine Rk.tr (F1 := (89, 62, _, _)) (x_iload rfl rfl) ?_
          refine Rk.tr (F1 := (89, 63, _, _)) (x_iload_n rfl rfl) ?_
          refine Rk.tr (F1 := (89, 64, _, _)) (x_iconst rfl) ?_
          refine Rk.tr (F1 := (89, 71, _, _)) (x_icT rfl (tg := 71) rfl (show ¬ (2 : Int32) = 5 by decide)) ?_
          refine Rk.tr (F1 := (89, 73, _, _)) (x_bipush rfl) ?_
          refine Rk.tr (F1 := (89, 76, _, _)) (x_icF rfl (tg := 80) rfl hd9) ?_
          refine Rk.tr (F1 := (89, 77, _, _)) (x_iconst rfl) ?_
          refine Rk.tr (F1 := (89, 81, _, _)) (x_goto rfl rfl) ?_
          exact Rk.end rfl (Or.inr (Or.inl ⟨rfl, _, .boolean, rfl, rfl, rfl, rfl⟩))
    · rw [if_neg (fun z => hle (hk.mp z).1)]
      refine Rk.tr (F1 := (89, 1, _, _)) (x_aload_n rfl rfl rfl) ?_
      refine Rk.tr (F1 := (89, 4, _, _)) (x_getf rfl rfl x1 rfl) ?_
      refine Rk.tr (F1 := (89, 5, _, _)) (x_iload_n rfl rfl) ?_
      refine Rk.tr (F1 := (89, 6, _, _)) (x_iald (n := p) rfl x2 rfl rfl (by omega) ic) ?_
      refine Rk.tr (F1 := (89, 7, [_, _, _, _, _], _)) (x_istore_n (i := 3) rfl (Nat.le_of_ble_eq_true rfl)) ?_
      refine Rk.tr (F1 := (89, 8, _, _)) (x_iload_n rfl rfl) ?_
      refine Rk.tr (F1 := (89, 11, _, _)) (x_ifF rfl (tg := 28) rfl (show ¬ (2 : Int32) < 0 by decide)) ?_
      refine Rk.tr (F1 := (89, 12, _, _)) (x_iload_n rfl rfl) ?_
      refine Rk.tr (F1 := (89, 14, _, _)) (x_bipush rfl) ?_
      refine Rk.tr (F1 := (89, 17, _, _)) (x_icF rfl (tg := 28) rfl (show ¬ (6 : Int32) < 2 by decide)) ?_
      refine Rk.tr (F1 := (89, 18, _, _)) (x_iload_n rfl rfl) ?_
      refine Rk.tr (F1 := (89, 21, _, _)) (x_gets rfl rfl) ?_
      refine Rk.tr (F1 := (89, 22, _, _)) (x_iload_n rfl rfl) ?_
      refine Rk.tr (F1 := (89, 23, _, _)) (x_iald (n := 2) rfl s0 rfl rfl (by omega) rfl) ?_
      refine Rk.tr (F1 := (89, 24, _, _)) (x_iadd rfl) ?_
      refine Rk.tr (F1 := (89, 24, _, _)) (x_top (show nI p + nI 2 = nI (p + 2) from nI_add p 2)) ?_
      refine Rk.tr (F1 := (89, 25, _, _)) (x_iload_n rfl rfl) ?_
      refine Rk.tr (F1 := (89, 28, _, _)) (x_icF rfl (tg := 30) rfl (show ¬ nI (p + 2) ≤ nI n from nI_ge (by omega) (by omega))) ?_
      refine Rk.tr (F1 := (89, 29, _, _)) (x_iconst rfl) ?_
      exact Rk.end rfl (Or.inr (Or.inl ⟨rfl, _, .boolean, rfl, rfl, rfl, rfl⟩))
  · rw [w] at ic
    have hk := hok_0 (n := n) w (by decide) hp
    have eh : hl (3 : Int32) = 1 := by decide
    rw [eh] at hk
    by_cases hle : p + 1 ≤ n
    · rw [if_pos (hk.mpr hle)]
      refine Rk.tr (F1 := (89, 1, _, _)) (x_aload_n rfl rfl rfl) ?_
      refine Rk.tr (F1 := (89, 4, _, _)) (x_getf rfl rfl x1 rfl) ?_
      refine Rk.tr (F1 := (89, 5, _, _)) (x_iload_n rfl rfl) ?_
      refine Rk.tr (F1 := (89, 6, _, _)) (x_iald (n := p) rfl x2 rfl rfl (by omega) ic) ?_
      refine Rk.tr (F1 := (89, 7, [_, _, _, _, _], _)) (x_istore_n (i := 3) rfl (Nat.le_of_ble_eq_true rfl)) ?_
      refine Rk.tr (F1 := (89, 8, _, _)) (x_iload_n rfl rfl) ?_
      refine Rk.tr (F1 := (89, 11, _, _)) (x_ifF rfl (tg := 28) rfl (show ¬ (3 : Int32) < 0 by decide)) ?_
      refine Rk.tr (F1 := (89, 12, _, _)) (x_iload_n rfl rfl) ?_
      refine Rk.tr (F1 := (89, 14, _, _)) (x_bipush rfl) ?_
      refine Rk.tr (F1 := (89, 17, _, _)) (x_icF rfl (tg := 28) rfl (show ¬ (6 : Int32) < 3 by decide)) ?_
      refine Rk.tr (F1 := (89, 18, _, _)) (x_iload_n rfl rfl) ?_
      refine Rk.tr (F1 := (89, 21, _, _)) (x_gets rfl rfl) ?_
      refine Rk.tr (F1 := (89, 22, _, _)) (x_iload_n rfl rfl) ?_
      refine Rk.tr (F1 := (89, 23, _, _)) (x_iald (n := 3) rfl s0 rfl rfl (by omega) rfl) ?_
      refine Rk.tr (F1 := (89, 24, _, _)) (x_iadd rfl) ?_
      refine Rk.tr (F1 := (89, 24, _, _)) (x_top (show nI p + nI 1 = nI (p + 1) from nI_add p 1)) ?_
      refine Rk.tr (F1 := (89, 25, _, _)) (x_iload_n rfl rfl) ?_
      refine Rk.tr (F1 := (89, 30, _, _)) (x_icT rfl (tg := 30) rfl (show nI (p + 1) ≤ nI n from nI_le (by omega) (by omega))) ?_
      refine Rk.tr (F1 := (89, 31, _, _)) (x_iload_n rfl rfl) ?_
      refine Rk.tr (F1 := (89, 34, _, _)) (x_ifF rfl (tg := 43) rfl (show ¬ (3 : Int32) = 0 by decide)) ?_
      refine Rk.tr (F1 := (89, 37, _, _)) (x_gets rfl rfl) ?_
      refine Rk.tr (F1 := (89, 38, _, _)) (x_iload_n rfl rfl) ?_
      refine Rk.tr (F1 := (89, 39, _, _)) (x_iald (n := 3) rfl s0 rfl rfl (by omega) rfl) ?_
      refine Rk.tr (F1 := (89, 40, _, _)) (x_iconst rfl) ?_
      refine Rk.tr (F1 := (89, 43, _, _)) (x_icF rfl (tg := 45) rfl (fun z => z rfl)) ?_
      refine Rk.tr (F1 := (89, 44, _, _)) (x_iconst rfl) ?_
      exact Rk.end rfl (Or.inr (Or.inl ⟨rfl, _, .boolean, rfl, rfl, rfl, rfl⟩))
    · rw [if_neg (fun z => hle (hk.mp z))]
      refine Rk.tr (F1 := (89, 1, _, _)) (x_aload_n rfl rfl rfl) ?_
      refine Rk.tr (F1 := (89, 4, _, _)) (x_getf rfl rfl x1 rfl) ?_
      refine Rk.tr (F1 := (89, 5, _, _)) (x_iload_n rfl rfl) ?_
      refine Rk.tr (F1 := (89, 6, _, _)) (x_iald (n := p) rfl x2 rfl rfl (by omega) ic) ?_
      refine Rk.tr (F1 := (89, 7, [_, _, _, _, _], _)) (x_istore_n (i := 3) rfl (Nat.le_of_ble_eq_true rfl)) ?_
      refine Rk.tr (F1 := (89, 8, _, _)) (x_iload_n rfl rfl) ?_
      refine Rk.tr (F1 := (89, 11, _, _)) (x_ifF rfl (tg := 28) rfl (show ¬ (3 : Int32) < 0 by decide)) ?_
      refine Rk.tr (F1 := (89, 12, _, _)) (x_iload_n rfl rfl) ?_
      refine Rk.tr (F1 := (89, 14, _, _)) (x_bipush rfl) ?_
      refine Rk.tr (F1 := (89, 17, _, _)) (x_icF rfl (tg := 28) rfl (show ¬ (6 : Int32) < 3 by decide)) ?_
      refine Rk.tr (F1 := (89, 18, _, _)) (x_iload_n rfl rfl) ?_
      refine Rk.tr (F1 := (89, 21, _, _)) (x_gets rfl rfl) ?_
      refine Rk.tr (F1 := (89, 22, _, _)) (x_iload_n rfl rfl) ?_
      refine Rk.tr (F1 := (89, 23, _, _)) (x_iald (n := 3) rfl s0 rfl rfl (by omega) rfl) ?_
      refine Rk.tr (F1 := (89, 24, _, _)) (x_iadd rfl) ?_
      refine Rk.tr (F1 := (89, 24, _, _)) (x_top (show nI p + nI 1 = nI (p + 1) from nI_add p 1)) ?_
      refine Rk.tr (F1 := (89, 25, _, _)) (x_iload_n rfl rfl) ?_
      refine Rk.tr (F1 := (89, 28, _, _)) (x_icF rfl (tg := 30) rfl (show ¬ nI (p + 1) ≤ nI n from nI_ge (by omega) (by omega))) ?_
      refine Rk.tr (F1 := (89, 29, _, _)) (x_iconst rfl) ?_
      exact Rk.end rfl (Or.inr (Or.inl ⟨rfl, _, .boolean, rfl, rfl, rfl, rfl⟩))
  · rw [w] at ic
    have hk := hok_v (n := n) w (by decide) hp
    by_cases hle : p + 2 ≤ n
    · have id1 : (iar 60 cs)[p + 1]? = some (.int (cs (p + 1))) := iar_at (by omega)
      by_cases hd0 : cs (p + 1) < 0
      · rw [if_neg (fun z => absurd hd0 (Int32.not_lt.mpr (hk.mp z).2.1))]
        refine Rk.tr (F1 := (89, 1, _, _)) (x_aload_n rfl rfl rfl) ?_
        refine Rk.tr (F1 := (89, 4, _, _)) (x_getf rfl rfl x1 rfl) ?_
        refine Rk.tr (F1 := (89, 5, _, _)) (x_iload_n rfl rfl) ?_
        refine Rk.tr (F1 := (89, 6, _, _)) (x_iald (n := p) rfl x2 rfl rfl (by omega) ic) ?_
        refine Rk.tr (F1 := (89, 7, [_, _, _, _, _], _)) (x_istore_n (i := 3) rfl (Nat.le_of_ble_eq_true rfl)) ?_
        refine Rk.tr (F1 := (89, 8, _, _)) (x_iload_n rfl rfl) ?_
        refine Rk.tr (F1 := (89, 11, _, _)) (x_ifF rfl (tg := 28) rfl (show ¬ (4 : Int32) < 0 by decide)) ?_
        refine Rk.tr (F1 := (89, 12, _, _)) (x_iload_n rfl rfl) ?_
        refine Rk.tr (F1 := (89, 14, _, _)) (x_bipush rfl) ?_
        refine Rk.tr (F1 := (89, 17, _, _)) (x_icF rfl (tg := 28) rfl (show ¬ (6 : Int32) < 4 by decide)) ?_
        refine Rk.tr (F1 := (89, 18, _, _)) (x_iload_n rfl rfl) ?_
        refine Rk.tr (F1 := (89, 21, _, _)) (x_gets rfl rfl) ?_
        refine Rk.tr (F1 := (89, 22, _, _)) (x_iload_n rfl rfl) ?_
        refine Rk.tr (F1 := (89, 23, _, _)) (x_iald (n := 4) rfl s0 rfl rfl (by omega) rfl) ?_
        refine Rk.tr (F1 := (89, 24, _, _)) (x_iadd rfl) ?_
        refine Rk.tr (F1 := (89, 24, _, _)) (x_top (show nI p + nI 2 = nI (p + 2) from nI_add p 2)) ?_
        refine Rk.tr (F1 := (89, 25, _, _)) (x_iload_n rfl rfl) ?_
        refine Rk.tr (F1 := (89, 30, _, _)) (x_icT rfl (tg := 30) rfl (show nI (p + 2) ≤ nI n from nI_le (by omega) (by omega))) ?_
        refine Rk.tr (F1 := (89, 31, _, _)) (x_iload_n rfl rfl) ?_
        refine Rk.tr (F1 := (89, 34, _, _)) (x_ifF rfl (tg := 43) rfl (show ¬ (4 : Int32) = 0 by decide)) ?_
        refine Rk.tr (F1 := (89, 37, _, _)) (x_gets rfl rfl) ?_
        refine Rk.tr (F1 := (89, 38, _, _)) (x_iload_n rfl rfl) ?_
        refine Rk.tr (F1 := (89, 39, _, _)) (x_iald (n := 4) rfl s0 rfl rfl (by omega) rfl) ?_
        refine Rk.tr (F1 := (89, 40, _, _)) (x_iconst rfl) ?_
        refine Rk.tr (F1 := (89, 45, _, _)) (x_icT rfl (tg := 45) rfl (show ¬ (2 : Int32) = 1 by decide)) ?_
        refine Rk.tr (F1 := (89, 46, _, _)) (x_aload_n rfl rfl rfl) ?_
        refine Rk.tr (F1 := (89, 49, _, _)) (x_getf rfl rfl x1 rfl) ?_
        refine Rk.tr (F1 := (89, 50, _, _)) (x_iload_n rfl rfl) ?_
        refine Rk.tr (F1 := (89, 51, _, _)) (x_iconst rfl) ?_
        refine Rk.tr (F1 := (89, 52, _, _)) (x_iadd rfl) ?_
        refine Rk.tr (F1 := (89, 52, _, _)) (x_top (nI_1 p)) ?_
        refine Rk.tr (F1 := (89, 53, _, _)) (x_iald (n := p + 1) rfl x2 rfl rfl (by omega) id1) ?_
        refine Rk.tr (F1 := (89, 55, [_, _, _, _, _], _)) (x_istore (i := 4) rfl (Nat.le_of_ble_eq_true rfl)) ?_
        refine Rk.tr (F1 := (89, 57, _, _)) (x_iload rfl rfl) ?_
        refine Rk.tr (F1 := (89, 80, _, _)) (x_ifT rfl (tg := 80) rfl hd0) ?_
        refine Rk.tr (F1 := (89, 81, _, _)) (x_iconst rfl) ?_
        exact Rk.end rfl (Or.inr (Or.inl ⟨rfl, _, .boolean, rfl, rfl, rfl, rfl⟩))
      · by_cases hd9 : (10 : Int32) ≤ cs (p + 1)
        · rw [if_neg (fun z => absurd hd9 (le10.mpr (hk.mp z).2.2))]
          refine Rk.tr (F1 := (89, 1, _, _)) (x_aload_n rfl rfl rfl) ?_
          refine Rk.tr (F1 := (89, 4, _, _)) (x_getf rfl rfl x1 rfl) ?_
          refine Rk.tr (F1 := (89, 5, _, _)) (x_iload_n rfl rfl) ?_
          refine Rk.tr (F1 := (89, 6, _, _)) (x_iald (n := p) rfl x2 rfl rfl (by omega) ic) ?_
          refine Rk.tr (F1 := (89, 7, [_, _, _, _, _], _)) (x_istore_n (i := 3) rfl (Nat.le_of_ble_eq_true rfl)) ?_
          refine Rk.tr (F1 := (89, 8, _, _)) (x_iload_n rfl rfl) ?_
          refine Rk.tr (F1 := (89, 11, _, _)) (x_ifF rfl (tg := 28) rfl (show ¬ (4 : Int32) < 0 by decide)) ?_
          refine Rk.tr (F1 := (89, 12, _, _)) (x_iload_n rfl rfl) ?_
          refine Rk.tr (F1 := (89, 14, _, _)) (x_bipush rfl) ?_
          refine Rk.tr (F1 := (89, 17, _, _)) (x_icF rfl (tg := 28) rfl (show ¬ (6 : Int32) < 4 by decide)) ?_
          refine Rk.tr (F1 := (89, 18, _, _)) (x_iload_n rfl rfl) ?_
          refine Rk.tr (F1 := (89, 21, _, _)) (x_gets rfl rfl) ?_
          refine Rk.tr (F1 := (89, 22, _, _)) (x_iload_n rfl rfl) ?_
          refine Rk.tr (F1 := (89, 23, _, _)) (x_iald (n := 4) rfl s0 rfl rfl (by omega) rfl) ?_
          refine Rk.tr (F1 := (89, 24, _, _)) (x_iadd rfl) ?_
          refine Rk.tr (F1 := (89, 24, _, _)) (x_top (show nI p + nI 2 = nI (p + 2) from nI_add p 2)) ?_
          refine Rk.tr (F1 := (89, 25, _, _)) (x_iload_n rfl rfl) ?_
          refine Rk.tr (F1 := (89, 30, _, _)) (x_icT rfl (tg := 30) rfl (show nI (p + 2) ≤ nI n from nI_le (by omega) (by omega))) ?_
          refine Rk.tr (F1 := (89, 31, _, _)) (x_iload_n rfl rfl) ?_
          refine Rk.tr (F1 := (89, 34, _, _)) (x_ifF rfl (tg := 43) rfl (show ¬ (4 : Int32) = 0 by decide)) ?_
          refine Rk.tr (F1 := (89, 37, _, _)) (x_gets rfl rfl) ?_
          refine Rk.tr (F1 := (89, 38, _, _)) (x_iload_n rfl rfl) ?_
          refine Rk.tr (F1 := (89, 39, _, _)) (x_iald (n := 4) rfl s0 rfl rfl (by omega) rfl) ?_
          refine Rk.tr (F1 := (89, 40, _, _)) (x_iconst rfl) ?_
          refine Rk.tr (F1 := (89, 45, _, _)) (x_icT rfl (tg := 45) rfl (show ¬ (2 : Int32) = 1 by decide)) ?_
          refine Rk.tr (F1 := (89, 46, _, _)) (x_aload_n rfl rfl rfl) ?_
          refine Rk.tr (F1 := (89, 49, _, _)) (x_getf rfl rfl x1 rfl) ?_
          refine Rk.tr (F1 := (89, 50, _, _)) (x_iload_n rfl rfl) ?_
          refine Rk.tr (F1 := (89, 51, _, _)) (x_iconst rfl) ?_
          refine Rk.tr (F1 := (89, 52, _, _)) (x_iadd rfl) ?_
          refine Rk.tr (F1 := (89, 52, _, _)) (x_top (nI_1 p)) ?_
          refine Rk.tr (F1 := (89, 53, _, _)) (x_iald (n := p + 1) rfl x2 rfl rfl (by omega) id1) ?_
          refine Rk.tr (F1 := (89, 55, [_, _, _, _, _], _)) (x_istore (i := 4) rfl (Nat.le_of_ble_eq_true rfl)) ?_
          refine Rk.tr (F1 := (89, 57, _, _)) (x_iload rfl rfl) ?_
          refine Rk.tr (F1 := (89, 60, _, _)) (x_ifF rfl (tg := 80) rfl hd0) ?_
          refine Rk.tr (F1 := (89, 62, _, _)) (x_iload rfl rfl) ?_
          refine Rk.tr (F1 := (89, 63, _, _)) (x_iload_n rfl rfl) ?_
          refine Rk.tr (F1 := (89, 64, _, _)) (x_iconst rfl) ?_
          refine Rk.tr (F1 := (89, 71, _, _)) (x_icT rfl (tg := 71) rfl (show ¬ (4 : Int32) = 5 by decide)) ?_
          refine Rk.tr (F1 := (89, 73, _, _)) (x_bipush rfl) ?_
          refine Rk.tr (F1 := (89, 80, _, _)) (x_icT rfl (tg := 80) rfl hd9) ?_
          refine Rk.tr (F1 := (89, 81, _, _)) (x_iconst rfl) ?_
          exact Rk.end rfl (Or.inr (Or.inl ⟨rfl, _, .boolean, rfl, rfl, rfl, rfl⟩))
        · rw [if_pos (hk.mpr ⟨hle, Int32.not_lt.mp hd0, le10.mp hd9⟩)]
          refine Rk.tr (F1 := (89, 1, _, _)) (x_aload_n rfl rfl rfl) ?_
          refine Rk.tr (F1 := (89, 4, _, _)) (x_getf rfl rfl x1 rfl) ?_
          refine Rk.tr (F1 := (89, 5, _, _)) (x_iload_n rfl rfl) ?_
          refine Rk.tr (F1 := (89, 6, _, _)) (x_iald (n := p) rfl x2 rfl rfl (by omega) ic) ?_
          refine Rk.tr (F1 := (89, 7, [_, _, _, _, _], _)) (x_istore_n (i := 3) rfl (Nat.le_of_ble_eq_true rfl)) ?_
          refine Rk.tr (F1 := (89, 8, _, _)) (x_iload_n rfl rfl) ?_
          refine Rk.tr (F1 := (89, 11, _, _)) (x_ifF rfl (tg := 28) rfl (show ¬ (4 : Int32) < 0 by decide)) ?_
          refine Rk.tr (F1 := (89, 12, _, _)) (x_iload_n rfl rfl) ?_
          refine Rk.tr (F1 := (89, 14, _, _)) (x_bipush rfl) ?_
          refine Rk.tr (F1 := (89, 17, _, _)) (x_icF rfl (tg := 28) rfl (show ¬ (6 : Int32) < 4 by decide)) ?_
          refine Rk.tr (F1 := (89, 18, _, _)) (x_iload_n rfl rfl) ?_
          refine Rk.tr (F1 := (89, 21, _, _)) (x_gets rfl rfl) ?_
          refine Rk.tr (F1 := (89, 22, _, _)) (x_iload_n rfl rfl) ?_
          refine Rk.tr (F1 := (89, 23, _, _)) (x_iald (n := 4) rfl s0 rfl rfl (by omega) rfl) ?_
          refine Rk.tr (F1 := (89, 24, _, _)) (x_iadd rfl) ?_
          refine Rk.tr (F1 := (89, 24, _, _)) (x_top (show nI p + nI 2 = nI (p + 2) from nI_add p 2)) ?_
          refine Rk.tr (F1 := (89, 25, _, _)) (x_iload_n rfl rfl) ?_
          refine Rk.tr (F1 := (89, 30, _, _)) (x_icT rfl (tg := 30) rfl (show nI (p + 2) ≤ nI n from nI_le (by omega) (by omega))) ?_
          refine Rk.tr (F1 := (89, 31, _, _)) (x_iload_n rfl rfl) ?_
          refine Rk.tr (F1 := (89, 34, _, _)) (x_ifF rfl (tg := 43) rfl (show ¬ (4 : Int32) = 0 by decide)) ?_
          refine Rk.tr (F1 := (89, 37, _, _)) (x_gets rfl rfl) ?_
          refine Rk.tr (F1 := (89, 38, _, _)) (x_iload_n rfl rfl) ?_
          refine Rk.tr (F1 := (89, 39, _, _)) (x_iald (n := 4) rfl s0 rfl rfl (by omega) rfl) ?_
          refine Rk.tr (F1 := (89, 40, _, _)) (x_iconst rfl) ?_
          refine Rk.tr (F1 := (89, 45, _, _)) (x_icT rfl (tg := 45) rfl (show ¬ (2 : Int32) = 1 by decide)) ?_
          refine Rk.tr (F1 := (89, 46, _, _)) (x_aload_n rfl rfl rfl) ?_
          refine Rk.tr (F1 := (89, 49, _, _)) (x_getf rfl rfl x1 rfl) ?_
          refine Rk.tr (F1 := (89, 50, _, _)) (x_iload_n rfl rfl) ?_
          refine Rk.tr (F1 := (89, 51, _, _)) (x_iconst rfl) ?_
          refine Rk.tr (F1 := (89, 52, _, _)) (x_iadd rfl) ?_
          refine Rk.tr (F1 := (89, 52, _, _)) (x_top (nI_1 p)) ?_
          refine Rk.tr (F1 := (89, 53, _, _)) (x_iald (n := p + 1) rfl x2 rfl rfl (by omega) id1) ?_
          refine Rk.tr (F1 := (89, 55, [_, _, _, _, _], _)) (x_istore (i := 4) rfl (Nat.le_of_ble_eq_true rfl)) ?_
          refine Rk.tr (F1 := (89, 57, _, _)) (x_iload rfl rfl) ?_
          refine Rk.tr (F1 := (89, 60, _, _)) (x_ifF rfl (tg := 80) rfl hd0) ?_
          refine Rk.tr (F1 := (89, 62, _, _)) (x_iload rfl rfl) ?_
          refine Rk.tr (F1 := (89, 63, _, _)) (x_iload_n rfl rfl) ?_
          refine Rk.tr (F1 := (89, 64, _, _)) (x_iconst rfl) ?_
          refine Rk.tr (F1 := (89, 71, _, _)) (x_icT rfl (tg := 71) rfl (show ¬ (4 : Int32) = 5 by decide)) ?_
          refine Rk.tr (F1 := (89, 73, _, _)) (x_bipush rfl) ?_
          refine Rk.tr (F1 := (89, 76, _, _)) (x_icF rfl (tg := 80) rfl hd9) ?_
          refine Rk.tr (F1 := (89, 77, _, _)) (x_iconst rfl) ?_
          refine Rk.tr (F1 := (89, 81, _, _)) (x_goto rfl rfl) ?_
          exact Rk.end rfl (Or.inr (Or.inl ⟨rfl, _, .boolean, rfl, rfl, rfl, rfl⟩))
    · rw [if_neg (fun z => hle (hk.mp z).1)]
      refine Rk.tr (F1 := (89, 1, _, _)) (x_aload_n rfl rfl rfl) ?_
      refine Rk.tr (F1 := (89, 4, _, _)) (x_getf rfl rfl x1 rfl) ?_
      refine Rk.tr (F1 := (89, 5, _, _)) (x_iload_n rfl rfl) ?_
      refine Rk.tr (F1 := (89, 6, _, _)) (x_iald (n := p) rfl x2 rfl rfl (by omega) ic) ?_
      refine Rk.tr (F1 := (89, 7, [_, _, _, _, _], _)) (x_istore_n (i := 3) rfl (Nat.le_of_ble_eq_true rfl)) ?_
      refine Rk.tr (F1 := (89, 8, _, _)) (x_iload_n rfl rfl) ?_
      refine Rk.tr (F1 := (89, 11, _, _)) (x_ifF rfl (tg := 28) rfl (show ¬ (4 : Int32) < 0 by decide)) ?_
      refine Rk.tr (F1 := (89, 12, _, _)) (x_iload_n rfl rfl) ?_
      refine Rk.tr (F1 := (89, 14, _, _)) (x_bipush rfl) ?_
      refine Rk.tr (F1 := (89, 17, _, _)) (x_icF rfl (tg := 28) rfl (show ¬ (6 : Int32) < 4 by decide)) ?_
      refine Rk.tr (F1 := (89, 18, _, _)) (x_iload_n rfl rfl) ?_
      refine Rk.tr (F1 := (89, 21, _, _)) (x_gets rfl rfl) ?_
      refine Rk.tr (F1 := (89, 22, _, _)) (x_iload_n rfl rfl) ?_
      refine Rk.tr (F1 := (89, 23, _, _)) (x_iald (n := 4) rfl s0 rfl rfl (by omega) rfl) ?_
      refine Rk.tr (F1 := (89, 24, _, _)) (x_iadd rfl) ?_
      refine Rk.tr (F1 := (89, 24, _, _)) (x_top (show nI p + nI 2 = nI (p + 2) from nI_add p 2)) ?_
      refine Rk.tr (F1 := (89, 25, _, _)) (x_iload_n rfl rfl) ?_
      refine Rk.tr (F1 := (89, 28, _, _)) (x_icF rfl (tg := 30) rfl (show ¬ nI (p + 2) ≤ nI n from nI_ge (by omega) (by omega))) ?_
      refine Rk.tr (F1 := (89, 29, _, _)) (x_iconst rfl) ?_
      exact Rk.end rfl (Or.inr (Or.inl ⟨rfl, _, .boolean, rfl, rfl, rfl, rfl⟩))
  · rw [w] at ic
    have hk := hok_5 (n := n) w hp
    by_cases hle : p + 2 ≤ n
    · have id1 : (iar 60 cs)[p + 1]? = some (.int (cs (p + 1))) := iar_at (by omega)
      by_cases hd0 : cs (p + 1) < 0
      · rw [if_neg (fun z => absurd hd0 (Int32.not_lt.mpr (hk.mp z).2.1))]
        refine Rk.tr (F1 := (89, 1, _, _)) (x_aload_n rfl rfl rfl) ?_
        refine Rk.tr (F1 := (89, 4, _, _)) (x_getf rfl rfl x1 rfl) ?_
        refine Rk.tr (F1 := (89, 5, _, _)) (x_iload_n rfl rfl) ?_
        refine Rk.tr (F1 := (89, 6, _, _)) (x_iald (n := p) rfl x2 rfl rfl (by omega) ic) ?_
        refine Rk.tr (F1 := (89, 7, [_, _, _, _, _], _)) (x_istore_n (i := 3) rfl (Nat.le_of_ble_eq_true rfl)) ?_
        refine Rk.tr (F1 := (89, 8, _, _)) (x_iload_n rfl rfl) ?_
        refine Rk.tr (F1 := (89, 11, _, _)) (x_ifF rfl (tg := 28) rfl (show ¬ (5 : Int32) < 0 by decide)) ?_
        refine Rk.tr (F1 := (89, 12, _, _)) (x_iload_n rfl rfl) ?_
        refine Rk.tr (F1 := (89, 14, _, _)) (x_bipush rfl) ?_
        refine Rk.tr (F1 := (89, 17, _, _)) (x_icF rfl (tg := 28) rfl (show ¬ (6 : Int32) < 5 by decide)) ?_
        refine Rk.tr (F1 := (89, 18, _, _)) (x_iload_n rfl rfl) ?_
        refine Rk.tr (F1 := (89, 21, _, _)) (x_gets rfl rfl) ?_
        refine Rk.tr (F1 := (89, 22, _, _)) (x_iload_n rfl rfl) ?_
        refine Rk.tr (F1 := (89, 23, _, _)) (x_iald (n := 5) rfl s0 rfl rfl (by omega) rfl) ?_
        refine Rk.tr (F1 := (89, 24, _, _)) (x_iadd rfl) ?_
        refine Rk.tr (F1 := (89, 24, _, _)) (x_top (show nI p + nI 2 = nI (p + 2) from nI_add p 2)) ?_
        refine Rk.tr (F1 := (89, 25, _, _)) (x_iload_n rfl rfl) ?_
        refine Rk.tr (F1 := (89, 30, _, _)) (x_icT rfl (tg := 30) rfl (show nI (p + 2) ≤ nI n from nI_le (by omega) (by omega))) ?_
        refine Rk.tr (F1 := (89, 31, _, _)) (x_iload_n rfl rfl) ?_
        refine Rk.tr (F1 := (89, 34, _, _)) (x_ifF rfl (tg := 43) rfl (show ¬ (5 : Int32) = 0 by decide)) ?_
        refine Rk.tr (F1 := (89, 37, _, _)) (x_gets rfl rfl) ?_
        refine Rk.tr (F1 := (89, 38, _, _)) (x_iload_n rfl rfl) ?_
        refine Rk.tr (F1 := (89, 39, _, _)) (x_iald (n := 5) rfl s0 rfl rfl (by omega) rfl) ?_
        refine Rk.tr (F1 := (89, 40, _, _)) (x_iconst rfl) ?_
        refine Rk.tr (F1 := (89, 45, _, _)) (x_icT rfl (tg := 45) rfl (show ¬ (2 : Int32) = 1 by decide)) ?_
        refine Rk.tr (F1 := (89, 46, _, _)) (x_aload_n rfl rfl rfl) ?_
        refine Rk.tr (F1 := (89, 49, _, _)) (x_getf rfl rfl x1 rfl) ?_
        refine Rk.tr (F1 := (89, 50, _, _)) (x_iload_n rfl rfl) ?_
        refine Rk.tr (F1 := (89, 51, _, _)) (x_iconst rfl) ?_
        refine Rk.tr (F1 := (89, 52, _, _)) (x_iadd rfl) ?_
        refine Rk.tr (F1 := (89, 52, _, _)) (x_top (nI_1 p)) ?_
        refine Rk.tr (F1 := (89, 53, _, _)) (x_iald (n := p + 1) rfl x2 rfl rfl (by omega) id1) ?_
        refine Rk.tr (F1 := (89, 55, [_, _, _, _, _], _)) (x_istore (i := 4) rfl (Nat.le_of_ble_eq_true rfl)) ?_
        refine Rk.tr (F1 := (89, 57, _, _)) (x_iload rfl rfl) ?_
        refine Rk.tr (F1 := (89, 80, _, _)) (x_ifT rfl (tg := 80) rfl hd0) ?_
        refine Rk.tr (F1 := (89, 81, _, _)) (x_iconst rfl) ?_
        exact Rk.end rfl (Or.inr (Or.inl ⟨rfl, _, .boolean, rfl, rfl, rfl, rfl⟩))
      · by_cases hd9 : (5 : Int32) ≤ cs (p + 1)
        · rw [if_neg (fun z => absurd hd9 (le5.mpr (hk.mp z).2.2))]
          refine Rk.tr (F1 := (89, 1, _, _)) (x_aload_n rfl rfl rfl) ?_
          refine Rk.tr (F1 := (89, 4, _, _)) (x_getf rfl rfl x1 rfl) ?_
          refine Rk.tr (F1 := (89, 5, _, _)) (x_iload_n rfl rfl) ?_
          refine Rk.tr (F1 := (89, 6, _, _)) (x_iald (n := p) rfl x2 rfl rfl (by omega) ic) ?_
          refine Rk.tr (F1 := (89, 7, [_, _, _, _, _], _)) (x_istore_n (i := 3) rfl (Nat.le_of_ble_eq_true rfl)) ?_
          refine Rk.tr (F1 := (89, 8, _, _)) (x_iload_n rfl rfl) ?_
          refine Rk.tr (F1 := (89, 11, _, _)) (x_ifF rfl (tg := 28) rfl (show ¬ (5 : Int32) < 0 by decide)) ?_
          refine Rk.tr (F1 := (89, 12, _, _)) (x_iload_n rfl rfl) ?_
          refine Rk.tr (F1 := (89, 14, _, _)) (x_bipush rfl) ?_
          refine Rk.tr (F1 := (89, 17, _, _)) (x_icF rfl (tg := 28) rfl (show ¬ (6 : Int32) < 5 by decide)) ?_
          refine Rk.tr (F1 := (89, 18, _, _)) (x_iload_n rfl rfl) ?_
          refine Rk.tr (F1 := (89, 21, _, _)) (x_gets rfl rfl) ?_
          refine Rk.tr (F1 := (89, 22, _, _)) (x_iload_n rfl rfl) ?_
          refine Rk.tr (F1 := (89, 23, _, _)) (x_iald (n := 5) rfl s0 rfl rfl (by omega) rfl) ?_
          refine Rk.tr (F1 := (89, 24, _, _)) (x_iadd rfl) ?_
          refine Rk.tr (F1 := (89, 24, _, _)) (x_top (show nI p + nI 2 = nI (p + 2) from nI_add p 2)) ?_
          refine Rk.tr (F1 := (89, 25, _, _)) (x_iload_n rfl rfl) ?_
          refine Rk.tr (F1 := (89, 30, _, _)) (x_icT rfl (tg := 30) rfl (show nI (p + 2) ≤ nI n from nI_le (by omega) (by omega))) ?_
          refine Rk.tr (F1 := (89, 31, _, _)) (x_iload_n rfl rfl) ?_
          refine Rk.tr (F1 := (89, 34, _, _)) (x_ifF rfl (tg := 43) rfl (show ¬ (5 : Int32) = 0 by decide)) ?_
          refine Rk.tr (F1 := (89, 37, _, _)) (x_gets rfl rfl) ?_
          refine Rk.tr (F1 := (89, 38, _, _)) (x_iload_n rfl rfl) ?_
          refine Rk.tr (F1 := (89, 39, _, _)) (x_iald (n := 5) rfl s0 rfl rfl (by omega) rfl) ?_
          refine Rk.tr (F1 := (89, 40, _, _)) (x_iconst rfl) ?_
          refine Rk.tr (F1 := (89, 45, _, _)) (x_icT rfl (tg := 45) rfl (show ¬ (2 : Int32) = 1 by decide)) ?_
          refine Rk.tr (F1 := (89, 46, _, _)) (x_aload_n rfl rfl rfl) ?_
          refine Rk.tr (F1 := (89, 49, _, _)) (x_getf rfl rfl x1 rfl) ?_
          refine Rk.tr (F1 := (89, 50, _, _)) (x_iload_n rfl rfl) ?_
          refine Rk.tr (F1 := (89, 51, _, _)) (x_iconst rfl) ?_
          refine Rk.tr (F1 := (89, 52, _, _)) (x_iadd rfl) ?_
          refine Rk.tr (F1 := (89, 52, _, _)) (x_top (nI_1 p)) ?_
          refine Rk.tr (F1 := (89, 53, _, _)) (x_iald (n := p + 1) rfl x2 rfl rfl (by omega) id1) ?_
          refine Rk.tr (F1 := (89, 55, [_, _, _, _, _], _)) (x_istore (i := 4) rfl (Nat.le_of_ble_eq_true rfl)) ?_
          refine Rk.tr (F1 := (89, 57, _, _)) (x_iload rfl rfl) ?_
          refine Rk.tr (F1 := (89, 60, _, _)) (x_ifF rfl (tg := 80) rfl hd0) ?_
          refine Rk.tr (F1 := (89, 62, _, _)) (x_iload rfl rfl) ?_
          refine Rk.tr (F1 := (89, 63, _, _)) (x_iload_n rfl rfl) ?_
          refine Rk.tr (F1 := (89, 64, _, _)) (x_iconst rfl) ?_
          refine Rk.tr (F1 := (89, 67, _, _)) (x_icF rfl (tg := 71) rfl (fun z => z rfl)) ?_
          refine Rk.tr (F1 := (89, 68, _, _)) (x_iconst rfl) ?_
          refine Rk.tr (F1 := (89, 73, _, _)) (x_goto rfl rfl) ?_
          refine Rk.tr (F1 := (89, 80, _, _)) (x_icT rfl (tg := 80) rfl hd9) ?_
          refine Rk.tr (F1 := (89, 81, _, _)) (x_iconst rfl) ?_
          exact Rk.end rfl (Or.inr (Or.inl ⟨rfl, _, .boolean, rfl, rfl, rfl, rfl⟩))
        · rw [if_pos (hk.mpr ⟨hle, Int32.not_lt.mp hd0, le5.mp hd9⟩)]
          refine Rk.tr (F1 := (89, 1, _, _)) (x_aload_n rfl rfl rfl) ?_
          refine Rk.tr (F1 := (89, 4, _, _)) (x_getf rfl rfl x1 rfl) ?_
          refine Rk.tr (F1 := (89, 5, _, _)) (x_iload_n rfl rfl) ?_
          refine Rk.tr (F1 := (89, 6, _, _)) (x_iald (n := p) rfl x2 rfl rfl (by omega) ic) ?_
          refine Rk.tr (F1 := (89, 7, [_, _, _, _, _], _)) (x_istore_n (i := 3) rfl (Nat.le_of_ble_eq_true rfl)) ?_
          refine Rk.tr (F1 := (89, 8, _, _)) (x_iload_n rfl rfl) ?_
          refine Rk.tr (F1 := (89, 11, _, _)) (x_ifF rfl (tg := 28) rfl (show ¬ (5 : Int32) < 0 by decide)) ?_
          refine Rk.tr (F1 := (89, 12, _, _)) (x_iload_n rfl rfl) ?_
          refine Rk.tr (F1 := (89, 14, _, _)) (x_bipush rfl) ?_
          refine Rk.tr (F1 := (89, 17, _, _)) (x_icF rfl (tg := 28) rfl (show ¬ (6 : Int32) < 5 by decide)) ?_
          refine Rk.tr (F1 := (89, 18, _, _)) (x_iload_n rfl rfl) ?_
          refine Rk.tr (F1 := (89, 21, _, _)) (x_gets rfl rfl) ?_
          refine Rk.tr (F1 := (89, 22, _, _)) (x_iload_n rfl rfl) ?_
          refine Rk.tr (F1 := (89, 23, _, _)) (x_iald (n := 5) rfl s0 rfl rfl (by omega) rfl) ?_
          refine Rk.tr (F1 := (89, 24, _, _)) (x_iadd rfl) ?_
          refine Rk.tr (F1 := (89, 24, _, _)) (x_top (show nI p + nI 2 = nI (p + 2) from nI_add p 2)) ?_
          refine Rk.tr (F1 := (89, 25, _, _)) (x_iload_n rfl rfl) ?_
          refine Rk.tr (F1 := (89, 30, _, _)) (x_icT rfl (tg := 30) rfl (show nI (p + 2) ≤ nI n from nI_le (by omega) (by omega))) ?_
          refine Rk.tr (F1 := (89, 31, _, _)) (x_iload_n rfl rfl) ?_
          refine Rk.tr (F1 := (89, 34, _, _)) (x_ifF rfl (tg := 43) rfl (show ¬ (5 : Int32) = 0 by decide)) ?_
          refine Rk.tr (F1 := (89, 37, _, _)) (x_gets rfl rfl) ?_
          refine Rk.tr (F1 := (89, 38, _, _)) (x_iload_n rfl rfl) ?_
          refine Rk.tr (F1 := (89, 39, _, _)) (x_iald (n := 5) rfl s0 rfl rfl (by omega) rfl) ?_
          refine Rk.tr (F1 := (89, 40, _, _)) (x_iconst rfl) ?_
          refine Rk.tr (F1 := (89, 45, _, _)) (x_icT rfl (tg := 45) rfl (show ¬ (2 : Int32) = 1 by decide)) ?_
          refine Rk.tr (F1 := (89, 46, _, _)) (x_aload_n rfl rfl rfl) ?_
          refine Rk.tr (F1 := (89, 49, _, _)) (x_getf rfl rfl x1 rfl) ?_
          refine Rk.tr (F1 := (89, 50, _, _)) (x_iload_n rfl rfl) ?_
          refine Rk.tr (F1 := (89, 51, _, _)) (x_iconst rfl) ?_
          refine Rk.tr (F1 := (89, 52, _, _)) (x_iadd rfl) ?_
          refine Rk.tr (F1 := (89, 52, _, _)) (x_top (nI_1 p)) ?_
          refine Rk.tr (F1 := (89, 53, _, _)) (x_iald (n := p + 1) rfl x2 rfl rfl (by omega) id1) ?_
          refine Rk.tr (F1 := (89, 55, [_, _, _, _, _], _)) (x_istore (i := 4) rfl (Nat.le_of_ble_eq_true rfl)) ?_
          refine Rk.tr (F1 := (89, 57, _, _)) (x_iload rfl rfl) ?_
          refine Rk.tr (F1 := (89, 60, _, _)) (x_ifF rfl (tg := 80) rfl hd0) ?_
          refine Rk.tr (F1 := (89, 62, _, _)) (x_iload rfl rfl) ?_
          refine Rk.tr (F1 := (89, 63, _, _)) (x_iload_n rfl rfl) ?_
          refine Rk.tr (F1 := (89, 64, _, _)) (x_iconst rfl) ?_
          refine Rk.tr (F1 := (89, 67, _, _)) (x_icF rfl (tg := 71) rfl (fun z => z rfl)) ?_
          refine Rk.tr (F1 := (89, 68, _, _)) (x_iconst rfl) ?_
          refine Rk.tr (F1 := (89, 73, _, _)) (x_goto rfl rfl) ?_
          refine Rk.tr (F1 := (89, 76, _, _)) (x_icF rfl (tg := 80) rfl hd9) ?_
          refine Rk.tr (F1 := (89, 77, _, _)) (x_iconst rfl) ?_
          refine Rk.tr (F1 := (89, 81, _, _)) (x_goto rfl rfl) ?_
          exact Rk.end rfl (Or.inr (Or.inl ⟨rfl, _, .boolean, rfl, rfl, rfl, rfl⟩))
    · rw [if_neg (fun z => hle (hk.mp z).1)]
      refine Rk.tr (F1 := (89, 1, _, _)) (x_aload_n rfl rfl rfl) ?_
      refine Rk.tr (F1 := (89, 4, _, _)) (x_getf rfl rfl x1 rfl) ?_
      refine Rk.tr (F1 := (89, 5, _, _)) (x_iload_n rfl rfl) ?_
      refine Rk.tr (F1 := (89, 6, _, _)) (x_iald (n := p) rfl x2 rfl rfl (by omega) ic) ?_
      refine Rk.tr (F1 := (89, 7, [_, _, _, _, _], _)) (x_istore_n (i := 3) rfl (Nat.le_of_ble_eq_true rfl)) ?_
      refine Rk.tr (F1 := (89, 8, _, _)) (x_iload_n rfl rfl) ?_
      refine Rk.tr (F1 := (89, 11, _, _)) (x_ifF rfl (tg := 28) rfl (show ¬ (5 : Int32) < 0 by decide)) ?_
      refine Rk.tr (F1 := (89, 12, _, _)) (x_iload_n rfl rfl) ?_
      refine Rk.tr (F1 := (89, 14, _, _)) (x_bipush rfl) ?_
      refine Rk.tr (F1 := (89, 17, _, _)) (x_icF rfl (tg := 28) rfl (show ¬ (6 : Int32) < 5 by decide)) ?_
      refine Rk.tr (F1 := (89, 18, _, _)) (x_iload_n rfl rfl) ?_
      refine Rk.tr (F1 := (89, 21, _, _)) (x_gets rfl rfl) ?_
      refine Rk.tr (F1 := (89, 22, _, _)) (x_iload_n rfl rfl) ?_
      refine Rk.tr (F1 := (89, 23, _, _)) (x_iald (n := 5) rfl s0 rfl rfl (by omega) rfl) ?_
      refine Rk.tr (F1 := (89, 24, _, _)) (x_iadd rfl) ?_
      refine Rk.tr (F1 := (89, 24, _, _)) (x_top (show nI p + nI 2 = nI (p + 2) from nI_add p 2)) ?_
      refine Rk.tr (F1 := (89, 25, _, _)) (x_iload_n rfl rfl) ?_
      refine Rk.tr (F1 := (89, 28, _, _)) (x_icF rfl (tg := 30) rfl (show ¬ nI (p + 2) ≤ nI n from nI_ge (by omega) (by omega))) ?_
      refine Rk.tr (F1 := (89, 29, _, _)) (x_iconst rfl) ?_
      exact Rk.end rfl (Or.inr (Or.inl ⟨rfl, _, .boolean, rfl, rfl, rfl, rfl⟩))
  · rw [w] at ic
    have hk := hok_0 (n := n) w (by decide) hp
    have eh : hl (6 : Int32) = 1 := by decide
    rw [eh] at hk
    by_cases hle : p + 1 ≤ n
    · rw [if_pos (hk.mpr hle)]
      refine Rk.tr (F1 := (89, 1, _, _)) (x_aload_n rfl rfl rfl) ?_
      refine Rk.tr (F1 := (89, 4, _, _)) (x_getf rfl rfl x1 rfl) ?_
      refine Rk.tr (F1 := (89, 5, _, _)) (x_iload_n rfl rfl) ?_
      refine Rk.tr (F1 := (89, 6, _, _)) (x_iald (n := p) rfl x2 rfl rfl (by omega) ic) ?_
      refine Rk.tr (F1 := (89, 7, [_, _, _, _, _], _)) (x_istore_n (i := 3) rfl (Nat.le_of_ble_eq_true rfl)) ?_
      refine Rk.tr (F1 := (89, 8, _, _)) (x_iload_n rfl rfl) ?_
      refine Rk.tr (F1 := (89, 11, _, _)) (x_ifF rfl (tg := 28) rfl (show ¬ (6 : Int32) < 0 by decide)) ?_
      refine Rk.tr (F1 := (89, 12, _, _)) (x_iload_n rfl rfl) ?_
      refine Rk.tr (F1 := (89, 14, _, _)) (x_bipush rfl) ?_
      refine Rk.tr (F1 := (89, 17, _, _)) (x_icF rfl (tg := 28) rfl (show ¬ (6 : Int32) < 6 by decide)) ?_
      refine Rk.tr (F1 := (89, 18, _, _)) (x_iload_n rfl rfl) ?_
      refine Rk.tr (F1 := (89, 21, _, _)) (x_gets rfl rfl) ?_
      refine Rk.tr (F1 := (89, 22, _, _)) (x_iload_n rfl rfl) ?_
      refine Rk.tr (F1 := (89, 23, _, _)) (x_iald (n := 6) rfl s0 rfl rfl (by omega) rfl) ?_
      refine Rk.tr (F1 := (89, 24, _, _)) (x_iadd rfl) ?_
      refine Rk.tr (F1 := (89, 24, _, _)) (x_top (show nI p + nI 1 = nI (p + 1) from nI_add p 1)) ?_
      refine Rk.tr (F1 := (89, 25, _, _)) (x_iload_n rfl rfl) ?_
      refine Rk.tr (F1 := (89, 30, _, _)) (x_icT rfl (tg := 30) rfl (show nI (p + 1) ≤ nI n from nI_le (by omega) (by omega))) ?_
      refine Rk.tr (F1 := (89, 31, _, _)) (x_iload_n rfl rfl) ?_
      refine Rk.tr (F1 := (89, 34, _, _)) (x_ifF rfl (tg := 43) rfl (show ¬ (6 : Int32) = 0 by decide)) ?_
      refine Rk.tr (F1 := (89, 37, _, _)) (x_gets rfl rfl) ?_
      refine Rk.tr (F1 := (89, 38, _, _)) (x_iload_n rfl rfl) ?_
      refine Rk.tr (F1 := (89, 39, _, _)) (x_iald (n := 6) rfl s0 rfl rfl (by omega) rfl) ?_
      refine Rk.tr (F1 := (89, 40, _, _)) (x_iconst rfl) ?_
      refine Rk.tr (F1 := (89, 43, _, _)) (x_icF rfl (tg := 45) rfl (fun z => z rfl)) ?_
      refine Rk.tr (F1 := (89, 44, _, _)) (x_iconst rfl) ?_
      exact Rk.end rfl (Or.inr (Or.inl ⟨rfl, _, .boolean, rfl, rfl, rfl, rfl⟩))
    · rw [if_neg (fun z => hle (hk.mp z))]
      refine Rk.tr (F1 := (89, 1, _, _)) (x_aload_n rfl rfl rfl) ?_
      refine Rk.tr (F1 := (89, 4, _, _)) (x_getf rfl rfl x1 rfl) ?_
      refine Rk.tr (F1 := (89, 5, _, _)) (x_iload_n rfl rfl) ?_
      refine Rk.tr (F1 := (89, 6, _, _)) (x_iald (n := p) rfl x2 rfl rfl (by omega) ic) ?_
      refine Rk.tr (F1 := (89, 7, [_, _, _, _, _], _)) (x_istore_n (i := 3) rfl (Nat.le_of_ble_eq_true rfl)) ?_
      refine Rk.tr (F1 := (89, 8, _, _)) (x_iload_n rfl rfl) ?_
      refine Rk.tr (F1 := (89, 11, _, _)) (x_ifF rfl (tg := 28) rfl (show ¬ (6 : Int32) < 0 by decide)) ?_
      refine Rk.tr (F1 := (89, 12, _, _)) (x_iload_n rfl rfl) ?_
      refine Rk.tr (F1 := (89, 14, _, _)) (x_bipush rfl) ?_
      refine Rk.tr (F1 := (89, 17, _, _)) (x_icF rfl (tg := 28) rfl (show ¬ (6 : Int32) < 6 by decide)) ?_
      refine Rk.tr (F1 := (89, 18, _, _)) (x_iload_n rfl rfl) ?_
      refine Rk.tr (F1 := (89, 21, _, _)) (x_gets rfl rfl) ?_
      refine Rk.tr (F1 := (89, 22, _, _)) (x_iload_n rfl rfl) ?_
      refine Rk.tr (F1 := (89, 23, _, _)) (x_iald (n := 6) rfl s0 rfl rfl (by omega) rfl) ?_
      refine Rk.tr (F1 := (89, 24, _, _)) (x_iadd rfl) ?_
      refine Rk.tr (F1 := (89, 24, _, _)) (x_top (show nI p + nI 1 = nI (p + 1) from nI_add p 1)) ?_
      refine Rk.tr (F1 := (89, 25, _, _)) (x_iload_n rfl rfl) ?_
      refine Rk.tr (F1 := (89, 28, _, _)) (x_icF rfl (tg := 30) rfl (show ¬ nI (p + 1) ≤ nI n from nI_ge (by omega) (by omega))) ?_
      refine Rk.tr (F1 := (89, 29, _, _)) (x_iconst rfl) ?_
      exact Rk.end rfl (Or.inr (Or.inl ⟨rfl, _, .boolean, rfl, rfl, rfl, rfl⟩))
end M52
