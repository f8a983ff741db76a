/-! ===== the class: where a name is bound, how often it occurs ===== -/
section M29
variable {E : PE} {d : Nat} {h : PH} {O : Nat → Nat × Nat} {G : PG}
theorem lp_place {a : Nat} {bs : List Nat} {r : Int32 × Int32} {nm : Int32} (hG : GH E h O G) (ha : G.1 a = some (bs, r)) (hk : ∀ b ∈ bs, ∃ it rs, G.2 b = some (it, rs)) : ∀ (rest p : List Nat), bs = p ++ rest →
    (∃ k x it rs, bs[k]? = some x ∧ G.2 x = some (it, rs) ∧ it.2.1 = nm ∧ Rk E (d + 3) (82, 2, [some (.ref a), some (.int nm), some (.int (nI p.length))], []) h (some (.int (nI k))) h) ∨ ((∀ x ∈ rest, ∀ it rs, G.2 x = some (it, rs) → it.2.1 ≠ nm) ∧ Rk E (d + 3) (82, 2, [some (.ref a), some (.int nm), some (.int (nI p.length))], []) h (some (.int (-1))) h) := by
  obtain ⟨l, e, cap, x0, h1, h2, h3, h4, h5, h6⟩ := hG.2.2.1 a bs r ha
  obtain ⟨mc, l1⟩ := h3.1
  have hln := h3.len
  intro rest
  induction rest with
  | nil =>
    intro p hb
    right
    rw [List.append_nil] at hb
    refine ⟨fun x hx => (List.not_mem_nil hx).elim, ?_⟩
    refine Rk.tr (F1 := (82, 3, _, _)) (x_iload_n rfl rfl) ?_
    refine Rk.tr (F1 := (82, 4, _, _)) (x_aload_n rfl rfl rfl) ?_
    refine Rk.tr (F1 := (82, 7, _, _)) (x_getf rfl rfl h1 rfl) ?_
    refine Rk.tr (F1 := (82, 10, _, _)) (x_callv (As := []) rfl rfl rfl (Or.inl rfl) rfl rfl l1 (by decide) rfl (Nat.le_of_ble_eq_true rfl) (c_lsize l1) rfl) ?_
    refine Rk.tr (F1 := (82, 39, _, _)) (x_icT rfl (tg := 39) rfl (show nI bs.length ≤ nI p.length by rw [hb]; exact Int32.le_refl _)) ?_
    refine Rk.tr (F1 := (82, 40, _, _)) (x_iconst rfl) ?_
    exact Rk.end rfl (Or.inr (Or.inl ⟨rfl, _, .int, rfl, rfl, rfl, rfl⟩))
  | cons x rest ih =>
    intro p hb
    have hpl : bs.length = p.length + (rest.length + 1) := by rw [hb, List.length_append, List.length_cons]
    have ek : bs[p.length]? = some x := by rw [hb, List.getElem?_append_right (Nat.le_refl _), Nat.sub_self]; rfl
    obtain ⟨it, rs, eg⟩ := hk x (by rw [hb]; simp)
    obtain ⟨at0, ar, xs, dt, b1, b2, b3, b4, b5, b6, b7, b8⟩ := hG.2.2.2 x it rs eg
    by_cases hn : it.2.1 = nm
    · left
      refine ⟨p.length, x, it, rs, ek, eg, hn, ?_⟩
      refine Rk.tr (F1 := (82, 3, _, _)) (x_iload_n rfl rfl) ?_
      refine Rk.tr (F1 := (82, 4, _, _)) (x_aload_n rfl rfl rfl) ?_
      refine Rk.tr (F1 := (82, 7, _, _)) (x_getf rfl rfl h1 rfl) ?_
      refine Rk.tr (F1 := (82, 10, _, _)) (x_callv (As := []) rfl rfl rfl (Or.inl rfl) rfl rfl l1 (by decide) rfl (Nat.le_of_ble_eq_true rfl) (c_lsize l1) rfl) ?_
      refine Rk.tr (F1 := (82, 13, _, _)) (x_icF rfl (tg := 39) rfl (show ¬ nI bs.length ≤ nI p.length from nI_ge (by omega) (by omega))) ?_
      refine Rk.tr (F1 := (82, 14, _, _)) (x_aload_n rfl rfl rfl) ?_
      refine Rk.tr (F1 := (82, 17, _, _)) (x_getf rfl rfl h1 rfl) ?_
      refine Rk.tr (F1 := (82, 18, _, _)) (x_iload_n rfl rfl) ?_
      refine Rk.tr (F1 := (82, 21, _, _)) (x_callv (As := [_]) rfl rfl rfl (Or.inl rfl) rfl rfl l1 (by decide) rfl (Nat.le_of_ble_eq_true rfl) (c_get h3 ek) rfl) ?_
      refine Rk.tr (F1 := (82, 24, _, _)) (x_cast rfl rfl (by decide) b1) ?_
      refine Rk.tr (F1 := (82, 27, _, _)) (x_getf rfl rfl b1 rfl) ?_
      refine Rk.tr (F1 := (82, 28, _, _)) (x_iload_n rfl rfl) ?_
      refine Rk.tr (F1 := (82, 31, _, _)) (x_icF rfl (tg := 33) rfl (fun z => z hn)) ?_
      refine Rk.tr (F1 := (82, 32, _, _)) (x_iload_n rfl rfl) ?_
      exact Rk.end rfl (Or.inr (Or.inl ⟨rfl, _, .int, rfl, rfl, rfl, rfl⟩))
    · have nxt := ih (p ++ [x]) (by rw [hb, List.append_assoc]; rfl)
      rw [List.length_append, List.length_singleton, ← nI_1 p.length] at nxt
      have go : ∀ v, Rk E (d + 3) (82, 2, [some (.ref a), some (.int nm), some (.int (nI p.length + 1))], []) h v h → Rk E (d + 3) (82, 2, [some (.ref a), some (.int nm), some (.int (nI p.length))], []) h v h := fun v kk => by
        refine Rk.tr (F1 := (82, 3, _, _)) (x_iload_n rfl rfl) ?_
        refine Rk.tr (F1 := (82, 4, _, _)) (x_aload_n rfl rfl rfl) ?_
        refine Rk.tr (F1 := (82, 7, _, _)) (x_getf rfl rfl h1 rfl) ?_
        refine Rk.tr (F1 := (82, 10, _, _)) (x_callv (As := []) rfl rfl rfl (Or.inl rfl) rfl rfl l1 (by decide) rfl (Nat.le_of_ble_eq_true rfl) (c_lsize l1) rfl) ?_
        refine Rk.tr (F1 := (82, 13, _, _)) (x_icF rfl (tg := 39) rfl (show ¬ nI bs.length ≤ nI p.length from nI_ge (by omega) (by omega))) ?_
        refine Rk.tr (F1 := (82, 14, _, _)) (x_aload_n rfl rfl rfl) ?_
        refine Rk.tr (F1 := (82, 17, _, _)) (x_getf rfl rfl h1 rfl) ?_
        refine Rk.tr (F1 := (82, 18, _, _)) (x_iload_n rfl rfl) ?_
        refine Rk.tr (F1 := (82, 21, _, _)) (x_callv (As := [_]) rfl rfl rfl (Or.inl rfl) rfl rfl l1 (by decide) rfl (Nat.le_of_ble_eq_true rfl) (c_get h3 ek) rfl) ?_
        refine Rk.tr (F1 := (82, 24, _, _)) (x_cast rfl rfl (by decide) b1) ?_
        refine Rk.tr (F1 := (82, 27, _, _)) (x_getf rfl rfl b1 rfl) ?_
        refine Rk.tr (F1 := (82, 28, _, _)) (x_iload_n rfl rfl) ?_
        refine Rk.tr (F1 := (82, 33, _, _)) (x_icT rfl (tg := 33) rfl hn) ?_
        refine Rk.tr (F1 := (82, 36, [_, _, _], _)) (x_iinc (i := 2) rfl rfl) ?_
        refine Rk.tr (F1 := (82, 2, _, _)) (x_goto rfl rfl) ?_
        exact kk
      rcases nxt with ⟨k, x', it', rs', q1, q2, q3, q4⟩ | ⟨q1, q2⟩
      · exact Or.inl ⟨k, x', it', rs', q1, q2, q3, go _ q4⟩
      · refine Or.inr ⟨fun y hy it' rs' hy' => ?_, go _ q2⟩
        rcases List.mem_cons.mp hy with z | z
        · rw [z, eg] at hy'; cases hy'; exact hn
        · exact q1 y z it' rs' hy'
theorem c_place {a : Nat} {bs : List Nat} {r : Int32 × Int32} {nm : Int32} (hG : GH E h O G) (ha : G.1 a = some (bs, r)) (hk : ∀ b ∈ bs, ∃ it rs, G.2 b = some (it, rs)) :
    (∃ k x it rs, bs[k]? = some x ∧ G.2 x = some (it, rs) ∧ it.2.1 = nm ∧ Rn E (d + 3) 82 [.ref a, .int nm] h (some (.int (nI k))) h) ∨ ((∀ x ∈ bs, ∀ it rs, G.2 x = some (it, rs) → it.2.1 ≠ nm) ∧ Rn E (d + 3) 82 [.ref a, .int nm] h (some (.int (-1))) h) := by
  have go : ∀ v, Rk E (d + 3) (82, 2, [some (.ref a), some (.int nm), some (.int (nI 0))], []) h v h → Rn E (d + 3) 82 [.ref a, .int nm] h v h := fun v kk => by
    refine Rn.of (Nat.le_of_ble_eq_true rfl) ?_
    refine Rk.tr (F1 := (82, 1, _, _)) (x_iconst rfl) ?_
    refine Rk.tr (F1 := (82, 2, [_, _, _], _)) (x_istore_n (i := 2) rfl (Nat.le_of_ble_eq_true rfl)) ?_
    exact kk
  rcases lp_place (E := E) (d := d) (nm := nm) hG ha hk bs [] rfl with ⟨k, x', it', rs', q1, q2, q3, q4⟩ | ⟨q1, q2⟩
  · exact Or.inl ⟨k, x', it', rs', q1, q2, q3, go _ q4⟩
  · exact Or.inr ⟨q1, go _ q2⟩
theorem lp_occA {nm : Int32} {it : It} {a dp at0 x : Nat} {xs : List Nat} {k : Option Value} (h3 : h.1 at0 = some (103, refs xs)) (h4 : xs.length = iat it) (h5 : ∀ j x, xs[j]? = some x → AtH h x (iatm it j)) : ∀ (r j c : Nat) (y : Option Value), j + r = iat it →
    Ex E (d + 1) (84, 67, [some (.ref a), some (.int nm), some (.int (nI dp)), some (.int (nI c)), k, some (.ref x), some (.ref at0), some (.int (nI xs.length)), some (.int (nI j)), y], []) h (84, 104, [some (.ref a), some (.int nm), some (.int (nI dp)), some (.int (nI (c + ioc it nm j r))), k, some (.ref x), none, none, none, none], []) h := by
  have hi2 : iat it ≤ 2 := by unfold iat; split <;> decide
  intro r
  induction r with
  | zero =>
    intro j c y hj
    refine Ex.tr (F1 := (84, 69, _, _)) (x_iload rfl rfl) ?_
    refine Ex.tr (F1 := (84, 71, _, _)) (x_iload rfl rfl) ?_
    refine Ex.tr (F1 := (84, 104, _, _)) (x_icT rfl (tg := 104) rfl (show nI xs.length ≤ nI j from nI_le (by omega) (by omega))) ?_
    exact x_wk ⟨Or.inr rfl, Or.inr rfl, Or.inr rfl, Or.inr rfl, Or.inr rfl, Or.inr rfl, Or.inl rfl, Or.inl rfl, Or.inl rfl, Or.inl rfl, trivial⟩
  | succ r ih =>
    intro j c y hj
    have hx : ∃ z, xs[j]? = some z := ⟨xs[j]'(by omega), List.getElem?_eq_getElem (by omega)⟩
    obtain ⟨z, hz⟩ := hx
    have hA := h5 j z hz
    have nxt := ih (j + 1) (c + (if iatm it j = (1, nm) then 1 else 0)) (some (.ref z)) (by omega)
    rw [show c + (if iatm it j = (1, nm) then 1 else 0) + ioc it nm (j + 1) r = c + ioc it nm j (r + 1) by simp only [ioc]; omega, ← nI_1 j] at nxt
    refine Ex.tr (F1 := (84, 69, _, _)) (x_iload rfl rfl) ?_
    refine Ex.tr (F1 := (84, 71, _, _)) (x_iload rfl rfl) ?_
    refine Ex.tr (F1 := (84, 74, _, _)) (x_icF rfl (tg := 104) rfl (show ¬ nI xs.length ≤ nI j from nI_ge (by omega) (by omega))) ?_
    refine Ex.tr (F1 := (84, 76, _, _)) (x_aload rfl rfl rfl) ?_
    refine Ex.tr (F1 := (84, 78, _, _)) (x_iload rfl rfl) ?_
    refine Ex.tr (F1 := (84, 79, _, _)) (x_aald rfl h3 rfl rfl rfl (by omega) (refs_at hz)) ?_
    refine Ex.tr (F1 := (84, 81, [_, _, _, _, _, _, _, _, _, _], _)) (x_astore (i := 9) rfl (Nat.le_of_ble_eq_true rfl)) ?_
    refine Ex.tr (F1 := (84, 82, _, _)) (x_iload_n rfl rfl) ?_
    refine Ex.tr (F1 := (84, 84, _, _)) (x_aload rfl rfl rfl) ?_
    refine Ex.tr (F1 := (84, 85, _, _)) (x_iload_n rfl rfl) ?_
    refine Ex.tr (F1 := (84, 88, _, _)) (x_callv (As := [_]) rfl rfl rfl (Or.inl rfl) rfl rfl hA.1 (by decide) rfl (Nat.le_of_ble_eq_true rfl) (c_isName hA) rfl) ?_
    have key : Ex E (d + 1) (84, 88, [some (.ref a), some (.int nm), some (.int (nI dp)), some (.int (nI c)), k, some (.ref x), some (.ref at0), some (.int (nI xs.length)), some (.int (nI j)), some (.ref z)], [.int (if iatm it j = (1, nm) then 1 else 0), .int (nI c)]) h (84, 96, [some (.ref a), some (.int nm), some (.int (nI dp)), some (.int (nI c)), k, some (.ref x), some (.ref at0), some (.int (nI xs.length)), some (.int (nI j)), some (.ref z)], [.int (nI (if iatm it j = (1, nm) then 1 else 0)), .int (nI c)]) h := by
      by_cases e : iatm it j = (1, nm)
      · rw [if_pos e, if_pos e]
        refine Ex.tr (F1 := (84, 91, _, _)) (x_ifF rfl (tg := 95) rfl (show ¬ (1 : Int32) = 0 by decide)) ?_
        refine Ex.tr (F1 := (84, 92, _, _)) (x_iconst rfl) ?_
        refine Ex.tr (F1 := (84, 96, _, _)) (x_goto rfl rfl) ?_
        exact Ex.rf
      · rw [if_neg e, if_neg e]
        refine Ex.tr (F1 := (84, 95, _, _)) (x_ifT rfl (tg := 95) rfl rfl) ?_
        refine Ex.tr (F1 := (84, 96, _, _)) (x_iconst rfl) ?_
        exact Ex.rf
    refine Ex.tr key ?_
    refine Ex.tr (F1 := (84, 97, _, _)) (x_iadd rfl) ?_
    refine Ex.tr (F1 := (84, 97, _, _)) (x_top (nI_add c _)) ?_
    refine Ex.tr (F1 := (84, 98, [_, _, _, _, _, _, _, _, _, _], _)) (x_istore_n (i := 3) rfl (Nat.le_of_ble_eq_true rfl)) ?_
    refine Ex.tr (F1 := (84, 101, [_, _, _, _, _, _, _, _, _, _], _)) (x_iinc (i := 8) rfl rfl) ?_
    refine Ex.tr (F1 := (84, 67, _, _)) (x_goto rfl rfl) ?_
    exact nxt
theorem lp_occR {nm : Int32} {D n dp a ar x : Nat} {rs : List Nat} {k : Option Value} (IH : ∀ (Q : List AI) (r : Nat), Q.length ≤ n → WA G [(r, [])] Q [] → 7 * (dp + 1) + tsum (AP Q) ≤ 210 → Rn E D 84 [.ref r, .int nm, .int (nI (dp + 1))] h (some (.int (nI (occ nm (AP Q))))) h) (har : h.1 ar = some (104, refs rs)) (h2 : rs.length ≤ 2) : ∀ (rs2 rs1 : List Nat) (R : List AI) (c : Nat) (y : Option Value), rs = rs1 ++ rs2 → WA G (rs2.map (fun r => (r, []))) R [] → R.length ≤ n → 7 * (dp + 1) + tsum (AP R) ≤ 210 →
    Ex E (D + 1) (84, 119, [some (.ref a), some (.int nm), some (.int (nI dp)), some (.int (nI c)), k, some (.ref x), some (.ref ar), some (.int (nI rs.length)), some (.int (nI rs1.length)), y], []) h (84, 151, [some (.ref a), some (.int nm), some (.int (nI dp)), some (.int (nI (c + occ nm (AP R)))), k, none, none, none, none, none], []) h := by
  intro rs2
  induction rs2 with
  | nil =>
    intro rs1 R c y e hW _ _
    have hR := (WA_nil hW).1
    rw [List.append_nil] at e
    rw [hR]
    refine Ex.tr (F1 := (84, 121, _, _)) (x_iload rfl rfl) ?_
    refine Ex.tr (F1 := (84, 123, _, _)) (x_iload rfl rfl) ?_
    refine Ex.tr (F1 := (84, 151, _, _)) (x_icT rfl (tg := 151) rfl (show nI rs.length ≤ nI rs1.length by rw [e]; exact Int32.le_refl _)) ?_
    exact x_wk ⟨Or.inr rfl, Or.inr rfl, Or.inr rfl, Or.inr rfl, Or.inr rfl, Or.inl rfl, Or.inl rfl, Or.inl rfl, Or.inl rfl, Or.inl rfl, trivial⟩
  | cons r rs2 ih =>
    intro rs1 R c y e hW hn ht
    obtain ⟨R1, R2, eR, w1, w2⟩ := WA_rows hW
    have hrs : rs[rs1.length]? = some r := by rw [e, List.getElem?_append_right (Nat.le_refl _), Nat.sub_self]; rfl
    have hlen : rs.length = rs1.length + (rs2.length + 1) := by rw [e, List.length_append, List.length_cons]
    have et : tsum (AP R) = tsum (AP R1) + tsum (AP R2) := by rw [eR, AP_app, tsum_app]
    have ec : occ nm (AP R) = occ nm (AP R1) + occ nm (AP R2) := by rw [eR, AP_app, occ_app]
    have el : R.length = R1.length + R2.length := by rw [eR, List.length_append]
    have nxt := ih (rs1 ++ [r]) R2 (c + occ nm (AP R1)) (some (.ref r)) (by rw [e, List.append_assoc]; rfl) w2 (by omega) (by omega)
    rw [List.length_append, List.length_singleton] at nxt
    refine Ex.tr (F1 := (84, 121, _, _)) (x_iload rfl rfl) ?_
    refine Ex.tr (F1 := (84, 123, _, _)) (x_iload rfl rfl) ?_
    refine Ex.tr (F1 := (84, 126, _, _)) (x_icF rfl (tg := 151) rfl (show ¬ nI rs.length ≤ nI rs1.length from nI_ge (by omega) (by omega))) ?_
    refine Ex.tr (F1 := (84, 128, _, _)) (x_aload rfl rfl rfl) ?_
    refine Ex.tr (F1 := (84, 130, _, _)) (x_iload rfl rfl) ?_
    refine Ex.tr (F1 := (84, 131, _, _)) (x_aald rfl har rfl rfl rfl (by omega) (refs_at hrs)) ?_
    refine Ex.tr (F1 := (84, 133, [_, _, _, _, _, _, _, _, _, _], _)) (x_astore (i := 9) rfl (Nat.le_of_ble_eq_true rfl)) ?_
    refine Ex.tr (F1 := (84, 134, _, _)) (x_iload_n rfl rfl) ?_
    refine Ex.tr (F1 := (84, 136, _, _)) (x_aload rfl rfl rfl) ?_
    refine Ex.tr (F1 := (84, 137, _, _)) (x_iload_n rfl rfl) ?_
    refine Ex.tr (F1 := (84, 138, _, _)) (x_iload_n rfl rfl) ?_
    refine Ex.tr (F1 := (84, 139, _, _)) (x_iconst rfl) ?_
    refine Ex.tr (F1 := (84, 140, _, _)) (x_iadd rfl) ?_
    refine Ex.tr (F1 := (84, 140, _, _)) (x_top (nI_1 dp)) ?_
    refine Ex.tr (F1 := (84, 143, _, _)) (x_calls (As := [_, _, _]) rfl rfl rfl rfl rfl rfl (Nat.le_of_ble_eq_true rfl) (IH R1 r (by omega) w1 (by omega)) rfl) ?_
    refine Ex.tr (F1 := (84, 144, _, _)) (x_iadd rfl) ?_
    refine Ex.tr (F1 := (84, 144, _, _)) (x_top (nI_add _ _)) ?_
    refine Ex.tr (F1 := (84, 145, [_, _, _, _, _, _, _, _, _, _], _)) (x_istore_n (i := 3) rfl (Nat.le_of_ble_eq_true rfl)) ?_
    refine Ex.tr (F1 := (84, 148, [_, _, _, _, _, _, _, _, _, _], _)) (x_iinc (i := 8) rfl rfl) ?_
    refine Ex.tr (F1 := (84, 119, _, _)) (x_goto rfl rfl) ?_
    rw [ec, ← Nat.add_assoc]
    rw [← nI_1 rs1.length] at nxt
    exact nxt
theorem lp_occB {nm : Int32} {D n dp a : Nat} {bs : List Nat} {r : Int32 × Int32} (hG : GH E h O G) (ha : G.1 a = some (bs, r)) (IH : ∀ (Q : List AI) (r : Nat), Q.length ≤ n → WA G [(r, [])] Q [] → 7 * (dp + 1) + tsum (AP Q) ≤ 210 → Rn E (D + 2) 84 [.ref r, .int nm, .int (nI (dp + 1))] h (some (.int (nI (occ nm (AP Q))))) h) : ∀ (m : Nat) (Q : List AI) (p : List Nat) (c T : Nat) (y1 y2 y3 y4 y5 : Option Value), Q.length ≤ m → m ≤ n + 1 → c + occ nm (AP Q) = T + (if r = (1, nm) then 1 else 0) → WA G [(a, p)] Q [] → 7 * dp + tsum (AP Q) ≤ 210 →
    Rk E (D + 3) (84, 20, [some (.ref a), some (.int nm), some (.int (nI dp)), some (.int (nI c)), some (.int (nI p.length)), y1, y2, y3, y4, y5], []) h (some (.int (nI T))) h := by
  obtain ⟨l, e, cap, x0, h1, h2, h3, h4, h5, h6⟩ := hG.2.2.1 a bs r ha
  obtain ⟨mc, l1⟩ := h3.1
  have hln := h3.len
  intro m
  induction m with
  | zero =>
    intro Q p c T y1 y2 y3 y4 y5 hm _ _ hW _
    have : Q = [] := List.length_eq_zero_iff.mp (Nat.le_zero.mp hm)
    rw [this] at hW; cases hW
  | succ m ih =>
    intro Q p c T y1 y2 y3 y4 y5 hm hmn hT hW ht
    rcases WA_row hW with ⟨it, eQ, e9, eg⟩ | ⟨it, x, rs, R, Q', eQ, e9, eg, el, w1, w2⟩
    · rw [ha] at eg; cases eg
      have ec : c = T := by
        have : occ nm (AP Q) = if it.2.2.2.1 = (1, nm) then 1 else 0 := by
          rw [eQ]
          show ioc it nm 0 (iat it) + 0 = _
          have : iat it = 1 := by unfold iat; rw [e9]; rfl
          rw [this]
          show (if iatm it 0 = (1, nm) then 1 else 0) + 0 + 0 = _
          rfl
        omega
      rw [ec]
      refine Rk.tr (F1 := (84, 22, _, _)) (x_iload rfl rfl) ?_
      refine Rk.tr (F1 := (84, 23, _, _)) (x_aload_n rfl rfl rfl) ?_
      refine Rk.tr (F1 := (84, 26, _, _)) (x_getf rfl rfl h1 rfl) ?_
      refine Rk.tr (F1 := (84, 29, _, _)) (x_callv (As := []) rfl rfl rfl (Or.inl rfl) rfl rfl l1 (by decide) rfl (Nat.le_of_ble_eq_true rfl) (c_lsize l1) rfl) ?_
      refine Rk.tr (F1 := (84, 157, _, _)) (x_icT rfl (tg := 157) rfl (Int32.le_refl _)) ?_
      refine Rk.tr (F1 := (84, 158, _, _)) (x_iload_n rfl rfl) ?_
      exact Rk.end rfl (Or.inr (Or.inl ⟨rfl, _, .int, rfl, rfl, rfl, rfl⟩))
    · obtain ⟨rest', eb, ek⟩ := WA_next ha w2
      have er : bs.length = p.length + (rest'.length + 1) := by rw [eb, List.length_append, List.length_cons]
      obtain ⟨at0, ar, xs, dt, b1, b2, b3, b4, b5, b6, b7, b8⟩ := hG.2.2.2 x it rs eg
      have et : tsum (AP Q) = isz it + (tsum (AP R) + tsum (AP Q')) := by rw [eQ, AP_cons, AP_app]; simp only [tsum, tsum_app]
      have ec : occ nm (AP Q) = ioc it nm 0 (iat it) + (occ nm (AP R) + occ nm (AP Q')) := by rw [eQ, AP_cons, AP_app]; simp only [occ, occ_app]
      have eL : Q.length = 1 + (R.length + Q'.length) := by rw [eQ, List.length_cons, List.length_append]; omega
      have e4 := isz_ge4 e9
      have e3 := tsum_pos w2
      have hr2 : rs.length ≤ 2 := by rw [el]; exact irw_le it
      have nxt := ih Q' (p ++ [x]) (c + ioc it nm 0 (iat it) + occ nm (AP R)) T none none none none none (by omega) (by omega) (by omega) w2 (by omega)
      rw [List.length_append, List.length_singleton, ← nI_1 p.length] at nxt
      refine Rk.tr (F1 := (84, 22, _, _)) (x_iload rfl rfl) ?_
      refine Rk.tr (F1 := (84, 23, _, _)) (x_aload_n rfl rfl rfl) ?_
      refine Rk.tr (F1 := (84, 26, _, _)) (x_getf rfl rfl h1 rfl) ?_
      refine Rk.tr (F1 := (84, 29, _, _)) (x_callv (As := []) rfl rfl rfl (Or.inl rfl) rfl rfl l1 (by decide) rfl (Nat.le_of_ble_eq_true rfl) (c_lsize l1) rfl) ?_
      refine Rk.tr (F1 := (84, 32, _, _)) (x_icF rfl (tg := 157) rfl (show ¬ nI bs.length ≤ nI p.length from nI_ge (by omega) (by omega))) ?_
      refine Rk.tr (F1 := (84, 33, _, _)) (x_iload_n rfl rfl) ?_
      refine Rk.tr (F1 := (84, 35, _, _)) (x_bipush rfl) ?_
      refine Rk.tr (F1 := (84, 38, _, _)) (x_icF rfl (tg := 157) rfl (show ¬ nI 40 ≤ nI dp from nI_ge (by omega) (by omega))) ?_
      refine Rk.tr (F1 := (84, 39, _, _)) (x_aload_n rfl rfl rfl) ?_
      refine Rk.tr (F1 := (84, 42, _, _)) (x_getf rfl rfl h1 rfl) ?_
      refine Rk.tr (F1 := (84, 44, _, _)) (x_iload rfl rfl) ?_
      refine Rk.tr (F1 := (84, 47, _, _)) (x_callv (As := [_]) rfl rfl rfl (Or.inl rfl) rfl rfl l1 (by decide) rfl (Nat.le_of_ble_eq_true rfl) (c_get h3 ek) rfl) ?_
      refine Rk.tr (F1 := (84, 50, _, _)) (x_cast rfl rfl (by decide) b1) ?_
      refine Rk.tr (F1 := (84, 52, [_, _, _, _, _, _, _, _, _, _], _)) (x_astore (i := 5) rfl (Nat.le_of_ble_eq_true rfl)) ?_
      refine Rk.tr (F1 := (84, 54, _, _)) (x_aload rfl rfl rfl) ?_
      refine Rk.tr (F1 := (84, 57, _, _)) (x_getf rfl rfl b1 rfl) ?_
      refine Rk.tr (F1 := (84, 59, [_, _, _, _, _, _, _, _, _, _], _)) (x_astore (i := 6) rfl (Nat.le_of_ble_eq_true rfl)) ?_
      refine Rk.tr (F1 := (84, 61, _, _)) (x_aload rfl rfl rfl) ?_
      refine Rk.tr (F1 := (84, 62, _, _)) (x_alen rfl b3 rfl) ?_
      refine Rk.tr (F1 := (84, 62, _, _)) (x_top (congrArg nI (refs_len xs))) ?_
      refine Rk.tr (F1 := (84, 64, [_, _, _, _, _, _, _, _, _, _], _)) (x_istore (i := 7) rfl (Nat.le_of_ble_eq_true rfl)) ?_
      refine Rk.tr (F1 := (84, 65, _, _)) (x_iconst rfl) ?_
      refine Rk.tr (F1 := (84, 67, [_, _, _, _, _, _, _, _, _, _], _)) (x_istore (i := 8) rfl (Nat.le_of_ble_eq_true rfl)) ?_
      refine Rk.tr (lp_occA (d := D + 2) (k := some (.int (nI p.length))) b3 b4 b5 (iat it) 0 c y5 (Nat.zero_add _)) ?_
      refine Rk.tr (F1 := (84, 106, _, _)) (x_aload rfl rfl rfl) ?_
      refine Rk.tr (F1 := (84, 109, _, _)) (x_getf rfl rfl b1 rfl) ?_
      refine Rk.tr (F1 := (84, 111, [_, _, _, _, _, _, _, _, _, _], _)) (x_astore (i := 6) rfl (Nat.le_of_ble_eq_true rfl)) ?_
      refine Rk.tr (F1 := (84, 113, _, _)) (x_aload rfl rfl rfl) ?_
      refine Rk.tr (F1 := (84, 114, _, _)) (x_alen rfl b7 rfl) ?_
      refine Rk.tr (F1 := (84, 114, _, _)) (x_top (congrArg nI (refs_len rs))) ?_
      refine Rk.tr (F1 := (84, 116, [_, _, _, _, _, _, _, _, _, _], _)) (x_istore (i := 7) rfl (Nat.le_of_ble_eq_true rfl)) ?_
      refine Rk.tr (F1 := (84, 117, _, _)) (x_iconst rfl) ?_
      refine Rk.tr (F1 := (84, 119, [_, _, _, _, _, _, _, _, _, _], _)) (x_istore (i := 8) rfl (Nat.le_of_ble_eq_true rfl)) ?_
      refine Rk.tr (lp_occR (k := some (.int (nI p.length))) IH b7 hr2 rs [] R (c + ioc it nm 0 (iat it)) none rfl w1 (by omega) (by omega)) ?_
      refine Rk.tr (F1 := (84, 154, [_, _, _, _, _, _, _, _, _, _], _)) (x_iinc (i := 4) rfl rfl) ?_
      refine Rk.tr (F1 := (84, 20, _, _)) (x_goto rfl rfl) ?_
      exact nxt
theorem c_occ0 {nm : Int32} (hG : GH E h O G) : ∀ (n d dp : Nat) (Q : List AI) (a : Nat), Q.length ≤ n → WA G [(a, [])] Q [] → 7 * dp + tsum (AP Q) ≤ 210 → Rn E (d + n + 2) 84 [.ref a, .int nm, .int (nI dp)] h (some (.int (nI (occ nm (AP Q))))) h := by
  intro n
  induction n with
  | zero =>
    intro d dp Q a hm hW _
    have : Q = [] := List.length_eq_zero_iff.mp (Nat.le_zero.mp hm)
    rw [this] at hW; cases hW
  | succ n ih =>
    intro d dp Q a hm hW ht
    obtain ⟨⟨bs, r, ha⟩, -⟩ := WA_mem hW List.mem_cons_self
    rw [List.nil_append] at ha
    obtain ⟨l, e, cap, x0, h1, h2, h3, h4, h5, h6⟩ := hG.2.2.1 a bs r ha
    rw [show d + (n + 1) + 2 = (d + n) + 3 by omega]
    have key := lp_occB (E := E) (D := d + n) (n := n) (dp := dp) (nm := nm) hG ha (fun Q r q1 q2 q3 => ih d (dp + 1) Q r q1 q2 q3) Q.length Q [] (if r = (1, nm) then 1 else 0) (occ nm (AP Q)) none none none none none (Nat.le_refl _) hm (by omega) hW ht
    refine Rn.of (Nat.le_of_ble_eq_true rfl) ?_
    refine Rk.tr (F1 := (84, 1, _, _)) (x_aload_n rfl rfl rfl) ?_
    refine Rk.tr (F1 := (84, 4, _, _)) (x_getf rfl rfl h1 rfl) ?_
    refine Rk.tr (F1 := (84, 5, _, _)) (x_iload_n rfl rfl) ?_
    refine Rk.tr (F1 := (84, 8, _, _)) (x_callv (As := [_]) rfl rfl rfl (Or.inl rfl) rfl rfl h2.1 (by decide) rfl (Nat.le_of_ble_eq_true rfl) (c_isName h2) rfl) ?_
    by_cases er : r = (1, nm)
    · rw [if_pos er] at key ⊢
      refine Rk.tr (F1 := (84, 11, _, _)) (x_ifF rfl (tg := 15) rfl (show ¬ (1 : Int32) = 0 by decide)) ?_
      refine Rk.tr (F1 := (84, 12, _, _)) (x_iconst rfl) ?_
      refine Rk.tr (F1 := (84, 16, _, _)) (x_goto rfl rfl) ?_
      refine Rk.tr (F1 := (84, 17, [_, _, _, _, _, _, _, _, _, _], _)) (x_istore_n (i := 3) rfl (Nat.le_of_ble_eq_true rfl)) ?_
      refine Rk.tr (F1 := (84, 18, _, _)) (x_iconst rfl) ?_
      refine Rk.tr (F1 := (84, 20, [_, _, _, _, _, _, _, _, _, _], _)) (x_istore (i := 4) rfl (Nat.le_of_ble_eq_true rfl)) ?_
      exact key
    · rw [if_neg er] at key ⊢
      refine Rk.tr (F1 := (84, 15, _, _)) (x_ifT rfl (tg := 15) rfl rfl) ?_
      refine Rk.tr (F1 := (84, 16, _, _)) (x_iconst rfl) ?_
      refine Rk.tr (F1 := (84, 17, [_, _, _, _, _, _, _, _, _, _], _)) (x_istore_n (i := 3) rfl (Nat.le_of_ble_eq_true rfl)) ?_
      refine Rk.tr (F1 := (84, 18, _, _)) (x_iconst rfl) ?_
      refine Rk.tr (F1 := (84, 20, [_, _, _, _, _, _, _, _, _, _], _)) (x_istore (i := 4) rfl (Nat.le_of_ble_eq_true rfl)) ?_
      exact key
theorem c_occs {P : List AI} {a : Nat} {nm : Int32} (hG : GH E h O G) (hW : WA G [(a, [])] P []) (ht : tsum (AP P) ≤ 210) : Rn E (d + 73) 83 [.ref a, .int nm] h (some (.int (nI (occ nm (AP P))))) h := by
  refine Rn.of (Nat.le_of_ble_eq_true rfl) ?_
  have hl : P.length ≤ 70 := by
    have := len_sum (AP P)
    have e : (AP P).length = P.length := List.length_map ..
    omega
  refine Rk.tr (F1 := (83, 1, _, _)) (x_aload_n rfl rfl rfl) ?_
  refine Rk.tr (F1 := (83, 2, _, _)) (x_iload_n rfl rfl) ?_
  refine Rk.tr (F1 := (83, 3, _, _)) (x_iconst rfl) ?_
  refine Rk.tr (F1 := (83, 6, _, _)) (x_calls (As := [_, _, _]) rfl rfl rfl rfl rfl rfl (Nat.le_of_ble_eq_true rfl) (c_occ0 hG 70 d 0 P a hl hW (by omega)) rfl) ?_
  exact Rk.end rfl (Or.inr (Or.inl ⟨rfl, _, .int, rfl, rfl, rfl, rfl⟩))
end M29
