/-! ===== the class: what is read of rows ===== -/
theorem isz_ge4 {it : It} (h9 : it.1 ≠ 9) : 4 ≤ isz it := by
  unfold isz
  split <;> first | decide | (rename_i z; exact absurd z h9)
theorem tsum_pos {Q : List AI} {G : PG} {a : Nat} {p : List Nat} (h : WA G [(a, p)] Q []) : 3 ≤ tsum (AP Q) := closes_ge _ 1 (WA_closes (u := [(a, p)]) (s := []) (by simp) h)
theorem AP_cons (q : AI) (Q : List AI) : AP (q :: Q) = q.1 :: AP Q := rfl
theorem cntB_app (A B : List It) : cntB (A ++ B) = cntB A + cntB B := by
  induction A with
  | nil => simp [cntB]
  | cons a A ih => simp only [List.cons_append, cntB, ih]; omega
theorem cntB_le (P : List It) : cntB P ≤ tsum P := by
  induction P with
  | nil => exact Nat.le_refl _
  | cons a A ih =>
    simp only [cntB, tsum]
    have := isz_ge a
    split <;> omega
section M28
variable {E : PE} {d : Nat} {h : PH} {O : Nat → Nat × Nat} {G : PG}
theorem c_isName {x : Nat} {v : Int32 × Int32} {nm : Int32} (hx : AtH h x v) : Rn E d 65 [.ref x, .int nm] h (some (.int (if v = (1, nm) then 1 else 0))) h := by
  obtain ⟨v1, v2⟩ := v
  refine Rn.of (Nat.le_of_ble_eq_true rfl) ?_
  by_cases h1 : v1 = 0
  · rw [if_neg (fun z => by cases z; exact absurd h1 (by decide))]
    refine Rk.tr (F1 := (65, 1, _, _)) (x_aload_n rfl rfl rfl) ?_
    refine Rk.tr (F1 := (65, 4, _, _)) (x_getf rfl rfl hx.1 rfl) ?_
    refine Rk.tr (F1 := (65, 19, _, _)) (x_ifT rfl (tg := 19) rfl h1) ?_
    refine Rk.tr (F1 := (65, 20, _, _)) (x_iconst rfl) ?_
    exact Rk.end rfl (Or.inr (Or.inl ⟨rfl, _, .boolean, rfl, rfl, rfl, rfl⟩))
  · have e1 : v1 = 1 := hx.2.resolve_left h1
    by_cases h2 : v2 = nm
    · rw [if_pos (by rw [e1, h2])]
      refine Rk.tr (F1 := (65, 1, _, _)) (x_aload_n rfl rfl rfl) ?_
      refine Rk.tr (F1 := (65, 4, _, _)) (x_getf rfl rfl hx.1 rfl) ?_
      refine Rk.tr (F1 := (65, 7, _, _)) (x_ifF rfl (tg := 19) rfl h1) ?_
      refine Rk.tr (F1 := (65, 8, _, _)) (x_aload_n rfl rfl rfl) ?_
      refine Rk.tr (F1 := (65, 11, _, _)) (x_getf rfl rfl hx.1 rfl) ?_
      refine Rk.tr (F1 := (65, 12, _, _)) (x_iload_n rfl rfl) ?_
      refine Rk.tr (F1 := (65, 15, _, _)) (x_icF rfl (tg := 19) rfl (fun z => z h2)) ?_
      refine Rk.tr (F1 := (65, 16, _, _)) (x_iconst rfl) ?_
      refine Rk.tr (F1 := (65, 20, _, _)) (x_goto rfl rfl) ?_
      exact Rk.end rfl (Or.inr (Or.inl ⟨rfl, _, .boolean, rfl, rfl, rfl, rfl⟩))
    · rw [if_neg (fun z => by cases z; exact h2 rfl)]
      refine Rk.tr (F1 := (65, 1, _, _)) (x_aload_n rfl rfl rfl) ?_
      refine Rk.tr (F1 := (65, 4, _, _)) (x_getf rfl rfl hx.1 rfl) ?_
      refine Rk.tr (F1 := (65, 7, _, _)) (x_ifF rfl (tg := 19) rfl h1) ?_
      refine Rk.tr (F1 := (65, 8, _, _)) (x_aload_n rfl rfl rfl) ?_
      refine Rk.tr (F1 := (65, 11, _, _)) (x_getf rfl rfl hx.1 rfl) ?_
      refine Rk.tr (F1 := (65, 12, _, _)) (x_iload_n rfl rfl) ?_
      refine Rk.tr (F1 := (65, 19, _, _)) (x_icT rfl (tg := 19) rfl h2) ?_
      refine Rk.tr (F1 := (65, 20, _, _)) (x_iconst rfl) ?_
      exact Rk.end rfl (Or.inr (Or.inl ⟨rfl, _, .boolean, rfl, rfl, rfl, rfl⟩))
theorem lp_binR {D n dp a ar : Nat} {rs : List Nat} {k : Option Value} (IH : ∀ (Q : List AI) (r : Nat), Q.length ≤ n → WA G [(r, [])] Q [] → 7 * (dp + 1) + tsum (AP Q) ≤ 210 → Rn E D 77 [.ref r, .int (nI (dp + 1))] h (some (.int (nI (cntB (AP Q))))) h) (har : h.1 ar = some (104, refs rs)) (h2 : rs.length ≤ 2) : ∀ (rs2 rs1 : List Nat) (R : List AI) (c : Nat) (y : Option Value), rs = rs1 ++ rs2 → WA G (rs2.map (fun r => (r, []))) R [] → R.length ≤ n → 7 * (dp + 1) + tsum (AP R) ≤ 210 →
    Ex E (D + 1) (77, 51, [some (.ref a), some (.int (nI dp)), some (.int (nI c)), k, some (.ref ar), some (.int (nI rs.length)), some (.int (nI rs1.length)), y], []) h (77, 82, [some (.ref a), some (.int (nI dp)), some (.int (nI (c + cntB (AP R)))), k, none, none, none, none], []) h := by
  intro rs2
  induction rs2 with
  | nil =>
    intro rs1 R c y e hW _ _
    have hR := (WA_nil hW).1
    rw [List.append_nil] at e
    rw [hR]
    refine Ex.tr (F1 := (77, 53, _, _)) (x_iload rfl rfl) ?_
    refine Ex.tr (F1 := (77, 55, _, _)) (x_iload rfl rfl) ?_
    refine Ex.tr (F1 := (77, 82, _, _)) (x_icT rfl (tg := 82) rfl (show nI rs.length ≤ nI rs1.length by rw [e]; exact Int32.le_refl _)) ?_
    exact x_wk ⟨Or.inr rfl, Or.inr rfl, Or.inr rfl, Or.inr rfl, Or.inl rfl, Or.inl rfl, Or.inl rfl, Or.inl rfl, trivial⟩
  | cons r rs2 ih =>
    intro rs1 R c y e hW hn ht
    obtain ⟨R1, R2, eR, w1, w2⟩ := WA_rows hW
    have hrs : rs[rs1.length]? = some r := by rw [e, List.getElem?_append_right (Nat.le_refl _), Nat.sub_self]; rfl
    have hlen : rs.length = rs1.length + (rs2.length + 1) := by rw [e, List.length_append, List.length_cons]
    have et : tsum (AP R) = tsum (AP R1) + tsum (AP R2) := by rw [eR, AP_app, tsum_app]
    have ec : cntB (AP R) = cntB (AP R1) + cntB (AP R2) := by rw [eR, AP_app, cntB_app]
    have el : R.length = R1.length + R2.length := by rw [eR, List.length_append]
    have nxt := ih (rs1 ++ [r]) R2 (c + cntB (AP R1)) (some (.ref r)) (by rw [e, List.append_assoc]; rfl) w2 (by omega) (by omega)
    rw [List.length_append, List.length_singleton] at nxt
    refine Ex.tr (F1 := (77, 53, _, _)) (x_iload rfl rfl) ?_
    refine Ex.tr (F1 := (77, 55, _, _)) (x_iload rfl rfl) ?_
    refine Ex.tr (F1 := (77, 58, _, _)) (x_icF rfl (tg := 82) rfl (show ¬ nI rs.length ≤ nI rs1.length from nI_ge (by omega) (by omega))) ?_
    refine Ex.tr (F1 := (77, 60, _, _)) (x_aload rfl rfl rfl) ?_
    refine Ex.tr (F1 := (77, 62, _, _)) (x_iload rfl rfl) ?_
    refine Ex.tr (F1 := (77, 63, _, _)) (x_aald rfl har rfl rfl rfl (by omega) (refs_at hrs)) ?_
    refine Ex.tr (F1 := (77, 65, [_, _, _, _, _, _, _, _], _)) (x_astore (i := 7) rfl (Nat.le_of_ble_eq_true rfl)) ?_
    refine Ex.tr (F1 := (77, 66, _, _)) (x_iload_n rfl rfl) ?_
    refine Ex.tr (F1 := (77, 68, _, _)) (x_aload rfl rfl rfl) ?_
    refine Ex.tr (F1 := (77, 69, _, _)) (x_iload_n rfl rfl) ?_
    refine Ex.tr (F1 := (77, 70, _, _)) (x_iconst rfl) ?_
    refine Ex.tr (F1 := (77, 71, _, _)) (x_iadd rfl) ?_
    refine Ex.tr (F1 := (77, 71, _, _)) (x_top (nI_1 dp)) ?_
    refine Ex.tr (F1 := (77, 74, _, _)) (x_calls (As := [_, _]) rfl rfl rfl rfl rfl rfl (Nat.le_of_ble_eq_true rfl) (IH R1 r (by omega) w1 (by omega)) rfl) ?_
    refine Ex.tr (F1 := (77, 75, _, _)) (x_iadd rfl) ?_
    refine Ex.tr (F1 := (77, 75, _, _)) (x_top (nI_add _ _)) ?_
    refine Ex.tr (F1 := (77, 76, [_, _, _, _, _, _, _, _], _)) (x_istore_n (i := 2) rfl (Nat.le_of_ble_eq_true rfl)) ?_
    refine Ex.tr (F1 := (77, 79, [_, _, _, _, _, _, _, _], _)) (x_iinc (i := 6) rfl rfl) ?_
    refine Ex.tr (F1 := (77, 51, _, _)) (x_goto rfl rfl) ?_
    rw [ec, ← Nat.add_assoc]
    rw [← nI_1 rs1.length] at nxt
    exact nxt
theorem LH.len {l e cap : Nat} {bs : List Nat} (hL : LH E h l e bs cap) : bs.length ≤ 1000 := by
  obtain ⟨-, h2, h3⟩ := hL
  rcases h2 with ⟨-, a2, -⟩ | ⟨fs, -, -, -, f4, -⟩
  · rw [a2]; exact Nat.zero_le _
  · omega
theorem WA_next {a x : Nat} {bs p : List Nat} {r : Int32 × Int32} {Q : List AI} (ha : G.1 a = some (bs, r)) (hW : WA G [(a, p ++ [x])] Q []) : ∃ rest, bs = p ++ x :: rest ∧ bs[p.length]? = some x := by
  obtain ⟨⟨rest, r', e⟩, -⟩ := WA_mem hW List.mem_cons_self
  rw [ha] at e; cases e
  refine ⟨rest, by rw [List.append_assoc]; rfl, ?_⟩
  rw [List.append_assoc, List.getElem?_append_right (Nat.le_refl _), Nat.sub_self]; rfl
theorem lp_bin {D n dp a : Nat} {bs : List Nat} {r : Int32 × Int32} (hG : GH E h O G) (ha : G.1 a = some (bs, r)) (IH : ∀ (Q : List AI) (r : Nat), Q.length ≤ n → WA G [(r, [])] Q [] → 7 * (dp + 1) + tsum (AP Q) ≤ 210 → Rn E (D + 2) 77 [.ref r, .int (nI (dp + 1))] h (some (.int (nI (cntB (AP Q))))) h) : ∀ (m : Nat) (Q : List AI) (p rest : List Nat) (c T : Nat) (y1 y2 y3 y4 : Option Value), Q.length ≤ m → m ≤ n + 1 → bs = p ++ rest → c + cntB (AP Q) = T + rest.length → WA G [(a, p)] Q [] → 7 * dp + tsum (AP Q) ≤ 210 →
    Rk E (D + 3) (77, 10, [some (.ref a), some (.int (nI dp)), some (.int (nI c)), some (.int (nI p.length)), y1, y2, y3, y4], []) h (some (.int (nI T))) h := by
  obtain ⟨l, e, cap, x0, h1, h2, h3, h4, h5, h6⟩ := hG.2.2.1 a bs r ha
  obtain ⟨mc, l1⟩ := h3.1
  have hln := h3.len
  intro m
  induction m with
  | zero =>
    intro Q p rest c T y1 y2 y3 y4 hm _ _ _ hW _
    have : Q = [] := List.length_eq_zero_iff.mp (Nat.le_zero.mp hm)
    rw [this] at hW; cases hW
  | succ m ih =>
    intro Q p rest c T y1 y2 y3 y4 hm hmn hbs hT hW ht
    have hpl : bs.length = p.length + rest.length := by rw [hbs, List.length_append]
    rcases WA_row hW with ⟨it, eQ, e9, eg⟩ | ⟨it, x, rs, R, Q', eQ, e9, eg, el, w1, w2⟩
    · rw [ha] at eg; cases eg
      have hr0 : rest.length = 0 := by omega
      rw [eQ] at hT
      simp only [AP, List.map, cntB, e9] at hT
      have ec : c = T := by simp at hT; omega
      rw [ec]
      refine Rk.tr (F1 := (77, 11, _, _)) (x_iload_n rfl rfl) ?_
      refine Rk.tr (F1 := (77, 12, _, _)) (x_aload_n rfl rfl rfl) ?_
      refine Rk.tr (F1 := (77, 15, _, _)) (x_getf rfl rfl h1 rfl) ?_
      refine Rk.tr (F1 := (77, 18, _, _)) (x_callv (As := []) rfl rfl rfl (Or.inl rfl) rfl rfl l1 (by decide) rfl (Nat.le_of_ble_eq_true rfl) (c_lsize l1) rfl) ?_
      refine Rk.tr (F1 := (77, 88, _, _)) (x_icT rfl (tg := 88) rfl (Int32.le_refl _)) ?_
      refine Rk.tr (F1 := (77, 89, _, _)) (x_iload_n rfl rfl) ?_
      exact Rk.end rfl (Or.inr (Or.inl ⟨rfl, _, .int, rfl, rfl, rfl, rfl⟩))
    · obtain ⟨rest', eb, ek⟩ := WA_next ha w2
      have er : rest.length = rest'.length + 1 := by
        have := congrArg List.length eb
        rw [List.length_append, List.length_cons] at this
        omega
      obtain ⟨at0, ar, xs, dt, b1, b2, b3, b4, b5, b6, b7, b8⟩ := hG.2.2.2 x it rs eg
      have et : tsum (AP Q) = isz it + (tsum (AP R) + tsum (AP Q')) := by rw [eQ, AP_cons, AP_app]; simp only [tsum, tsum_app]
      have ec : cntB (AP Q) = 1 + (cntB (AP R) + cntB (AP Q')) := by rw [eQ, AP_cons, AP_app]; simp only [cntB, cntB_app]; rw [if_neg e9]
      have eL : Q.length = 1 + (R.length + Q'.length) := by rw [eQ, List.length_cons, List.length_append]; omega
      have e4 := isz_ge4 e9
      have e3 := tsum_pos w2
      have hr2 : rs.length ≤ 2 := by rw [el]; exact irw_le it
      have nxt := ih Q' (p ++ [x]) rest' (c + cntB (AP R)) T none none none none (by omega) (by omega) (by rw [eb, List.append_assoc]; rfl) (by omega) w2 (by omega)
      rw [List.length_append, List.length_singleton, ← nI_1 p.length] at nxt
      refine Rk.tr (F1 := (77, 11, _, _)) (x_iload_n rfl rfl) ?_
      refine Rk.tr (F1 := (77, 12, _, _)) (x_aload_n rfl rfl rfl) ?_
      refine Rk.tr (F1 := (77, 15, _, _)) (x_getf rfl rfl h1 rfl) ?_
      refine Rk.tr (F1 := (77, 18, _, _)) (x_callv (As := []) rfl rfl rfl (Or.inl rfl) rfl rfl l1 (by decide) rfl (Nat.le_of_ble_eq_true rfl) (c_lsize l1) rfl) ?_
      refine Rk.tr (F1 := (77, 21, _, _)) (x_icF rfl (tg := 88) rfl (show ¬ nI bs.length ≤ nI p.length from nI_ge (by omega) (by omega))) ?_
      refine Rk.tr (F1 := (77, 22, _, _)) (x_iload_n rfl rfl) ?_
      refine Rk.tr (F1 := (77, 24, _, _)) (x_bipush rfl) ?_
      refine Rk.tr (F1 := (77, 27, _, _)) (x_icF rfl (tg := 88) rfl (show ¬ nI 40 ≤ nI dp from nI_ge (by omega) (by omega))) ?_
      refine Rk.tr (F1 := (77, 28, _, _)) (x_aload_n rfl rfl rfl) ?_
      refine Rk.tr (F1 := (77, 31, _, _)) (x_getf rfl rfl h1 rfl) ?_
      refine Rk.tr (F1 := (77, 32, _, _)) (x_iload_n rfl rfl) ?_
      refine Rk.tr (F1 := (77, 35, _, _)) (x_callv (As := [_]) rfl rfl rfl (Or.inl rfl) rfl rfl l1 (by decide) rfl (Nat.le_of_ble_eq_true rfl) (c_get h3 ek) rfl) ?_
      refine Rk.tr (F1 := (77, 38, _, _)) (x_cast rfl rfl (by decide) b1) ?_
      refine Rk.tr (F1 := (77, 41, _, _)) (x_getf rfl rfl b1 rfl) ?_
      refine Rk.tr (F1 := (77, 43, [_, _, _, _, _, _, _, _], _)) (x_astore (i := 4) rfl (Nat.le_of_ble_eq_true rfl)) ?_
      refine Rk.tr (F1 := (77, 45, _, _)) (x_aload rfl rfl rfl) ?_
      refine Rk.tr (F1 := (77, 46, _, _)) (x_alen rfl b7 rfl) ?_
      refine Rk.tr (F1 := (77, 46, _, _)) (x_top (congrArg nI (refs_len rs))) ?_
      refine Rk.tr (F1 := (77, 48, [_, _, _, _, _, _, _, _], _)) (x_istore (i := 5) rfl (Nat.le_of_ble_eq_true rfl)) ?_
      refine Rk.tr (F1 := (77, 49, _, _)) (x_iconst rfl) ?_
      refine Rk.tr (F1 := (77, 51, [_, _, _, _, _, _, _, _], _)) (x_istore (i := 6) rfl (Nat.le_of_ble_eq_true rfl)) ?_
      refine Rk.tr (lp_binR (k := some (.int (nI p.length))) IH b7 hr2 rs [] R c y4 rfl w1 (by omega) (by omega)) ?_
      refine Rk.tr (F1 := (77, 85, [_, _, _, _, _, _, _, _], _)) (x_iinc (i := 3) rfl rfl) ?_
      refine Rk.tr (F1 := (77, 10, _, _)) (x_goto rfl rfl) ?_
      exact nxt
theorem c_bin (hG : GH E h O G) : ∀ (n d dp : Nat) (Q : List AI) (a : Nat), Q.length ≤ n → WA G [(a, [])] Q [] → 7 * dp + tsum (AP Q) ≤ 210 → Rn E (d + n + 2) 77 [.ref a, .int (nI dp)] h (some (.int (nI (cntB (AP Q))))) h := by
  intro n
  induction n with
  | zero =>
    intro d dp Q a hm hW _
    have : Q = [] := List.length_eq_zero_iff.mp (Nat.le_zero.mp hm)
    rw [this] at hW; cases hW
  | succ n ih =>
    intro d dp Q a hm hW ht
    obtain ⟨⟨bs, r, ha⟩, -⟩ := WA_mem hW List.mem_cons_self
    rw [List.nil_append] at ha
    obtain ⟨l, e, cap, x0, h1, h2, h3, h4, h5, h6⟩ := hG.2.2.1 a bs r ha
    obtain ⟨mc, l1⟩ := h3.1
    rw [show d + (n + 1) + 2 = (d + n) + 3 by omega]
    have key := lp_bin (E := E) (D := d + n) (n := n) (dp := dp) hG ha (fun Q r q1 q2 q3 => ih d (dp + 1) Q r q1 q2 q3) Q.length Q [] bs bs.length (cntB (AP Q)) none none none none (Nat.le_refl _) hm rfl (by omega) hW ht
    refine Rn.of (Nat.le_of_ble_eq_true rfl) ?_
    refine Rk.tr (F1 := (77, 1, _, _)) (x_aload_n rfl rfl rfl) ?_
    refine Rk.tr (F1 := (77, 4, _, _)) (x_getf rfl rfl h1 rfl) ?_
    refine Rk.tr (F1 := (77, 7, _, _)) (x_callv (As := []) rfl rfl rfl (Or.inl rfl) rfl rfl l1 (by decide) rfl (Nat.le_of_ble_eq_true rfl) (c_lsize l1) rfl) ?_
    refine Rk.tr (F1 := (77, 8, [_, _, _, _, _, _, _, _], _)) (x_istore_n (i := 2) rfl (Nat.le_of_ble_eq_true rfl)) ?_
    refine Rk.tr (F1 := (77, 9, _, _)) (x_iconst rfl) ?_
    refine Rk.tr (F1 := (77, 10, [_, _, _, _, _, _, _, _], _)) (x_istore_n (i := 3) rfl (Nat.le_of_ble_eq_true rfl)) ?_
    exact key
theorem c_allB {P : List AI} {a : Nat} (hG : GH E h O G) (hW : WA G [(a, [])] P []) (ht : tsum (AP P) ≤ 210) : Rn E (d + 73) 76 [.ref a] h (some (.int (nI (cntB (AP P))))) h := by
  refine Rn.of (Nat.le_of_ble_eq_true rfl) ?_
  have hl : P.length ≤ 70 := by
    have := len_sum (AP P)
    have e : (AP P).length = P.length := List.length_map ..
    omega
  refine Rk.tr (F1 := (76, 1, _, _)) (x_aload_n rfl rfl rfl) ?_
  refine Rk.tr (F1 := (76, 2, _, _)) (x_iconst rfl) ?_
  refine Rk.tr (F1 := (76, 5, _, _)) (x_calls (As := [_, _]) rfl rfl rfl rfl rfl rfl (Nat.le_of_ble_eq_true rfl) (c_bin hG 70 d 0 P a hl hW (by omega)) rfl) ?_
  exact Rk.end rfl (Or.inr (Or.inl ⟨rfl, _, .int, rfl, rfl, rfl, rfl⟩))
end M28
