/-! ===== the class: one pass ===== -/
theorem x_aasti {E : PE} {d mi pc : Nat} {L : PL} {st : List Value} {h : PH} {i : Int32} {a n v : Nat} {pf : Nat → Value} {gs : List Value} (hi : pin mi pc = some (.aastore, 1)) (ha : h.1 a = some (104, par pf)) (hv : h.1 v = some (7, gs)) (he : i = nI n) (hb : n < 2 ^ 31) (hn : n < 40) : Ex E d (mi, pc, L, .ref v :: .int i :: .ref a :: st) h (mi, pc + 1, L, st) (pset h a (104, par (vup pf n (.ref v)))) := by
  rw [← par_set]
  exact x_aast hi ha hv rfl he hb (by rw [par_len]; exact hn)
section M44
variable {E : PE} {d pz pa pl y root st : Nat} {nn nm : Int32} {h : PH} {O : Nat → Nat × Nat} {G : PG} {pf : Nat → Value} {lf c : Nat → Int32}
theorem c_goK : ∀ (K : Nat), K ≤ 20000 → ∀ (k : Nat) (h : PH) (O : Nat → Nat × Nat) (G : PG) (A B : List AI) (r : Nat) (s : ES) (pf : Nat → Value) (lf c : Nat → Int32) (m d dp : Nat), k ≤ K → PSt E pz pa pl y root st nn h O G A B ((r, []) :: s) pf lf c → Inv (AP A ++ AP B) → PthR pf lf s dp → pfu (AP A) (AP B) ≤ k → GoE E pz pa pl y root st nn (fun h' => Rn E (d + (40 - dp) + 76) 102 [.ref pz, .ref y, .ref r, .int (nI dp)] h none h') h O A B s c m k dp := by
  intro K
  induction K with
  | zero =>
    intro _ k h O G A B r s pf lf c m d dp hk hP hI hp hf
    exfalso
    match B, hP.2.2.2.1, hf with
    | [], z, _ => cases z
    | q :: B, _, hf =>
      have hf' : pfu (AP A) (q.1 :: AP B) ≤ k := hf
      obtain ⟨k0, e⟩ := pos_k hf'
      omega
  | succ K ihK =>
    intro hK k h O G A B a s pf lf c m d dp hk hP hI hp hf
    have hdp := hP.deep hp
    obtain ⟨g1, g2, g3, g4, g5, g6⟩ := id hP
    obtain ⟨x1, x2, x3, x4, x5, x6, x7⟩ := id g2
    obtain ⟨⟨bs, ra, hra⟩, -⟩ := WA_mem g4 List.mem_cons_self
    obtain ⟨l, e, cap, x0, q1, -⟩ := g1.2.2.1 a _ ra hra
    obtain ⟨Ga, Pa⟩ := PsH.path g1 g2 dp (.ref a)
    obtain ⟨Gb, Pb⟩ := PsH.place Ga Pa dp 0
    have hP2 : PSt E pz pa pl y root st nn _ O G A B ((a, []) :: s) (vup pf dp (.ref a)) (rup lf dp 0) c := ⟨Gb, Pb, g3, g4, g5, g6⟩
    have key := lp_goB (K := K) (by omega) (ihK (by omega)) k _ O G A B a [] s _ _ c m d dp 0 none none none none none hk (by omega) hP2 hI (if_pos rfl) (if_pos rfl) (PthR_mono hp (fun j hj => ⟨by unfold vup; rw [if_neg (by omega)], by unfold rup; rw [if_neg (by omega)]⟩)) hf
    refine GoE.chain g1.1 (Shr.rf s) ((ChP.set (Or.inl rfl)).tr g1.1 (ChP.set (Or.inr (Or.inl rfl)))) rfl (Nat.le_refl _) (Nat.le_refl _) (by show h.2.1 ≤ _; omega) (by show h.2.2 ≤ _; omega) (fun h' kk => Rn.of (Nat.le_of_ble_eq_true rfl) ?_) key
    have y1 := Pa.1
    have y4 := Pa.2.2.2.1
    refine Rk.tr (F1 := (102, 1, _, _)) (x_iload_n rfl rfl) ?_
    refine Rk.tr (F1 := (102, 3, _, _)) (x_bipush rfl) ?_
    refine Rk.tr (F1 := (102, 7, _, _)) (x_icT rfl (tg := 7) rfl (show nI dp < nI 40 from Int32.not_le.mp (nI_ge (by omega) (by omega)))) ?_
    refine Rk.tr (F1 := (102, 8, _, _)) (x_aload_n rfl rfl rfl) ?_
    refine Rk.tr (F1 := (102, 11, _, _)) (x_getf rfl rfl x1 rfl) ?_
    refine Rk.tr (F1 := (102, 12, _, _)) (x_iload_n rfl rfl) ?_
    refine Rk.tr (F1 := (102, 13, _, _)) (x_aload_n rfl rfl rfl) ?_
    refine Rk.tr (F1 := (102, 14, _, _)) (x_aasti (n := dp) rfl x2 q1 rfl (by omega) (by omega)) ?_
    refine Rk.tr (F1 := (102, 15, _, _)) (x_aload_n rfl rfl rfl) ?_
    refine Rk.tr (F1 := (102, 18, _, _)) (x_getf rfl rfl y1 rfl) ?_
    refine Rk.tr (F1 := (102, 19, _, _)) (x_iload_n rfl rfl) ?_
    refine Rk.tr (F1 := (102, 20, _, _)) (x_iconst rfl) ?_
    refine Rk.tr (F1 := (102, 21, _, _)) (x_iasti (n := dp) rfl y4 rfl (by omega) (by omega)) ?_
    refine Rk.tr (F1 := (102, 22, _, _)) (x_iconst rfl) ?_
    refine Rk.tr (F1 := (102, 24, [_, _, _, _, _, _, _, _, _, _], _)) (x_istore (i := 4) rfl (Nat.le_of_ble_eq_true rfl)) ?_
    exact kk
def s4 (c : Nat → Int32) : Int32 := c 0 + c 1 + c 2 + c 3
theorem stp_w {A B A' B' : List It} {it : It} {w : Nat} (h : stp A it B = some (w, A', B')) : w < 4 := by
  unfold stp at h
  split at h
  · cases h
  · split at h
    · split at h
      · cases h; decide
      · cases h
    · split at h
      · split at h
        · split at h
          · cases h; decide
          · cases h
        · cases h
      · split at h
        · split at h
          · cases h; decide
          · cases h
        · split at h
          · cases h; decide
          · cases h
theorem s4_up {c : Nat → Int32} {w : Nat} (h : w < 4) : s4 (rup c w (c w + 1)) = s4 c + 1 := by
  have e : w = 0 ∨ w = 1 ∨ w = 2 ∨ w = 3 := by omega
  unfold s4 rup
  rcases e with rfl | rfl | rfl | rfl
  · show c 0 + 1 + c 1 + c 2 + c 3 = c 0 + c 1 + c 2 + c 3 + 1
    simp only [Int32.add_assoc]
    rw [Int32.add_comm 1, ← Int32.add_assoc (c 1), Int32.add_assoc (c 1), Int32.add_assoc, Int32.add_assoc]
  · show c 0 + (c 1 + 1) + c 2 + c 3 = c 0 + c 1 + c 2 + c 3 + 1
    simp only [Int32.add_assoc]
    rw [Int32.add_comm 1, Int32.add_assoc]
  · show c 0 + c 1 + (c 2 + 1) + c 3 = c 0 + c 1 + c 2 + c 3 + 1
    simp only [Int32.add_assoc]
    rw [Int32.add_comm 1]
  · show c 0 + c 1 + c 2 + (c 3 + 1) = c 0 + c 1 + c 2 + c 3 + 1
    simp only [Int32.add_assoc]
theorem pas_sum : ∀ (k : Nat) (A B : List It) (m : Nat) (c : Nat → Int32), s4 (pas k A B m c).2.2 + nI m = s4 c + nI (pas k A B m c).2.1 := by
  intro k
  induction k with
  | zero => intro A B m c; rfl
  | succ k ih =>
    intro A B m c
    cases B with
    | nil => rw [pas_nil]
    | cons it B =>
      cases hs : stp A it B with
      | none => rw [pas_no hs]; exact ih _ _ _ _
      | some v =>
        obtain ⟨w, A', B'⟩ := v
        rw [pas_yes hs]
        have h1 := ih A' B' (m + 1) (rup c w (c w + 1))
        rw [s4_up (stp_w hs), ← nI_1] at h1
        have h2 : ∀ a b x y : Int32, a + (b + 1) = x + 1 + y → a + b = x + y := by
          intro a b x y hh
          have e1 : a + b + 1 = x + y + 1 := by
            rw [Int32.add_assoc, hh, Int32.add_assoc, Int32.add_comm 1, ← Int32.add_assoc]
          have e2 := congrArg (fun z => z - 1) e1
          simp only [Int32.add_sub_cancel] at e2
          exact e2
        exact h2 _ _ _ _ h1
theorem c_alls {c : Nat → Int32} {rr nnv : Value} (hy : h.1 y = some (6, [rr, nnv, .ref st])) (hst : h.1 st = some (100, iar 4 c)) : Rn E d 68 [.ref y] h (some (.int (s4 c))) h := by
  refine Rn.of (Nat.le_of_ble_eq_true rfl) ?_
  refine Rk.tr (F1 := (68, 1, _, _)) (x_aload_n rfl rfl rfl) ?_
  refine Rk.tr (F1 := (68, 4, _, _)) (x_getf rfl rfl hy rfl) ?_
  refine Rk.tr (F1 := (68, 5, _, _)) (x_iconst rfl) ?_
  refine Rk.tr (F1 := (68, 6, _, _)) (x_iald (n := 0) rfl hst rfl rfl (by omega) (iar_at (by omega))) ?_
  refine Rk.tr (F1 := (68, 7, _, _)) (x_aload_n rfl rfl rfl) ?_
  refine Rk.tr (F1 := (68, 10, _, _)) (x_getf rfl rfl hy rfl) ?_
  refine Rk.tr (F1 := (68, 11, _, _)) (x_iconst rfl) ?_
  refine Rk.tr (F1 := (68, 12, _, _)) (x_iald (n := 1) rfl hst rfl rfl (by omega) (iar_at (by omega))) ?_
  refine Rk.tr (F1 := (68, 13, _, _)) (x_iadd rfl) ?_
  refine Rk.tr (F1 := (68, 14, _, _)) (x_aload_n rfl rfl rfl) ?_
  refine Rk.tr (F1 := (68, 17, _, _)) (x_getf rfl rfl hy rfl) ?_
  refine Rk.tr (F1 := (68, 18, _, _)) (x_iconst rfl) ?_
  refine Rk.tr (F1 := (68, 19, _, _)) (x_iald (n := 2) rfl hst rfl rfl (by omega) (iar_at (by omega))) ?_
  refine Rk.tr (F1 := (68, 20, _, _)) (x_iadd rfl) ?_
  refine Rk.tr (F1 := (68, 21, _, _)) (x_aload_n rfl rfl rfl) ?_
  refine Rk.tr (F1 := (68, 24, _, _)) (x_getf rfl rfl hy rfl) ?_
  refine Rk.tr (F1 := (68, 25, _, _)) (x_iconst rfl) ?_
  refine Rk.tr (F1 := (68, 26, _, _)) (x_iald (n := 3) rfl hst rfl rfl (by omega) (iar_at (by omega))) ?_
  refine Rk.tr (F1 := (68, 27, _, _)) (x_iadd rfl) ?_
  exact Rk.end rfl (Or.inr (Or.inl ⟨rfl, _, .int, rfl, rfl, rfl, rfl⟩))
/-- a pass over the program -/
theorem c_makeOne {P : List AI} (hG : GH E h O G) (hS : PsH pz pa pl y root st nn h O pf lf c) (hW : WA G [(root, [])] P []) (nd : (P.map Prod.snd).Nodup) (hI : Inv (AP P)) :
    ∃ (h' : PH) (O' : Nat → Nat × Nat) (G' : PG) (P' : List AI) (pf' : Nat → Value) (lf' : Nat → Int32), Rn E (d + 117) 101 [.ref pz, .ref y] h (some (.int (nI (paP (AP P) c).2.1))) h' ∧ GH E h' O' G' ∧ PsH pz pa pl y root st nn h' O' pf' lf' (paP (AP P) c).2.2 ∧ WA G' [(root, [])] P' [] ∧ (P'.map Prod.snd).Nodup ∧ AP P' = (paP (AP P) c).1 ∧ Inv (AP P') ∧ ChP pa pl st O h O' h' ∧ h'.2.1 ≤ h.2.1 + (paP (AP P) c).2.1 * 53 ∧ h'.2.2 ≤ h.2.2 + (paP (AP P) c).2.1 * 5930 := by
  have hP : PSt E pz pa pl y root st nn h O G [] P ((root, []) :: []) pf lf c := ⟨hG, hS, rfl, hW, nd, hI.2.2⟩
  have hpf : pfu (AP []) (AP P) ≤ 20000 := by
    have := Inv_len hI
    unfold pfu
    show (0 + (AP P).length) * 200 + (AP P).length ≤ 20000
    have h3 := tsum_len (AP P)
    have h4 := hI.2.2
    omega
  obtain ⟨h', O', G', A', B', s', pf', lf', c', m', k', g1, g2, g3, g4, g5, g6, g7, g8, g9, g10, g11, g12⟩ := c_goK (E := E) 20000 (Nat.le_refl _) (pfu (AP []) (AP P)) h O G [] P root [] pf lf c 0 d 0 hpf hP hI rfl (Nat.le_refl _)
  have es : s' = [] := by
    match s', g5 with
    | [], _ => rfl
    | _ :: _, z => exact z.elim
  subst es
  obtain ⟨eB, -⟩ := WA_nil g2.2.2.2.1
  subst eB
  have ep : paP (AP P) c = (AP A', m', c') := by
    have : pas (pfu (AP []) (AP P)) (AP []) (AP P) 0 c = pas k' (AP A') [] m' c' := g7
    rw [pas_nil] at this
    exact this
  have hsum := pas_sum (pfu [] (AP P)) [] (AP P) 0 c
  have ep' : pas (pfu [] (AP P)) [] (AP P) 0 c = (AP A', m', c') := ep
  rw [ep'] at hsum
  simp only at hsum
  rw [ep]
  have gg := g2.2.2.1
  obtain ⟨x1, x2, x3, x4, x5, x6, x7⟩ := id hS
  obtain ⟨y1, y2, y3, y4, y5, y6, y7⟩ := id g2.2.1
  have nd' := g2.2.2.2.2.1
  rw [List.append_nil] at nd'
  have g3' : Inv (AP A') := by
    have : AP A' ++ AP [] = AP A' := List.append_nil _
    rw [this] at g3; exact g3
  refine ⟨h', O', G', A', pf', lf', Rn.of (Nat.le_of_ble_eq_true rfl) ?_, g2.1, g2.2.1, gg, nd', rfl, g3', g6, by simpa using g11, by simpa using g12⟩
  have hval : s4 c' - s4 c = nI m' := by
    have e0 : s4 c' + nI 0 = s4 c' := Int32.add_zero _
    rw [e0] at hsum
    rw [hsum, Int32.add_comm, Int32.add_sub_cancel]
  simp only
  rw [← hval]
  rw [show d + (40 - 0) + 76 = d + 116 by omega] at g1
  have ha1 := c_alls (E := E) (d := d + 116) x5 x6
  have ha2 := c_alls (E := E) (d := d + 116) y5 y6
  refine Rk.tr (F1 := (101, 1, _, _)) (x_aload_n rfl rfl rfl) ?_
  refine Rk.tr (F1 := (101, 4, _, _)) (x_callv (As := []) rfl rfl rfl (Or.inl rfl) rfl rfl x5 (by decide) rfl (Nat.le_of_ble_eq_true rfl) ha1 rfl) ?_
  refine Rk.tr (F1 := (101, 5, [_, _, _], _)) (x_istore_n (i := 2) rfl (Nat.le_of_ble_eq_true rfl)) ?_
  refine Rk.tr (F1 := (101, 6, _, _)) (x_aload_n rfl rfl rfl) ?_
  refine Rk.tr (F1 := (101, 7, _, _)) (x_aload_n rfl rfl rfl) ?_
  refine Rk.tr (F1 := (101, 8, _, _)) (x_aload_n rfl rfl rfl) ?_
  refine Rk.tr (F1 := (101, 11, _, _)) (x_getf rfl rfl x5 rfl) ?_
  refine Rk.tr (F1 := (101, 12, _, _)) (x_iconst rfl) ?_
  refine Rk.tr (F1 := (101, 15, _, _)) (x_callv (As := [_, _, _]) rfl rfl rfl (Or.inr rfl) rfl rfl x1 (by decide) rfl (Nat.le_of_ble_eq_true rfl) g1 rfl) ?_
  refine Rk.tr (F1 := (101, 16, _, _)) (x_aload_n rfl rfl rfl) ?_
  refine Rk.tr (F1 := (101, 19, _, _)) (x_callv (As := []) rfl rfl rfl (Or.inl rfl) rfl rfl y5 (by decide) rfl (Nat.le_of_ble_eq_true rfl) ha2 rfl) ?_
  refine Rk.tr (F1 := (101, 20, _, _)) (x_iload_n rfl rfl) ?_
  refine Rk.tr (F1 := (101, 21, _, _)) (x_isub rfl) ?_
  exact Rk.end rfl (Or.inr (Or.inl ⟨rfl, _, .int, rfl, rfl, rfl, rfl⟩))
end M44
