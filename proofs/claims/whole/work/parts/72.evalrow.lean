/-! ===== the class: the run of a row is the evaluation ===== -/
theorem EvC.err {G : PG} {T T0 : MT} {nc nf dp bg e : Nat} {σ' : RSt} {v : Int64} {ei : Int32} (h0 : e ≠ 0) (h5 : e ≤ 5) (hi : ei = nI e) (hb : bg ≤ σ'.2.2.1) (h10 : T0.1 10 = nI σ'.2.2.1) (h11 : T0.1 11 = nI σ'.2.2.2) : EvC G T nc nf dp bg (e, (false, 0), σ') v (tI T0 7 ei) := by
  refine ⟨hb, Or.inr ⟨h0, h5, ?_, ?_, ?_⟩⟩
  · show rup T0.1 7 ei 7 = _
    rw [rup_eq, hi]
  · show rup T0.1 7 ei 10 = _
    rw [rup_ne (by decide)]; exact h10
  · show rup T0.1 7 ei 11 = _
    rw [rup_ne (by decide)]; exact h11
section M49
variable {E : PE} {g : PH} {z : Nat} {O : Nat → Nat × Nat} {G : PG}
theorem lp_row (hG : ∀ T, GH E (mch g z T) O G) : ∀ (f : Nat) (B : List AI) (a : Nat) (p : List Nat) (s : ES) (L : Env) (dp : Nat) (σ : RSt) (T : MT) (nc : Nat) (c : Int32) (d : Nat) (y2 : Int32) (y6 y7 y8 : Option Value), 401 ≤ f + σ.2.2.1 → dp ≤ 12 → WA G ((a, p) :: s) B [] → RC G T nc dp σ → En (ccl T σ.2.1) nc c L →
    ∃ (v : Int64) (T' : MT), Rk E (d + 3 * (13 - dp) + 6) (111, 30, [some (.ref z), some (.ref a), some (.int y2), some (.int (nI dp)), some (.int c), some (.int (nI p.length)), y6, y7, y8], []) (mch g z T) (some (.long v)) (mch g z T') ∧ EvC G T nc σ.2.1 dp σ.2.2.1 (ev f (AP B) L dp σ) v T' := by
  intro f
  induction f with
  | zero =>
    intro B a p s L dp σ T nc c d y2 y6 y7 y8 hf _ _ hR _
    exact absurd hR.2.2.1 (by omega)
  | succ f ih =>
    intro B a p s L dp σ T nc c d y2 y6 y7 y8 hf hdp hW hR hE
    obtain ⟨a1, a2, a3, a4, a5, a6, a7, a8, a9, a10⟩ := id hR
    match B, hW with
    | [], hW => cases hW
    | (it, x) :: B, hW =>
      have hnc : nc ≤ 800 := by omega
      have hnf : σ.2.1 ≤ 400 := by omega
      rcases hW with ⟨h9, ex, hga, hW⟩ | ⟨h9, rs, hgx, hl, hW⟩
      · -- the row's result
        obtain ⟨l, e0, cap, x0, q1, q2, q3, -⟩ := (hG T).2.2.1 a _ _ hga
        obtain ⟨mc, l1⟩ := id q3.1
        have hln := q3.len
        have hv := c_voa (E := E) (d := d + 3 * (13 - dp) + 4) q2 hE hnc
        have ee : ev (f + 1) (AP ((it, x) :: B)) L dp σ = (0, lkE L it.2.2.2.1, σ) := ev_9 h9
        refine ⟨vL (lkE L it.2.2.2.1), T, ?_, ?_⟩
        · refine Rk.tr (F1 := (111, 32, _, _)) (x_iload rfl rfl) ?_
          refine Rk.tr (F1 := (111, 33, _, _)) (x_aload_n rfl rfl rfl) ?_
          refine Rk.tr (F1 := (111, 36, _, _)) (x_getf rfl rfl q1 rfl) ?_
          refine Rk.tr (F1 := (111, 39, _, _)) (x_callv (As := []) rfl rfl rfl (Or.inl rfl) rfl rfl l1 (by decide) rfl (Nat.le_of_ble_eq_true rfl) (c_lsize l1) rfl) ?_
          refine Rk.tr (F1 := (111, 97, _, _)) (x_icT rfl (tg := 97) rfl (Int32.le_refl _)) ?_
          refine Rk.tr (F1 := (111, 98, _, _)) (x_aload_n rfl rfl rfl) ?_
          refine Rk.tr (F1 := (111, 99, _, _)) (x_aload_n rfl rfl rfl) ?_
          refine Rk.tr (F1 := (111, 102, _, _)) (x_getf rfl rfl q1 rfl) ?_
          refine Rk.tr (F1 := (111, 104, _, _)) (x_iload rfl rfl) ?_
          refine Rk.tr (F1 := (111, 107, _, _)) (x_callv (As := [_, _]) rfl rfl rfl (Or.inr rfl) rfl rfl mch_z (by decide) rfl (Nat.le_of_ble_eq_true rfl) hv rfl) ?_
          exact Rk.end rfl (Or.inr (Or.inr (Or.inl ⟨rfl, rfl, _, rfl, rfl⟩)))
        · rw [ee]
          exact ⟨Nat.le_refl _, Or.inl ⟨rfl, rfl, clkE hE, Nat.le_refl _, nc, Nat.le_refl _, hR, KCc.rf⟩⟩
      · obtain ⟨R, C, eB, wR, wC⟩ := WA_split hW
        obtain ⟨⟨rest, r, hga⟩, -⟩ := WA_mem wC List.mem_cons_self
        rw [List.append_assoc] at hga
        have hga' : G.1 a = some (p ++ x :: rest, r) := hga
        have epl : p.length + 1 = (p ++ [x]).length := by rw [List.length_append, List.length_singleton]
        by_cases hb : σ.2.2.1 = 400
        · have ee : ev (f + 1) (AP ((it, x) :: B)) L dp σ = (5, (false, 0), σ) := ev_long h9 hb
          rw [hb] at a7
          refine ⟨0, tI T 7 5, c_lpE (D := d + 3 * (13 - dp) + 3) hG hga' hgx (c_vb5 a7) (e := 5) rfl (by omega) (by omega), ?_⟩
          rw [ee]
          exact EvC.err (by decide) (by decide) rfl (Nat.le_refl _) (by rw [hb]; exact a7) a8
        · have hb4 : σ.2.2.1 < 400 := by omega
          obtain ⟨at0, ar, xs, dt, b1, b2, b3, b4, b5, b6⟩ := atoms_at hG hgx
          have R0 := RC_bg (dp' := dp) hR hb4 (by omega)
          by_cases h2 : it.1 = 2
          · -- FUN
            have ek : ikd it = 2 := by unfold ikd; rw [h2]; rfl
            rw [ek] at b1
            have hir : irw it = 1 := by unfold irw; rw [h2]; rfl
            obtain ⟨rb, erb⟩ := one_of (hl.trans hir)
            subst erb
            have hcl : closes 1 (AP R) := WA_closes (u := [(rb, [])]) (s := []) (by simp) wR
            have eAP : AP B = AP R ++ AP C := by rw [eB, AP_app]
            have ee : ev (f + 1) (AP ((it, x) :: B)) L dp σ = ev f (AP C) ((it.2.1, (true, nI σ.2.1)) :: L) dp (fup σ.1 σ.2.1 (it.2.2.1, AP B, L), σ.2.1 + 1, σ.2.2.1 + 1, σ.2.2.2) := by
              have := ev_2 (f := f) (B := AP B) (L := L) (dp := dp) h2 hb
              rw [show (AP B).drop (rwl 1 (AP B)).length = AP C by rw [eAP, rwl_of _ _ _ hcl, drop_app]] at this
              exact this
            have vb := c_vb_2 (E := E) (d := d + 3 * (13 - dp) + 4) (c := c) (dv := nI dp) a7 hb4 b1 (c_newf (E := E) (T := tI T 10 (nI (σ.2.2.1 + 1))) R0.2.2.2.1 (by show σ.2.1 < 400; omega) b1)
            generalize hT0 : tI T 10 (nI (σ.2.2.1 + 1)) = T0 at vb R0
            have k0 : KCc nc T (tM T0 σ.2.1 x c) := by rw [← hT0]; exact KCc.rf
            have e5 : (tM T0 σ.2.1 x c).2.1 5 = rup (T0.2.1 5) σ.2.1 c := rfl
            have eF : (tM T0 σ.2.1 x c).2.2.2 = vup T0.2.2.2 σ.2.1 (.ref x) := rfl
            have eI : (tM T0 σ.2.1 x c).1 = rup T0.1 6 (nI (σ.2.1 + 1)) := rfl
            have hEn : En (ccl (tM T0 σ.2.1 x c) (σ.2.1 + 1)) nc c L := EnC.keep hE k0 (Nat.le_succ _) (Nat.le_refl _)
            obtain ⟨r1, r2, r3, r4, r5, r6, r7, r8, r9, r10⟩ := R0
            have RF : RC G (tM T0 σ.2.1 x c) nc dp (fup σ.1 σ.2.1 (it.2.2.1, AP B, L), σ.2.1 + 1, σ.2.2.1 + 1, σ.2.2.2) := by
              refine ⟨by rw [eI, rup_ne (by decide)]; exact r1, r2, r3, by rw [eI, rup_eq], by show σ.2.1 + 1 ≤ σ.2.2.1 + 1; omega, by rw [eI, rup_ne (by decide)]; exact r6, by rw [eI, rup_ne (by decide)]; exact r7, by rw [eI, rup_ne (by decide)]; exact r8, r9, fun k hk => ?_⟩
              by_cases ekn : k = σ.2.1
              · have : fup σ.1 σ.2.1 (it.2.2.1, AP B, L) k = (it.2.2.1, AP B, L) := if_pos ekn
                show FnC G _ _ nc k (fup σ.1 σ.2.1 (it.2.2.1, AP B, L) k)
                rw [this]
                refine ⟨x, rb, it, B, _, by rw [eF, ekn]; exact if_pos rfl, hgx, h2, rfl, rfl, hW, ?_⟩
                rw [e5, ekn, rup_eq]
                exact hEn
              · have : fup σ.1 σ.2.1 (it.2.2.1, AP B, L) k = σ.1 k := if_neg ekn
                show FnC G _ _ nc k (fup σ.1 σ.2.1 (it.2.2.1, AP B, L) k)
                rw [this]
                have hk' : k < σ.2.1 := by have : k < σ.2.1 + 1 := hk; omega
                exact (r10 k hk').keep (by rw [← hT0]; exact KCc.rf) (Nat.le_succ _) (Nat.le_refl _) (by rw [eF]; exact if_neg ekn) (by rw [e5, rup_ne ekn])
            obtain ⟨v, T', n1, n2⟩ := ih C a (p ++ [x]) s ((it.2.1, (true, nI σ.2.1)) :: L) dp (fup σ.1 σ.2.1 (it.2.2.1, AP B, L), σ.2.1 + 1, σ.2.2.1 + 1, σ.2.2.2) (tC (tM T0 σ.2.1 x c) nc it.2.1 (vL (true, nI σ.2.1)) c) (nc + 1) (nI nc) d y2 (some (.ref x)) (some (.long (vL (true, nI σ.2.1)))) none (by show 401 ≤ f + (σ.2.2.1 + 1); omega) hdp wC (tC_rc RF (by show nc + 1 + dp ≤ 2 * (σ.2.2.1 + 1); omega)) (tC_en hEn (fun _ => ⟨σ.2.1, Nat.lt_succ_self _, rfl⟩) (Nat.le_refl _))
            rw [← epl] at n1
            refine ⟨v, T', c_lpK (D := d + 3 * (13 - dp) + 3) hG hga' hgx vb (by rw [eI, rup_ne (by decide)]; exact r6) (by rw [eI, rup_ne (by decide)]; exact r1) (by omega) n1, ?_⟩
            rw [ee]
            exact n2.up (k0.tr tC_kc (Nat.le_refl _)) (Nat.le_succ _) (Nat.le_succ _) (Nat.le_succ _)
          · by_cases h5 : it.1 = 5
            · -- OP
              have ek : ikd it = 5 := by unfold ikd; rw [h5]; rfl
              rw [ek] at b1
              have hir : irw it = 0 := by unfold irw; rw [h5]; rfl
              have ers : rs = [] := List.length_eq_zero_iff.mp (hl.trans hir)
              have eR : R = [] := by rw [ers] at wR; exact (WA_nil wR).1
              rw [eR, List.nil_append] at eB
              subst eB
              have ee := ev_5 (f := f) (B := AP B) (L := L) (dp := dp) h5 hb
              have vo := c_vop (E := E) (d := d + 3 * (13 - dp) + 2) (T := tI T 10 (nI (σ.2.2.1 + 1))) hG hgx h5 hE hnc hnf
              have vb := c_vb_5 (E := E) (d := d + 3 * (13 - dp) + 4) (c := c) (dv := nI dp) a7 hb4 b1 vo
              generalize hT0 : tI T 10 (nI (σ.2.2.1 + 1)) = T0 at vb R0
              have k0 : KCc nc T T0 := by rw [← hT0]; exact KCc.rf
              have hE0 : En (ccl T0 σ.2.1) nc c L := EnC.keep hE k0 (Nat.le_refl _) (Nat.le_refl _)
              obtain ⟨r1, r2, r3, r4, r5, r6, r7, r8, r9, r10⟩ := id R0
              by_cases c1 : (lkE L it.2.2.2.1).1 = true ∨ (lkE L it.2.2.2.2).1 = true
              · rw [if_pos c1] at ee
                rw [if_pos c1, if_pos c1] at vb
                refine ⟨0, tI T0 7 2, c_lpE (D := d + 3 * (13 - dp) + 3) hG hga' hgx vb (e := 2) rfl (by omega) (by omega), ?_⟩
                show EvC G T nc σ.2.1 dp σ.2.2.1 (ev (f + 1) (it :: AP B) L dp σ) _ _
                rw [ee]
                exact EvC.err (by decide) (by decide) rfl (Nat.le_succ _) r7 r8
              · rw [if_neg c1] at ee
                rw [if_neg c1, if_neg c1] at vb
                by_cases c2 : it.2.2.1 = 3 ∧ (lkE L it.2.2.2.2).2 = 0
                · rw [if_pos c2] at ee
                  rw [if_pos c2, if_pos c2] at vb
                  refine ⟨0, tI T0 7 3, c_lpE (D := d + 3 * (13 - dp) + 3) hG hga' hgx vb (e := 3) rfl (by omega) (by omega), ?_⟩
                  show EvC G T nc σ.2.1 dp σ.2.2.1 (ev (f + 1) (it :: AP B) L dp σ) _ _
                  rw [ee]
                  exact EvC.err (by decide) (by decide) rfl (Nat.le_succ _) r7 r8
                · rw [if_neg c2] at ee
                  rw [if_neg c2, if_neg c2] at vb
                  obtain ⟨v, T', n1, n2⟩ := ih B a (p ++ [x]) s ((it.2.1, (false, opv it.2.2.1 (lkE L it.2.2.2.1).2 (lkE L it.2.2.2.2).2)) :: L) dp (σ.1, σ.2.1, σ.2.2.1 + 1, σ.2.2.2) (tC T0 nc it.2.1 (vL (false, opv it.2.2.1 (lkE L it.2.2.2.1).2 (lkE L it.2.2.2.2).2)) c) (nc + 1) (nI nc) d y2 (some (.ref x)) (some (.long (vL (false, opv it.2.2.1 (lkE L it.2.2.2.1).2 (lkE L it.2.2.2.2).2)))) none (by show 401 ≤ f + (σ.2.2.1 + 1); omega) hdp wC (tC_rc R0 (by show nc + 1 + dp ≤ 2 * (σ.2.2.1 + 1); omega)) (tC_en hE0 (fun q => by cases q) (Nat.le_refl _))
                  rw [← epl] at n1
                  refine ⟨v, T', c_lpK (D := d + 3 * (13 - dp) + 3) hG hga' hgx vb r6 r1 (by omega) n1, ?_⟩
                  show EvC G T nc σ.2.1 dp σ.2.2.1 (ev (f + 1) (it :: AP B) L dp σ) _ _
                  rw [ee]
                  exact n2.up (k0.tr tC_kc (Nat.le_refl _)) (Nat.le_succ _) (Nat.le_refl _) (Nat.le_succ _)
            · by_cases h3 : it.1 = 3
              · -- APPLY
                have ek : ikd it = 3 := by unfold ikd; rw [h3]; rfl
                rw [ek] at b1
                have hir : irw it = 0 := by unfold irw; rw [h3]; rfl
                have ers : rs = [] := List.length_eq_zero_iff.mp (hl.trans hir)
                have eR : R = [] := by rw [ers] at wR; exact (WA_nil wR).1
                rw [eR, List.nil_append] at eB
                subst eB
                have ee := ev_3 (f := f) (B := AP B) (L := L) (dp := dp) h3 hb
                by_cases c1 : (lkE L it.2.2.2.1).1 = false
                · rw [if_pos c1] at ee
                  have va := c_vapp1 (E := E) (d := d + 3 * (13 - dp) + 2) (T := tI T 10 (nI (σ.2.2.1 + 1))) (dv := nI dp) hG hgx h3 hE hnc hnf c1
                  have vb := c_vb_3 (E := E) (d := d + 3 * (13 - dp) + 4) (c := c) (dv := nI dp) a7 hb4 b1 va
                  obtain ⟨r1, r2, r3, r4, r5, r6, r7, r8, r9, r10⟩ := id R0
                  refine ⟨0, _, c_lpE (D := d + 3 * (13 - dp) + 3) hG hga' hgx vb (e := 1) rfl (by omega) (by omega), ?_⟩
                  show EvC G T nc σ.2.1 dp σ.2.2.1 (ev (f + 1) (it :: AP B) L dp σ) _ _
                  rw [ee]
                  exact EvC.err (by decide) (by decide) rfl (Nat.le_succ _) r7 r8
                · rw [if_neg c1] at ee
                  have c1' : (lkE L it.2.2.2.1).1 = true := by cases hh : (lkE L it.2.2.2.1).1 <;> simp_all
                  obtain ⟨k, hk, hk2⟩ := (clkE (a := it.2.2.2.1) hE) c1'
                  have c1e : lkE L it.2.2.2.1 = (true, nI k) := Prod.ext c1' hk2
                  obtain ⟨xF, rb, F, Bf, sf, f1, f2, f3, f4, f5, f6, f7⟩ := a10 k hk
                  generalize hT0 : tI T 10 (nI (σ.2.2.1 + 1)) = T0 at R0
                  have k0 : KCc nc T T0 := by rw [← hT0]; exact KCc.rf
                  have hE0 : En (ccl T0 σ.2.1) nc c L := EnC.keep hE k0 (Nat.le_refl _) (Nat.le_refl _)
                  have hF0 : T0.2.2.2 k = .ref xF := by rw [← hT0]; exact f1
                  have h50 : T0.2.1 5 k = T.2.1 5 k := by rw [← hT0]; rfl
                  obtain ⟨r1, r2, r3, r4, r5, r6, r7, r8, r9, r10⟩ := id R0
                  have vap := fun (D : Nat) (v : Int64) (T' : MT) hr => c_vapp (E := E) (D := D) (dp := dp) (T := T0) (T' := T') (v := v) hG hgx h3 hE0 hnc hnf c1e hk r4 hF0 f2 f3 h50 r1 (by omega) hr
                  by_cases c2 : dp = 12
                  · rw [if_pos c2] at ee
                    have va := vap (d + 3 * (13 - dp) + 2) 0 _ (by rw [c2]; exact c_vrow13)
                    have vb := c_vb_3 (E := E) (d := d + 3 * (13 - dp) + 4) (c := c) (dv := nI dp) a7 hb4 b1 (hT0.symm ▸ va)
                    refine ⟨0, _, c_lpE (D := d + 3 * (13 - dp) + 3) hG hga' hgx vb (e := 4) rfl (by omega) (by omega), ?_⟩
                    show EvC G T nc σ.2.1 dp σ.2.2.1 (ev (f + 1) (it :: AP B) L dp σ) _ _
                    rw [ee]
                    refine EvC.err (by decide) (by decide) rfl (Nat.le_succ _) ?_ ?_
                    · rw [tC_1, rup_ne (by decide), hT0]; exact r7
                    · rw [tC_1, rup_ne (by decide), hT0]; exact r8
                  · rw [if_neg c2] at ee
                    have hkc : (lkE L it.2.2.2.1).2.toNatClampNeg = k := by rw [hk2]; exact nI_clamp (by omega)
                    simp only [hkc] at ee
                    have Rc := tC_rc (x := F.2.2.1) (c := T.2.1 5 k) (v := vL (lkE L it.2.2.2.2)) (dp' := dp + 1) R0 (by show nc + 1 + (dp + 1) ≤ 2 * (σ.2.2.1 + 1); omega)
                    have Rm := RC_mx (m := dp + 1) Rc (by omega)
                    have En2 : En (ccl (tC T0 nc F.2.2.1 (vL (lkE L it.2.2.2.2)) (T.2.1 5 k)) σ.2.1) (nc + 1) (nI nc) (((σ.1 k).1, lkE L it.2.2.2.2) :: (σ.1 k).2.2) := by
                      rw [← f4]
                      exact tC_en (EnC.keep f7 k0 (Nat.le_refl _) (Nat.le_refl _)) (clkE hE) (Nat.le_refl _)
                    obtain ⟨v1, T4, n1, n2⟩ := ih Bf rb [] sf (((σ.1 k).1, lkE L it.2.2.2.2) :: (σ.1 k).2.2) (dp + 1) (σ.1, σ.2.1, σ.2.2.1 + 1, max σ.2.2.2 (dp + 1)) (tI (tC T0 nc F.2.2.1 (vL (lkE L it.2.2.2.2)) (T.2.1 5 k)) 11 (nI (max σ.2.2.2 (dp + 1)))) (nc + 1) (nI nc) d (nI nc) none none none (by show 401 ≤ f + (σ.2.2.1 + 1); omega) (by omega) f6 Rm En2
                    rw [f5] at n2
                    have hrow := c_vrow (E := E) (d := d + 3 * (13 - dp) + 2) (T := tC T0 nc F.2.2.1 (vL (lkE L it.2.2.2.2)) (T.2.1 5 k)) (r := rb) (dp := dp + 1) (dm := σ.2.2.2) (c := nI nc) (by omega) r9 (by rw [tC_1, rup_ne (by decide)]; exact r8) (by rw [show d + 3 * (13 - dp) + 2 + 1 = d + 3 * (13 - (dp + 1)) + 6 by omega]; exact n1)
                    have va := vap (d + 3 * (13 - dp) + 2) v1 T4 hrow
                    have vb := c_vb_3 (E := E) (d := d + 3 * (13 - dp) + 4) (c := c) (dv := nI dp) a7 hb4 b1 (hT0.symm ▸ va)
                    generalize hrr : ev f (σ.1 k).2.1 (((σ.1 k).1, lkE L it.2.2.2.2) :: (σ.1 k).2.2) (dp + 1) (σ.1, σ.2.1, σ.2.2.1 + 1, max σ.2.2.2 (dp + 1)) = rr at ee n2
                    have kk : KCc nc T (tI (tC T0 nc F.2.2.1 (vL (lkE L it.2.2.2.2)) (T.2.1 5 k)) 11 (nI (max σ.2.2.2 (dp + 1)))) := k0.tr (tC_kc (x := F.2.2.1) (c := T.2.1 5 k) (v := vL (lkE L it.2.2.2.2))) (Nat.le_refl _)
                    obtain ⟨m0, m⟩ := n2
                    have m0' : σ.2.2.1 + 1 ≤ rr.2.2.2.2.1 := m0
                    rcases m with ⟨m1, m2, m3, m4, nc4, m5, m6, m7⟩ | ⟨m1, m2, m3, m4, m5⟩
                    · rw [if_pos m1] at ee
                      have m7' := kk.tr m7 (Nat.le_succ _)
                      have m4' : σ.2.1 ≤ rr.2.2.2.1 := m4
                      have hE4 : En (ccl T4 rr.2.2.2.1) nc4 c L := EnC.keep hE m7' m4' (by omega)
                      obtain ⟨t1, t2, t3, t4, t5, t6, t7, t8, t9, t10⟩ := id m6
                      rw [m2] at vb
                      obtain ⟨v, T', n3, n4⟩ := ih B a (p ++ [x]) s ((it.2.1, rr.2.1) :: L) dp rr.2.2 (tC T4 nc4 it.2.1 (vL rr.2.1) c) (nc4 + 1) (nI nc4) d y2 (some (.ref x)) (some (.long (vL rr.2.1))) none (by omega) hdp wC (tC_rc m6 (by omega)) (tC_en hE4 m3 (Nat.le_refl _))
                      rw [← epl] at n3
                      refine ⟨v, T', c_lpK (D := d + 3 * (13 - dp) + 3) hG hga' hgx vb t6 t1 (by omega) n3, ?_⟩
                      show EvC G T nc σ.2.1 dp σ.2.2.1 (ev (f + 1) (it :: AP B) L dp σ) _ _
                      rw [ee]
                      exact n4.up (m7'.tr tC_kc (by omega)) (by omega) m4' (by omega)
                    · rw [if_neg m1] at ee
                      refine ⟨0, T4, c_lpE (D := d + 3 * (13 - dp) + 3) hG hga' hgx vb (e := rr.1) m3 m1 m2, ?_⟩
                      show EvC G T nc σ.2.1 dp σ.2.2.1 (ev (f + 1) (it :: AP B) L dp σ) _ _
                      rw [ee]
                      exact ⟨by omega, Or.inr ⟨m1, m2, m3, m4, m5⟩⟩
              · -- IF
                obtain ⟨hi, hir, ek⟩ := if_kd h2 h3 h5 h9
                rw [ek] at b1
                obtain ⟨ra, rb, er⟩ := two_of (hl.trans hir)
                subst er
                obtain ⟨R1, R2', eR, v1, v2'⟩ := WA_rows wR
                obtain ⟨R2, R3, eR2, v2, v3⟩ := WA_rows v2'
                have eR3 : R3 = [] := (WA_nil v3).1
                rw [eR3, List.append_nil] at eR2
                subst eR2
                subst eR
                have k1c : closes 1 (AP R1) := WA_closes (u := [(ra, [])]) (s := []) (by simp) v1
                have k2c : closes 1 (AP R2') := WA_closes (u := [(rb, [])]) (s := []) (by simp) v2
                have eAP : AP B = AP R1 ++ (AP R2' ++ AP C) := by rw [eB, AP_app, AP_app, List.append_assoc]
                have wa1 : WA G ((ra, []) :: ((rb, []) :: (a, p ++ [x]) :: s)) B [] := hW
                have wb1 : WA G ((rb, []) :: (a, p ++ [x]) :: s) (R2' ++ C) [] := WA_app.mpr ⟨_, by have := WA_tail ((a, p ++ [x]) :: s) v2; simpa using this, wC⟩
                have ee := ev_6 (f := f) (B := AP B) (L := L) (dp := dp) h2 h3 h5 h9 hb
                have eD1 : (AP B).drop (rwl 1 (AP B)).length = AP R2' ++ AP C := by rw [eAP, rwl_of _ _ _ k1c, drop_app]
                have eD2 : (AP R2' ++ AP C).drop (rwl 1 (AP R2' ++ AP C)).length = AP C := by rw [rwl_of _ _ _ k2c, drop_app]
                simp only [eD1, eD2] at ee
                by_cases c1 : (lkE L it.2.2.2.1).1 = true
                · rw [if_pos c1] at ee
                  have va := c_vif2 (E := E) (d := d + 3 * (13 - dp) + 2) (T := tI T 10 (nI (σ.2.2.1 + 1))) (dv := nI dp) hG hgx hi hE hnc hnf c1
                  have vb := c_vb_6 (E := E) (d := d + 3 * (13 - dp) + 4) (c := c) (dv := nI dp) a7 hb4 b1 va
                  obtain ⟨r1, r2, r3, r4, r5, r6, r7, r8, r9, r10⟩ := id R0
                  refine ⟨0, _, c_lpE (D := d + 3 * (13 - dp) + 3) hG hga' hgx vb (e := 2) rfl (by omega) (by omega), ?_⟩
                  show EvC G T nc σ.2.1 dp σ.2.2.1 (ev (f + 1) (it :: AP B) L dp σ) _ _
                  rw [ee]
                  exact EvC.err (by decide) (by decide) rfl (Nat.le_succ _) r7 r8
                · rw [if_neg c1] at ee
                  have c1' : (lkE L it.2.2.2.1).1 = false := by cases hh : (lkE L it.2.2.2.1).1 <;> simp_all
                  have R0' := RC_bg (dp' := dp + 1) hR hb4 (by omega)
                  generalize hT0 : tI T 10 (nI (σ.2.2.1 + 1)) = T0 at R0 R0'
                  have k0 : KCc nc T T0 := by rw [← hT0]; exact KCc.rf
                  have hE0 : En (ccl T0 σ.2.1) nc c L := EnC.keep hE k0 (Nat.le_refl _) (Nat.le_refl _)
                  obtain ⟨r1, r2, r3, r4, r5, r6, r7, r8, r9, r10⟩ := id R0
                  have vif := fun (D : Nat) (v : Int64) (T' : MT) hr => c_vif (E := E) (D := D) (dp := dp) (T := T0) (T' := T') (v := v) hG hgx hi hE0 hnc hnf c1' hr
                  by_cases c2 : dp = 12
                  · rw [if_pos c2] at ee
                    have va := vif (d + 3 * (13 - dp) + 2) 0 _ (by rw [c2]; exact c_vrow13)
                    have vb := c_vb_6 (E := E) (d := d + 3 * (13 - dp) + 4) (c := c) (dv := nI dp) a7 hb4 b1 (hT0.symm ▸ va)
                    refine ⟨0, _, c_lpE (D := d + 3 * (13 - dp) + 3) hG hga' hgx vb (e := 4) rfl (by omega) (by omega), ?_⟩
                    show EvC G T nc σ.2.1 dp σ.2.2.1 (ev (f + 1) (it :: AP B) L dp σ) _ _
                    rw [ee]
                    exact EvC.err (by decide) (by decide) rfl (Nat.le_succ _) (by rw [hT0]; exact r7) (by rw [hT0]; exact r8)
                  · rw [if_neg c2] at ee
                    have Rm := RC_mx (m := dp + 1) R0' (by omega)
                    obtain ⟨rc, Bc, sc, hrc, hBc, wc⟩ : ∃ (rc : Nat) (Bc : List AI) (sc : ES), rc = (if (lkE L it.2.2.2.1).2 = 0 then rb else ra) ∧ AP Bc = (if (lkE L it.2.2.2.1).2 = 0 then AP R2' ++ AP C else AP B) ∧ WA G ((rc, []) :: sc) Bc [] := by
                      by_cases c3 : (lkE L it.2.2.2.1).2 = 0
                      · exact ⟨rb, R2' ++ C, _, by rw [if_pos c3], by rw [if_pos c3, AP_app], wb1⟩
                      · exact ⟨ra, B, _, by rw [if_neg c3], by rw [if_neg c3], wa1⟩
                    obtain ⟨w1, T4, n1, n2⟩ := ih Bc rc [] sc L (dp + 1) (σ.1, σ.2.1, σ.2.2.1 + 1, max σ.2.2.2 (dp + 1)) (tI T0 11 (nI (max σ.2.2.2 (dp + 1)))) nc c d c none none none (by show 401 ≤ f + (σ.2.2.1 + 1); omega) (by omega) wc Rm hE0
                    rw [hBc] at n2
                    have hrow := c_vrow (E := E) (d := d + 3 * (13 - dp) + 2) (r := rc) (dp := dp + 1) (dm := σ.2.2.2) (c := c) (by omega) r9 r8 (by rw [show d + 3 * (13 - dp) + 2 + 1 = d + 3 * (13 - (dp + 1)) + 6 by omega]; exact n1)
                    rw [hrc] at hrow
                    have va := vif (d + 3 * (13 - dp) + 2) w1 T4 hrow
                    have vb := c_vb_6 (E := E) (d := d + 3 * (13 - dp) + 4) (c := c) (dv := nI dp) a7 hb4 b1 (hT0.symm ▸ va)
                    generalize hrr : ev f (if (lkE L it.2.2.2.1).2 = 0 then AP R2' ++ AP C else AP B) L (dp + 1) (σ.1, σ.2.1, σ.2.2.1 + 1, max σ.2.2.2 (dp + 1)) = rr at ee n2
                    have kk : KCc nc T (tI T0 11 (nI (max σ.2.2.2 (dp + 1)))) := k0
                    obtain ⟨m0, m⟩ := n2
                    have m0' : σ.2.2.1 + 1 ≤ rr.2.2.2.2.1 := m0
                    rcases m with ⟨m1, m2, m3, m4, nc4, m5, m6, m7⟩ | ⟨m1, m2, m3, m4, m5⟩
                    · rw [if_pos m1] at ee
                      have m7' := kk.tr m7 (Nat.le_refl _)
                      have m4' : σ.2.1 ≤ rr.2.2.2.1 := m4
                      have hE4 : En (ccl T4 rr.2.2.2.1) nc4 c L := EnC.keep hE m7' m4' (by omega)
                      obtain ⟨t1, t2, t3, t4, t5, t6, t7, t8, t9, t10⟩ := id m6
                      rw [m2] at vb
                      obtain ⟨v, T', n3, n4⟩ := ih C a (p ++ [x]) s ((it.2.1, rr.2.1) :: L) dp rr.2.2 (tC T4 nc4 it.2.1 (vL rr.2.1) c) (nc4 + 1) (nI nc4) d y2 (some (.ref x)) (some (.long (vL rr.2.1))) none (by omega) hdp wC (tC_rc m6 (by omega)) (tC_en hE4 m3 (Nat.le_refl _))
                      rw [← epl] at n3
                      refine ⟨v, T', c_lpK (D := d + 3 * (13 - dp) + 3) hG hga' hgx vb t6 t1 (by omega) n3, ?_⟩
                      show EvC G T nc σ.2.1 dp σ.2.2.1 (ev (f + 1) (it :: AP B) L dp σ) _ _
                      rw [ee]
                      exact n4.up (m7'.tr tC_kc (by omega)) (by omega) m4' (by omega)
                    · rw [if_neg m1] at ee
                      refine ⟨0, T4, c_lpE (D := d + 3 * (13 - dp) + 3) hG hga' hgx vb (e := rr.1) m3 m1 m2, ?_⟩
                      show EvC G T nc σ.2.1 dp σ.2.2.1 (ev (f + 1) (it :: AP B) L dp σ) _ _
                      rw [ee]
                      exact ⟨by omega, Or.inr ⟨m1, m2, m3, m4, m5⟩⟩
end M49
