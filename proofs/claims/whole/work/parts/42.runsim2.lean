/-! ===== the reference's run does what ev says: the induction ===== -/
section TOK
variable {R : Nat → Int32} {p : Nat} {it : It}
theorem tok_9 (h : it.1 = 9) (t : Tok1 R p it) : R p = 9 ∧ R (p + 1) = it.2.2.2.1.1 ∧ R (p + 2) = it.2.2.2.1.2 ∧ isz it = 3 := by
  obtain ⟨k, nm, dt, ⟨a1, a2⟩, b1, b2⟩ := it
  have h : k = 9 := h
  subst h
  exact ⟨t.1, t.2.1, t.2.2, rfl⟩
theorem tok_2 (h : it.1 = 2) (t : Tok1 R p it) : R p = 8 ∧ R (p + 1) = it.2.1 ∧ R (p + 2) = 2 ∧ R (p + 3) = it.2.2.1 ∧ isz it = 4 := by
  obtain ⟨k, nm, dt, ⟨a1, a2⟩, b1, b2⟩ := it
  have h : k = 2 := h
  subst h
  exact ⟨t.1, t.2.1, t.2.2.1, t.2.2.2, rfl⟩
theorem tok_3 (h : it.1 = 3) (t : Tok1 R p it) : R p = 8 ∧ R (p + 1) = it.2.1 ∧ R (p + 2) = 3 ∧ R (p + 3) = it.2.2.2.1.1 ∧ R (p + 4) = it.2.2.2.1.2 ∧ R (p + 5) = it.2.2.2.2.1 ∧ R (p + 6) = it.2.2.2.2.2 ∧ isz it = 7 := by
  obtain ⟨k, nm, dt, ⟨a1, a2⟩, b1, b2⟩ := it
  have h : k = 3 := h
  subst h
  exact ⟨t.1, t.2.1, t.2.2.1, t.2.2.2.1, t.2.2.2.2.1, t.2.2.2.2.2.1, t.2.2.2.2.2.2, rfl⟩
theorem tok_5 (h : it.1 = 5) (t : Tok1 R p it) : R p = 8 ∧ R (p + 1) = it.2.1 ∧ R (p + 2) = 5 ∧ R (p + 3) = it.2.2.1 ∧ R (p + 4) = it.2.2.2.1.1 ∧ R (p + 5) = it.2.2.2.1.2 ∧ R (p + 6) = it.2.2.2.2.1 ∧ R (p + 7) = it.2.2.2.2.2 ∧ isz it = 8 := by
  obtain ⟨k, nm, dt, ⟨a1, a2⟩, b1, b2⟩ := it
  have h : k = 5 := h
  subst h
  exact ⟨t.1, t.2.1, t.2.2.1, t.2.2.2.1, t.2.2.2.2.1, t.2.2.2.2.2.1, t.2.2.2.2.2.2.1, t.2.2.2.2.2.2.2, rfl⟩
theorem tok_6 (n2 : it.1 ≠ 2) (n3 : it.1 ≠ 3) (n5 : it.1 ≠ 5) (n9 : it.1 ≠ 9) (t : Tok1 R p it) : (R p = 8 ∧ R (p + 1) = it.2.1 ∧ R (p + 2) = 6 ∧ R (p + 3) = it.2.2.2.1.1 ∧ R (p + 4) = it.2.2.2.1.2) ∧ isz it = 5 ∧ iat it = 1 := by
  refine ⟨?_, ?_, ?_⟩
  · unfold Tok1 at t
    split at t <;> first | (rename_i z; exact absurd z (by assumption)) | exact t
  · unfold isz
    split <;> first | (rename_i z; exact absurd z (by assumption)) | rfl
  · unfold iat
    split <;> first | (rename_i z; exact absurd z (by assumption)) | rfl
end TOK
abbrev EvR : Type := Nat × Val × RSt
def PostR (P : List It) (S : MSt) (nc dp : Nat) (σ : RSt) (r : EvR) (S' : MSt) (nc' : Nat) : Prop :=
  ouR S' = ouR S ∧ S'.1 35 = nI dp ∧ S'.1 40 = bI r.2.1.1 ∧ S'.1 41 = r.2.1.2 ∧ VOk r.2.2.2.1 r.2.1 ∧ RR P S' nc' (dp - 1) r.2.2 ∧ KC nc S S' ∧ nc ≤ nc' ∧ σ.2.1 ≤ r.2.2.2.1 ∧ σ.2.2.1 ≤ r.2.2.2.2.1 ∧ (∀ j, j + 1 < dp → S'.2 36 j = S.2 36 j ∧ S'.2 37 j = S.2 37 j) ∧ (∀ j, j < dp → S'.2 38 j = S.2 38 j ∧ S'.2 39 j = S.2 39 j) ∧
    (0 < dp → S'.2 36 (dp - 1) = S.2 38 dp ∧ ∀ Lc, En (rcl S σ.2.1) nc (S.2 37 (dp - 1)) Lc → En (rcl S' r.2.2.2.1) nc' (S'.2 37 (dp - 1)) ((S.2 39 dp, r.2.1) :: Lc))
def ErrR (S : MSt) (r : EvR) (S' : MSt) : Prop := ouR S' = ouR S ∧ S'.2 42 0 = 0 ∧ S'.2 42 1 = 0 ∧ S'.2 42 2 = nI r.2.2.2.2.1 ∧ S'.2 42 3 = nI r.2.2.2.2.2
/-- a step within the same row goes before -/
theorem PostR.pre {P : List It} {S S1 S' : MSt} {nc nc1 nc' dp : Nat} {σ σ1 : RSt} {r : EvR} (h : PostR P S1 nc1 dp σ1 r S' nc') (ho : ouR S1 = ouR S) (hk : KC nc S S1) (hn : nc ≤ nc1) (hf : σ.2.1 ≤ σ1.2.1) (hb : σ.2.2.1 ≤ σ1.2.2.1) (l1 : ∀ j, j < dp → S1.2 36 j = S.2 36 j ∧ S1.2 37 j = S.2 37 j) (l2 : ∀ j, j ≤ dp → S1.2 38 j = S.2 38 j ∧ S1.2 39 j = S.2 39 j) : PostR P S nc dp σ r S' nc' := by
  obtain ⟨a1, a2, a3, a4, a5, a6, a7, a8, a9, a10, a11, a12, a13⟩ := h
  refine ⟨a1.trans ho, a2, a3, a4, a5, a6, hk.tr a7 hn, by omega, by omega, by omega, fun j hj => ?_, fun j hj => ?_, fun hd => ?_⟩
  · exact ⟨(a11 j hj).1.trans (l1 j (by omega)).1, (a11 j hj).2.trans (l1 j (by omega)).2⟩
  · exact ⟨(a12 j hj).1.trans (l2 j (by omega)).1, (a12 j hj).2.trans (l2 j (by omega)).2⟩
  · obtain ⟨b1, b2⟩ := a13 hd
    rw [← (l2 dp (Nat.le_refl _)).1, ← (l2 dp (Nat.le_refl _)).2]
    refine ⟨b1, fun Lc hL => b2 Lc ?_⟩
    rw [(l1 (dp - 1) (by omega)).2]
    exact hL.keep hk hf hn
def RunS (E : PE) (g : PH) (o d : Nat) (P : List It) (f : Nat) : Prop := ∀ (A B : List It) (L : Env) (dp : Nat) (σ : RSt) (nc : Nat) (S : MSt), TokAt (S.2 5) 0 P → FrR P S nc σ.2.1 A B L dp → RR P S nc dp σ → 401 ≤ f + σ.2.2.1 →
    ((ev f B L dp σ).1 = 0 → ∃ S' nc', Ex E (d + 4) (C66 o) (mh g o S) (C66 o) (mh g o S') ∧ PostR P S nc dp σ (ev f B L dp σ) S' nc') ∧ ((ev f B L dp σ).1 ≠ 0 → ∃ S', Rk E (d + 4) (C66 o) (mh g o S) (some (.int (nI (ev f B L dp σ).1))) (mh g o S') ∧ ErrR S (ev f B L dp σ) S')
section RUN
variable {E : PE} {g : PH} {o d f : Nat} {A B : List It} {it : It} {L : Env} {dp nc : Nat} {σ : RSt} {S : MSt}
/-- what is known at an item -/
theorem at_it (hI : Inv (A ++ it :: B)) (hT : TokAt (S.2 5) 0 (A ++ it :: B)) : Tok1 (S.2 5) (tsum A) it ∧ TokAt (S.2 5) (tsum A + isz it) B ∧ tsum A + isz it + tsum B ≤ 210 := by
  rw [TokAt_app] at hT
  have h := hI.2.2
  rw [tsum_app] at h
  simp only [tsum] at h
  have t2 := hT.2
  rw [Nat.zero_add] at t2
  exact ⟨t2.1, t2.2, by omega⟩
theorem run_9 (hI : Inv (A ++ it :: B)) (h9 : it.1 = 9) (hT : TokAt (S.2 5) 0 (A ++ it :: B)) (hFr : FrR (A ++ it :: B) S nc σ.2.1 A (it :: B) L dp) (hRR : RR (A ++ it :: B) S nc dp σ) :
    ∃ S' nc', Ex E (d + 4) (C66 o) (mh g o S) (C66 o) (mh g o S') ∧ PostR (A ++ it :: B) S nc dp σ (0, lkE L it.2.2.2.1, σ) S' nc' := by
  obtain ⟨-, hd12, h35, h36, hE, hCv⟩ := hFr
  obtain ⟨r26, rnc, rbg, r31, rnf, r0, r1, r2, r3, r12, rfn⟩ := hRR
  obtain ⟨t1, -, hlen⟩ := at_it hI hT
  obtain ⟨k0, k1, k2, ks⟩ := tok_9 h9 t1
  have hu := Cov_use hI.1 hCv (j := 0) (by unfold iat; rw [h9]; decide)
  have hv := lkE_ok (a := it.2.2.2.1) hE
  rcases Nat.eq_zero_or_pos dp with hz | hz
  · have c := c_ret0 (E := E) (d := d + 2) (o := o) (g := g) (a := it.2.2.2.1) (p := tsum A) (nc := nc) (by omega) hd12 rfl (by omega) hE k1 k2 hu h35 hz
    refine ⟨_, nc, wl_r h35 hd12 h36 (by omega) k0 c, ?_, rfl, rfl, rfl, hv, ?_, fun _ _ => ⟨rfl, rfl, rfl, rfl⟩, Nat.le_refl _, Nat.le_refl _, Nat.le_refl _, fun j hj => by omega, fun j hj => by omega, fun z => by omega⟩
    · exact (ouR_I rfl).trans ((ouR_I rfl).trans (ouR_I rfl))
    · refine ⟨r26, by show nc + (dp - 1) ≤ 2 * σ.2.2.1; omega, rbg, r31, rnf, r0, r1, r2, r3, r12, fun k hk => (rfn k hk).keep (fun _ _ => ⟨rfl, rfl, rfl, rfl⟩) (Nat.le_refl _) (Nat.le_refl _) rfl rfl rfl⟩
  · have c := c_ret (E := E) (d := d + 2) (o := o) (g := g) (a := it.2.2.2.1) (p := tsum A) (nc := nc) (by omega) hd12 rfl (by omega) hE k1 k2 hu h35 hz r26 rfl rfl rfl
    obtain ⟨S1, e1, a1, a2, a3, a4, a5, a6, a7, a8, a9, a10, a11, a12, a13, a14, a15⟩ := T_ret (dp := dp) (v := lkE L it.2.2.2.1) (w := S.2 39 dp) (cb := S.2 37 (dp - 1)) (bk := S.2 38 dp) r26
    rw [e1] at c
    refine ⟨S1, nc + 1, wl_r h35 hd12 h36 (by omega) k0 c, a1, a4, a5, a6, hv, ?_, a7.kc, by omega, Nat.le_refl _, Nat.le_refl _, fun j hj => ?_, fun j hj => ?_, fun _ => ⟨?_, fun Lc hL => ?_⟩⟩
    · refine ⟨a2, by show nc + 1 + (dp - 1) ≤ 2 * σ.2.2.1; omega, rbg, a3.trans r31, rnf, by rw [a15]; exact r0, by rw [a15]; exact r1, by rw [a15]; exact r2, by rw [a15]; exact r3, r12, fun k hk => (rfn k hk).keep a7.kc (Nat.le_refl _) (by omega) (by rw [a8]) (by rw [a9]) (by rw [a10])⟩
    · rw [a11, a12, rup_ne (by omega), rup_ne (by omega)]; exact ⟨rfl, rfl⟩
    · rw [a13, a14]; exact ⟨rfl, rfl⟩
    · rw [a11, rup_eq]
    · rw [a12, rup_eq]
      exact hL.new a7 hv (Nat.le_refl _)
/-- how a run ends by itself -/
theorem err_of {S1 : MSt} {e : Nat} {w : Val} (hb : S.2 42 2 = nI σ.2.2.1) (h0 : S.2 42 0 = 0) (h1 : S.2 42 1 = 0) (h3 : S.2 42 3 = nI σ.2.2.2) (ho : ouR S1 = ouR (mWrk S σ.2.2.1)) (h42 : S1.2 42 = (mWrk S σ.2.2.1).2 42) : ErrR S (e, w, (σ.1, σ.2.1, σ.2.2.1 + 1, σ.2.2.2)) S1 := by
  refine ⟨ho.trans (ouR_A rfl), ?_, ?_, ?_, ?_⟩
  · rw [h42]; exact h0
  · rw [h42]; exact h1
  · rw [h42]; exact msA_at
  · rw [h42]; exact h3
theorem ouR_val {v : Val} : ouR (mVal S v) = ouR S := (ouR_I rfl).trans (ouR_I rfl)
theorem rcl_wrk {b bg nf : Nat} {c : Int32} (h : En (rcl S nf) b c L) : En (rcl (mWrk S bg) nf) b c L := h.mono (Nat.le_refl _) (fun _ _ _ _ _ z => z)
theorem tsA (A : List It) (it : It) : tsum (A ++ [it]) = tsum A + isz it := by rw [tsum_app]; simp only [tsum]; omega
theorem tsB (A Q : List It) (it : It) : tsum (A ++ it :: Q) = tsum A + isz it + tsum Q := by rw [tsum_app]; simp only [tsum]; omega
theorem run_2 (hI : Inv (A ++ it :: B)) (ih : RunS E g o d (A ++ it :: B) f) (h2 : it.1 = 2) (hT : TokAt (S.2 5) 0 (A ++ it :: B)) (hFr : FrR (A ++ it :: B) S nc σ.2.1 A (it :: B) L dp) (hRR : RR (A ++ it :: B) S nc dp σ) (hf : 401 ≤ f + 1 + σ.2.2.1) (hb : σ.2.2.1 ≠ 400) :
    ((ev (f + 1) (it :: B) L dp σ).1 = 0 → ∃ S' nc', Ex E (d + 4) (C66 o) (mh g o S) (C66 o) (mh g o S') ∧ PostR (A ++ it :: B) S nc dp σ (ev (f + 1) (it :: B) L dp σ) S' nc') ∧ ((ev (f + 1) (it :: B) L dp σ).1 ≠ 0 → ∃ S', Rk E (d + 4) (C66 o) (mh g o S) (some (.int (nI (ev (f + 1) (it :: B) L dp σ).1))) (mh g o S') ∧ ErrR S (ev (f + 1) (it :: B) L dp σ) S') := by
  rw [ev_2 h2 hb]
  obtain ⟨-, hd12, h35, h36, hE, hCv⟩ := hFr
  obtain ⟨r26, rnc, rbg, r31, rnf, r0, r1, r2, r3, r12, rfn⟩ := hRR
  obtain ⟨t1, tB, hlen⟩ := at_it hI hT
  obtain ⟨k0, k1, k2, k3, ks⟩ := tok_2 h2 t1
  obtain ⟨e, stk, hr, hs, hB⟩ := Sco_at hI.1
  have e1 : scn e stk it = (it.2.2.1 :: e) :: (it.2.1 :: e) :: stk := by
    unfold scn
    rw [if_neg (by omega), if_pos h2]
  rw [e1] at hB
  obtain ⟨X, r, C, rfl, x2, x3, x4, x5⟩ := Sco_row1 hB
  rw [rwl_of _ _ _ x3, drop_app]
  have hq3 : 3 ≤ tsum (X ++ [r]) := by rw [tsum_app]; simp only [tsum]; have := isz_ge r; omega
  have hTQ : TokAt (S.2 5) (tsum A + 4) (X ++ [r]) := by
    rw [ks] at tB
    exact (TokAt_app.mp tB).1
  have hlen' : tsum A + 4 + tsum (X ++ [r]) ≤ 210 := by
    rw [tsum_app (X ++ [r])] at hlen
    omega
  have c := c_makes (E := E) (d := d) (o := o) (g := g) (S := mWrk S σ.2.2.1) (p := tsum A) (dp := dp) (nf := σ.2.1) (nc := nc) (Q := X ++ [r]) (by omega) hd12 r31 (by omega) r26 (by omega) k1 k3 rfl hTQ (by omega) x3 hq3
  obtain ⟨S1, e2, a1, a2, a3, a4, a5, a6, a7, a8, a9, a10, a11, a12, a13⟩ := T_mak (bg := σ.2.2.1) (p := tsum A) (dp := dp) (nf := σ.2.1) (nm := it.2.1) (pr := it.2.2.1) (ch := S.2 37 dp) (pl := nI (tsum A + 4 + tsum (X ++ [r]))) r26
  have c : Rn E (d + 2) 48 [.ref o, .int (nI (tsum A)), .int (nI dp)] (mh g o (mWrk S σ.2.2.1)) none (mh g o S1) := by rw [← e2]; exact c
  have st := wl_0 h35 hd12 h36 (by omega) (by rw [k0]; decide) (c_workF (d := d) r2 (by omega) (by omega) k2 c)
  have hk := a5.kc
  have hT1 : TokAt (S1.2 5) 0 (A ++ it :: (X ++ [r] ++ C)) := by rw [ouR_a a1 rfl]; exact hT
  have hP : A ++ it :: (X ++ [r] ++ C) = (A ++ it :: (X ++ [r])) ++ C := by simp
  have hFr1 : FrR (A ++ it :: (X ++ [r] ++ C)) S1 (nc + 1) (σ.2.1 + 1) (A ++ it :: (X ++ [r])) C ((it.2.1, (true, nI σ.2.1)) :: L) dp := by
    refine ⟨hP, hd12, a4.trans h35, ?_, ?_, it.2.1 :: e, stk, ?_, ?_⟩
    · rw [a9, rup_eq, tsB A (X ++ [r]) it, ks]
    · rw [a10, rup_eq]
      exact hE.new a5 (fun _ => ⟨σ.2.1, by omega, rfl⟩) (by omega)
    · rw [rnk_two, hr]
      show rnk (scn e stk it) (X ++ [r]) = _
      rw [e1]
      exact rnk_row x4 x2
    · obtain ⟨e', stk', g1, g2⟩ := hCv
      rw [hr] at g1
      cases g1
      exact sub_cons g2
  have hRR1 : RR (A ++ it :: (X ++ [r] ++ C)) S1 (nc + 1) dp (fup σ.1 σ.2.1 (it.2.2.1, X ++ [r] ++ C, L), σ.2.1 + 1, σ.2.2.1 + 1, σ.2.2.2) := by
    refine ⟨a2, by show nc + 1 + dp ≤ 2 * (σ.2.2.1 + 1); omega, by show σ.2.2.1 + 1 ≤ 400; omega, a3, by show σ.2.1 + 1 ≤ σ.2.2.1 + 1; omega, ?_, ?_, ?_, ?_, r12, fun k hk' => ?_⟩
    · rw [a13, rup_ne (by decide)]; exact r0
    · rw [a13, rup_ne (by decide)]; exact r1
    · rw [a13, rup_eq]
    · rw [a13, rup_ne (by decide)]; exact r3
    · show FnR _ S1 (σ.2.1 + 1) (nc + 1) k (fup σ.1 σ.2.1 (it.2.2.1, X ++ [r] ++ C, L) k)
      have hk' : k < σ.2.1 + 1 := hk'
      unfold fup
      by_cases ek : k = σ.2.1
      · rw [if_pos ek]
        refine ⟨A, it, rfl, h2, rfl, by rw [a6, ek, rup_eq], by rw [a7, ek, rup_eq], ?_, hCv⟩
        rw [a8, ek, rup_eq]
        exact hE.keep hk (by omega) (by omega)
      · rw [if_neg ek]
        exact (rfn k (by omega)).keep hk (by omega) (by omega) (by rw [a6, rup_ne ek]) (by rw [a7, rup_ne ek]) (by rw [a8, rup_ne ek])
  obtain ⟨g1, g2⟩ := ih (A ++ it :: (X ++ [r])) C ((it.2.1, (true, nI σ.2.1)) :: L) dp _ (nc + 1) S1 hT1 hFr1 hRR1 (by show 401 ≤ f + (σ.2.2.1 + 1); omega)
  refine ⟨fun hz => ?_, fun hz => ?_⟩
  · obtain ⟨S', nc', s1, s2⟩ := g1 hz
    refine ⟨S', nc', st.tr s1, s2.pre a1 hk (by omega) (by show σ.2.1 ≤ σ.2.1 + 1; omega) (by show σ.2.2.1 ≤ σ.2.2.1 + 1; omega) (fun j hj => ?_) (fun j hj => ?_)⟩
    · rw [a9, a10, rup_ne (by omega), rup_ne (by omega)]; exact ⟨rfl, rfl⟩
    · rw [a11, a12]; exact ⟨rfl, rfl⟩
  · obtain ⟨S', s1, s2, s3⟩ := g2 hz
    exact ⟨S', Rk.tr st s1, s2.trans a1, s3⟩
theorem run_5 (hI : Inv (A ++ it :: B)) (ih : RunS E g o d (A ++ it :: B) f) (h5 : it.1 = 5) (hT : TokAt (S.2 5) 0 (A ++ it :: B)) (hFr : FrR (A ++ it :: B) S nc σ.2.1 A (it :: B) L dp) (hRR : RR (A ++ it :: B) S nc dp σ) (hf : 401 ≤ f + 1 + σ.2.2.1) (hb : σ.2.2.1 ≠ 400) :
    ((ev (f + 1) (it :: B) L dp σ).1 = 0 → ∃ S' nc', Ex E (d + 4) (C66 o) (mh g o S) (C66 o) (mh g o S') ∧ PostR (A ++ it :: B) S nc dp σ (ev (f + 1) (it :: B) L dp σ) S' nc') ∧ ((ev (f + 1) (it :: B) L dp σ).1 ≠ 0 → ∃ S', Rk E (d + 4) (C66 o) (mh g o S) (some (.int (nI (ev (f + 1) (it :: B) L dp σ).1))) (mh g o S') ∧ ErrR S (ev (f + 1) (it :: B) L dp σ) S') := by
  rw [ev_5 h5 hb]
  obtain ⟨-, hd12, h35, h36, hE, hCv⟩ := hFr
  obtain ⟨r26, rnc, rbg, r31, rnf, r0, r1, r2, r3, r12, rfn⟩ := hRR
  obtain ⟨t1, tB, hlen⟩ := at_it hI hT
  obtain ⟨e, stk, hr, hs, hB⟩ := Sco_at hI.1
  obtain ⟨k0, k1, k2, k3, k4, k5, k6, k7, ks⟩ := tok_5 h5 t1
  have i2 : iat it = 2 := by unfold iat; rw [h5]; rfl
  have ha := Cov_use hI.1 hCv (j := 0) (by rw [i2]; decide)
  have hbb := Cov_use hI.1 hCv (j := 1) (by rw [i2]; decide)
  have hEw := rcl_wrk (bg := σ.2.2.1) hE
  have np : ¬ S.2 5 (tsum A) = 9 := by rw [k0]; decide
  by_cases hv : (lkE L it.2.2.2.1).1 = true ∨ (lkE L it.2.2.2.2).1 = true
  · rw [if_pos hv]
    refine ⟨fun z => absurd (show (2 : Nat) = 0 from z) (by decide), fun _ => ?_⟩
    have c := c_reck2 (E := E) (d := d + 1) (o := o) (g := g) (S := mWrk S σ.2.2.1) (p := tsum A) (dp := dp) (nc := nc) (a := it.2.2.2.1) (b := it.2.2.2.2) (by omega) hd12 rfl (by omega) hEw k4 k5 k6 k7 ha hbb hv
    exact ⟨_, wl_e (e := 2) h35 hd12 h36 (by omega) np (by decide) (by decide) (c_workO (d := d) r2 (by omega) (by omega) k2 c), err_of r2 r0 r1 r3 ouR_val rfl⟩
  · rw [if_neg hv]
    have va : (lkE L it.2.2.2.1).1 = false := by cases h : (lkE L it.2.2.2.1).1 with | false => rfl | true => exact absurd (Or.inl h) hv
    have vb : (lkE L it.2.2.2.2).1 = false := by cases h : (lkE L it.2.2.2.2).1 with | false => rfl | true => exact absurd (Or.inr h) hv
    by_cases hz : it.2.2.1 = 3 ∧ (lkE L it.2.2.2.2).2 = 0
    · rw [if_pos hz]
      refine ⟨fun z => absurd (show (3 : Nat) = 0 from z) (by decide), fun _ => ?_⟩
      have c := c_reck3 (E := E) (d := d + 1) (o := o) (g := g) (S := mWrk S σ.2.2.1) (p := tsum A) (dp := dp) (nc := nc) (a := it.2.2.2.1) (b := it.2.2.2.2) (by omega) hd12 rfl (by omega) hEw k4 k5 k6 k7 k3 ha hbb va vb hz
      exact ⟨_, wl_e (e := 3) h35 hd12 h36 (by omega) np (by decide) (by decide) (c_workO (d := d) r2 (by omega) (by omega) k2 c), err_of r2 r0 r1 r3 ouR_val rfl⟩
    · rw [if_neg hz]
      have c := c_reck (E := E) (d := d + 1) (o := o) (g := g) (S := mWrk S σ.2.2.1) (p := tsum A) (dp := dp) (nc := nc) (a := it.2.2.2.1) (b := it.2.2.2.2) (by omega) hd12 rfl (by omega) hEw k4 k5 k6 k7 k3 ha hbb va vb r26 k1 hz
      generalize opv it.2.2.1 (lkE L it.2.2.2.1).2 (lkE L it.2.2.2.2).2 = x at c ⊢
      obtain ⟨S1, e2, a1, a2, a3, a4, a5, a6, a7, a8, a9, a10, a11, a12, a13⟩ := T_rec (bg := σ.2.2.1) (p := tsum A) (dp := dp) (nm := it.2.1) (ch := S.2 37 dp) (x := x) r26
      have c : Rn E (d + 2) 50 [.ref o, .int (nI (tsum A)), .int (nI dp)] (mh g o (mWrk S σ.2.2.1)) (some (.int 0)) (mh g o S1) := by rw [← e2]; exact c
      have st := wl_0 h35 hd12 h36 (by omega) np (c_workO (d := d) r2 (by omega) (by omega) k2 c)
      have hk := a5.kc
      have hT1 : TokAt (S1.2 5) 0 (A ++ it :: B) := by rw [ouR_a a1 rfl]; exact hT
      have hFr1 : FrR (A ++ it :: B) S1 (nc + 1) σ.2.1 (A ++ [it]) B ((it.2.1, (false, x)) :: L) dp := by
        refine ⟨(app1 A B it).symm, hd12, a4.trans h35, ?_, ?_, it.2.1 :: e, stk, ?_, ?_⟩
        · rw [a9, rup_eq, tsA, ks]
        · rw [a10, rup_eq]
          exact hE.new a5 (fun z => by cases z) (Nat.le_refl _)
        · rw [rnk_two, hr]
          show scn e stk it = _
          unfold scn
          rw [if_neg (by omega), if_neg (by omega), if_neg (by omega), if_pos h5]
        · obtain ⟨e', stk', g1, g2⟩ := hCv
          rw [hr] at g1
          cases g1
          exact sub_cons g2
      have hRR1 : RR (A ++ it :: B) S1 (nc + 1) dp (σ.1, σ.2.1, σ.2.2.1 + 1, σ.2.2.2) := by
        refine ⟨a2, by show nc + 1 + dp ≤ 2 * (σ.2.2.1 + 1); omega, by show σ.2.2.1 + 1 ≤ 400; omega, a3.trans r31, by show σ.2.1 ≤ σ.2.2.1 + 1; omega, ?_, ?_, ?_, ?_, r12, fun k hk' => (rfn k hk').keep hk (Nat.le_refl _) (by omega) (by rw [a6]) (by rw [a7]) (by rw [a8])⟩
        · rw [a13, rup_ne (by decide)]; exact r0
        · rw [a13, rup_ne (by decide)]; exact r1
        · rw [a13, rup_eq]
        · rw [a13, rup_ne (by decide)]; exact r3
      obtain ⟨g1, g2⟩ := ih (A ++ [it]) B ((it.2.1, (false, x)) :: L) dp (σ.1, σ.2.1, σ.2.2.1 + 1, σ.2.2.2) (nc + 1) S1 hT1 hFr1 hRR1 (by show 401 ≤ f + (σ.2.2.1 + 1); omega)
      refine ⟨fun hz => ?_, fun hz => ?_⟩
      · obtain ⟨S', nc', s1, s2⟩ := g1 hz
        refine ⟨S', nc', st.tr s1, s2.pre a1 hk (by omega) (Nat.le_refl _) (by show σ.2.2.1 ≤ σ.2.2.1 + 1; omega) (fun j hj => ?_) (fun j hj => ?_)⟩
        · rw [a9, a10, rup_ne (by omega), rup_ne (by omega)]; exact ⟨rfl, rfl⟩
        · rw [a11, a12]; exact ⟨rfl, rfl⟩
      · obtain ⟨S', s1, s2, s3⟩ := g2 hz
        exact ⟨S', Rk.tr st s1, s2.trans a1, s3⟩
theorem run_3 (hI : Inv (A ++ it :: B)) (ih : RunS E g o d (A ++ it :: B) f) (h3 : it.1 = 3) (hT : TokAt (S.2 5) 0 (A ++ it :: B)) (hFr : FrR (A ++ it :: B) S nc σ.2.1 A (it :: B) L dp) (hRR : RR (A ++ it :: B) S nc dp σ) (hf : 401 ≤ f + 1 + σ.2.2.1) (hb : σ.2.2.1 ≠ 400) :
    ((ev (f + 1) (it :: B) L dp σ).1 = 0 → ∃ S' nc', Ex E (d + 4) (C66 o) (mh g o S) (C66 o) (mh g o S') ∧ PostR (A ++ it :: B) S nc dp σ (ev (f + 1) (it :: B) L dp σ) S' nc') ∧ ((ev (f + 1) (it :: B) L dp σ).1 ≠ 0 → ∃ S', Rk E (d + 4) (C66 o) (mh g o S) (some (.int (nI (ev (f + 1) (it :: B) L dp σ).1))) (mh g o S') ∧ ErrR S (ev (f + 1) (it :: B) L dp σ) S') := by
  rw [ev_3 h3 hb]
  obtain ⟨-, hd12, h35, h36, hE, hCv⟩ := hFr
  obtain ⟨r26, rnc, rbg, r31, rnf, r0, r1, r2, r3, r12, rfn⟩ := hRR
  obtain ⟨t1, tB, hlen⟩ := at_it hI hT
  obtain ⟨e, stk, hr, hs, hB⟩ := Sco_at hI.1
  obtain ⟨k0, k1, k2, k3, k4, k5, k6, ks⟩ := tok_3 h3 t1
  have i2 : iat it = 2 := by unfold iat; rw [h3]; rfl
  have ha := Cov_use hI.1 hCv (j := 0) (by rw [i2]; decide)
  have hbb := Cov_use hI.1 hCv (j := 1) (by rw [i2]; decide)
  have hEw := rcl_wrk (bg := σ.2.2.1) hE
  have np : ¬ S.2 5 (tsum A) = 9 := by rw [k0]; decide
  by_cases va : (lkE L it.2.2.2.1).1 = false
  · rw [if_pos va]
    refine ⟨fun z => absurd (show (1 : Nat) = 0 from z) (by decide), fun _ => ?_⟩
    have c := c_app1 (E := E) (d := d + 1) (o := o) (g := g) (S := mWrk S σ.2.2.1) (p := tsum A) (dp := dp) (nc := nc) (a := it.2.2.2.1) (b := it.2.2.2.2) (by omega) hd12 rfl (by omega) hEw k3 k4 k5 k6 ha hbb va
    exact ⟨_, wl_e (e := 1) h35 hd12 h36 (by omega) np (by decide) (by decide) (c_workA (d := d) r2 (by omega) (by omega) k2 c), err_of r2 r0 r1 r3 ouR_val rfl⟩
  · rw [if_neg va]
    have va : (lkE L it.2.2.2.1).1 = true := by cases h : (lkE L it.2.2.2.1).1 with | true => rfl | false => exact absurd h va
    by_cases h12 : dp = 12
    · rw [if_pos h12]
      refine ⟨fun z => absurd (show (4 : Nat) = 0 from z) (by decide), fun _ => ?_⟩
      have c := c_app4 (E := E) (d := d + 1) (o := o) (g := g) (S := mWrk S σ.2.2.1) (p := tsum A) (dp := dp) (nc := nc) (a := it.2.2.2.1) (b := it.2.2.2.2) (by omega) hd12 rfl (by omega) hEw k3 k4 k5 k6 ha hbb va (h35.trans (by rw [h12]; rfl))
      exact ⟨_, wl_e (e := 4) h35 hd12 h36 (by omega) np (by decide) (by decide) (c_workA (d := d) r2 (by omega) (by omega) k2 c), err_of r2 r0 r1 r3 ouR_val rfl⟩
    · rw [if_neg h12]
      obtain ⟨k, hk1, hk2⟩ := lkE_ok (a := it.2.2.2.1) hE va
      rw [hk2, nI_clamp (by omega)]
      obtain ⟨Af, F, f1, f2, f3, f4, f5, f6, f7⟩ := rfn k hk1
      simp only
      generalize hfn : σ.1 k = fn at f1 f3 f5 f6 f7 ⊢
      obtain ⟨S1, c, c1, c2, c3, c4⟩ := c_app (E := E) (d := d + 1) (o := o) (g := g) (S := mWrk S σ.2.2.1) (p := tsum A) (dp := dp) (nc := nc) (a := it.2.2.2.1) (b := it.2.2.2.2) (by omega) hd12 rfl (by omega) hEw k3 k4 k5 k6 ha hbb va hk2 (by omega) h35 (by omega) r26 f4 f5 rfl k1 r3 (by omega)
      obtain ⟨a1, a2, a3, a4, a5, a6, a7, a8, a9, a10, a11, a12⟩ := T_app (m := 0) r26 h35 c1 c2
      have st := wl_0 h35 hd12 h36 (by omega) np (c_workA (d := d) r2 (by omega) (by omega) k2 c)
      have hk := a5.kc
      have hT1 : TokAt (S1.2 5) 0 (A ++ it :: B) := by rw [ouR_a a1 rfl]; exact hT
      have hFr1 : FrR (A ++ it :: B) S1 (nc + 1) σ.2.1 (Af ++ [F]) fn.2.1 ((fn.1, lkE L it.2.2.2.2) :: fn.2.2) (dp + 1) := by
        obtain ⟨e', stk', g1, g2⟩ := f7
        refine ⟨f1.trans (app1 Af fn.2.1 F).symm, by omega, a4, ?_, ?_, fn.1 :: e', (F.2.1 :: e') :: stk', ?_, sub_cons g2⟩
        · rw [a9, rup_eq, tsA, show isz F = 4 by unfold isz; rw [f2]; rfl]
        · rw [a10, rup_eq]
          exact f6.new a5 (lkE_ok hE) (Nat.le_refl _)
        · rw [rnk_two, g1]
          show scn e' stk' F = _
          unfold scn
          rw [if_neg (by omega), if_pos f2, f3]
      have hRR1 : RR (A ++ it :: B) S1 (nc + 1) (dp + 1) (σ.1, σ.2.1, σ.2.2.1 + 1, max σ.2.2.2 (dp + 1)) := by
        refine ⟨a2, by show nc + 1 + (dp + 1) ≤ 2 * (σ.2.2.1 + 1); omega, by show σ.2.2.1 + 1 ≤ 400; omega, a3.trans r31, by show σ.2.1 ≤ σ.2.2.1 + 1; omega, ?_, ?_, ?_, c4, by show max σ.2.2.2 (dp + 1) ≤ 12; omega, fun k hk' => (rfn k hk').keep hk (Nat.le_refl _) (by omega) (by rw [a6]) (by rw [a7]) (by rw [a8])⟩
        · rw [c3 0 (by decide)]; exact r0
        · rw [c3 1 (by decide)]; exact r1
        · rw [c3 2 (by decide)]; exact msA_at
      obtain ⟨g1, g2⟩ := ih (Af ++ [F]) fn.2.1 ((fn.1, lkE L it.2.2.2.2) :: fn.2.2) (dp + 1) (σ.1, σ.2.1, σ.2.2.1 + 1, max σ.2.2.2 (dp + 1)) (nc + 1) S1 hT1 hFr1 hRR1 (by show 401 ≤ f + (σ.2.2.1 + 1); omega)
      generalize hrr : ev f fn.2.1 ((fn.1, lkE L it.2.2.2.2) :: fn.2.2) (dp + 1) (σ.1, σ.2.1, σ.2.2.1 + 1, max σ.2.2.2 (dp + 1)) = rr at g1 g2 ⊢
      have b36 : ∀ j, j ≤ dp → S1.2 36 j = S.2 36 j := fun j hj => by rw [a9, rup_ne (by omega)]
      have b37 : ∀ j, j ≤ dp → S1.2 37 j = S.2 37 j := fun j hj => by rw [a10, rup_ne (by omega)]
      have b38 : ∀ j, j ≤ dp → S1.2 38 j = S.2 38 j := fun j hj => by rw [a11, rup_ne (by omega)]
      have b39 : ∀ j, j ≤ dp → S1.2 39 j = S.2 39 j := fun j hj => by rw [a12, rup_ne (by omega)]
      have b38x : S1.2 38 (dp + 1) = nI (tsum A + 7) := by rw [a11, rup_eq]
      have b39x : S1.2 39 (dp + 1) = it.2.1 := by rw [a12, rup_eq]
      have hE1 : En (rcl S1 σ.2.1) (nc + 1) (S.2 37 dp) L := hE.keep hk (Nat.le_refl _) (by omega)
      have hncc : nc ≤ nc + 1 := by omega
      have hPf : A ++ it :: B = (A ++ [it]) ++ B := (app1 A B it).symm
      have htf : nI (tsum A + 7) = nI (tsum (A ++ [it])) := by rw [tsA, ks]
      have hrf : rnk [[]] (A ++ [it]) = (it.2.1 :: e) :: stk := by
        rw [rnk_two, hr]
        show scn e stk it = _
        unfold scn
        rw [if_neg (by omega), if_neg (by omega), if_pos h3]
      refine ⟨fun hz => ?_, fun hz => ?_⟩
      · by_cases h0 : rr.1 = 0
        · rw [if_pos h0] at hz ⊢
          obtain ⟨S2, nc2, s1, o1, o2, o3, o4, o5, o6, o7, o8, o9, o10, o11, o12, o13⟩ := g1 h0
          obtain ⟨p36, p37⟩ := o13 (by omega)
          rw [Nat.add_sub_cancel] at o6 p36 p37
          have hL2 := p37 L (by rw [b37 dp (Nat.le_refl _)]; exact hE1)
          rw [b38x] at p36
          rw [b39x] at hL2
          have hT2 : TokAt (S2.2 5) 0 (A ++ it :: B) := by rw [ouR_a o1 rfl]; exact hT1
          have hFr2 : FrR (A ++ it :: B) S2 nc2 rr.2.2.2.1 (A ++ [it]) (B) ((it.2.1, rr.2.1) :: L) dp := by
            refine ⟨hPf, hd12, o2, ?_, hL2, it.2.1 :: e, stk, hrf, ?_⟩
            · rw [p36, htf]
            · obtain ⟨e', stk', g1, g2⟩ := hCv
              rw [hr] at g1
              cases g1
              exact sub_cons g2
          obtain ⟨g3, g4⟩ := ih (A ++ [it]) (B) ((it.2.1, rr.2.1) :: L) dp rr.2.2 nc2 S2 hT2 hFr2 o6 (by have : σ.2.2.1 + 1 ≤ rr.2.2.2.2.1 := o10; omega)
          obtain ⟨S3, nc3, s3, s4⟩ := g3 hz
          refine ⟨S3, nc3, st.tr (s1.tr s3), s4.pre (o1.trans a1) (hk.tr o7 hncc) (by omega) o9 (by have : σ.2.2.1 + 1 ≤ rr.2.2.2.2.1 := o10; omega) (fun j hj => ?_) (fun j hj => ?_)⟩
          · exact ⟨(o11 j (by omega)).1.trans (b36 j (by omega)), (o11 j (by omega)).2.trans (b37 j (by omega))⟩
          · exact ⟨(o12 j (by omega)).1.trans (b38 j (by omega)), (o12 j (by omega)).2.trans (b39 j (by omega))⟩
        · rw [if_neg h0] at hz
          exact absurd hz h0
      · by_cases h0 : rr.1 = 0
        · rw [if_pos h0] at hz ⊢
          obtain ⟨S2, nc2, s1, o1, o2, o3, o4, o5, o6, o7, o8, o9, o10, o11, o12, o13⟩ := g1 h0
          obtain ⟨p36, p37⟩ := o13 (by omega)
          rw [Nat.add_sub_cancel] at o6 p36 p37
          have hL2 := p37 L (by rw [b37 dp (Nat.le_refl _)]; exact hE1)
          rw [b38x] at p36
          rw [b39x] at hL2
          have hT2 : TokAt (S2.2 5) 0 (A ++ it :: B) := by rw [ouR_a o1 rfl]; exact hT1
          have hFr2 : FrR (A ++ it :: B) S2 nc2 rr.2.2.2.1 (A ++ [it]) (B) ((it.2.1, rr.2.1) :: L) dp := by
            refine ⟨hPf, hd12, o2, ?_, hL2, it.2.1 :: e, stk, hrf, ?_⟩
            · rw [p36, htf]
            · obtain ⟨e', stk', g1, g2⟩ := hCv
              rw [hr] at g1
              cases g1
              exact sub_cons g2
          obtain ⟨g3, g4⟩ := ih (A ++ [it]) (B) ((it.2.1, rr.2.1) :: L) dp rr.2.2 nc2 S2 hT2 hFr2 o6 (by have : σ.2.2.1 + 1 ≤ rr.2.2.2.2.1 := o10; omega)
          obtain ⟨S3, s3, s4, s5⟩ := g4 hz
          exact ⟨S3, Rk.tr st (Rk.tr s1 s3), s4.trans (o1.trans a1), s5⟩
        · rw [if_neg h0]
          obtain ⟨S2, s1, s2, s3⟩ := g2 h0
          exact ⟨S2, Rk.tr st s1, s2.trans a1, s3⟩
theorem run_6 (hI : Inv (A ++ it :: B)) (ih : RunS E g o d (A ++ it :: B) f) (n2 : it.1 ≠ 2) (n3 : it.1 ≠ 3) (n5 : it.1 ≠ 5) (n9 : it.1 ≠ 9) (hT : TokAt (S.2 5) 0 (A ++ it :: B)) (hFr : FrR (A ++ it :: B) S nc σ.2.1 A (it :: B) L dp) (hRR : RR (A ++ it :: B) S nc dp σ) (hf : 401 ≤ f + 1 + σ.2.2.1) (hb : σ.2.2.1 ≠ 400) :
    ((ev (f + 1) (it :: B) L dp σ).1 = 0 → ∃ S' nc', Ex E (d + 4) (C66 o) (mh g o S) (C66 o) (mh g o S') ∧ PostR (A ++ it :: B) S nc dp σ (ev (f + 1) (it :: B) L dp σ) S' nc') ∧ ((ev (f + 1) (it :: B) L dp σ).1 ≠ 0 → ∃ S', Rk E (d + 4) (C66 o) (mh g o S) (some (.int (nI (ev (f + 1) (it :: B) L dp σ).1))) (mh g o S') ∧ ErrR S (ev (f + 1) (it :: B) L dp σ) S') := by
  rw [ev_6 n2 n3 n5 n9 hb]
  obtain ⟨-, hd12, h35, h36, hE, hCv⟩ := hFr
  obtain ⟨r26, rnc, rbg, r31, rnf, r0, r1, r2, r3, r12, rfn⟩ := hRR
  obtain ⟨t1, tB, hlen⟩ := at_it hI hT
  obtain ⟨e, stk, hr, hs, hB⟩ := Sco_at hI.1
  have e1 : scn e stk it = e :: e :: (it.2.1 :: e) :: stk := by
    unfold scn
    rw [if_neg n9, if_neg n2, if_neg n3, if_neg n5]
  rw [e1] at hB
  obtain ⟨X1, y1, C1, rfl, x2, x3, x4, x5⟩ := Sco_row1 hB
  obtain ⟨X2, y2, C, rfl, z2, z3, z4, z5⟩ := Sco_row1 x5
  simp only [rwl_of _ _ _ x3, drop_app, rwl_of _ _ _ z3]
  obtain ⟨⟨k0, k1, k2, k3, k4⟩, ks, i1⟩ := tok_6 n2 n3 n5 n9 t1
  have ha := Cov_use hI.1 hCv (j := 0) (by rw [i1]; decide)
  have hEw := rcl_wrk (bg := σ.2.2.1) hE
  have np : ¬ S.2 5 (tsum A) = 9 := by rw [k0]; decide
  have q1 : 3 ≤ tsum (X1 ++ [y1]) := by rw [tsum_app]; simp only [tsum]; have := isz_ge y1; omega
  have q2 : 3 ≤ tsum (X2 ++ [y2]) := by rw [tsum_app]; simp only [tsum]; have := isz_ge y2; omega
  rw [ks] at tB
  have tB := And.intro (TokAt_app.mp tB).1 (TokAt_app.mp (TokAt_app.mp tB).2)
  rw [ks, tsum_app (X1 ++ [y1]), tsum_app (X2 ++ [y2])] at hlen
  by_cases va : (lkE L it.2.2.2.1).1 = true
  · rw [if_pos va]
    refine ⟨fun z => absurd (show (2 : Nat) = 0 from z) (by decide), fun _ => ?_⟩
    have c := c_cho2 (E := E) (d := d) (o := o) (g := g) (S := mWrk S σ.2.2.1) (p := tsum A) (dp := dp) (nc := nc) (a := it.2.2.2.1) (Q1 := X1 ++ [y1]) (Q2 := X2 ++ [y2]) (by omega) hd12 rfl (by omega) hEw k3 k4 ha va
    exact ⟨_, wl_e (e := 2) h35 hd12 h36 (by omega) np (by decide) (by decide) (c_workI (d := d) r2 (by omega) (by omega) k2 c), err_of r2 r0 r1 r3 ouR_val rfl⟩
  · rw [if_neg va]
    have va : (lkE L it.2.2.2.1).1 = false := by cases h : (lkE L it.2.2.2.1).1 with | false => rfl | true => exact absurd h va
    by_cases h12 : dp = 12
    · rw [if_pos h12]
      refine ⟨fun z => absurd (show (4 : Nat) = 0 from z) (by decide), fun _ => ?_⟩
      have c := c_cho4 (E := E) (d := d) (o := o) (g := g) (S := mWrk S σ.2.2.1) (p := tsum A) (dp := dp) (nc := nc) (a := it.2.2.2.1) (Q1 := X1 ++ [y1]) (Q2 := X2 ++ [y2]) (by omega) hd12 rfl (by omega) hEw k3 k4 ha va k1 tB.1 tB.2.1 x3 z3 q1 q2 (h35.trans (by rw [h12]; rfl))
      exact ⟨_, wl_e (e := 4) h35 hd12 h36 (by omega) np (by decide) (by decide) (c_workI (d := d) r2 (by omega) (by omega) k2 c), err_of r2 r0 r1 r3 ouR_val rfl⟩
    · rw [if_neg h12]
      obtain ⟨S1, c, c1, c2, c3, c4⟩ := c_cho (E := E) (d := d) (o := o) (g := g) (S := mWrk S σ.2.2.1) (p := tsum A) (dp := dp) (nc := nc) (a := it.2.2.2.1) (Q1 := X1 ++ [y1]) (Q2 := X2 ++ [y2]) (by omega) hd12 rfl (by omega) hEw k3 k4 ha va k1 tB.1 tB.2.1 x3 z3 q1 q2 h35 (by omega) r3 (by omega)
      obtain ⟨a1, a2, a3, a4, a5, a6, a7, a8, a9, a10, a11, a12⟩ := T_cho h35 c1 c2
      have st := wl_0 h35 hd12 h36 (by omega) np (c_workI (d := d) r2 (by omega) (by omega) k2 c)
      have hk : KC nc S S1 := fun j hj => a5 j (by omega)
      have hT1 : TokAt (S1.2 5) 0 (A ++ it :: (X1 ++ [y1] ++ (X2 ++ [y2] ++ C))) := by rw [ouR_a a1 rfl]; exact hT
      have hE1 : En (rcl S1 σ.2.1) nc (S.2 37 dp) L := hE.keep hk (Nat.le_refl _) (Nat.le_refl _)
      have hCe : ∀ x ∈ e, x ∈ L.map Prod.fst := by
        obtain ⟨e', stk', g1, g2⟩ := hCv
        rw [hr] at g1
        cases g1
        exact g2
      have hFr1 : ∃ Aq, FrR (A ++ it :: (X1 ++ [y1] ++ (X2 ++ [y2] ++ C))) S1 nc σ.2.1 Aq (if (lkE L it.2.2.2.1).2 = 0 then X2 ++ [y2] ++ C else X1 ++ [y1] ++ (X2 ++ [y2] ++ C)) L (dp + 1) := by
        by_cases hz : (lkE L it.2.2.2.1).2 = 0
        · rw [if_pos hz] at a9 ⊢
          refine ⟨A ++ it :: (X1 ++ [y1]), by simp, by omega, a4, ?_, ?_, e, (it.2.1 :: e) :: stk, ?_, hCe⟩
          · rw [a9, rup_eq, tsB A (X1 ++ [y1]) it, ks]
          · rw [a10, rup_eq]; exact hE1
          · rw [rnk_two, hr]
            show rnk (scn e stk it) (X1 ++ [y1]) = _
            rw [e1]
            exact rnk_row x4 x2
        · rw [if_neg hz] at a9 ⊢
          refine ⟨A ++ [it], by simp, by omega, a4, ?_, ?_, e, e :: (it.2.1 :: e) :: stk, ?_, hCe⟩
          · rw [a9, rup_eq, tsA, ks]
          · rw [a10, rup_eq]; exact hE1
          · rw [rnk_two, hr]
            show scn e stk it = _
            rw [e1]
      obtain ⟨Aq, hFr1⟩ := hFr1
      have hRR1 : RR (A ++ it :: (X1 ++ [y1] ++ (X2 ++ [y2] ++ C))) S1 nc (dp + 1) (σ.1, σ.2.1, σ.2.2.1 + 1, max σ.2.2.2 (dp + 1)) := by
        refine ⟨a2.trans r26, by show nc + (dp + 1) ≤ 2 * (σ.2.2.1 + 1); omega, by show σ.2.2.1 + 1 ≤ 400; omega, a3.trans r31, by show σ.2.1 ≤ σ.2.2.1 + 1; omega, ?_, ?_, ?_, c4, by show max σ.2.2.2 (dp + 1) ≤ 12; omega, fun k hk' => (rfn k hk').keep hk (Nat.le_refl _) (Nat.le_refl _) (by rw [a6]) (by rw [a7]) (by rw [a8])⟩
        · rw [c3 0 (by decide)]; exact r0
        · rw [c3 1 (by decide)]; exact r1
        · rw [c3 2 (by decide)]; exact msA_at
      obtain ⟨g1, g2⟩ := ih Aq (if (lkE L it.2.2.2.1).2 = 0 then X2 ++ [y2] ++ C else X1 ++ [y1] ++ (X2 ++ [y2] ++ C)) L (dp + 1) (σ.1, σ.2.1, σ.2.2.1 + 1, max σ.2.2.2 (dp + 1)) nc S1 hT1 hFr1 hRR1 (by show 401 ≤ f + (σ.2.2.1 + 1); omega)
      generalize hrr : ev f (if (lkE L it.2.2.2.1).2 = 0 then X2 ++ [y2] ++ C else X1 ++ [y1] ++ (X2 ++ [y2] ++ C)) L (dp + 1) (σ.1, σ.2.1, σ.2.2.1 + 1, max σ.2.2.2 (dp + 1)) = rr at g1 g2 ⊢
      have b36 : ∀ j, j ≤ dp → S1.2 36 j = S.2 36 j := fun j hj => by rw [a9, rup_ne (by omega)]
      have b37 : ∀ j, j ≤ dp → S1.2 37 j = S.2 37 j := fun j hj => by rw [a10, rup_ne (by omega)]
      have b38 : ∀ j, j ≤ dp → S1.2 38 j = S.2 38 j := fun j hj => by rw [a11, rup_ne (by omega)]
      have b39 : ∀ j, j ≤ dp → S1.2 39 j = S.2 39 j := fun j hj => by rw [a12, rup_ne (by omega)]
      have b38x : S1.2 38 (dp + 1) = nI (tsum A + 5 + tsum (X1 ++ [y1]) + tsum (X2 ++ [y2])) := by rw [a11, rup_eq]
      have b39x : S1.2 39 (dp + 1) = it.2.1 := by rw [a12, rup_eq]
      have hncc : nc ≤ nc := Nat.le_refl _
      have hPf : A ++ it :: (X1 ++ [y1] ++ (X2 ++ [y2] ++ C)) = (A ++ it :: (X1 ++ [y1] ++ (X2 ++ [y2]))) ++ C := by simp
      have htf : nI (tsum A + 5 + tsum (X1 ++ [y1]) + tsum (X2 ++ [y2])) = nI (tsum (A ++ it :: (X1 ++ [y1] ++ (X2 ++ [y2])))) := by rw [tsB A _ it, tsum_app (X1 ++ [y1]), ks]; congr 1; omega
      have hrf : rnk [[]] (A ++ it :: (X1 ++ [y1] ++ (X2 ++ [y2]))) = (it.2.1 :: e) :: stk := by
        rw [rnk_two, hr]
        show rnk (scn e stk it) (X1 ++ [y1] ++ (X2 ++ [y2])) = _
        rw [e1, rnk_two, rnk_row x4 x2, rnk_row z4 z2]
      refine ⟨fun hz => ?_, fun hz => ?_⟩
      · by_cases h0 : rr.1 = 0
        · rw [if_pos h0] at hz ⊢
          obtain ⟨S2, nc2, s1, o1, o2, o3, o4, o5, o6, o7, o8, o9, o10, o11, o12, o13⟩ := g1 h0
          obtain ⟨p36, p37⟩ := o13 (by omega)
          rw [Nat.add_sub_cancel] at o6 p36 p37
          have hL2 := p37 L (by rw [b37 dp (Nat.le_refl _)]; exact hE1)
          rw [b38x] at p36
          rw [b39x] at hL2
          have hT2 : TokAt (S2.2 5) 0 (A ++ it :: (X1 ++ [y1] ++ (X2 ++ [y2] ++ C))) := by rw [ouR_a o1 rfl]; exact hT1
          have hFr2 : FrR (A ++ it :: (X1 ++ [y1] ++ (X2 ++ [y2] ++ C))) S2 nc2 rr.2.2.2.1 (A ++ it :: (X1 ++ [y1] ++ (X2 ++ [y2]))) (C) ((it.2.1, rr.2.1) :: L) dp := by
            refine ⟨hPf, hd12, o2, ?_, hL2, it.2.1 :: e, stk, hrf, ?_⟩
            · rw [p36, htf]
            · obtain ⟨e', stk', g1, g2⟩ := hCv
              rw [hr] at g1
              cases g1
              exact sub_cons g2
          obtain ⟨g3, g4⟩ := ih (A ++ it :: (X1 ++ [y1] ++ (X2 ++ [y2]))) (C) ((it.2.1, rr.2.1) :: L) dp rr.2.2 nc2 S2 hT2 hFr2 o6 (by have : σ.2.2.1 + 1 ≤ rr.2.2.2.2.1 := o10; omega)
          obtain ⟨S3, nc3, s3, s4⟩ := g3 hz
          refine ⟨S3, nc3, st.tr (s1.tr s3), s4.pre (o1.trans a1) (hk.tr o7 hncc) (by omega) o9 (by have : σ.2.2.1 + 1 ≤ rr.2.2.2.2.1 := o10; omega) (fun j hj => ?_) (fun j hj => ?_)⟩
          · exact ⟨(o11 j (by omega)).1.trans (b36 j (by omega)), (o11 j (by omega)).2.trans (b37 j (by omega))⟩
          · exact ⟨(o12 j (by omega)).1.trans (b38 j (by omega)), (o12 j (by omega)).2.trans (b39 j (by omega))⟩
        · rw [if_neg h0] at hz
          exact absurd hz h0
      · by_cases h0 : rr.1 = 0
        · rw [if_pos h0] at hz ⊢
          obtain ⟨S2, nc2, s1, o1, o2, o3, o4, o5, o6, o7, o8, o9, o10, o11, o12, o13⟩ := g1 h0
          obtain ⟨p36, p37⟩ := o13 (by omega)
          rw [Nat.add_sub_cancel] at o6 p36 p37
          have hL2 := p37 L (by rw [b37 dp (Nat.le_refl _)]; exact hE1)
          rw [b38x] at p36
          rw [b39x] at hL2
          have hT2 : TokAt (S2.2 5) 0 (A ++ it :: (X1 ++ [y1] ++ (X2 ++ [y2] ++ C))) := by rw [ouR_a o1 rfl]; exact hT1
          have hFr2 : FrR (A ++ it :: (X1 ++ [y1] ++ (X2 ++ [y2] ++ C))) S2 nc2 rr.2.2.2.1 (A ++ it :: (X1 ++ [y1] ++ (X2 ++ [y2]))) (C) ((it.2.1, rr.2.1) :: L) dp := by
            refine ⟨hPf, hd12, o2, ?_, hL2, it.2.1 :: e, stk, hrf, ?_⟩
            · rw [p36, htf]
            · obtain ⟨e', stk', g1, g2⟩ := hCv
              rw [hr] at g1
              cases g1
              exact sub_cons g2
          obtain ⟨g3, g4⟩ := ih (A ++ it :: (X1 ++ [y1] ++ (X2 ++ [y2]))) (C) ((it.2.1, rr.2.1) :: L) dp rr.2.2 nc2 S2 hT2 hFr2 o6 (by have : σ.2.2.1 + 1 ≤ rr.2.2.2.2.1 := o10; omega)
          obtain ⟨S3, s3, s4, s5⟩ := g4 hz
          exact ⟨S3, Rk.tr st (Rk.tr s1 s3), s4.trans (o1.trans a1), s5⟩
        · rw [if_neg h0]
          obtain ⟨S2, s1, s2, s3⟩ := g2 h0
          exact ⟨S2, Rk.tr st s1, s2.trans a1, s3⟩
theorem run_sim {P : List It} (hI : Inv P) : ∀ f, RunS E g o d P f := by
  intro f
  induction f with
  | zero =>
    intro A B L dp σ nc S hT hFr hRR hf
    have := hRR.2.2.1
    omega
  | succ f ih =>
    intro A B L dp σ nc S hT hFr hRR hf
    have hP := hFr.1
    subst hP
    cases B with
    | nil =>
      obtain ⟨e, stk, h1, -⟩ := hFr.2.2.2.2.2
      have := Sco_rnk hI.1
      rw [h1] at this
      cases this
    | cons it B =>
      by_cases h9 : it.1 = 9
      · rw [ev_9 h9]
        exact ⟨fun _ => run_9 hI h9 hT hFr hRR, fun z => absurd rfl z⟩
      · by_cases hb : σ.2.2.1 = 400
        · rw [ev_long h9 hb]
          refine ⟨fun z => absurd (show (5 : Nat) = 0 from z) (by decide), fun _ => ?_⟩
          obtain ⟨-, hd12, h35, h36, -, -⟩ := hFr
          obtain ⟨r26, rnc, rbg, r31, rnf, r0, r1, r2, r3, r12, rfn⟩ := hRR
          obtain ⟨t1, -, hlen⟩ := at_it hI hT
          have hsz := isz_ge it
          exact ⟨S, wl_e (e := 5) h35 hd12 h36 (by omega) (fun z => h9 ((Tok1_sz t1).2.2.2.1.mp z)) (by decide) (by decide) (c_work5 (by rw [r2, hb]; rfl)), rfl, r0, r1, r2, r3⟩
        · rcases kd5 it.1 with h | h | h | h | ⟨n2, n3, n5, n9⟩
          · exact run_2 hI ih h hT hFr hRR hf hb
          · exact run_3 hI ih h hT hFr hRR hf hb
          · exact run_5 hI ih h hT hFr hRR hf hb
          · exact absurd h h9
          · exact run_6 hI ih n2 n3 n5 n9 hT hFr hRR hf hb
end RUN
