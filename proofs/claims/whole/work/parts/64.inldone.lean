/-! ===== the class: inline, done ===== -/
theorem x_iastj {E : PE} {d mi pc : Nat} {L : PL} {st : List Value} {h h2 : PH} {i x : Int32} {a m n : Nat} {f : Nat → Int32} (hi : pin mi pc = some (.iastore, 1)) (ha : h.1 a = some (100, iar m f)) (he : i = nI n) (hb : n < 2 ^ 31) (hn : n < m) (hh : pset h a (100, iar m (rup f n x)) = h2) : Ex E d (mi, pc, L, .int x :: .int i :: .ref a :: st) h (mi, pc + 1, L, st) h2 := by
  rw [← hh]
  exact x_iasti hi ha he hb hn
section M41
variable {E : PE} {d pz pa pl y root st : Nat} {nn nm : Int32} {h : PH} {O : Nat → Nat × Nat} {G : PG} {pf : Nat → Value} {lf c : Nat → Int32}
theorem c_inlineY {A B : List AI} {s : ES} {a x dp : Nat} {p : List Nat} {it F r : It} {B1 X B2 : List It} (hP : PSt E pz pa pl y root st nn h O G A ((it, x) :: B) ((a, p) :: s) pf lf c) (h3 : it.1 = 3) (hI : Inv (AP A ++ it :: AP B)) (hp : PthR pf lf ((a, p ++ [x]) :: s) (dp + 1)) (hdp : dp < 40) (ha : it.2.2.2.1 = (1, F.2.1)) (hA : AP A = B1 ++ F :: ((X ++ [r]) ++ B2)) (hF : F.1 = 2) (hr : r.1 = 9) (hX : closes 1 (X ++ [r])) (ho : occ F.2.1 (AP A ++ it :: AP B) = 1) :
    ∃ (h' : PH) (O' : Nat → Nat × Nat) (G' : PG) (A' B' : List AI) (s' : ES) (p' : List Nat) (lf' : Nat → Int32), Rn E (d + 74) 106 [.ref pz, .ref y, .ref x, .int (nI dp)] h (some (.int 1)) h' ∧ PSt E pz pa pl y root st nn h' O' G' A' B' ((a, p') :: s') pf lf' (rup c 2 (c 2 + 1)) ∧ AP A' = ((B1 ++ B2).map (isb F.2.2.1 it.2.2.2.2)).map (isb it.2.1 (sa F.2.2.1 it.2.2.2.2 r.2.2.2.1)) ∧ AP B' = ((X ++ AP B).map (isb F.2.2.1 it.2.2.2.2)).map (isb it.2.1 (sa F.2.2.1 it.2.2.2.2 r.2.2.2.1)) ∧ pf dp = .ref a ∧ lf' dp = nI p'.length ∧ PthR pf lf' s' dp ∧ Shr s s' ∧ ChP pa pl st O h O' h' ∧ h'.2.1 ≤ h.2.1 + 53 ∧ h'.2.2 ≤ h.2.2 + 5930 := by
  have h9 : it.1 ≠ 9 := by omega
  obtain ⟨A1, RF, A2, xF, rb, c0, L, p1, p2, rest, rr, u, sc, eA, eA1, eRF, eA2, hgF, wRF, w1, hgc, eS, hp2, hren, pth, hL, hpfL, pl82, lv107, ncA, hcB⟩ := inl_find (E := E) (d := d + 69) hP h3 hI hp hdp ha hA hF hr hX
  obtain ⟨rs, R, C, rest0, r0, e1, e2, e3, e4, e5, e6, e7, e8⟩ := hP.at h9
  obtain ⟨g1, g2, g3, g4, g5, g6⟩ := hP
  have hir : irw it = 0 := by unfold irw; rw [h3]; rfl
  have ers : rs = [] := List.length_eq_zero_iff.mp (e2.trans hir)
  have eR : R = [] := by rw [ers] at e4; exact (WA_nil e4).1
  rw [eR, List.nil_append] at e3
  subst e3
  subst ers
  have hi : iat it = 2 := by unfold iat; rw [h3]; rfl
  have hw := WA_app.mpr ⟨_, g3, g4⟩
  obtain ⟨itc, hitc⟩ := hcB
  -- no use of the parameter elsewhere
  have hI' := hI
  rw [hA] at hI'
  obtain ⟨nu1, nu2⟩ := inl_nouse (b := it.2.2.2.2) hI' hF hX
  rw [List.map_append] at nu2
  obtain ⟨nu2, nu3⟩ := List.append_inj nu2 (by rw [List.length_map])
  rw [List.map_cons, List.cons.injEq] at nu3
  have nuA : (A1 ++ A2).map (mb F.2.2.1 it.2.2.2.2) = A1 ++ A2 := AP_mb (by rw [AP_app, List.map_append, eA1, eA2, nu1, nu2])
  have nuB : B.map (mb F.2.2.1 it.2.2.2.2) = B := AP_mb nu3.2
  -- addresses
  have nd12 : ((A1 ++ A2 ++ B).map Prod.snd).Nodup := by
    refine List.Nodup.sublist ?_ g5
    refine List.Sublist.map _ ?_
    refine List.Sublist.append ?_ (List.sublist_cons_self _ _)
    rw [eA]
    refine List.Sublist.append (List.Sublist.refl _) ?_
    exact (List.sublist_append_right _ _).cons _
  have ndB : (B.map Prod.snd).Nodup := by
    rw [List.map_append] at nd12
    exact (List.nodup_append.mp nd12).2.1
  have nRF : ∀ q ∈ RF, q ∈ A := fun q hq => by rw [eA]; simp [hq]
  have haB := (WA_mem e5 List.mem_cons_self).2
  have naA : ∀ q ∈ A, q.2 ≠ a := nd_mem (C := (it, x) :: B) g5 (haB.imp fun i hi => ⟨List.mem_cons_of_mem _ hi.1, hi.2⟩)
  -- 1. the function goes
  obtain ⟨h1, O1, k1, k2, k3, k4⟩ := c_take (E := E) (d := d + 70) g1 hgc
  have P1 := g2.ch g1.1 k3
  have fA1 : WA (gR G c0 (p1 ++ (p2 ++ rest), rr)) [(root, [])] A1 ((c0, p1) :: sc) := WA_frame (fun q hq => ⟨fun _ => gR_ne (ncA q (by rw [eA]; simp [hq])), fun _ => rfl⟩) w1
  have nx0 : x ≠ c0 := fun z => by
    rw [List.map_append, List.map_cons] at g5
    refine (List.nodup_cons.mp (List.nodup_append.mp g5).2.1).1 ?_
    rw [z]
    exact List.mem_map.mpr ⟨_, hitc, rfl⟩
  have fA2 : WA (gR G c0 (p1 ++ (p2 ++ rest), rr)) ((c0, p1) :: sc) (A2 ++ [(it, x)]) (u ++ (c0, p1 ++ p2) :: sc) := WA_frame (fun q hq => ⟨fun _ => gR_ne (by
    rcases List.mem_append.mp hq with hq | hq
    · exact ncA q (by rw [eA]; simp [hq])
    · rw [List.mem_singleton.mp hq]; exact nx0), fun _ => rfl⟩) (hren c0 p1 sc)
  have fM : WA (gR G c0 (p1 ++ (p2 ++ rest), rr)) [(root, [])] ((A1 ++ A2) ++ [(it, x)]) (u ++ (c0, p1 ++ p2) :: sc) := by
    rw [List.append_assoc]
    exact WA_app.mpr ⟨_, fA1, fA2⟩
  have fB : WA (gR G c0 (p1 ++ (p2 ++ rest), rr)) (u ++ (c0, p1 ++ p2) :: sc) B [] := by
    refine WA_move (G := G) (p1 := p1 ++ [xF]) (p2 := p1) (fun rest' r' hh => ?_) (by rw [← eS]; exact e5) (fun q hq => ⟨fun _ z => gR_ne z, fun _ => rfl⟩) ndB
    rw [hgc] at hh
    have q1 := congrArg Prod.fst (Option.some.inj hh)
    have q2 := congrArg Prod.snd (Option.some.inj hh)
    simp only at q1 q2
    rw [List.append_assoc] at q1
    have q3 := List.append_cancel_left q1
    have q4 : p2 ++ rest = rest' := congrArg List.tail q3
    rw [gR_at, ← q2, ← q4]
  obtain ⟨m, wm1, wm2⟩ := WA_app.mp fM
  match m, wm1, wm2 with
  | [], wm1, wm2 => exact wm2.elim
  | (a', p') :: s', wm1, wm2 =>
    rcases wm2 with ⟨z, -⟩ | ⟨-, rs', hgx, -, hS'⟩
    · exact absurd z h9
    · have hgx' : G.2 x = some (it, rs') := hgx
      rw [e1] at hgx'
      have ers' : rs' = [] := by cases hgx'; rfl
      subst ers'
      have hS2 : (a', p' ++ [x]) :: s' = u ++ (c0, p1 ++ p2) :: sc := hS'
      have eaa : a' = a := by
        have q1 : ((a', p' ++ [x]) :: s').map Prod.fst = ((a, p ++ [x]) :: s).map Prod.fst := by
          rw [hS2, eS]
          simp
        exact (List.cons.inj q1).1
      subst eaa
      have hsh : Shr s s' := by
        have hl : ((p1 ++ [xF]) ++ p2).getLast? = (p1 ++ p2).getLast? := by
          rw [List.getLast?_append, List.getLast?_append (l' := p2)]
          have : p2.getLast? ≠ none := by
            intro z
            exact hp2 (List.getLast?_eq_none_iff.mp z)
          cases hq : p2.getLast? with
          | none => exact absurd hq this
          | some v => rfl
        have := Shr_mid (c := c0) (sc := sc) hl u
        rw [← eS, ← hS2] at this
        exact this.2.2
      -- 2. the places
      obtain ⟨L', t1, t2, t3, t4, t5⟩ := PthR_split (u := u) (c := c0) (q := (p1 ++ [xF]) ++ p2) (sc := sc) (by simp) (by rw [← eS]; exact hp)
      have eL : L' = L := PthR_det t4 pth
      subst eL
      have l2 : 0 < p2.length := List.length_pos_iff.mpr hp2
      have pth' : PthR pf (rup lf L' (lf L' - 1)) ((a', p' ++ [x]) :: s') (dp + 1) := by
        rw [hS2]
        refine t5 _ _ (fun z => by simp at z; exact hp2 z.2) (fun k hk => by unfold rup; rw [if_neg hk]) ?_
        unfold rup
        rw [if_pos rfl, t3, nI_m1 (by simp; omega)]
        congr 1
        simp only [List.length_append, List.length_singleton]
        omega
      obtain ⟨pd1, pd2, pd3⟩ : pf dp = .ref a' ∧ rup lf L' (lf L' - 1) dp = nI p'.length ∧ PthR pf (rup lf L' (lf L' - 1)) s' dp := by
        rcases pth' with ⟨z, -⟩ | ⟨-, d', z1, z2, z3, z4⟩
        · simp at z
        · have : d' = dp := by omega
          subst this
          refine ⟨z2, ?_, z4⟩
          rw [z3, List.length_append, List.length_singleton, Nat.add_sub_cancel]
      obtain ⟨G2h, P2⟩ := PsH.place k2 P1 L' (lf L' - 1)
      generalize hlf : rup lf L' (lf L' - 1) = lf' at pth' pd1 pd2 pd3 G2h P2
      generalize hh2 : pset h1 pl (100, iar 40 lf') = h2 at G2h P2
      have ch2 : ChP pa pl st O1 h1 O1 h2 := by rw [← hh2]; exact ChP.set (Or.inr (Or.inl rfl))
      have hh2' : pset h1 pl (100, iar 40 (rup lf L' (lf L' - 1))) = h2 := by rw [hlf]; exact hh2
      have sz2 : h2.2 = h1.2 := by rw [← hh2]; rfl
      -- 3. the body, the parameter replaced
      have fRF : WA (gR G c0 (p1 ++ (p2 ++ rest), rr)) [(rb, [])] RF [] := WA_frame (fun q hq => ⟨fun _ => gR_ne (ncA q (nRF q hq)), fun _ => rfl⟩) wRF
      obtain ⟨at2, ar2, xs2, dt2, f1, f2, f3, f4, f5, f6, f7, f8⟩ := G2h.2.2.2 x it [] hgx
      obtain ⟨z1, z2, ez⟩ := two_of (f4.trans hi)
      subst ez
      have av : AtH h2 z2 it.2.2.2.2 := f5 1 z2 rfl
      obtain ⟨at3, ar3, xs3, dt3, F1, F2, F3, F4, F5, F6, F7, F8⟩ := G2h.2.2.2 xF F [rb] hgF
      have edt : dt3 = F.2.2.1 := F2 (Or.inl hF)
      subst edt
      have htR : tsum (AP RF) ≤ 210 := by
        rw [eA] at g6
        simp only [tsum_app, AP_cons, AP_app, tsum] at g6
        omega
      obtain ⟨h3', G3, m1, m2, m3⟩ := c_repl (E := E) (d := d) (nm := F.2.2.1) G2h av fRF htR
      obtain ⟨⟨bsb, rsb, hrb0⟩, -⟩ := WA_mem fRF List.mem_cons_self
      obtain ⟨lb, eb, capb, xb, rb1, -⟩ := G2h.2.2.1 rb _ rsb hrb0
      have s31 : WA G3 [(root, [])] (A1 ++ A2) ((a', p') :: s') := by
        rw [← nuA]
        refine Sb_done m2.2.1 ?_
        rw [nuA]; exact wm1
      have s32 : WA G3 ((a', p' ++ [x]) :: s') B [] := by
        rw [← nuB]
        refine Sb_done m2.2.1 ?_
        rw [nuB, hS2]; exact fB
      obtain ⟨⟨rest3, r3, ga3⟩, -⟩ := WA_mem s32 List.mem_cons_self
      rw [List.append_assoc] at ga3
      have P3 := P2.ch G2h.1 m2.ch
      -- 4. its bindings are put in place
      obtain ⟨X1, e1r, eX1, e19⟩ := WA_last (RF.map (mb F.2.2.1 it.2.2.2.2)).length (Nat.le_refl _) m3
      have eAPX : (X ++ [r]).map (isb F.2.2.1 it.2.2.2.2) = AP X1 ++ [e1r] := by
        rw [← eRF, ← mb_AP, eX1, AP_app]
        rfl
      rw [List.map_append] at eAPX
      obtain ⟨eX, eer⟩ := List.append_inj' eAPX rfl
      have eer' : isb F.2.2.1 it.2.2.2.2 r = e1r := (List.cons.inj eer).1
      have ev : e1r.2.2.2.1 = sa F.2.2.1 it.2.2.2.2 r.2.2.2.1 := by
        rw [← eer']
        show (if 0 < iat r then sa F.2.2.1 it.2.2.2.2 r.2.2.2.1 else r.2.2.2.1) = _
        rw [if_pos (by unfold iat; rw [hr]; exact Nat.one_pos)]
      have snX : ∀ q ∈ X1, ∃ q' ∈ RF, q'.2 = q.2 := fun q hq => by
        have hm : q ∈ RF.map (mb F.2.2.1 it.2.2.2.2) := by rw [eX1]; exact List.mem_append_left _ hq
        obtain ⟨q', k, e⟩ := List.mem_map.mp hm
        exact ⟨q', k, by rw [← e]; rfl⟩
      have ndRF : ((RF.map (mb F.2.2.1 it.2.2.2.2)).map Prod.snd).Nodup := by
        rw [mb_snd]
        rw [List.map_append] at g5
        have nA := (List.nodup_append.mp g5).1
        rw [eA, List.map_append, List.map_cons, List.map_append] at nA
        exact (List.nodup_append.mp (List.nodup_cons.mp (List.nodup_append.mp nA).2.1).2).1
      have nXb : ∀ q ∈ X1, q.2 ≠ rb := fun q hq z => by
        rw [eX1, List.map_append] at ndRF
        exact (List.nodup_append.mp ndRF).2.2 rb (List.mem_map.mpr ⟨q, hq, z⟩) rb (by simp) rfl
      rw [eX1] at m3
      obtain ⟨cs, hcs, hin⟩ := WA_inner m3 e19 nXb
      have hrba : rb ≠ a' := by
        obtain ⟨-, itb, hb1, -⟩ := WA_mem fRF List.mem_cons_self
        exact naA (itb, rb) (nRF _ hb1)
      have lcs := WA_rlen (rest := cs) m3 List.mem_cons_self hcs
      have lre := WA_rlen s32 List.mem_cons_self (by rw [ga3, List.append_assoc])
      have lpp := WA_len s31
      have lpm := elen_mem (c := a') (q := p') (s := (a', p') :: s') List.mem_cons_self
      have lz : elen [(root, [])] = 0 := rfl
      have l4 := cnt4 (AP A ++ AP ((it, x) :: B))
      have ecs : cntB (AP (X1 ++ [(e1r, rb)])) = cntB (AP RF) := by
        rw [← eX1, mb_AP]
        have : ∀ Q : List It, cntB (Q.map (isb F.2.2.1 it.2.2.2.2)) = cntB Q := by
          intro Q
          induction Q with
          | nil => rfl
          | cons i Q ih => simp only [List.map_cons, cntB, ih]; rfl
        exact this _
      have hlen : p'.length + cs.length + rest3.length ≤ 52 := by
        rw [eA] at l4 g6
        simp only [cntB_app, AP_cons, AP_app, cntB, tsum_app, tsum] at l4 g6 lpp lcs ecs
        omega
      obtain ⟨h4, O4, n1, n2, n3, n4, n5⟩ := c_put (E := E) (d := d + 67) (M := 52) hrba hlen (by omega) m2.1 ga3 hcs
      have sp := WA_splice (cs := cs) (X := X1) (rs := []) s31 s32 (hin a' p' s') ga3 nd12 (fun q hq => by
        obtain ⟨q', k, e⟩ := snX q hq
        rw [← e]
        exact naA q' (nRF q' k))
      have P4 := P3.ch m2.1.1 n3
      have hw4 := WA_app.mpr ⟨_, sp.1, sp.2⟩
      have ht : tsum (AP ((A1 ++ A2) ++ (X1 ++ B))) ≤ 210 := by
        have q1 : tsum (AP X1) ≤ tsum (AP RF) := by
          have : tsum (AP (X1 ++ [(e1r, rb)])) = tsum (AP RF) := by rw [← eX1, mb_AP, isb_sum]
          rw [AP_app, tsum_app] at this
          omega
        rw [eA] at g6
        simp only [tsum_app, AP_cons, AP_app, tsum] at g6 ⊢
        omega
      obtain ⟨lq, eq, capq, xq, c1, c2, -⟩ := n2.2.2.1 rb cs e1r.2.2.2.1 ((gR_ne hrba).trans hcs)
      -- 5. the name stands for the result
      obtain ⟨h5, G5, o1, o2, o3⟩ := c_repl (E := E) (d := d) (nm := it.2.1) n2 c2 hw4 ht
      have sq := Sb_split o2.2.1 sp.1 o3
      have P5 := P4.ch n2.1 o2.ch
      obtain ⟨st1, st2⟩ := PsH.step o2.1 P5 2 (c 2 + 1)
      obtain ⟨x1, x2, x3, x4, x5, x6, x7⟩ := id g2
      obtain ⟨u1, u2, u3, u4, u5, u6, u7⟩ := id P1
      obtain ⟨y1, y2, y3, y4, y5, y6, y7⟩ := id P3
      obtain ⟨v1, v2, v3, v4, v5, v6, v7⟩ := id P4
      obtain ⟨t1', t2', t3', t4', t5', t6', t7'⟩ := id P5
      obtain ⟨at0, ar, xs, dt, b1, b2, b3, b4, b5, b6, b7, b8⟩ := g1.2.2.2 x it [] e1
      obtain ⟨w1', w2', ew⟩ := two_of (b4.trans hi)
      subst ew
      have a1 := b5 0 w1' rfl
      obtain ⟨lc, ec, capc, xc, rc1, rc2, rc3, -⟩ := g1.2.2.1 c0 _ rr hgc
      obtain ⟨mcc, lcc⟩ := id rc3.1
      have hlnc := rc3.len
      obtain ⟨atF, arF, xsF, dtF, FF1, -⟩ := g1.2.2.2 xF F [rb] hgF
      have ek : (p1 ++ xF :: (p2 ++ rest))[p1.length]? = some xF := by rw [List.getElem?_append_right (Nat.le_refl _), Nat.sub_self]; rfl
      obtain ⟨⟨bs0, r00, hr0⟩, -⟩ := WA_mem hw List.mem_cons_self
      obtain ⟨l0, e00, cap0, x00, rt1, -⟩ := g1.2.2.1 root _ r00 hr0
      obtain ⟨⟨bs4, r04, hr4⟩, -⟩ := WA_mem hw4 List.mem_cons_self
      obtain ⟨l04, e04, cap04, x04, rt4, -⟩ := n2.2.2.1 root _ r04 hr4
      obtain ⟨l3, e03, cap3, x03, ra3, -⟩ := m2.1.2.2.1 a' _ r3 ga3
      have bx4 := n3.2.2.2 _ _ _ (m2.2.2.2 _ _ _ f1 (by decide) (by decide) (by decide) (by omega)) (by decide) (by decide) (by decide) (by omega)
      have hoc := c_occs (E := E) (d := d) (nm := F.2.1) g1 hw (by rw [AP_app]; exact g6)
      rw [AP_app, AP_cons, ho] at hoc
      have hpaL : (par pf)[L']? = some (.ref c0) := (par_at (by omega)).trans (congrArg some hpfL)
      have hpaD : (par pf)[dp]? = some (.ref a') := (par_at hdp).trans (congrArg some pd1)
      have hlaL : (iar 40 lf)[L']? = some (.int (lf L')) := iar_at (by omega)
      have hlaD : (iar 40 lf')[dp]? = some (.int (nI p'.length)) := (iar_at hdp).trans (by rw [pd2])
      have hsz : cs.length * (10 + 2 * 52) ≤ 52 * 114 := Nat.mul_le_mul (by omega) (by omega)
      have ea0 : it.2.2.2.1.1 = 1 := by rw [ha]
      have ea1 : it.2.2.2.1.2 = F.2.1 := by rw [ha]
      have q0' : ¬ it.2.2.2.1.1 = 0 := by rw [ea0]; decide
      have hk2 : ikd F = 2 := ikd2.mpr hF
      rw [← ea1] at pl82 lv107 hoc
      refine ⟨_, O4, _, _, _, s', p', lf', ?_, ⟨st1, st2, sq.1, sq.2, ?_, ?_⟩, ?_, ?_, pd1, pd2, pd3, hsh, (((k3.p.tr g1.1 ch2).tr g1.1 ((m2.ch.tr G2h.1 (n3.tr m2.1.1 o2.ch)).p)).tr g1.1 (ChP.set (Or.inr (Or.inr rfl)))), ?_, ?_⟩
      · refine Rn.of (Nat.le_of_ble_eq_true rfl) ?_
        refine Rk.tr (F1 := (106, 1, _, _)) (x_aload_n rfl rfl rfl) ?_
        refine Rk.tr (F1 := (106, 4, _, _)) (x_getf rfl rfl b1 rfl) ?_
        refine Rk.tr (F1 := (106, 5, _, _)) (x_iconst rfl) ?_
        refine Rk.tr (F1 := (106, 6, _, _)) (x_aald (n := 0) rfl b3 rfl rfl rfl (by omega) rfl) ?_
        refine Rk.tr (F1 := (106, 8, [_, _, _, _, _, _, _, _, _], _)) (x_astore (i := 4) rfl (Nat.le_of_ble_eq_true rfl)) ?_
        refine Rk.tr (F1 := (106, 10, _, _)) (x_aload rfl rfl rfl) ?_
        refine Rk.tr (F1 := (106, 13, _, _)) (x_getf rfl rfl a1.1 rfl) ?_
        refine Rk.tr (F1 := (106, 16, _, _)) (x_ifF rfl (tg := 29) rfl q0') ?_
        refine Rk.tr (F1 := (106, 17, _, _)) (x_aload_n rfl rfl rfl) ?_
        refine Rk.tr (F1 := (106, 19, _, _)) (x_aload rfl rfl rfl) ?_
        refine Rk.tr (F1 := (106, 22, _, _)) (x_getf rfl rfl a1.1 rfl) ?_
        refine Rk.tr (F1 := (106, 23, _, _)) (x_iload_n rfl rfl) ?_
        refine Rk.tr (F1 := (106, 26, _, _)) (x_callv (As := [_, _]) rfl rfl rfl (Or.inr rfl) rfl rfl x1 (by decide) rfl (Nat.le_of_ble_eq_true rfl) lv107 rfl) ?_
        refine Rk.tr (F1 := (106, 30, _, _)) (x_goto rfl rfl) ?_
        refine Rk.tr (F1 := (106, 32, [_, _, _, _, _, _, _, _, _], _)) (x_istore (i := 5) rfl (Nat.le_of_ble_eq_true rfl)) ?_
        refine Rk.tr (F1 := (106, 34, _, _)) (x_iload rfl rfl) ?_
        refine Rk.tr (F1 := (106, 39, _, _)) (x_ifT rfl (tg := 39) rfl (show nI 0 ≤ nI L' from nI_le (by omega) (by omega))) ?_
        refine Rk.tr (F1 := (106, 40, _, _)) (x_aload_n rfl rfl rfl) ?_
        refine Rk.tr (F1 := (106, 43, _, _)) (x_getf rfl rfl x1 rfl) ?_
        refine Rk.tr (F1 := (106, 45, _, _)) (x_iload rfl rfl) ?_
        refine Rk.tr (F1 := (106, 46, _, _)) (x_aald (n := L') rfl x2 rfl rfl rfl (by omega) hpaL) ?_
        refine Rk.tr (F1 := (106, 48, _, _)) (x_aload rfl rfl rfl) ?_
        refine Rk.tr (F1 := (106, 51, _, _)) (x_getf rfl rfl a1.1 rfl) ?_
        refine Rk.tr (F1 := (106, 54, _, _)) (x_callv (As := [_]) rfl rfl rfl (Or.inl rfl) rfl rfl rc1 (by decide) rfl (Nat.le_of_ble_eq_true rfl) pl82 rfl) ?_
        refine Rk.tr (F1 := (106, 56, [_, _, _, _, _, _, _, _, _], _)) (x_istore (i := 6) rfl (Nat.le_of_ble_eq_true rfl)) ?_
        refine Rk.tr (F1 := (106, 57, _, _)) (x_aload_n rfl rfl rfl) ?_
        refine Rk.tr (F1 := (106, 60, _, _)) (x_getf rfl rfl x1 rfl) ?_
        refine Rk.tr (F1 := (106, 62, _, _)) (x_iload rfl rfl) ?_
        refine Rk.tr (F1 := (106, 63, _, _)) (x_aald (n := L') rfl x2 rfl rfl rfl (by omega) hpaL) ?_
        refine Rk.tr (F1 := (106, 66, _, _)) (x_getf rfl rfl rc1 rfl) ?_
        refine Rk.tr (F1 := (106, 68, _, _)) (x_iload rfl rfl) ?_
        refine Rk.tr (F1 := (106, 71, _, _)) (x_callv (As := [_]) rfl rfl rfl (Or.inl rfl) rfl rfl lcc (by decide) rfl (Nat.le_of_ble_eq_true rfl) (c_get rc3 ek) rfl) ?_
        refine Rk.tr (F1 := (106, 74, _, _)) (x_cast rfl rfl (by decide) FF1) ?_
        refine Rk.tr (F1 := (106, 76, [_, _, _, _, _, _, _, _, _], _)) (x_astore (i := 7) rfl (Nat.le_of_ble_eq_true rfl)) ?_
        refine Rk.tr (F1 := (106, 78, _, _)) (x_aload rfl rfl rfl) ?_
        refine Rk.tr (F1 := (106, 81, _, _)) (x_getf rfl rfl FF1 rfl) ?_
        refine Rk.tr (F1 := (106, 82, _, _)) (x_iconst rfl) ?_
        refine Rk.tr (F1 := (106, 85, _, _)) (x_icF rfl (tg := 101) rfl (fun z => z hk2)) ?_
        refine Rk.tr (F1 := (106, 86, _, _)) (x_aload_n rfl rfl rfl) ?_
        refine Rk.tr (F1 := (106, 89, _, _)) (x_getf rfl rfl x5 rfl) ?_
        refine Rk.tr (F1 := (106, 91, _, _)) (x_aload rfl rfl rfl) ?_
        refine Rk.tr (F1 := (106, 94, _, _)) (x_getf rfl rfl a1.1 rfl) ?_
        refine Rk.tr (F1 := (106, 97, _, _)) (x_callv (As := [_]) rfl rfl rfl (Or.inl rfl) rfl rfl rt1 (by decide) rfl (Nat.le_of_ble_eq_true rfl) hoc rfl) ?_
        refine Rk.tr (F1 := (106, 98, _, _)) (x_iconst rfl) ?_
        refine Rk.tr (F1 := (106, 103, _, _)) (x_icT rfl (tg := 103) rfl rfl) ?_
        refine Rk.tr (F1 := (106, 104, _, _)) (x_aload_n rfl rfl rfl) ?_
        refine Rk.tr (F1 := (106, 107, _, _)) (x_getf rfl rfl x1 rfl) ?_
        refine Rk.tr (F1 := (106, 109, _, _)) (x_iload rfl rfl) ?_
        refine Rk.tr (F1 := (106, 110, _, _)) (x_aald (n := L') rfl x2 rfl rfl rfl (by omega) hpaL) ?_
        refine Rk.tr (F1 := (106, 112, _, _)) (x_iload rfl rfl) ?_
        refine Rk.tr (F1 := (106, 115, _, _)) (x_callv (As := [_]) rfl rfl rfl (Or.inl rfl) rfl rfl rc1 (by decide) rfl (Nat.le_of_ble_eq_true rfl) k1 rfl) ?_
        refine Rk.tr (F1 := (106, 116, _, _)) (x_aload_n rfl rfl rfl) ?_
        refine Rk.tr (F1 := (106, 119, _, _)) (x_getf rfl rfl u1 rfl) ?_
        refine Rk.tr (F1 := (106, 121, _, _)) (x_iload rfl rfl) ?_
        refine Rk.tr (F1 := (106, 122, _, _)) (x_dup2 rfl rfl rfl) ?_
        refine Rk.tr (F1 := (106, 123, _, _)) (x_iald (n := L') rfl u4 rfl rfl (by omega) hlaL) ?_
        refine Rk.tr (F1 := (106, 124, _, _)) (x_iconst rfl) ?_
        refine Rk.tr (F1 := (106, 125, _, _)) (x_isub rfl) ?_
        refine Rk.tr (F1 := (106, 126, _, _)) (x_iastj (n := L') (h2 := h2) rfl u4 rfl (by omega) (by omega) hh2') ?_
        refine Rk.tr (F1 := (106, 128, _, _)) (x_aload rfl rfl rfl) ?_
        refine Rk.tr (F1 := (106, 131, _, _)) (x_getf rfl rfl F1 rfl) ?_
        refine Rk.tr (F1 := (106, 132, _, _)) (x_iconst rfl) ?_
        refine Rk.tr (F1 := (106, 133, _, _)) (x_aald (n := 0) rfl F7 rfl rfl rfl (by omega) rfl) ?_
        refine Rk.tr (F1 := (106, 135, [_, _, _, _, _, _, _, _, _], _)) (x_astore (i := 8) rfl (Nat.le_of_ble_eq_true rfl)) ?_
        refine Rk.tr (F1 := (106, 137, _, _)) (x_aload rfl rfl rfl) ?_
        refine Rk.tr (F1 := (106, 139, _, _)) (x_aload rfl rfl rfl) ?_
        refine Rk.tr (F1 := (106, 142, _, _)) (x_getf rfl rfl F1 rfl) ?_
        refine Rk.tr (F1 := (106, 143, _, _)) (x_aload_n rfl rfl rfl) ?_
        refine Rk.tr (F1 := (106, 146, _, _)) (x_getf rfl rfl f1 rfl) ?_
        refine Rk.tr (F1 := (106, 147, _, _)) (x_iconst rfl) ?_
        refine Rk.tr (F1 := (106, 148, _, _)) (x_aald (n := 1) rfl f3 rfl rfl rfl (by omega) rfl) ?_
        refine Rk.tr (F1 := (106, 151, _, _)) (x_callv (As := [_, _]) rfl rfl rfl (Or.inl rfl) rfl rfl rb1 (by decide) rfl (Nat.le_of_ble_eq_true rfl) m1 rfl) ?_
        refine Rk.tr (F1 := (106, 152, _, _)) (x_aload_n rfl rfl rfl) ?_
        refine Rk.tr (F1 := (106, 155, _, _)) (x_getf rfl rfl y1 rfl) ?_
        refine Rk.tr (F1 := (106, 156, _, _)) (x_iload_n rfl rfl) ?_
        refine Rk.tr (F1 := (106, 157, _, _)) (x_aald (n := dp) rfl y2 rfl rfl rfl (by omega) hpaD) ?_
        refine Rk.tr (F1 := (106, 158, _, _)) (x_aload_n rfl rfl rfl) ?_
        refine Rk.tr (F1 := (106, 161, _, _)) (x_getf rfl rfl y1 rfl) ?_
        refine Rk.tr (F1 := (106, 162, _, _)) (x_iload_n rfl rfl) ?_
        refine Rk.tr (F1 := (106, 163, _, _)) (x_iald (n := dp) rfl y4 rfl rfl (by omega) hlaD) ?_
        refine Rk.tr (F1 := (106, 165, _, _)) (x_aload rfl rfl rfl) ?_
        refine Rk.tr (F1 := (106, 168, _, _)) (x_callv (As := [_, _]) rfl rfl rfl (Or.inl rfl) rfl rfl ra3 (by decide) rfl (Nat.le_of_ble_eq_true rfl) n1 rfl) ?_
        refine Rk.tr (F1 := (106, 169, _, _)) (x_aload_n rfl rfl rfl) ?_
        refine Rk.tr (F1 := (106, 172, _, _)) (x_getf rfl rfl v5 rfl) ?_
        refine Rk.tr (F1 := (106, 173, _, _)) (x_aload_n rfl rfl rfl) ?_
        refine Rk.tr (F1 := (106, 176, _, _)) (x_getf rfl rfl bx4 rfl) ?_
        refine Rk.tr (F1 := (106, 178, _, _)) (x_aload rfl rfl rfl) ?_
        refine Rk.tr (F1 := (106, 181, _, _)) (x_getf rfl rfl c1 rfl) ?_
        refine Rk.tr (F1 := (106, 184, _, _)) (x_callv (As := [_, _]) rfl rfl rfl (Or.inl rfl) rfl rfl rt4 (by decide) rfl (Nat.le_of_ble_eq_true rfl) o1 rfl) ?_
        refine Rk.tr (F1 := (106, 185, _, _)) (x_aload_n rfl rfl rfl) ?_
        refine Rk.tr (F1 := (106, 188, _, _)) (x_getf rfl rfl t5' rfl) ?_
        refine Rk.tr (F1 := (106, 189, _, _)) (x_iconst rfl) ?_
        refine Rk.tr (F1 := (106, 190, _, _)) (x_dup2 rfl rfl rfl) ?_
        refine Rk.tr (F1 := (106, 191, _, _)) (x_iald (n := 2) rfl t6' rfl rfl (by omega) (iar_at (by omega))) ?_
        refine Rk.tr (F1 := (106, 192, _, _)) (x_iconst rfl) ?_
        refine Rk.tr (F1 := (106, 193, _, _)) (x_iadd rfl) ?_
        refine Rk.tr (F1 := (106, 194, _, _)) (x_iasti (n := 2) rfl t6' rfl (by omega) (by omega)) ?_
        refine Rk.tr (F1 := (106, 195, _, _)) (x_iconst rfl) ?_
        exact Rk.end rfl (Or.inr (Or.inl ⟨rfl, _, .boolean, rfl, rfl, rfl, rfl⟩))
      · rw [← List.map_append, mb_snd, ← List.append_assoc, List.map_append, List.map_append, List.map_append]
        have : (X1.map Prod.snd).Sublist (RF.map Prod.snd) := by
          have q1 : (X1.map Prod.snd).Sublist ((X1 ++ [(e1r, rb)]).map Prod.snd) := by rw [List.map_append]; exact List.sublist_append_left _ _
          rw [← eX1, mb_snd] at q1
          exact q1
        rw [eA] at g5
        simp only [List.map_append, List.map_cons] at g5
        have g5' : ((A1.map Prod.snd ++ A2.map Prod.snd) ++ RF.map Prod.snd ++ B.map Prod.snd).Nodup := by
          refine ((List.Perm.nodup_iff ?_).mp (g5.sublist (List.Sublist.append (List.Sublist.append (List.Sublist.refl _) (List.sublist_cons_self _ _)) (List.sublist_cons_self _ _))))
          refine List.Perm.append ?_ (List.Perm.refl _)
          rw [List.append_assoc]
          exact List.Perm.append (List.Perm.refl _) List.perm_append_comm
        exact g5'.sublist (List.Sublist.append (List.Sublist.append (List.Sublist.refl _) this) (List.Sublist.refl _))
      · rw [mb_AP, mb_AP, ← List.map_append, isb_sum, ← AP_app]; exact ht
      · rw [mb_AP, ev, List.map_append, ← eA1, ← eA2] at *
        rw [AP_app, nu1, nu2]
      · rw [mb_AP, AP_app, ← eX, ev, List.map_append (l₁ := X), nu3.2]
      · show h5.2.1 ≤ _
        rw [o2.2.2.1]
        have : h3'.2.1 = h.2.1 := by rw [m2.2.2.1, sz2, k4]
        omega
      · show h5.2.2 ≤ _
        rw [o2.2.2.1]
        have : h3'.2.2 = h.2.2 := by rw [m2.2.2.1, sz2, k4]
        omega
end M41
