/-! ===== the class: terms become bindings, the frame of it ===== -/
def NewG (h : PH) (G : PG) (h' : PH) (G' : PG) (a : Nat) (Q : List AI) : Prop := (∀ q, q < h.2.1 → q ≠ a → G'.1 q = G.1 q) ∧ (∀ q, q < h.2.1 → G'.2 q = G.2 q) ∧ (∀ x ∈ Q, h.2.1 ≤ x.2 ∧ x.2 < h'.2.1) ∧ (Q.map Prod.snd).Nodup
theorem NewG.nil {h h' : PH} {G : PG} {a : Nat} : NewG h G h' G a [] := ⟨fun _ _ _ => rfl, fun _ _ => rfl, fun x hx => absurd hx List.not_mem_nil, List.nodup_nil⟩
theorem NewG.tr {h h1 h2 : PH} {G G1 G2 : PG} {a : Nat} {Q1 Q2 : List AI} (x : NewG h G h1 G1 a Q1) (y : NewG h1 G1 h2 G2 a Q2) (hs : h.2.1 ≤ h1.2.1) (hs2 : h1.2.1 ≤ h2.2.1) : NewG h G h2 G2 a (Q1 ++ Q2) := by
  obtain ⟨x1, x2, x3, x4⟩ := x
  obtain ⟨y1, y2, y3, y4⟩ := y
  refine ⟨fun q hq hn => (y1 q (by omega) hn).trans (x1 q hq hn), fun q hq => (y2 q (by omega)).trans (x2 q hq), fun z hz => ?_, ?_⟩
  · rcases List.mem_append.mp hz with hz | hz
    · have := x3 z hz; omega
    · have := y3 z hz; omega
  · rw [List.map_append]
    refine List.nodup_append.mpr ⟨x4, y4, fun u hu v hv e => ?_⟩
    obtain ⟨z, hz, rfl⟩ := List.mem_map.mp hu
    obtain ⟨w, hw, rfl⟩ := List.mem_map.mp hv
    have := x3 z hz
    have := y3 w hw
    omega
theorem NewG.walk {h h1 h2 : PH} {G G1 G2 : PG} {a : Nat} {Q1 Q2 : List AI} {s s' : ES} (x : NewG h G h1 G1 a Q1) (y : NewG h1 G1 h2 G2 a Q2) (ha : a < h.2.1) (w : WA G1 s Q1 s') : WA G2 s Q1 s' :=
  WA_frame (fun q hq => ⟨fun _ => y.1 q.2 (x.2.2.1 q hq).2 (by have := x.2.2.1 q hq; omega), fun _ => y.2.1 q.2 (x.2.2.1 q hq).2⟩) w
theorem NewG.later {h h1 h0 : PH} {G G1 : PG} {a : Nat} {Q : List AI} (x : NewG h G h1 G1 a Q) (hs : h0.2.1 ≤ h.2.1) : NewG h0 G h1 G1 a Q := ⟨fun q hq hn => x.1 q (by omega) hn, fun q hq => x.2.1 q (by omega), fun z hz => by have := x.2.2.1 z hz; omega, x.2.2.2⟩
/-- what a term makes -/
def AtE (E : PE) (kz : Nat) (cs : Nat → Int32) (len : Int32) (M : Mn) (run : Nat → PH → Prop) (h : PH) (O : Nat → Nat × Nat) (G : PG) (a : Nat) (bs : List Nat) (r : Int32 × Int32) (fr : Bool) (R dr p : Nat) (c : Cv) : Prop :=
  ∃ (h' : PH) (O' : Nat → Nat × Nat) (G' : PG) (xa : Nat) (Q : List AI) (bs' : List Nat), run xa h' ∧ GH E h' O' G' ∧ KvH h' O' kz cs len c.2.2.1 M (fr || c.2.2.2.2.2) c.2.2.2.1 (max dr (R + c.2.2.2.2.1)) ∧ AtH h' xa c.2.1 ∧ G'.1 a = some (bs ++ bs', r) ∧ AP Q = c.1 ∧ (∀ (b : Nat) (p0 : List Nat) (s0 : ES), WA G' ((b, p0) :: s0) Q ((b, p0 ++ bs') :: s0)) ∧ bs'.length ≤ c.2.2.1 - p ∧ NewG h G h' G' a Q ∧ ChP kz (kz + 2) (kz + 2) O h O' h' ∧ h'.2.1 ≤ h.2.1 + 12 * (c.2.2.1 - p) ∧ h'.2.2 ≤ h.2.2 + 300 * (c.2.2.1 - p)
/-- what a row makes -/
def RwE (E : PE) (kz : Nat) (cs : Nat → Int32) (len : Int32) (M : Mn) (run : Nat → PH → Prop) (h : PH) (O : Nat → Nat × Nat) (G : PG) (fr : Bool) (R dr p : Nat) (c : Cv) : Prop :=
  ∃ (h' : PH) (O' : Nat → Nat × Nat) (G' : PG) (a : Nat) (Q : List AI), run a h' ∧ GH E h' O' G' ∧ KvH h' O' kz cs len c.2.2.1 M (fr || c.2.2.2.2.2) c.2.2.2.1 (max dr (R + c.2.2.2.2.1)) ∧ WA G' [(a, [])] Q [] ∧ AP Q = c.1 ++ [iRes c.2.1] ∧ h.2.1 ≤ a ∧ NewG h G h' G' a Q ∧ ChP kz (kz + 2) (kz + 2) O h O' h' ∧ h'.2.1 ≤ h.2.1 + 3 + 12 * (c.2.2.1 - p) ∧ h'.2.2 ≤ h.2.2 + 7 + 300 * (c.2.2.1 - p)
def AtHy (E : PE) (h : PH) (O : Nat → Nat × Nat) (G : PG) (kz : Nat) (cs : Nat → Int32) (n : Nat) (len : Int32) (a : Nat) (bs : List Nat) (r : Int32 × Int32) (p p' k : Nat) (M : Mn) (fr : Bool) (R dr D f : Nat) : Prop := sy cs n f p = some p' ∧ GH E h O G ∧ KvH h O kz cs len p M fr k dr ∧ G.1 a = some (bs, r) ∧ bs.length ≤ p ∧ 2 * D + (p' - p) ≤ 60 ∧ R ≤ D ∧ R ≤ dr ∧ dr ≤ 60 ∧ n ≤ 60
def AtP (E : PE) (kz : Nat) (cs : Nat → Int32) (n f : Nat) : Prop := ∀ (d : Nat) (h : PH) (O : Nat → Nat × Nat) (G : PG) (len : Int32) (a : Nat) (bs : List Nat) (r : Int32 × Int32) (p p' k : Nat) (M : Mn) (fr : Bool) (R dr D : Nat), AtHy E h O G kz cs n len a bs r p p' k M fr R dr D f → AtE E kz cs len M (fun xa h' => Rn E (d + 3 * f + 10) 91 [.ref kz, .ref a, .int (nI R), .int (nI D)] h (some (.ref xa)) h') h O G a bs r fr R dr p (cv cs f M p k)
theorem mkR_old {h : PH} {s q : Nat} {c : PC} (hw : Wf h) (hq : h.1 q = some c) : (mkR h s).1 q = some c := by
  have := hw q c hq
  show (if q = h.2.1 then _ else if q = h.2.1 + 1 then _ else if q = h.2.1 + 2 then _ else h.1 q) = _
  rw [if_neg (by omega), if_neg (by omega), if_neg (by omega)]; exact hq
theorem mkR_wf {h : PH} {s : Nat} (hw : Wf h) : Wf (mkR h s) := fun q c hq => by
  show q < h.2.1 + 3
  by_cases e0 : q = h.2.1
  · omega
  · by_cases e1 : q = h.2.1 + 1
    · omega
    · by_cases e2 : q = h.2.1 + 2
      · omega
      · have hq' : h.1 q = some c := by
          have : (mkR h s).1 q = h.1 q := by
            show (if q = h.2.1 then _ else if q = h.2.1 + 1 then _ else if q = h.2.1 + 2 then _ else h.1 q) = _
            rw [if_neg e0, if_neg e1, if_neg e2]
          rw [← this]; exact hq
        have := hw q c hq'
        omega
section M55
variable {E : PE} {d : Nat} {h : PH} {O : Nat → Nat × Nat} {G : PG} {kz k dr : Nat} {cs : Nat → Int32} {len : Int32} {M : Mn} {fr : Bool}
theorem mkR_G (hG : GH E h O G) : GH E (mkR h (E.2.1 2)) (fun q => if q = h.2.1 + 1 then (h.2.1, 0) else O q) (gR G h.2.1 ([], (0, 0))) ∧ Ch O h (fun q => if q = h.2.1 + 1 then (h.2.1, 0) else O q) (mkR h (E.2.1 2)) := by
  have hw := hG.1
  have hO : ∀ q, q < h.2.1 → (fun q => if q = h.2.1 + 1 then (h.2.1, 0) else O q) q = O q := fun q hq => if_neg (by omega)
  have g0 := hG.mono (mkR_wf (s := E.2.1 2) hw) hO (fun q t fs hq _ => mkR_old hw hq)
  have e0 : (mkR h (E.2.1 2)).1 h.2.1 = some (7, [.ref (h.2.1 + 1), .ref (h.2.1 + 2)]) := if_pos rfl
  have e1 : (mkR h (E.2.1 2)).1 (h.2.1 + 1) = some (0, [.int 0, .ref (E.2.1 2), .int 0]) := by
    show (if h.2.1 + 1 = h.2.1 then _ else if h.2.1 + 1 = h.2.1 + 1 then _ else _) = _
    rw [if_neg (by omega), if_pos rfl]
  have e2 : (mkR h (E.2.1 2)).1 (h.2.1 + 2) = some (1, [.int 0, .int 0]) := by
    show (if h.2.1 + 2 = h.2.1 then _ else if h.2.1 + 2 = h.2.1 + 1 then _ else if h.2.1 + 2 = h.2.1 + 2 then _ else _) = _
    rw [if_neg (by omega), if_neg (by omega), if_pos rfl]
  refine ⟨g0.addR ⟨h.2.1 + 1, E.2.1 2, 0, h.2.1 + 2, e0, ⟨e2, Or.inl rfl⟩, ⟨⟨0, e1⟩, Or.inl ⟨rfl, rfl, rfl, mkR_old hw hG.2.1⟩, by omega⟩, if_pos rfl, Or.inl rfl, fun b hb => absurd hb List.not_mem_nil⟩, hO, by show h.2.1 ≤ h.2.1 + 3; omega, Nat.le_add_right _ _, fun q t fs hq _ _ _ _ => mkR_old hw hq⟩
/-- rowOfNextTerm -/
theorem c_rowT {n f p p' R D : Nat} (IH : AtP E kz cs n f) (hsy : sy cs n f p = some p') (hG : GH E h O G) (x : KvH h O kz cs len p M fr k dr) (hD : 2 * D + (p' - p) ≤ 60) (hR : R ≤ D) (hdr : dr ≤ 60) (hn : n ≤ 60) :
    RwE E kz cs len M (fun a h' => Rn E (d + 3 * f + 11) 90 [.ref kz, .int (nI R), .int (nI D)] h (some (.ref a)) h') h O G fr R dr p (cv cs f M p k) := by
  have hw := hG.1
  obtain ⟨x1, G1, c1⟩ := KvH.put (len' := len) (at' := p) (fr' := fr) (k' := k) (dr' := max dr R) hG x
  have sz1 : (pset h kz (3, kcl kz len p fr k (max dr R))).2 = h.2 := rfl
  generalize hh1 : pset h kz (3, kcl kz len p fr k (max dr R)) = h1 at x1 G1 c1 sz1
  obtain ⟨G2, c2⟩ := mkR_G G1
  have x2 := x1.ch G1.1 c2
  have sy2 := cv_nums f M p k p' hsy
  have gt := sy2.2.1
  obtain ⟨h3, O3, G3, xa, Q, bs', a1, a2, a3, a4, a5, a6, a7, a8, a9, a10, a11, a12⟩ := IH d (mkR h1 (E.2.1 2)) _ _ len h1.2.1 [] (0, 0) p p' k M fr R (max dr R) D ⟨hsy, G2, x2, gR_at, Nat.zero_le _, hD, hR, Nat.le_max_right _ _, by omega, hn⟩
  rw [List.nil_append] at a5
  obtain ⟨l, e, cap, x9, q1, q2, q3, q4, q5, q6⟩ := a2.2.2.1 h1.2.1 bs' _ a5
  have G4 := a2.res a5 q1 a4
  have c4 : Ch O3 h3 O3 (pset h3 h1.2.1 (7, [.ref l, .ref xa])) := ⟨fun _ _ => rfl, Nat.le_refl _, Nat.le_refl _, Fr.set q1 (Or.inl rfl)⟩
  have x4 := a3.ch a2.1 c4
  have n1 : h1.2.1 = h.2.1 := by rw [sz1]
  have n2 : h1.2.2 = h.2.2 := by rw [sz1]
  have n3 : (mkR h1 (E.2.1 2)).2.1 = h1.2.1 + 3 := rfl
  have n4 : (mkR h1 (E.2.1 2)).2.2 = h1.2.2 + 7 := rfl
  have emax : max (max dr R) (R + (cv cs f M p k).2.2.2.2.1) = max dr (R + (cv cs f M p k).2.2.2.2.1) := by omega
  rw [emax] at x4
  have wq : WA (gR G3 h1.2.1 (bs', (cv cs f M p k).2.1)) [(h1.2.1, [])] Q [(h1.2.1, bs')] := by
    have := a7 h1.2.1 [] []
    rw [List.nil_append] at this
    exact WA_frame (fun q hq => ⟨fun _ => gR_ne (by have := a9.2.2.1 q hq; omega), fun _ => rfl⟩) this
  refine ⟨_, O3, _, h1.2.1, Q ++ [(iRes (cv cs f M p k).2.1, h1.2.1)], Rn.of (Nat.le_of_ble_eq_true rfl) ?_, G4, x4, WA_app.mpr ⟨_, wq, Or.inl ⟨rfl, rfl, gR_at, rfl⟩⟩, by rw [AP_app, a6]; rfl, by omega, ⟨fun q hq hne => ?_, fun q hq => ?_, fun z hz => ?_, ?_⟩, ((c1.tr hw c2.p).tr hw a10).tr hw c4.p, ?_, ?_⟩
  · have zx := x.1
    have rr := c_row0 (E := E) (d := d + 3 * f + 7) (h := h1)
    have kx := x2.1
    subst hh1
    refine Rk.tr (F1 := (90, 1, _, _)) (x_aload_n rfl rfl rfl) ?_
    refine Rk.tr (F1 := (90, 2, _, _)) (x_aload_n rfl rfl rfl) ?_
    refine Rk.tr (F1 := (90, 5, _, _)) (x_getf rfl rfl zx rfl) ?_
    refine Rk.tr (F1 := (90, 6, _, _)) (x_iload_n rfl rfl) ?_
    refine Rk.tr (F1 := (90, 9, _, _)) (x_max rfl rfl (Nat.le_of_ble_eq_true rfl)) ?_
    refine Rk.tr (F1 := (90, 9, _, _)) (x_top (nI_max (m := dr) (n := R) (by omega) (by omega))) ?_
    refine Rk.tr (F1 := (90, 12, _, _)) (x_putf rfl rfl zx rfl rfl rfl) ?_
    refine Rk.tr (F1 := (90, 15, _, _)) (x_new rfl rfl (by decide)) ?_
    refine Rk.tr (F1 := (90, 16, _, _)) (x_dup rfl rfl) ?_
    refine Rk.tr (F1 := (90, 19, _, _)) (x_calli (As := []) rfl rfl rfl rfl rfl rfl (Nat.le_of_ble_eq_true rfl) rr rfl) ?_
    refine Rk.tr (F1 := (90, 20, [_, _, _, _], _)) (x_astore_n (i := 3) rfl (Nat.le_of_ble_eq_true rfl)) ?_
    refine Rk.tr (F1 := (90, 21, _, _)) (x_aload_n rfl rfl rfl) ?_
    refine Rk.tr (F1 := (90, 22, _, _)) (x_aload_n rfl rfl rfl) ?_
    refine Rk.tr (F1 := (90, 23, _, _)) (x_aload_n rfl rfl rfl) ?_
    refine Rk.tr (F1 := (90, 24, _, _)) (x_iload_n rfl rfl) ?_
    refine Rk.tr (F1 := (90, 25, _, _)) (x_iload_n rfl rfl) ?_
    refine Rk.tr (F1 := (90, 28, _, _)) (x_callv (As := [_, _, _]) rfl rfl rfl (Or.inr rfl) rfl rfl kx (by decide) rfl (Nat.le_of_ble_eq_true rfl) a1 rfl) ?_
    refine Rk.tr (F1 := (90, 31, _, _)) (x_putf rfl rfl q1 rfl rfl rfl) ?_
    refine Rk.tr (F1 := (90, 32, _, _)) (x_aload_n rfl rfl rfl) ?_
    exact Rk.end rfl (Or.inr (Or.inr (Or.inr ⟨rfl, _, _, rfl, Or.inl ⟨_, rfl⟩, Or.inr ⟨_, rfl⟩, rfl, rfl⟩)))
  · rw [gR_ne hne, a9.1 q (by omega) hne, gR_ne hne]
  · show G3.2 q = G.2 q
    rw [a9.2.1 q (by omega)]
    rfl
  · rcases List.mem_append.mp hz with hz | hz
    · have := a9.2.2.1 z hz
      show h.2.1 ≤ z.2 ∧ z.2 < h3.2.1
      omega
    · rw [List.mem_singleton.mp hz]
      have := a10.2.1
      show h.2.1 ≤ h1.2.1 ∧ h1.2.1 < h3.2.1
      omega
  · rw [List.map_append]
    refine List.nodup_append.mpr ⟨a9.2.2.2, by simp, fun u hu v hv e => ?_⟩
    obtain ⟨z, hz, rfl⟩ := List.mem_map.mp hu
    have := a9.2.2.1 z hz
    have hv' : v = h1.2.1 := by simpa using hv
    omega
  · show h3.2.1 ≤ _
    omega
  · show h3.2.2 ≤ _
    omega
end M55
