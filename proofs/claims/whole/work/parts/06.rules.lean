/-! ===== the links' words, as the rules use them ===== -/
theorem pfind {α : Type} {l : List α} {f : α → Bool} {q : α} (h : l.find? f = some q) : q ∈ l ∧ f q = true := ⟨List.mem_of_find?_eq_some h, List.find?_some h⟩
theorem pcls_at {t : Nat} (h : t < 11) : vwCl[t]? = some (pcls t) := by
  unfold pcls
  rw [List.getD_eq_getElem?_getD]
  cases e : vwCl[t]? with
  | some r => rfl
  | none =>
    have := List.getElem?_eq_none_iff.mp e
    have h2 : vwCl.length = 11 := rfl
    omega
theorem pN_at {t : Nat} (h : t < 11) : pN t = (pcls t).2.2 := by
  unfold pN
  rw [pcls_at h]
theorem pfl_ok {o j t k : Nat} (h : pfl o j = some (t, k)) : t < 11 ∧ k < (pcls t).2.2 ∧ ∃ ref, Jvm.Cond.fieldLink (cnm.getD o "") j ref (pfd t k).2.1 (pfd t k).2.2.1 ∈ gtbl ∧ (ref = (pfd t k).1 ∨ Jvm.Cond.sameField ref (pfd t k).1 (pfd t k).2.1 (pfd t k).2.2.1 ∈ gtbl) := by
  unfold pfl at h
  cases hf : flk.find? (fun q => q.1 == o && q.2.1 == j) with
  | none => rw [hf] at h; cases h
  | some q =>
    rw [hf] at h
    obtain ⟨h1, h2⟩ := pfind hf
    have h3 := List.all_eq_true.mp flk_ok q h1
    obtain ⟨q1, q2, q3, q4, q5, q6⟩ := q
    cases h
    simp only [Bool.and_eq_true, beq_iff_eq] at h2
    obtain ⟨rfl, rfl⟩ := h2
    simp only [flkc, Bool.and_eq_true, decide_eq_true_eq, Bool.or_eq_true] at h3
    obtain ⟨⟨⟨g1, g2⟩, g3⟩, g4⟩ := h3
    refine ⟨g1, g2, _, gt_tab _ g3 rfl, ?_⟩
    rcases g4 with g4 | ⟨g4, g5⟩
    · left
      unfold pref
      rw [if_neg (by omega)]
    · by_cases e1 : q6 = 1
      · right
        subst e1
        rw [g5]
        exact gt_tab _ same_ok rfl
      · left
        unfold pref
        rw [if_neg e1]
theorem pws {t : Nat} (h : t < 11) : ∀ w ∈ u_ws (pcls t).1 (pcls t).2.1 (pcls t).2.2, w ∈ gtbl := by
  intro w hw
  obtain ⟨k, hk, rfl⟩ := List.mem_map.mp hw
  have h1 := List.all_eq_true.mp (List.all_eq_true.mp ulk_ok t (List.mem_range.mpr h)) k hk
  refine gt_tab _ (of_decide_eq_true h1) ?_
  unfold u_lay
  split <;> rfl
def pty (t : Nat) : Nat → FieldType := match t with
  | 0 => tyJx4a65c
  | 1 => tyX0
  | 2 => tyX1
  | 3 => tyX2
  | 4 => tyX3
  | 5 => tyX4
  | 6 => tyX5
  | 7 => tyX6
  | 8 => tyX7
  | 9 => tyX8
  | _ => tyX9
theorem pty_ok {t : Nat} (h : t < 11) : ∀ k, k < (pcls t).2.2 → parseFieldDescriptor ((pcls t).2.1 k).2.2.1 = some (pty t k) := by
  match t, h with
  | 0, _ => exact tyJx4a65c_ok
  | 1, _ => exact tyX0_ok
  | 2, _ => exact tyX1_ok
  | 3, _ => exact tyX2_ok
  | 4, _ => exact tyX3_ok
  | 5, _ => exact tyX4_ok
  | 6, _ => exact tyX5_ok
  | 7, _ => exact tyX6_ok
  | 8, _ => exact tyX7_ok
  | 9, _ => exact tyX8_ok
  | 10, _ => exact tyX9_ok
  | n + 11, h => exact absurd h (by omega)
theorem pnm_ok {t : Nat} (h : t < 11) : ∀ a, a < (pcls t).2.2 → ∀ b, b < (pcls t).2.2 → a ≠ b → ((pcls t).2.1 a).2.1 ≠ ((pcls t).2.1 b).2.1 := by
  match t, h with
  | 0, _ => exact nmJx4a65c
  | 1, _ => exact nmX0
  | 2, _ => exact nmX1
  | 3, _ => exact nmX2
  | 4, _ => exact nmX3
  | 5, _ => exact nmX4
  | 6, _ => exact nmX5
  | 7, _ => exact nmX6
  | 8, _ => exact nmX7
  | 9, _ => exact nmX8
  | 10, _ => exact nmX9
  | n + 11, h => exact absurd h (by omega)
theorem pcel.ob {D : PD} {a t : Nat} {fs : List Value} {H : Heap} (h : pcel D a t fs H) (ht : t < 11) : va_P D.1 vwCl [(a, .inr (t, fs))] H := by
  intro k q hk
  have hz : k < 1 := (List.getElem?_eq_some_iff.mp hk).1
  rw [show k = 0 by omega] at hk
  cases hk
  obtain ⟨cell, h1, h2⟩ := h
  rcases h2 with ⟨-, g1, g2, g3, g4⟩ | ⟨g, -⟩
  · refine ⟨_, pcls_at ht, cell, h1, g1, g2, fun k hk => ?_⟩
    rw [← pN_at ht] at hk
    rw [g4 k hk]
    unfold vp_V
    rw [List.getD_eq_getElem?_getD, List.getElem?_eq_getElem (by omega)]
    rfl
  · omega
theorem psame {args : Array Value} {s : State} {ref : String} {f : String × String × String × Bool} (hts : ∀ w ∈ gtbl, w.before args s = true) (h : ref = f.1 ∨ Jvm.Cond.sameField ref f.1 f.2.1 f.2.2.1 ∈ gtbl) : ∀ x, s.fieldFound? f.1 f.2.1 f.2.2.1 = some x → s.fieldFound? ref f.2.1 f.2.2.1 = some x := by
  intro x hx
  rcases h with rfl | h
  · exact hx
  · exact u_same (hts _ h) x hx
def pset (h : PH) (a : Nat) (c : PC) : PH := (fun q => if q = a then some c else h.1 q, h.2)
def pnew (h : PH) (c : PC) : PH := (fun q => if q = h.2.1 then some c else h.1 q, h.2.1 + 1, h.2.2 + c.2.length)
theorem PFit.S {E : PE} {D : PD} {p : Program} {R : Room} {s : State} {m : MethodId} {args : Array Value} {meth : Method} {c : Code} {mi d : Nat} (h : PFit E D p R s m args meth c mi d) {H : Heap} {locs : List Loc} (hS : va_S (fun q => E.1 ≤ q) s.heap H locs) : E.1 ≤ H.size := Nat.le_trans h.2.2.2.2.2.2.2.2.2 hS.1
/-- a step that writes: the heap's size stays -/
theorem Ex.put {E : PE} {d mi pc pc' : Nat} {L : PL} {st st' : List Value} {h h' : PH} (hn : h'.2 = h.2)
    (k : ∀ (D : PD) (p : Program) (l : Launch) (e : Env) (R : Room) (s : State) (m : MethodId) (args : Array Value) (below : List Frame) (meth : Method) (c : Code) (Q : State → Prop) (H : Heap) (locs : List Loc) (cells slots : Nat) (ls : Array Slot),
      PFit E D p R s m args meth c mi d → lrel ls L → prep E D h H → va_S (fun q => E.1 ≤ q) s.heap H locs →
      (∀ (H' : Heap) (locs' : List Loc), prep E D h' H' → va_S (fun q => E.1 ≤ q) s.heap H' locs' → W p l e R s m args below meth c H' locs' cells slots Q (F0 m pc' ls st')) → W p l e R s m args below meth c H locs cells slots Q (F0 m pc ls st)) :
    Ex E d (mi, pc, L, st) h (mi, pc', L, st') h' :=
  ⟨rfl, rfl, by rw [hn]; exact Nat.le_refl _, by rw [hn]; exact Nat.le_refl _, fun D p l e R s m args below meth c Q en es H locs ls hF _ _ _ _ hP hS _ hl kk =>
    k D p l e R s m args below meth c Q H locs _ _ ls hF hl hP hS (fun H' locs' hP' hS' => by
      have := kk H' locs' ls hP' hS' hl
      rw [hn] at this
      exact this)⟩
theorem prep.setO {E : PE} {D : PD} {h : PH} {H H' : Heap} {a t : Nat} {fs fs' : List Value} (hP : prep E D h H) (ha : h.1 a = some (t, fs)) (hz : H'.size = H.size) (ho : ∀ q, q ≠ a → H'[q]? = H[q]?) (hc : pcel D a t fs' H') : prep E D (pset h a (t, fs')) H' := by
  refine ⟨hz.trans hP.1, fun b u gs hb => ?_⟩
  by_cases e : b = a
  · subst e
    have hb' : (if b = b then some (t, fs') else h.1 b) = some (u, gs) := hb
    rw [if_pos rfl] at hb'
    cases hb'
    exact ⟨hc, (hP.2 b t fs ha).2⟩
  · have hb' : (if b = a then some (t, fs') else h.1 b) = some (u, gs) := hb
    rw [if_neg e] at hb'
    obtain ⟨⟨cell, g1, g2⟩, g3⟩ := hP.2 b u gs hb'
    exact ⟨⟨cell, by rw [ho b e]; exact g1, g2⟩, g3⟩
/-- a final field is written by its class's constructor -/
def pfok (mi t k : Nat) : Bool := !(pfd t k).2.2.2 || (decide ((mnam mi).name = "<init>") && decide ((pfd t k).1 = mown mi))
section XF
variable {E : PE} {d mi pc : Nat} {L : PL} {st : List Value} {h : PH}
theorem x_getf {j t k a : Nat} {fs : List Value} {v : Value} (hi : pin mi pc = some (.getfield j, 3)) (hl : pfl (mno mi) j = some (t, k)) (ha : h.1 a = some (t, fs)) (hv : fs[k]? = some v) : Ex E d (mi, pc, L, .ref a :: st) h (mi, pc + 3, L, v :: st) h :=
  Ex.go (fun D p l e R s m args below meth c Q H locs cells slots ls hF _ hP hS kk => by
    obtain ⟨ht, hk, ref, hw, hsm⟩ := pfl_ok hl
    have hP1 := (hP.2 a t fs ha).1.ob ht
    have hts := hF.2.2.2.2.1
    exact va_get (D := D.1) (own := mown mi) (ci := t) (C := (pcls t).1) (T := (pcls t).2.1) (N := (pcls t).2.2) (ref := ref) (tys := []) hF.1 hF.2.1 hts (pws ht) hF.2.2.2.1 hF.2.2.2.2.2.2.2.2.1.1 hP1 0 rfl (pcls_at ht) k hk (hts _ hw) (psame hts hsm) hv (pin_dec hi) kk)
theorem x_putf {j t k a : Nat} {fs : List Value} {v : Value} (hi : pin mi pc = some (.putfield j, 3)) (hl : pfl (mno mi) j = some (t, k)) (ha : h.1 a = some (t, fs)) (hn : narrow (pty t k) v = v) (hf : fits (pty t k) v = true) (hok : pfok mi t k = true) :
    Ex E d (mi, pc, L, v :: .ref a :: st) h (mi, pc + 3, L, st) (pset h a (t, fs.set k v)) :=
  Ex.put rfl (fun D p l e R s m args below meth c Q H locs cells slots ls hF _ hP hS kk => by
    obtain ⟨ht, hk, ref, hw, hsm⟩ := pfl_ok hl
    have hts := hF.2.2.2.2.1
    have hK := hF.2.2.2.2.2.2.2.2.1.1
    have hown : s.vm.findClass (mown mi) = some m.cls := hF.2.2.2.1
    have hin := pws ht
    have hc := pcls_at ht
    have hap := va_apart (own := mown mi) hts hin (pty t) (pty_ok ht) (pnm_ok ht) hK hc
    obtain ⟨⟨cell, q1, q2⟩, qE⟩ := hP.2 a t fs ha
    rcases q2 with ⟨-, g1, g2, g3, g4⟩ | ⟨g, -⟩
    · obtain ⟨hS2, hfc, kC, hkC, hkind⟩ := hK.1 t _ hc
      obtain ⟨cf, kf, fi, f, hi2, hsl⟩ := hS2 k hk
      have hst := (u_facts hfc hkC (u_lays hts hin hk) hi2).1
      have hd := pty_ok ht k hk
      have hk9 : k < pN t := by rw [pN_at ht]; exact hk
      have hlt : f.slot < cell.slots.size := by
        rw [hsl]
        have := g4 k hk9
        rw [List.getElem?_eq_getElem (by omega)] at this
        exact k2_hasslot this
      have fin : ∀ H' : Heap, H'[a]? = some (cell.setSlot f.slot v) → H'.size = H.size → (∀ q, q ≠ a → H'[q]? = H[q]?) → W p l e R s m args below meth c H' (locs ++ [⟨a, f.slot⟩]) cells slots Q (F0 m (pc + 3) ls st) := by
        intro H' e1 e2 e3
        refine kk H' _ (hP.setO ha e2 e3 ⟨_, e1, Or.inl ⟨by omega, g1, g2, by rw [List.length_set]; exact g3, fun z hz => ?_⟩⟩) (hS.put e2 e3 (qE (by omega)))
        have hz9 : z < (pcls t).2.2 := by rw [← pN_at ht]; exact hz
        by_cases ez : z = k
        · subst ez
          rw [List.getElem?_set_self (by omega), ← hsl]
          show (cell.slots.setIfInBounds f.slot v)[f.slot]? = some v
          rw [Array.getElem?_setIfInBounds_self_of_lt hlt]
        · rw [List.getElem?_set_ne (Ne.symm ez), ← g4 z hz]
          show (cell.slots.setIfInBounds f.slot v)[D.1.2 t z]? = _
          rw [hsl, Array.getElem?_setIfInBounds_ne (hap k z hk hz9 (Ne.symm ez))]
      by_cases hfin : (pfd t k).2.2.2 = true
      · have hlay := hts _ (hin _ (u_in_lay hk))
        unfold u_lay at hlay
        rw [if_pos (show ((pcls t).2.1 k).2.2.2 = true from hfin)] at hlay
        unfold pfok at hok
        rw [hfin] at hok
        simp only [Bool.not_true, Bool.false_or, Bool.and_eq_true, decide_eq_true_eq] at hok
        have hcf : m.cls = cf := by
          obtain ⟨_, _, c', _, _, _, -, -, hf', -, -, -, hown2, -⟩ := Cond.laysFinal_spec hlay
          have e1 : c' = cf := by have := hi2.symm.trans hf'; simp at this; exact this.1.symm
          rw [show ((pcls t).2.1 k).1 = mown mi from hok.2] at hown2
          rw [← e1]; exact Option.some.inj (hown.symm.trans hown2)
        have h6 := u_fits hfc hkC hkind (Or.inr hlay) hi2 hd hn hf
        exact W.putFinK hF.1 hF.2.1 hown (hts _ hw) (psame hts hsm _ hi2) hst hcf (hF.2.2.2.2.2.1.trans hok.1) (by rw [g1]; exact h6) q1 g2 hlt rfl rfl (pin_dec hi) fin
      · have hlay := hts _ (hin _ (u_in_lay hk))
        unfold u_lay at hlay
        rw [if_neg (show ¬ ((pcls t).2.1 k).2.2.2 = true from hfin)] at hlay
        have h6 := u_store hfc hkC hkind hlay hi2 hd hn hf
        exact W.putK hF.1 hF.2.1 (f := f) ⟨hown, hts _ hw, ⟨_, _, _, psame hts hsm _ hi2⟩, hst⟩ (by rw [g1]; exact h6) q1 g2 hlt rfl rfl (pin_dec hi) fin
    · omega)
end XF
