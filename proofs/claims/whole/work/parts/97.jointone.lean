/-! ===== one call on both sides ===== -/
def Jt (E : PE) (h0 : PH) (x wi ri : Nat) (ps : List Value) (h h2 : PH) : Prop := ∃ (k b : Int32) (h1 : PH) (v : Int64), Wn E 199 wi (.ref x :: (ps ++ [.ref (x + 41)])) h k h1 ∧ Rn E 199 ri (.ref (x + 15) :: ps) h1 (some (.int b)) h2 ∧ Rn E 199 1 [.ref (x + 15)] h2 (some (.int k)) h2 ∧ h2.1 (x + 41) = some (101, [.long v]) ∧ (k = 0 → v = b.toInt64) ∧ (∃ fs, h1.1 (x + 15) = some (10, fs)) ∧ (∃ fs, h2.1 (x + 15) = some (10, fs)) ∧ ∀ q t fs, h0.1 q = some (t, fs) → 107 ≤ t → h1.1 q = some (t, fs)
theorem mh_oo {h : PH} {o : Nat} {S : MSt} (hm : h = mh h o S) : ∃ fs, h.1 o = some (10, fs) := ⟨_, (congrArg (fun g : PH => g.1 o) hm).trans (if_pos rfl)⟩
def lW : Option PW → Nat
  | none => 0
  | some w => (AP w.1).length
/-- what the law keeps from call to call, within A cells and B slots -/
def JI (E : PE) (h0 h : PH) (x A B : Nat) : Prop := ∃ (O : Nat → Nat × Nat) (G : PG) (S : MSt) (n : Nat) (cs : Nat → Int32) (W : Option PW) (rn : Nat → Int32), Jn E h O G x S n cs W rn ∧ h.2.1 + 53 * lW W + 74 * n ≤ A ∧ h.2.2 + 5930 * lW W + 7219 * n ≤ B ∧ ∀ q t fs, h0.1 q = some (t, fs) → 107 ≤ t → h.1 q = some (t, fs)
section M97
variable {E : PE} {h h' h0 h1 : PH} {O : Nat → Nat × Nat} {G : PG} {x n : Nat} {cs rn : Nat → Int32} {W : Option PW} {S S' : MSt}
theorem ClH.out {v : Int64} {c : PC} (hC : ClH E h O G x n cs W rn) (hv : h.1 (x + 41) = some (101, [.long v])) : ClH E (pset h (x + 41) c) O G x n cs W rn := by
  obtain ⟨c1, c2, c3, c4, c5, c6, c7, c8, c9⟩ := hC
  have same : ∀ q t fs, h.1 q = some (t, fs) → q ≠ x + 41 → (pset h (x + 41) c).1 q = some (t, fs) := fun q t fs hq hr => (pset_ne hr).trans hq
  refine ⟨c1.setn hv (by unfold gcl; omega), c2.keep (fun q t fs ht hq => same q t fs hq (fun e => by rw [e, hv] at hq; cases hq; omega)), c3, same _ _ _ c4 (by omega), c5.keep (fun q t fs hq h1 => same _ _ _ h1 (by omega)) rfl, c6.keep (fun q t fs hq h1 => same _ _ _ h1 (by omega)) rfl, c7.keep (fun q t fs hq h1 => same _ _ _ h1 (by omega)), c8.keep (fun q t fs h1 h2 h3 => same _ _ _ h3 (by omega)), fun w hw => ?_⟩
  obtain ⟨p1, p2, p3, p4, p5⟩ := c9 w hw
  exact ⟨same _ _ _ p1 (by omega), same _ _ _ p2 (by omega), p3, p4, p5⟩
theorem mh_out {v : Int64} (hm : h = mh h (x + 15) S) : pset h (x + 41) (101, [.long v]) = mh (pset h (x + 41) (101, [.long v])) (x + 15) S :=
  mh_of (g := h) (fun q t fs h1 h2 hq => by rw [← hm] at hq; rw [pset_ne (by omega)]; exact hq)
theorem mh_thr (hm : h = mh h (x + 15) S) : hthr h = mh (hthr h) (x + 15) S :=
  mh_of (g := h) (fun q t fs h1 h2 hq => by rw [← hm] at hq; exact hq)
/-- other counts that are alike in the first four -/
theorem ClH.cnt {w : PW} {c : Nat → Int32} (hC : ClH E h O G x n cs (some w) rn) (hc : ∀ j, j < 4 → w.2.2.2.2.2 j = c j) : ClH E h O G x n cs (some (w.1, w.2.1, w.2.2.1, w.2.2.2.1, w.2.2.2.2.1, c)) rn := by
  obtain ⟨c1, c2, c3, c4, c5, c6, c7, c8, c9⟩ := hC
  refine ⟨c1, c2, c3, c4, c5, c6, c7, c8, fun w' hw' => ?_⟩
  cases hw'
  obtain ⟨p1, p2, p3⟩ := c9 w rfl
  refine ⟨p1, ?_, p3⟩
  rw [p2]
  show some (100, iar 4 w.2.2.2.2.2) = some (100, iar 4 c)
  unfold iar
  simp only [List.range_succ, List.range_zero, List.nil_append, List.map_append, List.map_cons, List.map_nil, hc 0 (by omega), hc 1 (by omega), hc 2 (by omega), hc 3 (by omega)]
theorem RfR.of {n' : Nat} {rn' : Nat → Int32} (hR : RfR S n cs W rn) (h1 : S'.1 1 = nI n') (h2 : S'.2 2 = S.2 2) (h42 : ∀ j, j < 4 → S'.2 42 j = rn' j) (h3 : S'.1 3 = S.1 3) (h4 : S'.1 4 = S.1 4) (h5 : S'.2 5 = S.2 5) (h7 : S'.2 7 = S.2 7) (h8 : S'.1 8 = S.1 8) : RfR S' n' cs W rn' := by
  obtain ⟨r1, r2, r3, r4, r5⟩ := hR
  refine ⟨h1, h2.trans r2, h42, fun hw => ?_, fun w hw => ?_⟩
  · rw [h3, h7]; exact r4 hw
  · rw [h3, h4, h5, h7, h8]; exact r5 w hw
theorem RfR.z0 {k : Int32} (hR : RfR S n cs W rn) : RfR (msI S 0 k) n cs W rn := hR.of hR.1 rfl hR.2.2.1 rfl rfl rfl rfl rfl
theorem J_fin {wi ri : Nat} {ps : List Value} {k b : Int32} {v : Int64} (hW : Wn E 199 wi (.ref x :: (ps ++ [.ref (x + 41)])) h k h1) (hC : ClH E h1 O G x n cs W rn) (hm : h1 = mh h1 (x + 15) S) (hx : x + 42 ≤ h1.2.1) (hv : h1.1 (x + 41) = some (101, [.long v]))
    (hr : Rn E 199 ri (.ref (x + 15) :: ps) (mh h1 (x + 15) S) (some (.int b)) (mh h1 (x + 15) S')) (hR : RfR S' n cs W rn) (hk : S'.1 0 = k) (hb : k = 0 → v = b.toInt64)
    (hh : ∀ q t fs, h0.1 q = some (t, fs) → 107 ≤ t → h1.1 q = some (t, fs)) : Jt E h0 x wi ri ps h (mh h1 (x + 15) S') ∧ Jn E (mh h1 (x + 15) S') O G x S' n cs W rn ∧ ∀ q t fs, h0.1 q = some (t, fs) → 107 ≤ t → (mh h1 (x + 15) S').1 q = some (t, fs) := by
  rw [← hm] at hr
  refine ⟨⟨k, b, h1, v, hW, hr, by rw [← hk]; exact c_thrown, by rw [mh_ne (by omega)]; exact hv, hb, mh_oo hm, ⟨_, if_pos rfl⟩, hh⟩, Jn.step hx hC hm hv hR, fun q t fs hq ht => ?_⟩
  have h2 := hh q t fs hq ht
  rw [mh_ne (fun r => ?_)]
  · exact h2
  · have h3 := h2
    rw [hm] at h3
    have := mh_tag r.1 r.2 h3
    omega
theorem Kp.st (hk : Kp h h' x) (hh : ∀ q t fs, h0.1 q = some (t, fs) → 107 ≤ t → h.1 q = some (t, fs)) : ∀ q t fs, h0.1 q = some (t, fs) → 107 ≤ t → h'.1 q = some (t, fs) := fun q t fs hq ht => hk q t fs (hh q t fs hq ht) (Or.inr ht)
theorem st_out {v0 : Int64} {c : PC} (hv : h.1 (x + 41) = some (101, [.long v0])) (hh : ∀ q t fs, h0.1 q = some (t, fs) → 107 ≤ t → h.1 q = some (t, fs)) : ∀ q t fs, h0.1 q = some (t, fs) → 107 ≤ t → (pset h (x + 41) c).1 q = some (t, fs) := fun q t fs hq ht => by
  have h2 := hh q t fs hq ht
  rw [pset_ne (fun e => by rw [e, hv] at h2; cases h2; omega)]
  exact h2
end M97
