/-! ===== class and reference side by side ===== -/
theorem mh_tag {g : PH} {o q t : Nat} {S : MSt} {fs : List Value} (h1 : o ≤ q) (h2 : q ≤ o + 25) (hq : (mh g o S).1 q = some (t, fs)) : t = 10 ∨ t = 100 ∨ t = 102 := by
  by_cases e : q = o
  · have : (mh g o S).1 q = some (10, mfs o S) := if_pos e
    rw [this] at hq; cases hq; exact Or.inl rfl
  · have : (mh g o S).1 q = some (mtg (mak (q - o)), marr S (mak (q - o))) := by
      show (if q = o then _ else if o < q ∧ q ≤ o + 25 then _ else _) = _
      rw [if_neg e, if_pos (by omega)]
    rw [this] at hq; cases hq
    unfold mtg
    split
    · exact Or.inr (Or.inr rfl)
    · exact Or.inr (Or.inl rfl)
theorem mh_some {g : PH} {o q : Nat} {S : MSt} (h1 : o ≤ q) (h2 : q ≤ o + 25) : ∃ t fs, (mh g o S).1 q = some (t, fs) := by
  by_cases e : q = o
  · exact ⟨_, _, if_pos e⟩
  · refine ⟨mtg (mak (q - o)), marr S (mak (q - o)), ?_⟩
    show (if q = o then _ else if o < q ∧ q ≤ o + 25 then _ else _) = _
    rw [if_neg e, if_pos (by omega)]
theorem mh_ne {g : PH} {o q : Nat} {S : MSt} (h : ¬ (o ≤ q ∧ q ≤ o + 25)) : (mh g o S).1 q = g.1 q := by
  show (if q = o then _ else if o < q ∧ q ≤ o + 25 then _ else g.1 q) = _
  rw [if_neg (by omega), if_neg (by omega)]
theorem mh_mh {g : PH} {o : Nat} {S S' : MSt} : mh (mh g o S) o S' = mh g o S' := by
  refine Prod.ext (funext fun q => ?_) rfl
  by_cases r : o ≤ q ∧ q ≤ o + 25
  · by_cases e : q = o
    · exact (show (mh (mh g o S) o S').1 q = some (10, mfs o S') from if_pos e).trans (show (mh g o S').1 q = some (10, mfs o S') from if_pos e).symm
    · have e1 : ∀ g' : PH, (mh g' o S').1 q = some (mtg (mak (q - o)), marr S' (mak (q - o))) := fun g' => by
        show (if q = o then _ else if o < q ∧ q ≤ o + 25 then _ else _) = _
        rw [if_neg e, if_pos (by omega)]
      rw [e1, e1]
  · rw [mh_ne r, mh_ne r, mh_ne r]
/-- the reference is still there -/
theorem mh_of {g h' : PH} {o : Nat} {S : MSt} (k : ∀ q t fs, o ≤ q → q ≤ o + 25 → (mh g o S).1 q = some (t, fs) → h'.1 q = some (t, fs)) : h' = mh h' o S := by
  refine Prod.ext (funext fun q => ?_) rfl
  by_cases r : o ≤ q ∧ q ≤ o + 25
  · obtain ⟨t, fs, e⟩ := mh_some (g := g) (S := S) r.1 r.2
    rw [k q t fs r.1 r.2 e]
    have : (mh h' o S).1 q = (mh g o S).1 q := by
      by_cases e0 : q = o
      · exact (show (mh h' o S).1 q = some (10, mfs o S) from if_pos e0).trans (show (mh g o S).1 q = some (10, mfs o S) from if_pos e0).symm
      · have e1 : ∀ g' : PH, (mh g' o S).1 q = some (mtg (mak (q - o)), marr S (mak (q - o))) := fun g' => by
          show (if q = o then _ else if o < q ∧ q ≤ o + 25 then _ else _) = _
          rw [if_neg e0, if_pos (by omega)]
        rw [e1, e1]
    rw [this, e]
  · rw [mh_ne r]
section M66
variable {E : PE} {d : Nat} {h : PH} {O : Nat → Nat × Nat} {G : PG} {x n : Nat} {cs rn : Nat → Int32} {W : Option PW}
/-- the class's object does not see the reference -/
theorem ClH.ref {S S' : MSt} (hx : x + 41 < h.2.1) (hC : ClH E (mh h (x + 15) S) O G x n cs W rn) : ClH E (mh h (x + 15) S') O G x n cs W rn := by
  obtain ⟨c1, c2, c3, c4, c5, c6, c7, c8, c9⟩ := hC
  have same : ∀ q t fs, (mh h (x + 15) S).1 q = some (t, fs) → ¬ (x + 15 ≤ q ∧ q ≤ x + 40) → (mh h (x + 15) S').1 q = some (t, fs) := fun q t fs hq hr => by
    rw [mh_ne (by omega)] at hq ⊢
    exact hq
  have out : ∀ q t fs, (mh h (x + 15) S).1 q = some (t, fs) → (t ≠ 10 ∧ t ≠ 100 ∧ t ≠ 102) → (mh h (x + 15) S').1 q = some (t, fs) := fun q t fs hq ht => same q t fs hq (fun r => by
    have := mh_tag r.1 r.2 hq
    omega)
  have wf : Wf (mh h (x + 15) S') := fun q c hq => by
    show q < h.2.1
    by_cases r : x + 15 ≤ q ∧ q ≤ x + 40
    · omega
    · rw [mh_ne (by omega)] at hq
      refine c1.1 q c ?_
      rw [mh_ne (by omega)]; exact hq
  refine ⟨c1.mono wf (fun _ _ => rfl) (fun q t fs hq hg => out q t fs hq (by unfold gcl at hg; omega)), c2.keep (fun q t fs ht hq => out q t fs hq (by omega)), c3, same _ _ _ c4 (by omega), c5.keep (fun q t fs hq h1 => same _ _ _ h1 (by omega)) rfl, c6.keep (fun q t fs hq h1 => same _ _ _ h1 (by omega)) rfl, c7.keep (fun q t fs hq h1 => same _ _ _ h1 (by omega)), c8.keep (fun q t fs h1 h2 h3 => same _ _ _ h3 (by omega)), fun w hw => ?_⟩
  obtain ⟨p1, p2, p3, p4, p5⟩ := c9 w hw
  exact ⟨same _ _ _ p1 (by omega), same _ _ _ p2 (by omega), p3, p4, p5⟩
/-- the reference's state says what the class's object holds -/
def RfR (S : MSt) (n : Nat) (cs : Nat → Int32) (W : Option PW) (rn : Nat → Int32) : Prop := S.1 1 = nI n ∧ S.2 2 = cs ∧ (∀ j, j < 4 → S.2 42 j = rn j) ∧ (W = none → S.1 3 = 0 ∧ ∀ j, j < 4 → S.2 7 j = 0) ∧ ∀ w, W = some w → S.1 3 ≠ 0 ∧ S.1 4 = nI (tsum (AP w.1)) ∧ TokAt (S.2 5) 0 (AP w.1) ∧ S.2 7 = w.2.2.2.2.2 ∧ S.1 8 = w.2.2.2.2.1
/-- class, reference and the law's array, at x -/
def Jn (E : PE) (h : PH) (O : Nat → Nat × Nat) (G : PG) (x : Nat) (S : MSt) (n : Nat) (cs : Nat → Int32) (W : Option PW) (rn : Nat → Int32) : Prop := ClH E h O G x n cs W rn ∧ h = mh h (x + 15) S ∧ RfR S n cs W rn ∧ x + 42 ≤ h.2.1 ∧ ∃ v : Int64, h.1 (x + 41) = some (101, [.long v])
/-- after the class's method the reference is as it was -/
theorem Jn.kept {S : MSt} {h' : PH} (hJ : Jn E h O G x S n cs W rn) (hk : Kp h h' x) : h' = mh h' (x + 15) S ∧ ∃ v : Int64, h'.1 (x + 41) = some (101, [.long v]) := by
  obtain ⟨j1, j2, j3, j4, v, j5⟩ := hJ
  refine ⟨mh_of (g := h) (fun q t fs h1 h2 hq => ?_), v, hk _ _ _ j5 (Or.inl ⟨by omega, by omega, Or.inr (Or.inr (Or.inl rfl))⟩)⟩
  have ht := mh_tag h1 h2 hq
  rw [← j2] at hq
  exact hk q t fs hq (Or.inl ⟨h1, by omega, by omega⟩)
/-- then the reference's own step -/
theorem Jn.step {S S' : MSt} {h' : PH} {O' : Nat → Nat × Nat} {G' : PG} {n' : Nat} {cs' rn' : Nat → Int32} {W' : Option PW} {v : Int64} (hx : x + 42 ≤ h'.2.1) (hC : ClH E h' O' G' x n' cs' W' rn') (hm : h' = mh h' (x + 15) S) (hv : h'.1 (x + 41) = some (101, [.long v])) (hR : RfR S' n' cs' W' rn') : Jn E (mh h' (x + 15) S') O' G' x S' n' cs' W' rn' := by
  refine ⟨ClH.ref (S := S) (by omega) (by rw [← hm]; exact hC), mh_mh.symm, hR, hx, v, ?_⟩
  rw [mh_ne (by omega)]; exact hv
end M66
