/-! ===== the conversion: what the code means ===== -/
/-- how many ints a head has -/
def hl (w : Int32) : Nat := if w = 3 then 1 else if w = 6 then 1 else 2
def hok (cs : Nat → Int32) (n p : Nat) : Bool := decide (p < n ∧ 0 ≤ cs p ∧ cs p ≤ 6 ∧ p + hl (cs p) ≤ n ∧ (cs p = 1 → 0 ≤ cs (p + 1) ∧ cs (p + 1) ≤ 9) ∧ (cs p = 2 → 0 ≤ cs (p + 1) ∧ cs (p + 1) ≤ 9) ∧ (cs p = 4 → 0 ≤ cs (p + 1) ∧ cs (p + 1) ≤ 9) ∧ (cs p = 5 → 0 ≤ cs (p + 1) ∧ cs (p + 1) ≤ 4))
theorem hok_iff {cs : Nat → Int32} {n p : Nat} : hok cs n p = true ↔ (p < n ∧ 0 ≤ cs p ∧ cs p ≤ 6 ∧ p + hl (cs p) ≤ n ∧ (cs p = 1 → 0 ≤ cs (p + 1) ∧ cs (p + 1) ≤ 9) ∧ (cs p = 2 → 0 ≤ cs (p + 1) ∧ cs (p + 1) ≤ 9) ∧ (cs p = 4 → 0 ≤ cs (p + 1) ∧ cs (p + 1) ≤ 9) ∧ (cs p = 5 → 0 ≤ cs (p + 1) ∧ cs (p + 1) ≤ 4)) := decide_eq_true_iff
/-- where the term at p ends, if it is one -/
def sy (cs : Nat → Int32) (n : Nat) : Nat → Nat → Option Nat
  | 0, _ => none
  | f + 1, p => if hok cs n p = true then (if cs p = 0 then some (p + 2) else if cs p = 1 then some (p + 2) else if cs p = 2 then sy cs n f (p + 2) else if cs p = 6 then (sy cs n f (p + 1)).bind (fun a => (sy cs n f a).bind (fun b => sy cs n f b)) else (sy cs n f (p + hl (cs p))).bind (fun a => sy cs n f a)) else none
abbrev Mn : Type := Nat → Option (Int32 × Int32)
def mup (M : Mn) (x : Nat) (a : Int32 × Int32) : Mn := fun y => if y = x then some a else M y
abbrev Cv : Type := List It × (Int32 × Int32) × Nat × Nat × Nat × Bool
def iRes (a : Int32 × Int32) : It := (9, 0, 0, a, (0, 0))
/-- items, atom, place behind, names, how deep its rows lie, whether a variable is free -/
def cv (cs : Nat → Int32) : Nat → Mn → Nat → Nat → Cv
  | 0, _, p, k => ([], (0, 0), p, k, 0, false)
  | f + 1, M, p, k =>
    if cs p = 0 then ([], (0, cs (p + 1)), p + 2, k, 0, false)
    else if cs p = 1 then (match M (cs (p + 1)).toNatClampNeg with
      | some a => ([], a, p + 2, k, 0, false)
      | none => ([], (0, 0), p + 2, k, 0, true))
    else if cs p = 2 then
      (let r := cv cs f (mup M (cs (p + 1)).toNatClampNeg (1, nI k)) (p + 2) (k + 1)
       ((2, nI r.2.2.2.1, nI k, (0, 0), (0, 0)) :: (r.1 ++ [iRes r.2.1]), (1, nI r.2.2.2.1), r.2.2.1, r.2.2.2.1 + 1, r.2.2.2.2.1 + 1, r.2.2.2.2.2))
    else if cs p = 4 then
      (let r := cv cs f M (p + 2) k
       let s := cv cs f (mup M (cs (p + 1)).toNatClampNeg r.2.1) r.2.2.1 r.2.2.2.1
       (r.1 ++ s.1, s.2.1, s.2.2.1, s.2.2.2.1, max r.2.2.2.2.1 s.2.2.2.2.1, r.2.2.2.2.2 || s.2.2.2.2.2))
    else if cs p = 6 then
      (let r := cv cs f M (p + 1) k
       let s := cv cs f M r.2.2.1 r.2.2.2.1
       let u := cv cs f M s.2.2.1 s.2.2.2.1
       (r.1 ++ (6, nI u.2.2.2.1, 0, r.2.1, (0, 0)) :: (s.1 ++ iRes s.2.1 :: (u.1 ++ [iRes u.2.1])), (1, nI u.2.2.2.1), u.2.2.1, u.2.2.2.1 + 1, max r.2.2.2.2.1 (max (s.2.2.2.2.1 + 1) (u.2.2.2.2.1 + 1)), r.2.2.2.2.2 || (s.2.2.2.2.2 || u.2.2.2.2.2)))
    else
      (let r := cv cs f M (p + hl (cs p)) k
       let s := cv cs f M r.2.2.1 r.2.2.2.1
       (r.1 ++ (s.1 ++ [(if cs p = 5 then 5 else 3, nI s.2.2.2.1, if cs p = 5 then cs (p + 1) else 0, r.2.1, s.2.1)]), (1, nI s.2.2.2.1), s.2.2.1, s.2.2.2.1 + 1, max r.2.2.2.2.1 s.2.2.2.2.1, r.2.2.2.2.2 || s.2.2.2.2.2))
theorem le_nat {x : Int32} {m : Nat} (hm : m < 2 ^ 31) (h0 : 0 ≤ x) (h : x ≤ nI m) : ∃ j, j ≤ m ∧ x = nI j := by
  refine ⟨x.toNatClampNeg, ?_, ?_⟩
  · have h1 : x.toInt ≤ (nI m).toInt := Int32.le_iff_toInt_le.mp h
    have h2 : (nI m).toNatClampNeg = m := nI_clamp hm
    have h3 : x.toNatClampNeg = x.toInt.toNat := rfl
    have h4 : (nI m).toNatClampNeg = (nI m).toInt.toNat := rfl
    omega
  · have h1 : (0 : Int32).toInt ≤ x.toInt := Int32.le_iff_toInt_le.mp h0
    have h0' : (0 : Int32).toInt = 0 := rfl
    show x = Int32.ofNat x.toNatClampNeg
    apply Int32.toInt_inj.mp
    rw [Int32.toInt_ofNat_of_lt]
    · have h3 : x.toNatClampNeg = x.toInt.toNat := rfl
      omega
    · have h3 : x.toNatClampNeg = x.toInt.toNat := rfl
      have := x.toInt_lt
      omega
/-- the seven heads -/
theorem kd7 {x : Int32} (h0 : 0 ≤ x) (h6 : x ≤ 6) : x = 0 ∨ x = 1 ∨ x = 2 ∨ x = 3 ∨ x = 4 ∨ x = 5 ∨ x = 6 := by
  obtain ⟨j, hj, rfl⟩ := le_nat (m := 6) (by decide) h0 h6
  rcases (show j = 0 ∨ j = 1 ∨ j = 2 ∨ j = 3 ∨ j = 4 ∨ j = 5 ∨ j = 6 by omega) with rfl | rfl | rfl | rfl | rfl | rfl | rfl
  · exact Or.inl rfl
  · exact Or.inr (Or.inl rfl)
  · exact Or.inr (Or.inr (Or.inl rfl))
  · exact Or.inr (Or.inr (Or.inr (Or.inl rfl)))
  · exact Or.inr (Or.inr (Or.inr (Or.inr (Or.inl rfl))))
  · exact Or.inr (Or.inr (Or.inr (Or.inr (Or.inr (Or.inl rfl)))))
  · exact Or.inr (Or.inr (Or.inr (Or.inr (Or.inr (Or.inr rfl)))))
theorem bind_some {a : Option Nat} {F : Nat → Option Nat} {c : Nat} (h : a.bind F = some c) : ∃ b, a = some b ∧ F b = some c := by
  cases a with
  | none => cases h
  | some b => exact ⟨b, rfl, h⟩
section CV
variable {cs : Nat → Int32} {n f p k : Nat} {M : Mn}
theorem cv_0 (h : cs p = 0) : cv cs (f + 1) M p k = ([], (0, cs (p + 1)), p + 2, k, 0, false) := by unfold cv; rw [if_pos h]
theorem cv_1s {a : Int32 × Int32} (h : cs p = 1) (hM : M (cs (p + 1)).toNatClampNeg = some a) : cv cs (f + 1) M p k = ([], a, p + 2, k, 0, false) := by unfold cv; rw [if_neg (by rw [h]; decide), if_pos h, hM]
theorem cv_1n (h : cs p = 1) (hM : M (cs (p + 1)).toNatClampNeg = none) : cv cs (f + 1) M p k = ([], (0, 0), p + 2, k, 0, true) := by unfold cv; rw [if_neg (by rw [h]; decide), if_pos h, hM]
theorem cv_2 (h : cs p = 2) : cv cs (f + 1) M p k = (let r := cv cs f (mup M (cs (p + 1)).toNatClampNeg (1, nI k)) (p + 2) (k + 1)
       ((2, nI r.2.2.2.1, nI k, (0, 0), (0, 0)) :: (r.1 ++ [iRes r.2.1]), (1, nI r.2.2.2.1), r.2.2.1, r.2.2.2.1 + 1, r.2.2.2.2.1 + 1, r.2.2.2.2.2)) := by
  conv => lhs; unfold cv
  rw [if_neg (by rw [h]; decide), if_neg (by rw [h]; decide), if_pos h]
theorem cv_4 (h : cs p = 4) : cv cs (f + 1) M p k = (let r := cv cs f M (p + 2) k
       let s := cv cs f (mup M (cs (p + 1)).toNatClampNeg r.2.1) r.2.2.1 r.2.2.2.1
       (r.1 ++ s.1, s.2.1, s.2.2.1, s.2.2.2.1, max r.2.2.2.2.1 s.2.2.2.2.1, r.2.2.2.2.2 || s.2.2.2.2.2)) := by
  conv => lhs; unfold cv
  rw [if_neg (by rw [h]; decide), if_neg (by rw [h]; decide), if_neg (by rw [h]; decide), if_pos h]
theorem cv_6 (h : cs p = 6) : cv cs (f + 1) M p k = (let r := cv cs f M (p + 1) k
       let s := cv cs f M r.2.2.1 r.2.2.2.1
       let u := cv cs f M s.2.2.1 s.2.2.2.1
       (r.1 ++ (6, nI u.2.2.2.1, 0, r.2.1, (0, 0)) :: (s.1 ++ iRes s.2.1 :: (u.1 ++ [iRes u.2.1])), (1, nI u.2.2.2.1), u.2.2.1, u.2.2.2.1 + 1, max r.2.2.2.2.1 (max (s.2.2.2.2.1 + 1) (u.2.2.2.2.1 + 1)), r.2.2.2.2.2 || (s.2.2.2.2.2 || u.2.2.2.2.2))) := by
  conv => lhs; unfold cv
  rw [if_neg (by rw [h]; decide), if_neg (by rw [h]; decide), if_neg (by rw [h]; decide), if_neg (by rw [h]; decide), if_pos h]
theorem cv_3 (h : cs p = 3) : cv cs (f + 1) M p k = (let r := cv cs f M (p + 1) k
       let s := cv cs f M r.2.2.1 r.2.2.2.1
       (r.1 ++ (s.1 ++ [(3, nI s.2.2.2.1, 0, r.2.1, s.2.1)]), (1, nI s.2.2.2.1), s.2.2.1, s.2.2.2.1 + 1, max r.2.2.2.2.1 s.2.2.2.2.1, r.2.2.2.2.2 || s.2.2.2.2.2)) := by
  conv => lhs; unfold cv
  simp only [h, show hl 3 = 1 from rfl]
  rfl
theorem cv_5 (h : cs p = 5) : cv cs (f + 1) M p k = (let r := cv cs f M (p + 2) k
       let s := cv cs f M r.2.2.1 r.2.2.2.1
       (r.1 ++ (s.1 ++ [(5, nI s.2.2.2.1, cs (p + 1), r.2.1, s.2.1)]), (1, nI s.2.2.2.1), s.2.2.1, s.2.2.2.1 + 1, max r.2.2.2.2.1 s.2.2.2.2.1, r.2.2.2.2.2 || s.2.2.2.2.2)) := by
  conv => lhs; unfold cv
  simp only [h, show hl 5 = 2 from rfl]
  rfl
theorem sy_01 (hk : hok cs n p = true) (h : cs p = 0 ∨ cs p = 1) : sy cs n (f + 1) p = some (p + 2) := by
  unfold sy
  rw [if_pos hk]
  rcases h with h | h
  · rw [if_pos h]
  · rw [if_neg (by rw [h]; decide), if_pos h]
theorem sy_2 (hk : hok cs n p = true) (h : cs p = 2) : sy cs n (f + 1) p = sy cs n f (p + 2) := by
  conv => lhs; unfold sy
  rw [if_pos hk, if_neg (by rw [h]; decide), if_neg (by rw [h]; decide), if_pos h]
theorem sy_6 (hk : hok cs n p = true) (h : cs p = 6) : sy cs n (f + 1) p = (sy cs n f (p + 1)).bind (fun a => (sy cs n f a).bind (fun b => sy cs n f b)) := by
  conv => lhs; unfold sy
  rw [if_pos hk, if_neg (by rw [h]; decide), if_neg (by rw [h]; decide), if_neg (by rw [h]; decide), if_pos h]
theorem sy_345 (hk : hok cs n p = true) (h : cs p = 3 ∨ cs p = 4 ∨ cs p = 5) : sy cs n (f + 1) p = (sy cs n f (p + hl (cs p))).bind (fun a => sy cs n f a) := by
  conv => lhs; unfold sy
  rw [if_pos hk, if_neg (by rcases h with h | h | h <;> rw [h] <;> decide), if_neg (by rcases h with h | h | h <;> rw [h] <;> decide), if_neg (by rcases h with h | h | h <;> rw [h] <;> decide), if_neg (by rcases h with h | h | h <;> rw [h] <;> decide)]
theorem sy_hok {p' : Nat} (h : sy cs n (f + 1) p = some p') : hok cs n p = true := by
  unfold sy at h
  split at h
  · assumption
  · cases h
end CV
/-- what the numbers of a conversion come to -/
theorem cv_nums {cs : Nat → Int32} {n : Nat} : ∀ (f : Nat) (M : Mn) (p k p' : Nat), sy cs n f p = some p' →
    (cv cs f M p k).2.2.1 = p' ∧ p + 2 ≤ p' ∧ p' ≤ n ∧ k ≤ (cv cs f M p k).2.2.2.1 ∧ (cv cs f M p k).2.2.2.1 + p ≤ k + p' ∧ 2 * tsum (cv cs f M p k).1 + 14 + 7 * p ≤ 7 * p' ∧ (cv cs f M p k).2.2.2.2.1 + p + 2 ≤ p'
  | 0, M, p, k, p', h => by cases h
  | f + 1, M, p, k, p', h => by
    have hk := sy_hok h
    obtain ⟨h1, h2, h3, h4, -⟩ := hok_iff.mp hk
    rcases kd7 h2 h3 with w | w | w | w | w | w | w
    · rw [sy_01 hk (Or.inl w)] at h
      rw [w, show hl 0 = 2 from rfl] at h4
      cases h
      rw [cv_0 w]
      refine ⟨rfl, Nat.le_refl _, h4, Nat.le_refl _, ?_, ?_, by show 0 + p + 2 ≤ p + 2; omega⟩
      · show k + p ≤ k + (p + 2); omega
      · show 2 * 0 + 14 + 7 * p ≤ 7 * (p + 2); omega
    · rw [sy_01 hk (Or.inr w)] at h
      rw [w, show hl 1 = 2 from rfl] at h4
      cases h
      cases hM : M (cs (p + 1)).toNatClampNeg with
      | none =>
        rw [cv_1n w hM]
        refine ⟨rfl, Nat.le_refl _, h4, Nat.le_refl _, ?_, ?_, by show 0 + p + 2 ≤ p + 2; omega⟩
        · show k + p ≤ k + (p + 2); omega
        · show 2 * 0 + 14 + 7 * p ≤ 7 * (p + 2); omega
      | some a =>
        rw [cv_1s w hM]
        refine ⟨rfl, Nat.le_refl _, h4, Nat.le_refl _, ?_, ?_, by show 0 + p + 2 ≤ p + 2; omega⟩
        · show k + p ≤ k + (p + 2); omega
        · show 2 * 0 + 14 + 7 * p ≤ 7 * (p + 2); omega
    · rw [sy_2 hk w] at h
      rw [cv_2 w]
      obtain ⟨a1, a2, a3, a4, a5, a6, a8⟩ := cv_nums f (mup M (cs (p + 1)).toNatClampNeg (1, nI k)) (p + 2) (k + 1) p' h
      simp only [tsum, tsum_app, isz, iRes]
      omega
    · rw [sy_345 hk (Or.inl w), w, show hl 3 = 1 from rfl] at h
      obtain ⟨b, hb, hc⟩ := bind_some h
      rw [cv_3 w]
      obtain ⟨a1, a2, a3, a4, a5, a6, a8⟩ := cv_nums f M (p + 1) k b hb
      have c0 := cv_nums f M b (cv cs f M (p + 1) k).2.2.2.1 p' hc
      rw [← a1] at c0
      obtain ⟨c1, c2, c3, c4, c5, c6, c8⟩ := c0
      simp only [tsum, tsum_app, isz]
      omega
    · rw [sy_345 hk (Or.inr (Or.inl w)), w, show hl 4 = 2 from rfl] at h
      obtain ⟨b, hb, hc⟩ := bind_some h
      rw [cv_4 w]
      obtain ⟨a1, a2, a3, a4, a5, a6, a8⟩ := cv_nums f M (p + 2) k b hb
      have c0 := cv_nums f (mup M (cs (p + 1)).toNatClampNeg (cv cs f M (p + 2) k).2.1) b (cv cs f M (p + 2) k).2.2.2.1 p' hc
      rw [← a1] at c0
      obtain ⟨c1, c2, c3, c4, c5, c6, c8⟩ := c0
      simp only [tsum_app]
      omega
    · rw [sy_345 hk (Or.inr (Or.inr w)), w, show hl 5 = 2 from rfl] at h
      obtain ⟨b, hb, hc⟩ := bind_some h
      rw [cv_5 w]
      obtain ⟨a1, a2, a3, a4, a5, a6, a8⟩ := cv_nums f M (p + 2) k b hb
      have c0 := cv_nums f M b (cv cs f M (p + 2) k).2.2.2.1 p' hc
      rw [← a1] at c0
      obtain ⟨c1, c2, c3, c4, c5, c6, c8⟩ := c0
      simp only [tsum, tsum_app, isz]
      omega
    · rw [sy_6 hk w] at h
      obtain ⟨b, hb, h⟩ := bind_some h
      obtain ⟨c, hc, hd⟩ := bind_some h
      rw [cv_6 w]
      obtain ⟨a1, a2, a3, a4, a5, a6, a8⟩ := cv_nums f M (p + 1) k b hb
      have c0 := cv_nums f M b (cv cs f M (p + 1) k).2.2.2.1 c hc
      rw [← a1] at c0
      obtain ⟨c1, c2, c3, c4, c5, c6, c8⟩ := c0
      have d0 := cv_nums f M c (cv cs f M (cv cs f M (p + 1) k).2.2.1 (cv cs f M (p + 1) k).2.2.2.1).2.2.2.1 p' hd
      rw [← c1] at d0
      obtain ⟨d1, d2, d3, d4, d5, d6, d8⟩ := d0
      simp only [tsum, tsum_app, isz, iRes]
      omega
