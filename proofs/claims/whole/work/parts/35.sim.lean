/-! ===== the reference's conversion does what cv says ===== -/
def Gd (cs : Nat → Int32) (n f : Nat) (M : Mn) (p k : Nat) : Prop := (∃ p', sy cs n f p = some p') ∧ (cv cs f M p k).2.2.2.2.2 = false
def mrel (M : Mn) (S : MSt) : Prop := ∀ x, x < 10 → (M x = none → S.2 19 x < 0) ∧ (∀ a, M x = some a → S.2 19 x = a.1 ∧ S.2 20 x = a.2 ∧ 0 ≤ a.1)
theorem mrel_eq {M : Mn} {S S' : MSt} (h : mrel M S) (h1 : S'.2 19 = S.2 19) (h2 : S'.2 20 = S.2 20) : mrel M S' := fun x hx => by
  rw [h1, h2]
  exact h x hx
theorem rup_eq {R : Nat → Int32} {q : Nat} {x : Int32} : rup R q x q = x := if_pos rfl
theorem rup_ne {R : Nat → Int32} {q j : Nat} {x : Int32} (h : j ≠ q) : rup R q x j = R j := if_neg h
theorem rup_back {R : Nat → Int32} {q : Nat} {x : Int32} : rup (rup R q x) q (R q) = R := by
  funext j
  by_cases h : j = q
  · rw [h, rup_eq]
  · rw [rup_ne h, rup_ne h]
theorem mrel_up {M : Mn} {S S1 : MSt} {x : Nat} {a b : Int32} (h : mrel M S) (h1 : S1.2 19 = rup (S.2 19) x a) (h2 : S1.2 20 = rup (S.2 20) x b) (ha : 0 ≤ a) : mrel (mup M x (a, b)) S1 := fun y hy => by
  rw [h1, h2]
  by_cases e : y = x
  · subst e
    rw [rup_eq, rup_eq]
    unfold mup
    rw [if_pos rfl]
    exact ⟨fun z => (by cases z), fun c hc => (by cases hc; exact ⟨rfl, rfl, ha⟩)⟩
  · rw [rup_ne e, rup_ne e]
    unfold mup
    rw [if_neg e]
    exact h y hy
theorem cv_at {cs : Nat → Int32} {n : Nat} : ∀ (f : Nat) (M : Mn) (p k p' : Nat), sy cs n f p = some p' → (∀ x a, x < 10 → M x = some a → 0 ≤ a.1) → 0 ≤ (cv cs f M p k).2.1.1
  | 0, M, p, k, p', h, _ => by cases h
  | f + 1, M, p, k, p', h, hM => by
    have hk := sy_hok h
    obtain ⟨h1, h2, h3, h4, h5, -, h6, -⟩ := hok_iff.mp hk
    rcases kd7 h2 h3 with w | w | w | w | w | w | w
    · rw [cv_0 w]; exact (show (0 : Int32) ≤ 0 by decide)
    · cases hx : M (cs (p + 1)).toNatClampNeg with
      | none => rw [cv_1n w hx]; exact (show (0 : Int32) ≤ 0 by decide)
      | some a =>
        rw [cv_1s w hx]
        obtain ⟨j, hj, e⟩ := le_nat (m := 9) (by decide) (h5 w).1 (h5 w).2
        rw [nIc e (by omega)] at hx
        exact hM _ _ (by omega) hx
    · rw [cv_2 w]; exact (show (0 : Int32) ≤ 1 by decide)
    · rw [cv_3 w]; exact (show (0 : Int32) ≤ 1 by decide)
    · rw [sy_345 hk (Or.inr (Or.inl w)), w, show hl 4 = 2 from rfl] at h
      obtain ⟨b, hb, hc⟩ := bind_some h
      rw [cv_4 w]
      have a1 := (cv_nums f M (p + 2) k b hb).1
      have a0 := cv_at f M (p + 2) k b hb hM
      simp only
      generalize cv cs f M (p + 2) k = r at *
      subst a1
      refine cv_at f _ r.2.2.1 r.2.2.2.1 p' hc (fun x a hx h => ?_)
      unfold mup at h
      split at h
      · cases h; exact a0
      · exact hM x a hx h
    · rw [cv_5 w]; exact (show (0 : Int32) ≤ 1 by decide)
    · rw [cv_6 w]; exact (show (0 : Int32) ≤ 1 by decide)
section SIM
variable {cs : Nat → Int32} {n f p k q dr dp D d o : Nat} {M : Mn} {S : MSt} {E : PE} {g : PH}
theorem out_next : out (mNext S) = out S := out_I rfl
theorem out_open {w : Int32} : out (mOpen S q w) = out S := ((out_A rfl).trans (out_A rfl)).trans ((out_I rfl).trans (out_I rfl))
theorem nhd {x : Int32} {m : Nat} (hm : m < 2 ^ 31) (h : ¬ (0 ≤ x ∧ x ≤ nI m)) : x < 0 ∨ (¬ x < 0 ∧ nI m < x) := by
  by_cases h0 : x < 0
  · exact Or.inl h0
  · exact Or.inr ⟨h0, Int32.not_le.mp (fun z => h ⟨Int32.not_lt.mp h0, z⟩)⟩
/-- no head here: begins says so -/
theorem begins_bad (h60 : n ≤ 60) (hcs : S.2 2 = cs) (hC : CS n p q dr k dp D S) (hp : p ≤ n) (hq : q ≤ p) (hk : hok cs n p = false) : ∃ S', Rn E (d + 1) 5 [.ref o] (mh g o S) (some (.int (-1))) (mh g o S') ∧ out S' = out S := by
  obtain ⟨c1, c9, c10, c23, c24, c21, c22⟩ := hC
  have hk : ¬ hok cs n p = true := by rw [hk]; decide
  rw [hok_iff] at hk
  by_cases hpn : n ≤ p
  · exact ⟨_, b_end c9 c1 h60 hpn (by omega), rfl⟩
  · have hlt : p < n := by omega
    by_cases hlo : cs p < 0
    · exact ⟨_, b_low c9 c1 h60 hlt (by rw [hcs]; exact hlo), out_next⟩
    · by_cases hhi : 6 < cs p
      · exact ⟨_, b_high c9 c1 h60 hlt (by rw [hcs]; exact hhi), out_next⟩
      · have h0 : 0 ≤ cs p := Int32.not_lt.mp hlo
        have h6 : cs p ≤ 6 := Int32.not_lt.mp hhi
        have hi : ∀ (a b : Int32), cs p = a → a ≠ b → ∀ {P : Prop}, cs p = b → P := fun a b e1 e2 P e3 => absurd (e1.symm.trans e3) e2
        rcases kd7 h0 h6 with w | w | w | w | w | w | w
        · by_cases hs : n ≤ p + 1
          · exact ⟨_, b_num1 c9 c1 h60 (by rw [hcs]; exact w) hlt hs, out_next⟩
          · exact absurd ⟨hlt, h0, h6, by rw [w]; show p + 2 ≤ n; omega, fun z => hi 0 1 w (by decide) z, fun z => hi 0 2 w (by decide) z, fun z => hi 0 4 w (by decide) z, fun z => hi 0 5 w (by decide) z⟩ hk
        · by_cases hs : n ≤ p + 1
          · exact ⟨_, b_var1 c9 c1 h60 (by rw [hcs]; exact w) hlt hs, out_next⟩
          · have hb : ¬ (0 ≤ cs (p + 1) ∧ cs (p + 1) ≤ nI 9) := fun z => hk ⟨hlt, h0, h6, by rw [w]; show p + 2 ≤ n; omega, fun _ => z, fun z => hi 1 2 w (by decide) z, fun z => hi 1 4 w (by decide) z, fun z => hi 1 5 w (by decide) z⟩
            rcases nhd (by decide) hb with z | z
            · exact ⟨_, b_varL c9 c1 h60 (by rw [hcs]; exact w) (by omega) (by rw [hcs]; exact z), out_next.trans out_next⟩
            · exact ⟨_, b_varG c9 c1 h60 (by rw [hcs]; exact w) (by omega) (by rw [hcs]; exact z.1) (by rw [hcs]; exact z.2), out_next.trans out_next⟩
        · by_cases hs : n ≤ p + 1
          · exact ⟨_, b_sh2 (q := q) c9 c1 h60 (by rw [hcs]; exact w) hlt hs c10 (by omega), out_open⟩
          · have hb : ¬ (0 ≤ cs (p + 1) ∧ cs (p + 1) ≤ nI 9) := fun z => hk ⟨hlt, h0, h6, by rw [w]; show p + 2 ≤ n; omega, fun z => hi 2 1 w (by decide) z, fun _ => z, fun z => hi 2 4 w (by decide) z, fun z => hi 2 5 w (by decide) z⟩
            rcases nhd (by decide) hb with z | z
            · exact ⟨_, b_lo2 (q := q) c9 c1 h60 (by rw [hcs]; exact w) (by omega) c10 (by omega) (by rw [hcs]; exact z), (out_A rfl).trans (out_next.trans out_open)⟩
            · exact ⟨_, b_hi2 (q := q) c9 c1 h60 (by rw [hcs]; exact w) (by omega) c10 (by omega) (by rw [hcs]; exact z.1) (by rw [hcs]; exact z.2), (out_A rfl).trans (out_next.trans out_open)⟩
        · exact absurd ⟨hlt, h0, h6, by rw [w]; show p + 1 ≤ n; omega, fun z => hi 3 1 w (by decide) z, fun z => hi 3 2 w (by decide) z, fun z => hi 3 4 w (by decide) z, fun z => hi 3 5 w (by decide) z⟩ hk
        · by_cases hs : n ≤ p + 1
          · exact ⟨_, b_sh4 (q := q) c9 c1 h60 (by rw [hcs]; exact w) hlt hs c10 (by omega), out_open⟩
          · have hb : ¬ (0 ≤ cs (p + 1) ∧ cs (p + 1) ≤ nI 9) := fun z => hk ⟨hlt, h0, h6, by rw [w]; show p + 2 ≤ n; omega, fun z => hi 4 1 w (by decide) z, fun z => hi 4 2 w (by decide) z, fun _ => z, fun z => hi 4 5 w (by decide) z⟩
            rcases nhd (by decide) hb with z | z
            · exact ⟨_, b_lo4 (q := q) c9 c1 h60 (by rw [hcs]; exact w) (by omega) c10 (by omega) (by rw [hcs]; exact z), (out_A rfl).trans (out_next.trans out_open)⟩
            · exact ⟨_, b_hi4 (q := q) c9 c1 h60 (by rw [hcs]; exact w) (by omega) c10 (by omega) (by rw [hcs]; exact z.1) (by rw [hcs]; exact z.2), (out_A rfl).trans (out_next.trans out_open)⟩
        · by_cases hs : n ≤ p + 1
          · exact ⟨_, b_sh5 (q := q) c9 c1 h60 (by rw [hcs]; exact w) hlt hs c10 (by omega), out_open⟩
          · have hb : ¬ (0 ≤ cs (p + 1) ∧ cs (p + 1) ≤ nI 4) := fun z => hk ⟨hlt, h0, h6, by rw [w]; show p + 2 ≤ n; omega, fun z => hi 5 1 w (by decide) z, fun z => hi 5 2 w (by decide) z, fun z => hi 5 4 w (by decide) z, fun _ => z⟩
            rcases nhd (by decide) hb with z | z
            · exact ⟨_, b_lo5 (q := q) c9 c1 h60 (by rw [hcs]; exact w) (by omega) c10 (by omega) (by rw [hcs]; exact z), (out_A rfl).trans (out_next.trans out_open)⟩
            · exact ⟨_, b_hi5 (q := q) c9 c1 h60 (by rw [hcs]; exact w) (by omega) c10 (by omega) (by rw [hcs]; exact z.1) (by rw [hcs]; exact z.2), (out_A rfl).trans (out_next.trans out_open)⟩
        · exact absurd ⟨hlt, h0, h6, by rw [w]; show p + 1 ≤ n; omega, fun z => hi 6 1 w (by decide) z, fun z => hi 6 2 w (by decide) z, fun z => hi 6 4 w (by decide) z, fun z => hi 6 5 w (by decide) z⟩ hk
end SIM
/-- what a finished term leaves -/
def Post (n q dr dp D : Nat) (S : MSt) (r : Cv) (S' : MSt) : Prop := CS n r.2.2.1 q (dr + tsum r.1) r.2.2.2.1 dp (max D (dp + r.2.2.2.2.1)) S' ∧ KA q dr S S' ∧ S'.1 17 = r.2.1.1 ∧ S'.1 18 = r.2.1.2 ∧ S'.2 19 = S.2 19 ∧ S'.2 20 = S.2 20 ∧ TokAt (S'.2 25) dr r.1
theorem Gd_01 {cs : Nat → Int32} {n f p k : Nat} {M : Mn} (hk : hok cs n p = true) (h : cs p = 0) : Gd cs n (f + 1) M p k := ⟨⟨_, sy_01 hk (Or.inl h)⟩, by rw [cv_0 h]⟩
theorem Gd_2 {cs : Nat → Int32} {n f p k : Nat} {M : Mn} (hk : hok cs n p = true) (h : cs p = 2) : Gd cs n (f + 1) M p k ↔ Gd cs n f (mup M (cs (p + 1)).toNatClampNeg (1, nI k)) (p + 2) (k + 1) := by
  unfold Gd
  rw [sy_2 hk h, cv_2 h]
theorem bind_ex {a : Option Nat} {F : Nat → Option Nat} : (∃ c, a.bind F = some c) ↔ ∃ b, a = some b ∧ ∃ c, F b = some c :=
  ⟨fun ⟨_, h⟩ => let ⟨b, h1, h2⟩ := bind_some h; ⟨b, h1, _, h2⟩, fun ⟨b, h1, c, h2⟩ => ⟨c, by rw [h1]; exact h2⟩⟩
theorem Gd_4 {cs : Nat → Int32} {n f p k : Nat} {M : Mn} (hk : hok cs n p = true) (h : cs p = 4) : Gd cs n (f + 1) M p k ↔ (Gd cs n f M (p + 2) k ∧ Gd cs n f (mup M (cs (p + 1)).toNatClampNeg (cv cs f M (p + 2) k).2.1) (cv cs f M (p + 2) k).2.2.1 (cv cs f M (p + 2) k).2.2.2.1) := by
  unfold Gd
  rw [sy_345 hk (Or.inr (Or.inl h)), cv_4 h, h, show hl 4 = 2 from rfl, bind_ex]
  simp only [Bool.or_eq_false_iff]
  constructor
  · rintro ⟨⟨b, h1, c, h2⟩, h3, h4⟩
    have e := (cv_nums f M (p + 2) k b h1).1
    exact ⟨⟨⟨b, h1⟩, h3⟩, ⟨c, by rw [e]; exact h2⟩, h4⟩
  · rintro ⟨⟨⟨b, h1⟩, h3⟩, ⟨c, h2⟩, h4⟩
    have e := (cv_nums f M (p + 2) k b h1).1
    exact ⟨⟨b, h1, c, by rw [e] at h2; exact h2⟩, h3, h4⟩
theorem Gd_3 {cs : Nat → Int32} {n f p k : Nat} {M : Mn} (hk : hok cs n p = true) (h : cs p = 3) : Gd cs n (f + 1) M p k ↔ (Gd cs n f M (p + 1) k ∧ Gd cs n f M (cv cs f M (p + 1) k).2.2.1 (cv cs f M (p + 1) k).2.2.2.1) := by
  unfold Gd
  rw [sy_345 hk (Or.inl h), cv_3 h, h, show hl 3 = 1 from rfl, bind_ex]
  simp only [Bool.or_eq_false_iff]
  constructor
  · rintro ⟨⟨b, h1, c, h2⟩, h3, h4⟩
    have e := (cv_nums f M (p + 1) k b h1).1
    exact ⟨⟨⟨b, h1⟩, h3⟩, ⟨c, by rw [e]; exact h2⟩, h4⟩
  · rintro ⟨⟨⟨b, h1⟩, h3⟩, ⟨c, h2⟩, h4⟩
    have e := (cv_nums f M (p + 1) k b h1).1
    exact ⟨⟨b, h1, c, by rw [e] at h2; exact h2⟩, h3, h4⟩
theorem Gd_5 {cs : Nat → Int32} {n f p k : Nat} {M : Mn} (hk : hok cs n p = true) (h : cs p = 5) : Gd cs n (f + 1) M p k ↔ (Gd cs n f M (p + 2) k ∧ Gd cs n f M (cv cs f M (p + 2) k).2.2.1 (cv cs f M (p + 2) k).2.2.2.1) := by
  unfold Gd
  rw [sy_345 hk (Or.inr (Or.inr h)), cv_5 h, h, show hl 5 = 2 from rfl, bind_ex]
  simp only [Bool.or_eq_false_iff]
  constructor
  · rintro ⟨⟨b, h1, c, h2⟩, h3, h4⟩
    have e := (cv_nums f M (p + 2) k b h1).1
    exact ⟨⟨⟨b, h1⟩, h3⟩, ⟨c, by rw [e]; exact h2⟩, h4⟩
  · rintro ⟨⟨⟨b, h1⟩, h3⟩, ⟨c, h2⟩, h4⟩
    have e := (cv_nums f M (p + 2) k b h1).1
    exact ⟨⟨b, h1, c, by rw [e] at h2; exact h2⟩, h3, h4⟩
theorem Gd_6 {cs : Nat → Int32} {n f p k : Nat} {M : Mn} (hk : hok cs n p = true) (h : cs p = 6) : Gd cs n (f + 1) M p k ↔ (Gd cs n f M (p + 1) k ∧ Gd cs n f M (cv cs f M (p + 1) k).2.2.1 (cv cs f M (p + 1) k).2.2.2.1 ∧ Gd cs n f M (cv cs f M (cv cs f M (p + 1) k).2.2.1 (cv cs f M (p + 1) k).2.2.2.1).2.2.1 (cv cs f M (cv cs f M (p + 1) k).2.2.1 (cv cs f M (p + 1) k).2.2.2.1).2.2.2.1) := by
  unfold Gd
  rw [sy_6 hk h, cv_6 h, bind_ex]
  simp only [Bool.or_eq_false_iff, bind_ex]
  constructor
  · rintro ⟨⟨b, h1, c, h2, e, h5⟩, h3, h4, h6⟩
    have e1 := (cv_nums f M (p + 1) k b h1).1
    have e2 := (cv_nums f M b (cv cs f M (p + 1) k).2.2.2.1 c h2).1
    rw [e1]
    rw [e1] at h4 h6
    rw [e2]
    rw [e2] at h6
    exact ⟨⟨⟨b, h1⟩, h3⟩, ⟨⟨c, h2⟩, h4⟩, ⟨e, h5⟩, h6⟩
  · rintro ⟨⟨⟨b, h1⟩, h3⟩, ⟨⟨c, h2⟩, h4⟩, ⟨e, h5⟩, h6⟩
    have e1 := (cv_nums f M (p + 1) k b h1).1
    rw [e1] at h2 h4 h5 h6
    have e2 := (cv_nums f M b (cv cs f M (p + 1) k).2.2.2.1 c h2).1
    rw [e2] at h5 h6
    rw [e1]
    rw [e2]
    exact ⟨⟨b, h1, c, h2, e, h5⟩, h3, h4, h6⟩
