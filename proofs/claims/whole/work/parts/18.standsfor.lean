/-! ===== standsFor ===== -/
def msR (S : MSt) (R : Nat → Int32) : MSt := (S.1, fun k n => if k = 5 then R n else S.2 k n)
theorem msR_self (S : MSt) : msR S (S.2 5) = S := by
  refine Prod.ext rfl (funext fun k => funext fun n => ?_)
  show (if k = 5 then S.2 5 n else S.2 k n) = S.2 k n
  split
  next h => rw [h]
  next => rfl
def rup (R : Nat → Int32) (q : Nat) (x : Int32) : Nat → Int32 := fun n => if n = q then x else R n
theorem msR_A (S : MSt) (R : Nat → Int32) (q : Nat) (x : Int32) : msA (msR S R) 5 q x = msR S (rup R q x) := by
  refine Prod.ext rfl (funext fun k => funext fun n => ?_)
  show (if k = 5 ∧ n = q then x else if k = 5 then R n else S.2 k n) = (if k = 5 then (if n = q then x else R n) else S.2 k n)
  by_cases h1 : k = 5
  · by_cases h2 : n = q
    · rw [if_pos ⟨h1, h2⟩, if_pos h1, if_pos h2]
    · rw [if_neg (fun z => h2 z.2), if_pos h1, if_pos h1, if_neg h2]
  · rw [if_neg (fun z => h1 z.1), if_neg h1, if_neg h1]
theorem msR_R (S : MSt) (R R' : Nat → Int32) : msR (msR S R) R' = msR S R' := by
  refine Prod.ext rfl (funext fun k => funext fun n => ?_)
  show (if k = 5 then R' n else if k = 5 then R n else S.2 k n) = (if k = 5 then R' n else S.2 k n)
  split <;> rfl
/-- the atom by takes the name's place -/
def sa (nm : Int32) (by0 x : Int32 × Int32) : Int32 × Int32 := if x = (1, nm) then by0 else x
/-- its first k atoms done -/
def ipt (nm : Int32) (by0 : Int32 × Int32) (it : It) (k : Nat) : It := (it.1, it.2.1, it.2.2.1, if 0 < k then sa nm by0 it.2.2.2.1 else it.2.2.2.1, if 1 < k then sa nm by0 it.2.2.2.2 else it.2.2.2.2)
def isb (nm : Int32) (by0 : Int32 × Int32) (it : It) : It := ipt nm by0 it (iat it)
def sta (it : It) (k : Nat) (x : Int32 × Int32) : It := if k = 0 then (it.1, it.2.1, it.2.2.1, x, it.2.2.2.2) else (it.1, it.2.1, it.2.2.1, it.2.2.2.1, x)
theorem kd_eq {it it' : It} (h : it.1 = it'.1) : isz it = isz it' ∧ iat it = iat it' ∧ ifo it = ifo it' ∧ irw it = irw it' := by
  unfold isz iat ifo irw
  rw [h]
  exact ⟨rfl, rfl, rfl, rfl⟩
theorem isb_sz (nm : Int32) (by0 : Int32 × Int32) (it : It) : isz (isb nm by0 it) = isz it := (kd_eq (it := isb nm by0 it) (it' := it) rfl).1
theorem isb_sum (nm : Int32) (by0 : Int32 × Int32) (Q : List It) : tsum (Q.map (isb nm by0)) = tsum Q := by
  induction Q with
  | nil => rfl
  | cons a Q ih => simp only [List.map_cons, tsum, isb_sz, ih]
theorem Tok1_sta {R : Nat → Int32} {p k : Nat} {it : It} {x y : Int32} (h : Tok1 R p it) (hk : k < iat it) : Tok1 (rup (rup R (p + ifo it + 2 * k) x) (p + ifo it + 2 * k + 1) y) p (sta it k (x, y)) := by
  have hr : ∀ q, q ≠ p + ifo it + 2 * k → q ≠ p + ifo it + 2 * k + 1 → rup (rup R (p + ifo it + 2 * k) x) (p + ifo it + 2 * k + 1) y q = R q := by
    intro q h1 h2
    unfold rup
    rw [if_neg h2, if_neg h1]
  have hx : rup (rup R (p + ifo it + 2 * k) x) (p + ifo it + 2 * k + 1) y (p + ifo it + 2 * k) = x := by
    unfold rup
    rw [if_neg (by omega), if_pos rfl]
  have hy : rup (rup R (p + ifo it + 2 * k) x) (p + ifo it + 2 * k + 1) y (p + ifo it + 2 * k + 1) = y := by
    unfold rup
    rw [if_pos rfl]
  generalize rup (rup R (p + ifo it + 2 * k) x) (p + ifo it + 2 * k + 1) y = R' at hr hx hy ⊢
  obtain ⟨kd, nm, dt, ⟨a1, a2⟩, b1, b2⟩ := it
  rcases kd5 kd with rfl | rfl | rfl | rfl | ⟨n2, n3, n5, n9⟩
  · exact absurd hk (Nat.not_lt_zero k)
  · have hk : k < 2 := hk
    have hr : ∀ q, q ≠ p + 3 + 2 * k → q ≠ p + 3 + 2 * k + 1 → R' q = R q := hr
    have hx : R' (p + 3 + 2 * k) = x := hx
    have hy : R' (p + 3 + 2 * k + 1) = y := hy
    obtain ⟨h0, h1, h2, h3, h4, h5, h6⟩ := h
    rcases (show k = 0 ∨ k = 1 by omega) with rfl | rfl
    · exact ⟨by rw [hr p (by omega) (by omega)]; exact h0, by rw [hr (p + 1) (by omega) (by omega)]; exact h1, by rw [hr (p + 2) (by omega) (by omega)]; exact h2, hx, hy, by rw [hr (p + 5) (by omega) (by omega)]; exact h5, by rw [hr (p + 6) (by omega) (by omega)]; exact h6⟩
    · exact ⟨by rw [hr p (by omega) (by omega)]; exact h0, by rw [hr (p + 1) (by omega) (by omega)]; exact h1, by rw [hr (p + 2) (by omega) (by omega)]; exact h2, by rw [hr (p + 3) (by omega) (by omega)]; exact h3, by rw [hr (p + 4) (by omega) (by omega)]; exact h4, hx, hy⟩
  · have hk : k < 2 := hk
    have hr : ∀ q, q ≠ p + 4 + 2 * k → q ≠ p + 4 + 2 * k + 1 → R' q = R q := hr
    have hx : R' (p + 4 + 2 * k) = x := hx
    have hy : R' (p + 4 + 2 * k + 1) = y := hy
    obtain ⟨h0, h1, h2, h3, h4, h5, h6, h7⟩ := h
    rcases (show k = 0 ∨ k = 1 by omega) with rfl | rfl
    · exact ⟨by rw [hr p (by omega) (by omega)]; exact h0, by rw [hr (p + 1) (by omega) (by omega)]; exact h1, by rw [hr (p + 2) (by omega) (by omega)]; exact h2, by rw [hr (p + 3) (by omega) (by omega)]; exact h3, hx, hy, by rw [hr (p + 6) (by omega) (by omega)]; exact h6, by rw [hr (p + 7) (by omega) (by omega)]; exact h7⟩
    · exact ⟨by rw [hr p (by omega) (by omega)]; exact h0, by rw [hr (p + 1) (by omega) (by omega)]; exact h1, by rw [hr (p + 2) (by omega) (by omega)]; exact h2, by rw [hr (p + 3) (by omega) (by omega)]; exact h3, by rw [hr (p + 4) (by omega) (by omega)]; exact h4, by rw [hr (p + 5) (by omega) (by omega)]; exact h5, hx, hy⟩
  · have hk : k < 1 := hk
    have hr : ∀ q, q ≠ p + 1 + 2 * k → q ≠ p + 1 + 2 * k + 1 → R' q = R q := hr
    have hx : R' (p + 1 + 2 * k) = x := hx
    have hy : R' (p + 1 + 2 * k + 1) = y := hy
    obtain ⟨h0, h1, h2⟩ := h
    rcases (show k = 0 by omega) with rfl
    exact ⟨by rw [hr p (by omega) (by omega)]; exact h0, hx, hy⟩
  · have ht : ∀ (F : Nat → Int32) (c1 c2 : Int32 × Int32), Tok1 F p (kd, nm, dt, c1, c2) ↔ (F p = 8 ∧ F (p + 1) = nm ∧ F (p + 2) = 6 ∧ F (p + 3) = c1.1 ∧ F (p + 4) = c1.2) := by
      intro F c1 c2
      unfold Tok1
      split <;> first | (rename_i z; exact absurd z (by assumption)) | exact Iff.rfl
    have hz : iat (kd, nm, dt, (a1, a2), b1, b2) = 1 ∧ ifo (kd, nm, dt, (a1, a2), b1, b2) = 3 := by
      refine ⟨?_, ?_⟩
      · unfold iat
        split <;> first | rfl | (rename_i z; exact absurd z (by assumption))
      · unfold ifo
        split <;> first | rfl | (rename_i z; exact absurd z (by assumption))
    rw [hz.1] at hk
    rw [hz.2] at hr hx hy
    rcases (show k = 0 by omega) with rfl
    rw [ht] at h
    show Tok1 R' p (kd, nm, dt, (x, y), (b1, b2))
    rw [ht]
    exact ⟨by rw [hr p (by omega) (by omega)]; exact h.1, by rw [hr (p + 1) (by omega) (by omega)]; exact h.2.1, by rw [hr (p + 2) (by omega) (by omega)]; exact h.2.2.1, hx, hy⟩
theorem ipt_next {nm : Int32} {by0 : Int32 × Int32} {it : It} {k : Nat} (hk : k < 2) : ipt nm by0 it (k + 1) = sta (ipt nm by0 it k) k (sa nm by0 (iatm it k)) := by
  rcases (show k = 0 ∨ k = 1 by omega) with rfl | rfl <;> rfl
theorem ipt_same {nm : Int32} {by0 : Int32 × Int32} {it : It} {k : Nat} (hk : k < 2) (h : ¬ iatm it k = (1, nm)) : ipt nm by0 it (k + 1) = ipt nm by0 it k := by
  rcases (show k = 0 ∨ k = 1 by omega) with rfl | rfl
  · have h : ¬ it.2.2.2.1 = (1, nm) := h
    unfold ipt sa
    simp [h]
  · have h : ¬ it.2.2.2.2 = (1, nm) := h
    unfold ipt sa
    simp [h]
theorem ipt_atm {nm : Int32} {by0 : Int32 × Int32} {it : It} {k : Nat} (hk : k < 2) : iatm (ipt nm by0 it k) k = iatm it k := by
  rcases (show k = 0 ∨ k = 1 by omega) with rfl | rfl <;> rfl
section M4
variable {E : PE} {d o len : Nat} {g : PH} {S : MSt}
theorem lp_sub_in {nm bk bv : Int32} {it : It} {p : Nat} (hp : p + isz it ≤ 800) : ∀ (r k : Nat) (x : Option Value) (R : Nat → Int32), k + r = iat it → Tok1 R p (ipt nm (bk, bv) it k) →
    ∃ R' : Nat → Int32, Ex E (d + 1) (29, 15, [some (.ref o), some (.int nm), some (.int bk), some (.int bv), some (.int (nI (p))), some (.int (nI k)), x], []) (mh g o (msR S R)) (29, 87, [some (.ref o), some (.int nm), some (.int bk), some (.int bv), some (.int (nI (p))), none, none], []) (mh g o (msR S R')) ∧ Tok1 R' p (isb nm (bk, bv) it) ∧ ∀ n, n < p ∨ p + isz it ≤ n → R' n = R n := by
  have h3 := isz_ge it
  have h2 : iat it ≤ 2 := by unfold iat; split <;> decide
  intro r
  induction r with
  | zero =>
    intro k x R hk hT
    have hs := Tok1_sz hT
    have he := kd_eq (it := ipt nm (bk, bv) it k) (it' := it) rfl
    refine ⟨R, ?_, ?_, fun _ _ => rfl⟩
    · skip
      refine Ex.tr (F1 := (29, 17, _, _)) (x_iload rfl rfl) ?_
      refine Ex.tr (F1 := (29, 18, _, _)) (x_aload_n rfl rfl rfl) ?_
      refine Ex.tr (F1 := (29, 20, _, _)) (x_iload rfl rfl) ?_
      refine Ex.tr (F1 := (29, 23, _, _)) (m_call (As := [_]) rfl rfl rfl (Or.inr rfl) rfl rfl rfl (Nat.le_of_ble_eq_true rfl) (c_atoms (by omega)) rfl) ?_
      refine Ex.tr (F1 := (29, 87, _, _)) (x_icT rfl (tg := 87) rfl (by show nI (tat R p) ≤ nI k; rw [hs.2.1, he.2.1]; exact nI_le (by omega) (by omega))) ?_
      exact x_wk ⟨Or.inr rfl, Or.inr rfl, Or.inr rfl, Or.inr rfl, Or.inr rfl, Or.inl rfl, Or.inl rfl, trivial⟩
    · unfold isb
      rw [show iat it = k by omega]
      exact hT
  | succ r ih =>
    intro k x R hk hT
    have hs := Tok1_sz hT
    have he := kd_eq (it := ipt nm (bk, bv) it k) (it' := it) rfl
    generalize hi0 : ipt nm (bk, bv) it k = it0 at hT hs he
    obtain ⟨q1, q2, q3⟩ := Tok1_at hT (j := k) (by omega)
    have hat : iatm it0 k = iatm it k := by rw [← hi0]; exact ipt_atm (by omega)
    rw [hat] at q1 q2
    have ek : Ex E (d + 1) (29, 15, [some (.ref o), some (.int nm), some (.int bk), some (.int bv), some (.int (nI (p))), some (.int (nI k)), x], []) (mh g o (msR S R)) (29, 39, [some (.ref o), some (.int nm), some (.int bk), some (.int bv), some (.int (nI (p))), some (.int (nI k)), some (.int (nI (p + ifo it0 + 2 * k)))], []) (mh g o (msR S R)) := by
      refine Ex.tr (F1 := (29, 17, _, _)) (x_iload rfl rfl) ?_
      refine Ex.tr (F1 := (29, 18, _, _)) (x_aload_n rfl rfl rfl) ?_
      refine Ex.tr (F1 := (29, 20, _, _)) (x_iload rfl rfl) ?_
      refine Ex.tr (F1 := (29, 23, _, _)) (m_call (As := [_]) rfl rfl rfl (Or.inr rfl) rfl rfl rfl (Nat.le_of_ble_eq_true rfl) (c_atoms (by omega)) rfl) ?_
      refine Ex.tr (F1 := (29, 26, _, _)) (x_icF rfl (tg := 87) rfl (by show ¬ nI (tat R p) ≤ nI k; rw [hs.2.1, he.2.1]; exact nI_ge (by omega) (by omega))) ?_
      refine Ex.tr (F1 := (29, 27, _, _)) (x_aload_n rfl rfl rfl) ?_
      refine Ex.tr (F1 := (29, 29, _, _)) (x_iload rfl rfl) ?_
      refine Ex.tr (F1 := (29, 32, _, _)) (m_call (As := [_]) rfl rfl rfl (Or.inr rfl) rfl rfl rfl (Nat.le_of_ble_eq_true rfl) (c_firstAtom (by omega)) rfl) ?_
      refine Ex.tr (F1 := (29, 33, _, _)) (x_iconst rfl) ?_
      refine Ex.tr (F1 := (29, 35, _, _)) (x_iload rfl rfl) ?_
      refine Ex.tr (F1 := (29, 36, _, _)) (x_imul rfl) ?_
      refine Ex.tr (F1 := (29, 37, _, _)) (x_iadd rfl) ?_
      refine Ex.tr (F1 := (29, 37, _, _)) (x_top (y := nI (p + ifo it0 + 2 * k)) (by rw [show tfa ((msR S R).2 5) p = p + ifo it0 from hs.2.2.1]; show nI (p + ifo it0) + nI 2 * nI k = nI (p + ifo it0 + 2 * k); rw [pk_mul, nI_add])) ?_
      refine Ex.tr (F1 := (29, 39, [_, _, _, _, _, _, _], _)) (x_istore (i := 6) rfl (Nat.le_of_ble_eq_true rfl)) ?_
      exact Ex.rf
    by_cases e : iatm it k = (1, nm)
    · have e1 : (iatm it k).1 = 1 := by rw [e]
      have e2 : (iatm it k).2 = nm := by rw [e]
      have hT2 : Tok1 (rup (rup R (p + ifo it0 + 2 * k) bk) (p + ifo it0 + 2 * k + 1) bv) p (ipt nm (bk, bv) it (k + 1)) := by
        rw [ipt_next (by omega), hi0]
        have : sa nm (bk, bv) (iatm it k) = (bk, bv) := if_pos e
        rw [this]
        exact Tok1_sta hT (by omega)
      obtain ⟨R', x1, x2, x3⟩ := ih (k + 1) (some (.int (nI (p + ifo it0 + 2 * k)))) _ (by omega) hT2
      refine ⟨R', ek.tr ?_, x2, fun n hn => ?_⟩
      · rw [← nI_1 k, ← msR_A, ← msR_A] at x1
        refine Ex.tr (F1 := (29, 40, _, _)) (x_aload_n rfl rfl rfl) ?_
        refine Ex.tr (F1 := (29, 43, _, _)) (m_get rfl rfl (Nat.le_of_ble_eq_true rfl)) ?_
        refine Ex.tr (F1 := (29, 45, _, _)) (x_iload rfl rfl) ?_
        refine Ex.tr (F1 := (29, 46, _, _)) (m_iald (k := 5) (n := p + ifo it0 + 2 * k) rfl rfl rfl rfl (show p + ifo it0 + 2 * k < 800 by omega)) ?_
        refine Ex.tr (F1 := (29, 47, _, _)) (x_iconst rfl) ?_
        refine Ex.tr (F1 := (29, 50, _, _)) (x_icF rfl (tg := 81) rfl (fun z => z (q1.trans e1))) ?_
        refine Ex.tr (F1 := (29, 51, _, _)) (x_aload_n rfl rfl rfl) ?_
        refine Ex.tr (F1 := (29, 54, _, _)) (m_get rfl rfl (Nat.le_of_ble_eq_true rfl)) ?_
        refine Ex.tr (F1 := (29, 56, _, _)) (x_iload rfl rfl) ?_
        refine Ex.tr (F1 := (29, 57, _, _)) (x_iconst rfl) ?_
        refine Ex.tr (F1 := (29, 58, _, _)) (x_iadd rfl) ?_
        refine Ex.tr (F1 := (29, 59, _, _)) (m_iald (k := 5) (n := p + ifo it0 + 2 * k + 1) rfl rfl rfl (nI_1 _) (show p + ifo it0 + 2 * k + 1 < 800 by omega)) ?_
        refine Ex.tr (F1 := (29, 60, _, _)) (x_iload_n rfl rfl) ?_
        refine Ex.tr (F1 := (29, 63, _, _)) (x_icF rfl (tg := 81) rfl (fun z => z (q2.trans e2))) ?_
        refine Ex.tr (F1 := (29, 64, _, _)) (x_aload_n rfl rfl rfl) ?_
        refine Ex.tr (F1 := (29, 67, _, _)) (m_get rfl rfl (Nat.le_of_ble_eq_true rfl)) ?_
        refine Ex.tr (F1 := (29, 69, _, _)) (x_iload rfl rfl) ?_
        refine Ex.tr (F1 := (29, 70, _, _)) (x_iload_n rfl rfl) ?_
        refine Ex.tr (F1 := (29, 71, _, _)) (m_iast (k := 5) (n := p + ifo it0 + 2 * k) rfl rfl rfl (Nat.le_of_ble_eq_true rfl) rfl (show p + ifo it0 + 2 * k < 800 by omega)) ?_
        refine Ex.tr (F1 := (29, 72, _, _)) (x_aload_n rfl rfl rfl) ?_
        refine Ex.tr (F1 := (29, 75, _, _)) (m_get rfl rfl (Nat.le_of_ble_eq_true rfl)) ?_
        refine Ex.tr (F1 := (29, 77, _, _)) (x_iload rfl rfl) ?_
        refine Ex.tr (F1 := (29, 78, _, _)) (x_iconst rfl) ?_
        refine Ex.tr (F1 := (29, 79, _, _)) (x_iadd rfl) ?_
        refine Ex.tr (F1 := (29, 80, _, _)) (x_iload_n rfl rfl) ?_
        refine Ex.tr (F1 := (29, 81, _, _)) (m_iast (k := 5) (n := p + ifo it0 + 2 * k + 1) rfl rfl rfl (Nat.le_of_ble_eq_true rfl) (nI_1 _) (show p + ifo it0 + 2 * k + 1 < 800 by omega)) ?_
        refine Ex.tr (F1 := (29, 84, [_, _, _, _, _, _, _], _)) (x_iinc (i := 5) rfl rfl) ?_
        refine Ex.tr (F1 := (29, 15, _, _)) (x_goto rfl rfl) ?_
        exact x1
      · rw [x3 n hn]
        unfold rup
        rw [if_neg (by omega), if_neg (by omega)]
    · have hT2 : Tok1 R p (ipt nm (bk, bv) it (k + 1)) := by
        rw [ipt_same (by omega) e, hi0]
        exact hT
      obtain ⟨R', x1, x2, x3⟩ := ih (k + 1) (some (.int (nI (p + ifo it0 + 2 * k)))) _ (by omega) hT2
      refine ⟨R', ek.tr ?_, x2, x3⟩
      rw [← nI_1 k] at x1
      by_cases e1 : (iatm it k).1 = 1
      · have e2 : ¬ (iatm it k).2 = nm := fun z => e (Prod.ext e1 z)
        refine Ex.tr (F1 := (29, 40, _, _)) (x_aload_n rfl rfl rfl) ?_
        refine Ex.tr (F1 := (29, 43, _, _)) (m_get rfl rfl (Nat.le_of_ble_eq_true rfl)) ?_
        refine Ex.tr (F1 := (29, 45, _, _)) (x_iload rfl rfl) ?_
        refine Ex.tr (F1 := (29, 46, _, _)) (m_iald (k := 5) (n := p + ifo it0 + 2 * k) rfl rfl rfl rfl (show p + ifo it0 + 2 * k < 800 by omega)) ?_
        refine Ex.tr (F1 := (29, 47, _, _)) (x_iconst rfl) ?_
        refine Ex.tr (F1 := (29, 50, _, _)) (x_icF rfl (tg := 81) rfl (fun z => z (q1.trans e1))) ?_
        refine Ex.tr (F1 := (29, 51, _, _)) (x_aload_n rfl rfl rfl) ?_
        refine Ex.tr (F1 := (29, 54, _, _)) (m_get rfl rfl (Nat.le_of_ble_eq_true rfl)) ?_
        refine Ex.tr (F1 := (29, 56, _, _)) (x_iload rfl rfl) ?_
        refine Ex.tr (F1 := (29, 57, _, _)) (x_iconst rfl) ?_
        refine Ex.tr (F1 := (29, 58, _, _)) (x_iadd rfl) ?_
        refine Ex.tr (F1 := (29, 59, _, _)) (m_iald (k := 5) (n := p + ifo it0 + 2 * k + 1) rfl rfl rfl (nI_1 _) (show p + ifo it0 + 2 * k + 1 < 800 by omega)) ?_
        refine Ex.tr (F1 := (29, 60, _, _)) (x_iload_n rfl rfl) ?_
        refine Ex.tr (F1 := (29, 81, _, _)) (x_icT rfl (tg := 81) rfl (fun z => e2 (q2.symm.trans z))) ?_
        refine Ex.tr (F1 := (29, 84, [_, _, _, _, _, _, _], _)) (x_iinc (i := 5) rfl rfl) ?_
        refine Ex.tr (F1 := (29, 15, _, _)) (x_goto rfl rfl) ?_
        exact x1
      · skip
        refine Ex.tr (F1 := (29, 40, _, _)) (x_aload_n rfl rfl rfl) ?_
        refine Ex.tr (F1 := (29, 43, _, _)) (m_get rfl rfl (Nat.le_of_ble_eq_true rfl)) ?_
        refine Ex.tr (F1 := (29, 45, _, _)) (x_iload rfl rfl) ?_
        refine Ex.tr (F1 := (29, 46, _, _)) (m_iald (k := 5) (n := p + ifo it0 + 2 * k) rfl rfl rfl rfl (show p + ifo it0 + 2 * k < 800 by omega)) ?_
        refine Ex.tr (F1 := (29, 47, _, _)) (x_iconst rfl) ?_
        refine Ex.tr (F1 := (29, 81, _, _)) (x_icT rfl (tg := 81) rfl (fun z => e1 (q1.symm.trans z))) ?_
        refine Ex.tr (F1 := (29, 84, [_, _, _, _, _, _, _], _)) (x_iinc (i := 5) rfl rfl) ?_
        refine Ex.tr (F1 := (29, 15, _, _)) (x_goto rfl rfl) ?_
        exact x1
theorem lp_sub {nm bk bv : Int32} (hl : S.1 4 = nI len) (h8 : len ≤ 800) : ∀ (Q : List It) (p : Nat) (x y : Option Value) (R : Nat → Int32), TokAt R p Q → p + tsum Q = len →
    ∃ R' : Nat → Int32, Rk E (d + 1) (29, 3, [some (.ref o), some (.int nm), some (.int bk), some (.int bv), some (.int (nI (p))), x, y], []) (mh g o (msR S R)) none (mh g o (msR S R')) ∧ TokAt R' p (Q.map (isb nm (bk, bv))) ∧ ∀ n, n < p → R' n = R n := by
  intro Q
  induction Q with
  | nil =>
    intro p x y R _ hp
    simp only [tsum] at hp
    refine ⟨R, ?_, trivial, fun _ _ => rfl⟩
    refine Rk.tr (F1 := (29, 5, _, _)) (x_iload rfl rfl) ?_
    refine Rk.tr (F1 := (29, 6, _, _)) (x_aload_n rfl rfl rfl) ?_
    refine Rk.tr (F1 := (29, 9, _, _)) (m_get rfl rfl (Nat.le_of_ble_eq_true rfl)) ?_
    refine Rk.tr (F1 := (29, 101, _, _)) (x_icT rfl (tg := 101) rfl (by show S.1 4 ≤ nI p; rw [hl]; exact nI_le (by omega) (by omega))) ?_
    exact Rk.end rfl (Or.inl ⟨rfl, rfl, rfl, rfl⟩)
  | cons it Q ih =>
    intro p x y R hT hp
    obtain ⟨h1, h2⟩ := hT
    simp only [tsum] at hp
    have h3 := isz_ge it
    have h0 : ipt nm (bk, bv) it 0 = it := rfl
    obtain ⟨R1, x1, x2, x3⟩ := lp_sub_in (E := E) (d := d) (o := o) (g := g) (S := S) (nm := nm) (bk := bk) (bv := bv) (it := it) (p := p) (by omega) (iat it) 0 y R (by omega) (by rw [h0]; exact h1)
    have hs := Tok1_sz x2
    have h2' : TokAt R1 (p + isz it) Q := TokAt_shift h2 (fun j _ => x3 _ (by omega))
    obtain ⟨R', y1, y2, y3⟩ := ih (p + isz it) none none R1 h2' (by omega)
    refine ⟨R', ?_, ⟨?_, by rw [isb_sz]; exact y2⟩, fun n hn => by rw [y3 n (by omega), x3 n (by omega)]⟩
    · skip
      refine Rk.tr (F1 := (29, 5, _, _)) (x_iload rfl rfl) ?_
      refine Rk.tr (F1 := (29, 6, _, _)) (x_aload_n rfl rfl rfl) ?_
      refine Rk.tr (F1 := (29, 9, _, _)) (m_get rfl rfl (Nat.le_of_ble_eq_true rfl)) ?_
      refine Rk.tr (F1 := (29, 12, _, _)) (x_icF rfl (tg := 101) rfl (by show ¬ S.1 4 ≤ nI p; rw [hl]; exact nI_ge (by omega) (by omega))) ?_
      refine Rk.tr (F1 := (29, 13, _, _)) (x_iconst rfl) ?_
      refine Rk.tr (F1 := (29, 15, [_, _, _, _, _, _, _], _)) (x_istore (i := 5) rfl (Nat.le_of_ble_eq_true rfl)) ?_
      refine Rk.tr x1 ?_
      refine Rk.tr (F1 := (29, 89, _, _)) (x_iload rfl rfl) ?_
      refine Rk.tr (F1 := (29, 90, _, _)) (x_aload_n rfl rfl rfl) ?_
      refine Rk.tr (F1 := (29, 92, _, _)) (x_iload rfl rfl) ?_
      refine Rk.tr (F1 := (29, 95, _, _)) (m_call (As := [_]) rfl rfl rfl (Or.inr rfl) rfl rfl rfl (Nat.le_of_ble_eq_true rfl) (c_size (by omega)) rfl) ?_
      refine Rk.tr (F1 := (29, 96, _, _)) (x_iadd rfl) ?_
      refine Rk.tr (F1 := (29, 96, _, _)) (x_top (y := nI (p + isz it)) (by rw [show tsz ((msR S R1).2 5) p = isz it from hs.1.trans (isb_sz _ _ _)]; exact nI_add p _)) ?_
      refine Rk.tr (F1 := (29, 98, [_, _, _, _, _, _, _], _)) (x_istore (i := 4) rfl (Nat.le_of_ble_eq_true rfl)) ?_
      refine Rk.tr (F1 := (29, 3, _, _)) (x_goto rfl rfl) ?_
      exact y1
    · refine Tok1_shift x2 (fun j hj => ?_)
      rw [isb_sz] at hj
      exact y3 _ (by omega)
theorem c_standsFor {nm bk bv : Int32} {P : List It} (hl : S.1 4 = nI len) (h8 : len ≤ 800) (hT : TokAt (S.2 5) 0 P) (hp : tsum P = len) : ∃ R' : Nat → Int32, Rn E (d + 1) 29 [.ref o, .int nm, .int bk, .int bv] (mh g o S) none (mh g o (msR S R')) ∧ TokAt R' 0 (P.map (isb nm (bk, bv))) := by
  obtain ⟨R', x1, x2, -⟩ := lp_sub (E := E) (d := d) (o := o) (g := g) (S := S) (nm := nm) (bk := bk) (bv := bv) hl h8 P 0 none none (S.2 5) hT (by omega)
  rw [msR_self] at x1
  refine ⟨R', ?_, x2⟩
  refine Rn.of (Nat.le_of_ble_eq_true rfl) ?_
  refine Rk.tr (F1 := (29, 1, _, _)) (x_iconst rfl) ?_
  refine Rk.tr (F1 := (29, 3, [_, _, _, _, _, _, _], _)) (x_istore (i := 4) rfl (Nat.le_of_ble_eq_true rfl)) ?_
  exact x1
end M4
