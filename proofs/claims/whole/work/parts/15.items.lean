/-! ===== A PROGRAM AS A LIST OF ITEMS: (kind, name, detail, atom, atom); kinds 2 FUN (detail: the parameter), 3 APPLY, 5 OP (detail: the operation), 9 RESULT (ends a row), others IF; how the reference's array holds it ===== -/
abbrev It : Type := Nat × Int32 × Int32 × (Int32 × Int32) × (Int32 × Int32)
def isz (it : It) : Nat := match it.1 with
  | 2 => 4
  | 3 => 7
  | 5 => 8
  | 9 => 3
  | _ => 5
def iat (it : It) : Nat := match it.1 with
  | 2 => 0
  | 3 => 2
  | 5 => 2
  | _ => 1
def ifo (it : It) : Nat := match it.1 with
  | 5 => 4
  | 9 => 1
  | _ => 3
/-- the rows that an item opens (less the one that RESULT closes) -/
def irw (it : It) : Nat := match it.1 with
  | 2 => 1
  | 3 => 0
  | 5 => 0
  | 9 => 0
  | _ => 2
def Tok1 (R : Nat → Int32) (p : Nat) (it : It) : Prop := match it.1 with
  | 2 => R p = 8 ∧ R (p + 1) = it.2.1 ∧ R (p + 2) = 2 ∧ R (p + 3) = it.2.2.1
  | 3 => R p = 8 ∧ R (p + 1) = it.2.1 ∧ R (p + 2) = 3 ∧ R (p + 3) = it.2.2.2.1.1 ∧ R (p + 4) = it.2.2.2.1.2 ∧ R (p + 5) = it.2.2.2.2.1 ∧ R (p + 6) = it.2.2.2.2.2
  | 5 => R p = 8 ∧ R (p + 1) = it.2.1 ∧ R (p + 2) = 5 ∧ R (p + 3) = it.2.2.1 ∧ R (p + 4) = it.2.2.2.1.1 ∧ R (p + 5) = it.2.2.2.1.2 ∧ R (p + 6) = it.2.2.2.2.1 ∧ R (p + 7) = it.2.2.2.2.2
  | 9 => R p = 9 ∧ R (p + 1) = it.2.2.2.1.1 ∧ R (p + 2) = it.2.2.2.1.2
  | _ => R p = 8 ∧ R (p + 1) = it.2.1 ∧ R (p + 2) = 6 ∧ R (p + 3) = it.2.2.2.1.1 ∧ R (p + 4) = it.2.2.2.1.2
def TokAt (R : Nat → Int32) : Nat → List It → Prop
  | _, [] => True
  | p, it :: Q => Tok1 R p it ∧ TokAt R (p + isz it) Q
def tsum : List It → Nat
  | [] => 0
  | it :: Q => isz it + tsum Q
/-- a kind is one of five -/
theorem kd5 (k : Nat) : k = 2 ∨ k = 3 ∨ k = 5 ∨ k = 9 ∨ (k ≠ 2 ∧ k ≠ 3 ∧ k ≠ 5 ∧ k ≠ 9) := by omega
theorem isz_ge (it : It) : 3 ≤ isz it := by
  unfold isz
  split <;> decide
theorem tsum_app (P Q : List It) : tsum (P ++ Q) = tsum P + tsum Q := by
  induction P with
  | nil => simp [tsum]
  | cons a P ih => simp [tsum, ih]; omega
theorem TokAt_app {R : Nat → Int32} {P Q : List It} : ∀ {p : Nat}, TokAt R p (P ++ Q) ↔ TokAt R p P ∧ TokAt R (p + tsum P) Q := by
  induction P with
  | nil => intro p; simp [TokAt, tsum]
  | cons a P ih =>
    intro p
    simp only [List.cons_append, TokAt, tsum]
    rw [ih, and_assoc, Nat.add_assoc]
theorem Tok1_shift {R R' : Nat → Int32} {p q : Nat} {it : It} (h : Tok1 R q it) (e : ∀ j, j < isz it → R' (p + j) = R (q + j)) : Tok1 R' p it := by
  obtain ⟨k, nm, dt, ⟨a1, a2⟩, b1, b2⟩ := it
  rcases kd5 k with rfl | rfl | rfl | rfl | ⟨n2, n3, n5, n9⟩
  · have e0 := e 0 (Nat.le_of_ble_eq_true rfl); have e1 := e 1 (Nat.le_of_ble_eq_true rfl); have e2 := e 2 (Nat.le_of_ble_eq_true rfl); have e3 := e 3 (Nat.le_of_ble_eq_true rfl)
    simp only [Tok1, Nat.add_zero] at *
    rw [e0, e1, e2, e3]
    exact h
  · have e0 := e 0 (Nat.le_of_ble_eq_true rfl); have e1 := e 1 (Nat.le_of_ble_eq_true rfl); have e2 := e 2 (Nat.le_of_ble_eq_true rfl); have e3 := e 3 (Nat.le_of_ble_eq_true rfl); have e4 := e 4 (Nat.le_of_ble_eq_true rfl); have e5 := e 5 (Nat.le_of_ble_eq_true rfl); have e6 := e 6 (Nat.le_of_ble_eq_true rfl)
    simp only [Tok1, Nat.add_zero] at *
    rw [e0, e1, e2, e3, e4, e5, e6]
    exact h
  · have e0 := e 0 (Nat.le_of_ble_eq_true rfl); have e1 := e 1 (Nat.le_of_ble_eq_true rfl); have e2 := e 2 (Nat.le_of_ble_eq_true rfl); have e3 := e 3 (Nat.le_of_ble_eq_true rfl); have e4 := e 4 (Nat.le_of_ble_eq_true rfl); have e5 := e 5 (Nat.le_of_ble_eq_true rfl); have e6 := e 6 (Nat.le_of_ble_eq_true rfl); have e7 := e 7 (Nat.le_of_ble_eq_true rfl)
    simp only [Tok1, Nat.add_zero] at *
    rw [e0, e1, e2, e3, e4, e5, e6, e7]
    exact h
  · have e0 := e 0 (Nat.le_of_ble_eq_true rfl); have e1 := e 1 (Nat.le_of_ble_eq_true rfl); have e2 := e 2 (Nat.le_of_ble_eq_true rfl)
    simp only [Tok1, Nat.add_zero] at *
    rw [e0, e1, e2]
    exact h
  · have hz : isz (k, nm, dt, (a1, a2), b1, b2) = 5 := by
      unfold isz
      split <;> first | rfl | (rename_i z; exact absurd z (by assumption))
    rw [hz] at e
    have e0 := e 0 (Nat.le_of_ble_eq_true rfl); have e1 := e 1 (Nat.le_of_ble_eq_true rfl); have e2 := e 2 (Nat.le_of_ble_eq_true rfl); have e3 := e 3 (Nat.le_of_ble_eq_true rfl); have e4 := e 4 (Nat.le_of_ble_eq_true rfl)
    have ht : ∀ (F : Nat → Int32) (x : Nat), Tok1 F x (k, nm, dt, (a1, a2), b1, b2) ↔ (F x = 8 ∧ F (x + 1) = nm ∧ F (x + 2) = 6 ∧ F (x + 3) = a1 ∧ F (x + 4) = a2) := by
      intro F x
      unfold Tok1
      split <;> first | (rename_i z; exact absurd z (by assumption)) | exact Iff.rfl
    rw [ht] at h ⊢
    simp only [Nat.add_zero] at e0
    rw [e0, e1, e2, e3, e4]
    exact h
theorem TokAt_shift {R R' : Nat → Int32} {Q : List It} : ∀ {p q : Nat}, TokAt R q Q → (∀ j, j < tsum Q → R' (p + j) = R (q + j)) → TokAt R' p Q := by
  induction Q with
  | nil => intro p q _ _; trivial
  | cons a Q ih =>
    intro p q h e
    obtain ⟨h1, h2⟩ := h
    refine ⟨Tok1_shift h1 (fun j hj => e j (by simp only [tsum]; omega)), ih h2 (fun j hj => ?_)⟩
    have := e (isz a + j) (by simp only [tsum]; omega)
    rw [← Nat.add_assoc, ← Nat.add_assoc] at this
    exact this
/-- what the reference reads of an item -/
theorem Tok1_sz {R : Nat → Int32} {p : Nat} {it : It} (h : Tok1 R p it) : tsz R p = isz it ∧ tat R p = iat it ∧ tfa R p = p + ifo it ∧ (R p = 9 ↔ it.1 = 9) ∧ (R p = 8 ↔ it.1 ≠ 9) ∧ (it.1 ≠ 9 → R (p + 1) = it.2.1) := by
  obtain ⟨k, nm, dt, ⟨a1, a2⟩, b1, b2⟩ := it
  rcases kd5 k with rfl | rfl | rfl | rfl | ⟨n2, n3, n5, n9⟩
  · obtain ⟨h0, h1, h2, -⟩ := h
    unfold tsz tat tfa
    rw [h0, h1, h2]
    exact ⟨rfl, rfl, rfl, iff_of_false (by decide) (show ¬ (2 : Nat) = 9 by decide), iff_of_true rfl (show (2 : Nat) ≠ 9 by decide), fun _ => rfl⟩
  · obtain ⟨h0, h1, h2, -⟩ := h
    unfold tsz tat tfa
    rw [h0, h1, h2]
    exact ⟨rfl, rfl, rfl, iff_of_false (by decide) (show ¬ (3 : Nat) = 9 by decide), iff_of_true rfl (show (3 : Nat) ≠ 9 by decide), fun _ => rfl⟩
  · obtain ⟨h0, h1, h2, -⟩ := h
    unfold tsz tat tfa
    rw [h0, h1, h2]
    exact ⟨rfl, rfl, rfl, iff_of_false (by decide) (show ¬ (5 : Nat) = 9 by decide), iff_of_true rfl (show (5 : Nat) ≠ 9 by decide), fun _ => rfl⟩
  · obtain ⟨h0, -⟩ := h
    unfold tsz tat tfa
    rw [h0]
    exact ⟨rfl, rfl, rfl, iff_of_true rfl rfl, iff_of_false (by decide) (fun z => z rfl), fun z => absurd rfl z⟩
  · have ht : R p = 8 ∧ R (p + 1) = nm ∧ R (p + 2) = 6 ∧ R (p + 3) = a1 ∧ R (p + 4) = a2 := by
      unfold Tok1 at h
      split at h <;> first | (rename_i z; exact absurd z (by assumption)) | exact h
    obtain ⟨h0, h1, h2, -⟩ := ht
    have hz : isz (k, nm, dt, (a1, a2), b1, b2) = 5 ∧ iat (k, nm, dt, (a1, a2), b1, b2) = 1 ∧ ifo (k, nm, dt, (a1, a2), b1, b2) = 3 := by
      refine ⟨?_, ?_, ?_⟩
      · unfold isz
        split <;> first | rfl | (rename_i z; exact absurd z (by assumption))
      · unfold iat
        split <;> first | rfl | (rename_i z; exact absurd z (by assumption))
      · unfold ifo
        split <;> first | rfl | (rename_i z; exact absurd z (by assumption))
    rw [hz.1, hz.2.1, hz.2.2]
    unfold tsz tat tfa
    rw [h0, h1, h2]
    refine ⟨rfl, rfl, rfl, ?_, ?_, fun _ => rfl⟩
    · exact ⟨fun z => absurd z (by decide), fun z => absurd z n9⟩
    · exact ⟨fun _ => n9, fun _ => rfl⟩
