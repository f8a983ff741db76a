/-! ===== THE REFERENCE's OBJECT: at o, its 25 arrays behind it; its ints S.1 by field, its arrays' contents S.2 by field; around it any heap g ===== -/
abbrev MSt : Type := (Nat → Int32) × (Nat → Nat → Int32)
/-- how far behind the object the array of a field lies; 0: the field is no array -/
def mad (k : Nat) : Nat := [0, 0, 1, 0, 0, 2, 3, 4, 0, 0, 0, 5, 6, 7, 8, 9, 10, 0, 0, 11, 12, 0, 0, 0, 0, 13, 0, 14, 15, 16, 17, 0, 18, 19, 20, 0, 21, 22, 23, 24, 0, 0, 25].getD k 0
def mak (q : Nat) : Nat := [0, 2, 5, 6, 7, 11, 12, 13, 14, 15, 16, 19, 20, 25, 27, 28, 29, 30, 32, 33, 34, 36, 37, 38, 39, 42].getD q 0
def mlen (k : Nat) : Nat := [0, 0, 60, 0, 0, 800, 800, 4, 0, 0, 0, 61, 61, 61, 61, 61, 61, 0, 0, 10, 10, 0, 0, 0, 0, 800, 0, 900, 900, 900, 900, 0, 400, 400, 400, 0, 14, 14, 14, 14, 0, 0, 4].getD k 0
def mfd (o : Nat) (S : MSt) (k : Nat) : Value := if mad k = 0 then .int (S.1 k) else .ref (o + mad k)
def mfs (o : Nat) (S : MSt) : List Value := (List.range 43).map (mfd o S)
def marr (S : MSt) (k : Nat) : List Value := (List.range (mlen k)).map (fun n => .int (S.2 k n))
def mtg (k : Nat) : Nat := if k = 28 then 102 else 100
def mh (g : PH) (o : Nat) (S : MSt) : PH := (fun q => if q = o then some (10, mfs o S) else if o < q ∧ q ≤ o + 25 then some (mtg (mak (q - o)), marr S (mak (q - o))) else g.1 q, g.2)
def msI (S : MSt) (k : Nat) (x : Int32) : MSt := (fun j => if j = k then x else S.1 j, S.2)
def msA (S : MSt) (k n : Nat) (x : Int32) : MSt := (S.1, fun k' n' => if k' = k ∧ n' = n then x else S.2 k' n')
def mok (k : Nat) : Bool := decide (0 < mad k ∧ mad k ≤ 25 ∧ mak (mad k) = k)
theorem mh_o {g : PH} {o : Nat} {S : MSt} : (mh g o S).1 o = some (10, mfs o S) := if_pos rfl
theorem mh_a {g : PH} {o k : Nat} {S : MSt} (hk : mok k = true) : (mh g o S).1 (o + mad k) = some (mtg k, marr S k) := by
  obtain ⟨h1, h2, h3⟩ := of_decide_eq_true hk
  show (if o + mad k = o then _ else if o < o + mad k ∧ o + mad k ≤ o + 25 then some (mtg (mak (o + mad k - o)), marr S (mak (o + mad k - o))) else _) = _
  rw [if_neg (by omega), if_pos (by omega), Nat.add_sub_cancel_left, h3]
theorem mfs_at {o k : Nat} {S : MSt} (hk : k < 43) : (mfs o S)[k]? = some (mfd o S k) := by
  unfold mfs
  rw [List.getElem?_map, List.getElem?_range hk]
  rfl
theorem marr_at {k n : Nat} {S : MSt} (hn : n < mlen k) : (marr S k)[n]? = some (.int (S.2 k n)) := by
  unfold marr
  rw [List.getElem?_map, List.getElem?_range hn]
  rfl
theorem marr_len {k : Nat} {S : MSt} : (marr S k).length = mlen k := by unfold marr; rw [List.length_map, List.length_range]
theorem mlen_lt (k : Nat) : mlen k ≤ 900 := by
  unfold mlen
  by_cases h : k < 43
  · have : ∀ k, k < 43 → ([0, 0, 60, 0, 0, 800, 800, 4, 0, 0, 0, 61, 61, 61, 61, 61, 61, 0, 0, 10, 10, 0, 0, 0, 0, 800, 0, 900, 900, 900, 900, 0, 400, 400, 400, 0, 14, 14, 14, 14, 0, 0, 4] : List Nat).getD k 0 ≤ 900 := by decide
    exact this k h
  · rw [List.getD_eq_getElem?_getD, List.getElem?_eq_none (by simp; omega)]
    exact Nat.zero_le _
theorem mh_I {g : PH} {o k : Nat} {S : MSt} {x : Int32} (hm : mad k = 0) : pset (mh g o S) o (10, (mfs o S).set k (.int x)) = mh g o (msI S k x) := by
  unfold pset mh
  refine Prod.ext (funext fun q => ?_) rfl
  show (if q = o then some (10, (mfs o S).set k (.int x)) else if q = o then _ else _) = (if q = o then _ else _)
  by_cases e : q = o
  · rw [if_pos e, if_pos e]
    congr 2
    apply List.ext_getElem?
    intro i
    rw [List.getElem?_set]
    unfold mfs
    by_cases h43 : i < 43
    · rw [List.getElem?_map, List.getElem?_map, List.getElem?_range h43]
      by_cases ei : k = i
      · subst ei
        rw [if_pos rfl, if_pos (by simpa using h43)]
        simp [mfd, msI, hm]
      · rw [if_neg ei]
        simp only [Option.map_some, mfd, msI]
        congr 1
        split
        · rw [if_neg (fun z => ei z.symm)]
        · rfl
    · rw [List.getElem?_eq_none (by simp; omega), List.getElem?_eq_none (by simp; omega)]
      split
      · split
        next h => exact absurd h (by simp; omega)
        next => rfl
      · rfl
  · rw [if_neg e, if_neg e, if_neg e]
    rfl
theorem mh_A {g : PH} {o k n : Nat} {S : MSt} {x : Int32} (hk : mok k = true) : pset (mh g o S) (o + mad k) (mtg k, (marr S k).set n (.int x)) = mh g o (msA S k n x) := by
  obtain ⟨h1, h2, h3⟩ := of_decide_eq_true hk
  unfold pset mh
  refine Prod.ext (funext fun q => ?_) rfl
  show (if q = o + mad k then some (mtg k, (marr S k).set n (.int x)) else if q = o then some (10, mfs o S) else if o < q ∧ q ≤ o + 25 then some (mtg (mak (q - o)), marr S (mak (q - o))) else g.1 q) = (if q = o then some (10, mfs o (msA S k n x)) else if o < q ∧ q ≤ o + 25 then some (mtg (mak (q - o)), marr (msA S k n x) (mak (q - o))) else g.1 q)
  by_cases e : q = o + mad k
  · subst e
    rw [if_pos rfl, if_neg (by omega), if_pos (by omega), Nat.add_sub_cancel_left, h3]
    congr 2
    apply List.ext_getElem?
    intro i
    rw [List.getElem?_set]
    unfold marr
    by_cases hl : i < mlen k
    · rw [List.getElem?_map, List.getElem?_map, List.getElem?_range hl]
      by_cases ei : n = i
      · subst ei
        rw [if_pos rfl, if_pos (by simpa using hl)]
        simp [msA]
      · rw [if_neg ei]
        simp only [Option.map_some, msA]
        rw [if_neg (fun z => ei z.2.symm)]
    · rw [List.getElem?_eq_none (by simp; omega), List.getElem?_eq_none (by simp; omega)]
      split
      · split
        next h => exact absurd h (by simp; omega)
        next => rfl
      · rfl
  · rw [if_neg e]
    by_cases e0 : q = o
    · rw [if_pos e0, if_pos e0]
      rfl
    · rw [if_neg e0, if_neg e0]
      by_cases e1 : o < q ∧ q ≤ o + 25
      · rw [if_pos e1, if_pos e1]
        congr 2
        have hne : mak (q - o) ≠ k := by
          intro z
          have hq : q - o ≤ 25 := by omega
          have h0 : 0 < q - o := by omega
          have inj : ∀ a, a < 26 → 0 < a → mad (mak a) = a := by decide
          have := inj (q - o) (by omega) h0
          rw [z] at this
          omega
        unfold marr msA
        simp only
        apply List.map_congr_left
        intro i _
        rw [if_neg (fun z => hne z.1)]
      · rw [if_neg e1, if_neg e1]
section MR
variable {E : PE} {d mi pc o : Nat} {L : PL} {st : List Value} {g : PH} {S : MSt}
theorem m_get {j k : Nat} (hi : pin mi pc = some (.getfield j, 3)) (hl : pfl (mno mi) j = some (10, k)) (hk : k < 43) : Ex E d (mi, pc, L, .ref o :: st) (mh g o S) (mi, pc + 3, L, mfd o S k :: st) (mh g o S) := x_getf hi hl mh_o (mfs_at hk)
theorem m_put {j k : Nat} {x : Int32} (hi : pin mi pc = some (.putfield j, 3)) (hl : pfl (mno mi) j = some (10, k)) (hm : mad k = 0) (hn : narrow (pty 10 k) (.int x) = .int x) (hf : fits (pty 10 k) (.int x) = true) (hok : pfok mi 10 k = true) : Ex E d (mi, pc, L, .int x :: .ref o :: st) (mh g o S) (mi, pc + 3, L, st) (mh g o (msI S k x)) := by
  rw [← mh_I hm]
  exact x_putf hi hl mh_o hn hf hok
theorem m_iald {i : Int32} {k n : Nat} (hi : pin mi pc = some (.iaload, 1)) (hk : mok k = true) (h28 : ptag (mtg k) = some .int) (he : i = nI n) (hn : n < mlen k) : Ex E d (mi, pc, L, .int i :: .ref (o + mad k) :: st) (mh g o S) (mi, pc + 1, L, .int (S.2 k n) :: st) (mh g o S) :=
  x_iald hi (mh_a hk) h28 he (Nat.lt_of_lt_of_le hn (Nat.le_trans (mlen_lt k) (by decide))) (marr_at hn)
theorem m_iast {i x : Int32} {k n : Nat} (hi : pin mi pc = some (.iastore, 1)) (hk : mok k = true) (h28 : ptag (mtg k) = some .int) (ht : mtg k < 107) (he : i = nI n) (hn : n < mlen k) : Ex E d (mi, pc, L, .int x :: .int i :: .ref (o + mad k) :: st) (mh g o S) (mi, pc + 1, L, st) (mh g o (msA S k n x)) := by
  rw [← mh_A hk]
  exact x_iast hi (mh_a hk) h28 ht he (Nat.lt_of_lt_of_le hn (Nat.le_trans (mlen_lt k) (by decide))) (by rw [marr_len]; exact hn)
theorem m_zald {i : Int32} {n : Nat} (hi : pin mi pc = some (.baload, 1)) (he : i = nI n) (hn : n < 900) : Ex E d (mi, pc, L, .int i :: .ref (o + mad 28) :: st) (mh g o S) (mi, pc + 1, L, .int (S.2 28 n) :: st) (mh g o S) :=
  x_zald hi (mh_a rfl) rfl he (by omega) (marr_at hn)
theorem m_zast {i x : Int32} {n : Nat} (hi : pin mi pc = some (.bastore, 1)) (hx : narrow .boolean (.int x) = .int x) (he : i = nI n) (hn : n < 900) : Ex E d (mi, pc, L, .int x :: .int i :: .ref (o + mad 28) :: st) (mh g o S) (mi, pc + 1, L, st) (mh g o (msA S 28 n x)) := by
  rw [← mh_A rfl]
  have := x_zast (E := E) (d := d) (mi := mi) (pc := pc) (L := L) (st := st) (h := mh g o S) (x := x) hi (mh_a (k := 28) rfl) rfl (by decide) he (by omega) (by rw [marr_len]; exact hn)
  rw [hx] at this
  exact this
/-- a call of one of the reference's own methods -/
theorem m_call {j k : Nat} {st st1 rest As : List Value} {v : Option Value} {h1 : PH} (hi : pin mi pc = some (.invokevirtual j, 3)) (hl : pml (mno mi) j = some k) (hk : mkp k = true) (hs : (mkd k).1 = 1 ∨ (mkd k).1 = 3) (hst : st = As.reverse ++ .ref o :: rest) (ha : As.length + 1 = marg k) (hc : (pcls 10).1 = (mnam k).cls) (hw : (rest.map fun v => v.category).sum ≤ 8) (hr : Rn E d k (.ref o :: As) (mh g o S) v h1) (hst1 : st1 = v.toList ++ rest) :
    Ex E (d + 1) (mi, pc, L, st) (mh g o S) (mi, pc + 3, L, st1) h1 := x_callv hi hl hk hs hst ha mh_o (by decide) hc hw hr hst1
end MR
/-- from this frame the method runs to its end and answers v -/
def Rk (E : PE) (d : Nat) (F : PF) (h : PH) (v : Option Value) (h' : PH) : Prop := ∃ (pc : Nat) (L : PL) (st : List Value) (i : Instr), Ex E d F h (F.1, pc, L, st) h' ∧ pin F.1 pc = some (i, 1) ∧ pret F.1 i st v
theorem Rk.tr {E : PE} {d : Nat} {F F1 : PF} {h h1 h' : PH} {v : Option Value} (x : Ex E d F h F1 h1) (y : Rk E d F1 h1 v h') : Rk E d F h v h' := by
  obtain ⟨pc, L, st, i, y1, y2, y3⟩ := y
  have e : F1.1 = F.1 := x.1
  rw [e] at y1 y2 y3
  exact ⟨pc, L, st, i, x.tr y1, y2, y3⟩
theorem Rk.end {E : PE} {d mi pc : Nat} {L : PL} {st : List Value} {i : Instr} {h : PH} {v : Option Value} (hi : pin mi pc = some (i, 1)) (hr : pret mi i st v) : Rk E d (mi, pc, L, st) h v h := ⟨pc, L, st, i, Ex.rf, hi, hr⟩
theorem Rn.of {E : PE} {d m : Nat} {As : List Value} {h h' : PH} {v : Option Value} (hl : (pent0 As).length ≤ mmax m) (k : Rk E d (m, 0, pent As (mmax m), []) h v h') : Rn E d m As h v h' := ⟨hl, k⟩
