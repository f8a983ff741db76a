/-! ===== the reference's run: load, keep, enters ===== -/
abbrev Val : Type := Bool × Int32
abbrev Env : Type := List (Int32 × Val)
def look : Env → Int32 → Val
  | [], _ => (false, 0)
  | q :: L, y => if q.1 = y then q.2 else look L y
def lkE (L : Env) (a : Int32 × Int32) : Val := if a.1 = 0 then (false, a.2) else look L a.2
def bI (b : Bool) : Int32 := if b = true then 1 else 0
/-- a chain of cells, the last one first; each cell's before lies lower -/
def En (Cl : Nat → Int32 → Val → Int32 → Prop) : Nat → Int32 → Env → Prop
  | _, c, [] => c = -1
  | b, c, q :: L => ∃ (j : Nat) (c' : Int32), j < b ∧ c = nI j ∧ Cl j q.1 q.2 c' ∧ En Cl j c' L
theorem En.mono {Cl Cl' : Nat → Int32 → Val → Int32 → Prop} : ∀ {L : Env} {b b' : Nat} {c : Int32}, En Cl b c L → b ≤ b' → (∀ j x v c', j < b → Cl j x v c' → Cl' j x v c') → En Cl' b' c L
  | [], _, _, _, h, _, _ => h
  | q :: L, b, b', c, ⟨j, c', h1, h2, h3, h4⟩, hb, hc => ⟨j, c', by omega, h2, hc j _ _ _ h1 h3, En.mono h4 (Nat.le_refl _) (fun i x v d hi => hc i x v d (by omega))⟩
theorem En.len {Cl : Nat → Int32 → Val → Int32 → Prop} : ∀ {L : Env} {b : Nat} {c : Int32}, En Cl b c L → L.length ≤ b
  | [], _, _, _ => Nat.zero_le _
  | _ :: L, b, c, ⟨j, c', h1, _, _, h4⟩ => by
    have := En.len h4
    simp only [List.length_cons]
    omega
/-- the reference's cell j; a function's number is below nf -/
def rcl (S : MSt) (nf j : Nat) (x : Int32) (v : Val) (c' : Int32) : Prop := S.2 27 j = x ∧ S.2 28 j = bI v.1 ∧ S.2 29 j = v.2 ∧ S.2 30 j = c' ∧ (v.1 = true → ∃ k, k < nf ∧ v.2 = nI k)
def mVal (S : MSt) (v : Val) : MSt := msI (msI S 40 (bI v.1)) 41 v.2
theorem mVal2 {S : MSt} {a b : Int32} {v : Val} : msI (msI (msI (msI S 40 a) 41 b) 40 (bI v.1)) 41 v.2 = mVal S v := by
  refine Prod.ext (funext fun j => ?_) rfl
  show (if j = 41 then v.2 else if j = 40 then bI v.1 else if j = 41 then b else if j = 40 then a else S.1 j) = (if j = 41 then v.2 else if j = 40 then bI v.1 else S.1 j)
  by_cases h1 : j = 41
  · simp [h1]
  · by_cases h0 : j = 40
    · simp [h0]
    · simp [h0, h1]
def mKeep (S : MSt) (m : Nat) (nm bf : Int32) : MSt := msI (msA (msA (msA (msA S 27 m nm) 28 m (S.1 40)) 29 m (S.1 41)) 30 m bf) 26 (S.1 26 + 1)
section M17
variable {E : PE} {d o q nc nf : Nat} {g : PH} {S : MSt}
theorem lp_load {y x : Int32} (hq : q + 1 < 800) (hy : S.2 5 (q + 1) = y) : ∀ (L : Env) (b : Nat) (c : Int32), b ≤ 900 → En (rcl S nf) b c L → y ∈ L.map Prod.fst → Rk E d (45, 29, [some (.ref o), some (.int (nI q)), some (.int x), some (.int c)], []) (mh g o S) none (mh g o (msI (msI S 40 (bI (look L y).1)) 41 (look L y).2)) := by
  intro L
  induction L with
  | nil => intro b c _ _ h; simp at h
  | cons p L ih =>
    intro b c hb ⟨j, c', h1, h2, h3, h4⟩ hm
    obtain ⟨n1, n2, n3, n4, -⟩ := h3
    subst h2
    unfold look
    by_cases e : p.1 = y
    · rw [if_pos e]
      refine Rk.tr (F1 := (45, 30, _, _)) (x_aload_n rfl rfl rfl) ?_
      refine Rk.tr (F1 := (45, 33, _, _)) (m_get rfl rfl (Nat.le_of_ble_eq_true rfl)) ?_
      refine Rk.tr (F1 := (45, 34, _, _)) (x_iload_n rfl rfl) ?_
      refine Rk.tr (F1 := (45, 35, _, _)) (m_iald (k := 27) (n := j) rfl rfl rfl rfl (show j < 900 by omega)) ?_
      refine Rk.tr (F1 := (45, 36, _, _)) (x_aload_n rfl rfl rfl) ?_
      refine Rk.tr (F1 := (45, 39, _, _)) (m_get rfl rfl (Nat.le_of_ble_eq_true rfl)) ?_
      refine Rk.tr (F1 := (45, 40, _, _)) (x_iload_n rfl rfl) ?_
      refine Rk.tr (F1 := (45, 41, _, _)) (x_iconst rfl) ?_
      refine Rk.tr (F1 := (45, 42, _, _)) (x_iadd rfl) ?_
      refine Rk.tr (F1 := (45, 43, _, _)) (m_iald (k := 5) (n := q + 1) rfl rfl rfl (nI_1 q) (show q + 1 < 800 by omega)) ?_
      refine Rk.tr (F1 := (45, 56, _, _)) (x_icT rfl (tg := 56) rfl (show S.2 27 j = S.2 5 (q + 1) by rw [n1, hy]; exact e)) ?_
      refine Rk.tr (F1 := (45, 57, _, _)) (x_aload_n rfl rfl rfl) ?_
      refine Rk.tr (F1 := (45, 58, _, _)) (x_aload_n rfl rfl rfl) ?_
      refine Rk.tr (F1 := (45, 61, _, _)) (m_get rfl rfl (Nat.le_of_ble_eq_true rfl)) ?_
      refine Rk.tr (F1 := (45, 62, _, _)) (x_iload_n rfl rfl) ?_
      refine Rk.tr (F1 := (45, 63, _, _)) (m_zald (n := j) rfl rfl (show j < 900 by omega)) ?_
      refine Rk.tr (F1 := (45, 63, _, _)) (x_top n2) ?_
      refine Rk.tr (F1 := (45, 66, _, _)) (m_put rfl rfl rfl (by cases p.2.1 <;> rfl) (by cases p.2.1 <;> rfl) rfl) ?_
      refine Rk.tr (F1 := (45, 67, _, _)) (x_aload_n rfl rfl rfl) ?_
      refine Rk.tr (F1 := (45, 68, _, _)) (x_aload_n rfl rfl rfl) ?_
      refine Rk.tr (F1 := (45, 71, _, _)) (m_get rfl rfl (Nat.le_of_ble_eq_true rfl)) ?_
      refine Rk.tr (F1 := (45, 72, _, _)) (x_iload_n rfl rfl) ?_
      refine Rk.tr (F1 := (45, 73, _, _)) (m_iald (k := 29) (n := j) rfl rfl rfl rfl (show j < 900 by omega)) ?_
      refine Rk.tr (F1 := (45, 73, _, _)) (x_top (show S.2 29 j = p.2.2 from n3)) ?_
      refine Rk.tr (F1 := (45, 76, _, _)) (m_put rfl rfl rfl rfl rfl rfl) ?_
      exact Rk.end rfl (Or.inl ⟨rfl, rfl, rfl, rfl⟩)
    · rw [if_neg e]
      have hm' : y ∈ L.map Prod.fst := by
        rcases List.mem_cons.mp hm with z | z
        · exact absurd z.symm e
        · exact z
      rw [← n4] at h4
      have r := ih j (S.2 30 j) (by omega) h4 hm'
      refine Rk.tr (F1 := (45, 30, _, _)) (x_aload_n rfl rfl rfl) ?_
      refine Rk.tr (F1 := (45, 33, _, _)) (m_get rfl rfl (Nat.le_of_ble_eq_true rfl)) ?_
      refine Rk.tr (F1 := (45, 34, _, _)) (x_iload_n rfl rfl) ?_
      refine Rk.tr (F1 := (45, 35, _, _)) (m_iald (k := 27) (n := j) rfl rfl rfl rfl (show j < 900 by omega)) ?_
      refine Rk.tr (F1 := (45, 36, _, _)) (x_aload_n rfl rfl rfl) ?_
      refine Rk.tr (F1 := (45, 39, _, _)) (m_get rfl rfl (Nat.le_of_ble_eq_true rfl)) ?_
      refine Rk.tr (F1 := (45, 40, _, _)) (x_iload_n rfl rfl) ?_
      refine Rk.tr (F1 := (45, 41, _, _)) (x_iconst rfl) ?_
      refine Rk.tr (F1 := (45, 42, _, _)) (x_iadd rfl) ?_
      refine Rk.tr (F1 := (45, 43, _, _)) (m_iald (k := 5) (n := q + 1) rfl rfl rfl (nI_1 q) (show q + 1 < 800 by omega)) ?_
      refine Rk.tr (F1 := (45, 46, _, _)) (x_icF rfl (tg := 56) rfl (show ¬ S.2 27 j = S.2 5 (q + 1) by rw [n1, hy]; exact e)) ?_
      refine Rk.tr (F1 := (45, 47, _, _)) (x_aload_n rfl rfl rfl) ?_
      refine Rk.tr (F1 := (45, 50, _, _)) (m_get rfl rfl (Nat.le_of_ble_eq_true rfl)) ?_
      refine Rk.tr (F1 := (45, 51, _, _)) (x_iload_n rfl rfl) ?_
      refine Rk.tr (F1 := (45, 52, _, _)) (m_iald (k := 30) (n := j) rfl rfl rfl rfl (show j < 900 by omega)) ?_
      refine Rk.tr (F1 := (45, 53, [_, _, _, _], _)) (x_istore_n (i := 3) rfl (Nat.le_of_ble_eq_true rfl)) ?_
      refine Rk.tr (F1 := (45, 29, [_, _, _, _], _)) (x_goto rfl rfl) ?_
      exact r
theorem c_load {a : Int32 × Int32} {c : Int32} {L : Env} {b : Nat} (hq : q + 1 < 800) (h0 : S.2 5 q = a.1) (h1 : S.2 5 (q + 1) = a.2) (hb : b ≤ 900) (hE : En (rcl S nf) b c L) (ha : a.1 = 0 ∨ (a.1 = 1 ∧ a.2 ∈ L.map Prod.fst)) : Rn E d 45 [.ref o, .int (nI q), .int c] (mh g o S) none (mh g o (mVal S (lkE L a))) := by
  refine Rn.of (Nat.le_of_ble_eq_true rfl) ?_
  unfold lkE
  by_cases e : a.1 = 0
  · rw [if_pos e]
    show Rk E d _ _ _ (mh g o (msI (msI S 40 0) 41 a.2))
    refine Rk.tr (F1 := (45, 1, _, _)) (x_aload_n rfl rfl rfl) ?_
    refine Rk.tr (F1 := (45, 2, _, _)) (x_iconst rfl) ?_
    refine Rk.tr (F1 := (45, 5, _, _)) (m_put rfl rfl rfl rfl rfl rfl) ?_
    refine Rk.tr (F1 := (45, 6, _, _)) (x_aload_n rfl rfl rfl) ?_
    refine Rk.tr (F1 := (45, 7, _, _)) (x_aload_n rfl rfl rfl) ?_
    refine Rk.tr (F1 := (45, 10, _, _)) (m_get rfl rfl (Nat.le_of_ble_eq_true rfl)) ?_
    refine Rk.tr (F1 := (45, 11, _, _)) (x_iload_n rfl rfl) ?_
    refine Rk.tr (F1 := (45, 12, _, _)) (x_iconst rfl) ?_
    refine Rk.tr (F1 := (45, 13, _, _)) (x_iadd rfl) ?_
    refine Rk.tr (F1 := (45, 14, _, _)) (m_iald (k := 5) (n := q + 1) rfl rfl rfl (nI_1 q) (show q + 1 < 800 by omega)) ?_
    refine Rk.tr (F1 := (45, 14, _, _)) (x_top (show S.2 5 (q + 1) = a.2 from h1)) ?_
    refine Rk.tr (F1 := (45, 17, _, _)) (m_put rfl rfl rfl rfl rfl rfl) ?_
    refine Rk.tr (F1 := (45, 18, _, _)) (x_aload_n rfl rfl rfl) ?_
    refine Rk.tr (F1 := (45, 21, _, _)) (m_get rfl rfl (Nat.le_of_ble_eq_true rfl)) ?_
    refine Rk.tr (F1 := (45, 22, _, _)) (x_iload_n rfl rfl) ?_
    refine Rk.tr (F1 := (45, 23, _, _)) (m_iald (k := 5) (n := q) rfl rfl rfl rfl (show q < 800 by omega)) ?_
    refine Rk.tr (F1 := (45, 26, _, _)) (x_ifF rfl (tg := 27) rfl (fun z => z (show S.2 5 q = 0 by rw [h0]; exact e))) ?_
    exact Rk.end rfl (Or.inl ⟨rfl, rfl, rfl, rfl⟩)
  · rw [if_neg e]
    have hy : a.2 ∈ L.map Prod.fst := (ha.resolve_left e).2
    rw [← mVal2 (a := 0) (b := a.2)]
    have r := lp_load (E := E) (d := d) (o := o) (g := g) (S := msI (msI S 40 0) 41 a.2) (nf := nf) (x := c) (y := a.2) hq h1 L b c hb (hE.mono (Nat.le_refl _) (fun _ _ _ _ _ h => h)) hy
    refine Rk.tr (F1 := (45, 1, _, _)) (x_aload_n rfl rfl rfl) ?_
    refine Rk.tr (F1 := (45, 2, _, _)) (x_iconst rfl) ?_
    refine Rk.tr (F1 := (45, 5, _, _)) (m_put rfl rfl rfl rfl rfl rfl) ?_
    refine Rk.tr (F1 := (45, 6, _, _)) (x_aload_n rfl rfl rfl) ?_
    refine Rk.tr (F1 := (45, 7, _, _)) (x_aload_n rfl rfl rfl) ?_
    refine Rk.tr (F1 := (45, 10, _, _)) (m_get rfl rfl (Nat.le_of_ble_eq_true rfl)) ?_
    refine Rk.tr (F1 := (45, 11, _, _)) (x_iload_n rfl rfl) ?_
    refine Rk.tr (F1 := (45, 12, _, _)) (x_iconst rfl) ?_
    refine Rk.tr (F1 := (45, 13, _, _)) (x_iadd rfl) ?_
    refine Rk.tr (F1 := (45, 14, _, _)) (m_iald (k := 5) (n := q + 1) rfl rfl rfl (nI_1 q) (show q + 1 < 800 by omega)) ?_
    refine Rk.tr (F1 := (45, 14, _, _)) (x_top (show S.2 5 (q + 1) = a.2 from h1)) ?_
    refine Rk.tr (F1 := (45, 17, _, _)) (m_put rfl rfl rfl rfl rfl rfl) ?_
    refine Rk.tr (F1 := (45, 18, _, _)) (x_aload_n rfl rfl rfl) ?_
    refine Rk.tr (F1 := (45, 21, _, _)) (m_get rfl rfl (Nat.le_of_ble_eq_true rfl)) ?_
    refine Rk.tr (F1 := (45, 22, _, _)) (x_iload_n rfl rfl) ?_
    refine Rk.tr (F1 := (45, 23, _, _)) (m_iald (k := 5) (n := q) rfl rfl rfl rfl (show q < 800 by omega)) ?_
    refine Rk.tr (F1 := (45, 27, _, _)) (x_ifT rfl (tg := 27) rfl (fun z => e (h0.symm.trans z))) ?_
    refine Rk.tr (F1 := (45, 28, _, _)) (x_iload_n rfl rfl) ?_
    refine Rk.tr (F1 := (45, 29, [_, _, _, _], _)) (x_istore_n (i := 3) rfl (Nat.le_of_ble_eq_true rfl)) ?_
    exact r
theorem c_keep {nm bf : Int32} {b : Bool} (hc : S.1 26 = nI nc) (h9 : nc < 900) (hb : S.1 40 = bI b) : Rn E d 46 [.ref o, .int nm, .int bf] (mh g o S) (some (.int (nI nc))) (mh g o (mKeep S nc nm bf)) := by
  refine Rn.of (Nat.le_of_ble_eq_true rfl) ?_
  refine Rk.tr (F1 := (46, 1, _, _)) (x_aload_n rfl rfl rfl) ?_
  refine Rk.tr (F1 := (46, 4, _, _)) (m_get rfl rfl (Nat.le_of_ble_eq_true rfl)) ?_
  refine Rk.tr (F1 := (46, 5, _, _)) (x_aload_n rfl rfl rfl) ?_
  refine Rk.tr (F1 := (46, 8, _, _)) (m_get rfl rfl (Nat.le_of_ble_eq_true rfl)) ?_
  refine Rk.tr (F1 := (46, 9, _, _)) (x_iload_n rfl rfl) ?_
  refine Rk.tr (F1 := (46, 10, _, _)) (m_iast (k := 27) (n := nc) rfl rfl rfl (Nat.le_of_ble_eq_true rfl) hc (show nc < 900 by omega)) ?_
  refine Rk.tr (F1 := (46, 11, _, _)) (x_aload_n rfl rfl rfl) ?_
  refine Rk.tr (F1 := (46, 14, _, _)) (m_get rfl rfl (Nat.le_of_ble_eq_true rfl)) ?_
  refine Rk.tr (F1 := (46, 15, _, _)) (x_aload_n rfl rfl rfl) ?_
  refine Rk.tr (F1 := (46, 18, _, _)) (m_get rfl rfl (Nat.le_of_ble_eq_true rfl)) ?_
  refine Rk.tr (F1 := (46, 19, _, _)) (x_aload_n rfl rfl rfl) ?_
  refine Rk.tr (F1 := (46, 22, _, _)) (m_get rfl rfl (Nat.le_of_ble_eq_true rfl)) ?_
  refine Rk.tr (F1 := (46, 23, _, _)) (m_zast (n := nc) rfl (by show narrow .boolean (.int (S.1 40)) = .int (S.1 40); rw [hb]; cases b <;> rfl) hc (show nc < 900 by omega)) ?_
  refine Rk.tr (F1 := (46, 24, _, _)) (x_aload_n rfl rfl rfl) ?_
  refine Rk.tr (F1 := (46, 27, _, _)) (m_get rfl rfl (Nat.le_of_ble_eq_true rfl)) ?_
  refine Rk.tr (F1 := (46, 28, _, _)) (x_aload_n rfl rfl rfl) ?_
  refine Rk.tr (F1 := (46, 31, _, _)) (m_get rfl rfl (Nat.le_of_ble_eq_true rfl)) ?_
  refine Rk.tr (F1 := (46, 32, _, _)) (x_aload_n rfl rfl rfl) ?_
  refine Rk.tr (F1 := (46, 35, _, _)) (m_get rfl rfl (Nat.le_of_ble_eq_true rfl)) ?_
  refine Rk.tr (F1 := (46, 36, _, _)) (m_iast (k := 29) (n := nc) rfl rfl rfl (Nat.le_of_ble_eq_true rfl) hc (show nc < 900 by omega)) ?_
  refine Rk.tr (F1 := (46, 37, _, _)) (x_aload_n rfl rfl rfl) ?_
  refine Rk.tr (F1 := (46, 40, _, _)) (m_get rfl rfl (Nat.le_of_ble_eq_true rfl)) ?_
  refine Rk.tr (F1 := (46, 41, _, _)) (x_aload_n rfl rfl rfl) ?_
  refine Rk.tr (F1 := (46, 44, _, _)) (m_get rfl rfl (Nat.le_of_ble_eq_true rfl)) ?_
  refine Rk.tr (F1 := (46, 45, _, _)) (x_iload_n rfl rfl) ?_
  refine Rk.tr (F1 := (46, 46, _, _)) (m_iast (k := 30) (n := nc) rfl rfl rfl (Nat.le_of_ble_eq_true rfl) hc (show nc < 900 by omega)) ?_
  refine Rk.tr (F1 := (46, 47, _, _)) (x_aload_n rfl rfl rfl) ?_
  refine Rk.tr (F1 := (46, 48, _, _)) (x_dup rfl rfl) ?_
  refine Rk.tr (F1 := (46, 51, _, _)) (m_get rfl rfl (Nat.le_of_ble_eq_true rfl)) ?_
  refine Rk.tr (F1 := (46, 52, _, _)) (x_iconst rfl) ?_
  refine Rk.tr (F1 := (46, 53, _, _)) (x_iadd rfl) ?_
  refine Rk.tr (F1 := (46, 56, _, _)) (m_put rfl rfl rfl rfl rfl rfl) ?_
  refine Rk.tr (F1 := (46, 57, _, _)) (x_aload_n rfl rfl rfl) ?_
  refine Rk.tr (F1 := (46, 60, _, _)) (m_get rfl rfl (Nat.le_of_ble_eq_true rfl)) ?_
  refine Rk.tr (F1 := (46, 61, _, _)) (x_iconst rfl) ?_
  refine Rk.tr (F1 := (46, 62, _, _)) (x_isub rfl) ?_
  refine Rk.tr (F1 := (46, 62, _, _)) (x_top (y := nI nc) (by show S.1 26 + 1 - 1 = nI nc; rw [hc, nI_p1])) ?_
  exact Rk.end rfl (Or.inr (Or.inl ⟨rfl, _, .int, rfl, rfl, rfl, rfl⟩))
def mEnt (S : MSt) (fr : Nat) (a b c e : Int32) : MSt := msI (msA (msA (msA (msA S 36 fr a) 37 fr b) 38 fr c) 39 fr e) 35 (S.1 35 + 1)
theorem c_enters {fr dm : Nat} {a b c e : Int32} (hf : S.1 35 = nI fr) (h13 : fr < 13) (hd : S.2 42 3 = nI dm) (hd9 : dm < 100) : ∃ S1, Rn E d 43 [.ref o, .int a, .int b, .int c, .int e] (mh g o S) (some (.int 0)) (mh g o S1) ∧ S1.1 = (mEnt S fr a b c e).1 ∧ (∀ k, k ≠ 42 → S1.2 k = (mEnt S fr a b c e).2 k) ∧ (∀ j, j ≠ 3 → S1.2 42 j = S.2 42 j) ∧ S1.2 42 3 = nI (max dm fr) := by
  have hne : ¬ S.1 35 = 13 := fun z => by
    have e : nI fr = nI 13 := hf.symm.trans z
    exact absurd ((nI_eq (by omega) (by decide)).mp e) (by omega)
  by_cases hm : fr ≤ dm
  · refine ⟨mEnt S fr a b c e, Rn.of (Nat.le_of_ble_eq_true rfl) ?_, rfl, fun _ _ => rfl, fun _ _ => rfl, ?_⟩
    · refine Rk.tr (F1 := (43, 1, _, _)) (x_aload_n rfl rfl rfl) ?_
      refine Rk.tr (F1 := (43, 4, _, _)) (m_get rfl rfl (Nat.le_of_ble_eq_true rfl)) ?_
      refine Rk.tr (F1 := (43, 6, _, _)) (x_bipush rfl) ?_
      refine Rk.tr (F1 := (43, 11, _, _)) (x_icT rfl (tg := 11) rfl hne) ?_
      refine Rk.tr (F1 := (43, 12, _, _)) (x_aload_n rfl rfl rfl) ?_
      refine Rk.tr (F1 := (43, 15, _, _)) (m_get rfl rfl (Nat.le_of_ble_eq_true rfl)) ?_
      refine Rk.tr (F1 := (43, 16, _, _)) (x_aload_n rfl rfl rfl) ?_
      refine Rk.tr (F1 := (43, 19, _, _)) (m_get rfl rfl (Nat.le_of_ble_eq_true rfl)) ?_
      refine Rk.tr (F1 := (43, 20, _, _)) (x_iload_n rfl rfl) ?_
      refine Rk.tr (F1 := (43, 21, _, _)) (m_iast (k := 36) (n := fr) rfl rfl rfl (Nat.le_of_ble_eq_true rfl) hf (show fr < 14 by omega)) ?_
      refine Rk.tr (F1 := (43, 22, _, _)) (x_aload_n rfl rfl rfl) ?_
      refine Rk.tr (F1 := (43, 25, _, _)) (m_get rfl rfl (Nat.le_of_ble_eq_true rfl)) ?_
      refine Rk.tr (F1 := (43, 26, _, _)) (x_aload_n rfl rfl rfl) ?_
      refine Rk.tr (F1 := (43, 29, _, _)) (m_get rfl rfl (Nat.le_of_ble_eq_true rfl)) ?_
      refine Rk.tr (F1 := (43, 30, _, _)) (x_iload_n rfl rfl) ?_
      refine Rk.tr (F1 := (43, 31, _, _)) (m_iast (k := 37) (n := fr) rfl rfl rfl (Nat.le_of_ble_eq_true rfl) hf (show fr < 14 by omega)) ?_
      refine Rk.tr (F1 := (43, 32, _, _)) (x_aload_n rfl rfl rfl) ?_
      refine Rk.tr (F1 := (43, 35, _, _)) (m_get rfl rfl (Nat.le_of_ble_eq_true rfl)) ?_
      refine Rk.tr (F1 := (43, 36, _, _)) (x_aload_n rfl rfl rfl) ?_
      refine Rk.tr (F1 := (43, 39, _, _)) (m_get rfl rfl (Nat.le_of_ble_eq_true rfl)) ?_
      refine Rk.tr (F1 := (43, 40, _, _)) (x_iload_n rfl rfl) ?_
      refine Rk.tr (F1 := (43, 41, _, _)) (m_iast (k := 38) (n := fr) rfl rfl rfl (Nat.le_of_ble_eq_true rfl) hf (show fr < 14 by omega)) ?_
      refine Rk.tr (F1 := (43, 42, _, _)) (x_aload_n rfl rfl rfl) ?_
      refine Rk.tr (F1 := (43, 45, _, _)) (m_get rfl rfl (Nat.le_of_ble_eq_true rfl)) ?_
      refine Rk.tr (F1 := (43, 46, _, _)) (x_aload_n rfl rfl rfl) ?_
      refine Rk.tr (F1 := (43, 49, _, _)) (m_get rfl rfl (Nat.le_of_ble_eq_true rfl)) ?_
      refine Rk.tr (F1 := (43, 51, _, _)) (x_iload rfl rfl) ?_
      refine Rk.tr (F1 := (43, 52, _, _)) (m_iast (k := 39) (n := fr) rfl rfl rfl (Nat.le_of_ble_eq_true rfl) hf (show fr < 14 by omega)) ?_
      refine Rk.tr (F1 := (43, 53, _, _)) (x_aload_n rfl rfl rfl) ?_
      refine Rk.tr (F1 := (43, 54, _, _)) (x_dup rfl rfl) ?_
      refine Rk.tr (F1 := (43, 57, _, _)) (m_get rfl rfl (Nat.le_of_ble_eq_true rfl)) ?_
      refine Rk.tr (F1 := (43, 58, _, _)) (x_iconst rfl) ?_
      refine Rk.tr (F1 := (43, 59, _, _)) (x_iadd rfl) ?_
      refine Rk.tr (F1 := (43, 62, _, _)) (m_put rfl rfl rfl rfl rfl rfl) ?_
      refine Rk.tr (F1 := (43, 63, _, _)) (x_aload_n rfl rfl rfl) ?_
      refine Rk.tr (F1 := (43, 66, _, _)) (m_get rfl rfl (Nat.le_of_ble_eq_true rfl)) ?_
      refine Rk.tr (F1 := (43, 67, _, _)) (x_iconst rfl) ?_
      refine Rk.tr (F1 := (43, 68, _, _)) (x_isub rfl) ?_
      refine Rk.tr (F1 := (43, 69, _, _)) (x_aload_n rfl rfl rfl) ?_
      refine Rk.tr (F1 := (43, 72, _, _)) (m_get rfl rfl (Nat.le_of_ble_eq_true rfl)) ?_
      refine Rk.tr (F1 := (43, 73, _, _)) (x_iconst rfl) ?_
      refine Rk.tr (F1 := (43, 74, _, _)) (m_iald (k := 42) (n := 3) rfl rfl rfl rfl (Nat.le_of_ble_eq_true rfl)) ?_
      refine Rk.tr (F1 := (43, 89, _, _)) (x_icT rfl (tg := 89) rfl (by show S.1 35 + 1 - 1 ≤ S.2 42 3; rw [hf, nI_p1, hd]; exact nI_le hm (by omega))) ?_
      refine Rk.tr (F1 := (43, 90, _, _)) (x_iconst rfl) ?_
      exact Rk.end rfl (Or.inr (Or.inl ⟨rfl, _, .int, rfl, rfl, rfl, rfl⟩))
    · rw [Nat.max_eq_left hm]; exact hd
  · refine ⟨msA (mEnt S fr a b c e) 42 3 ((mEnt S fr a b c e).1 35 - 1), Rn.of (Nat.le_of_ble_eq_true rfl) ?_, rfl, fun k hk => funext fun j => if_neg (fun z => hk z.1), fun j hj => if_neg (fun z => hj z.2), ?_⟩
    · refine Rk.tr (F1 := (43, 1, _, _)) (x_aload_n rfl rfl rfl) ?_
      refine Rk.tr (F1 := (43, 4, _, _)) (m_get rfl rfl (Nat.le_of_ble_eq_true rfl)) ?_
      refine Rk.tr (F1 := (43, 6, _, _)) (x_bipush rfl) ?_
      refine Rk.tr (F1 := (43, 11, _, _)) (x_icT rfl (tg := 11) rfl hne) ?_
      refine Rk.tr (F1 := (43, 12, _, _)) (x_aload_n rfl rfl rfl) ?_
      refine Rk.tr (F1 := (43, 15, _, _)) (m_get rfl rfl (Nat.le_of_ble_eq_true rfl)) ?_
      refine Rk.tr (F1 := (43, 16, _, _)) (x_aload_n rfl rfl rfl) ?_
      refine Rk.tr (F1 := (43, 19, _, _)) (m_get rfl rfl (Nat.le_of_ble_eq_true rfl)) ?_
      refine Rk.tr (F1 := (43, 20, _, _)) (x_iload_n rfl rfl) ?_
      refine Rk.tr (F1 := (43, 21, _, _)) (m_iast (k := 36) (n := fr) rfl rfl rfl (Nat.le_of_ble_eq_true rfl) hf (show fr < 14 by omega)) ?_
      refine Rk.tr (F1 := (43, 22, _, _)) (x_aload_n rfl rfl rfl) ?_
      refine Rk.tr (F1 := (43, 25, _, _)) (m_get rfl rfl (Nat.le_of_ble_eq_true rfl)) ?_
      refine Rk.tr (F1 := (43, 26, _, _)) (x_aload_n rfl rfl rfl) ?_
      refine Rk.tr (F1 := (43, 29, _, _)) (m_get rfl rfl (Nat.le_of_ble_eq_true rfl)) ?_
      refine Rk.tr (F1 := (43, 30, _, _)) (x_iload_n rfl rfl) ?_
      refine Rk.tr (F1 := (43, 31, _, _)) (m_iast (k := 37) (n := fr) rfl rfl rfl (Nat.le_of_ble_eq_true rfl) hf (show fr < 14 by omega)) ?_
      refine Rk.tr (F1 := (43, 32, _, _)) (x_aload_n rfl rfl rfl) ?_
      refine Rk.tr (F1 := (43, 35, _, _)) (m_get rfl rfl (Nat.le_of_ble_eq_true rfl)) ?_
      refine Rk.tr (F1 := (43, 36, _, _)) (x_aload_n rfl rfl rfl) ?_
      refine Rk.tr (F1 := (43, 39, _, _)) (m_get rfl rfl (Nat.le_of_ble_eq_true rfl)) ?_
      refine Rk.tr (F1 := (43, 40, _, _)) (x_iload_n rfl rfl) ?_
      refine Rk.tr (F1 := (43, 41, _, _)) (m_iast (k := 38) (n := fr) rfl rfl rfl (Nat.le_of_ble_eq_true rfl) hf (show fr < 14 by omega)) ?_
      refine Rk.tr (F1 := (43, 42, _, _)) (x_aload_n rfl rfl rfl) ?_
      refine Rk.tr (F1 := (43, 45, _, _)) (m_get rfl rfl (Nat.le_of_ble_eq_true rfl)) ?_
      refine Rk.tr (F1 := (43, 46, _, _)) (x_aload_n rfl rfl rfl) ?_
      refine Rk.tr (F1 := (43, 49, _, _)) (m_get rfl rfl (Nat.le_of_ble_eq_true rfl)) ?_
      refine Rk.tr (F1 := (43, 51, _, _)) (x_iload rfl rfl) ?_
      refine Rk.tr (F1 := (43, 52, _, _)) (m_iast (k := 39) (n := fr) rfl rfl rfl (Nat.le_of_ble_eq_true rfl) hf (show fr < 14 by omega)) ?_
      refine Rk.tr (F1 := (43, 53, _, _)) (x_aload_n rfl rfl rfl) ?_
      refine Rk.tr (F1 := (43, 54, _, _)) (x_dup rfl rfl) ?_
      refine Rk.tr (F1 := (43, 57, _, _)) (m_get rfl rfl (Nat.le_of_ble_eq_true rfl)) ?_
      refine Rk.tr (F1 := (43, 58, _, _)) (x_iconst rfl) ?_
      refine Rk.tr (F1 := (43, 59, _, _)) (x_iadd rfl) ?_
      refine Rk.tr (F1 := (43, 62, _, _)) (m_put rfl rfl rfl rfl rfl rfl) ?_
      refine Rk.tr (F1 := (43, 63, _, _)) (x_aload_n rfl rfl rfl) ?_
      refine Rk.tr (F1 := (43, 66, _, _)) (m_get rfl rfl (Nat.le_of_ble_eq_true rfl)) ?_
      refine Rk.tr (F1 := (43, 67, _, _)) (x_iconst rfl) ?_
      refine Rk.tr (F1 := (43, 68, _, _)) (x_isub rfl) ?_
      refine Rk.tr (F1 := (43, 69, _, _)) (x_aload_n rfl rfl rfl) ?_
      refine Rk.tr (F1 := (43, 72, _, _)) (m_get rfl rfl (Nat.le_of_ble_eq_true rfl)) ?_
      refine Rk.tr (F1 := (43, 73, _, _)) (x_iconst rfl) ?_
      refine Rk.tr (F1 := (43, 74, _, _)) (m_iald (k := 42) (n := 3) rfl rfl rfl rfl (Nat.le_of_ble_eq_true rfl)) ?_
      refine Rk.tr (F1 := (43, 77, _, _)) (x_icF rfl (tg := 89) rfl (by show ¬ S.1 35 + 1 - 1 ≤ S.2 42 3; rw [hf, nI_p1, hd]; exact nI_ge (by omega) (by omega))) ?_
      refine Rk.tr (F1 := (43, 78, _, _)) (x_aload_n rfl rfl rfl) ?_
      refine Rk.tr (F1 := (43, 81, _, _)) (m_get rfl rfl (Nat.le_of_ble_eq_true rfl)) ?_
      refine Rk.tr (F1 := (43, 82, _, _)) (x_iconst rfl) ?_
      refine Rk.tr (F1 := (43, 83, _, _)) (x_aload_n rfl rfl rfl) ?_
      refine Rk.tr (F1 := (43, 86, _, _)) (m_get rfl rfl (Nat.le_of_ble_eq_true rfl)) ?_
      refine Rk.tr (F1 := (43, 87, _, _)) (x_iconst rfl) ?_
      refine Rk.tr (F1 := (43, 88, _, _)) (x_isub rfl) ?_
      refine Rk.tr (F1 := (43, 89, _, _)) (m_iast (k := 42) (n := 3) rfl rfl rfl (Nat.le_of_ble_eq_true rfl) rfl (Nat.le_of_ble_eq_true rfl)) ?_
      refine Rk.tr (F1 := (43, 90, _, _)) (x_iconst rfl) ?_
      exact Rk.end rfl (Or.inr (Or.inl ⟨rfl, _, .int, rfl, rfl, rfl, rfl⟩))
    · rw [Nat.max_eq_right (by omega)]
      rw [msA_at]
      show S.1 35 + 1 - 1 = _
      rw [hf, nI_p1]
theorem c_enters4 {a b c e : Int32} (hf : S.1 35 = 13) : Rn E d 43 [.ref o, .int a, .int b, .int c, .int e] (mh g o S) (some (.int 4)) (mh g o S) := by
  refine Rn.of (Nat.le_of_ble_eq_true rfl) ?_
  refine Rk.tr (F1 := (43, 1, _, _)) (x_aload_n rfl rfl rfl) ?_
  refine Rk.tr (F1 := (43, 4, _, _)) (m_get rfl rfl (Nat.le_of_ble_eq_true rfl)) ?_
  refine Rk.tr (F1 := (43, 6, _, _)) (x_bipush rfl) ?_
  refine Rk.tr (F1 := (43, 9, _, _)) (x_icF rfl (tg := 11) rfl (fun z => z hf)) ?_
  refine Rk.tr (F1 := (43, 10, _, _)) (x_iconst rfl) ?_
  exact Rk.end rfl (Or.inr (Or.inl ⟨rfl, _, .int, rfl, rfl, rfl, rfl⟩))
end M17
