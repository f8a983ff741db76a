/-! ===== a run: what a row of items comes to ===== -/
abbrev Fn : Type := Int32 × List It × Env
/-- functions made, how many, bindings begun, how deep -/
abbrev RSt : Type := (Nat → Fn) × Nat × Nat × Nat
def fup (F : Nat → Fn) (k : Nat) (x : Fn) : Nat → Fn := fun j => if j = k then x else F j
/-- (how it ended, value, state) -/
def ev : Nat → List It → Env → Nat → RSt → Nat × Val × RSt
  | 0, _, _, _, σ => (5, (false, 0), σ)
  | _ + 1, [], _, _, σ => (5, (false, 0), σ)
  | f + 1, it :: B, L, dp, σ =>
    if it.1 = 9 then (0, lkE L it.2.2.2.1, σ)
    else if σ.2.2.1 = 400 then (5, (false, 0), σ)
    else if it.1 = 2 then ev f (B.drop (rwl 1 B).length) ((it.2.1, (true, nI σ.2.1)) :: L) dp (fup σ.1 σ.2.1 (it.2.2.1, B, L), σ.2.1 + 1, σ.2.2.1 + 1, σ.2.2.2)
    else if it.1 = 3 then
      (if (lkE L it.2.2.2.1).1 = false then (1, (false, 0), (σ.1, σ.2.1, σ.2.2.1 + 1, σ.2.2.2))
       else if dp = 12 then (4, (false, 0), (σ.1, σ.2.1, σ.2.2.1 + 1, σ.2.2.2))
       else
        (let fn := σ.1 (lkE L it.2.2.2.1).2.toNatClampNeg
         let r := ev f fn.2.1 ((fn.1, lkE L it.2.2.2.2) :: fn.2.2) (dp + 1) (σ.1, σ.2.1, σ.2.2.1 + 1, max σ.2.2.2 (dp + 1))
         if r.1 = 0 then ev f B ((it.2.1, r.2.1) :: L) dp r.2.2 else r))
    else if it.1 = 5 then
      (if (lkE L it.2.2.2.1).1 = true ∨ (lkE L it.2.2.2.2).1 = true then (2, (false, 0), (σ.1, σ.2.1, σ.2.2.1 + 1, σ.2.2.2))
       else if it.2.2.1 = 3 ∧ (lkE L it.2.2.2.2).2 = 0 then (3, (false, 0), (σ.1, σ.2.1, σ.2.2.1 + 1, σ.2.2.2))
       else ev f B ((it.2.1, (false, opv it.2.2.1 (lkE L it.2.2.2.1).2 (lkE L it.2.2.2.2).2)) :: L) dp (σ.1, σ.2.1, σ.2.2.1 + 1, σ.2.2.2))
    else
      (if (lkE L it.2.2.2.1).1 = true then (2, (false, 0), (σ.1, σ.2.1, σ.2.2.1 + 1, σ.2.2.2))
       else if dp = 12 then (4, (false, 0), (σ.1, σ.2.1, σ.2.2.1 + 1, σ.2.2.2))
       else
        (let B1 := B.drop (rwl 1 B).length
         let r := ev f (if (lkE L it.2.2.2.1).2 = 0 then B1 else B) L (dp + 1) (σ.1, σ.2.1, σ.2.2.1 + 1, max σ.2.2.2 (dp + 1))
         if r.1 = 0 then ev f (B1.drop (rwl 1 B1).length) ((it.2.1, r.2.1) :: L) dp r.2.2 else r))
section EV
variable {f dp : Nat} {B : List It} {it : It} {L : Env} {σ : RSt}
theorem ev_9 (h : it.1 = 9) : ev (f + 1) (it :: B) L dp σ = (0, lkE L it.2.2.2.1, σ) := by unfold ev; rw [if_pos h]
theorem ev_long (h : it.1 ≠ 9) (hb : σ.2.2.1 = 400) : ev (f + 1) (it :: B) L dp σ = (5, (false, 0), σ) := by unfold ev; rw [if_neg h, if_pos hb]
theorem ev_2 (h : it.1 = 2) (hb : σ.2.2.1 ≠ 400) : ev (f + 1) (it :: B) L dp σ = ev f (B.drop (rwl 1 B).length) ((it.2.1, (true, nI σ.2.1)) :: L) dp (fup σ.1 σ.2.1 (it.2.2.1, B, L), σ.2.1 + 1, σ.2.2.1 + 1, σ.2.2.2) := by
  conv => lhs; unfold ev
  rw [if_neg (by omega), if_neg hb, if_pos h]
theorem ev_3 (h : it.1 = 3) (hb : σ.2.2.1 ≠ 400) : ev (f + 1) (it :: B) L dp σ = (if (lkE L it.2.2.2.1).1 = false then (1, (false, 0), (σ.1, σ.2.1, σ.2.2.1 + 1, σ.2.2.2))
       else if dp = 12 then (4, (false, 0), (σ.1, σ.2.1, σ.2.2.1 + 1, σ.2.2.2))
       else
        (let fn := σ.1 (lkE L it.2.2.2.1).2.toNatClampNeg
         let r := ev f fn.2.1 ((fn.1, lkE L it.2.2.2.2) :: fn.2.2) (dp + 1) (σ.1, σ.2.1, σ.2.2.1 + 1, max σ.2.2.2 (dp + 1))
         if r.1 = 0 then ev f B ((it.2.1, r.2.1) :: L) dp r.2.2 else r)) := by
  conv => lhs; unfold ev
  rw [if_neg (by omega), if_neg hb, if_neg (by omega), if_pos h]
theorem ev_5 (h : it.1 = 5) (hb : σ.2.2.1 ≠ 400) : ev (f + 1) (it :: B) L dp σ = (if (lkE L it.2.2.2.1).1 = true ∨ (lkE L it.2.2.2.2).1 = true then (2, (false, 0), (σ.1, σ.2.1, σ.2.2.1 + 1, σ.2.2.2))
       else if it.2.2.1 = 3 ∧ (lkE L it.2.2.2.2).2 = 0 then (3, (false, 0), (σ.1, σ.2.1, σ.2.2.1 + 1, σ.2.2.2))
       else ev f B ((it.2.1, (false, opv it.2.2.1 (lkE L it.2.2.2.1).2 (lkE L it.2.2.2.2).2)) :: L) dp (σ.1, σ.2.1, σ.2.2.1 + 1, σ.2.2.2)) := by
  conv => lhs; unfold ev
  rw [if_neg (by omega), if_neg hb, if_neg (by omega), if_neg (by omega), if_pos h]
theorem ev_6 (h2 : it.1 ≠ 2) (h3 : it.1 ≠ 3) (h5 : it.1 ≠ 5) (h9 : it.1 ≠ 9) (hb : σ.2.2.1 ≠ 400) : ev (f + 1) (it :: B) L dp σ = (if (lkE L it.2.2.2.1).1 = true then (2, (false, 0), (σ.1, σ.2.1, σ.2.2.1 + 1, σ.2.2.2))
       else if dp = 12 then (4, (false, 0), (σ.1, σ.2.1, σ.2.2.1 + 1, σ.2.2.2))
       else
        (let B1 := B.drop (rwl 1 B).length
         let r := ev f (if (lkE L it.2.2.2.1).2 = 0 then B1 else B) L (dp + 1) (σ.1, σ.2.1, σ.2.2.1 + 1, max σ.2.2.2 (dp + 1))
         if r.1 = 0 then ev f (B1.drop (rwl 1 B1).length) ((it.2.1, r.2.1) :: L) dp r.2.2 else r)) := by
  conv => lhs; unfold ev
  rw [if_neg h9, if_neg hb, if_neg h2, if_neg h3, if_neg h5]
end EV
/-! ===== the reference's state and a run ===== -/
def rkI (k : Nat) : Bool := [26, 31, 35, 40, 41].contains k
def rkA (k : Nat) : Bool := [27, 28, 29, 30, 32, 33, 34, 36, 37, 38, 39, 42].contains k
def ouR (S : MSt) : MSt := (fun k => if rkI k = true then 0 else S.1 k, fun k n => if rkA k = true then 0 else S.2 k n)
theorem ouR_I {S : MSt} {k : Nat} {x : Int32} (h : rkI k = true) : ouR (msI S k x) = ouR S := by
  refine Prod.ext (funext fun j => ?_) rfl
  show (if rkI j = true then 0 else if j = k then x else S.1 j) = (if rkI j = true then 0 else S.1 j)
  by_cases e : j = k
  · rw [if_pos (by rw [e]; exact h), if_pos (by rw [e]; exact h)]
  · rw [if_neg e]
theorem ouR_A {S : MSt} {k m : Nat} {x : Int32} (h : rkA k = true) : ouR (msA S k m x) = ouR S := by
  refine Prod.ext rfl (funext fun j => funext fun i => ?_)
  show (if rkA j = true then 0 else if j = k ∧ i = m then x else S.2 j i) = (if rkA j = true then 0 else S.2 j i)
  by_cases e : j = k
  · rw [if_pos (by rw [e]; exact h), if_pos (by rw [e]; exact h)]
  · rw [if_neg (show ¬ (j = k ∧ i = m) from fun z => e z.1)]
theorem ouR_i {S S' : MSt} (h : ouR S' = ouR S) {k : Nat} (hk : rkI k = false) : S'.1 k = S.1 k := by
  have := congrFun (congrArg Prod.fst h) k
  simp only [ouR, hk, Bool.false_eq_true, if_false] at this
  exact this
theorem ouR_a {S S' : MSt} (h : ouR S' = ouR S) {k : Nat} (hk : rkA k = false) : S'.2 k = S.2 k := by
  funext n
  have := congrFun (congrFun (congrArg Prod.snd h) k) n
  simp only [ouR, hk, Bool.false_eq_true, if_false] at this
  exact this
theorem ouR_e {S S' : MSt} (h1 : ∀ k, rkI k = false → S'.1 k = S.1 k) (h2 : ∀ k, rkA k = false → S'.2 k = S.2 k) : ouR S' = ouR S := by
  refine Prod.ext (funext fun j => ?_) (funext fun j => funext fun i => ?_)
  · show (if rkI j = true then 0 else S'.1 j) = (if rkI j = true then 0 else S.1 j)
    cases h : rkI j with
    | true => rfl
    | false => exact h1 j h
  · show (if rkA j = true then 0 else S'.2 j i) = (if rkA j = true then 0 else S.2 j i)
    cases h : rkA j with
    | true => rfl
    | false => exact congrFun (h2 j h) i
def VOk (nf : Nat) (v : Val) : Prop := v.1 = true → ∃ k, k < nf ∧ v.2 = nI k
theorem VOk.mono {nf nf' : Nat} {v : Val} (h : VOk nf v) (hn : nf ≤ nf') : VOk nf' v := fun z => let ⟨k, h1, h2⟩ := h z; ⟨k, by omega, h2⟩
theorem look_ok {S : MSt} {nf : Nat} {y : Int32} : ∀ {L : Env} {b : Nat} {c : Int32}, En (rcl S nf) b c L → VOk nf (look L y)
  | [], _, _, _ => fun z => (by cases z)
  | q :: L, b, c, ⟨j, c', h1, h2, h3, h4⟩ => by
    unfold look
    by_cases e : q.1 = y
    · rw [if_pos e]; exact h3.2.2.2.2
    · rw [if_neg e]; exact look_ok h4
theorem lkE_ok {S : MSt} {nf b : Nat} {c : Int32} {L : Env} {a : Int32 × Int32} (h : En (rcl S nf) b c L) : VOk nf (lkE L a) := by
  unfold lkE
  split
  · exact fun z => (by cases z)
  · exact look_ok h
/-- the cells below nc are as they were -/
def KC (nc : Nat) (S S' : MSt) : Prop := ∀ j, j < nc → S'.2 27 j = S.2 27 j ∧ S'.2 28 j = S.2 28 j ∧ S'.2 29 j = S.2 29 j ∧ S'.2 30 j = S.2 30 j
theorem KC.tr {nc nc' : Nat} {S S1 S2 : MSt} (h : KC nc S S1) (h' : KC nc' S1 S2) (hn : nc ≤ nc') : KC nc S S2 := fun j hj => by
  obtain ⟨a, b, c, d⟩ := h j hj
  obtain ⟨a', b', c', d'⟩ := h' j (by omega)
  exact ⟨a'.trans a, b'.trans b, c'.trans c, d'.trans d⟩
/-- a cell is new at nc -/
def CU (S S' : MSt) (nc : Nat) (x : Int32) (v : Val) (c : Int32) : Prop := S'.2 27 = rup (S.2 27) nc x ∧ S'.2 28 = rup (S.2 28) nc (bI v.1) ∧ S'.2 29 = rup (S.2 29) nc v.2 ∧ S'.2 30 = rup (S.2 30) nc c
theorem CU.kc {S S' : MSt} {nc : Nat} {x : Int32} {v : Val} {c : Int32} (h : CU S S' nc x v c) : KC nc S S' := fun j hj => by
  obtain ⟨a, b, c, d⟩ := h
  rw [a, b, c, d]
  exact ⟨rup_ne (by omega), rup_ne (by omega), rup_ne (by omega), rup_ne (by omega)⟩
theorem rcl.mono {S S' : MSt} {nc nf nf' j : Nat} {x : Int32} {v : Val} {c : Int32} (h : rcl S nf j x v c) (hk : KC nc S S') (hj : j < nc) (hn : nf ≤ nf') : rcl S' nf' j x v c := by
  obtain ⟨a, b, c, d, e⟩ := h
  obtain ⟨a', b', c', d'⟩ := hk j hj
  exact ⟨a'.trans a, b'.trans b, c'.trans c, d'.trans d, VOk.mono (v := v) e hn⟩
theorem En.keep {S S' : MSt} {nc nc' nf nf' : Nat} {c : Int32} {L : Env} (h : En (rcl S nf) nc c L) (hk : KC nc S S') (hn : nf ≤ nf') (hc : nc ≤ nc') : En (rcl S' nf') nc' c L := h.mono hc (fun _ _ _ _ hj hr => hr.mono hk hj hn)
theorem En.new {S S' : MSt} {nc nf nf' : Nat} {x c : Int32} {v : Val} {L : Env} (h : En (rcl S nf) nc c L) (hu : CU S S' nc x v c) (hv : VOk nf' v) (hn : nf ≤ nf') : En (rcl S' nf') (nc + 1) (nI nc) ((x, v) :: L) := by
  refine ⟨nc, c, by omega, rfl, ⟨?_, ?_, ?_, ?_, hv⟩, h.keep hu.kc hn (Nat.le_refl _)⟩
  · rw [hu.1, rup_eq]
  · rw [hu.2.1, rup_eq]
  · rw [hu.2.2.1, rup_eq]
  · rw [hu.2.2.2, rup_eq]
def Cov (A : List It) (L : Env) : Prop := ∃ (e : List Int32) (stk : List (List Int32)), rnk [[]] A = e :: stk ∧ ∀ x ∈ e, x ∈ L.map Prod.fst
def FnR (P : List It) (S : MSt) (nf nc k : Nat) (fn : Fn) : Prop := ∃ (A : List It) (F : It), P = A ++ F :: fn.2.1 ∧ F.1 = 2 ∧ F.2.2.1 = fn.1 ∧ S.2 32 k = nI (tsum A + 4) ∧ S.2 33 k = fn.1 ∧ En (rcl S nf) nc (S.2 34 k) fn.2.2 ∧ Cov A fn.2.2
theorem FnR.keep {P : List It} {S S' : MSt} {nf nf' nc nc' k : Nat} {fn : Fn} (h : FnR P S nf nc k fn) (hk : KC nc S S') (hn : nf ≤ nf') (hc : nc ≤ nc') (h32 : S'.2 32 k = S.2 32 k) (h33 : S'.2 33 k = S.2 33 k) (h34 : S'.2 34 k = S.2 34 k) : FnR P S' nf' nc' k fn := by
  obtain ⟨A, F, a1, a2, a3, a4, a5, a6, a7⟩ := h
  exact ⟨A, F, a1, a2, a3, h32.trans a4, h33.trans a5, by rw [h34]; exact a6.keep hk hn hc, a7⟩
def RR (P : List It) (S : MSt) (nc dp : Nat) (σ : RSt) : Prop := S.1 26 = nI nc ∧ nc + dp ≤ 2 * σ.2.2.1 ∧ σ.2.2.1 ≤ 400 ∧ S.1 31 = nI σ.2.1 ∧ σ.2.1 ≤ σ.2.2.1 ∧ S.2 42 0 = 0 ∧ S.2 42 1 = 0 ∧ S.2 42 2 = nI σ.2.2.1 ∧ S.2 42 3 = nI σ.2.2.2 ∧ σ.2.2.2 ≤ 12 ∧ ∀ k, k < σ.2.1 → FnR P S σ.2.1 nc k (σ.1 k)
def FrR (P : List It) (S : MSt) (nc nf : Nat) (A B : List It) (L : Env) (dp : Nat) : Prop := P = A ++ B ∧ dp ≤ 12 ∧ S.1 35 = nI (dp + 1) ∧ S.2 36 dp = nI (tsum A) ∧ En (rcl S nf) nc (S.2 37 dp) L ∧ Cov A L
theorem rnk_row {e : List Int32} {s : List (List Int32)} {X : List It} {r : It} (h : Sco [e] (X ++ [r])) (h9 : r.1 = 9) : rnk (e :: s) (X ++ [r]) = s := by
  obtain ⟨e', k1, -⟩ := Sco_row h h9
  have := rnk_app (stk := s) h (by simp)
  rw [k1] at this
  rw [rnk_two]
  rw [show e :: s = [e] ++ s from rfl, this]
  show scn e' s r = s
  unfold scn
  rw [if_pos h9]
theorem sub_cons {e : List Int32} {L : Env} {x : Int32} {v : Val} (h : ∀ y ∈ e, y ∈ L.map Prod.fst) : ∀ y ∈ x :: e, y ∈ ((x, v) :: L).map Prod.fst := fun y hy => by
  rcases List.mem_cons.mp hy with rfl | hy
  · simp
  · rw [List.map_cons]; exact List.mem_cons_of_mem _ (h y hy)
theorem Cov_use {A B : List It} {it : It} {L : Env} (hS : Sco [[]] (A ++ it :: B)) (hC : Cov A L) {j : Nat} (hj : j < iat it) : (iatm it j).1 = 0 ∨ ((iatm it j).1 = 1 ∧ (iatm it j).2 ∈ L.map Prod.fst) := by
  obtain ⟨e, stk, h1, h2, -⟩ := Sco_at hS
  obtain ⟨e', stk', g1, g2⟩ := hC
  rw [h1] at g1
  cases g1
  rcases h2 j hj with z | z
  · exact Or.inl z
  · exact Or.inr ⟨z.1, g2 _ z.2⟩
