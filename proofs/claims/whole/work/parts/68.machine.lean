/-! ===== the class: the machine's values and its heap ===== -/
/-- a value as a long -/
def vL (v : Val) : Int64 := if v.1 = true then Int64.ofInt 4294967296 + v.2.toInt64 else v.2.toInt64 &&& Int64.ofInt 4294967295
theorem vL_bits (x : Int32) : (x.toInt64 &&& Int64.ofInt 4294967295).toBitVec = x.toBitVec.setWidth 64 := by
  rw [Int64.toBitVec_and]
  apply BitVec.eq_of_getLsbD_eq
  intro i hi
  have e1 : x.toInt64.toBitVec = x.toBitVec.signExtend 64 := rfl
  have e2 : (Int64.ofInt 4294967295).toBitVec = (BitVec.allOnes 32).setWidth 64 := by decide
  rw [BitVec.getLsbD_and, e1, e2, BitVec.getLsbD_signExtend, BitVec.getLsbD_setWidth, BitVec.getLsbD_setWidth, BitVec.getLsbD_allOnes]
  by_cases h : i < 32
  · simp [h, hi]
  · simp [h, hi, BitVec.getLsbD_of_ge x.toBitVec i (by omega)]
theorem vL_int32 (x : Int32) : (x.toInt64 &&& Int64.ofInt 4294967295).toInt32 = x := by
  apply Int32.toBitVec_inj.mp
  have e : (x.toInt64 &&& Int64.ofInt 4294967295).toInt32.toBitVec = (x.toInt64 &&& Int64.ofInt 4294967295).toBitVec.signExtend 32 := rfl
  rw [e, vL_bits, BitVec.signExtend_eq_setWidth_of_le _ (by decide), BitVec.setWidth_setWidth_of_le _ (by decide), BitVec.setWidth_eq]
theorem vL_toInt (x : Int32) : (x.toInt64 &&& Int64.ofInt 4294967295).toInt = (x.toBitVec.toNat : Int) := by
  have e : (x.toInt64 &&& Int64.ofInt 4294967295).toInt = (x.toInt64 &&& Int64.ofInt 4294967295).toBitVec.toInt := rfl
  rw [e, vL_bits, BitVec.toInt_eq_toNat_of_lt]
  · rw [BitVec.toNat_setWidth_of_le (by decide)]
  · rw [BitVec.toNat_setWidth_of_le (by decide)]
    have := x.toBitVec.isLt
    omega
theorem vL_notfun (x : Int32) : ¬ (lg_cmp (x.toInt64 &&& Int64.ofInt 4294967295) (Int64.ofInt 4294967296)) ≥ 0 := by
  have h : (x.toInt64 &&& Int64.ofInt 4294967295) < Int64.ofInt 4294967296 := by
    rw [Int64.lt_iff_toInt_lt, vL_toInt]
    have := x.toBitVec.isLt
    have e : (Int64.ofInt 4294967296).toInt = 4294967296 := by decide
    rw [e]
    omega
  unfold lg_cmp
  rw [if_neg (fun z => absurd z (Int64.not_lt.mpr (Int64.le_of_lt h))), if_neg (fun z => by rw [z] at h; exact Int64.lt_irrefl h)]
  decide
theorem vL_zero (x : Int32) : lg_cmp (x.toInt64 &&& Int64.ofInt 4294967295) (Int64.ofNat 0) = 0 ↔ x = 0 := by
  constructor
  · intro h
    have hz : (x.toInt64 &&& Int64.ofInt 4294967295) = Int64.ofNat 0 := by
      unfold lg_cmp at h
      split at h
      · exact absurd h (by decide)
      · split at h
        · assumption
        · exact absurd h (by decide)
    rw [← vL_int32 x, hz]
    rfl
  · intro h
    rw [h]
    decide
theorem vL_fun : ∀ k, k < 400 → Int64.ofInt 4294967296 + (nI (k + 1)).toInt64 - Int64.ofNat 1 = Int64.ofInt 4294967296 + (nI k).toInt64 ∧ lg_cmp (Int64.ofInt 4294967296 + (nI k).toInt64) (Int64.ofInt 4294967296) ≥ 0 ∧ (Int64.ofInt 4294967296 + (nI k).toInt64).toInt32 = nI k := by decide +kernel
abbrev MT : Type := (Nat → Int32) × (Nat → Nat → Int32) × (Nat → Int64) × (Nat → Value)
def lar (n : Nat) (f : Nat → Int64) : List Value := (List.range n).map (fun k => .long (f k))
def far (f : Nat → Value) : List Value := (List.range 400).map f
def lup (f : Nat → Int64) (k : Nat) (x : Int64) : Nat → Int64 := fun q => if q = k then x else f q
theorem lar_len {n : Nat} {f : Nat → Int64} : (lar n f).length = n := by unfold lar; rw [List.length_map, List.length_range]
theorem lar_at {n k : Nat} {f : Nat → Int64} (h : k < n) : (lar n f)[k]? = some (.long (f k)) := by
  unfold lar
  rw [List.getElem?_map, List.getElem?_range h]; rfl
theorem lar_set {m n : Nat} {T : Nat → Int64} {x : Int64} : (lar m T).set n (.long x) = lar m (lup T n x) := by
  apply List.ext_getElem?
  intro i
  rw [List.getElem?_set]
  by_cases hi : i < m
  · rw [lar_at hi, lar_at hi]
    by_cases e : n = i
    · rw [if_pos e, lar_len, if_pos (by omega), e]
      unfold lup
      rw [if_pos rfl]
    · rw [if_neg e]
      unfold lup
      rw [if_neg (fun z => e z.symm)]
  · have l1 : (lar m T)[i]? = none := List.getElem?_eq_none (by rw [lar_len]; omega)
    have l2 : (lar m (lup T n x))[i]? = none := List.getElem?_eq_none (by rw [lar_len]; omega)
    rw [l1, l2]
    by_cases e : n = i
    · rw [if_pos e, if_neg (by rw [lar_len]; omega)]
    · rw [if_neg e]
theorem far_len {f : Nat → Value} : (far f).length = 400 := by unfold far; rw [List.length_map, List.length_range]
theorem far_at {k : Nat} {f : Nat → Value} (h : k < 400) : (far f)[k]? = some (f k) := by
  unfold far
  rw [List.getElem?_map, List.getElem?_range h]; rfl
theorem far_set {n : Nat} {f : Nat → Value} {v : Value} : (far f).set n v = far (vup f n v) := by
  apply List.ext_getElem?
  intro i
  rw [List.getElem?_set]
  by_cases hi : i < 400
  · rw [far_at hi, far_at hi]
    by_cases e : n = i
    · rw [if_pos e, far_len, if_pos (by omega), e]
      unfold vup
      rw [if_pos rfl]
    · rw [if_neg e]
      unfold vup
      rw [if_neg (fun z => e z.symm)]
  · have l1 : (far f)[i]? = none := List.getElem?_eq_none (by rw [far_len]; omega)
    have l2 : (far (vup f n v))[i]? = none := List.getElem?_eq_none (by rw [far_len]; omega)
    rw [l1, l2]
    by_cases e : n = i
    · rw [if_pos e, if_neg (by rw [far_len]; omega)]
    · rw [if_neg e]
def mcf (z : Nat) (T : MT) : List Value := [.ref (z + 1), .ref (z + 2), .ref (z + 3), .int (T.1 3), .ref (z + 4), .ref (z + 5), .int (T.1 6), .int (T.1 7), .int (T.1 8), .int (T.1 9), .int (T.1 10), .int (T.1 11)]
def mcc (z : Nat) (T : MT) (j : Nat) : Option PC := match j with
  | 0 => some (4, mcf z T)
  | 1 => some (100, iar 800 (T.2.1 0))
  | 2 => some (101, lar 800 T.2.2.1)
  | 3 => some (100, iar 800 (T.2.1 2))
  | 4 => some (105, far T.2.2.2)
  | 5 => some (100, iar 400 (T.2.1 5))
  | _ => none
/-- the machine at z, its arrays behind it -/
def mch (g : PH) (z : Nat) (T : MT) : PH := (fun q => if z ≤ q ∧ q ≤ z + 5 then mcc z T (q - z) else g.1 q, g.2)
def tI (T : MT) (k : Nat) (x : Int32) : MT := (rup T.1 k x, T.2)
def tN (T : MT) (k n : Nat) (x : Int32) : MT := (T.1, fun j => if j = k then rup (T.2.1 k) n x else T.2.1 j, T.2.2)
def tV (T : MT) (n : Nat) (x : Int64) : MT := (T.1, T.2.1, lup T.2.2.1 n x, T.2.2.2)
def tF (T : MT) (n : Nat) (x : Value) : MT := (T.1, T.2.1, T.2.2.1, vup T.2.2.2 n x)
section M45
variable {E : PE} {d : Nat} {g : PH} {z : Nat} {T : MT} {O : Nat → Nat × Nat} {G : PG}
theorem mch_j {j : Nat} (hj : j ≤ 5) : (mch g z T).1 (z + j) = mcc z T j := by
  show (if z ≤ z + j ∧ z + j ≤ z + 5 then mcc z T (z + j - z) else g.1 (z + j)) = _
  rw [if_pos (by omega), Nat.add_sub_cancel_left]
theorem mch_z : (mch g z T).1 z = some (4, mcf z T) := mch_j (j := 0) (by omega)
theorem mch_0 : (mch g z T).1 (z + 1) = some (100, iar 800 (T.2.1 0)) := mch_j (j := 1) (by omega)
theorem mch_1 : (mch g z T).1 (z + 2) = some (101, lar 800 T.2.2.1) := mch_j (j := 2) (by omega)
theorem mch_2 : (mch g z T).1 (z + 3) = some (100, iar 800 (T.2.1 2)) := mch_j (j := 3) (by omega)
theorem mch_4 : (mch g z T).1 (z + 4) = some (105, far T.2.2.2) := mch_j (j := 4) (by omega)
theorem mch_5 : (mch g z T).1 (z + 5) = some (100, iar 400 (T.2.1 5)) := mch_j (j := 5) (by omega)
theorem mch_ne {q : Nat} (h : ¬ (z ≤ q ∧ q ≤ z + 5)) : (mch g z T).1 q = g.1 q := if_neg h
theorem mch_up {T' : MT} {j : Nat} {c : PC} (hj : j ≤ 5) (hc : mcc z T' j = some c) (ho : ∀ i, i ≤ 5 → i ≠ j → mcc z T' i = mcc z T i) : pset (mch g z T) (z + j) c = mch g z T' := by
  refine Prod.ext (funext fun q => ?_) rfl
  show (if q = z + j then some c else if z ≤ q ∧ q ≤ z + 5 then mcc z T (q - z) else g.1 q) = (if z ≤ q ∧ q ≤ z + 5 then mcc z T' (q - z) else g.1 q)
  by_cases e : q = z + j
  · rw [if_pos e, if_pos (by omega), e, Nat.add_sub_cancel_left, hc]
  · rw [if_neg e]
    by_cases r : z ≤ q ∧ q ≤ z + 5
    · rw [if_pos r, if_pos r, ho (q - z) (by omega) (by omega)]
    · rw [if_neg r, if_neg r]
theorem mcc_I {k : Nat} {x : Int32} : ∀ i, i ≤ 5 → i ≠ 0 → mcc z (tI T k x) i = mcc z T i
  | 0, _, h => absurd rfl h
  | 1, _, _ => rfl
  | 2, _, _ => rfl
  | 3, _, _ => rfl
  | 4, _, _ => rfl
  | 5, _, _ => rfl
  | _ + 6, h, _ => absurd h (by omega)
theorem mch_I {k : Nat} {x : Int32} (hk : (mcf z T).set k (.int x) = mcf z (tI T k x)) : pset (mch g z T) z (4, (mcf z T).set k (.int x)) = mch g z (tI T k x) := by
  rw [hk]
  exact mch_up (j := 0) (by omega) rfl mcc_I
theorem mch_N0 {n : Nat} {x : Int32} : pset (mch g z T) (z + 1) (100, iar 800 (rup (T.2.1 0) n x)) = mch g z (tN T 0 n x) := mch_up (j := 1) (by omega) rfl (fun i hi h => by
  match i, hi, h with
  | 0, _, _ => rfl
  | 2, _, _ => rfl
  | 3, _, _ => rfl
  | 4, _, _ => rfl
  | 5, _, _ => rfl)
theorem mch_N2 {n : Nat} {x : Int32} : pset (mch g z T) (z + 3) (100, iar 800 (rup (T.2.1 2) n x)) = mch g z (tN T 2 n x) := mch_up (j := 3) (by omega) rfl (fun i hi h => by
  match i, hi, h with
  | 0, _, _ => rfl
  | 1, _, _ => rfl
  | 2, _, _ => rfl
  | 4, _, _ => rfl
  | 5, _, _ => rfl)
theorem mch_N5 {n : Nat} {x : Int32} : pset (mch g z T) (z + 5) (100, iar 400 (rup (T.2.1 5) n x)) = mch g z (tN T 5 n x) := mch_up (j := 5) (by omega) rfl (fun i hi h => by
  match i, hi, h with
  | 0, _, _ => rfl
  | 1, _, _ => rfl
  | 2, _, _ => rfl
  | 3, _, _ => rfl
  | 4, _, _ => rfl
  | 5, _, h => exact absurd rfl h
  | n + 6, hi, _ => exact absurd hi (by omega))
theorem mch_V {n : Nat} {x : Int64} : pset (mch g z T) (z + 2) (101, lar 800 (lup T.2.2.1 n x)) = mch g z (tV T n x) := mch_up (j := 2) (by omega) rfl (fun i hi h => by
  match i, hi, h with
  | 0, _, _ => rfl
  | 1, _, _ => rfl
  | 3, _, _ => rfl
  | 4, _, _ => rfl
  | 5, _, _ => rfl)
theorem mch_F {n : Nat} {x : Value} : pset (mch g z T) (z + 4) (105, far (vup T.2.2.2 n x)) = mch g z (tF T n x) := mch_up (j := 4) (by omega) rfl (fun i hi h => by
  match i, hi, h with
  | 0, _, _ => rfl
  | 1, _, _ => rfl
  | 2, _, _ => rfl
  | 3, _, _ => rfl
  | 5, _, _ => rfl)
/-- what is no cell of the machine is the same for every state -/
theorem mch_same {T' : MT} {q t : Nat} {fs : List Value} (hq : (mch g z T).1 q = some (t, fs)) (e1 : t ≠ 4) (e2 : t ≠ 100) (e3 : t ≠ 101) (e4 : t ≠ 105) : (mch g z T').1 q = some (t, fs) := by
  by_cases r : z ≤ q ∧ q ≤ z + 5
  · exfalso
    have hj : (mch g z T).1 q = mcc z T (q - z) := if_pos r
    rw [hj] at hq
    have : q - z ≤ 5 := by omega
    generalize q - z = i at hq this
    match i, this, hq with
    | 0, _, hq => cases hq; exact e1 rfl
    | 1, _, hq => cases hq; exact e2 rfl
    | 2, _, hq => cases hq; exact e3 rfl
    | 3, _, hq => cases hq; exact e2 rfl
    | 4, _, hq => cases hq; exact e4 rfl
    | 5, _, hq => cases hq; exact e2 rfl
  · rw [mch_ne r] at hq ⊢
    exact hq
section RU
variable {mi pc : Nat} {L : PL} {st : List Value}
theorem mc_put {j k : Nat} {x : Int32} (hi : pin mi pc = some (.putfield j, 3)) (hl : pfl (mno mi) j = some (4, k)) (hn : narrow (pty 4 k) (.int x) = .int x) (hf : fits (pty 4 k) (.int x) = true) (hok : pfok mi 4 k = true) (hk : (mcf z T).set k (.int x) = mcf z (tI T k x)) : Ex E d (mi, pc, L, .int x :: .ref z :: st) (mch g z T) (mi, pc + 3, L, st) (mch g z (tI T k x)) := by
  rw [← mch_I hk]
  exact x_putf hi hl mch_z hn hf hok
theorem mc_N0 {i x : Int32} {n : Nat} (hi : pin mi pc = some (.iastore, 1)) (he : i = nI n) (hn : n < 800) : Ex E d (mi, pc, L, .int x :: .int i :: .ref (z + 1) :: st) (mch g z T) (mi, pc + 1, L, st) (mch g z (tN T 0 n x)) := by
  rw [← mch_N0]
  exact x_iasti hi mch_0 he (by omega) hn
theorem mc_N2 {i x : Int32} {n : Nat} (hi : pin mi pc = some (.iastore, 1)) (he : i = nI n) (hn : n < 800) : Ex E d (mi, pc, L, .int x :: .int i :: .ref (z + 3) :: st) (mch g z T) (mi, pc + 1, L, st) (mch g z (tN T 2 n x)) := by
  rw [← mch_N2]
  exact x_iasti hi mch_2 he (by omega) hn
theorem mc_N5 {i x : Int32} {n : Nat} (hi : pin mi pc = some (.iastore, 1)) (he : i = nI n) (hn : n < 400) : Ex E d (mi, pc, L, .int x :: .int i :: .ref (z + 5) :: st) (mch g z T) (mi, pc + 1, L, st) (mch g z (tN T 5 n x)) := by
  rw [← mch_N5]
  exact x_iasti hi mch_5 he (by omega) hn
theorem mc_V {i : Int32} {x : Int64} {n : Nat} (hi : pin mi pc = some (.lastore, 1)) (he : i = nI n) (hn : n < 800) : Ex E d (mi, pc, L, .long x :: .int i :: .ref (z + 2) :: st) (mch g z T) (mi, pc + 1, L, st) (mch g z (tV T n x)) := by
  rw [← mch_V, ← lar_set]
  exact x_last hi mch_1 rfl (by decide) he (by omega) (by rw [lar_len]; exact hn)
theorem mc_F {i : Int32} {n v : Nat} {gs : List Value} (hi : pin mi pc = some (.aastore, 1)) (hv : (mch g z T).1 v = some (2, gs)) (he : i = nI n) (hn : n < 400) : Ex E d (mi, pc, L, .ref v :: .int i :: .ref (z + 4) :: st) (mch g z T) (mi, pc + 1, L, st) (mch g z (tF T n (.ref v))) := by
  rw [← mch_F, ← far_set]
  exact x_aast hi mch_4 hv rfl he (by omega) (by rw [far_len]; exact hn)
end RU
theorem c_endw {k : Int32} : Rn E d 112 [.ref z, .int k] (mch g z T) (some (.long 0)) (mch g z (tI T 7 k)) := by
  refine Rn.of (Nat.le_of_ble_eq_true rfl) ?_
  refine Rk.tr (F1 := (112, 1, _, _)) (x_aload_n rfl rfl rfl) ?_
  refine Rk.tr (F1 := (112, 2, _, _)) (x_iload_n rfl rfl) ?_
  refine Rk.tr (F1 := (112, 5, _, _)) (mc_put rfl rfl rfl rfl rfl rfl) ?_
  refine Rk.tr (F1 := (112, 6, _, _)) (x_lconst rfl) ?_
  exact Rk.end rfl (Or.inr (Or.inr (Or.inl ⟨rfl, rfl, _, rfl, rfl⟩)))
theorem c_intv {h : PH} {x : Int32} : Rn E d 117 [.int x] h (some (.long (vL (false, x)))) h := by
  refine Rn.of (Nat.le_of_ble_eq_true rfl) ?_
  refine Rk.tr (F1 := (117, 1, _, _)) (x_iload_n rfl rfl) ?_
  refine Rk.tr (F1 := (117, 2, _, _)) (x_i2l rfl) ?_
  refine Rk.tr (F1 := (117, 5, _, _)) (x_ldc2 rfl rfl) ?_
  refine Rk.tr (F1 := (117, 6, _, _)) (x_land rfl) ?_
  exact Rk.end rfl (Or.inr (Or.inr (Or.inl ⟨rfl, rfl, _, rfl, rfl⟩)))
theorem c_isf {h : PH} {v : Val} (hv : v.1 = true → ∃ k, k < 400 ∧ v.2 = nI k) : Rn E d 118 [.long (vL v)] h (some (.int (bI v.1))) h := by
  refine Rn.of (Nat.le_of_ble_eq_true rfl) ?_
  obtain ⟨b, x⟩ := v
  cases b with
  | true =>
    obtain ⟨k, k1, k2⟩ := hv rfl
    simp only at k2
    subst k2
    have e : vL (true, nI k) = Int64.ofInt 4294967296 + (nI k).toInt64 := rfl
    rw [e]
    have hh := (vL_fun k k1).2.1
    refine Rk.tr (F1 := (118, 1, _, _)) (x_lload_n rfl rfl) ?_
    refine Rk.tr (F1 := (118, 4, _, _)) (x_ldc2 rfl rfl) ?_
    refine Rk.tr (F1 := (118, 5, _, _)) (x_lcmp rfl) ?_
    refine Rk.tr (F1 := (118, 8, _, _)) (x_ifF rfl (tg := 12) rfl (Int32.not_lt.mpr hh)) ?_
    refine Rk.tr (F1 := (118, 9, _, _)) (x_iconst rfl) ?_
    refine Rk.tr (F1 := (118, 13, _, _)) (x_goto rfl rfl) ?_
    exact Rk.end rfl (Or.inr (Or.inl ⟨rfl, _, .boolean, rfl, rfl, rfl, rfl⟩))
  | false =>
    have e : vL (false, x) = x.toInt64 &&& Int64.ofInt 4294967295 := rfl
    rw [e]
    have hh := vL_notfun x
    refine Rk.tr (F1 := (118, 1, _, _)) (x_lload_n rfl rfl) ?_
    refine Rk.tr (F1 := (118, 4, _, _)) (x_ldc2 rfl rfl) ?_
    refine Rk.tr (F1 := (118, 5, _, _)) (x_lcmp rfl) ?_
    refine Rk.tr (F1 := (118, 12, _, _)) (x_ifT rfl (tg := 12) rfl (Int32.not_le.mp hh)) ?_
    refine Rk.tr (F1 := (118, 13, _, _)) (x_iconst rfl) ?_
    exact Rk.end rfl (Or.inr (Or.inl ⟨rfl, _, .boolean, rfl, rfl, rfl, rfl⟩))
/-- a cell is made -/
def tC (T : MT) (nc : Nat) (x : Int32) (v : Int64) (c : Int32) : MT := tI (tN (tV (tN T 0 nc x) nc v) 2 nc c) 3 (nI (nc + 1))
theorem c_newc {nc : Nat} {x c : Int32} {v : Int64} (h3 : T.1 3 = nI nc) (hn : nc < 800) : Rn E d 119 [.ref z, .int x, .long v, .int c] (mch g z T) (some (.int (nI nc))) (mch g z (tC T nc x v c)) := by
  have e3 : mcf z T = [.ref (z + 1), .ref (z + 2), .ref (z + 3), .int (nI nc), .ref (z + 4), .ref (z + 5), .int (T.1 6), .int (T.1 7), .int (T.1 8), .int (T.1 9), .int (T.1 10), .int (T.1 11)] := by unfold mcf; rw [h3]
  have z0 : ∀ T' : MT, T'.1 = T.1 → (mch g z T').1 z = some (4, [.ref (z + 1), .ref (z + 2), .ref (z + 3), .int (nI nc), .ref (z + 4), .ref (z + 5), .int (T.1 6), .int (T.1 7), .int (T.1 8), .int (T.1 9), .int (T.1 10), .int (T.1 11)]) := fun T' h' => by
    rw [mch_z]
    unfold mcf
    rw [h', h3]
  have z9 : (mch g z (tC T nc x v c)).1 z = some (4, [.ref (z + 1), .ref (z + 2), .ref (z + 3), .int (nI (nc + 1)), .ref (z + 4), .ref (z + 5), .int (T.1 6), .int (T.1 7), .int (T.1 8), .int (T.1 9), .int (T.1 10), .int (T.1 11)]) := mch_z
  refine Rn.of (Nat.le_of_ble_eq_true rfl) ?_
  refine Rk.tr (F1 := (119, 1, _, _)) (x_aload_n rfl rfl rfl) ?_
  refine Rk.tr (F1 := (119, 4, _, _)) (x_getf rfl rfl (z0 T rfl) rfl) ?_
  refine Rk.tr (F1 := (119, 7, _, _)) (x_sipush rfl) ?_
  refine Rk.tr (F1 := (119, 13, _, _)) (x_icT rfl (tg := 13) rfl (show nI nc < nI 800 from Int32.not_le.mp (nI_ge (by omega) (by omega)))) ?_
  refine Rk.tr (F1 := (119, 14, _, _)) (x_aload_n rfl rfl rfl) ?_
  refine Rk.tr (F1 := (119, 17, _, _)) (x_getf rfl rfl (z0 T rfl) rfl) ?_
  refine Rk.tr (F1 := (119, 18, _, _)) (x_aload_n rfl rfl rfl) ?_
  refine Rk.tr (F1 := (119, 21, _, _)) (x_getf rfl rfl (z0 T rfl) rfl) ?_
  refine Rk.tr (F1 := (119, 22, _, _)) (x_iload_n rfl rfl) ?_
  refine Rk.tr (F1 := (119, 23, _, _)) (mc_N0 rfl rfl hn) ?_
  refine Rk.tr (F1 := (119, 24, _, _)) (x_aload_n rfl rfl rfl) ?_
  refine Rk.tr (F1 := (119, 27, _, _)) (x_getf rfl rfl (z0 _ rfl) rfl) ?_
  refine Rk.tr (F1 := (119, 28, _, _)) (x_aload_n rfl rfl rfl) ?_
  refine Rk.tr (F1 := (119, 31, _, _)) (x_getf rfl rfl (z0 _ rfl) rfl) ?_
  refine Rk.tr (F1 := (119, 32, _, _)) (x_lload_n rfl rfl) ?_
  refine Rk.tr (F1 := (119, 33, _, _)) (mc_V rfl rfl hn) ?_
  refine Rk.tr (F1 := (119, 34, _, _)) (x_aload_n rfl rfl rfl) ?_
  refine Rk.tr (F1 := (119, 37, _, _)) (x_getf rfl rfl (z0 _ rfl) rfl) ?_
  refine Rk.tr (F1 := (119, 38, _, _)) (x_aload_n rfl rfl rfl) ?_
  refine Rk.tr (F1 := (119, 41, _, _)) (x_getf rfl rfl (z0 _ rfl) rfl) ?_
  refine Rk.tr (F1 := (119, 43, _, _)) (x_iload rfl rfl) ?_
  refine Rk.tr (F1 := (119, 44, _, _)) (mc_N2 rfl rfl hn) ?_
  refine Rk.tr (F1 := (119, 45, _, _)) (x_aload_n rfl rfl rfl) ?_
  refine Rk.tr (F1 := (119, 46, _, _)) (x_dup rfl rfl) ?_
  refine Rk.tr (F1 := (119, 49, _, _)) (x_getf rfl rfl (z0 _ rfl) rfl) ?_
  refine Rk.tr (F1 := (119, 50, _, _)) (x_iconst rfl) ?_
  refine Rk.tr (F1 := (119, 51, _, _)) (x_iadd rfl) ?_
  refine Rk.tr (F1 := (119, 51, _, _)) (x_top (nI_1 nc)) ?_
  refine Rk.tr (F1 := (119, 54, _, _)) (mc_put rfl rfl rfl rfl rfl rfl) ?_
  refine Rk.tr (F1 := (119, 55, _, _)) (x_aload_n rfl rfl rfl) ?_
  refine Rk.tr (F1 := (119, 58, _, _)) (x_getf rfl rfl z9 rfl) ?_
  refine Rk.tr (F1 := (119, 59, _, _)) (x_iconst rfl) ?_
  refine Rk.tr (F1 := (119, 60, _, _)) (x_isub rfl) ?_
  refine Rk.tr (F1 := (119, 60, _, _)) (x_top (show nI (nc + 1) - 1 = nI nc by rw [nI_m1 (by omega)]; rfl)) ?_
  exact Rk.end rfl (Or.inr (Or.inl ⟨rfl, _, .int, rfl, rfl, rfl, rfl⟩))
end M45
