/-! ===== the reference is made ===== -/
def mfp (o j k : Nat) : Value := if mad k = 0 then .int 0 else if mad k ≤ j then .ref (o + mad k) else .null
def msum : Nat → Nat
  | 0 => 0
  | j + 1 => msum j + mlen (mak (j + 1))
/-- the first j of its arrays are made -/
def mhp (h0 : PH) (j : Nat) : PH := (fun q => if q = h0.2.1 then some (10, (List.range 43).map (mfp h0.2.1 j)) else if h0.2.1 < q ∧ q ≤ h0.2.1 + j then some (mtg (mak (q - h0.2.1)), List.replicate (mlen (mak (q - h0.2.1))) (.int 0)) else h0.1 q, h0.2.1 + 1 + j, h0.2.2 + 43 + msum j)
theorem mhp_0 (h0 : PH) : pnew h0 (10, pdef 10) = mhp h0 0 := by
  unfold pnew mhp
  refine Prod.ext (funext fun q => ?_) rfl
  show (if q = h0.2.1 then some (10, pdef 10) else h0.1 q) = (if q = h0.2.1 then some (10, (List.range 43).map (mfp h0.2.1 0)) else if h0.2.1 < q ∧ q ≤ h0.2.1 + 0 then _ else h0.1 q)
  by_cases e : q = h0.2.1
  · rw [if_pos e, if_pos e]
    congr 2
  · rw [if_neg e, if_neg e, if_neg (by omega)]
theorem mhp_1 (h0 : PH) {j k : Nat} (hj : j < 25) (hk : mak (j + 1) = k) (hm : mad k = j + 1) (h43 : k < 43) : pset (pnew (mhp h0 j) (mtg k, List.replicate (mlen k) (.int 0))) h0.2.1 (10, ((List.range 43).map (mfp h0.2.1 j)).set k (.ref (h0.2.1 + 1 + j))) = mhp h0 (j + 1) := by
  refine Prod.ext (funext fun q => ?_) ?_
  · show (if q = h0.2.1 then some (10, ((List.range 43).map (mfp h0.2.1 j)).set k (.ref (h0.2.1 + 1 + j))) else if q = h0.2.1 + 1 + j then some (mtg k, List.replicate (mlen k) (.int 0)) else if q = h0.2.1 then some (10, (List.range 43).map (mfp h0.2.1 j)) else if h0.2.1 < q ∧ q ≤ h0.2.1 + j then some (mtg (mak (q - h0.2.1)), List.replicate (mlen (mak (q - h0.2.1))) (.int 0)) else h0.1 q) = (if q = h0.2.1 then some (10, (List.range 43).map (mfp h0.2.1 (j + 1))) else if h0.2.1 < q ∧ q ≤ h0.2.1 + (j + 1) then some (mtg (mak (q - h0.2.1)), List.replicate (mlen (mak (q - h0.2.1))) (.int 0)) else h0.1 q)
    by_cases e : q = h0.2.1
    · rw [if_pos e, if_pos e]
      congr 2
      apply List.ext_getElem?
      intro i
      rw [List.getElem?_set]
      by_cases hi : i < 43
      · rw [List.getElem?_map, List.getElem?_map, List.getElem?_range hi]
        by_cases ei : k = i
        · subst ei
          rw [if_pos rfl, if_pos (by simpa using hi)]
          simp only [Option.map_some, mfp]
          rw [if_neg (by omega), if_pos (by omega), hm, show h0.2.1 + (j + 1) = h0.2.1 + 1 + j by omega]
        · rw [if_neg ei]
          simp only [Option.map_some, mfp]
          congr 1
          by_cases h0 : mad i = 0
          · rw [if_pos h0, if_pos h0]
          · rw [if_neg h0, if_neg h0]
            have hne : mad i ≠ j + 1 := by
              intro z
              have inj : ∀ a, a < 43 → 0 < mad a → mak (mad a) = a := by decide
              have := inj i hi (by omega)
              rw [z, hk] at this
              exact ei this
            by_cases hl : mad i ≤ j
            · rw [if_pos hl, if_pos (by omega)]
            · rw [if_neg hl, if_neg (by omega)]
      · rw [List.getElem?_eq_none (by simp; omega), List.getElem?_eq_none (by simp; omega)]
        split
        · split
          next h => exact absurd h (by simp; omega)
          next => rfl
        · rfl
    · simp only [if_neg e]
      by_cases e1 : q = h0.2.1 + 1 + j
      · rw [if_pos e1, if_pos (by omega), e1, show h0.2.1 + 1 + j - h0.2.1 = j + 1 by omega, hk]
      · rw [if_neg e1]
        by_cases e2 : h0.2.1 < q ∧ q ≤ h0.2.1 + j
        · rw [if_pos e2, if_pos (by omega)]
        · rw [if_neg e2, if_neg (by omega)]
  · show (h0.2.1 + 1 + j + 1, h0.2.2 + 43 + msum j + (List.replicate (mlen k) (Value.int 0)).length) = (h0.2.1 + 1 + (j + 1), h0.2.2 + 43 + msum (j + 1))
    rw [List.length_replicate]
    show _ = (h0.2.1 + 1 + (j + 1), h0.2.2 + 43 + (msum j + mlen (mak (j + 1))))
    rw [hk]
    congr 1
    omega
theorem mhp_o {h0 : PH} {j : Nat} : (mhp h0 j).1 h0.2.1 = some (10, (List.range 43).map (mfp h0.2.1 j)) := if_pos rfl
theorem mhp_25 (h0 : PH) : mhp h0 25 = mh (h0.1, h0.2.1 + 26, h0.2.2 + 43 + msum 25) h0.2.1 (fun _ => 0, fun _ _ => 0) := by
  refine Prod.ext (funext fun q => ?_) rfl
  show (if q = h0.2.1 then some (10, (List.range 43).map (mfp h0.2.1 25)) else if h0.2.1 < q ∧ q ≤ h0.2.1 + 25 then some (mtg (mak (q - h0.2.1)), List.replicate (mlen (mak (q - h0.2.1))) (.int 0)) else h0.1 q) = (if q = h0.2.1 then some (10, mfs h0.2.1 (fun _ => 0, fun _ _ => 0)) else if h0.2.1 < q ∧ q ≤ h0.2.1 + 25 then some (mtg (mak (q - h0.2.1)), marr (fun _ => 0, fun _ _ => 0) (mak (q - h0.2.1))) else h0.1 q)
  by_cases e : q = h0.2.1
  · rw [if_pos e, if_pos e]
    refine congrArg (fun l => some (10, l)) ?_
    unfold mfs
    apply List.map_congr_left
    intro i hi
    have hi : i < 43 := List.mem_range.mp hi
    unfold mfp mfd
    by_cases hz : mad i = 0
    · rw [if_pos hz, if_pos hz]
    · rw [if_neg hz, if_neg hz, if_pos]
      have : ∀ a, a < 43 → mad a ≤ 25 := by decide
      exact this i hi
  · rw [if_neg e, if_neg e]
    by_cases e1 : h0.2.1 < q ∧ q ≤ h0.2.1 + 25
    · rw [if_pos e1, if_pos e1]
      congr 2
      unfold marr
      apply List.ext_getElem?
      intro i
      by_cases hi : i < mlen (mak (q - h0.2.1))
      · rw [List.getElem?_replicate, if_pos hi, List.getElem?_map, List.getElem?_range hi]
        rfl
      · rw [List.getElem?_eq_none (by simp; omega), List.getElem?_eq_none (by simp; omega)]
    · rw [if_neg e1, if_neg e1]
theorem ac_int : Jvm.Cond.arrayClass (newarray.typeOf .int) ∈ gtbl := gt_tab 66 acl_i rfl
theorem ac_bool : Jvm.Cond.arrayClass (newarray.typeOf .boolean) ∈ gtbl := gt_tab 928 acl_z rfl
theorem ac_long : Jvm.Cond.arrayClass (newarray.typeOf .long) ∈ gtbl := gt_tab 146 acl_j rfl
section M21
variable {E : PE} {d : Nat}
theorem mk_arr {mi pc j k : Nat} {L : PL} {h0 : PH} {at0 : ArrayType} {i : Int32} {jf a : Nat} (hj : j < 25) (hk : mak (j + 1) = k) (hm : mad k = j + 1) (h43 : k < 43)
    (h1 : pin mi pc = some (.newarray at0, 2)) (hp : pat[a]? = some (newarray.typeOf at0)) (ha : a < 7) (hw : Jvm.Cond.arrayClass (newarray.typeOf at0) ∈ gtbl) (he : i = nI (mlen k)) (h8 : componentBytes (newarray.typeOf at0) ≤ 8) (hd : defaultValue (newarray.typeOf at0) = .int 0) (htg : 100 + a = mtg k)
    (h2 : pin mi (pc + 2) = some (.putfield jf, 3)) (hl : pfl (mno mi) jf = some (10, k)) (hn : narrow (pty 10 k) (.ref (h0.2.1 + 1 + j)) = .ref (h0.2.1 + 1 + j)) (hf : fits (pty 10 k) (.ref (h0.2.1 + 1 + j)) = true) (hok : pfok mi 10 k = true) :
    Ex E d (mi, pc, L, [.int i, .ref h0.2.1]) (mhp h0 j) (mi, pc + 2 + 3, L, []) (mhp h0 (j + 1)) := by
  have x1 := x_newa (E := E) (d := d) (L := L) (st := [.ref h0.2.1]) (h := mhp h0 j) h1 rfl hp ha hw he (Nat.le_trans (mlen_lt k) (by decide)) h8
  refine Ex.tr x1 ?_
  rw [hd, htg, ← mhp_1 h0 hj hk hm h43]
  refine x_putf h2 hl ?_ hn hf hok
  show (if h0.2.1 = h0.2.1 + 1 + j then _ else (mhp h0 j).1 h0.2.1) = _
  rw [if_neg (by omega)]
  exact mhp_o
theorem c_init0 {h0 : PH} : Rn E d 0 [.ref h0.2.1] (pnew h0 (10, pdef 10)) none (mh (h0.1, h0.2.1 + 26, h0.2.2 + 43 + msum 25) h0.2.1 (fun _ => 0, fun _ _ => 0)) := by
  rw [mhp_0, ← mhp_25]
  refine Rn.of (Nat.le_of_ble_eq_true rfl) ?_
  refine Rk.tr (F1 := (0, 1, _, _)) (x_aload_n rfl rfl rfl) ?_
  refine Rk.tr (F1 := (0, 4, _, _)) (x_obj rfl rfl rfl (by decide)) ?_
  refine Rk.tr (F1 := (0, 5, _, _)) (x_aload_n rfl rfl rfl) ?_
  refine Rk.tr (F1 := (0, 7, _, _)) (x_bipush rfl) ?_
  refine Rk.tr (F1 := (0, 12, _, _)) (mk_arr (j := 0) (k := 2) (a := 0) (by decide) rfl rfl (by decide) rfl rfl (by decide) ac_int rfl (by decide) rfl rfl rfl rfl rfl rfl rfl) ?_
  refine Rk.tr (F1 := (0, 13, _, _)) (x_aload_n rfl rfl rfl) ?_
  refine Rk.tr (F1 := (0, 16, _, _)) (x_sipush rfl) ?_
  refine Rk.tr (F1 := (0, 21, _, _)) (mk_arr (j := 1) (k := 5) (a := 0) (by decide) rfl rfl (by decide) rfl rfl (by decide) ac_int rfl (by decide) rfl rfl rfl rfl rfl rfl rfl) ?_
  refine Rk.tr (F1 := (0, 22, _, _)) (x_aload_n rfl rfl rfl) ?_
  refine Rk.tr (F1 := (0, 25, _, _)) (x_sipush rfl) ?_
  refine Rk.tr (F1 := (0, 30, _, _)) (mk_arr (j := 2) (k := 6) (a := 0) (by decide) rfl rfl (by decide) rfl rfl (by decide) ac_int rfl (by decide) rfl rfl rfl rfl rfl rfl rfl) ?_
  refine Rk.tr (F1 := (0, 31, _, _)) (x_aload_n rfl rfl rfl) ?_
  refine Rk.tr (F1 := (0, 32, _, _)) (x_iconst rfl) ?_
  refine Rk.tr (F1 := (0, 37, _, _)) (mk_arr (j := 3) (k := 7) (a := 0) (by decide) rfl rfl (by decide) rfl rfl (by decide) ac_int rfl (by decide) rfl rfl rfl rfl rfl rfl rfl) ?_
  refine Rk.tr (F1 := (0, 38, _, _)) (x_aload_n rfl rfl rfl) ?_
  refine Rk.tr (F1 := (0, 40, _, _)) (x_bipush rfl) ?_
  refine Rk.tr (F1 := (0, 45, _, _)) (mk_arr (j := 4) (k := 11) (a := 0) (by decide) rfl rfl (by decide) rfl rfl (by decide) ac_int rfl (by decide) rfl rfl rfl rfl rfl rfl rfl) ?_
  refine Rk.tr (F1 := (0, 46, _, _)) (x_aload_n rfl rfl rfl) ?_
  refine Rk.tr (F1 := (0, 48, _, _)) (x_bipush rfl) ?_
  refine Rk.tr (F1 := (0, 53, _, _)) (mk_arr (j := 5) (k := 12) (a := 0) (by decide) rfl rfl (by decide) rfl rfl (by decide) ac_int rfl (by decide) rfl rfl rfl rfl rfl rfl rfl) ?_
  refine Rk.tr (F1 := (0, 54, _, _)) (x_aload_n rfl rfl rfl) ?_
  refine Rk.tr (F1 := (0, 56, _, _)) (x_bipush rfl) ?_
  refine Rk.tr (F1 := (0, 61, _, _)) (mk_arr (j := 6) (k := 13) (a := 0) (by decide) rfl rfl (by decide) rfl rfl (by decide) ac_int rfl (by decide) rfl rfl rfl rfl rfl rfl rfl) ?_
  refine Rk.tr (F1 := (0, 62, _, _)) (x_aload_n rfl rfl rfl) ?_
  refine Rk.tr (F1 := (0, 64, _, _)) (x_bipush rfl) ?_
  refine Rk.tr (F1 := (0, 69, _, _)) (mk_arr (j := 7) (k := 14) (a := 0) (by decide) rfl rfl (by decide) rfl rfl (by decide) ac_int rfl (by decide) rfl rfl rfl rfl rfl rfl rfl) ?_
  refine Rk.tr (F1 := (0, 70, _, _)) (x_aload_n rfl rfl rfl) ?_
  refine Rk.tr (F1 := (0, 72, _, _)) (x_bipush rfl) ?_
  refine Rk.tr (F1 := (0, 77, _, _)) (mk_arr (j := 8) (k := 15) (a := 0) (by decide) rfl rfl (by decide) rfl rfl (by decide) ac_int rfl (by decide) rfl rfl rfl rfl rfl rfl rfl) ?_
  refine Rk.tr (F1 := (0, 78, _, _)) (x_aload_n rfl rfl rfl) ?_
  refine Rk.tr (F1 := (0, 80, _, _)) (x_bipush rfl) ?_
  refine Rk.tr (F1 := (0, 85, _, _)) (mk_arr (j := 9) (k := 16) (a := 0) (by decide) rfl rfl (by decide) rfl rfl (by decide) ac_int rfl (by decide) rfl rfl rfl rfl rfl rfl rfl) ?_
  refine Rk.tr (F1 := (0, 86, _, _)) (x_aload_n rfl rfl rfl) ?_
  refine Rk.tr (F1 := (0, 88, _, _)) (x_bipush rfl) ?_
  refine Rk.tr (F1 := (0, 93, _, _)) (mk_arr (j := 10) (k := 19) (a := 0) (by decide) rfl rfl (by decide) rfl rfl (by decide) ac_int rfl (by decide) rfl rfl rfl rfl rfl rfl rfl) ?_
  refine Rk.tr (F1 := (0, 94, _, _)) (x_aload_n rfl rfl rfl) ?_
  refine Rk.tr (F1 := (0, 96, _, _)) (x_bipush rfl) ?_
  refine Rk.tr (F1 := (0, 101, _, _)) (mk_arr (j := 11) (k := 20) (a := 0) (by decide) rfl rfl (by decide) rfl rfl (by decide) ac_int rfl (by decide) rfl rfl rfl rfl rfl rfl rfl) ?_
  refine Rk.tr (F1 := (0, 102, _, _)) (x_aload_n rfl rfl rfl) ?_
  refine Rk.tr (F1 := (0, 105, _, _)) (x_sipush rfl) ?_
  refine Rk.tr (F1 := (0, 110, _, _)) (mk_arr (j := 12) (k := 25) (a := 0) (by decide) rfl rfl (by decide) rfl rfl (by decide) ac_int rfl (by decide) rfl rfl rfl rfl rfl rfl rfl) ?_
  refine Rk.tr (F1 := (0, 111, _, _)) (x_aload_n rfl rfl rfl) ?_
  refine Rk.tr (F1 := (0, 114, _, _)) (x_sipush rfl) ?_
  refine Rk.tr (F1 := (0, 119, _, _)) (mk_arr (j := 13) (k := 27) (a := 0) (by decide) rfl rfl (by decide) rfl rfl (by decide) ac_int rfl (by decide) rfl rfl rfl rfl rfl rfl rfl) ?_
  refine Rk.tr (F1 := (0, 120, _, _)) (x_aload_n rfl rfl rfl) ?_
  refine Rk.tr (F1 := (0, 123, _, _)) (x_sipush rfl) ?_
  refine Rk.tr (F1 := (0, 128, _, _)) (mk_arr (j := 14) (k := 28) (a := 2) (by decide) rfl rfl (by decide) rfl rfl (by decide) ac_bool rfl (by decide) rfl rfl rfl rfl rfl rfl rfl) ?_
  refine Rk.tr (F1 := (0, 129, _, _)) (x_aload_n rfl rfl rfl) ?_
  refine Rk.tr (F1 := (0, 132, _, _)) (x_sipush rfl) ?_
  refine Rk.tr (F1 := (0, 137, _, _)) (mk_arr (j := 15) (k := 29) (a := 0) (by decide) rfl rfl (by decide) rfl rfl (by decide) ac_int rfl (by decide) rfl rfl rfl rfl rfl rfl rfl) ?_
  refine Rk.tr (F1 := (0, 138, _, _)) (x_aload_n rfl rfl rfl) ?_
  refine Rk.tr (F1 := (0, 141, _, _)) (x_sipush rfl) ?_
  refine Rk.tr (F1 := (0, 146, _, _)) (mk_arr (j := 16) (k := 30) (a := 0) (by decide) rfl rfl (by decide) rfl rfl (by decide) ac_int rfl (by decide) rfl rfl rfl rfl rfl rfl rfl) ?_
  refine Rk.tr (F1 := (0, 147, _, _)) (x_aload_n rfl rfl rfl) ?_
  refine Rk.tr (F1 := (0, 150, _, _)) (x_sipush rfl) ?_
  refine Rk.tr (F1 := (0, 155, _, _)) (mk_arr (j := 17) (k := 32) (a := 0) (by decide) rfl rfl (by decide) rfl rfl (by decide) ac_int rfl (by decide) rfl rfl rfl rfl rfl rfl rfl) ?_
  refine Rk.tr (F1 := (0, 156, _, _)) (x_aload_n rfl rfl rfl) ?_
  refine Rk.tr (F1 := (0, 159, _, _)) (x_sipush rfl) ?_
  refine Rk.tr (F1 := (0, 164, _, _)) (mk_arr (j := 18) (k := 33) (a := 0) (by decide) rfl rfl (by decide) rfl rfl (by decide) ac_int rfl (by decide) rfl rfl rfl rfl rfl rfl rfl) ?_
  refine Rk.tr (F1 := (0, 165, _, _)) (x_aload_n rfl rfl rfl) ?_
  refine Rk.tr (F1 := (0, 168, _, _)) (x_sipush rfl) ?_
  refine Rk.tr (F1 := (0, 173, _, _)) (mk_arr (j := 19) (k := 34) (a := 0) (by decide) rfl rfl (by decide) rfl rfl (by decide) ac_int rfl (by decide) rfl rfl rfl rfl rfl rfl rfl) ?_
  refine Rk.tr (F1 := (0, 174, _, _)) (x_aload_n rfl rfl rfl) ?_
  refine Rk.tr (F1 := (0, 176, _, _)) (x_bipush rfl) ?_
  refine Rk.tr (F1 := (0, 181, _, _)) (mk_arr (j := 20) (k := 36) (a := 0) (by decide) rfl rfl (by decide) rfl rfl (by decide) ac_int rfl (by decide) rfl rfl rfl rfl rfl rfl rfl) ?_
  refine Rk.tr (F1 := (0, 182, _, _)) (x_aload_n rfl rfl rfl) ?_
  refine Rk.tr (F1 := (0, 184, _, _)) (x_bipush rfl) ?_
  refine Rk.tr (F1 := (0, 189, _, _)) (mk_arr (j := 21) (k := 37) (a := 0) (by decide) rfl rfl (by decide) rfl rfl (by decide) ac_int rfl (by decide) rfl rfl rfl rfl rfl rfl rfl) ?_
  refine Rk.tr (F1 := (0, 190, _, _)) (x_aload_n rfl rfl rfl) ?_
  refine Rk.tr (F1 := (0, 192, _, _)) (x_bipush rfl) ?_
  refine Rk.tr (F1 := (0, 197, _, _)) (mk_arr (j := 22) (k := 38) (a := 0) (by decide) rfl rfl (by decide) rfl rfl (by decide) ac_int rfl (by decide) rfl rfl rfl rfl rfl rfl rfl) ?_
  refine Rk.tr (F1 := (0, 198, _, _)) (x_aload_n rfl rfl rfl) ?_
  refine Rk.tr (F1 := (0, 200, _, _)) (x_bipush rfl) ?_
  refine Rk.tr (F1 := (0, 205, _, _)) (mk_arr (j := 23) (k := 39) (a := 0) (by decide) rfl rfl (by decide) rfl rfl (by decide) ac_int rfl (by decide) rfl rfl rfl rfl rfl rfl rfl) ?_
  refine Rk.tr (F1 := (0, 206, _, _)) (x_aload_n rfl rfl rfl) ?_
  refine Rk.tr (F1 := (0, 207, _, _)) (x_iconst rfl) ?_
  refine Rk.tr (F1 := (0, 212, _, _)) (mk_arr (j := 24) (k := 42) (a := 0) (by decide) rfl rfl (by decide) rfl rfl (by decide) ac_int rfl (by decide) rfl rfl rfl rfl rfl rfl rfl) ?_
  exact Rk.end rfl (Or.inl ⟨rfl, rfl, rfl, rfl⟩)
end M21
